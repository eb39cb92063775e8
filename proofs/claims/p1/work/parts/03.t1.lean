theorem dX5_bit_0 : decode cX5_bit 0 = .ok (.iload_n 0, 1) := by decide +kernel
theorem dX5_bit_1 : decode cX5_bit 1 = .ok (.iconst 1, 1) := by decide +kernel
theorem dX5_bit_2 : decode cX5_bit 2 = .ok (.if_icmp .lt 15, 3) := by decide +kernel
theorem dX5_bit_17 : decode cX5_bit 17 = .ok (.iconst 0, 1) := by decide +kernel
theorem dX5_bit_18 : decode cX5_bit 18 = .ok (.ireturn, 1) := by decide +kernel
theorem dX5_bit_5 : decode cX5_bit 5 = .ok (.iload_n 0, 1) := by decide +kernel
theorem dX5_bit_6 : decode cX5_bit 6 = .ok (.bipush 24, 2) := by decide +kernel
theorem dX5_bit_8 : decode cX5_bit 8 = .ok (.if_icmp .gt 9, 3) := by decide +kernel
theorem dX5_bit_11 : decode cX5_bit 11 = .ok (.iconst 1, 1) := by decide +kernel
theorem dX5_bit_12 : decode cX5_bit 12 = .ok (.iload_n 0, 1) := by decide +kernel
theorem dX5_bit_13 : decode cX5_bit 13 = .ok (.ishl, 1) := by decide +kernel
theorem dX5_bit_14 : decode cX5_bit 14 = .ok (.goto 4, 3) := by decide +kernel
def f_X5_bit (a_n : Int32) : Int32 := if a_n < (1 : Int32) then (0 : Int32) else if (24 : Int32) < a_n then (0 : Int32) else ((1 : Int32) <<< (a_n &&& 31))
set_option maxHeartbeats 4000000 in
set_option maxRecDepth 100000 in
theorem c_X5_bit (l : Launch) (dC : Nat → ClassId) (dI : Nat → Nat → Nat) (cI cJ : ClassId) (sz : Nat) (a_n : Int32) : Met l yX5_bit wsX5_bit ({ frames := 0, cells := 0, slots := 0, locals := 0 } : Room) (va_Pc [.int a_n] (PreW dC dI cI cJ sz [])) (va_Qi (fun (r : Int32) (_ : Unit) => r = f_X5_bit a_n) (fun (_ : Unit) _ => True) (fun q => sz ≤ q)) 0 0 (fun q => sz ≤ q) := by
  refine Met.ofW (cc := cX5_bit) (maxL := 1) (ret := (some .int)) (by decide) rfl ?_
  intro p e s m args below meth c s₁ B hml hv
  obtain ⟨rfl, hsz, hP, hK, hN, hD0⟩ := hv
  have hx := B.exec
  have hb := B.bytes
  have hr := B.returns
  have hts := atoms_spec (ws := wsX5_bit) B.pre
  have hown : s.vm.findClass RX5 = some m.cls := findClass_of_methodNamed B.named
  have hlocks := B.notSynchronized
  subst hsz
  have hD := hD0
  generalize hAe : (fun q => s.heap.size ≤ q) = A
  have hA : ∀ q : Nat, s.heap.size ≤ q → A q := fun q h => by rw [← hAe]; exact h
  have hS : va_S A s.heap s.heap [] := va_S.rf
  have hP : va_P (dC, dI) vwCl [] s.heap := hP
  have hl := lv_entry ([.int a_n]) (n := 1) (Nat.le_of_ble_eq_true rfl)
  rw [lg_entry_eq]
  generalize (lg_sl ([.int a_n]) ++ List.replicate (1 - (lg_sl ([.int a_n])).length) Slot.unset).toArray = ls at hl ⊢
  have hl : lv_has ls 1 [(0, .int a_n)] := hl
  refine lv_iload_n hx hb dX5_bit_0 rfl (lv_at hl 0 rfl) ?_
  refine lv_iconst (v := (1 : Int32)) hx hb dX5_bit_1 (by decide) ?_
  refine lv_icmp_lt (tgt := 17) hx hb dX5_bit_2 (by decide) (fun c_1 => ?_) (fun c_1 => ?_)
  · have tc_1 : a_n.toInt < 1 := q_lt c_1
    refine lv_iconst (v := (0 : Int32)) hx hb dX5_bit_17 (by decide) ?_
    have hE : f_X5_bit a_n = (0 : Int32) := (by rw [f_X5_bit, if_pos c_1])
    exact W.iret (v := (0 : Int32)) hx hb hr (fun t ht hW => ⟨⟨(0 : Int32), (), rfl, by rw [hE], trivial⟩, hS.F ht⟩) hS.2.2 dX5_bit_18
  · have tc_1 : 1 ≤ a_n.toInt := q_nlt c_1
    refine lv_iload_n hx hb dX5_bit_5 rfl (lv_at hl 0 rfl) ?_
    refine lv_bipush (v := (24 : Int32)) hx hb dX5_bit_6 (by decide) ?_
    refine lv_icmp_gt (tgt := 17) hx hb dX5_bit_8 (by decide) (fun c_2 => ?_) (fun c_2 => ?_)
    · have tc_2 : 24 < a_n.toInt := q_lt c_2
      refine lv_iconst (v := (0 : Int32)) hx hb dX5_bit_17 (by decide) ?_
      have hE : f_X5_bit a_n = (0 : Int32) := (by rw [f_X5_bit, if_neg c_1, if_pos c_2])
      exact W.iret (v := (0 : Int32)) hx hb hr (fun t ht hW => ⟨⟨(0 : Int32), (), rfl, by rw [hE], trivial⟩, hS.F ht⟩) hS.2.2 dX5_bit_18
    · have tc_2 : a_n.toInt ≤ 24 := q_nlt c_2
      refine lv_iconst (v := (1 : Int32)) hx hb dX5_bit_11 (by decide) ?_
      refine lv_iload_n hx hb dX5_bit_12 rfl (lv_at hl 0 rfl) ?_
      refine lv_ishl hx hb dX5_bit_13 ?_
      refine lv_goto (tgt := 18) hx hb dX5_bit_14 (by decide) ?_
      have hE : f_X5_bit a_n = ((1 : Int32) <<< (a_n &&& 31)) := (by rw [f_X5_bit, if_neg c_1, if_neg c_2])
      exact W.iret (v := ((1 : Int32) <<< (a_n &&& 31))) hx hb hr (fun t ht hW => ⟨⟨((1 : Int32) <<< (a_n &&& 31)), (), rfl, by rw [hE], trivial⟩, hS.F ht⟩) hS.2.2 dX5_bit_18
theorem dX5_latest_0 : decode cX5_latest 0 = .ok (.bipush 24, 2) := by decide +kernel
theorem dX5_latest_2 : decode cX5_latest 2 = .ok (.istore_n 1, 1) := by decide +kernel
theorem dX5_latest_3 : decode cX5_latest 3 = .ok (.iload_n 1, 1) := by decide +kernel
theorem dX5_latest_4 : decode cX5_latest 4 = .ok (.iconst 1, 1) := by decide +kernel
theorem dX5_latest_5 : decode cX5_latest 5 = .ok (.if_icmp .lt 20, 3) := by decide +kernel
theorem dX5_latest_25 : decode cX5_latest 25 = .ok (.iconst 0, 1) := by decide +kernel
theorem dX5_latest_26 : decode cX5_latest 26 = .ok (.ireturn, 1) := by decide +kernel
theorem dX5_latest_8 : decode cX5_latest 8 = .ok (.iload_n 0, 1) := by decide +kernel
theorem dX5_latest_9 : decode cX5_latest 9 = .ok (.iload_n 1, 1) := by decide +kernel
theorem dX5_latest_10 : decode cX5_latest 10 = .ok (.invokestatic 154, 3) := by decide +kernel
set_option maxRecDepth 20000 in
theorem ggX5_latest_X5_bit : GoodIn wsX5_latest wsX5_bit := goodIn_r _ [4] (by decide +kernel) (by decide +kernel)
set_option maxRecDepth 20000 in
theorem gX5_latest_X5_bit : GoodIn wsX5_latest (va_wsS RX5 154 yX5_bit wsX5_bit) := goodIn_app (goodIn_of _ (by decide +kernel)) ggX5_latest_X5_bit
theorem dX5_latest_13 : decode cX5_latest 13 = .ok (.iand, 1) := by decide +kernel
theorem dX5_latest_14 : decode cX5_latest 14 = .ok (.ifCond .eq 5, 3) := by decide +kernel
theorem dX5_latest_19 : decode cX5_latest 19 = .ok (.iinc 1 (-1), 3) := by decide +kernel
theorem dX5_latest_22 : decode cX5_latest 22 = .ok (.goto (-19), 3) := by decide +kernel
theorem dX5_latest_17 : decode cX5_latest 17 = .ok (.iload_n 1, 1) := by decide +kernel
theorem dX5_latest_18 : decode cX5_latest 18 = .ok (.ireturn, 1) := by decide +kernel
def f_X5_latest_L3 (a_c : Int32) : Nat → Int32 → Int32
  | 0, _ => 0
  | n_1 + 1, v1_1 => if v1_1 < (1 : Int32) then (0 : Int32) else if (a_c &&& (f_X5_bit v1_1)) = (0 : Int32) then f_X5_latest_L3 a_c n_1 (v1_1 + (-1 : Int32)) else v1_1
def f_X5_latest (a_c : Int32) : Int32 := f_X5_latest_L3 a_c 25 (24 : Int32)
set_option maxHeartbeats 4000000 in
set_option maxRecDepth 100000 in
theorem c_X5_latest (l : Launch) (dC : Nat → ClassId) (dI : Nat → Nat → Nat) (cI cJ : ClassId) (sz : Nat) (a_c : Int32) : Met l yX5_latest wsX5_latest ({ frames := 1, cells := 0, slots := 0, locals := 20 } : Room) (va_Pc [.int a_c] (PreW dC dI cI cJ sz [])) (va_Qi (fun (r : Int32) (_ : Unit) => r = f_X5_latest a_c) (fun (_ : Unit) _ => True) (fun q => sz ≤ q)) 0 0 (fun q => sz ≤ q) := by
  refine Met.ofW (cc := cX5_latest) (maxL := 2) (ret := (some .int)) (by decide) rfl ?_
  intro p e s m args below meth c s₁ B hml hv
  obtain ⟨rfl, hsz, hP, hK, hN, hD0⟩ := hv
  have hx := B.exec
  have hb := B.bytes
  have hr := B.returns
  have hts := atoms_spec (ws := wsX5_latest) B.pre
  have hown : s.vm.findClass RX5 = some m.cls := findClass_of_methodNamed B.named
  have hlocks := B.notSynchronized
  subst hsz
  have hD := hD0
  generalize hAe : (fun q => s.heap.size ≤ q) = A
  have hA : ∀ q : Nat, s.heap.size ≤ q → A q := fun q h => by rw [← hAe]; exact h
  have hS : va_S A s.heap s.heap [] := va_S.rf
  have hP : va_P (dC, dI) vwCl [] s.heap := hP
  have hl := lv_entry ([.int a_c]) (n := 2) (Nat.le_of_ble_eq_true rfl)
  rw [lg_entry_eq]
  generalize (lg_sl ([.int a_c]) ++ List.replicate (2 - (lg_sl ([.int a_c])).length) Slot.unset).toArray = ls at hl ⊢
  have hl : lv_has ls 2 [(0, .int a_c)] := hl
  refine W_nm (fun QQ hQQ => ?_)
  refine lv_bipush (v := (24 : Int32)) hx hb dX5_latest_0 (by decide) ?_
  refine lv_istore_n (lv' := [(1, .int (24 : Int32)), (0, .int a_c)]) hx hb dX5_latest_2 rfl hl (by decide) rfl (fun ls hl => ?_)
  have hloop_1 : ∀ (n_1 : Nat) (v1_1 : Int32) , (0 ≤ v1_1.toInt) → (v1_1.toInt ≤ 24) → (v1_1.toInt).toNat < n_1 → f_X5_latest a_c = f_X5_latest_L3 a_c n_1 v1_1 → ∀ (H : Heap) (locs : List Loc), va_P (dC, dI) vwCl [] H → va_D (fun _ => True) [] → va_S A s.heap H locs → ∀ ls : Array Slot, lv_has ls 2 [(0, .int a_c), (1, .int v1_1)] → W p l e (headSpec wsX5_latest ({ frames := 1, cells := 0, slots := 0, locals := 20 } : Room)).room s m ([.int a_c] : List Value).toArray below meth c H locs 0 0 QQ (F0 m 3 ls []) := by
    intro n_1
    induction n_1 with
    | zero => intro v1_1 hi0_1 hi1_1 hmu; exact absurd hmu (Nat.not_lt_zero _)
    | succ n_1 ih_1 =>
      intro v1_1 hi0_1 hi1_1 hmu_1 hI_1 H locs hP hD hS ls hl
      refine lv_iload_n hx hb dX5_latest_3 rfl (lv_at hl 1 rfl) ?_
      refine lv_iconst (v := (1 : Int32)) hx hb dX5_latest_4 (by decide) ?_
      refine lv_icmp_lt (tgt := 25) hx hb dX5_latest_5 (by decide) (fun c_2 => ?_) (fun c_2 => ?_)
      · have tc_2 : v1_1.toInt < 1 := q_lt c_2
        refine lv_iconst (v := (0 : Int32)) hx hb dX5_latest_25 (by decide) ?_
        rw [hQQ]
        have hE : f_X5_latest a_c = (0 : Int32) := (hI_1.trans (by rw [f_X5_latest_L3, if_pos c_2]))
        exact W.iret (v := (0 : Int32)) hx hb hr (fun t ht hW => ⟨⟨(0 : Int32), (), rfl, by rw [hE], trivial⟩, hS.F ht⟩) hS.2.2 dX5_latest_26
      · have tc_2 : 1 ≤ v1_1.toInt := q_nlt c_2
        refine lv_iload_n hx hb dX5_latest_8 rfl (lv_at hl 0 rfl) ?_
        refine lv_iload_n hx hb dX5_latest_9 rfl (lv_at hl 1 rfl) ?_
        have hPc := hP.sub (ws' := []) [] rfl
        have hDc := hD.sub (ws' := []) [] (by decide) rfl
        refine va_calli (va_runS (As := [.int v1_1]) (rest := [.int a_c]) ⟨hx, hb, hml, hown, hts⟩ (c_X5_bit l dC dI cI cJ H.size v1_1) (va_cwS 1 hts gX5_latest_X5_bit rfl rfl rfl (by decide +kernel) ⟨Nat.le_of_ble_eq_true rfl, Nat.le_of_ble_eq_true rfl⟩) ⟨fun a U g mk q => ⟨q.1, PreW.call g mk a q.2⟩, fun U hU hW => ⟨rfl, PreW.mk2 hU hW hPc hK hN (hDc.weaken (fun _ _ _ _ => trivial))⟩⟩ rfl rfl hl.1 rfl (lv_room (Nat.le_of_ble_eq_true rfl)) dX5_latest_10 ⟨Nat.le_of_ble_eq_true rfl, Nat.le_of_ble_eq_true rfl⟩) hS (fun q hq h => absurd hq (Nat.not_lt.mpr h)) (fun q h => hA q (Nat.le_trans hS.1 h)) (fun r_3 _u t H1 locs ht hvm hw hB hz1 hk1 hS => ?_)
        have hP := va_ro hP hk1
        generalize H1 = H at hP hS ⊢
        have hw : r_3 = f_X5_bit v1_1 := hw
        subst hw
        refine lv_iand hx hb dX5_latest_13 ?_
        refine lv_if_eq (tgt := 19) hx hb dX5_latest_14 (by decide) (fun c_4 => ?_) (fun c_4 => ?_)
        · have tc_4 : (a_c &&& (f_X5_bit v1_1)).toInt = 0 := q_eq c_4
          refine lv_iinc (v := (v1_1 + (-1 : Int32))) (lv' := [(1, .int (v1_1 + (-1 : Int32))), (0, .int a_c)]) hx hb dX5_latest_19 hl (k := 1) rfl rfl (by decide) rfl (fun ls hl => ?_)
          have g_5 : (v1_1 + (-1 : Int32)).toInt = v1_1.toInt + (-1) := ti_add rfl (by omega) (by omega)
          refine lv_goto (tgt := 3) hx hb dX5_latest_22 (by decide) ?_
          exact ih_1 (v1_1 + (-1 : Int32)) (by first | omega | exact (show 0 ≤ (v1_1 + (-1 : Int32)).toInt by omega) | assumption | trivial) (by first | omega | exact (show (v1_1 + (-1 : Int32)).toInt ≤ 24 by omega) | assumption | trivial) (by first | omega | exact (show ((v1_1 + (-1 : Int32)).toInt).toNat < n_1 by omega)) (hI_1.trans (by rw [f_X5_latest_L3, if_neg c_2, if_pos c_4])) _ _ hP hD hS ls (lv_sub hl [1, 0] rfl)
        · have tc_4 : ¬ (a_c &&& (f_X5_bit v1_1)).toInt = 0 := q_ne c_4
          refine lv_iload_n hx hb dX5_latest_17 rfl (lv_at hl 1 rfl) ?_
          rw [hQQ]
          have hE : f_X5_latest a_c = v1_1 := (hI_1.trans (by rw [f_X5_latest_L3, if_neg c_2, if_neg c_4]))
          exact W.iret (v := v1_1) hx hb hr (fun t ht hW => ⟨⟨v1_1, (), rfl, by rw [hE], trivial⟩, hS.F ht⟩) hS.2.2 dX5_latest_18
  exact hloop_1 25 (24 : Int32) (by first | omega | exact (show 0 ≤ 24 by omega) | assumption | trivial) (by first | omega | exact (show 24 ≤ 24 by omega) | assumption | trivial) (by first | omega | exact (show (24).toNat < 25 by omega)) (by rw [f_X5_latest]) _ _ hP hD hS ls (lv_sub hl [1, 0] rfl)
theorem dX2_has_0 : decode cX2_has 0 = .ok (.iload_n 1, 1) := by decide +kernel
theorem dX2_has_1 : decode cX2_has 1 = .ok (.ifCond .lt 22, 3) := by decide +kernel
theorem dX2_has_23 : decode cX2_has 23 = .ok (.iconst 0, 1) := by decide +kernel
theorem dX2_has_24 : decode cX2_has 24 = .ok (.ireturn, 1) := by decide +kernel
theorem dX2_has_4 : decode cX2_has 4 = .ok (.iload_n 1, 1) := by decide +kernel
theorem dX2_has_5 : decode cX2_has 5 = .ok (.aload_n 0, 1) := by decide +kernel
theorem dX2_has_6 : decode cX2_has 6 = .ok (.getfield 27, 3) := by decide +kernel
theorem in_X2_has_X2 : ∀ w ∈ wsX20, w ∈ wsX2_has := by decide +kernel
theorem m_X2_has_1 : (.fieldLink RX2 27 "RedlineDesk$Row" "size" "I" : Cond) ∈ wsX2_has := List.mem_of_getElem? (i := 1) (by decide +kernel)
theorem dX2_has_9 : decode cX2_has 9 = .ok (.if_icmp .ge 14, 3) := by decide +kernel
theorem dX2_has_12 : decode cX2_has 12 = .ok (.iload_n 1, 1) := by decide +kernel
theorem dX2_has_13 : decode cX2_has 13 = .ok (.sipush 240, 3) := by decide +kernel
theorem dX2_has_16 : decode cX2_has 16 = .ok (.if_icmp .ge 7, 3) := by decide +kernel
theorem dX2_has_19 : decode cX2_has 19 = .ok (.iconst 1, 1) := by decide +kernel
theorem dX2_has_20 : decode cX2_has 20 = .ok (.goto 4, 3) := by decide +kernel
def f_X2_has (zr_size : Int32) (a_s : Int32) : Int32 := if a_s < (0 : Int32) then (0 : Int32) else if zr_size ≤ a_s then (0 : Int32) else if (240 : Int32) ≤ a_s then (0 : Int32) else (1 : Int32)
set_option maxHeartbeats 4000000 in
set_option maxRecDepth 100000 in
theorem c_X2_has (l : Launch) (dC : Nat → ClassId) (dI : Nat → Nat → Nat) (cI cJ : ClassId) (sz : Nat) (zr azr_sign azr_token azr_in azr_own azr_since : Nat) (zr_sign zr_token zr_in zr_own zr_since : Nat → Int32) (zr_size : Int32) (a_s : Int32) : Met l yX2_has wsX2_has ({ frames := 0, cells := 0, slots := 0, locals := 0 } : Room) (va_Pc [.ref zr, .int a_s] (PreW dC dI cI cJ sz [(zr, .inr (2, [.ref azr_sign, .ref azr_token, .ref azr_in, .ref azr_own, .ref azr_since, .int zr_size])), (azr_sign, .inl (cI, 240, .inl zr_sign)), (azr_token, .inl (cI, 240, .inl zr_token)), (azr_in, .inl (cI, 240, .inl zr_in)), (azr_own, .inl (cI, 240, .inl zr_own)), (azr_since, .inl (cI, 240, .inl zr_since))])) (va_Qi (fun (r : Int32) (_ : Unit) => r = f_X2_has zr_size a_s) (fun (_ : Unit) _ => True) (fun q => sz ≤ q)) 0 0 (fun q => sz ≤ q) := by
  refine Met.ofW (cc := cX2_has) (maxL := 2) (ret := (some .boolean)) (by decide) rfl ?_
  intro p e s m args below meth c s₁ B hml hv
  obtain ⟨rfl, hsz, hP, hK, hN, hD0⟩ := hv
  have hx := B.exec
  have hb := B.bytes
  have hr := B.returns
  have hts := atoms_spec (ws := wsX2_has) B.pre
  have hown : s.vm.findClass RX2 = some m.cls := findClass_of_methodNamed B.named
  have hlocks := B.notSynchronized
  subst hsz
  have hD := hD0
  generalize hAe : (fun q => s.heap.size ≤ q) = A
  have hA : ∀ q : Nat, s.heap.size ≤ q → A q := fun q h => by rw [← hAe]; exact h
  have hS : va_S A s.heap s.heap [] := va_S.rf
  have hP : va_P (dC, dI) vwCl [(zr, .inr (2, [.ref azr_sign, .ref azr_token, .ref azr_in, .ref azr_own, .ref azr_since, .int zr_size])), (azr_sign, .inl (cI, 240, .inl zr_sign)), (azr_token, .inl (cI, 240, .inl zr_token)), (azr_in, .inl (cI, 240, .inl zr_in)), (azr_own, .inl (cI, 240, .inl zr_own)), (azr_since, .inl (cI, 240, .inl zr_since))] s.heap := hP
  have hl := lv_entry ([.ref zr, .int a_s]) (n := 2) (Nat.le_of_ble_eq_true rfl)
  rw [lg_entry_eq]
  generalize (lg_sl ([.ref zr, .int a_s]) ++ List.replicate (2 - (lg_sl ([.ref zr, .int a_s])).length) Slot.unset).toArray = ls at hl ⊢
  have hl : lv_has ls 2 [(0, .ref zr), (1, .int a_s)] := hl
  refine lv_iload_n hx hb dX2_has_0 rfl (lv_at hl 1 rfl) ?_
  refine lv_if_lt (tgt := 23) hx hb dX2_has_1 (by decide) (fun c_1 => ?_) (fun c_1 => ?_)
  · have tc_1 : a_s.toInt < 0 := q_lt c_1
    refine lv_iconst (v := (0 : Int32)) hx hb dX2_has_23 (by decide) ?_
    have hE : f_X2_has zr_size a_s = (0 : Int32) := (by rw [f_X2_has, if_pos c_1])
    exact W.zret (v := (0 : Int32)) hx hb hr (by decide) (fun t ht hW => ⟨⟨(0 : Int32), (), rfl, by rw [hE], trivial⟩, hS.F ht⟩) hS.2.2 dX2_has_24
  · have tc_1 : 0 ≤ a_s.toInt := q_nlt c_1
    refine lv_iload_n hx hb dX2_has_4 rfl (lv_at hl 1 rfl) ?_
    refine lv_aload_n hx hb dX2_has_5 rfl (lv_at hl 0 rfl) ?_
    refine va_get (D := (dC, dI)) (ci := 2) (v := .int zr_size) (C := RX2) (T := TX2) (N := 6) hx hb hts in_X2_has_X2 hown hK hP 0 rfl rfl 5 (by decide) (hts _ m_X2_has_1) (fun _ h9 => h9) rfl dX2_has_6 ?_
    refine lv_icmp_ge (tgt := 23) hx hb dX2_has_9 (by decide) (fun c_2 => ?_) (fun c_2 => ?_)
    · have tc_2 : zr_size.toInt ≤ a_s.toInt := q_le c_2
      refine lv_iconst (v := (0 : Int32)) hx hb dX2_has_23 (by decide) ?_
      have hE : f_X2_has zr_size a_s = (0 : Int32) := (by rw [f_X2_has, if_neg c_1, if_pos c_2])
      exact W.zret (v := (0 : Int32)) hx hb hr (by decide) (fun t ht hW => ⟨⟨(0 : Int32), (), rfl, by rw [hE], trivial⟩, hS.F ht⟩) hS.2.2 dX2_has_24
    · have tc_2 : a_s.toInt < zr_size.toInt := q_nle c_2
      refine lv_iload_n hx hb dX2_has_12 rfl (lv_at hl 1 rfl) ?_
      refine lv_sipush (v := (240 : Int32)) hx hb dX2_has_13 (by decide) ?_
      refine lv_icmp_ge (tgt := 23) hx hb dX2_has_16 (by decide) (fun c_3 => ?_) (fun c_3 => ?_)
      · have tc_3 : 240 ≤ a_s.toInt := q_le c_3
        refine lv_iconst (v := (0 : Int32)) hx hb dX2_has_23 (by decide) ?_
        have hE : f_X2_has zr_size a_s = (0 : Int32) := (by rw [f_X2_has, if_neg c_1, if_neg c_2, if_pos c_3])
        exact W.zret (v := (0 : Int32)) hx hb hr (by decide) (fun t ht hW => ⟨⟨(0 : Int32), (), rfl, by rw [hE], trivial⟩, hS.F ht⟩) hS.2.2 dX2_has_24
      · have tc_3 : a_s.toInt < 240 := q_nle c_3
        refine lv_iconst (v := (1 : Int32)) hx hb dX2_has_19 (by decide) ?_
        refine lv_goto (tgt := 24) hx hb dX2_has_20 (by decide) ?_
        have hE : f_X2_has zr_size a_s = (1 : Int32) := (by rw [f_X2_has, if_neg c_1, if_neg c_2, if_neg c_3])
        exact W.zret (v := (1 : Int32)) hx hb hr (by decide) (fun t ht hW => ⟨⟨(1 : Int32), (), rfl, by rw [hE], trivial⟩, hS.F ht⟩) hS.2.2 dX2_has_24
theorem dX2_room_0 : decode cX2_room 0 = .ok (.sipush 240, 3) := by decide +kernel
theorem dX2_room_3 : decode cX2_room 3 = .ok (.aload_n 0, 1) := by decide +kernel
theorem dX2_room_4 : decode cX2_room 4 = .ok (.getfield 27, 3) := by decide +kernel
theorem in_X2_room_X2 : ∀ w ∈ wsX20, w ∈ wsX2_room := by decide +kernel
theorem m_X2_room_1 : (.fieldLink RX2 27 "RedlineDesk$Row" "size" "I" : Cond) ∈ wsX2_room := List.mem_of_getElem? (i := 1) (by decide +kernel)
theorem dX2_room_7 : decode cX2_room 7 = .ok (.isub, 1) := by decide +kernel
theorem dX2_room_8 : decode cX2_room 8 = .ok (.ireturn, 1) := by decide +kernel
def f_X2_room (zr_size : Int32) : Int32 := ((240 : Int32) - zr_size)
set_option maxHeartbeats 4000000 in
set_option maxRecDepth 100000 in
theorem c_X2_room (l : Launch) (dC : Nat → ClassId) (dI : Nat → Nat → Nat) (cI cJ : ClassId) (sz : Nat) (zr azr_sign azr_token azr_in azr_own azr_since : Nat) (zr_sign zr_token zr_in zr_own zr_since : Nat → Int32) (zr_size : Int32) : Met l yX2_room wsX2_room ({ frames := 0, cells := 0, slots := 0, locals := 0 } : Room) (va_Pc [.ref zr] (PreW dC dI cI cJ sz [(zr, .inr (2, [.ref azr_sign, .ref azr_token, .ref azr_in, .ref azr_own, .ref azr_since, .int zr_size])), (azr_sign, .inl (cI, 240, .inl zr_sign)), (azr_token, .inl (cI, 240, .inl zr_token)), (azr_in, .inl (cI, 240, .inl zr_in)), (azr_own, .inl (cI, 240, .inl zr_own)), (azr_since, .inl (cI, 240, .inl zr_since))])) (va_Qi (fun (r : Int32) (_ : Unit) => r = f_X2_room zr_size) (fun (_ : Unit) _ => True) (fun q => sz ≤ q)) 0 0 (fun q => sz ≤ q) := by
  refine Met.ofW (cc := cX2_room) (maxL := 1) (ret := (some .int)) (by decide) rfl ?_
  intro p e s m args below meth c s₁ B hml hv
  obtain ⟨rfl, hsz, hP, hK, hN, hD0⟩ := hv
  have hx := B.exec
  have hb := B.bytes
  have hr := B.returns
  have hts := atoms_spec (ws := wsX2_room) B.pre
  have hown : s.vm.findClass RX2 = some m.cls := findClass_of_methodNamed B.named
  have hlocks := B.notSynchronized
  subst hsz
  have hD := hD0
  generalize hAe : (fun q => s.heap.size ≤ q) = A
  have hA : ∀ q : Nat, s.heap.size ≤ q → A q := fun q h => by rw [← hAe]; exact h
  have hS : va_S A s.heap s.heap [] := va_S.rf
  have hP : va_P (dC, dI) vwCl [(zr, .inr (2, [.ref azr_sign, .ref azr_token, .ref azr_in, .ref azr_own, .ref azr_since, .int zr_size])), (azr_sign, .inl (cI, 240, .inl zr_sign)), (azr_token, .inl (cI, 240, .inl zr_token)), (azr_in, .inl (cI, 240, .inl zr_in)), (azr_own, .inl (cI, 240, .inl zr_own)), (azr_since, .inl (cI, 240, .inl zr_since))] s.heap := hP
  have hl := lv_entry ([.ref zr]) (n := 1) (Nat.le_of_ble_eq_true rfl)
  rw [lg_entry_eq]
  generalize (lg_sl ([.ref zr]) ++ List.replicate (1 - (lg_sl ([.ref zr])).length) Slot.unset).toArray = ls at hl ⊢
  have hl : lv_has ls 1 [(0, .ref zr)] := hl
  refine lv_sipush (v := (240 : Int32)) hx hb dX2_room_0 (by decide) ?_
  refine lv_aload_n hx hb dX2_room_3 rfl (lv_at hl 0 rfl) ?_
  refine va_get (D := (dC, dI)) (ci := 2) (v := .int zr_size) (C := RX2) (T := TX2) (N := 6) hx hb hts in_X2_room_X2 hown hK hP 0 rfl rfl 5 (by decide) (hts _ m_X2_room_1) (fun _ h9 => h9) rfl dX2_room_4 ?_
  refine lv_isub hx hb dX2_room_7 ?_
  have hE : f_X2_room zr_size = ((240 : Int32) - zr_size) := (by rw [f_X2_room])
  exact W.iret (v := ((240 : Int32) - zr_size)) hx hb hr (fun t ht hW => ⟨⟨((240 : Int32) - zr_size), (), rfl, by rw [hE], trivial⟩, hS.F ht⟩) hS.2.2 dX2_room_8
theorem dX3_add_0 : decode cX3_add 0 = .ok (.aload_n 0, 1) := by decide +kernel
theorem dX3_add_1 : decode cX3_add 1 = .ok (.getfield 15, 3) := by decide +kernel
theorem in_X3_add_X3 : ∀ w ∈ wsX30, w ∈ wsX3_add := by decide +kernel
theorem m_X3_add_1 : (.fieldLink RX3 15 "RedlineDesk$Tape" "size" "I" : Cond) ∈ wsX3_add := List.mem_of_getElem? (i := 1) (by decide +kernel)
theorem dX3_add_4 : decode cX3_add 4 = .ok (.ifCond .lt 32, 3) := by decide +kernel
theorem dX3_add_36 : decode cX3_add 36 = .ok (.return_, 1) := by decide +kernel
theorem dX3_add_7 : decode cX3_add 7 = .ok (.aload_n 0, 1) := by decide +kernel
theorem dX3_add_8 : decode cX3_add 8 = .ok (.getfield 15, 3) := by decide +kernel
theorem dX3_add_11 : decode cX3_add 11 = .ok (.bipush 120, 2) := by decide +kernel
theorem dX3_add_13 : decode cX3_add 13 = .ok (.if_icmp .ge 23, 3) := by decide +kernel
theorem dX3_add_16 : decode cX3_add 16 = .ok (.aload_n 0, 1) := by decide +kernel
theorem dX3_add_17 : decode cX3_add 17 = .ok (.getfield 9, 3) := by decide +kernel
theorem m_X3_add_2 : (.fieldLink RX3 9 "RedlineDesk$Tape" "bytes" "[I" : Cond) ∈ wsX3_add := List.mem_of_getElem? (i := 2) (by decide +kernel)
theorem dX3_add_20 : decode cX3_add 20 = .ok (.aload_n 0, 1) := by decide +kernel
theorem dX3_add_21 : decode cX3_add 21 = .ok (.getfield 15, 3) := by decide +kernel
theorem dX3_add_24 : decode cX3_add 24 = .ok (.iload_n 1, 1) := by decide +kernel
theorem dX3_add_25 : decode cX3_add 25 = .ok (.iastore, 1) := by decide +kernel
theorem dX3_add_26 : decode cX3_add 26 = .ok (.aload_n 0, 1) := by decide +kernel
theorem dX3_add_27 : decode cX3_add 27 = .ok (.dup, 1) := by decide +kernel
theorem dX3_add_28 : decode cX3_add 28 = .ok (.getfield 15, 3) := by decide +kernel
theorem dX3_add_31 : decode cX3_add 31 = .ok (.iconst 1, 1) := by decide +kernel
theorem dX3_add_32 : decode cX3_add 32 = .ok (.iadd, 1) := by decide +kernel
theorem dX3_add_33 : decode cX3_add 33 = .ok (.putfield 15, 3) := by decide +kernel
def f_X3_add (zt_bytes : Nat → Int32) (zt_size : Int32) (a_b : Int32) : (Nat → Int32) × Int32 := if zt_size < (0 : Int32) then (zt_bytes, zt_size) else if (120 : Int32) ≤ zt_size then (zt_bytes, zt_size) else ((upd zt_bytes (zt_size).toNatClampNeg a_b), (zt_size + (1 : Int32)))
set_option maxHeartbeats 4000000 in
set_option maxRecDepth 100000 in
theorem c_X3_add (l : Launch) (dC : Nat → ClassId) (dI : Nat → Nat → Nat) (cI cJ : ClassId) (sz : Nat) (zt azt_bytes : Nat) (zt_bytes : Nat → Int32) (zt_size : Int32) (a_b : Int32) : Met l yX3_add wsX3_add ({ frames := 0, cells := 0, slots := 0, locals := 0 } : Room) (va_Pc [.ref zt, .int a_b] (PreW dC dI cI cJ sz [(zt, .inr (3, [.ref azt_bytes, .int zt_size])), (azt_bytes, .inl (cI, 120, .inl zt_bytes))])) (va_Qv (fun (u : (Nat → Int32) × Int32) => u = f_X3_add zt_bytes zt_size a_b) (fun (u : (Nat → Int32) × Int32) t => PostW dC dI [(zt, .inr (3, [.ref azt_bytes, .int u.2])), (azt_bytes, .inl (cI, 120, .inl u.1))] t (va_A [(zt, .inr (3, [.ref azt_bytes, .int zt_size])), (azt_bytes, .inl (cI, 120, .inl zt_bytes))] sz)) (va_A [(zt, .inr (3, [.ref azt_bytes, .int zt_size])), (azt_bytes, .inl (cI, 120, .inl zt_bytes))] sz)) 0 0 (va_A [(zt, .inr (3, [.ref azt_bytes, .int zt_size])), (azt_bytes, .inl (cI, 120, .inl zt_bytes))] sz) := by
  refine Met.ofW (cc := cX3_add) (maxL := 2) (ret := none) (by decide) rfl ?_
  intro p e s m args below meth c s₁ B hml hv
  obtain ⟨rfl, hsz, hP, hK, hN, hD0⟩ := hv
  have hx := B.exec
  have hb := B.bytes
  have hr := B.returns
  have hts := atoms_spec (ws := wsX3_add) B.pre
  have hown : s.vm.findClass RX3 = some m.cls := findClass_of_methodNamed B.named
  have hlocks := B.notSynchronized
  subst hsz
  have hD := hD0.self (sz := s.heap.size)
  generalize hAe : va_A [(zt, .inr (3, [.ref azt_bytes, .int zt_size])), (azt_bytes, .inl (cI, 120, .inl zt_bytes))] s.heap.size = A at hD ⊢
  have hA : ∀ q : Nat, s.heap.size ≤ q → A q := fun q h => by rw [← hAe]; exact Or.inr h
  have hS : va_S A s.heap s.heap [] := va_S.rf
  have hP : va_P (dC, dI) vwCl [(zt, .inr (3, [.ref azt_bytes, .int zt_size])), (azt_bytes, .inl (cI, 120, .inl zt_bytes))] s.heap := hP
  have hl := lv_entry ([.ref zt, .int a_b]) (n := 2) (Nat.le_of_ble_eq_true rfl)
  rw [lg_entry_eq]
  generalize (lg_sl ([.ref zt, .int a_b]) ++ List.replicate (2 - (lg_sl ([.ref zt, .int a_b])).length) Slot.unset).toArray = ls at hl ⊢
  have hl : lv_has ls 2 [(0, .ref zt), (1, .int a_b)] := hl
  refine lv_aload_n hx hb dX3_add_0 rfl (lv_at hl 0 rfl) ?_
  refine va_get (D := (dC, dI)) (ci := 3) (v := .int zt_size) (C := RX3) (T := TX3) (N := 2) hx hb hts in_X3_add_X3 hown hK hP 0 rfl rfl 1 (by decide) (hts _ m_X3_add_1) (fun _ h9 => h9) rfl dX3_add_1 ?_
  refine lv_if_lt (tgt := 36) hx hb dX3_add_4 (by decide) (fun c_1 => ?_) (fun c_1 => ?_)
  · have tc_1 : zt_size.toInt < 0 := q_lt c_1
    have hE : f_X3_add zt_bytes zt_size a_b = (zt_bytes, zt_size) := (by rw [f_X3_add, if_pos c_1])
    exact W.vret hx hb hr (fun t ht hW => ⟨⟨(zt_bytes, zt_size), rfl, by rw [hE], ⟨by rw [ht]; exact hP, hD⟩⟩, hS.F ht⟩) hS.2.2 dX3_add_36
  · have tc_1 : 0 ≤ zt_size.toInt := q_nlt c_1
    refine lv_aload_n hx hb dX3_add_7 rfl (lv_at hl 0 rfl) ?_
    refine va_get (D := (dC, dI)) (ci := 3) (v := .int zt_size) (C := RX3) (T := TX3) (N := 2) hx hb hts in_X3_add_X3 hown hK hP 0 rfl rfl 1 (by decide) (hts _ m_X3_add_1) (fun _ h9 => h9) rfl dX3_add_8 ?_
    refine lv_bipush (v := (120 : Int32)) hx hb dX3_add_11 (by decide) ?_
    refine lv_icmp_ge (tgt := 36) hx hb dX3_add_13 (by decide) (fun c_2 => ?_) (fun c_2 => ?_)
    · have tc_2 : 120 ≤ zt_size.toInt := q_le c_2
      have hE : f_X3_add zt_bytes zt_size a_b = (zt_bytes, zt_size) := (by rw [f_X3_add, if_neg c_1, if_pos c_2])
      exact W.vret hx hb hr (fun t ht hW => ⟨⟨(zt_bytes, zt_size), rfl, by rw [hE], ⟨by rw [ht]; exact hP, hD⟩⟩, hS.F ht⟩) hS.2.2 dX3_add_36
    · have tc_2 : zt_size.toInt < 120 := q_nle c_2
      refine lv_aload_n hx hb dX3_add_16 rfl (lv_at hl 0 rfl) ?_
      refine va_get (D := (dC, dI)) (ci := 3) (v := .ref azt_bytes) (C := RX3) (T := TX3) (N := 2) hx hb hts in_X3_add_X3 hown hK hP 0 rfl rfl 0 (by decide) (hts _ m_X3_add_2) (fun _ h9 => h9) rfl dX3_add_17 ?_
      refine lv_aload_n hx hb dX3_add_20 rfl (lv_at hl 0 rfl) ?_
      refine va_get (D := (dC, dI)) (ci := 3) (v := .int zt_size) (C := RX3) (T := TX3) (N := 2) hx hb hts in_X3_add_X3 hown hK hP 0 rfl rfl 1 (by decide) (hts _ m_X3_add_1) (fun _ h9 => h9) rfl dX3_add_21 ?_
      refine lv_iload_n hx hb dX3_add_24 rfl (lv_at hl 1 rfl) ?_
      refine va_iast (q0 := 1) (t0 := 0) (n := 120) (f := zt_bytes) hx hb hK hP hD hS rfl rfl (vp_in_iff.mpr ⟨by omega, by omega⟩) dX3_add_25 (fun H locs hP hD hS => ?_)
      have hP : va_P (dC, dI) vwCl [(zt, .inr (3, [.ref azt_bytes, .int zt_size])), (azt_bytes, .inl (cI, 120, .inl (upd zt_bytes (zt_size).toNatClampNeg a_b)))] H := hP
      have hD : va_D A [(zt, .inr (3, [.ref azt_bytes, .int zt_size])), (azt_bytes, .inl (cI, 120, .inl (upd zt_bytes (zt_size).toNatClampNeg a_b)))] := hD
      refine lv_aload_n hx hb dX3_add_26 rfl (lv_at hl 0 rfl) ?_
      refine lv_dup hx hb dX3_add_27 rfl ?_
      refine va_get (D := (dC, dI)) (ci := 3) (v := .int zt_size) (C := RX3) (T := TX3) (N := 2) hx hb hts in_X3_add_X3 hown hK hP 0 rfl rfl 1 (by decide) (hts _ m_X3_add_1) (fun _ h9 => h9) rfl dX3_add_28 ?_
      refine lv_iconst (v := (1 : Int32)) hx hb dX3_add_31 (by decide) ?_
      refine lv_iadd hx hb dX3_add_32 ?_
      refine va_put (D := (dC, dI)) (ci := 3) (v := .int (zt_size + (1 : Int32))) (ty := .int) (C := RX3) (T := TX3) (N := 2) hx hb hts in_X3_add_X3 tyX3 tyX3_ok nmX3 hown hK hP hD hS 0 rfl rfl 1 (by decide) (hts _ m_X3_add_1) (fun _ h9 => h9) rfl (by decide +kernel) rfl rfl (Nat.le_of_ble_eq_true rfl) dX3_add_33 (fun H locs hP hD hS => ?_)
      have hP : va_P (dC, dI) vwCl [(zt, .inr (3, [.ref azt_bytes, .int (zt_size + (1 : Int32))])), (azt_bytes, .inl (cI, 120, .inl (upd zt_bytes (zt_size).toNatClampNeg a_b)))] H := hP
      have hD : va_D A [(zt, .inr (3, [.ref azt_bytes, .int (zt_size + (1 : Int32))])), (azt_bytes, .inl (cI, 120, .inl (upd zt_bytes (zt_size).toNatClampNeg a_b)))] := hD
      have hE : f_X3_add zt_bytes zt_size a_b = ((upd zt_bytes (zt_size).toNatClampNeg a_b), (zt_size + (1 : Int32))) := (by rw [f_X3_add, if_neg c_1, if_neg c_2])
      exact W.vret hx hb hr (fun t ht hW => ⟨⟨((upd zt_bytes (zt_size).toNatClampNeg a_b), (zt_size + (1 : Int32))), rfl, by rw [hE], ⟨by rw [ht]; exact hP, hD⟩⟩, hS.F ht⟩) hS.2.2 dX3_add_36
