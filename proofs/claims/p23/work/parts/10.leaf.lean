theorem dX5_bit_0 : decode cX5_bit 0 = .ok (.iload_n 0, 1) := by decide +kernel
theorem dX5_bit_1 : decode cX5_bit 1 = .ok (.iconst 1, 1) := by decide +kernel
theorem dX5_bit_2 : decode cX5_bit 2 = .ok (.if_icmp .lt 15, 3) := by decide +kernel
theorem dX5_bit_17 : decode cX5_bit 17 = .ok (.iconst 0, 1) := by decide +kernel
theorem dX5_bit_18 : decode cX5_bit 18 = .ok (.ireturn, 1) := by decide +kernel
theorem dX5_bit_5 : decode cX5_bit 5 = .ok (.iload_n 0, 1) := by decide +kernel
theorem dX5_bit_6 : decode cX5_bit 6 = .ok (.bipush 24, 2) := by decide +kernel
theorem dX5_bit_8 : decode cX5_bit 8 = .ok (.if_icmp .gt 9, 3) := by decide +kernel
theorem dX5_bit_11 : decode cX5_bit 11 = .ok (.iconst 1, 1) := by decide +kernel
theorem dX5_bit_12 : decode cX5_bit 12 = .ok (.iload_n 0, 1) := by decide +kernel
theorem dX5_bit_13 : decode cX5_bit 13 = .ok (.ishl, 1) := by decide +kernel
theorem dX5_bit_14 : decode cX5_bit 14 = .ok (.goto 4, 3) := by decide +kernel
def f_X5_bit (a_n : Int32) : Int32 := if a_n < (1 : Int32) then (0 : Int32) else if (24 : Int32) < a_n then (0 : Int32) else ((1 : Int32) <<< (a_n &&& 31))
set_option maxHeartbeats 4000000 in
set_option maxRecDepth 100000 in
theorem c_X5_bit (l : Launch) (dC : Nat → ClassId) (dI : Nat → Nat → Nat) (cI cJ : ClassId) (sz : Nat) (a_n : Int32) : Met l yX5_bit wsX5_bit ({ frames := 0, cells := 0, slots := 0, locals := 0 } : Room) (va_Pc [.int a_n] (PreW dC dI cI cJ sz [])) (va_Qi (fun (r : Int32) (_ : Unit) => r = f_X5_bit a_n) (fun (_ : Unit) _ => True) (fun q => sz ≤ q)) 0 0 (fun q => sz ≤ q) := by
  refine Met.ofW (cc := cX5_bit) (maxL := 1) (ret := (some .int)) (by decide) rfl ?_
  intro p e s m args below meth c s₁ B hml hv
  obtain ⟨rfl, hsz, hP, hK, hN, hD0⟩ := hv
  have hx := B.exec
  have hb := B.bytes
  have hr := B.returns
  have hts := atoms_spec (ws := wsX5_bit) B.pre
  have hown : s.vm.findClass RX5 = some m.cls := findClass_of_methodNamed B.named
  have hlocks := B.notSynchronized
  subst hsz
  have hD := hD0
  generalize hAe : (fun q => s.heap.size ≤ q) = A
  have hA : ∀ q : Nat, s.heap.size ≤ q → A q := fun q h => by rw [← hAe]; exact h
  have hS : va_S A s.heap s.heap [] := va_S.rf
  have hP : va_P (dC, dI) vwCl [] s.heap := hP
  have hl := lv_entry ([.int a_n]) (n := 1) (Nat.le_of_ble_eq_true rfl)
  rw [lg_entry_eq]
  generalize (lg_sl ([.int a_n]) ++ List.replicate (1 - (lg_sl ([.int a_n])).length) Slot.unset).toArray = ls at hl ⊢
  have hl : lv_has ls 1 [(0, .int a_n)] := hl
  refine lv_iload_n hx hb dX5_bit_0 rfl (lv_at hl 0 rfl) ?_
  refine lv_iconst (v := (1 : Int32)) hx hb dX5_bit_1 (by decide) ?_
  refine lv_icmp_lt (tgt := 17) hx hb dX5_bit_2 (by decide) (fun c_1 => ?_) (fun c_1 => ?_)
  · have tc_1 : a_n.toInt < (1 : Int) := q_lt c_1
    refine lv_iconst (v := (0 : Int32)) hx hb dX5_bit_17 (by decide) ?_
    have hE : f_X5_bit a_n = (0 : Int32) := (by rw [f_X5_bit, if_pos c_1])
    exact W.iret (v := (0 : Int32)) hx hb hr (fun t ht hW => ⟨⟨(0 : Int32), (), rfl, by rw [hE], trivial⟩, hS.F ht⟩) hS.2.2 dX5_bit_18
  · have tc_1 : (1 : Int) ≤ a_n.toInt := q_nlt c_1
    refine lv_iload_n hx hb dX5_bit_5 rfl (lv_at hl 0 rfl) ?_
    refine lv_bipush (v := (24 : Int32)) hx hb dX5_bit_6 (by decide) ?_
    refine lv_icmp_gt (tgt := 17) hx hb dX5_bit_8 (by decide) (fun c_2 => ?_) (fun c_2 => ?_)
    · have tc_2 : (24 : Int) < a_n.toInt := q_lt c_2
      refine lv_iconst (v := (0 : Int32)) hx hb dX5_bit_17 (by decide) ?_
      have hE : f_X5_bit a_n = (0 : Int32) := (by rw [f_X5_bit, if_neg c_1, if_pos c_2])
      exact W.iret (v := (0 : Int32)) hx hb hr (fun t ht hW => ⟨⟨(0 : Int32), (), rfl, by rw [hE], trivial⟩, hS.F ht⟩) hS.2.2 dX5_bit_18
    · have tc_2 : a_n.toInt ≤ (24 : Int) := q_nlt c_2
      refine lv_iconst (v := (1 : Int32)) hx hb dX5_bit_11 (by decide) ?_
      refine lv_iload_n hx hb dX5_bit_12 rfl (lv_at hl 0 rfl) ?_
      refine lv_ishl hx hb dX5_bit_13 ?_
      refine lv_goto (tgt := 18) hx hb dX5_bit_14 (by decide) ?_
      have hE : f_X5_bit a_n = ((1 : Int32) <<< (a_n &&& 31)) := (by rw [f_X5_bit, if_neg c_1, if_neg c_2])
      exact W.iret (v := ((1 : Int32) <<< (a_n &&& 31))) hx hb hr (fun t ht hW => ⟨⟨((1 : Int32) <<< (a_n &&& 31)), (), rfl, by rw [hE], trivial⟩, hS.F ht⟩) hS.2.2 dX5_bit_18
theorem dX5_latest_0 : decode cX5_latest 0 = .ok (.bipush 24, 2) := by decide +kernel
theorem dX5_latest_2 : decode cX5_latest 2 = .ok (.istore_n 1, 1) := by decide +kernel
theorem dX5_latest_3 : decode cX5_latest 3 = .ok (.iload_n 1, 1) := by decide +kernel
theorem dX5_latest_4 : decode cX5_latest 4 = .ok (.iconst 1, 1) := by decide +kernel
theorem dX5_latest_5 : decode cX5_latest 5 = .ok (.if_icmp .lt 20, 3) := by decide +kernel
theorem dX5_latest_25 : decode cX5_latest 25 = .ok (.iconst 0, 1) := by decide +kernel
theorem dX5_latest_26 : decode cX5_latest 26 = .ok (.ireturn, 1) := by decide +kernel
theorem dX5_latest_8 : decode cX5_latest 8 = .ok (.iload_n 0, 1) := by decide +kernel
theorem dX5_latest_9 : decode cX5_latest 9 = .ok (.iload_n 1, 1) := by decide +kernel
theorem dX5_latest_10 : decode cX5_latest 10 = .ok (.invokestatic 154, 3) := by decide +kernel
set_option maxRecDepth 20000 in
theorem ggX5_latest_X5_bit : GoodIn wsX5_latest wsX5_bit := goodIn_r _ [4] (by decide +kernel) (by decide +kernel)
set_option maxRecDepth 20000 in
theorem gX5_latest_X5_bit : GoodIn wsX5_latest (va_wsS RX5 154 yX5_bit wsX5_bit) := goodIn_app (goodIn_of _ (by decide +kernel)) ggX5_latest_X5_bit
theorem dX5_latest_13 : decode cX5_latest 13 = .ok (.iand, 1) := by decide +kernel
theorem dX5_latest_14 : decode cX5_latest 14 = .ok (.ifCond .eq 5, 3) := by decide +kernel
theorem dX5_latest_19 : decode cX5_latest 19 = .ok (.iinc 1 (-1), 3) := by decide +kernel
theorem dX5_latest_22 : decode cX5_latest 22 = .ok (.goto (-19), 3) := by decide +kernel
theorem dX5_latest_17 : decode cX5_latest 17 = .ok (.iload_n 1, 1) := by decide +kernel
theorem dX5_latest_18 : decode cX5_latest 18 = .ok (.ireturn, 1) := by decide +kernel
def f_X5_latest_L3 (a_c : Int32) : Nat → Int32 → Int32
  | 0, _ => 0
  | n_1 + 1, v1_1 => if v1_1 < (1 : Int32) then (0 : Int32) else if (a_c &&& (f_X5_bit v1_1)) = (0 : Int32) then (f_X5_latest_L3 a_c n_1) (v1_1 + (-1 : Int32)) else v1_1
def f_X5_latest (a_c : Int32) : Int32 := f_X5_latest_L3 a_c 25 (24 : Int32)
set_option maxHeartbeats 4000000 in
set_option maxRecDepth 100000 in
theorem c_X5_latest (l : Launch) (dC : Nat → ClassId) (dI : Nat → Nat → Nat) (cI cJ : ClassId) (sz : Nat) (a_c : Int32) : Met l yX5_latest wsX5_latest ({ frames := 1, cells := 0, slots := 0, locals := 20 } : Room) (va_Pc [.int a_c] (PreW dC dI cI cJ sz [])) (va_Qi (fun (r : Int32) (_ : Unit) => r = f_X5_latest a_c) (fun (_ : Unit) _ => True) (fun q => sz ≤ q)) 0 0 (fun q => sz ≤ q) := by
  refine Met.ofW (cc := cX5_latest) (maxL := 2) (ret := (some .int)) (by decide) rfl ?_
  intro p e s m args below meth c s₁ B hml hv
  obtain ⟨rfl, hsz, hP, hK, hN, hD0⟩ := hv
  have hx := B.exec
  have hb := B.bytes
  have hr := B.returns
  have hts := atoms_spec (ws := wsX5_latest) B.pre
  have hown : s.vm.findClass RX5 = some m.cls := findClass_of_methodNamed B.named
  have hlocks := B.notSynchronized
  subst hsz
  have hD := hD0
  generalize hAe : (fun q => s.heap.size ≤ q) = A
  have hA : ∀ q : Nat, s.heap.size ≤ q → A q := fun q h => by rw [← hAe]; exact h
  have hS : va_S A s.heap s.heap [] := va_S.rf
  have hP : va_P (dC, dI) vwCl [] s.heap := hP
  have hl := lv_entry ([.int a_c]) (n := 2) (Nat.le_of_ble_eq_true rfl)
  rw [lg_entry_eq]
  generalize (lg_sl ([.int a_c]) ++ List.replicate (2 - (lg_sl ([.int a_c])).length) Slot.unset).toArray = ls at hl ⊢
  have hl : lv_has ls 2 [(0, .int a_c)] := hl
  refine W_nm (fun QQ hQQ => ?_)
  refine lv_bipush (v := (24 : Int32)) hx hb dX5_latest_0 (by decide) ?_
  refine lv_istore_n (lv' := [(1, .int (24 : Int32)), (0, .int a_c)]) hx hb dX5_latest_2 rfl hl (by decide) rfl (fun ls hl => ?_)
  have hloop_1 : ∀ (n_1 : Nat) (v1_1 : Int32) , (0 ≤ v1_1.toInt) → (v1_1.toInt ≤ 24) → (v1_1.toInt).toNat < n_1 → f_X5_latest a_c = f_X5_latest_L3 a_c n_1 v1_1 → ∀ (H : Heap) (locs : List Loc), va_P (dC, dI) vwCl [] H → va_D (fun _ => True) [] → va_S A s.heap H locs → ∀ ls : Array Slot, lv_has ls 2 [(0, .int a_c), (1, .int v1_1)] → W p l e (headSpec wsX5_latest ({ frames := 1, cells := 0, slots := 0, locals := 20 } : Room)).room s m ([.int a_c] : List Value).toArray below meth c H locs 0 0 QQ (F0 m 3 ls []) := by
    intro n_1
    induction n_1 with
    | zero => intro v1_1 hi0_1 hi1_1 hmu; exact absurd hmu (Nat.not_lt_zero _)
    | succ n_1 ih_1 =>
      intro v1_1 hi0_1 hi1_1 hmu_1 hI_1 H locs hP hD hS ls hl
      refine lv_iload_n hx hb dX5_latest_3 rfl (lv_at hl 1 rfl) ?_
      refine lv_iconst (v := (1 : Int32)) hx hb dX5_latest_4 (by decide) ?_
      refine lv_icmp_lt (tgt := 25) hx hb dX5_latest_5 (by decide) (fun c_2 => ?_) (fun c_2 => ?_)
      · have tc_2 : v1_1.toInt < (1 : Int) := q_lt c_2
        refine lv_iconst (v := (0 : Int32)) hx hb dX5_latest_25 (by decide) ?_
        rw [hQQ]
        have hE : f_X5_latest a_c = (0 : Int32) := (hI_1.trans (by rw [f_X5_latest_L3, if_pos c_2]))
        exact W.iret (v := (0 : Int32)) hx hb hr (fun t ht hW => ⟨⟨(0 : Int32), (), rfl, by rw [hE], trivial⟩, hS.F ht⟩) hS.2.2 dX5_latest_26
      · have tc_2 : (1 : Int) ≤ v1_1.toInt := q_nlt c_2
        refine lv_iload_n hx hb dX5_latest_8 rfl (lv_at hl 0 rfl) ?_
        refine lv_iload_n hx hb dX5_latest_9 rfl (lv_at hl 1 rfl) ?_
        have hPc := hP.sub (ws' := []) [] rfl
        have hDc := hD.sub (ws' := []) [] (by decide) rfl
        refine va_calli (va_runS (As := [.int v1_1]) (rest := [.int a_c]) ⟨hx, hb, hml, hown, hts⟩ (c_X5_bit l dC dI cI cJ H.size v1_1) (va_cwS 1 hts gX5_latest_X5_bit rfl rfl rfl (by decide +kernel) ⟨Nat.le_of_ble_eq_true rfl, Nat.le_of_ble_eq_true rfl⟩) ⟨fun a U g mk q => ⟨q.1, PreW.call g mk a q.2⟩, fun U hU hW => ⟨rfl, PreW.mk2 hU hW hPc hK hN (hDc.weaken (fun _ _ _ _ => trivial))⟩⟩ rfl rfl hl.1 rfl (lv_room (Nat.le_of_ble_eq_true rfl)) dX5_latest_10 ⟨Nat.le_of_ble_eq_true rfl, Nat.le_of_ble_eq_true rfl⟩) hS (fun q hq h => absurd hq (Nat.not_lt.mpr h)) (fun q h => hA q (Nat.le_trans hS.1 h)) (fun r_3 _u t H1 locs ht hvm hw hB hz1 hk1 hS => ?_)
        have hP := va_ro hP hk1
        generalize H1 = H at hP hS ⊢
        have hw : r_3 = f_X5_bit v1_1 := hw
        subst hw
        obtain ⟨z_4, hz_4⟩ : ∃ z : Int32, z = f_X5_bit v1_1 := ⟨_, rfl⟩
        refine lv_iand hx hb dX5_latest_13 ?_
        refine lv_if_eq (tgt := 19) hx hb dX5_latest_14 (by decide) (fun c_5 => ?_) (fun c_5 => ?_)
        · refine lv_iinc (v := (v1_1 + (-1 : Int32))) (lv' := [(1, .int (v1_1 + (-1 : Int32))), (0, .int a_c)]) hx hb dX5_latest_19 hl (k := 1) rfl rfl (by decide) rfl (fun ls hl => ?_)
          obtain ⟨z_6, hz_6⟩ : ∃ z : Int32, z = (v1_1 + (-1 : Int32)) := ⟨_, rfl⟩
          try have gz_6 : z_6.toInt = v1_1.toInt + (-1 : Int) := by rw [hz_6]; exact ti_add2 rfl rfl (by omega) (by omega)
          refine lv_goto (tgt := 3) hx hb dX5_latest_22 (by decide) ?_
          exact ih_1 (v1_1 + (-1 : Int32)) (by rw [← hz_6]; omega) (by rw [← hz_6]; omega) (by rw [← hz_6]; omega) (hI_1.trans (by rw [f_X5_latest_L3, if_neg c_2, if_pos c_5])) _ _ hP hD hS ls (lv_sub hl [1, 0] rfl)
        · refine lv_iload_n hx hb dX5_latest_17 rfl (lv_at hl 1 rfl) ?_
          rw [hQQ]
          have hE : f_X5_latest a_c = v1_1 := (hI_1.trans (by rw [f_X5_latest_L3, if_neg c_2, if_neg c_5]))
          exact W.iret (v := v1_1) hx hb hr (fun t ht hW => ⟨⟨v1_1, (), rfl, by rw [hE], trivial⟩, hS.F ht⟩) hS.2.2 dX5_latest_18
  exact hloop_1 25 (24 : Int32) (by first | omega | exact (show 0 ≤ (24 : Int) by omega) | assumption | trivial) (by first | omega | exact (show (24 : Int) ≤ 24 by omega) | assumption | trivial) (by first | omega | exact (show ((24 : Int)).toNat < 25 by omega)) (by rw [f_X5_latest]) _ _ hP hD hS ls (lv_sub hl [1, 0] rfl)
theorem latest_rngL (c : Int32) : ∀ (n : Nat) (v : Int32), 0 ≤ v.toInt → v.toInt ≤ 24 → 0 ≤ (f_X5_latest_L3 c n v).toInt ∧ (f_X5_latest_L3 c n v).toInt ≤ 24 := by
  intro n
  induction n with
  | zero => intro v _ _; rw [f_X5_latest_L3]; decide
  | succ n ih =>
    intro v h0 h1
    rw [f_X5_latest_L3]
    by_cases c1 : v < (1 : Int32)
    · rw [if_pos c1]; decide
    · rw [if_neg c1]
      have t1 : (1 : Int) ≤ v.toInt := q_nlt c1
      by_cases c2 : (c &&& (f_X5_bit v)) = (0 : Int32)
      · rw [if_pos c2]
        have g : (v + (-1 : Int32)).toInt = v.toInt + (-1 : Int) := ti_add rfl (by omega) (by omega)
        exact ih _ (by omega) (by omega)
      · rw [if_neg c2]; exact ⟨h0, h1⟩
theorem latest_rng (c : Int32) : 0 ≤ (f_X5_latest c).toInt ∧ (f_X5_latest c).toInt ≤ 24 := latest_rngL c 25 24 (by decide) (by decide)
theorem dX5_laterThan_0 : decode cX5_laterThan 0 = .ok (.iload_n 0, 1) := by decide +kernel
theorem dX5_laterThan_1 : decode cX5_laterThan 1 = .ok (.ifCond .lt 17, 3) := by decide +kernel
theorem dX5_laterThan_18 : decode cX5_laterThan 18 = .ok (.iconst 0, 1) := by decide +kernel
theorem dX5_laterThan_19 : decode cX5_laterThan 19 = .ok (.ireturn, 1) := by decide +kernel
theorem dX5_laterThan_4 : decode cX5_laterThan 4 = .ok (.iload_n 0, 1) := by decide +kernel
theorem dX5_laterThan_5 : decode cX5_laterThan 5 = .ok (.bipush 24, 2) := by decide +kernel
theorem dX5_laterThan_7 : decode cX5_laterThan 7 = .ok (.if_icmp .gt 11, 3) := by decide +kernel
theorem dX5_laterThan_10 : decode cX5_laterThan 10 = .ok (.iconst (-1), 1) := by decide +kernel
theorem dX5_laterThan_11 : decode cX5_laterThan 11 = .ok (.iload_n 0, 1) := by decide +kernel
theorem dX5_laterThan_12 : decode cX5_laterThan 12 = .ok (.iconst 1, 1) := by decide +kernel
theorem dX5_laterThan_13 : decode cX5_laterThan 13 = .ok (.iadd, 1) := by decide +kernel
theorem dX5_laterThan_14 : decode cX5_laterThan 14 = .ok (.ishl, 1) := by decide +kernel
theorem dX5_laterThan_15 : decode cX5_laterThan 15 = .ok (.goto 4, 3) := by decide +kernel
def f_X5_laterThan (a_n : Int32) : Int32 := if a_n < (0 : Int32) then (0 : Int32) else if (24 : Int32) < a_n then (0 : Int32) else ((-1 : Int32) <<< ((a_n + (1 : Int32)) &&& 31))
set_option maxHeartbeats 4000000 in
set_option maxRecDepth 100000 in
theorem c_X5_laterThan (l : Launch) (dC : Nat → ClassId) (dI : Nat → Nat → Nat) (cI cJ : ClassId) (sz : Nat) (a_n : Int32) : Met l yX5_laterThan wsX5_laterThan ({ frames := 0, cells := 0, slots := 0, locals := 0 } : Room) (va_Pc [.int a_n] (PreW dC dI cI cJ sz [])) (va_Qi (fun (r : Int32) (_ : Unit) => r = f_X5_laterThan a_n) (fun (_ : Unit) _ => True) (fun q => sz ≤ q)) 0 0 (fun q => sz ≤ q) := by
  refine Met.ofW (cc := cX5_laterThan) (maxL := 1) (ret := (some .int)) (by decide) rfl ?_
  intro p e s m args below meth c s₁ B hml hv
  obtain ⟨rfl, hsz, hP, hK, hN, hD0⟩ := hv
  have hx := B.exec
  have hb := B.bytes
  have hr := B.returns
  have hts := atoms_spec (ws := wsX5_laterThan) B.pre
  have hown : s.vm.findClass RX5 = some m.cls := findClass_of_methodNamed B.named
  have hlocks := B.notSynchronized
  subst hsz
  have hD := hD0
  generalize hAe : (fun q => s.heap.size ≤ q) = A
  have hA : ∀ q : Nat, s.heap.size ≤ q → A q := fun q h => by rw [← hAe]; exact h
  have hS : va_S A s.heap s.heap [] := va_S.rf
  have hP : va_P (dC, dI) vwCl [] s.heap := hP
  have hl := lv_entry ([.int a_n]) (n := 1) (Nat.le_of_ble_eq_true rfl)
  rw [lg_entry_eq]
  generalize (lg_sl ([.int a_n]) ++ List.replicate (1 - (lg_sl ([.int a_n])).length) Slot.unset).toArray = ls at hl ⊢
  have hl : lv_has ls 1 [(0, .int a_n)] := hl
  refine lv_iload_n hx hb dX5_laterThan_0 rfl (lv_at hl 0 rfl) ?_
  refine lv_if_lt (tgt := 18) hx hb dX5_laterThan_1 (by decide) (fun c_1 => ?_) (fun c_1 => ?_)
  · have tc_1 : a_n.toInt < (0 : Int) := q_lt c_1
    refine lv_iconst (v := (0 : Int32)) hx hb dX5_laterThan_18 (by decide) ?_
    have hE : f_X5_laterThan a_n = (0 : Int32) := (by rw [f_X5_laterThan, if_pos c_1])
    exact W.iret (v := (0 : Int32)) hx hb hr (fun t ht hW => ⟨⟨(0 : Int32), (), rfl, by rw [hE], trivial⟩, hS.F ht⟩) hS.2.2 dX5_laterThan_19
  · have tc_1 : (0 : Int) ≤ a_n.toInt := q_nlt c_1
    refine lv_iload_n hx hb dX5_laterThan_4 rfl (lv_at hl 0 rfl) ?_
    refine lv_bipush (v := (24 : Int32)) hx hb dX5_laterThan_5 (by decide) ?_
    refine lv_icmp_gt (tgt := 18) hx hb dX5_laterThan_7 (by decide) (fun c_2 => ?_) (fun c_2 => ?_)
    · have tc_2 : (24 : Int) < a_n.toInt := q_lt c_2
      refine lv_iconst (v := (0 : Int32)) hx hb dX5_laterThan_18 (by decide) ?_
      have hE : f_X5_laterThan a_n = (0 : Int32) := (by rw [f_X5_laterThan, if_neg c_1, if_pos c_2])
      exact W.iret (v := (0 : Int32)) hx hb hr (fun t ht hW => ⟨⟨(0 : Int32), (), rfl, by rw [hE], trivial⟩, hS.F ht⟩) hS.2.2 dX5_laterThan_19
    · have tc_2 : a_n.toInt ≤ (24 : Int) := q_nlt c_2
      refine lv_iconst (v := (-1 : Int32)) hx hb dX5_laterThan_10 (by decide) ?_
      refine lv_iload_n hx hb dX5_laterThan_11 rfl (lv_at hl 0 rfl) ?_
      refine lv_iconst (v := (1 : Int32)) hx hb dX5_laterThan_12 (by decide) ?_
      refine lv_iadd hx hb dX5_laterThan_13 ?_
      obtain ⟨z_3, hz_3⟩ : ∃ z : Int32, z = (a_n + (1 : Int32)) := ⟨_, rfl⟩
      try have gz_3 : z_3.toInt = a_n.toInt + (1 : Int) := by rw [hz_3]; exact ti_add2 rfl rfl (by omega) (by omega)
      refine lv_ishl hx hb dX5_laterThan_14 ?_
      refine lv_goto (tgt := 19) hx hb dX5_laterThan_15 (by decide) ?_
      have hE : f_X5_laterThan a_n = ((-1 : Int32) <<< ((a_n + (1 : Int32)) &&& 31)) := (by rw [f_X5_laterThan, if_neg c_1, if_neg c_2])
      exact W.iret (v := ((-1 : Int32) <<< ((a_n + (1 : Int32)) &&& 31))) hx hb hr (fun t ht hW => ⟨⟨((-1 : Int32) <<< ((a_n + (1 : Int32)) &&& 31)), (), rfl, by rw [hE], trivial⟩, hS.F ht⟩) hS.2.2 dX5_laterThan_19
theorem dX5_isView_0 : decode cX5_isView 0 = .ok (.iload_n 0, 1) := by decide +kernel
theorem dX5_isView_1 : decode cX5_isView 1 = .ok (.ifCond .lt 13, 3) := by decide +kernel
theorem dX5_isView_14 : decode cX5_isView 14 = .ok (.iconst 0, 1) := by decide +kernel
theorem dX5_isView_15 : decode cX5_isView 15 = .ok (.ireturn, 1) := by decide +kernel
theorem dX5_isView_4 : decode cX5_isView 4 = .ok (.iload_n 0, 1) := by decide +kernel
theorem dX5_isView_5 : decode cX5_isView 5 = .ok (.bipush 7, 2) := by decide +kernel
theorem dX5_isView_7 : decode cX5_isView 7 = .ok (.if_icmp .ge 7, 3) := by decide +kernel
theorem dX5_isView_10 : decode cX5_isView 10 = .ok (.iconst 1, 1) := by decide +kernel
theorem dX5_isView_11 : decode cX5_isView 11 = .ok (.goto 4, 3) := by decide +kernel
def f_X5_isView (a_n : Int32) : Int32 := if a_n < (0 : Int32) then (0 : Int32) else if (7 : Int32) ≤ a_n then (0 : Int32) else (1 : Int32)
set_option maxHeartbeats 4000000 in
set_option maxRecDepth 100000 in
theorem c_X5_isView (l : Launch) (dC : Nat → ClassId) (dI : Nat → Nat → Nat) (cI cJ : ClassId) (sz : Nat) (a_n : Int32) : Met l yX5_isView wsX5_isView ({ frames := 0, cells := 0, slots := 0, locals := 0 } : Room) (va_Pc [.int a_n] (PreW dC dI cI cJ sz [])) (va_Qi (fun (r : Int32) (_ : Unit) => r = f_X5_isView a_n) (fun (_ : Unit) _ => True) (fun q => sz ≤ q)) 0 0 (fun q => sz ≤ q) := by
  refine Met.ofW (cc := cX5_isView) (maxL := 1) (ret := (some .boolean)) (by decide) rfl ?_
  intro p e s m args below meth c s₁ B hml hv
  obtain ⟨rfl, hsz, hP, hK, hN, hD0⟩ := hv
  have hx := B.exec
  have hb := B.bytes
  have hr := B.returns
  have hts := atoms_spec (ws := wsX5_isView) B.pre
  have hown : s.vm.findClass RX5 = some m.cls := findClass_of_methodNamed B.named
  have hlocks := B.notSynchronized
  subst hsz
  have hD := hD0
  generalize hAe : (fun q => s.heap.size ≤ q) = A
  have hA : ∀ q : Nat, s.heap.size ≤ q → A q := fun q h => by rw [← hAe]; exact h
  have hS : va_S A s.heap s.heap [] := va_S.rf
  have hP : va_P (dC, dI) vwCl [] s.heap := hP
  have hl := lv_entry ([.int a_n]) (n := 1) (Nat.le_of_ble_eq_true rfl)
  rw [lg_entry_eq]
  generalize (lg_sl ([.int a_n]) ++ List.replicate (1 - (lg_sl ([.int a_n])).length) Slot.unset).toArray = ls at hl ⊢
  have hl : lv_has ls 1 [(0, .int a_n)] := hl
  refine lv_iload_n hx hb dX5_isView_0 rfl (lv_at hl 0 rfl) ?_
  refine lv_if_lt (tgt := 14) hx hb dX5_isView_1 (by decide) (fun c_1 => ?_) (fun c_1 => ?_)
  · have tc_1 : a_n.toInt < (0 : Int) := q_lt c_1
    refine lv_iconst (v := (0 : Int32)) hx hb dX5_isView_14 (by decide) ?_
    have hE : f_X5_isView a_n = (0 : Int32) := (by rw [f_X5_isView, if_pos c_1])
    exact W.zret (v := (0 : Int32)) hx hb hr (by decide) (fun t ht hW => ⟨⟨(0 : Int32), (), rfl, by rw [hE], trivial⟩, hS.F ht⟩) hS.2.2 dX5_isView_15
  · have tc_1 : (0 : Int) ≤ a_n.toInt := q_nlt c_1
    refine lv_iload_n hx hb dX5_isView_4 rfl (lv_at hl 0 rfl) ?_
    refine lv_bipush (v := (7 : Int32)) hx hb dX5_isView_5 (by decide) ?_
    refine lv_icmp_ge (tgt := 14) hx hb dX5_isView_7 (by decide) (fun c_2 => ?_) (fun c_2 => ?_)
    · have tc_2 : (7 : Int) ≤ a_n.toInt := q_le c_2
      refine lv_iconst (v := (0 : Int32)) hx hb dX5_isView_14 (by decide) ?_
      have hE : f_X5_isView a_n = (0 : Int32) := (by rw [f_X5_isView, if_neg c_1, if_pos c_2])
      exact W.zret (v := (0 : Int32)) hx hb hr (by decide) (fun t ht hW => ⟨⟨(0 : Int32), (), rfl, by rw [hE], trivial⟩, hS.F ht⟩) hS.2.2 dX5_isView_15
    · have tc_2 : a_n.toInt < (7 : Int) := q_nle c_2
      refine lv_iconst (v := (1 : Int32)) hx hb dX5_isView_10 (by decide) ?_
      refine lv_goto (tgt := 15) hx hb dX5_isView_11 (by decide) ?_
      have hE : f_X5_isView a_n = (1 : Int32) := (by rw [f_X5_isView, if_neg c_1, if_neg c_2])
      exact W.zret (v := (1 : Int32)) hx hb hr (by decide) (fun t ht hW => ⟨⟨(1 : Int32), (), rfl, by rw [hE], trivial⟩, hS.F ht⟩) hS.2.2 dX5_isView_15
theorem dX5_isHand_0 : decode cX5_isHand 0 = .ok (.iload_n 0, 1) := by decide +kernel
theorem dX5_isHand_1 : decode cX5_isHand 1 = .ok (.ifCond .lt 12, 3) := by decide +kernel
theorem dX5_isHand_13 : decode cX5_isHand 13 = .ok (.iconst 0, 1) := by decide +kernel
theorem dX5_isHand_14 : decode cX5_isHand 14 = .ok (.ireturn, 1) := by decide +kernel
theorem dX5_isHand_4 : decode cX5_isHand 4 = .ok (.iload_n 0, 1) := by decide +kernel
theorem dX5_isHand_5 : decode cX5_isHand 5 = .ok (.iconst 4, 1) := by decide +kernel
theorem dX5_isHand_6 : decode cX5_isHand 6 = .ok (.if_icmp .ge 7, 3) := by decide +kernel
theorem dX5_isHand_9 : decode cX5_isHand 9 = .ok (.iconst 1, 1) := by decide +kernel
theorem dX5_isHand_10 : decode cX5_isHand 10 = .ok (.goto 4, 3) := by decide +kernel
def f_X5_isHand (a_n : Int32) : Int32 := if a_n < (0 : Int32) then (0 : Int32) else if (4 : Int32) ≤ a_n then (0 : Int32) else (1 : Int32)
set_option maxHeartbeats 4000000 in
set_option maxRecDepth 100000 in
theorem c_X5_isHand (l : Launch) (dC : Nat → ClassId) (dI : Nat → Nat → Nat) (cI cJ : ClassId) (sz : Nat) (a_n : Int32) : Met l yX5_isHand wsX5_isHand ({ frames := 0, cells := 0, slots := 0, locals := 0 } : Room) (va_Pc [.int a_n] (PreW dC dI cI cJ sz [])) (va_Qi (fun (r : Int32) (_ : Unit) => r = f_X5_isHand a_n) (fun (_ : Unit) _ => True) (fun q => sz ≤ q)) 0 0 (fun q => sz ≤ q) := by
  refine Met.ofW (cc := cX5_isHand) (maxL := 1) (ret := (some .boolean)) (by decide) rfl ?_
  intro p e s m args below meth c s₁ B hml hv
  obtain ⟨rfl, hsz, hP, hK, hN, hD0⟩ := hv
  have hx := B.exec
  have hb := B.bytes
  have hr := B.returns
  have hts := atoms_spec (ws := wsX5_isHand) B.pre
  have hown : s.vm.findClass RX5 = some m.cls := findClass_of_methodNamed B.named
  have hlocks := B.notSynchronized
  subst hsz
  have hD := hD0
  generalize hAe : (fun q => s.heap.size ≤ q) = A
  have hA : ∀ q : Nat, s.heap.size ≤ q → A q := fun q h => by rw [← hAe]; exact h
  have hS : va_S A s.heap s.heap [] := va_S.rf
  have hP : va_P (dC, dI) vwCl [] s.heap := hP
  have hl := lv_entry ([.int a_n]) (n := 1) (Nat.le_of_ble_eq_true rfl)
  rw [lg_entry_eq]
  generalize (lg_sl ([.int a_n]) ++ List.replicate (1 - (lg_sl ([.int a_n])).length) Slot.unset).toArray = ls at hl ⊢
  have hl : lv_has ls 1 [(0, .int a_n)] := hl
  refine lv_iload_n hx hb dX5_isHand_0 rfl (lv_at hl 0 rfl) ?_
  refine lv_if_lt (tgt := 13) hx hb dX5_isHand_1 (by decide) (fun c_1 => ?_) (fun c_1 => ?_)
  · have tc_1 : a_n.toInt < (0 : Int) := q_lt c_1
    refine lv_iconst (v := (0 : Int32)) hx hb dX5_isHand_13 (by decide) ?_
    have hE : f_X5_isHand a_n = (0 : Int32) := (by rw [f_X5_isHand, if_pos c_1])
    exact W.zret (v := (0 : Int32)) hx hb hr (by decide) (fun t ht hW => ⟨⟨(0 : Int32), (), rfl, by rw [hE], trivial⟩, hS.F ht⟩) hS.2.2 dX5_isHand_14
  · have tc_1 : (0 : Int) ≤ a_n.toInt := q_nlt c_1
    refine lv_iload_n hx hb dX5_isHand_4 rfl (lv_at hl 0 rfl) ?_
    refine lv_iconst (v := (4 : Int32)) hx hb dX5_isHand_5 (by decide) ?_
    refine lv_icmp_ge (tgt := 13) hx hb dX5_isHand_6 (by decide) (fun c_2 => ?_) (fun c_2 => ?_)
    · have tc_2 : (4 : Int) ≤ a_n.toInt := q_le c_2
      refine lv_iconst (v := (0 : Int32)) hx hb dX5_isHand_13 (by decide) ?_
      have hE : f_X5_isHand a_n = (0 : Int32) := (by rw [f_X5_isHand, if_neg c_1, if_pos c_2])
      exact W.zret (v := (0 : Int32)) hx hb hr (by decide) (fun t ht hW => ⟨⟨(0 : Int32), (), rfl, by rw [hE], trivial⟩, hS.F ht⟩) hS.2.2 dX5_isHand_14
    · have tc_2 : a_n.toInt < (4 : Int) := q_nle c_2
      refine lv_iconst (v := (1 : Int32)) hx hb dX5_isHand_9 (by decide) ?_
      refine lv_goto (tgt := 14) hx hb dX5_isHand_10 (by decide) ?_
      have hE : f_X5_isHand a_n = (1 : Int32) := (by rw [f_X5_isHand, if_neg c_1, if_neg c_2])
      exact W.zret (v := (1 : Int32)) hx hb hr (by decide) (fun t ht hW => ⟨⟨(1 : Int32), (), rfl, by rw [hE], trivial⟩, hS.F ht⟩) hS.2.2 dX5_isHand_14
theorem dX5_isLook_0 : decode cX5_isLook 0 = .ok (.iload_n 0, 1) := by decide +kernel
theorem dX5_isLook_1 : decode cX5_isLook 1 = .ok (.iconst 1, 1) := by decide +kernel
theorem dX5_isLook_2 : decode cX5_isLook 2 = .ok (.if_icmp .lt 13, 3) := by decide +kernel
theorem dX5_isLook_15 : decode cX5_isLook 15 = .ok (.iconst 0, 1) := by decide +kernel
theorem dX5_isLook_16 : decode cX5_isLook 16 = .ok (.ireturn, 1) := by decide +kernel
theorem dX5_isLook_5 : decode cX5_isLook 5 = .ok (.iload_n 0, 1) := by decide +kernel
theorem dX5_isLook_6 : decode cX5_isLook 6 = .ok (.bipush 7, 2) := by decide +kernel
theorem dX5_isLook_8 : decode cX5_isLook 8 = .ok (.if_icmp .gt 7, 3) := by decide +kernel
theorem dX5_isLook_11 : decode cX5_isLook 11 = .ok (.iconst 1, 1) := by decide +kernel
theorem dX5_isLook_12 : decode cX5_isLook 12 = .ok (.goto 4, 3) := by decide +kernel
def f_X5_isLook (a_n : Int32) : Int32 := if a_n < (1 : Int32) then (0 : Int32) else if (7 : Int32) < a_n then (0 : Int32) else (1 : Int32)
set_option maxHeartbeats 4000000 in
set_option maxRecDepth 100000 in
theorem c_X5_isLook (l : Launch) (dC : Nat → ClassId) (dI : Nat → Nat → Nat) (cI cJ : ClassId) (sz : Nat) (a_n : Int32) : Met l yX5_isLook wsX5_isLook ({ frames := 0, cells := 0, slots := 0, locals := 0 } : Room) (va_Pc [.int a_n] (PreW dC dI cI cJ sz [])) (va_Qi (fun (r : Int32) (_ : Unit) => r = f_X5_isLook a_n) (fun (_ : Unit) _ => True) (fun q => sz ≤ q)) 0 0 (fun q => sz ≤ q) := by
  refine Met.ofW (cc := cX5_isLook) (maxL := 1) (ret := (some .boolean)) (by decide) rfl ?_
  intro p e s m args below meth c s₁ B hml hv
  obtain ⟨rfl, hsz, hP, hK, hN, hD0⟩ := hv
  have hx := B.exec
  have hb := B.bytes
  have hr := B.returns
  have hts := atoms_spec (ws := wsX5_isLook) B.pre
  have hown : s.vm.findClass RX5 = some m.cls := findClass_of_methodNamed B.named
  have hlocks := B.notSynchronized
  subst hsz
  have hD := hD0
  generalize hAe : (fun q => s.heap.size ≤ q) = A
  have hA : ∀ q : Nat, s.heap.size ≤ q → A q := fun q h => by rw [← hAe]; exact h
  have hS : va_S A s.heap s.heap [] := va_S.rf
  have hP : va_P (dC, dI) vwCl [] s.heap := hP
  have hl := lv_entry ([.int a_n]) (n := 1) (Nat.le_of_ble_eq_true rfl)
  rw [lg_entry_eq]
  generalize (lg_sl ([.int a_n]) ++ List.replicate (1 - (lg_sl ([.int a_n])).length) Slot.unset).toArray = ls at hl ⊢
  have hl : lv_has ls 1 [(0, .int a_n)] := hl
  refine lv_iload_n hx hb dX5_isLook_0 rfl (lv_at hl 0 rfl) ?_
  refine lv_iconst (v := (1 : Int32)) hx hb dX5_isLook_1 (by decide) ?_
  refine lv_icmp_lt (tgt := 15) hx hb dX5_isLook_2 (by decide) (fun c_1 => ?_) (fun c_1 => ?_)
  · have tc_1 : a_n.toInt < (1 : Int) := q_lt c_1
    refine lv_iconst (v := (0 : Int32)) hx hb dX5_isLook_15 (by decide) ?_
    have hE : f_X5_isLook a_n = (0 : Int32) := (by rw [f_X5_isLook, if_pos c_1])
    exact W.zret (v := (0 : Int32)) hx hb hr (by decide) (fun t ht hW => ⟨⟨(0 : Int32), (), rfl, by rw [hE], trivial⟩, hS.F ht⟩) hS.2.2 dX5_isLook_16
  · have tc_1 : (1 : Int) ≤ a_n.toInt := q_nlt c_1
    refine lv_iload_n hx hb dX5_isLook_5 rfl (lv_at hl 0 rfl) ?_
    refine lv_bipush (v := (7 : Int32)) hx hb dX5_isLook_6 (by decide) ?_
    refine lv_icmp_gt (tgt := 15) hx hb dX5_isLook_8 (by decide) (fun c_2 => ?_) (fun c_2 => ?_)
    · have tc_2 : (7 : Int) < a_n.toInt := q_lt c_2
      refine lv_iconst (v := (0 : Int32)) hx hb dX5_isLook_15 (by decide) ?_
      have hE : f_X5_isLook a_n = (0 : Int32) := (by rw [f_X5_isLook, if_neg c_1, if_pos c_2])
      exact W.zret (v := (0 : Int32)) hx hb hr (by decide) (fun t ht hW => ⟨⟨(0 : Int32), (), rfl, by rw [hE], trivial⟩, hS.F ht⟩) hS.2.2 dX5_isLook_16
    · have tc_2 : a_n.toInt ≤ (7 : Int) := q_nlt c_2
      refine lv_iconst (v := (1 : Int32)) hx hb dX5_isLook_11 (by decide) ?_
      refine lv_goto (tgt := 16) hx hb dX5_isLook_12 (by decide) ?_
      have hE : f_X5_isLook a_n = (1 : Int32) := (by rw [f_X5_isLook, if_neg c_1, if_neg c_2])
      exact W.zret (v := (1 : Int32)) hx hb hr (by decide) (fun t ht hW => ⟨⟨(1 : Int32), (), rfl, by rw [hE], trivial⟩, hS.F ht⟩) hS.2.2 dX5_isLook_16
theorem dX5_byteOf_0 : decode cX5_byteOf 0 = .ok (.lload_n 0, 1) := by decide +kernel
theorem dX5_byteOf_1 : decode cX5_byteOf 1 = .ok (.bipush 8, 2) := by decide +kernel
theorem dX5_byteOf_3 : decode cX5_byteOf 3 = .ok (.iload_n 2, 1) := by decide +kernel
theorem dX5_byteOf_4 : decode cX5_byteOf 4 = .ok (.imul, 1) := by decide +kernel
theorem dX5_byteOf_5 : decode cX5_byteOf 5 = .ok (.lushr, 1) := by decide +kernel
theorem dX5_byteOf_6 : decode cX5_byteOf 6 = .ok (.ldc2_w 226, 3) := by decide +kernel
theorem m_X5_byteOf_1 : (.constantLong RX5 226 (255) : Cond) ∈ wsX5_byteOf := List.mem_of_getElem? (i := 1) (by decide +kernel)
theorem dX5_byteOf_9 : decode cX5_byteOf 9 = .ok (.land, 1) := by decide +kernel
theorem dX5_byteOf_10 : decode cX5_byteOf 10 = .ok (.l2i, 1) := by decide +kernel
theorem dX5_byteOf_11 : decode cX5_byteOf 11 = .ok (.ireturn, 1) := by decide +kernel
def f_X5_byteOf (a_w : Int64) (a_i : Int32) : Int32 := ((((a_w.toUInt64 >>> (((8 : Int32) * a_i).toInt64.toUInt64 &&& Int64.toUInt64 63)).toInt64) &&& (255 : Int64)).toInt32)
set_option maxHeartbeats 4000000 in
set_option maxRecDepth 100000 in
theorem c_X5_byteOf (l : Launch) (dC : Nat → ClassId) (dI : Nat → Nat → Nat) (cI cJ : ClassId) (sz : Nat) (a_w : Int64) (a_i : Int32) : Met l yX5_byteOf wsX5_byteOf ({ frames := 0, cells := 0, slots := 0, locals := 0 } : Room) (va_Pc [.long a_w, .int a_i] (PreW dC dI cI cJ sz [])) (va_Qi (fun (r : Int32) (_ : Unit) => r = f_X5_byteOf a_w a_i) (fun (_ : Unit) _ => True) (fun q => sz ≤ q)) 0 0 (fun q => sz ≤ q) := by
  refine Met.ofW (cc := cX5_byteOf) (maxL := 3) (ret := (some .int)) (by decide) rfl ?_
  intro p e s m args below meth c s₁ B hml hv
  obtain ⟨rfl, hsz, hP, hK, hN, hD0⟩ := hv
  have hx := B.exec
  have hb := B.bytes
  have hr := B.returns
  have hts := atoms_spec (ws := wsX5_byteOf) B.pre
  have hown : s.vm.findClass RX5 = some m.cls := findClass_of_methodNamed B.named
  have hlocks := B.notSynchronized
  subst hsz
  have hD := hD0
  generalize hAe : (fun q => s.heap.size ≤ q) = A
  have hA : ∀ q : Nat, s.heap.size ≤ q → A q := fun q h => by rw [← hAe]; exact h
  have hS : va_S A s.heap s.heap [] := va_S.rf
  have hP : va_P (dC, dI) vwCl [] s.heap := hP
  have hl := lv_entry ([.long a_w, .int a_i]) (n := 3) (Nat.le_of_ble_eq_true rfl)
  rw [lg_entry_eq]
  generalize (lg_sl ([.long a_w, .int a_i]) ++ List.replicate (3 - (lg_sl ([.long a_w, .int a_i])).length) Slot.unset).toArray = ls at hl ⊢
  have hl : lv_has ls 3 [(0, .long a_w), (2, .int a_i)] := hl
  refine lv_lload_n hx hb dX5_byteOf_0 rfl (lv_at hl 0 rfl) ?_
  refine lv_bipush (v := (8 : Int32)) hx hb dX5_byteOf_1 (by decide) ?_
  refine lv_iload_n hx hb dX5_byteOf_3 rfl (lv_at hl 1 rfl) ?_
  refine lv_imul hx hb dX5_byteOf_4 ?_
  obtain ⟨z_1, hz_1⟩ : ∃ z : Int32, z = ((8 : Int32) * a_i) := ⟨_, rfl⟩
  try have gz_1 : z_1.toInt = (8 : Int) * a_i.toInt := by rw [hz_1]; exact ti_mul2 rfl rfl (by omega) (by omega)
  refine lv_lushr (v := ((a_w.toUInt64 >>> (((8 : Int32) * a_i).toInt64.toUInt64 &&& Int64.toUInt64 63)).toInt64)) hx hb dX5_byteOf_5 rfl ?_
  refine lv_ldc2 (v := (255 : Int64)) hx hb hown (hts _ m_X5_byteOf_1) dX5_byteOf_6 ?_
  refine lv_land hx hb dX5_byteOf_9 ?_
  refine lv_l2i (v := ((((a_w.toUInt64 >>> (((8 : Int32) * a_i).toInt64.toUInt64 &&& Int64.toUInt64 63)).toInt64) &&& (255 : Int64)).toInt32)) hx hb dX5_byteOf_10 rfl ?_
  have hE : f_X5_byteOf a_w a_i = ((((a_w.toUInt64 >>> (((8 : Int32) * a_i).toInt64.toUInt64 &&& Int64.toUInt64 63)).toInt64) &&& (255 : Int64)).toInt32) := (by rw [f_X5_byteOf])
  exact W.iret (v := ((((a_w.toUInt64 >>> (((8 : Int32) * a_i).toInt64.toUInt64 &&& Int64.toUInt64 63)).toInt64) &&& (255 : Int64)).toInt32)) hx hb hr (fun t ht hW => ⟨⟨((((a_w.toUInt64 >>> (((8 : Int32) * a_i).toInt64.toUInt64 &&& Int64.toUInt64 63)).toInt64) &&& (255 : Int64)).toInt32), (), rfl, by rw [hE], trivial⟩, hS.F ht⟩) hS.2.2 dX5_byteOf_11
theorem dX5_areBytes_0 : decode cX5_areBytes 0 = .ok (.iconst 0, 1) := by decide +kernel
theorem dX5_areBytes_1 : decode cX5_areBytes 1 = .ok (.istore_n 3, 1) := by decide +kernel
theorem dX5_areBytes_2 : decode cX5_areBytes 2 = .ok (.iload_n 3, 1) := by decide +kernel
theorem dX5_areBytes_3 : decode cX5_areBytes 3 = .ok (.iload_n 2, 1) := by decide +kernel
theorem dX5_areBytes_4 : decode cX5_areBytes 4 = .ok (.if_icmp .ge 32, 3) := by decide +kernel
theorem dX5_areBytes_36 : decode cX5_areBytes 36 = .ok (.iconst 1, 1) := by decide +kernel
theorem dX5_areBytes_37 : decode cX5_areBytes 37 = .ok (.ireturn, 1) := by decide +kernel
theorem dX5_areBytes_7 : decode cX5_areBytes 7 = .ok (.lload_n 0, 1) := by decide +kernel
theorem dX5_areBytes_8 : decode cX5_areBytes 8 = .ok (.iload_n 3, 1) := by decide +kernel
theorem dX5_areBytes_9 : decode cX5_areBytes 9 = .ok (.invokestatic 55, 3) := by decide +kernel
set_option maxRecDepth 20000 in
theorem ggX5_areBytes_X5_byteOf : GoodIn wsX5_areBytes wsX5_byteOf := goodIn_r _ [4, 5] (by decide +kernel) (by decide +kernel)
set_option maxRecDepth 20000 in
theorem gX5_areBytes_X5_byteOf : GoodIn wsX5_areBytes (va_wsS RX5 55 yX5_byteOf wsX5_byteOf) := goodIn_app (goodIn_of _ (by decide +kernel)) ggX5_areBytes_X5_byteOf
theorem dX5_areBytes_12 : decode cX5_areBytes 12 = .ok (.istore 4, 2) := by decide +kernel
theorem dX5_areBytes_14 : decode cX5_areBytes 14 = .ok (.iload 4, 2) := by decide +kernel
theorem dX5_areBytes_16 : decode cX5_areBytes 16 = .ok (.bipush 32, 2) := by decide +kernel
theorem dX5_areBytes_18 : decode cX5_areBytes 18 = .ok (.if_icmp .lt 10, 3) := by decide +kernel
theorem dX5_areBytes_28 : decode cX5_areBytes 28 = .ok (.iconst 0, 1) := by decide +kernel
theorem dX5_areBytes_29 : decode cX5_areBytes 29 = .ok (.ireturn, 1) := by decide +kernel
theorem dX5_areBytes_21 : decode cX5_areBytes 21 = .ok (.iload 4, 2) := by decide +kernel
theorem dX5_areBytes_23 : decode cX5_areBytes 23 = .ok (.bipush 126, 2) := by decide +kernel
theorem dX5_areBytes_25 : decode cX5_areBytes 25 = .ok (.if_icmp .le 5, 3) := by decide +kernel
theorem dX5_areBytes_30 : decode cX5_areBytes 30 = .ok (.iinc 3 1, 3) := by decide +kernel
theorem dX5_areBytes_33 : decode cX5_areBytes 33 = .ok (.goto (-31), 3) := by decide +kernel
def f_X5_areBytes_L2 (a_w : Int64) (a_n : Int32) : Nat → Int32 → Int32
  | 0, _ => 0
  | n_1 + 1, v3_1 => if a_n ≤ v3_1 then (1 : Int32) else if (f_X5_byteOf a_w v3_1) < (32 : Int32) then (0 : Int32) else if (f_X5_byteOf a_w v3_1) ≤ (126 : Int32) then (f_X5_areBytes_L2 a_w a_n n_1) (v3_1 + (1 : Int32)) else (0 : Int32)
def f_X5_areBytes (a_w : Int64) (a_n : Int32) : Int32 := f_X5_areBytes_L2 a_w a_n 5000000000 (0 : Int32)
set_option maxHeartbeats 4000000 in
set_option maxRecDepth 100000 in
theorem c_X5_areBytes (l : Launch) (dC : Nat → ClassId) (dI : Nat → Nat → Nat) (cI cJ : ClassId) (sz : Nat) (a_w : Int64) (a_n : Int32) : Met l yX5_areBytes wsX5_areBytes ({ frames := 1, cells := 0, slots := 0, locals := 22 } : Room) (va_Pc [.long a_w, .int a_n] (PreW dC dI cI cJ sz [])) (va_Qi (fun (r : Int32) (_ : Unit) => r = f_X5_areBytes a_w a_n) (fun (_ : Unit) _ => True) (fun q => sz ≤ q)) 0 0 (fun q => sz ≤ q) := by
  refine Met.ofW (cc := cX5_areBytes) (maxL := 5) (ret := (some .boolean)) (by decide) rfl ?_
  intro p e s m args below meth c s₁ B hml hv
  obtain ⟨rfl, hsz, hP, hK, hN, hD0⟩ := hv
  have hx := B.exec
  have hb := B.bytes
  have hr := B.returns
  have hts := atoms_spec (ws := wsX5_areBytes) B.pre
  have hown : s.vm.findClass RX5 = some m.cls := findClass_of_methodNamed B.named
  have hlocks := B.notSynchronized
  subst hsz
  have hD := hD0
  generalize hAe : (fun q => s.heap.size ≤ q) = A
  have hA : ∀ q : Nat, s.heap.size ≤ q → A q := fun q h => by rw [← hAe]; exact h
  have hS : va_S A s.heap s.heap [] := va_S.rf
  have hP : va_P (dC, dI) vwCl [] s.heap := hP
  have hl := lv_entry ([.long a_w, .int a_n]) (n := 5) (Nat.le_of_ble_eq_true rfl)
  rw [lg_entry_eq]
  generalize (lg_sl ([.long a_w, .int a_n]) ++ List.replicate (5 - (lg_sl ([.long a_w, .int a_n])).length) Slot.unset).toArray = ls at hl ⊢
  have hl : lv_has ls 5 [(0, .long a_w), (2, .int a_n)] := hl
  refine W_nm (fun QQ hQQ => ?_)
  refine lv_iconst (v := (0 : Int32)) hx hb dX5_areBytes_0 (by decide) ?_
  refine lv_istore_n (lv' := [(3, .int (0 : Int32)), (0, .long a_w), (2, .int a_n)]) hx hb dX5_areBytes_1 rfl hl (by decide) rfl (fun ls hl => ?_)
  have hloop_1 : ∀ (n_1 : Nat) (v3_1 : Int32) , (a_n.toInt - v3_1.toInt).toNat < n_1 → f_X5_areBytes a_w a_n = f_X5_areBytes_L2 a_w a_n n_1 v3_1 → ∀ (H : Heap) (locs : List Loc), va_P (dC, dI) vwCl [] H → va_D (fun _ => True) [] → va_S A s.heap H locs → ∀ ls : Array Slot, lv_has ls 5 [(0, .long a_w), (2, .int a_n), (3, .int v3_1)] → W p l e (headSpec wsX5_areBytes ({ frames := 1, cells := 0, slots := 0, locals := 22 } : Room)).room s m ([.long a_w, .int a_n] : List Value).toArray below meth c H locs 0 0 QQ (F0 m 2 ls []) := by
    intro n_1
    induction n_1 with
    | zero => intro v3_1  hmu; exact absurd hmu (Nat.not_lt_zero _)
    | succ n_1 ih_1 =>
      intro v3_1  hmu_1 hI_1 H locs hP hD hS ls hl
      have rb := ti_rng a_n
      have rx := ti_rng v3_1
      refine lv_iload_n hx hb dX5_areBytes_2 rfl (lv_at hl 2 rfl) ?_
      refine lv_iload_n hx hb dX5_areBytes_3 rfl (lv_at hl 1 rfl) ?_
      refine lv_icmp_ge (tgt := 36) hx hb dX5_areBytes_4 (by decide) (fun c_2 => ?_) (fun c_2 => ?_)
      · have tc_2 : a_n.toInt ≤ v3_1.toInt := q_le c_2
        refine lv_iconst (v := (1 : Int32)) hx hb dX5_areBytes_36 (by decide) ?_
        rw [hQQ]
        have hE : f_X5_areBytes a_w a_n = (1 : Int32) := (hI_1.trans (by rw [f_X5_areBytes_L2, if_pos c_2]))
        exact W.zret (v := (1 : Int32)) hx hb hr (by decide) (fun t ht hW => ⟨⟨(1 : Int32), (), rfl, by rw [hE], trivial⟩, hS.F ht⟩) hS.2.2 dX5_areBytes_37
      · have tc_2 : v3_1.toInt < a_n.toInt := q_nle c_2
        refine lv_lload_n hx hb dX5_areBytes_7 rfl (lv_at hl 0 rfl) ?_
        refine lv_iload_n hx hb dX5_areBytes_8 rfl (lv_at hl 2 rfl) ?_
        have hPc := hP.sub (ws' := []) [] rfl
        have hDc := hD.sub (ws' := []) [] (by decide) rfl
        refine va_calli (va_runS (As := [.long a_w, .int v3_1]) (rest := []) ⟨hx, hb, hml, hown, hts⟩ (c_X5_byteOf l dC dI cI cJ H.size a_w v3_1) (va_cwS 2 hts gX5_areBytes_X5_byteOf rfl rfl rfl (by decide +kernel) ⟨Nat.le_of_ble_eq_true rfl, Nat.le_of_ble_eq_true rfl⟩) ⟨fun a U g mk q => ⟨q.1, PreW.call g mk a q.2⟩, fun U hU hW => ⟨rfl, PreW.mk2 hU hW hPc hK hN (hDc.weaken (fun _ _ _ _ => trivial))⟩⟩ rfl rfl hl.1 rfl (lv_room (Nat.le_of_ble_eq_true rfl)) dX5_areBytes_9 ⟨Nat.le_of_ble_eq_true rfl, Nat.le_of_ble_eq_true rfl⟩) hS (fun q hq h => absurd hq (Nat.not_lt.mpr h)) (fun q h => hA q (Nat.le_trans hS.1 h)) (fun r_3 _u t H1 locs ht hvm hw hB hz1 hk1 hS => ?_)
        have hP := va_ro hP hk1
        generalize H1 = H at hP hS ⊢
        have hw : r_3 = f_X5_byteOf a_w v3_1 := hw
        subst hw
        obtain ⟨z_4, hz_4⟩ : ∃ z : Int32, z = f_X5_byteOf a_w v3_1 := ⟨_, rfl⟩
        refine lv_istore (lv' := [(4, .int (f_X5_byteOf a_w v3_1)), (0, .long a_w), (2, .int a_n), (3, .int v3_1)]) hx hb dX5_areBytes_12 hl (by decide) rfl (fun ls hl => ?_)
        refine lv_iload hx hb dX5_areBytes_14 (lv_at hl 0 rfl) ?_
        refine lv_bipush (v := (32 : Int32)) hx hb dX5_areBytes_16 (by decide) ?_
        refine lv_icmp_lt (tgt := 28) hx hb dX5_areBytes_18 (by decide) (fun c_5 => ?_) (fun c_5 => ?_)
        · have tc_5 : z_4.toInt < (32 : Int) := by rw [hz_4]; exact q_lt c_5
          refine lv_iconst (v := (0 : Int32)) hx hb dX5_areBytes_28 (by decide) ?_
          rw [hQQ]
          have hE : f_X5_areBytes a_w a_n = (0 : Int32) := (hI_1.trans (by rw [f_X5_areBytes_L2, if_neg c_2, if_pos c_5]))
          exact W.zret (v := (0 : Int32)) hx hb hr (by decide) (fun t ht hW => ⟨⟨(0 : Int32), (), rfl, by rw [hE], trivial⟩, hS.F ht⟩) hS.2.2 dX5_areBytes_29
        · have tc_5 : (32 : Int) ≤ z_4.toInt := by rw [hz_4]; exact q_nlt c_5
          refine lv_iload hx hb dX5_areBytes_21 (lv_at hl 0 rfl) ?_
          refine lv_bipush (v := (126 : Int32)) hx hb dX5_areBytes_23 (by decide) ?_
          refine lv_icmp_le (tgt := 30) hx hb dX5_areBytes_25 (by decide) (fun c_6 => ?_) (fun c_6 => ?_)
          · have tc_6 : z_4.toInt ≤ (126 : Int) := by rw [hz_4]; exact q_le c_6
            refine lv_iinc (v := (v3_1 + (1 : Int32))) (lv' := [(3, .int (v3_1 + (1 : Int32))), (4, .int (f_X5_byteOf a_w v3_1)), (0, .long a_w), (2, .int a_n)]) hx hb dX5_areBytes_30 hl (k := 3) rfl rfl (by decide) rfl (fun ls hl => ?_)
            obtain ⟨z_7, hz_7⟩ : ∃ z : Int32, z = (v3_1 + (1 : Int32)) := ⟨_, rfl⟩
            try have gz_7 : z_7.toInt = v3_1.toInt + (1 : Int) := by rw [hz_7]; exact ti_add2 rfl rfl (by omega) (by omega)
            refine lv_goto (tgt := 2) hx hb dX5_areBytes_33 (by decide) ?_
            exact ih_1 (v3_1 + (1 : Int32)) (by rw [← hz_7]; omega) (hI_1.trans (by rw [f_X5_areBytes_L2, if_neg c_2, if_neg c_5, if_pos c_6])) _ _ hP hD hS ls (lv_sub hl [2, 3, 0] rfl)
          · have tc_6 : (126 : Int) < z_4.toInt := by rw [hz_4]; exact q_nle c_6
            refine lv_iconst (v := (0 : Int32)) hx hb dX5_areBytes_28 (by decide) ?_
            rw [hQQ]
            have hE : f_X5_areBytes a_w a_n = (0 : Int32) := (hI_1.trans (by rw [f_X5_areBytes_L2, if_neg c_2, if_neg c_5, if_neg c_6]))
            exact W.zret (v := (0 : Int32)) hx hb hr (by decide) (fun t ht hW => ⟨⟨(0 : Int32), (), rfl, by rw [hE], trivial⟩, hS.F ht⟩) hS.2.2 dX5_areBytes_29
  have rb := ti_rng a_n
  have rx := ti_rng (0 : Int32)
  exact hloop_1 5000000000 (0 : Int32) (by first | omega | exact (show (a_n.toInt - (0 : Int)).toNat < 5000000000 by omega)) (by rw [f_X5_areBytes]) _ _ hP hD hS ls (lv_sub hl [1, 2, 0] rfl)
theorem dJ6_bitCount_0f7a4_0 : decode cJ6_bitCount_0f7a4 0 = .ok (.iload_n 0, 1) := by decide +kernel
theorem dJ6_bitCount_0f7a4_1 : decode cJ6_bitCount_0f7a4 1 = .ok (.iload_n 0, 1) := by decide +kernel
theorem dJ6_bitCount_0f7a4_2 : decode cJ6_bitCount_0f7a4 2 = .ok (.iconst 1, 1) := by decide +kernel
theorem dJ6_bitCount_0f7a4_3 : decode cJ6_bitCount_0f7a4 3 = .ok (.iushr, 1) := by decide +kernel
theorem dJ6_bitCount_0f7a4_4 : decode cJ6_bitCount_0f7a4 4 = .ok (.ldc_w 265, 3) := by decide +kernel
theorem m_J6_bitCount_0f7a4_1 : (.constant RJ6 265 (1431655765) : Cond) ∈ wsJ6_bitCount_0f7a4 := List.mem_of_getElem? (i := 1) (by decide +kernel)
theorem dJ6_bitCount_0f7a4_7 : decode cJ6_bitCount_0f7a4 7 = .ok (.iand, 1) := by decide +kernel
theorem dJ6_bitCount_0f7a4_8 : decode cJ6_bitCount_0f7a4 8 = .ok (.isub, 1) := by decide +kernel
theorem dJ6_bitCount_0f7a4_9 : decode cJ6_bitCount_0f7a4 9 = .ok (.istore_n 0, 1) := by decide +kernel
theorem dJ6_bitCount_0f7a4_10 : decode cJ6_bitCount_0f7a4 10 = .ok (.iload_n 0, 1) := by decide +kernel
theorem dJ6_bitCount_0f7a4_11 : decode cJ6_bitCount_0f7a4 11 = .ok (.ldc_w 266, 3) := by decide +kernel
theorem m_J6_bitCount_0f7a4_2 : (.constant RJ6 266 (858993459) : Cond) ∈ wsJ6_bitCount_0f7a4 := List.mem_of_getElem? (i := 2) (by decide +kernel)
theorem dJ6_bitCount_0f7a4_14 : decode cJ6_bitCount_0f7a4 14 = .ok (.iand, 1) := by decide +kernel
theorem dJ6_bitCount_0f7a4_15 : decode cJ6_bitCount_0f7a4 15 = .ok (.iload_n 0, 1) := by decide +kernel
theorem dJ6_bitCount_0f7a4_16 : decode cJ6_bitCount_0f7a4 16 = .ok (.iconst 2, 1) := by decide +kernel
theorem dJ6_bitCount_0f7a4_17 : decode cJ6_bitCount_0f7a4 17 = .ok (.iushr, 1) := by decide +kernel
theorem dJ6_bitCount_0f7a4_18 : decode cJ6_bitCount_0f7a4 18 = .ok (.ldc_w 266, 3) := by decide +kernel
theorem dJ6_bitCount_0f7a4_21 : decode cJ6_bitCount_0f7a4 21 = .ok (.iand, 1) := by decide +kernel
theorem dJ6_bitCount_0f7a4_22 : decode cJ6_bitCount_0f7a4 22 = .ok (.iadd, 1) := by decide +kernel
theorem dJ6_bitCount_0f7a4_23 : decode cJ6_bitCount_0f7a4 23 = .ok (.istore_n 0, 1) := by decide +kernel
theorem dJ6_bitCount_0f7a4_24 : decode cJ6_bitCount_0f7a4 24 = .ok (.iload_n 0, 1) := by decide +kernel
theorem dJ6_bitCount_0f7a4_25 : decode cJ6_bitCount_0f7a4 25 = .ok (.iload_n 0, 1) := by decide +kernel
theorem dJ6_bitCount_0f7a4_26 : decode cJ6_bitCount_0f7a4 26 = .ok (.iconst 4, 1) := by decide +kernel
theorem dJ6_bitCount_0f7a4_27 : decode cJ6_bitCount_0f7a4 27 = .ok (.iushr, 1) := by decide +kernel
theorem dJ6_bitCount_0f7a4_28 : decode cJ6_bitCount_0f7a4 28 = .ok (.iadd, 1) := by decide +kernel
theorem dJ6_bitCount_0f7a4_29 : decode cJ6_bitCount_0f7a4 29 = .ok (.ldc_w 267, 3) := by decide +kernel
theorem m_J6_bitCount_0f7a4_3 : (.constant RJ6 267 (252645135) : Cond) ∈ wsJ6_bitCount_0f7a4 := List.mem_of_getElem? (i := 3) (by decide +kernel)
theorem dJ6_bitCount_0f7a4_32 : decode cJ6_bitCount_0f7a4 32 = .ok (.iand, 1) := by decide +kernel
theorem dJ6_bitCount_0f7a4_33 : decode cJ6_bitCount_0f7a4 33 = .ok (.istore_n 0, 1) := by decide +kernel
theorem dJ6_bitCount_0f7a4_34 : decode cJ6_bitCount_0f7a4 34 = .ok (.iload_n 0, 1) := by decide +kernel
theorem dJ6_bitCount_0f7a4_35 : decode cJ6_bitCount_0f7a4 35 = .ok (.iload_n 0, 1) := by decide +kernel
theorem dJ6_bitCount_0f7a4_36 : decode cJ6_bitCount_0f7a4 36 = .ok (.bipush 8, 2) := by decide +kernel
theorem dJ6_bitCount_0f7a4_38 : decode cJ6_bitCount_0f7a4 38 = .ok (.iushr, 1) := by decide +kernel
theorem dJ6_bitCount_0f7a4_39 : decode cJ6_bitCount_0f7a4 39 = .ok (.iadd, 1) := by decide +kernel
theorem dJ6_bitCount_0f7a4_40 : decode cJ6_bitCount_0f7a4 40 = .ok (.istore_n 0, 1) := by decide +kernel
theorem dJ6_bitCount_0f7a4_41 : decode cJ6_bitCount_0f7a4 41 = .ok (.iload_n 0, 1) := by decide +kernel
theorem dJ6_bitCount_0f7a4_42 : decode cJ6_bitCount_0f7a4 42 = .ok (.iload_n 0, 1) := by decide +kernel
theorem dJ6_bitCount_0f7a4_43 : decode cJ6_bitCount_0f7a4 43 = .ok (.bipush 16, 2) := by decide +kernel
theorem dJ6_bitCount_0f7a4_45 : decode cJ6_bitCount_0f7a4 45 = .ok (.iushr, 1) := by decide +kernel
theorem dJ6_bitCount_0f7a4_46 : decode cJ6_bitCount_0f7a4 46 = .ok (.iadd, 1) := by decide +kernel
theorem dJ6_bitCount_0f7a4_47 : decode cJ6_bitCount_0f7a4 47 = .ok (.istore_n 0, 1) := by decide +kernel
theorem dJ6_bitCount_0f7a4_48 : decode cJ6_bitCount_0f7a4 48 = .ok (.iload_n 0, 1) := by decide +kernel
theorem dJ6_bitCount_0f7a4_49 : decode cJ6_bitCount_0f7a4 49 = .ok (.bipush 63, 2) := by decide +kernel
theorem dJ6_bitCount_0f7a4_51 : decode cJ6_bitCount_0f7a4 51 = .ok (.iand, 1) := by decide +kernel
theorem dJ6_bitCount_0f7a4_52 : decode cJ6_bitCount_0f7a4 52 = .ok (.ireturn, 1) := by decide +kernel
def f_J6_bitCount_0f7a4 (a_x : Int32) : Int32 := ((((((((a_x - (((a_x.toUInt32 >>> ((1 : Int32).toUInt32 &&& Int32.toUInt32 31)).toInt32) &&& (1431655765 : Int32))) &&& (858993459 : Int32)) + ((((a_x - (((a_x.toUInt32 >>> ((1 : Int32).toUInt32 &&& Int32.toUInt32 31)).toInt32) &&& (1431655765 : Int32))).toUInt32 >>> ((2 : Int32).toUInt32 &&& Int32.toUInt32 31)).toInt32) &&& (858993459 : Int32))) + (((((a_x - (((a_x.toUInt32 >>> ((1 : Int32).toUInt32 &&& Int32.toUInt32 31)).toInt32) &&& (1431655765 : Int32))) &&& (858993459 : Int32)) + ((((a_x - (((a_x.toUInt32 >>> ((1 : Int32).toUInt32 &&& Int32.toUInt32 31)).toInt32) &&& (1431655765 : Int32))).toUInt32 >>> ((2 : Int32).toUInt32 &&& Int32.toUInt32 31)).toInt32) &&& (858993459 : Int32))).toUInt32 >>> ((4 : Int32).toUInt32 &&& Int32.toUInt32 31)).toInt32)) &&& (252645135 : Int32)) + (((((((a_x - (((a_x.toUInt32 >>> ((1 : Int32).toUInt32 &&& Int32.toUInt32 31)).toInt32) &&& (1431655765 : Int32))) &&& (858993459 : Int32)) + ((((a_x - (((a_x.toUInt32 >>> ((1 : Int32).toUInt32 &&& Int32.toUInt32 31)).toInt32) &&& (1431655765 : Int32))).toUInt32 >>> ((2 : Int32).toUInt32 &&& Int32.toUInt32 31)).toInt32) &&& (858993459 : Int32))) + (((((a_x - (((a_x.toUInt32 >>> ((1 : Int32).toUInt32 &&& Int32.toUInt32 31)).toInt32) &&& (1431655765 : Int32))) &&& (858993459 : Int32)) + ((((a_x - (((a_x.toUInt32 >>> ((1 : Int32).toUInt32 &&& Int32.toUInt32 31)).toInt32) &&& (1431655765 : Int32))).toUInt32 >>> ((2 : Int32).toUInt32 &&& Int32.toUInt32 31)).toInt32) &&& (858993459 : Int32))).toUInt32 >>> ((4 : Int32).toUInt32 &&& Int32.toUInt32 31)).toInt32)) &&& (252645135 : Int32)).toUInt32 >>> ((8 : Int32).toUInt32 &&& Int32.toUInt32 31)).toInt32)) + ((((((((a_x - (((a_x.toUInt32 >>> ((1 : Int32).toUInt32 &&& Int32.toUInt32 31)).toInt32) &&& (1431655765 : Int32))) &&& (858993459 : Int32)) + ((((a_x - (((a_x.toUInt32 >>> ((1 : Int32).toUInt32 &&& Int32.toUInt32 31)).toInt32) &&& (1431655765 : Int32))).toUInt32 >>> ((2 : Int32).toUInt32 &&& Int32.toUInt32 31)).toInt32) &&& (858993459 : Int32))) + (((((a_x - (((a_x.toUInt32 >>> ((1 : Int32).toUInt32 &&& Int32.toUInt32 31)).toInt32) &&& (1431655765 : Int32))) &&& (858993459 : Int32)) + ((((a_x - (((a_x.toUInt32 >>> ((1 : Int32).toUInt32 &&& Int32.toUInt32 31)).toInt32) &&& (1431655765 : Int32))).toUInt32 >>> ((2 : Int32).toUInt32 &&& Int32.toUInt32 31)).toInt32) &&& (858993459 : Int32))).toUInt32 >>> ((4 : Int32).toUInt32 &&& Int32.toUInt32 31)).toInt32)) &&& (252645135 : Int32)) + (((((((a_x - (((a_x.toUInt32 >>> ((1 : Int32).toUInt32 &&& Int32.toUInt32 31)).toInt32) &&& (1431655765 : Int32))) &&& (858993459 : Int32)) + ((((a_x - (((a_x.toUInt32 >>> ((1 : Int32).toUInt32 &&& Int32.toUInt32 31)).toInt32) &&& (1431655765 : Int32))).toUInt32 >>> ((2 : Int32).toUInt32 &&& Int32.toUInt32 31)).toInt32) &&& (858993459 : Int32))) + (((((a_x - (((a_x.toUInt32 >>> ((1 : Int32).toUInt32 &&& Int32.toUInt32 31)).toInt32) &&& (1431655765 : Int32))) &&& (858993459 : Int32)) + ((((a_x - (((a_x.toUInt32 >>> ((1 : Int32).toUInt32 &&& Int32.toUInt32 31)).toInt32) &&& (1431655765 : Int32))).toUInt32 >>> ((2 : Int32).toUInt32 &&& Int32.toUInt32 31)).toInt32) &&& (858993459 : Int32))).toUInt32 >>> ((4 : Int32).toUInt32 &&& Int32.toUInt32 31)).toInt32)) &&& (252645135 : Int32)).toUInt32 >>> ((8 : Int32).toUInt32 &&& Int32.toUInt32 31)).toInt32)).toUInt32 >>> ((16 : Int32).toUInt32 &&& Int32.toUInt32 31)).toInt32)) &&& (63 : Int32))
set_option maxHeartbeats 4000000 in
set_option maxRecDepth 100000 in
theorem c_J6_bitCount_0f7a4 (l : Launch) (dC : Nat → ClassId) (dI : Nat → Nat → Nat) (cI cJ : ClassId) (sz : Nat) (a_x : Int32) : Met l yJ6_bitCount_0f7a4 wsJ6_bitCount_0f7a4 ({ frames := 0, cells := 0, slots := 0, locals := 0 } : Room) (va_Pc [.int a_x] (PreW dC dI cI cJ sz [])) (va_Qi (fun (r : Int32) (_ : Unit) => r = f_J6_bitCount_0f7a4 a_x) (fun (_ : Unit) _ => True) (fun q => sz ≤ q)) 0 0 (fun q => sz ≤ q) := by
  refine Met.ofW (cc := cJ6_bitCount_0f7a4) (maxL := 1) (ret := (some .int)) (by decide) rfl ?_
  intro p e s m args below meth c s₁ B hml hv
  obtain ⟨rfl, hsz, hP, hK, hN, hD0⟩ := hv
  have hx := B.exec
  have hb := B.bytes
  have hr := B.returns
  have hts := atoms_spec (ws := wsJ6_bitCount_0f7a4) B.pre
  have hown : s.vm.findClass RJ6 = some m.cls := findClass_of_methodNamed B.named
  have hlocks := B.notSynchronized
  subst hsz
  have hD := hD0
  generalize hAe : (fun q => s.heap.size ≤ q) = A
  have hA : ∀ q : Nat, s.heap.size ≤ q → A q := fun q h => by rw [← hAe]; exact h
  have hS : va_S A s.heap s.heap [] := va_S.rf
  have hP : va_P (dC, dI) vwCl [] s.heap := hP
  have hl := lv_entry ([.int a_x]) (n := 1) (Nat.le_of_ble_eq_true rfl)
  rw [lg_entry_eq]
  generalize (lg_sl ([.int a_x]) ++ List.replicate (1 - (lg_sl ([.int a_x])).length) Slot.unset).toArray = ls at hl ⊢
  have hl : lv_has ls 1 [(0, .int a_x)] := hl
  refine lv_iload_n hx hb dJ6_bitCount_0f7a4_0 rfl (lv_at hl 0 rfl) ?_
  refine lv_iload_n hx hb dJ6_bitCount_0f7a4_1 rfl (lv_at hl 0 rfl) ?_
  refine lv_iconst (v := (1 : Int32)) hx hb dJ6_bitCount_0f7a4_2 (by decide) ?_
  refine lv_iushr (v := ((a_x.toUInt32 >>> ((1 : Int32).toUInt32 &&& Int32.toUInt32 31)).toInt32)) hx hb dJ6_bitCount_0f7a4_3 rfl ?_
  refine lv_ldcw (v := (1431655765 : Int32)) hx hb hown (hts _ m_J6_bitCount_0f7a4_1) dJ6_bitCount_0f7a4_4 ?_
  refine lv_iand hx hb dJ6_bitCount_0f7a4_7 ?_
  refine lv_isub hx hb dJ6_bitCount_0f7a4_8 ?_
  refine lv_istore_n (lv' := [(0, .int (a_x - (((a_x.toUInt32 >>> ((1 : Int32).toUInt32 &&& Int32.toUInt32 31)).toInt32) &&& (1431655765 : Int32))))]) hx hb dJ6_bitCount_0f7a4_9 rfl hl (by decide) rfl (fun ls hl => ?_)
  refine lv_iload_n hx hb dJ6_bitCount_0f7a4_10 rfl (lv_at hl 0 rfl) ?_
  refine lv_ldcw (v := (858993459 : Int32)) hx hb hown (hts _ m_J6_bitCount_0f7a4_2) dJ6_bitCount_0f7a4_11 ?_
  refine lv_iand hx hb dJ6_bitCount_0f7a4_14 ?_
  refine lv_iload_n hx hb dJ6_bitCount_0f7a4_15 rfl (lv_at hl 0 rfl) ?_
  refine lv_iconst (v := (2 : Int32)) hx hb dJ6_bitCount_0f7a4_16 (by decide) ?_
  refine lv_iushr (v := (((a_x - (((a_x.toUInt32 >>> ((1 : Int32).toUInt32 &&& Int32.toUInt32 31)).toInt32) &&& (1431655765 : Int32))).toUInt32 >>> ((2 : Int32).toUInt32 &&& Int32.toUInt32 31)).toInt32)) hx hb dJ6_bitCount_0f7a4_17 rfl ?_
  refine lv_ldcw (v := (858993459 : Int32)) hx hb hown (hts _ m_J6_bitCount_0f7a4_2) dJ6_bitCount_0f7a4_18 ?_
  refine lv_iand hx hb dJ6_bitCount_0f7a4_21 ?_
  refine lv_iadd hx hb dJ6_bitCount_0f7a4_22 ?_
  refine lv_istore_n (lv' := [(0, .int (((a_x - (((a_x.toUInt32 >>> ((1 : Int32).toUInt32 &&& Int32.toUInt32 31)).toInt32) &&& (1431655765 : Int32))) &&& (858993459 : Int32)) + ((((a_x - (((a_x.toUInt32 >>> ((1 : Int32).toUInt32 &&& Int32.toUInt32 31)).toInt32) &&& (1431655765 : Int32))).toUInt32 >>> ((2 : Int32).toUInt32 &&& Int32.toUInt32 31)).toInt32) &&& (858993459 : Int32))))]) hx hb dJ6_bitCount_0f7a4_23 rfl hl (by decide) rfl (fun ls hl => ?_)
  refine lv_iload_n hx hb dJ6_bitCount_0f7a4_24 rfl (lv_at hl 0 rfl) ?_
  refine lv_iload_n hx hb dJ6_bitCount_0f7a4_25 rfl (lv_at hl 0 rfl) ?_
  refine lv_iconst (v := (4 : Int32)) hx hb dJ6_bitCount_0f7a4_26 (by decide) ?_
  refine lv_iushr (v := (((((a_x - (((a_x.toUInt32 >>> ((1 : Int32).toUInt32 &&& Int32.toUInt32 31)).toInt32) &&& (1431655765 : Int32))) &&& (858993459 : Int32)) + ((((a_x - (((a_x.toUInt32 >>> ((1 : Int32).toUInt32 &&& Int32.toUInt32 31)).toInt32) &&& (1431655765 : Int32))).toUInt32 >>> ((2 : Int32).toUInt32 &&& Int32.toUInt32 31)).toInt32) &&& (858993459 : Int32))).toUInt32 >>> ((4 : Int32).toUInt32 &&& Int32.toUInt32 31)).toInt32)) hx hb dJ6_bitCount_0f7a4_27 rfl ?_
  refine lv_iadd hx hb dJ6_bitCount_0f7a4_28 ?_
  refine lv_ldcw (v := (252645135 : Int32)) hx hb hown (hts _ m_J6_bitCount_0f7a4_3) dJ6_bitCount_0f7a4_29 ?_
  refine lv_iand hx hb dJ6_bitCount_0f7a4_32 ?_
  refine lv_istore_n (lv' := [(0, .int (((((a_x - (((a_x.toUInt32 >>> ((1 : Int32).toUInt32 &&& Int32.toUInt32 31)).toInt32) &&& (1431655765 : Int32))) &&& (858993459 : Int32)) + ((((a_x - (((a_x.toUInt32 >>> ((1 : Int32).toUInt32 &&& Int32.toUInt32 31)).toInt32) &&& (1431655765 : Int32))).toUInt32 >>> ((2 : Int32).toUInt32 &&& Int32.toUInt32 31)).toInt32) &&& (858993459 : Int32))) + (((((a_x - (((a_x.toUInt32 >>> ((1 : Int32).toUInt32 &&& Int32.toUInt32 31)).toInt32) &&& (1431655765 : Int32))) &&& (858993459 : Int32)) + ((((a_x - (((a_x.toUInt32 >>> ((1 : Int32).toUInt32 &&& Int32.toUInt32 31)).toInt32) &&& (1431655765 : Int32))).toUInt32 >>> ((2 : Int32).toUInt32 &&& Int32.toUInt32 31)).toInt32) &&& (858993459 : Int32))).toUInt32 >>> ((4 : Int32).toUInt32 &&& Int32.toUInt32 31)).toInt32)) &&& (252645135 : Int32)))]) hx hb dJ6_bitCount_0f7a4_33 rfl hl (by decide) rfl (fun ls hl => ?_)
  refine lv_iload_n hx hb dJ6_bitCount_0f7a4_34 rfl (lv_at hl 0 rfl) ?_
  refine lv_iload_n hx hb dJ6_bitCount_0f7a4_35 rfl (lv_at hl 0 rfl) ?_
  refine lv_bipush (v := (8 : Int32)) hx hb dJ6_bitCount_0f7a4_36 (by decide) ?_
  refine lv_iushr (v := (((((((a_x - (((a_x.toUInt32 >>> ((1 : Int32).toUInt32 &&& Int32.toUInt32 31)).toInt32) &&& (1431655765 : Int32))) &&& (858993459 : Int32)) + ((((a_x - (((a_x.toUInt32 >>> ((1 : Int32).toUInt32 &&& Int32.toUInt32 31)).toInt32) &&& (1431655765 : Int32))).toUInt32 >>> ((2 : Int32).toUInt32 &&& Int32.toUInt32 31)).toInt32) &&& (858993459 : Int32))) + (((((a_x - (((a_x.toUInt32 >>> ((1 : Int32).toUInt32 &&& Int32.toUInt32 31)).toInt32) &&& (1431655765 : Int32))) &&& (858993459 : Int32)) + ((((a_x - (((a_x.toUInt32 >>> ((1 : Int32).toUInt32 &&& Int32.toUInt32 31)).toInt32) &&& (1431655765 : Int32))).toUInt32 >>> ((2 : Int32).toUInt32 &&& Int32.toUInt32 31)).toInt32) &&& (858993459 : Int32))).toUInt32 >>> ((4 : Int32).toUInt32 &&& Int32.toUInt32 31)).toInt32)) &&& (252645135 : Int32)).toUInt32 >>> ((8 : Int32).toUInt32 &&& Int32.toUInt32 31)).toInt32)) hx hb dJ6_bitCount_0f7a4_38 rfl ?_
  refine lv_iadd hx hb dJ6_bitCount_0f7a4_39 ?_
  refine lv_istore_n (lv' := [(0, .int ((((((a_x - (((a_x.toUInt32 >>> ((1 : Int32).toUInt32 &&& Int32.toUInt32 31)).toInt32) &&& (1431655765 : Int32))) &&& (858993459 : Int32)) + ((((a_x - (((a_x.toUInt32 >>> ((1 : Int32).toUInt32 &&& Int32.toUInt32 31)).toInt32) &&& (1431655765 : Int32))).toUInt32 >>> ((2 : Int32).toUInt32 &&& Int32.toUInt32 31)).toInt32) &&& (858993459 : Int32))) + (((((a_x - (((a_x.toUInt32 >>> ((1 : Int32).toUInt32 &&& Int32.toUInt32 31)).toInt32) &&& (1431655765 : Int32))) &&& (858993459 : Int32)) + ((((a_x - (((a_x.toUInt32 >>> ((1 : Int32).toUInt32 &&& Int32.toUInt32 31)).toInt32) &&& (1431655765 : Int32))).toUInt32 >>> ((2 : Int32).toUInt32 &&& Int32.toUInt32 31)).toInt32) &&& (858993459 : Int32))).toUInt32 >>> ((4 : Int32).toUInt32 &&& Int32.toUInt32 31)).toInt32)) &&& (252645135 : Int32)) + (((((((a_x - (((a_x.toUInt32 >>> ((1 : Int32).toUInt32 &&& Int32.toUInt32 31)).toInt32) &&& (1431655765 : Int32))) &&& (858993459 : Int32)) + ((((a_x - (((a_x.toUInt32 >>> ((1 : Int32).toUInt32 &&& Int32.toUInt32 31)).toInt32) &&& (1431655765 : Int32))).toUInt32 >>> ((2 : Int32).toUInt32 &&& Int32.toUInt32 31)).toInt32) &&& (858993459 : Int32))) + (((((a_x - (((a_x.toUInt32 >>> ((1 : Int32).toUInt32 &&& Int32.toUInt32 31)).toInt32) &&& (1431655765 : Int32))) &&& (858993459 : Int32)) + ((((a_x - (((a_x.toUInt32 >>> ((1 : Int32).toUInt32 &&& Int32.toUInt32 31)).toInt32) &&& (1431655765 : Int32))).toUInt32 >>> ((2 : Int32).toUInt32 &&& Int32.toUInt32 31)).toInt32) &&& (858993459 : Int32))).toUInt32 >>> ((4 : Int32).toUInt32 &&& Int32.toUInt32 31)).toInt32)) &&& (252645135 : Int32)).toUInt32 >>> ((8 : Int32).toUInt32 &&& Int32.toUInt32 31)).toInt32)))]) hx hb dJ6_bitCount_0f7a4_40 rfl hl (by decide) rfl (fun ls hl => ?_)
  refine lv_iload_n hx hb dJ6_bitCount_0f7a4_41 rfl (lv_at hl 0 rfl) ?_
  refine lv_iload_n hx hb dJ6_bitCount_0f7a4_42 rfl (lv_at hl 0 rfl) ?_
  refine lv_bipush (v := (16 : Int32)) hx hb dJ6_bitCount_0f7a4_43 (by decide) ?_
  refine lv_iushr (v := ((((((((a_x - (((a_x.toUInt32 >>> ((1 : Int32).toUInt32 &&& Int32.toUInt32 31)).toInt32) &&& (1431655765 : Int32))) &&& (858993459 : Int32)) + ((((a_x - (((a_x.toUInt32 >>> ((1 : Int32).toUInt32 &&& Int32.toUInt32 31)).toInt32) &&& (1431655765 : Int32))).toUInt32 >>> ((2 : Int32).toUInt32 &&& Int32.toUInt32 31)).toInt32) &&& (858993459 : Int32))) + (((((a_x - (((a_x.toUInt32 >>> ((1 : Int32).toUInt32 &&& Int32.toUInt32 31)).toInt32) &&& (1431655765 : Int32))) &&& (858993459 : Int32)) + ((((a_x - (((a_x.toUInt32 >>> ((1 : Int32).toUInt32 &&& Int32.toUInt32 31)).toInt32) &&& (1431655765 : Int32))).toUInt32 >>> ((2 : Int32).toUInt32 &&& Int32.toUInt32 31)).toInt32) &&& (858993459 : Int32))).toUInt32 >>> ((4 : Int32).toUInt32 &&& Int32.toUInt32 31)).toInt32)) &&& (252645135 : Int32)) + (((((((a_x - (((a_x.toUInt32 >>> ((1 : Int32).toUInt32 &&& Int32.toUInt32 31)).toInt32) &&& (1431655765 : Int32))) &&& (858993459 : Int32)) + ((((a_x - (((a_x.toUInt32 >>> ((1 : Int32).toUInt32 &&& Int32.toUInt32 31)).toInt32) &&& (1431655765 : Int32))).toUInt32 >>> ((2 : Int32).toUInt32 &&& Int32.toUInt32 31)).toInt32) &&& (858993459 : Int32))) + (((((a_x - (((a_x.toUInt32 >>> ((1 : Int32).toUInt32 &&& Int32.toUInt32 31)).toInt32) &&& (1431655765 : Int32))) &&& (858993459 : Int32)) + ((((a_x - (((a_x.toUInt32 >>> ((1 : Int32).toUInt32 &&& Int32.toUInt32 31)).toInt32) &&& (1431655765 : Int32))).toUInt32 >>> ((2 : Int32).toUInt32 &&& Int32.toUInt32 31)).toInt32) &&& (858993459 : Int32))).toUInt32 >>> ((4 : Int32).toUInt32 &&& Int32.toUInt32 31)).toInt32)) &&& (252645135 : Int32)).toUInt32 >>> ((8 : Int32).toUInt32 &&& Int32.toUInt32 31)).toInt32)).toUInt32 >>> ((16 : Int32).toUInt32 &&& Int32.toUInt32 31)).toInt32)) hx hb dJ6_bitCount_0f7a4_45 rfl ?_
  refine lv_iadd hx hb dJ6_bitCount_0f7a4_46 ?_
  refine lv_istore_n (lv' := [(0, .int (((((((a_x - (((a_x.toUInt32 >>> ((1 : Int32).toUInt32 &&& Int32.toUInt32 31)).toInt32) &&& (1431655765 : Int32))) &&& (858993459 : Int32)) + ((((a_x - (((a_x.toUInt32 >>> ((1 : Int32).toUInt32 &&& Int32.toUInt32 31)).toInt32) &&& (1431655765 : Int32))).toUInt32 >>> ((2 : Int32).toUInt32 &&& Int32.toUInt32 31)).toInt32) &&& (858993459 : Int32))) + (((((a_x - (((a_x.toUInt32 >>> ((1 : Int32).toUInt32 &&& Int32.toUInt32 31)).toInt32) &&& (1431655765 : Int32))) &&& (858993459 : Int32)) + ((((a_x - (((a_x.toUInt32 >>> ((1 : Int32).toUInt32 &&& Int32.toUInt32 31)).toInt32) &&& (1431655765 : Int32))).toUInt32 >>> ((2 : Int32).toUInt32 &&& Int32.toUInt32 31)).toInt32) &&& (858993459 : Int32))).toUInt32 >>> ((4 : Int32).toUInt32 &&& Int32.toUInt32 31)).toInt32)) &&& (252645135 : Int32)) + (((((((a_x - (((a_x.toUInt32 >>> ((1 : Int32).toUInt32 &&& Int32.toUInt32 31)).toInt32) &&& (1431655765 : Int32))) &&& (858993459 : Int32)) + ((((a_x - (((a_x.toUInt32 >>> ((1 : Int32).toUInt32 &&& Int32.toUInt32 31)).toInt32) &&& (1431655765 : Int32))).toUInt32 >>> ((2 : Int32).toUInt32 &&& Int32.toUInt32 31)).toInt32) &&& (858993459 : Int32))) + (((((a_x - (((a_x.toUInt32 >>> ((1 : Int32).toUInt32 &&& Int32.toUInt32 31)).toInt32) &&& (1431655765 : Int32))) &&& (858993459 : Int32)) + ((((a_x - (((a_x.toUInt32 >>> ((1 : Int32).toUInt32 &&& Int32.toUInt32 31)).toInt32) &&& (1431655765 : Int32))).toUInt32 >>> ((2 : Int32).toUInt32 &&& Int32.toUInt32 31)).toInt32) &&& (858993459 : Int32))).toUInt32 >>> ((4 : Int32).toUInt32 &&& Int32.toUInt32 31)).toInt32)) &&& (252645135 : Int32)).toUInt32 >>> ((8 : Int32).toUInt32 &&& Int32.toUInt32 31)).toInt32)) + ((((((((a_x - (((a_x.toUInt32 >>> ((1 : Int32).toUInt32 &&& Int32.toUInt32 31)).toInt32) &&& (1431655765 : Int32))) &&& (858993459 : Int32)) + ((((a_x - (((a_x.toUInt32 >>> ((1 : Int32).toUInt32 &&& Int32.toUInt32 31)).toInt32) &&& (1431655765 : Int32))).toUInt32 >>> ((2 : Int32).toUInt32 &&& Int32.toUInt32 31)).toInt32) &&& (858993459 : Int32))) + (((((a_x - (((a_x.toUInt32 >>> ((1 : Int32).toUInt32 &&& Int32.toUInt32 31)).toInt32) &&& (1431655765 : Int32))) &&& (858993459 : Int32)) + ((((a_x - (((a_x.toUInt32 >>> ((1 : Int32).toUInt32 &&& Int32.toUInt32 31)).toInt32) &&& (1431655765 : Int32))).toUInt32 >>> ((2 : Int32).toUInt32 &&& Int32.toUInt32 31)).toInt32) &&& (858993459 : Int32))).toUInt32 >>> ((4 : Int32).toUInt32 &&& Int32.toUInt32 31)).toInt32)) &&& (252645135 : Int32)) + (((((((a_x - (((a_x.toUInt32 >>> ((1 : Int32).toUInt32 &&& Int32.toUInt32 31)).toInt32) &&& (1431655765 : Int32))) &&& (858993459 : Int32)) + ((((a_x - (((a_x.toUInt32 >>> ((1 : Int32).toUInt32 &&& Int32.toUInt32 31)).toInt32) &&& (1431655765 : Int32))).toUInt32 >>> ((2 : Int32).toUInt32 &&& Int32.toUInt32 31)).toInt32) &&& (858993459 : Int32))) + (((((a_x - (((a_x.toUInt32 >>> ((1 : Int32).toUInt32 &&& Int32.toUInt32 31)).toInt32) &&& (1431655765 : Int32))) &&& (858993459 : Int32)) + ((((a_x - (((a_x.toUInt32 >>> ((1 : Int32).toUInt32 &&& Int32.toUInt32 31)).toInt32) &&& (1431655765 : Int32))).toUInt32 >>> ((2 : Int32).toUInt32 &&& Int32.toUInt32 31)).toInt32) &&& (858993459 : Int32))).toUInt32 >>> ((4 : Int32).toUInt32 &&& Int32.toUInt32 31)).toInt32)) &&& (252645135 : Int32)).toUInt32 >>> ((8 : Int32).toUInt32 &&& Int32.toUInt32 31)).toInt32)).toUInt32 >>> ((16 : Int32).toUInt32 &&& Int32.toUInt32 31)).toInt32)))]) hx hb dJ6_bitCount_0f7a4_47 rfl hl (by decide) rfl (fun ls hl => ?_)
  refine lv_iload_n hx hb dJ6_bitCount_0f7a4_48 rfl (lv_at hl 0 rfl) ?_
  refine lv_bipush (v := (63 : Int32)) hx hb dJ6_bitCount_0f7a4_49 (by decide) ?_
  refine lv_iand hx hb dJ6_bitCount_0f7a4_51 ?_
  have hE : f_J6_bitCount_0f7a4 a_x = ((((((((a_x - (((a_x.toUInt32 >>> ((1 : Int32).toUInt32 &&& Int32.toUInt32 31)).toInt32) &&& (1431655765 : Int32))) &&& (858993459 : Int32)) + ((((a_x - (((a_x.toUInt32 >>> ((1 : Int32).toUInt32 &&& Int32.toUInt32 31)).toInt32) &&& (1431655765 : Int32))).toUInt32 >>> ((2 : Int32).toUInt32 &&& Int32.toUInt32 31)).toInt32) &&& (858993459 : Int32))) + (((((a_x - (((a_x.toUInt32 >>> ((1 : Int32).toUInt32 &&& Int32.toUInt32 31)).toInt32) &&& (1431655765 : Int32))) &&& (858993459 : Int32)) + ((((a_x - (((a_x.toUInt32 >>> ((1 : Int32).toUInt32 &&& Int32.toUInt32 31)).toInt32) &&& (1431655765 : Int32))).toUInt32 >>> ((2 : Int32).toUInt32 &&& Int32.toUInt32 31)).toInt32) &&& (858993459 : Int32))).toUInt32 >>> ((4 : Int32).toUInt32 &&& Int32.toUInt32 31)).toInt32)) &&& (252645135 : Int32)) + (((((((a_x - (((a_x.toUInt32 >>> ((1 : Int32).toUInt32 &&& Int32.toUInt32 31)).toInt32) &&& (1431655765 : Int32))) &&& (858993459 : Int32)) + ((((a_x - (((a_x.toUInt32 >>> ((1 : Int32).toUInt32 &&& Int32.toUInt32 31)).toInt32) &&& (1431655765 : Int32))).toUInt32 >>> ((2 : Int32).toUInt32 &&& Int32.toUInt32 31)).toInt32) &&& (858993459 : Int32))) + (((((a_x - (((a_x.toUInt32 >>> ((1 : Int32).toUInt32 &&& Int32.toUInt32 31)).toInt32) &&& (1431655765 : Int32))) &&& (858993459 : Int32)) + ((((a_x - (((a_x.toUInt32 >>> ((1 : Int32).toUInt32 &&& Int32.toUInt32 31)).toInt32) &&& (1431655765 : Int32))).toUInt32 >>> ((2 : Int32).toUInt32 &&& Int32.toUInt32 31)).toInt32) &&& (858993459 : Int32))).toUInt32 >>> ((4 : Int32).toUInt32 &&& Int32.toUInt32 31)).toInt32)) &&& (252645135 : Int32)).toUInt32 >>> ((8 : Int32).toUInt32 &&& Int32.toUInt32 31)).toInt32)) + ((((((((a_x - (((a_x.toUInt32 >>> ((1 : Int32).toUInt32 &&& Int32.toUInt32 31)).toInt32) &&& (1431655765 : Int32))) &&& (858993459 : Int32)) + ((((a_x - (((a_x.toUInt32 >>> ((1 : Int32).toUInt32 &&& Int32.toUInt32 31)).toInt32) &&& (1431655765 : Int32))).toUInt32 >>> ((2 : Int32).toUInt32 &&& Int32.toUInt32 31)).toInt32) &&& (858993459 : Int32))) + (((((a_x - (((a_x.toUInt32 >>> ((1 : Int32).toUInt32 &&& Int32.toUInt32 31)).toInt32) &&& (1431655765 : Int32))) &&& (858993459 : Int32)) + ((((a_x - (((a_x.toUInt32 >>> ((1 : Int32).toUInt32 &&& Int32.toUInt32 31)).toInt32) &&& (1431655765 : Int32))).toUInt32 >>> ((2 : Int32).toUInt32 &&& Int32.toUInt32 31)).toInt32) &&& (858993459 : Int32))).toUInt32 >>> ((4 : Int32).toUInt32 &&& Int32.toUInt32 31)).toInt32)) &&& (252645135 : Int32)) + (((((((a_x - (((a_x.toUInt32 >>> ((1 : Int32).toUInt32 &&& Int32.toUInt32 31)).toInt32) &&& (1431655765 : Int32))) &&& (858993459 : Int32)) + ((((a_x - (((a_x.toUInt32 >>> ((1 : Int32).toUInt32 &&& Int32.toUInt32 31)).toInt32) &&& (1431655765 : Int32))).toUInt32 >>> ((2 : Int32).toUInt32 &&& Int32.toUInt32 31)).toInt32) &&& (858993459 : Int32))) + (((((a_x - (((a_x.toUInt32 >>> ((1 : Int32).toUInt32 &&& Int32.toUInt32 31)).toInt32) &&& (1431655765 : Int32))) &&& (858993459 : Int32)) + ((((a_x - (((a_x.toUInt32 >>> ((1 : Int32).toUInt32 &&& Int32.toUInt32 31)).toInt32) &&& (1431655765 : Int32))).toUInt32 >>> ((2 : Int32).toUInt32 &&& Int32.toUInt32 31)).toInt32) &&& (858993459 : Int32))).toUInt32 >>> ((4 : Int32).toUInt32 &&& Int32.toUInt32 31)).toInt32)) &&& (252645135 : Int32)).toUInt32 >>> ((8 : Int32).toUInt32 &&& Int32.toUInt32 31)).toInt32)).toUInt32 >>> ((16 : Int32).toUInt32 &&& Int32.toUInt32 31)).toInt32)) &&& (63 : Int32)) := (by rw [f_J6_bitCount_0f7a4])
  exact W.iret (v := ((((((((a_x - (((a_x.toUInt32 >>> ((1 : Int32).toUInt32 &&& Int32.toUInt32 31)).toInt32) &&& (1431655765 : Int32))) &&& (858993459 : Int32)) + ((((a_x - (((a_x.toUInt32 >>> ((1 : Int32).toUInt32 &&& Int32.toUInt32 31)).toInt32) &&& (1431655765 : Int32))).toUInt32 >>> ((2 : Int32).toUInt32 &&& Int32.toUInt32 31)).toInt32) &&& (858993459 : Int32))) + (((((a_x - (((a_x.toUInt32 >>> ((1 : Int32).toUInt32 &&& Int32.toUInt32 31)).toInt32) &&& (1431655765 : Int32))) &&& (858993459 : Int32)) + ((((a_x - (((a_x.toUInt32 >>> ((1 : Int32).toUInt32 &&& Int32.toUInt32 31)).toInt32) &&& (1431655765 : Int32))).toUInt32 >>> ((2 : Int32).toUInt32 &&& Int32.toUInt32 31)).toInt32) &&& (858993459 : Int32))).toUInt32 >>> ((4 : Int32).toUInt32 &&& Int32.toUInt32 31)).toInt32)) &&& (252645135 : Int32)) + (((((((a_x - (((a_x.toUInt32 >>> ((1 : Int32).toUInt32 &&& Int32.toUInt32 31)).toInt32) &&& (1431655765 : Int32))) &&& (858993459 : Int32)) + ((((a_x - (((a_x.toUInt32 >>> ((1 : Int32).toUInt32 &&& Int32.toUInt32 31)).toInt32) &&& (1431655765 : Int32))).toUInt32 >>> ((2 : Int32).toUInt32 &&& Int32.toUInt32 31)).toInt32) &&& (858993459 : Int32))) + (((((a_x - (((a_x.toUInt32 >>> ((1 : Int32).toUInt32 &&& Int32.toUInt32 31)).toInt32) &&& (1431655765 : Int32))) &&& (858993459 : Int32)) + ((((a_x - (((a_x.toUInt32 >>> ((1 : Int32).toUInt32 &&& Int32.toUInt32 31)).toInt32) &&& (1431655765 : Int32))).toUInt32 >>> ((2 : Int32).toUInt32 &&& Int32.toUInt32 31)).toInt32) &&& (858993459 : Int32))).toUInt32 >>> ((4 : Int32).toUInt32 &&& Int32.toUInt32 31)).toInt32)) &&& (252645135 : Int32)).toUInt32 >>> ((8 : Int32).toUInt32 &&& Int32.toUInt32 31)).toInt32)) + ((((((((a_x - (((a_x.toUInt32 >>> ((1 : Int32).toUInt32 &&& Int32.toUInt32 31)).toInt32) &&& (1431655765 : Int32))) &&& (858993459 : Int32)) + ((((a_x - (((a_x.toUInt32 >>> ((1 : Int32).toUInt32 &&& Int32.toUInt32 31)).toInt32) &&& (1431655765 : Int32))).toUInt32 >>> ((2 : Int32).toUInt32 &&& Int32.toUInt32 31)).toInt32) &&& (858993459 : Int32))) + (((((a_x - (((a_x.toUInt32 >>> ((1 : Int32).toUInt32 &&& Int32.toUInt32 31)).toInt32) &&& (1431655765 : Int32))) &&& (858993459 : Int32)) + ((((a_x - (((a_x.toUInt32 >>> ((1 : Int32).toUInt32 &&& Int32.toUInt32 31)).toInt32) &&& (1431655765 : Int32))).toUInt32 >>> ((2 : Int32).toUInt32 &&& Int32.toUInt32 31)).toInt32) &&& (858993459 : Int32))).toUInt32 >>> ((4 : Int32).toUInt32 &&& Int32.toUInt32 31)).toInt32)) &&& (252645135 : Int32)) + (((((((a_x - (((a_x.toUInt32 >>> ((1 : Int32).toUInt32 &&& Int32.toUInt32 31)).toInt32) &&& (1431655765 : Int32))) &&& (858993459 : Int32)) + ((((a_x - (((a_x.toUInt32 >>> ((1 : Int32).toUInt32 &&& Int32.toUInt32 31)).toInt32) &&& (1431655765 : Int32))).toUInt32 >>> ((2 : Int32).toUInt32 &&& Int32.toUInt32 31)).toInt32) &&& (858993459 : Int32))) + (((((a_x - (((a_x.toUInt32 >>> ((1 : Int32).toUInt32 &&& Int32.toUInt32 31)).toInt32) &&& (1431655765 : Int32))) &&& (858993459 : Int32)) + ((((a_x - (((a_x.toUInt32 >>> ((1 : Int32).toUInt32 &&& Int32.toUInt32 31)).toInt32) &&& (1431655765 : Int32))).toUInt32 >>> ((2 : Int32).toUInt32 &&& Int32.toUInt32 31)).toInt32) &&& (858993459 : Int32))).toUInt32 >>> ((4 : Int32).toUInt32 &&& Int32.toUInt32 31)).toInt32)) &&& (252645135 : Int32)).toUInt32 >>> ((8 : Int32).toUInt32 &&& Int32.toUInt32 31)).toInt32)).toUInt32 >>> ((16 : Int32).toUInt32 &&& Int32.toUInt32 31)).toInt32)) &&& (63 : Int32))) hx hb hr (fun t ht hW => ⟨⟨((((((((a_x - (((a_x.toUInt32 >>> ((1 : Int32).toUInt32 &&& Int32.toUInt32 31)).toInt32) &&& (1431655765 : Int32))) &&& (858993459 : Int32)) + ((((a_x - (((a_x.toUInt32 >>> ((1 : Int32).toUInt32 &&& Int32.toUInt32 31)).toInt32) &&& (1431655765 : Int32))).toUInt32 >>> ((2 : Int32).toUInt32 &&& Int32.toUInt32 31)).toInt32) &&& (858993459 : Int32))) + (((((a_x - (((a_x.toUInt32 >>> ((1 : Int32).toUInt32 &&& Int32.toUInt32 31)).toInt32) &&& (1431655765 : Int32))) &&& (858993459 : Int32)) + ((((a_x - (((a_x.toUInt32 >>> ((1 : Int32).toUInt32 &&& Int32.toUInt32 31)).toInt32) &&& (1431655765 : Int32))).toUInt32 >>> ((2 : Int32).toUInt32 &&& Int32.toUInt32 31)).toInt32) &&& (858993459 : Int32))).toUInt32 >>> ((4 : Int32).toUInt32 &&& Int32.toUInt32 31)).toInt32)) &&& (252645135 : Int32)) + (((((((a_x - (((a_x.toUInt32 >>> ((1 : Int32).toUInt32 &&& Int32.toUInt32 31)).toInt32) &&& (1431655765 : Int32))) &&& (858993459 : Int32)) + ((((a_x - (((a_x.toUInt32 >>> ((1 : Int32).toUInt32 &&& Int32.toUInt32 31)).toInt32) &&& (1431655765 : Int32))).toUInt32 >>> ((2 : Int32).toUInt32 &&& Int32.toUInt32 31)).toInt32) &&& (858993459 : Int32))) + (((((a_x - (((a_x.toUInt32 >>> ((1 : Int32).toUInt32 &&& Int32.toUInt32 31)).toInt32) &&& (1431655765 : Int32))) &&& (858993459 : Int32)) + ((((a_x - (((a_x.toUInt32 >>> ((1 : Int32).toUInt32 &&& Int32.toUInt32 31)).toInt32) &&& (1431655765 : Int32))).toUInt32 >>> ((2 : Int32).toUInt32 &&& Int32.toUInt32 31)).toInt32) &&& (858993459 : Int32))).toUInt32 >>> ((4 : Int32).toUInt32 &&& Int32.toUInt32 31)).toInt32)) &&& (252645135 : Int32)).toUInt32 >>> ((8 : Int32).toUInt32 &&& Int32.toUInt32 31)).toInt32)) + ((((((((a_x - (((a_x.toUInt32 >>> ((1 : Int32).toUInt32 &&& Int32.toUInt32 31)).toInt32) &&& (1431655765 : Int32))) &&& (858993459 : Int32)) + ((((a_x - (((a_x.toUInt32 >>> ((1 : Int32).toUInt32 &&& Int32.toUInt32 31)).toInt32) &&& (1431655765 : Int32))).toUInt32 >>> ((2 : Int32).toUInt32 &&& Int32.toUInt32 31)).toInt32) &&& (858993459 : Int32))) + (((((a_x - (((a_x.toUInt32 >>> ((1 : Int32).toUInt32 &&& Int32.toUInt32 31)).toInt32) &&& (1431655765 : Int32))) &&& (858993459 : Int32)) + ((((a_x - (((a_x.toUInt32 >>> ((1 : Int32).toUInt32 &&& Int32.toUInt32 31)).toInt32) &&& (1431655765 : Int32))).toUInt32 >>> ((2 : Int32).toUInt32 &&& Int32.toUInt32 31)).toInt32) &&& (858993459 : Int32))).toUInt32 >>> ((4 : Int32).toUInt32 &&& Int32.toUInt32 31)).toInt32)) &&& (252645135 : Int32)) + (((((((a_x - (((a_x.toUInt32 >>> ((1 : Int32).toUInt32 &&& Int32.toUInt32 31)).toInt32) &&& (1431655765 : Int32))) &&& (858993459 : Int32)) + ((((a_x - (((a_x.toUInt32 >>> ((1 : Int32).toUInt32 &&& Int32.toUInt32 31)).toInt32) &&& (1431655765 : Int32))).toUInt32 >>> ((2 : Int32).toUInt32 &&& Int32.toUInt32 31)).toInt32) &&& (858993459 : Int32))) + (((((a_x - (((a_x.toUInt32 >>> ((1 : Int32).toUInt32 &&& Int32.toUInt32 31)).toInt32) &&& (1431655765 : Int32))) &&& (858993459 : Int32)) + ((((a_x - (((a_x.toUInt32 >>> ((1 : Int32).toUInt32 &&& Int32.toUInt32 31)).toInt32) &&& (1431655765 : Int32))).toUInt32 >>> ((2 : Int32).toUInt32 &&& Int32.toUInt32 31)).toInt32) &&& (858993459 : Int32))).toUInt32 >>> ((4 : Int32).toUInt32 &&& Int32.toUInt32 31)).toInt32)) &&& (252645135 : Int32)).toUInt32 >>> ((8 : Int32).toUInt32 &&& Int32.toUInt32 31)).toInt32)).toUInt32 >>> ((16 : Int32).toUInt32 &&& Int32.toUInt32 31)).toInt32)) &&& (63 : Int32)), (), rfl, by rw [hE], trivial⟩, hS.F ht⟩) hS.2.2 dJ6_bitCount_0f7a4_52
theorem dX3_add_0 : decode cX3_add 0 = .ok (.aload_n 0, 1) := by decide +kernel
theorem dX3_add_1 : decode cX3_add 1 = .ok (.getfield 15, 3) := by decide +kernel
theorem in_X3_add_X3 : ∀ w ∈ wsX30, w ∈ wsX3_add := by decide +kernel
theorem m_X3_add_1 : (.fieldLink RX3 15 "RedlineDesk$Tape" "size" "I" : Cond) ∈ wsX3_add := List.mem_of_getElem? (i := 1) (by decide +kernel)
theorem dX3_add_4 : decode cX3_add 4 = .ok (.ifCond .lt 32, 3) := by decide +kernel
theorem dX3_add_36 : decode cX3_add 36 = .ok (.return_, 1) := by decide +kernel
theorem dX3_add_7 : decode cX3_add 7 = .ok (.aload_n 0, 1) := by decide +kernel
theorem dX3_add_8 : decode cX3_add 8 = .ok (.getfield 15, 3) := by decide +kernel
theorem dX3_add_11 : decode cX3_add 11 = .ok (.bipush 120, 2) := by decide +kernel
theorem dX3_add_13 : decode cX3_add 13 = .ok (.if_icmp .ge 23, 3) := by decide +kernel
theorem dX3_add_16 : decode cX3_add 16 = .ok (.aload_n 0, 1) := by decide +kernel
theorem dX3_add_17 : decode cX3_add 17 = .ok (.getfield 9, 3) := by decide +kernel
theorem m_X3_add_2 : (.fieldLink RX3 9 "RedlineDesk$Tape" "bytes" "[I" : Cond) ∈ wsX3_add := List.mem_of_getElem? (i := 2) (by decide +kernel)
theorem dX3_add_20 : decode cX3_add 20 = .ok (.aload_n 0, 1) := by decide +kernel
theorem dX3_add_21 : decode cX3_add 21 = .ok (.getfield 15, 3) := by decide +kernel
theorem dX3_add_24 : decode cX3_add 24 = .ok (.iload_n 1, 1) := by decide +kernel
theorem dX3_add_25 : decode cX3_add 25 = .ok (.iastore, 1) := by decide +kernel
theorem dX3_add_26 : decode cX3_add 26 = .ok (.aload_n 0, 1) := by decide +kernel
theorem dX3_add_27 : decode cX3_add 27 = .ok (.dup, 1) := by decide +kernel
theorem dX3_add_28 : decode cX3_add 28 = .ok (.getfield 15, 3) := by decide +kernel
theorem dX3_add_31 : decode cX3_add 31 = .ok (.iconst 1, 1) := by decide +kernel
theorem dX3_add_32 : decode cX3_add 32 = .ok (.iadd, 1) := by decide +kernel
theorem dX3_add_33 : decode cX3_add 33 = .ok (.putfield 15, 3) := by decide +kernel
def f_X3_add (zt_bytes : Nat → Int32) (zt_size : Int32) (a_b : Int32) : (Nat → Int32) × Int32 := if zt_size < (0 : Int32) then (zt_bytes, zt_size) else if (120 : Int32) ≤ zt_size then (zt_bytes, zt_size) else ((upd zt_bytes (zt_size).toNatClampNeg a_b), (zt_size + (1 : Int32)))
set_option maxHeartbeats 4000000 in
set_option maxRecDepth 100000 in
theorem c_X3_add (l : Launch) (dC : Nat → ClassId) (dI : Nat → Nat → Nat) (cI cJ : ClassId) (sz : Nat) (zt azt_bytes : Nat) (zt_bytes : Nat → Int32) (zt_size : Int32) (a_b : Int32) : Met l yX3_add wsX3_add ({ frames := 0, cells := 0, slots := 0, locals := 0 } : Room) (va_Pc [.ref zt, .int a_b] (PreW dC dI cI cJ sz [(zt, .inr (3, [.ref azt_bytes, .int zt_size])), (azt_bytes, .inl (cI, 120, .inl zt_bytes))])) (va_Qv (fun (u : (Nat → Int32) × Int32) => u = f_X3_add zt_bytes zt_size a_b) (fun (u : (Nat → Int32) × Int32) t => PostW dC dI [(zt, .inr (3, [.ref azt_bytes, .int u.2])), (azt_bytes, .inl (cI, 120, .inl u.1))] t (va_A [(zt, .inr (3, [.ref azt_bytes, .int zt_size])), (azt_bytes, .inl (cI, 120, .inl zt_bytes))] sz)) (va_A [(zt, .inr (3, [.ref azt_bytes, .int zt_size])), (azt_bytes, .inl (cI, 120, .inl zt_bytes))] sz)) 0 0 (va_A [(zt, .inr (3, [.ref azt_bytes, .int zt_size])), (azt_bytes, .inl (cI, 120, .inl zt_bytes))] sz) := by
  refine Met.ofW (cc := cX3_add) (maxL := 2) (ret := none) (by decide) rfl ?_
  intro p e s m args below meth c s₁ B hml hv
  obtain ⟨rfl, hsz, hP, hK, hN, hD0⟩ := hv
  have hx := B.exec
  have hb := B.bytes
  have hr := B.returns
  have hts := atoms_spec (ws := wsX3_add) B.pre
  have hown : s.vm.findClass RX3 = some m.cls := findClass_of_methodNamed B.named
  have hlocks := B.notSynchronized
  subst hsz
  have hD := hD0.self (sz := s.heap.size)
  generalize hAe : va_A [(zt, .inr (3, [.ref azt_bytes, .int zt_size])), (azt_bytes, .inl (cI, 120, .inl zt_bytes))] s.heap.size = A at hD ⊢
  have hA : ∀ q : Nat, s.heap.size ≤ q → A q := fun q h => by rw [← hAe]; exact Or.inr h
  have hS : va_S A s.heap s.heap [] := va_S.rf
  have hP : va_P (dC, dI) vwCl [(zt, .inr (3, [.ref azt_bytes, .int zt_size])), (azt_bytes, .inl (cI, 120, .inl zt_bytes))] s.heap := hP
  have hl := lv_entry ([.ref zt, .int a_b]) (n := 2) (Nat.le_of_ble_eq_true rfl)
  rw [lg_entry_eq]
  generalize (lg_sl ([.ref zt, .int a_b]) ++ List.replicate (2 - (lg_sl ([.ref zt, .int a_b])).length) Slot.unset).toArray = ls at hl ⊢
  have hl : lv_has ls 2 [(0, .ref zt), (1, .int a_b)] := hl
  refine lv_aload_n hx hb dX3_add_0 rfl (lv_at hl 0 rfl) ?_
  refine va_get (D := (dC, dI)) (ci := 3) (v := .int zt_size) (C := RX3) (T := TX3) (N := 2) hx hb hts in_X3_add_X3 hown hK hP 0 rfl rfl 1 (by decide) (hts _ m_X3_add_1) (fun _ h9 => h9) rfl dX3_add_1 ?_
  refine lv_if_lt (tgt := 36) hx hb dX3_add_4 (by decide) (fun c_1 => ?_) (fun c_1 => ?_)
  · have tc_1 : zt_size.toInt < (0 : Int) := q_lt c_1
    have hE : f_X3_add zt_bytes zt_size a_b = (zt_bytes, zt_size) := (by rw [f_X3_add, if_pos c_1])
    exact W.vret hx hb hr (fun t ht hW => ⟨⟨(zt_bytes, zt_size), rfl, by rw [hE], ⟨by rw [ht]; exact hP, hD⟩⟩, hS.F ht⟩) hS.2.2 dX3_add_36
  · have tc_1 : (0 : Int) ≤ zt_size.toInt := q_nlt c_1
    refine lv_aload_n hx hb dX3_add_7 rfl (lv_at hl 0 rfl) ?_
    refine va_get (D := (dC, dI)) (ci := 3) (v := .int zt_size) (C := RX3) (T := TX3) (N := 2) hx hb hts in_X3_add_X3 hown hK hP 0 rfl rfl 1 (by decide) (hts _ m_X3_add_1) (fun _ h9 => h9) rfl dX3_add_8 ?_
    refine lv_bipush (v := (120 : Int32)) hx hb dX3_add_11 (by decide) ?_
    refine lv_icmp_ge (tgt := 36) hx hb dX3_add_13 (by decide) (fun c_2 => ?_) (fun c_2 => ?_)
    · have tc_2 : (120 : Int) ≤ zt_size.toInt := q_le c_2
      have hE : f_X3_add zt_bytes zt_size a_b = (zt_bytes, zt_size) := (by rw [f_X3_add, if_neg c_1, if_pos c_2])
      exact W.vret hx hb hr (fun t ht hW => ⟨⟨(zt_bytes, zt_size), rfl, by rw [hE], ⟨by rw [ht]; exact hP, hD⟩⟩, hS.F ht⟩) hS.2.2 dX3_add_36
    · have tc_2 : zt_size.toInt < (120 : Int) := q_nle c_2
      refine lv_aload_n hx hb dX3_add_16 rfl (lv_at hl 0 rfl) ?_
      refine va_get (D := (dC, dI)) (ci := 3) (v := .ref azt_bytes) (C := RX3) (T := TX3) (N := 2) hx hb hts in_X3_add_X3 hown hK hP 0 rfl rfl 0 (by decide) (hts _ m_X3_add_2) (fun _ h9 => h9) rfl dX3_add_17 ?_
      refine lv_aload_n hx hb dX3_add_20 rfl (lv_at hl 0 rfl) ?_
      refine va_get (D := (dC, dI)) (ci := 3) (v := .int zt_size) (C := RX3) (T := TX3) (N := 2) hx hb hts in_X3_add_X3 hown hK hP 0 rfl rfl 1 (by decide) (hts _ m_X3_add_1) (fun _ h9 => h9) rfl dX3_add_21 ?_
      refine lv_iload_n hx hb dX3_add_24 rfl (lv_at hl 1 rfl) ?_
      refine va_iast (q0 := 1) (t0 := 0) (n := 120) (f := zt_bytes) hx hb hK hP hD hS rfl rfl (vp_in_iff.mpr ⟨by omega, by omega⟩) dX3_add_25 (fun H locs hP hD hS => ?_)
      have hP : va_P (dC, dI) vwCl [(zt, .inr (3, [.ref azt_bytes, .int zt_size])), (azt_bytes, .inl (cI, 120, .inl (upd zt_bytes (zt_size).toNatClampNeg a_b)))] H := hP
      have hD : va_D A [(zt, .inr (3, [.ref azt_bytes, .int zt_size])), (azt_bytes, .inl (cI, 120, .inl (upd zt_bytes (zt_size).toNatClampNeg a_b)))] := hD
      refine lv_aload_n hx hb dX3_add_26 rfl (lv_at hl 0 rfl) ?_
      refine lv_dup hx hb dX3_add_27 rfl ?_
      refine va_get (D := (dC, dI)) (ci := 3) (v := .int zt_size) (C := RX3) (T := TX3) (N := 2) hx hb hts in_X3_add_X3 hown hK hP 0 rfl rfl 1 (by decide) (hts _ m_X3_add_1) (fun _ h9 => h9) rfl dX3_add_28 ?_
      refine lv_iconst (v := (1 : Int32)) hx hb dX3_add_31 (by decide) ?_
      refine lv_iadd hx hb dX3_add_32 ?_
      obtain ⟨z_3, hz_3⟩ : ∃ z : Int32, z = (zt_size + (1 : Int32)) := ⟨_, rfl⟩
      try have gz_3 : z_3.toInt = zt_size.toInt + (1 : Int) := by rw [hz_3]; exact ti_add2 rfl rfl (by omega) (by omega)
      refine va_put (D := (dC, dI)) (ci := 3) (v := .int (zt_size + (1 : Int32))) (ty := .int) (C := RX3) (T := TX3) (N := 2) hx hb hts in_X3_add_X3 tyX3 tyX3_ok nmX3 hown hK hP hD hS 0 rfl rfl 1 (by decide) (hts _ m_X3_add_1) (fun _ h9 => h9) rfl (by decide +kernel) rfl rfl (Nat.le_of_ble_eq_true rfl) dX3_add_33 (fun H locs hP hD hS => ?_)
      have hP : va_P (dC, dI) vwCl [(zt, .inr (3, [.ref azt_bytes, .int (zt_size + (1 : Int32))])), (azt_bytes, .inl (cI, 120, .inl (upd zt_bytes (zt_size).toNatClampNeg a_b)))] H := hP
      have hD : va_D A [(zt, .inr (3, [.ref azt_bytes, .int (zt_size + (1 : Int32))])), (azt_bytes, .inl (cI, 120, .inl (upd zt_bytes (zt_size).toNatClampNeg a_b)))] := hD
      have hE : f_X3_add zt_bytes zt_size a_b = ((upd zt_bytes (zt_size).toNatClampNeg a_b), (zt_size + (1 : Int32))) := (by rw [f_X3_add, if_neg c_1, if_neg c_2])
      exact W.vret hx hb hr (fun t ht hW => ⟨⟨((upd zt_bytes (zt_size).toNatClampNeg a_b), (zt_size + (1 : Int32))), rfl, by rw [hE], ⟨by rw [ht]; exact hP, hD⟩⟩, hS.F ht⟩) hS.2.2 dX3_add_36
theorem dX3_byteAt_0 : decode cX3_byteAt 0 = .ok (.iload_n 1, 1) := by decide +kernel
theorem dX3_byteAt_1 : decode cX3_byteAt 1 = .ok (.ifCond .lt 26, 3) := by decide +kernel
theorem dX3_byteAt_27 : decode cX3_byteAt 27 = .ok (.iconst 0, 1) := by decide +kernel
theorem dX3_byteAt_28 : decode cX3_byteAt 28 = .ok (.ireturn, 1) := by decide +kernel
theorem dX3_byteAt_4 : decode cX3_byteAt 4 = .ok (.iload_n 1, 1) := by decide +kernel
theorem dX3_byteAt_5 : decode cX3_byteAt 5 = .ok (.aload_n 0, 1) := by decide +kernel
theorem dX3_byteAt_6 : decode cX3_byteAt 6 = .ok (.getfield 15, 3) := by decide +kernel
theorem in_X3_byteAt_X3 : ∀ w ∈ wsX30, w ∈ wsX3_byteAt := by decide +kernel
theorem m_X3_byteAt_1 : (.fieldLink RX3 15 "RedlineDesk$Tape" "size" "I" : Cond) ∈ wsX3_byteAt := List.mem_of_getElem? (i := 1) (by decide +kernel)
theorem dX3_byteAt_9 : decode cX3_byteAt 9 = .ok (.if_icmp .ge 18, 3) := by decide +kernel
theorem dX3_byteAt_12 : decode cX3_byteAt 12 = .ok (.iload_n 1, 1) := by decide +kernel
theorem dX3_byteAt_13 : decode cX3_byteAt 13 = .ok (.bipush 120, 2) := by decide +kernel
theorem dX3_byteAt_15 : decode cX3_byteAt 15 = .ok (.if_icmp .ge 12, 3) := by decide +kernel
theorem dX3_byteAt_18 : decode cX3_byteAt 18 = .ok (.aload_n 0, 1) := by decide +kernel
theorem dX3_byteAt_19 : decode cX3_byteAt 19 = .ok (.getfield 9, 3) := by decide +kernel
theorem m_X3_byteAt_2 : (.fieldLink RX3 9 "RedlineDesk$Tape" "bytes" "[I" : Cond) ∈ wsX3_byteAt := List.mem_of_getElem? (i := 2) (by decide +kernel)
theorem dX3_byteAt_22 : decode cX3_byteAt 22 = .ok (.iload_n 1, 1) := by decide +kernel
theorem dX3_byteAt_23 : decode cX3_byteAt 23 = .ok (.iaload, 1) := by decide +kernel
theorem dX3_byteAt_24 : decode cX3_byteAt 24 = .ok (.goto 4, 3) := by decide +kernel
def f_X3_byteAt (zt_bytes : Nat → Int32) (zt_size : Int32) (a_i : Int32) : Int32 := if a_i < (0 : Int32) then (0 : Int32) else if zt_size ≤ a_i then (0 : Int32) else if (120 : Int32) ≤ a_i then (0 : Int32) else (zt_bytes (a_i).toNatClampNeg)
set_option maxHeartbeats 4000000 in
set_option maxRecDepth 100000 in
theorem c_X3_byteAt (l : Launch) (dC : Nat → ClassId) (dI : Nat → Nat → Nat) (cI cJ : ClassId) (sz : Nat) (zt azt_bytes : Nat) (zt_bytes : Nat → Int32) (zt_size : Int32) (a_i : Int32) : Met l yX3_byteAt wsX3_byteAt ({ frames := 0, cells := 0, slots := 0, locals := 0 } : Room) (va_Pc [.ref zt, .int a_i] (PreW dC dI cI cJ sz [(zt, .inr (3, [.ref azt_bytes, .int zt_size])), (azt_bytes, .inl (cI, 120, .inl zt_bytes))])) (va_Qi (fun (r : Int32) (_ : Unit) => r = f_X3_byteAt zt_bytes zt_size a_i) (fun (_ : Unit) _ => True) (fun q => sz ≤ q)) 0 0 (fun q => sz ≤ q) := by
  refine Met.ofW (cc := cX3_byteAt) (maxL := 2) (ret := (some .int)) (by decide) rfl ?_
  intro p e s m args below meth c s₁ B hml hv
  obtain ⟨rfl, hsz, hP, hK, hN, hD0⟩ := hv
  have hx := B.exec
  have hb := B.bytes
  have hr := B.returns
  have hts := atoms_spec (ws := wsX3_byteAt) B.pre
  have hown : s.vm.findClass RX3 = some m.cls := findClass_of_methodNamed B.named
  have hlocks := B.notSynchronized
  subst hsz
  have hD := hD0
  generalize hAe : (fun q => s.heap.size ≤ q) = A
  have hA : ∀ q : Nat, s.heap.size ≤ q → A q := fun q h => by rw [← hAe]; exact h
  have hS : va_S A s.heap s.heap [] := va_S.rf
  have hP : va_P (dC, dI) vwCl [(zt, .inr (3, [.ref azt_bytes, .int zt_size])), (azt_bytes, .inl (cI, 120, .inl zt_bytes))] s.heap := hP
  have hl := lv_entry ([.ref zt, .int a_i]) (n := 2) (Nat.le_of_ble_eq_true rfl)
  rw [lg_entry_eq]
  generalize (lg_sl ([.ref zt, .int a_i]) ++ List.replicate (2 - (lg_sl ([.ref zt, .int a_i])).length) Slot.unset).toArray = ls at hl ⊢
  have hl : lv_has ls 2 [(0, .ref zt), (1, .int a_i)] := hl
  refine lv_iload_n hx hb dX3_byteAt_0 rfl (lv_at hl 1 rfl) ?_
  refine lv_if_lt (tgt := 27) hx hb dX3_byteAt_1 (by decide) (fun c_1 => ?_) (fun c_1 => ?_)
  · have tc_1 : a_i.toInt < (0 : Int) := q_lt c_1
    refine lv_iconst (v := (0 : Int32)) hx hb dX3_byteAt_27 (by decide) ?_
    have hE : f_X3_byteAt zt_bytes zt_size a_i = (0 : Int32) := (by rw [f_X3_byteAt, if_pos c_1])
    exact W.iret (v := (0 : Int32)) hx hb hr (fun t ht hW => ⟨⟨(0 : Int32), (), rfl, by rw [hE], trivial⟩, hS.F ht⟩) hS.2.2 dX3_byteAt_28
  · have tc_1 : (0 : Int) ≤ a_i.toInt := q_nlt c_1
    refine lv_iload_n hx hb dX3_byteAt_4 rfl (lv_at hl 1 rfl) ?_
    refine lv_aload_n hx hb dX3_byteAt_5 rfl (lv_at hl 0 rfl) ?_
    refine va_get (D := (dC, dI)) (ci := 3) (v := .int zt_size) (C := RX3) (T := TX3) (N := 2) hx hb hts in_X3_byteAt_X3 hown hK hP 0 rfl rfl 1 (by decide) (hts _ m_X3_byteAt_1) (fun _ h9 => h9) rfl dX3_byteAt_6 ?_
    refine lv_icmp_ge (tgt := 27) hx hb dX3_byteAt_9 (by decide) (fun c_2 => ?_) (fun c_2 => ?_)
    · have tc_2 : zt_size.toInt ≤ a_i.toInt := q_le c_2
      refine lv_iconst (v := (0 : Int32)) hx hb dX3_byteAt_27 (by decide) ?_
      have hE : f_X3_byteAt zt_bytes zt_size a_i = (0 : Int32) := (by rw [f_X3_byteAt, if_neg c_1, if_pos c_2])
      exact W.iret (v := (0 : Int32)) hx hb hr (fun t ht hW => ⟨⟨(0 : Int32), (), rfl, by rw [hE], trivial⟩, hS.F ht⟩) hS.2.2 dX3_byteAt_28
    · have tc_2 : a_i.toInt < zt_size.toInt := q_nle c_2
      refine lv_iload_n hx hb dX3_byteAt_12 rfl (lv_at hl 1 rfl) ?_
      refine lv_bipush (v := (120 : Int32)) hx hb dX3_byteAt_13 (by decide) ?_
      refine lv_icmp_ge (tgt := 27) hx hb dX3_byteAt_15 (by decide) (fun c_3 => ?_) (fun c_3 => ?_)
      · have tc_3 : (120 : Int) ≤ a_i.toInt := q_le c_3
        refine lv_iconst (v := (0 : Int32)) hx hb dX3_byteAt_27 (by decide) ?_
        have hE : f_X3_byteAt zt_bytes zt_size a_i = (0 : Int32) := (by rw [f_X3_byteAt, if_neg c_1, if_neg c_2, if_pos c_3])
        exact W.iret (v := (0 : Int32)) hx hb hr (fun t ht hW => ⟨⟨(0 : Int32), (), rfl, by rw [hE], trivial⟩, hS.F ht⟩) hS.2.2 dX3_byteAt_28
      · have tc_3 : a_i.toInt < (120 : Int) := q_nle c_3
        refine lv_aload_n hx hb dX3_byteAt_18 rfl (lv_at hl 0 rfl) ?_
        refine va_get (D := (dC, dI)) (ci := 3) (v := .ref azt_bytes) (C := RX3) (T := TX3) (N := 2) hx hb hts in_X3_byteAt_X3 hown hK hP 0 rfl rfl 0 (by decide) (hts _ m_X3_byteAt_2) (fun _ h9 => h9) rfl dX3_byteAt_19 ?_
        refine lv_iload_n hx hb dX3_byteAt_22 rfl (lv_at hl 1 rfl) ?_
        refine va_iald (q0 := 1) (t0 := 0) (n := 120) (f := zt_bytes) hx hb hK hP rfl rfl (vp_in_iff.mpr ⟨by omega, by omega⟩) dX3_byteAt_23 ?_
        refine lv_goto (tgt := 28) hx hb dX3_byteAt_24 (by decide) ?_
        have hE : f_X3_byteAt zt_bytes zt_size a_i = (zt_bytes (a_i).toNatClampNeg) := (by rw [f_X3_byteAt, if_neg c_1, if_neg c_2, if_neg c_3])
        exact W.iret (v := (zt_bytes (a_i).toNatClampNeg)) hx hb hr (fun t ht hW => ⟨⟨(zt_bytes (a_i).toNatClampNeg), (), rfl, by rw [hE], trivial⟩, hS.F ht⟩) hS.2.2 dX3_byteAt_28
theorem dX4_spotAt_0 : decode cX4_spotAt 0 = .ok (.iload_n 1, 1) := by decide +kernel
theorem dX4_spotAt_1 : decode cX4_spotAt 1 = .ok (.ifCond .lt 27, 3) := by decide +kernel
theorem dX4_spotAt_28 : decode cX4_spotAt 28 = .ok (.iconst (-1), 1) := by decide +kernel
theorem dX4_spotAt_29 : decode cX4_spotAt 29 = .ok (.ireturn, 1) := by decide +kernel
theorem dX4_spotAt_4 : decode cX4_spotAt 4 = .ok (.iload_n 1, 1) := by decide +kernel
theorem dX4_spotAt_5 : decode cX4_spotAt 5 = .ok (.aload_n 0, 1) := by decide +kernel
theorem dX4_spotAt_6 : decode cX4_spotAt 6 = .ok (.getfield 25, 3) := by decide +kernel
theorem in_X4_spotAt_X4 : ∀ w ∈ wsX40, w ∈ wsX4_spotAt := by decide +kernel
theorem m_X4_spotAt_1 : (.fieldLink RX4 25 "RedlineDesk$View" "size" "I" : Cond) ∈ wsX4_spotAt := List.mem_of_getElem? (i := 1) (by decide +kernel)
theorem dX4_spotAt_9 : decode cX4_spotAt 9 = .ok (.if_icmp .ge 19, 3) := by decide +kernel
theorem dX4_spotAt_12 : decode cX4_spotAt 12 = .ok (.iload_n 1, 1) := by decide +kernel
theorem dX4_spotAt_13 : decode cX4_spotAt 13 = .ok (.sipush 240, 3) := by decide +kernel
theorem dX4_spotAt_16 : decode cX4_spotAt 16 = .ok (.if_icmp .ge 12, 3) := by decide +kernel
theorem dX4_spotAt_19 : decode cX4_spotAt 19 = .ok (.aload_n 0, 1) := by decide +kernel
theorem dX4_spotAt_20 : decode cX4_spotAt 20 = .ok (.getfield 9, 3) := by decide +kernel
theorem m_X4_spotAt_2 : (.fieldLink RX4 9 "RedlineDesk$View" "spots" "[I" : Cond) ∈ wsX4_spotAt := List.mem_of_getElem? (i := 2) (by decide +kernel)
theorem dX4_spotAt_23 : decode cX4_spotAt 23 = .ok (.iload_n 1, 1) := by decide +kernel
theorem dX4_spotAt_24 : decode cX4_spotAt 24 = .ok (.iaload, 1) := by decide +kernel
theorem dX4_spotAt_25 : decode cX4_spotAt 25 = .ok (.goto 4, 3) := by decide +kernel
def f_X4_spotAt (zv_spots : Nat → Int32) (zv_size : Int32) (a_p : Int32) : Int32 := if a_p < (0 : Int32) then (-1 : Int32) else if zv_size ≤ a_p then (-1 : Int32) else if (240 : Int32) ≤ a_p then (-1 : Int32) else (zv_spots (a_p).toNatClampNeg)
set_option maxHeartbeats 4000000 in
set_option maxRecDepth 100000 in
theorem c_X4_spotAt (l : Launch) (dC : Nat → ClassId) (dI : Nat → Nat → Nat) (cI cJ : ClassId) (sz : Nat) (zv azv_spots azv_homes : Nat) (zv_spots zv_homes : Nat → Int32) (zv_size zv_counts zv_hides : Int32) (a_p : Int32) : Met l yX4_spotAt wsX4_spotAt ({ frames := 0, cells := 0, slots := 0, locals := 0 } : Room) (va_Pc [.ref zv, .int a_p] (PreW dC dI cI cJ sz [(zv, .inr (4, [.ref azv_spots, .ref azv_homes, .int zv_size, .int zv_counts, .int zv_hides])), (azv_spots, .inl (cI, 240, .inl zv_spots)), (azv_homes, .inl (cI, 240, .inl zv_homes))])) (va_Qi (fun (r : Int32) (_ : Unit) => r = f_X4_spotAt zv_spots zv_size a_p) (fun (_ : Unit) _ => True) (fun q => sz ≤ q)) 0 0 (fun q => sz ≤ q) := by
  refine Met.ofW (cc := cX4_spotAt) (maxL := 2) (ret := (some .int)) (by decide) rfl ?_
  intro p e s m args below meth c s₁ B hml hv
  obtain ⟨rfl, hsz, hP, hK, hN, hD0⟩ := hv
  have hx := B.exec
  have hb := B.bytes
  have hr := B.returns
  have hts := atoms_spec (ws := wsX4_spotAt) B.pre
  have hown : s.vm.findClass RX4 = some m.cls := findClass_of_methodNamed B.named
  have hlocks := B.notSynchronized
  subst hsz
  have hD := hD0
  generalize hAe : (fun q => s.heap.size ≤ q) = A
  have hA : ∀ q : Nat, s.heap.size ≤ q → A q := fun q h => by rw [← hAe]; exact h
  have hS : va_S A s.heap s.heap [] := va_S.rf
  have hP : va_P (dC, dI) vwCl [(zv, .inr (4, [.ref azv_spots, .ref azv_homes, .int zv_size, .int zv_counts, .int zv_hides])), (azv_spots, .inl (cI, 240, .inl zv_spots)), (azv_homes, .inl (cI, 240, .inl zv_homes))] s.heap := hP
  have hl := lv_entry ([.ref zv, .int a_p]) (n := 2) (Nat.le_of_ble_eq_true rfl)
  rw [lg_entry_eq]
  generalize (lg_sl ([.ref zv, .int a_p]) ++ List.replicate (2 - (lg_sl ([.ref zv, .int a_p])).length) Slot.unset).toArray = ls at hl ⊢
  have hl : lv_has ls 2 [(0, .ref zv), (1, .int a_p)] := hl
  refine lv_iload_n hx hb dX4_spotAt_0 rfl (lv_at hl 1 rfl) ?_
  refine lv_if_lt (tgt := 28) hx hb dX4_spotAt_1 (by decide) (fun c_1 => ?_) (fun c_1 => ?_)
  · have tc_1 : a_p.toInt < (0 : Int) := q_lt c_1
    refine lv_iconst (v := (-1 : Int32)) hx hb dX4_spotAt_28 (by decide) ?_
    have hE : f_X4_spotAt zv_spots zv_size a_p = (-1 : Int32) := (by rw [f_X4_spotAt, if_pos c_1])
    exact W.iret (v := (-1 : Int32)) hx hb hr (fun t ht hW => ⟨⟨(-1 : Int32), (), rfl, by rw [hE], trivial⟩, hS.F ht⟩) hS.2.2 dX4_spotAt_29
  · have tc_1 : (0 : Int) ≤ a_p.toInt := q_nlt c_1
    refine lv_iload_n hx hb dX4_spotAt_4 rfl (lv_at hl 1 rfl) ?_
    refine lv_aload_n hx hb dX4_spotAt_5 rfl (lv_at hl 0 rfl) ?_
    refine va_get (D := (dC, dI)) (ci := 4) (v := .int zv_size) (C := RX4) (T := TX4) (N := 5) hx hb hts in_X4_spotAt_X4 hown hK hP 0 rfl rfl 2 (by decide) (hts _ m_X4_spotAt_1) (fun _ h9 => h9) rfl dX4_spotAt_6 ?_
    refine lv_icmp_ge (tgt := 28) hx hb dX4_spotAt_9 (by decide) (fun c_2 => ?_) (fun c_2 => ?_)
    · have tc_2 : zv_size.toInt ≤ a_p.toInt := q_le c_2
      refine lv_iconst (v := (-1 : Int32)) hx hb dX4_spotAt_28 (by decide) ?_
      have hE : f_X4_spotAt zv_spots zv_size a_p = (-1 : Int32) := (by rw [f_X4_spotAt, if_neg c_1, if_pos c_2])
      exact W.iret (v := (-1 : Int32)) hx hb hr (fun t ht hW => ⟨⟨(-1 : Int32), (), rfl, by rw [hE], trivial⟩, hS.F ht⟩) hS.2.2 dX4_spotAt_29
    · have tc_2 : a_p.toInt < zv_size.toInt := q_nle c_2
      refine lv_iload_n hx hb dX4_spotAt_12 rfl (lv_at hl 1 rfl) ?_
      refine lv_sipush (v := (240 : Int32)) hx hb dX4_spotAt_13 (by decide) ?_
      refine lv_icmp_ge (tgt := 28) hx hb dX4_spotAt_16 (by decide) (fun c_3 => ?_) (fun c_3 => ?_)
      · have tc_3 : (240 : Int) ≤ a_p.toInt := q_le c_3
        refine lv_iconst (v := (-1 : Int32)) hx hb dX4_spotAt_28 (by decide) ?_
        have hE : f_X4_spotAt zv_spots zv_size a_p = (-1 : Int32) := (by rw [f_X4_spotAt, if_neg c_1, if_neg c_2, if_pos c_3])
        exact W.iret (v := (-1 : Int32)) hx hb hr (fun t ht hW => ⟨⟨(-1 : Int32), (), rfl, by rw [hE], trivial⟩, hS.F ht⟩) hS.2.2 dX4_spotAt_29
      · have tc_3 : a_p.toInt < (240 : Int) := q_nle c_3
        refine lv_aload_n hx hb dX4_spotAt_19 rfl (lv_at hl 0 rfl) ?_
        refine va_get (D := (dC, dI)) (ci := 4) (v := .ref azv_spots) (C := RX4) (T := TX4) (N := 5) hx hb hts in_X4_spotAt_X4 hown hK hP 0 rfl rfl 0 (by decide) (hts _ m_X4_spotAt_2) (fun _ h9 => h9) rfl dX4_spotAt_20 ?_
        refine lv_iload_n hx hb dX4_spotAt_23 rfl (lv_at hl 1 rfl) ?_
        refine va_iald (q0 := 1) (t0 := 0) (n := 240) (f := zv_spots) hx hb hK hP rfl rfl (vp_in_iff.mpr ⟨by omega, by omega⟩) dX4_spotAt_24 ?_
        refine lv_goto (tgt := 29) hx hb dX4_spotAt_25 (by decide) ?_
        have hE : f_X4_spotAt zv_spots zv_size a_p = (zv_spots (a_p).toNatClampNeg) := (by rw [f_X4_spotAt, if_neg c_1, if_neg c_2, if_neg c_3])
        exact W.iret (v := (zv_spots (a_p).toNatClampNeg)) hx hb hr (fun t ht hW => ⟨⟨(zv_spots (a_p).toNatClampNeg), (), rfl, by rw [hE], trivial⟩, hS.F ht⟩) hS.2.2 dX4_spotAt_29
theorem dX4_homeAt_0 : decode cX4_homeAt 0 = .ok (.iload_n 1, 1) := by decide +kernel
theorem dX4_homeAt_1 : decode cX4_homeAt 1 = .ok (.ifCond .lt 19, 3) := by decide +kernel
theorem dX4_homeAt_20 : decode cX4_homeAt 20 = .ok (.iconst 0, 1) := by decide +kernel
theorem dX4_homeAt_21 : decode cX4_homeAt 21 = .ok (.ireturn, 1) := by decide +kernel
theorem dX4_homeAt_4 : decode cX4_homeAt 4 = .ok (.iload_n 1, 1) := by decide +kernel
theorem dX4_homeAt_5 : decode cX4_homeAt 5 = .ok (.sipush 240, 3) := by decide +kernel
theorem dX4_homeAt_8 : decode cX4_homeAt 8 = .ok (.if_icmp .ge 12, 3) := by decide +kernel
theorem dX4_homeAt_11 : decode cX4_homeAt 11 = .ok (.aload_n 0, 1) := by decide +kernel
theorem dX4_homeAt_12 : decode cX4_homeAt 12 = .ok (.getfield 15, 3) := by decide +kernel
theorem in_X4_homeAt_X4 : ∀ w ∈ wsX40, w ∈ wsX4_homeAt := by decide +kernel
theorem m_X4_homeAt_1 : (.fieldLink RX4 15 "RedlineDesk$View" "homes" "[I" : Cond) ∈ wsX4_homeAt := List.mem_of_getElem? (i := 1) (by decide +kernel)
theorem dX4_homeAt_15 : decode cX4_homeAt 15 = .ok (.iload_n 1, 1) := by decide +kernel
theorem dX4_homeAt_16 : decode cX4_homeAt 16 = .ok (.iaload, 1) := by decide +kernel
theorem dX4_homeAt_17 : decode cX4_homeAt 17 = .ok (.goto 4, 3) := by decide +kernel
def f_X4_homeAt (zv_homes : Nat → Int32) (a_s : Int32) : Int32 := if a_s < (0 : Int32) then (0 : Int32) else if (240 : Int32) ≤ a_s then (0 : Int32) else (zv_homes (a_s).toNatClampNeg)
set_option maxHeartbeats 4000000 in
set_option maxRecDepth 100000 in
theorem c_X4_homeAt (l : Launch) (dC : Nat → ClassId) (dI : Nat → Nat → Nat) (cI cJ : ClassId) (sz : Nat) (zv azv_spots azv_homes : Nat) (zv_spots zv_homes : Nat → Int32) (zv_size zv_counts zv_hides : Int32) (a_s : Int32) : Met l yX4_homeAt wsX4_homeAt ({ frames := 0, cells := 0, slots := 0, locals := 0 } : Room) (va_Pc [.ref zv, .int a_s] (PreW dC dI cI cJ sz [(zv, .inr (4, [.ref azv_spots, .ref azv_homes, .int zv_size, .int zv_counts, .int zv_hides])), (azv_spots, .inl (cI, 240, .inl zv_spots)), (azv_homes, .inl (cI, 240, .inl zv_homes))])) (va_Qi (fun (r : Int32) (_ : Unit) => r = f_X4_homeAt zv_homes a_s) (fun (_ : Unit) _ => True) (fun q => sz ≤ q)) 0 0 (fun q => sz ≤ q) := by
  refine Met.ofW (cc := cX4_homeAt) (maxL := 2) (ret := (some .int)) (by decide) rfl ?_
  intro p e s m args below meth c s₁ B hml hv
  obtain ⟨rfl, hsz, hP, hK, hN, hD0⟩ := hv
  have hx := B.exec
  have hb := B.bytes
  have hr := B.returns
  have hts := atoms_spec (ws := wsX4_homeAt) B.pre
  have hown : s.vm.findClass RX4 = some m.cls := findClass_of_methodNamed B.named
  have hlocks := B.notSynchronized
  subst hsz
  have hD := hD0
  generalize hAe : (fun q => s.heap.size ≤ q) = A
  have hA : ∀ q : Nat, s.heap.size ≤ q → A q := fun q h => by rw [← hAe]; exact h
  have hS : va_S A s.heap s.heap [] := va_S.rf
  have hP : va_P (dC, dI) vwCl [(zv, .inr (4, [.ref azv_spots, .ref azv_homes, .int zv_size, .int zv_counts, .int zv_hides])), (azv_spots, .inl (cI, 240, .inl zv_spots)), (azv_homes, .inl (cI, 240, .inl zv_homes))] s.heap := hP
  have hl := lv_entry ([.ref zv, .int a_s]) (n := 2) (Nat.le_of_ble_eq_true rfl)
  rw [lg_entry_eq]
  generalize (lg_sl ([.ref zv, .int a_s]) ++ List.replicate (2 - (lg_sl ([.ref zv, .int a_s])).length) Slot.unset).toArray = ls at hl ⊢
  have hl : lv_has ls 2 [(0, .ref zv), (1, .int a_s)] := hl
  refine lv_iload_n hx hb dX4_homeAt_0 rfl (lv_at hl 1 rfl) ?_
  refine lv_if_lt (tgt := 20) hx hb dX4_homeAt_1 (by decide) (fun c_1 => ?_) (fun c_1 => ?_)
  · have tc_1 : a_s.toInt < (0 : Int) := q_lt c_1
    refine lv_iconst (v := (0 : Int32)) hx hb dX4_homeAt_20 (by decide) ?_
    have hE : f_X4_homeAt zv_homes a_s = (0 : Int32) := (by rw [f_X4_homeAt, if_pos c_1])
    exact W.iret (v := (0 : Int32)) hx hb hr (fun t ht hW => ⟨⟨(0 : Int32), (), rfl, by rw [hE], trivial⟩, hS.F ht⟩) hS.2.2 dX4_homeAt_21
  · have tc_1 : (0 : Int) ≤ a_s.toInt := q_nlt c_1
    refine lv_iload_n hx hb dX4_homeAt_4 rfl (lv_at hl 1 rfl) ?_
    refine lv_sipush (v := (240 : Int32)) hx hb dX4_homeAt_5 (by decide) ?_
    refine lv_icmp_ge (tgt := 20) hx hb dX4_homeAt_8 (by decide) (fun c_2 => ?_) (fun c_2 => ?_)
    · have tc_2 : (240 : Int) ≤ a_s.toInt := q_le c_2
      refine lv_iconst (v := (0 : Int32)) hx hb dX4_homeAt_20 (by decide) ?_
      have hE : f_X4_homeAt zv_homes a_s = (0 : Int32) := (by rw [f_X4_homeAt, if_neg c_1, if_pos c_2])
      exact W.iret (v := (0 : Int32)) hx hb hr (fun t ht hW => ⟨⟨(0 : Int32), (), rfl, by rw [hE], trivial⟩, hS.F ht⟩) hS.2.2 dX4_homeAt_21
    · have tc_2 : a_s.toInt < (240 : Int) := q_nle c_2
      refine lv_aload_n hx hb dX4_homeAt_11 rfl (lv_at hl 0 rfl) ?_
      refine va_get (D := (dC, dI)) (ci := 4) (v := .ref azv_homes) (C := RX4) (T := TX4) (N := 5) hx hb hts in_X4_homeAt_X4 hown hK hP 0 rfl rfl 1 (by decide) (hts _ m_X4_homeAt_1) (fun _ h9 => h9) rfl dX4_homeAt_12 ?_
      refine lv_iload_n hx hb dX4_homeAt_15 rfl (lv_at hl 1 rfl) ?_
      refine va_iald (q0 := 2) (t0 := 0) (n := 240) (f := zv_homes) hx hb hK hP rfl rfl (vp_in_iff.mpr ⟨by omega, by omega⟩) dX4_homeAt_16 ?_
      refine lv_goto (tgt := 21) hx hb dX4_homeAt_17 (by decide) ?_
      have hE : f_X4_homeAt zv_homes a_s = (zv_homes (a_s).toNatClampNeg) := (by rw [f_X4_homeAt, if_neg c_1, if_neg c_2])
      exact W.iret (v := (zv_homes (a_s).toNatClampNeg)) hx hb hr (fun t ht hW => ⟨⟨(zv_homes (a_s).toNatClampNeg), (), rfl, by rw [hE], trivial⟩, hS.F ht⟩) hS.2.2 dX4_homeAt_21
