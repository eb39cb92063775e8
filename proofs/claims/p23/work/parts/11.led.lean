theorem dX1_names_0 : decode cX1_names 0 = .ok (.iload_n 1, 1) := by decide +kernel
theorem dX1_names_1 : decode cX1_names 1 = .ok (.iconst 1, 1) := by decide +kernel
theorem dX1_names_2 : decode cX1_names 2 = .ok (.if_icmp .lt 21, 3) := by decide +kernel
theorem dX1_names_23 : decode cX1_names 23 = .ok (.iconst 0, 1) := by decide +kernel
theorem dX1_names_24 : decode cX1_names 24 = .ok (.ireturn, 1) := by decide +kernel
theorem dX1_names_5 : decode cX1_names 5 = .ok (.iload_n 1, 1) := by decide +kernel
theorem dX1_names_6 : decode cX1_names 6 = .ok (.aload_n 0, 1) := by decide +kernel
theorem dX1_names_7 : decode cX1_names 7 = .ok (.getfield 24, 3) := by decide +kernel
theorem in_X1_names_X1 : ∀ w ∈ wsX10, w ∈ wsX1_names := by decide +kernel
theorem m_X1_names_1 : (.fieldLink RX1 24 "RedlineDesk$Ledger" "size" "I" : Cond) ∈ wsX1_names := List.mem_of_getElem? (i := 1) (by decide +kernel)
theorem dX1_names_10 : decode cX1_names 10 = .ok (.if_icmp .gt 13, 3) := by decide +kernel
theorem dX1_names_13 : decode cX1_names 13 = .ok (.iload_n 1, 1) := by decide +kernel
theorem dX1_names_14 : decode cX1_names 14 = .ok (.bipush 24, 2) := by decide +kernel
theorem dX1_names_16 : decode cX1_names 16 = .ok (.if_icmp .gt 7, 3) := by decide +kernel
theorem dX1_names_19 : decode cX1_names 19 = .ok (.iconst 1, 1) := by decide +kernel
theorem dX1_names_20 : decode cX1_names 20 = .ok (.goto 4, 3) := by decide +kernel
def f_X1_names (zg_size : Int32) (a_c : Int32) : Int32 := if a_c < (1 : Int32) then (0 : Int32) else if zg_size < a_c then (0 : Int32) else if (24 : Int32) < a_c then (0 : Int32) else (1 : Int32)
set_option maxHeartbeats 4000000 in
set_option maxRecDepth 100000 in
theorem c_X1_names (l : Launch) (dC : Nat → ClassId) (dI : Nat → Nat → Nat) (cI cJ : ClassId) (sz : Nat) (zg azg_kind azg_hand azg_state azg_look : Nat) (zg_kind zg_hand zg_state zg_look : Nat → Int32) (zg_size : Int32) (a_c : Int32) : Met l yX1_names wsX1_names ({ frames := 0, cells := 0, slots := 0, locals := 0 } : Room) (va_Pc [.ref zg, .int a_c] (PreW dC dI cI cJ sz [(zg, .inr (1, [.ref azg_kind, .ref azg_hand, .ref azg_state, .ref azg_look, .int zg_size])), (azg_kind, .inl (cI, 25, .inl zg_kind)), (azg_hand, .inl (cI, 25, .inl zg_hand)), (azg_state, .inl (cI, 25, .inl zg_state)), (azg_look, .inl (cI, 25, .inl zg_look))])) (va_Qi (fun (r : Int32) (_ : Unit) => r = f_X1_names zg_size a_c) (fun (_ : Unit) _ => True) (fun q => sz ≤ q)) 0 0 (fun q => sz ≤ q) := by
  refine Met.ofW (cc := cX1_names) (maxL := 2) (ret := (some .boolean)) (by decide) rfl ?_
  intro p e s m args below meth c s₁ B hml hv
  obtain ⟨rfl, hsz, hP, hK, hN, hD0⟩ := hv
  have hx := B.exec
  have hb := B.bytes
  have hr := B.returns
  have hts := atoms_spec (ws := wsX1_names) B.pre
  have hown : s.vm.findClass RX1 = some m.cls := findClass_of_methodNamed B.named
  have hlocks := B.notSynchronized
  subst hsz
  have hD := hD0
  generalize hAe : (fun q => s.heap.size ≤ q) = A
  have hA : ∀ q : Nat, s.heap.size ≤ q → A q := fun q h => by rw [← hAe]; exact h
  have hS : va_S A s.heap s.heap [] := va_S.rf
  have hP : va_P (dC, dI) vwCl [(zg, .inr (1, [.ref azg_kind, .ref azg_hand, .ref azg_state, .ref azg_look, .int zg_size])), (azg_kind, .inl (cI, 25, .inl zg_kind)), (azg_hand, .inl (cI, 25, .inl zg_hand)), (azg_state, .inl (cI, 25, .inl zg_state)), (azg_look, .inl (cI, 25, .inl zg_look))] s.heap := hP
  have hl := lv_entry ([.ref zg, .int a_c]) (n := 2) (Nat.le_of_ble_eq_true rfl)
  rw [lg_entry_eq]
  generalize (lg_sl ([.ref zg, .int a_c]) ++ List.replicate (2 - (lg_sl ([.ref zg, .int a_c])).length) Slot.unset).toArray = ls at hl ⊢
  have hl : lv_has ls 2 [(0, .ref zg), (1, .int a_c)] := hl
  refine lv_iload_n hx hb dX1_names_0 rfl (lv_at hl 1 rfl) ?_
  refine lv_iconst (v := (1 : Int32)) hx hb dX1_names_1 (by decide) ?_
  refine lv_icmp_lt (tgt := 23) hx hb dX1_names_2 (by decide) (fun c_1 => ?_) (fun c_1 => ?_)
  · have tc_1 : a_c.toInt < (1 : Int) := q_lt c_1
    refine lv_iconst (v := (0 : Int32)) hx hb dX1_names_23 (by decide) ?_
    have hE : f_X1_names zg_size a_c = (0 : Int32) := (by rw [f_X1_names, if_pos c_1])
    exact W.zret (v := (0 : Int32)) hx hb hr (by decide) (fun t ht hW => ⟨⟨(0 : Int32), (), rfl, by rw [hE], trivial⟩, hS.F ht⟩) hS.2.2 dX1_names_24
  · have tc_1 : (1 : Int) ≤ a_c.toInt := q_nlt c_1
    refine lv_iload_n hx hb dX1_names_5 rfl (lv_at hl 1 rfl) ?_
    refine lv_aload_n hx hb dX1_names_6 rfl (lv_at hl 0 rfl) ?_
    refine va_get (D := (dC, dI)) (ci := 1) (v := .int zg_size) (C := RX1) (T := TX1) (N := 5) hx hb hts in_X1_names_X1 hown hK hP 0 rfl rfl 4 (by decide) (hts _ m_X1_names_1) (fun _ h9 => h9) rfl dX1_names_7 ?_
    refine lv_icmp_gt (tgt := 23) hx hb dX1_names_10 (by decide) (fun c_2 => ?_) (fun c_2 => ?_)
    · have tc_2 : zg_size.toInt < a_c.toInt := q_lt c_2
      refine lv_iconst (v := (0 : Int32)) hx hb dX1_names_23 (by decide) ?_
      have hE : f_X1_names zg_size a_c = (0 : Int32) := (by rw [f_X1_names, if_neg c_1, if_pos c_2])
      exact W.zret (v := (0 : Int32)) hx hb hr (by decide) (fun t ht hW => ⟨⟨(0 : Int32), (), rfl, by rw [hE], trivial⟩, hS.F ht⟩) hS.2.2 dX1_names_24
    · have tc_2 : a_c.toInt ≤ zg_size.toInt := q_nlt c_2
      refine lv_iload_n hx hb dX1_names_13 rfl (lv_at hl 1 rfl) ?_
      refine lv_bipush (v := (24 : Int32)) hx hb dX1_names_14 (by decide) ?_
      refine lv_icmp_gt (tgt := 23) hx hb dX1_names_16 (by decide) (fun c_3 => ?_) (fun c_3 => ?_)
      · have tc_3 : (24 : Int) < a_c.toInt := q_lt c_3
        refine lv_iconst (v := (0 : Int32)) hx hb dX1_names_23 (by decide) ?_
        have hE : f_X1_names zg_size a_c = (0 : Int32) := (by rw [f_X1_names, if_neg c_1, if_neg c_2, if_pos c_3])
        exact W.zret (v := (0 : Int32)) hx hb hr (by decide) (fun t ht hW => ⟨⟨(0 : Int32), (), rfl, by rw [hE], trivial⟩, hS.F ht⟩) hS.2.2 dX1_names_24
      · have tc_3 : a_c.toInt ≤ (24 : Int) := q_nlt c_3
        refine lv_iconst (v := (1 : Int32)) hx hb dX1_names_19 (by decide) ?_
        refine lv_goto (tgt := 24) hx hb dX1_names_20 (by decide) ?_
        have hE : f_X1_names zg_size a_c = (1 : Int32) := (by rw [f_X1_names, if_neg c_1, if_neg c_2, if_neg c_3])
        exact W.zret (v := (1 : Int32)) hx hb hr (by decide) (fun t ht hW => ⟨⟨(1 : Int32), (), rfl, by rw [hE], trivial⟩, hS.F ht⟩) hS.2.2 dX1_names_24
theorem names_in {z x : Int32} (h : ¬ f_X1_names z x = (0 : Int32)) : 1 ≤ x.toInt ∧ x.toInt ≤ z.toInt ∧ x.toInt ≤ 24 := by
  rw [f_X1_names] at h
  by_cases c1 : x < (1 : Int32)
  · rw [if_pos c1] at h; exact absurd rfl h
  · rw [if_neg c1] at h
    by_cases c2 : z < x
    · rw [if_pos c2] at h; exact absurd rfl h
    · rw [if_neg c2] at h
      by_cases c3 : (24 : Int32) < x
      · rw [if_pos c3] at h; exact absurd rfl h
      · exact ⟨q_nlt c1, q_nlt c2, q_nlt c3⟩
theorem dX1_room_0 : decode cX1_room 0 = .ok (.bipush 24, 2) := by decide +kernel
theorem dX1_room_2 : decode cX1_room 2 = .ok (.aload_n 0, 1) := by decide +kernel
theorem dX1_room_3 : decode cX1_room 3 = .ok (.getfield 24, 3) := by decide +kernel
theorem in_X1_room_X1 : ∀ w ∈ wsX10, w ∈ wsX1_room := by decide +kernel
theorem m_X1_room_1 : (.fieldLink RX1 24 "RedlineDesk$Ledger" "size" "I" : Cond) ∈ wsX1_room := List.mem_of_getElem? (i := 1) (by decide +kernel)
theorem dX1_room_6 : decode cX1_room 6 = .ok (.isub, 1) := by decide +kernel
theorem dX1_room_7 : decode cX1_room 7 = .ok (.ireturn, 1) := by decide +kernel
def f_X1_room (zg_size : Int32) : Int32 := ((24 : Int32) - zg_size)
set_option maxHeartbeats 4000000 in
set_option maxRecDepth 100000 in
theorem c_X1_room (l : Launch) (dC : Nat → ClassId) (dI : Nat → Nat → Nat) (cI cJ : ClassId) (sz : Nat) (zg azg_kind azg_hand azg_state azg_look : Nat) (zg_kind zg_hand zg_state zg_look : Nat → Int32) (zg_size : Int32) : Met l yX1_room wsX1_room ({ frames := 0, cells := 0, slots := 0, locals := 0 } : Room) (va_Pc [.ref zg] (PreW dC dI cI cJ sz [(zg, .inr (1, [.ref azg_kind, .ref azg_hand, .ref azg_state, .ref azg_look, .int zg_size])), (azg_kind, .inl (cI, 25, .inl zg_kind)), (azg_hand, .inl (cI, 25, .inl zg_hand)), (azg_state, .inl (cI, 25, .inl zg_state)), (azg_look, .inl (cI, 25, .inl zg_look))])) (va_Qi (fun (r : Int32) (_ : Unit) => r = f_X1_room zg_size) (fun (_ : Unit) _ => True) (fun q => sz ≤ q)) 0 0 (fun q => sz ≤ q) := by
  refine Met.ofW (cc := cX1_room) (maxL := 1) (ret := (some .int)) (by decide) rfl ?_
  intro p e s m args below meth c s₁ B hml hv
  obtain ⟨rfl, hsz, hP, hK, hN, hD0⟩ := hv
  have hx := B.exec
  have hb := B.bytes
  have hr := B.returns
  have hts := atoms_spec (ws := wsX1_room) B.pre
  have hown : s.vm.findClass RX1 = some m.cls := findClass_of_methodNamed B.named
  have hlocks := B.notSynchronized
  subst hsz
  have hD := hD0
  generalize hAe : (fun q => s.heap.size ≤ q) = A
  have hA : ∀ q : Nat, s.heap.size ≤ q → A q := fun q h => by rw [← hAe]; exact h
  have hS : va_S A s.heap s.heap [] := va_S.rf
  have hP : va_P (dC, dI) vwCl [(zg, .inr (1, [.ref azg_kind, .ref azg_hand, .ref azg_state, .ref azg_look, .int zg_size])), (azg_kind, .inl (cI, 25, .inl zg_kind)), (azg_hand, .inl (cI, 25, .inl zg_hand)), (azg_state, .inl (cI, 25, .inl zg_state)), (azg_look, .inl (cI, 25, .inl zg_look))] s.heap := hP
  have hl := lv_entry ([.ref zg]) (n := 1) (Nat.le_of_ble_eq_true rfl)
  rw [lg_entry_eq]
  generalize (lg_sl ([.ref zg]) ++ List.replicate (1 - (lg_sl ([.ref zg])).length) Slot.unset).toArray = ls at hl ⊢
  have hl : lv_has ls 1 [(0, .ref zg)] := hl
  refine lv_bipush (v := (24 : Int32)) hx hb dX1_room_0 (by decide) ?_
  refine lv_aload_n hx hb dX1_room_2 rfl (lv_at hl 0 rfl) ?_
  refine va_get (D := (dC, dI)) (ci := 1) (v := .int zg_size) (C := RX1) (T := TX1) (N := 5) hx hb hts in_X1_room_X1 hown hK hP 0 rfl rfl 4 (by decide) (hts _ m_X1_room_1) (fun _ h9 => h9) rfl dX1_room_3 ?_
  refine lv_isub hx hb dX1_room_6 ?_
  obtain ⟨z_1, hz_1⟩ : ∃ z : Int32, z = ((24 : Int32) - zg_size) := ⟨_, rfl⟩
  try have gz_1 : z_1.toInt = (24 : Int) - zg_size.toInt := by rw [hz_1]; exact ti_sub2 rfl rfl (by omega) (by omega)
  have hE : f_X1_room zg_size = ((24 : Int32) - zg_size) := (by rw [f_X1_room])
  exact W.iret (v := ((24 : Int32) - zg_size)) hx hb hr (fun t ht hW => ⟨⟨((24 : Int32) - zg_size), (), rfl, by rw [hE], trivial⟩, hS.F ht⟩) hS.2.2 dX1_room_7
theorem dX1_isFull_0 : decode cX1_isFull 0 = .ok (.aload_n 0, 1) := by decide +kernel
theorem dX1_isFull_1 : decode cX1_isFull 1 = .ok (.invokevirtual 28, 3) := by decide +kernel
set_option maxRecDepth 20000 in
theorem ggX1_isFull_X1_room : GoodIn wsX1_isFull wsX1_room := goodIn_r _ [5, 6, 7, 8, 9, 10, 11] (by decide +kernel) (by decide +kernel)
set_option maxRecDepth 20000 in
theorem gX1_isFull_X1_room : GoodIn wsX1_isFull (wsV RX1 28 RX1 yX1_room wsX1_room) := goodIn_app (goodIn_of _ (by decide +kernel)) ggX1_isFull_X1_room
theorem dX1_isFull_4 : decode cX1_isFull 4 = .ok (.iconst 1, 1) := by decide +kernel
theorem dX1_isFull_5 : decode cX1_isFull 5 = .ok (.if_icmp .ge 7, 3) := by decide +kernel
theorem dX1_isFull_12 : decode cX1_isFull 12 = .ok (.iconst 0, 1) := by decide +kernel
theorem dX1_isFull_13 : decode cX1_isFull 13 = .ok (.ireturn, 1) := by decide +kernel
theorem dX1_isFull_8 : decode cX1_isFull 8 = .ok (.iconst 1, 1) := by decide +kernel
theorem dX1_isFull_9 : decode cX1_isFull 9 = .ok (.goto 4, 3) := by decide +kernel
def f_X1_isFull (zg_size : Int32) : Int32 := if (1 : Int32) ≤ (f_X1_room zg_size) then (0 : Int32) else (1 : Int32)
set_option maxHeartbeats 4000000 in
set_option maxRecDepth 100000 in
theorem c_X1_isFull (l : Launch) (dC : Nat → ClassId) (dI : Nat → Nat → Nat) (cI cJ : ClassId) (sz : Nat) (zg azg_kind azg_hand azg_state azg_look : Nat) (zg_kind zg_hand zg_state zg_look : Nat → Int32) (zg_size : Int32) : Met l yX1_isFull wsX1_isFull ({ frames := 1, cells := 0, slots := 0, locals := 20 } : Room) (va_Pc [.ref zg] (PreW dC dI cI cJ sz [(zg, .inr (1, [.ref azg_kind, .ref azg_hand, .ref azg_state, .ref azg_look, .int zg_size])), (azg_kind, .inl (cI, 25, .inl zg_kind)), (azg_hand, .inl (cI, 25, .inl zg_hand)), (azg_state, .inl (cI, 25, .inl zg_state)), (azg_look, .inl (cI, 25, .inl zg_look))])) (va_Qi (fun (r : Int32) (_ : Unit) => r = f_X1_isFull zg_size) (fun (_ : Unit) _ => True) (fun q => sz ≤ q)) 0 0 (fun q => sz ≤ q) := by
  refine Met.ofW (cc := cX1_isFull) (maxL := 1) (ret := (some .boolean)) (by decide) rfl ?_
  intro p e s m args below meth c s₁ B hml hv
  obtain ⟨rfl, hsz, hP, hK, hN, hD0⟩ := hv
  have hx := B.exec
  have hb := B.bytes
  have hr := B.returns
  have hts := atoms_spec (ws := wsX1_isFull) B.pre
  have hown : s.vm.findClass RX1 = some m.cls := findClass_of_methodNamed B.named
  have hlocks := B.notSynchronized
  subst hsz
  have hD := hD0
  generalize hAe : (fun q => s.heap.size ≤ q) = A
  have hA : ∀ q : Nat, s.heap.size ≤ q → A q := fun q h => by rw [← hAe]; exact h
  have hS : va_S A s.heap s.heap [] := va_S.rf
  have hP : va_P (dC, dI) vwCl [(zg, .inr (1, [.ref azg_kind, .ref azg_hand, .ref azg_state, .ref azg_look, .int zg_size])), (azg_kind, .inl (cI, 25, .inl zg_kind)), (azg_hand, .inl (cI, 25, .inl zg_hand)), (azg_state, .inl (cI, 25, .inl zg_state)), (azg_look, .inl (cI, 25, .inl zg_look))] s.heap := hP
  have hl := lv_entry ([.ref zg]) (n := 1) (Nat.le_of_ble_eq_true rfl)
  rw [lg_entry_eq]
  generalize (lg_sl ([.ref zg]) ++ List.replicate (1 - (lg_sl ([.ref zg])).length) Slot.unset).toArray = ls at hl ⊢
  have hl : lv_has ls 1 [(0, .ref zg)] := hl
  refine lv_aload_n hx hb dX1_isFull_0 rfl (lv_at hl 0 rfl) ?_
  have hPc := hP.sub (ws' := [(zg, .inr (1, [.ref azg_kind, .ref azg_hand, .ref azg_state, .ref azg_look, .int zg_size])), (azg_kind, .inl (cI, 25, .inl zg_kind)), (azg_hand, .inl (cI, 25, .inl zg_hand)), (azg_state, .inl (cI, 25, .inl zg_state)), (azg_look, .inl (cI, 25, .inl zg_look))]) [0, 1, 2, 3, 4] rfl
  have hDc := hD.sub (ws' := [(zg, .inr (1, [.ref azg_kind, .ref azg_hand, .ref azg_state, .ref azg_look, .int zg_size])), (azg_kind, .inl (cI, 25, .inl zg_kind)), (azg_hand, .inl (cI, 25, .inl zg_hand)), (azg_state, .inl (cI, 25, .inl zg_state)), (azg_look, .inl (cI, 25, .inl zg_look))]) [0, 1, 2, 3, 4] (by decide) rfl
  refine va_calli (va_runV (As := []) (rest := []) ⟨hx, hb, hml, hown, hts⟩ (c_X1_room l dC dI cI cJ s.heap.size zg azg_kind azg_hand azg_state azg_look zg_kind zg_hand zg_state zg_look zg_size) (cwV 0 hts gX1_isFull_X1_room rfl rfl rfl (by decide +kernel) ⟨Nat.le_of_ble_eq_true rfl, Nat.le_of_ble_eq_true rfl⟩) ⟨fun a U g mk q => ⟨q.1, PreW.call g mk a q.2⟩, va_recv hK hP (ci := 1) (q0 := 0) rfl rfl, fun U hU hW => ⟨rfl, PreW.mk2 hU hW hPc hK hN (hDc.weaken (fun _ _ _ _ => trivial))⟩⟩ rfl rfl hl.1 rfl (lv_room (Nat.le_of_ble_eq_true rfl)) dX1_isFull_1 ⟨Nat.le_of_ble_eq_true rfl, Nat.le_of_ble_eq_true rfl⟩) hS (fun q hq h => absurd hq (Nat.not_lt.mpr h)) (fun q h => hA q (Nat.le_trans hS.1 h)) (fun r_1 _u t H1 locs ht hvm hw hB hz1 hk1 hS => ?_)
  have hP := va_ro hP hk1
  generalize H1 = H at hP hS ⊢
  have hw : r_1 = f_X1_room zg_size := hw
  subst hw
  obtain ⟨z_2, hz_2⟩ : ∃ z : Int32, z = f_X1_room zg_size := ⟨_, rfl⟩
  refine lv_iconst (v := (1 : Int32)) hx hb dX1_isFull_4 (by decide) ?_
  refine lv_icmp_ge (tgt := 12) hx hb dX1_isFull_5 (by decide) (fun c_3 => ?_) (fun c_3 => ?_)
  · have tc_3 : (1 : Int) ≤ z_2.toInt := by rw [hz_2]; exact q_le c_3
    refine lv_iconst (v := (0 : Int32)) hx hb dX1_isFull_12 (by decide) ?_
    have hE : f_X1_isFull zg_size = (0 : Int32) := (by rw [f_X1_isFull, if_pos c_3])
    exact W.zret (v := (0 : Int32)) hx hb hr (by decide) (fun t ht hW => ⟨⟨(0 : Int32), (), rfl, by rw [hE], trivial⟩, hS.F ht⟩) hS.2.2 dX1_isFull_13
  · have tc_3 : z_2.toInt < (1 : Int) := by rw [hz_2]; exact q_nle c_3
    refine lv_iconst (v := (1 : Int32)) hx hb dX1_isFull_8 (by decide) ?_
    refine lv_goto (tgt := 13) hx hb dX1_isFull_9 (by decide) ?_
    have hE : f_X1_isFull zg_size = (1 : Int32) := (by rw [f_X1_isFull, if_neg c_3])
    exact W.zret (v := (1 : Int32)) hx hb hr (by decide) (fun t ht hW => ⟨⟨(1 : Int32), (), rfl, by rw [hE], trivial⟩, hS.F ht⟩) hS.2.2 dX1_isFull_13
theorem dX1_add_0 : decode cX1_add 0 = .ok (.aload_n 0, 1) := by decide +kernel
theorem dX1_add_1 : decode cX1_add 1 = .ok (.getfield 24, 3) := by decide +kernel
theorem in_X1_add_X1 : ∀ w ∈ wsX10, w ∈ wsX1_add := by decide +kernel
theorem m_X1_add_1 : (.fieldLink RX1 24 "RedlineDesk$Ledger" "size" "I" : Cond) ∈ wsX1_add := List.mem_of_getElem? (i := 1) (by decide +kernel)
theorem dX1_add_4 : decode cX1_add 4 = .ok (.ifCond .lt 12, 3) := by decide +kernel
theorem dX1_add_16 : decode cX1_add 16 = .ok (.iconst 0, 1) := by decide +kernel
theorem dX1_add_17 : decode cX1_add 17 = .ok (.ireturn, 1) := by decide +kernel
theorem dX1_add_7 : decode cX1_add 7 = .ok (.aload_n 0, 1) := by decide +kernel
theorem dX1_add_8 : decode cX1_add 8 = .ok (.getfield 24, 3) := by decide +kernel
theorem dX1_add_11 : decode cX1_add 11 = .ok (.bipush 24, 2) := by decide +kernel
theorem dX1_add_13 : decode cX1_add 13 = .ok (.if_icmp .lt 5, 3) := by decide +kernel
theorem dX1_add_18 : decode cX1_add 18 = .ok (.aload_n 0, 1) := by decide +kernel
theorem dX1_add_19 : decode cX1_add 19 = .ok (.dup, 1) := by decide +kernel
theorem dX1_add_20 : decode cX1_add 20 = .ok (.getfield 24, 3) := by decide +kernel
theorem dX1_add_23 : decode cX1_add 23 = .ok (.iconst 1, 1) := by decide +kernel
theorem dX1_add_24 : decode cX1_add 24 = .ok (.iadd, 1) := by decide +kernel
theorem dX1_add_25 : decode cX1_add 25 = .ok (.putfield 24, 3) := by decide +kernel
theorem dX1_add_28 : decode cX1_add 28 = .ok (.aload_n 0, 1) := by decide +kernel
theorem dX1_add_29 : decode cX1_add 29 = .ok (.getfield 9, 3) := by decide +kernel
theorem m_X1_add_2 : (.fieldLink RX1 9 "RedlineDesk$Ledger" "kind" "[I" : Cond) ∈ wsX1_add := List.mem_of_getElem? (i := 2) (by decide +kernel)
theorem dX1_add_32 : decode cX1_add 32 = .ok (.aload_n 0, 1) := by decide +kernel
theorem dX1_add_33 : decode cX1_add 33 = .ok (.getfield 24, 3) := by decide +kernel
theorem dX1_add_36 : decode cX1_add 36 = .ok (.iload_n 1, 1) := by decide +kernel
theorem dX1_add_37 : decode cX1_add 37 = .ok (.iastore, 1) := by decide +kernel
theorem dX1_add_38 : decode cX1_add 38 = .ok (.aload_n 0, 1) := by decide +kernel
theorem dX1_add_39 : decode cX1_add 39 = .ok (.getfield 15, 3) := by decide +kernel
theorem m_X1_add_3 : (.fieldLink RX1 15 "RedlineDesk$Ledger" "hand" "[I" : Cond) ∈ wsX1_add := List.mem_of_getElem? (i := 3) (by decide +kernel)
theorem dX1_add_42 : decode cX1_add 42 = .ok (.aload_n 0, 1) := by decide +kernel
theorem dX1_add_43 : decode cX1_add 43 = .ok (.getfield 24, 3) := by decide +kernel
theorem dX1_add_46 : decode cX1_add 46 = .ok (.iload_n 2, 1) := by decide +kernel
theorem dX1_add_47 : decode cX1_add 47 = .ok (.iastore, 1) := by decide +kernel
theorem dX1_add_48 : decode cX1_add 48 = .ok (.aload_n 0, 1) := by decide +kernel
theorem dX1_add_49 : decode cX1_add 49 = .ok (.getfield 18, 3) := by decide +kernel
theorem m_X1_add_4 : (.fieldLink RX1 18 "RedlineDesk$Ledger" "state" "[I" : Cond) ∈ wsX1_add := List.mem_of_getElem? (i := 4) (by decide +kernel)
theorem dX1_add_52 : decode cX1_add 52 = .ok (.aload_n 0, 1) := by decide +kernel
theorem dX1_add_53 : decode cX1_add 53 = .ok (.getfield 24, 3) := by decide +kernel
theorem dX1_add_56 : decode cX1_add 56 = .ok (.iconst 0, 1) := by decide +kernel
theorem dX1_add_57 : decode cX1_add 57 = .ok (.iastore, 1) := by decide +kernel
theorem dX1_add_58 : decode cX1_add 58 = .ok (.aload_n 0, 1) := by decide +kernel
theorem dX1_add_59 : decode cX1_add 59 = .ok (.getfield 21, 3) := by decide +kernel
theorem m_X1_add_5 : (.fieldLink RX1 21 "RedlineDesk$Ledger" "look" "[I" : Cond) ∈ wsX1_add := List.mem_of_getElem? (i := 5) (by decide +kernel)
theorem dX1_add_62 : decode cX1_add 62 = .ok (.aload_n 0, 1) := by decide +kernel
theorem dX1_add_63 : decode cX1_add 63 = .ok (.getfield 24, 3) := by decide +kernel
theorem dX1_add_66 : decode cX1_add 66 = .ok (.iload_n 3, 1) := by decide +kernel
theorem dX1_add_67 : decode cX1_add 67 = .ok (.iastore, 1) := by decide +kernel
theorem dX1_add_68 : decode cX1_add 68 = .ok (.aload_n 0, 1) := by decide +kernel
theorem dX1_add_69 : decode cX1_add 69 = .ok (.getfield 24, 3) := by decide +kernel
theorem dX1_add_72 : decode cX1_add 72 = .ok (.ireturn, 1) := by decide +kernel
def f_X1_add (zg_kind : Nat → Int32) (zg_hand : Nat → Int32) (zg_state : Nat → Int32) (zg_look : Nat → Int32) (zg_size : Int32) (a_k : Int32) (a_h : Int32) (a_l : Int32) : Int32 × (Nat → Int32) × (Nat → Int32) × (Nat → Int32) × (Nat → Int32) × Int32 := if zg_size < (0 : Int32) then ((0 : Int32), zg_kind, zg_hand, zg_state, zg_look, zg_size) else if zg_size < (24 : Int32) then ((zg_size + (1 : Int32)), (upd zg_kind ((zg_size + (1 : Int32))).toNatClampNeg a_k), (upd zg_hand ((zg_size + (1 : Int32))).toNatClampNeg a_h), (upd zg_state ((zg_size + (1 : Int32))).toNatClampNeg (0 : Int32)), (upd zg_look ((zg_size + (1 : Int32))).toNatClampNeg a_l), (zg_size + (1 : Int32))) else ((0 : Int32), zg_kind, zg_hand, zg_state, zg_look, zg_size)
set_option maxHeartbeats 4000000 in
set_option maxRecDepth 100000 in
theorem c_X1_add (l : Launch) (dC : Nat → ClassId) (dI : Nat → Nat → Nat) (cI cJ : ClassId) (sz : Nat) (zg azg_kind azg_hand azg_state azg_look : Nat) (zg_kind zg_hand zg_state zg_look : Nat → Int32) (zg_size : Int32) (a_k : Int32) (a_h : Int32) (a_l : Int32) : Met l yX1_add wsX1_add ({ frames := 0, cells := 0, slots := 0, locals := 0 } : Room) (va_Pc [.ref zg, .int a_k, .int a_h, .int a_l] (PreW dC dI cI cJ sz [(zg, .inr (1, [.ref azg_kind, .ref azg_hand, .ref azg_state, .ref azg_look, .int zg_size])), (azg_kind, .inl (cI, 25, .inl zg_kind)), (azg_hand, .inl (cI, 25, .inl zg_hand)), (azg_state, .inl (cI, 25, .inl zg_state)), (azg_look, .inl (cI, 25, .inl zg_look))])) (va_Qi (fun (r : Int32) (u : (Nat → Int32) × (Nat → Int32) × (Nat → Int32) × (Nat → Int32) × Int32) => r = (f_X1_add zg_kind zg_hand zg_state zg_look zg_size a_k a_h a_l).1 ∧ u = (f_X1_add zg_kind zg_hand zg_state zg_look zg_size a_k a_h a_l).2) (fun (u : (Nat → Int32) × (Nat → Int32) × (Nat → Int32) × (Nat → Int32) × Int32) t => PostW dC dI [(zg, .inr (1, [.ref azg_kind, .ref azg_hand, .ref azg_state, .ref azg_look, .int u.2.2.2.2])), (azg_kind, .inl (cI, 25, .inl u.1)), (azg_hand, .inl (cI, 25, .inl u.2.1)), (azg_state, .inl (cI, 25, .inl u.2.2.1)), (azg_look, .inl (cI, 25, .inl u.2.2.2.1))] t (va_A [(zg, .inr (1, [.ref azg_kind, .ref azg_hand, .ref azg_state, .ref azg_look, .int zg_size])), (azg_kind, .inl (cI, 25, .inl zg_kind)), (azg_hand, .inl (cI, 25, .inl zg_hand)), (azg_state, .inl (cI, 25, .inl zg_state)), (azg_look, .inl (cI, 25, .inl zg_look))] sz)) (va_A [(zg, .inr (1, [.ref azg_kind, .ref azg_hand, .ref azg_state, .ref azg_look, .int zg_size])), (azg_kind, .inl (cI, 25, .inl zg_kind)), (azg_hand, .inl (cI, 25, .inl zg_hand)), (azg_state, .inl (cI, 25, .inl zg_state)), (azg_look, .inl (cI, 25, .inl zg_look))] sz)) 0 0 (va_A [(zg, .inr (1, [.ref azg_kind, .ref azg_hand, .ref azg_state, .ref azg_look, .int zg_size])), (azg_kind, .inl (cI, 25, .inl zg_kind)), (azg_hand, .inl (cI, 25, .inl zg_hand)), (azg_state, .inl (cI, 25, .inl zg_state)), (azg_look, .inl (cI, 25, .inl zg_look))] sz) := by
  refine Met.ofW (cc := cX1_add) (maxL := 4) (ret := (some .int)) (by decide) rfl ?_
  intro p e s m args below meth c s₁ B hml hv
  obtain ⟨rfl, hsz, hP, hK, hN, hD0⟩ := hv
  have hx := B.exec
  have hb := B.bytes
  have hr := B.returns
  have hts := atoms_spec (ws := wsX1_add) B.pre
  have hown : s.vm.findClass RX1 = some m.cls := findClass_of_methodNamed B.named
  have hlocks := B.notSynchronized
  subst hsz
  have hD := hD0.self (sz := s.heap.size)
  generalize hAe : va_A [(zg, .inr (1, [.ref azg_kind, .ref azg_hand, .ref azg_state, .ref azg_look, .int zg_size])), (azg_kind, .inl (cI, 25, .inl zg_kind)), (azg_hand, .inl (cI, 25, .inl zg_hand)), (azg_state, .inl (cI, 25, .inl zg_state)), (azg_look, .inl (cI, 25, .inl zg_look))] s.heap.size = A at hD ⊢
  have hA : ∀ q : Nat, s.heap.size ≤ q → A q := fun q h => by rw [← hAe]; exact Or.inr h
  have hS : va_S A s.heap s.heap [] := va_S.rf
  have hP : va_P (dC, dI) vwCl [(zg, .inr (1, [.ref azg_kind, .ref azg_hand, .ref azg_state, .ref azg_look, .int zg_size])), (azg_kind, .inl (cI, 25, .inl zg_kind)), (azg_hand, .inl (cI, 25, .inl zg_hand)), (azg_state, .inl (cI, 25, .inl zg_state)), (azg_look, .inl (cI, 25, .inl zg_look))] s.heap := hP
  have hl := lv_entry ([.ref zg, .int a_k, .int a_h, .int a_l]) (n := 4) (Nat.le_of_ble_eq_true rfl)
  rw [lg_entry_eq]
  generalize (lg_sl ([.ref zg, .int a_k, .int a_h, .int a_l]) ++ List.replicate (4 - (lg_sl ([.ref zg, .int a_k, .int a_h, .int a_l])).length) Slot.unset).toArray = ls at hl ⊢
  have hl : lv_has ls 4 [(0, .ref zg), (1, .int a_k), (2, .int a_h), (3, .int a_l)] := hl
  refine lv_aload_n hx hb dX1_add_0 rfl (lv_at hl 0 rfl) ?_
  refine va_get (D := (dC, dI)) (ci := 1) (v := .int zg_size) (C := RX1) (T := TX1) (N := 5) hx hb hts in_X1_add_X1 hown hK hP 0 rfl rfl 4 (by decide) (hts _ m_X1_add_1) (fun _ h9 => h9) rfl dX1_add_1 ?_
  refine lv_if_lt (tgt := 16) hx hb dX1_add_4 (by decide) (fun c_1 => ?_) (fun c_1 => ?_)
  · have tc_1 : zg_size.toInt < (0 : Int) := q_lt c_1
    refine lv_iconst (v := (0 : Int32)) hx hb dX1_add_16 (by decide) ?_
    have hE : f_X1_add zg_kind zg_hand zg_state zg_look zg_size a_k a_h a_l = ((0 : Int32), zg_kind, zg_hand, zg_state, zg_look, zg_size) := (by rw [f_X1_add, if_pos c_1])
    exact W.iret (v := (0 : Int32)) hx hb hr (fun t ht hW => ⟨⟨(0 : Int32), (zg_kind, zg_hand, zg_state, zg_look, zg_size), rfl, ⟨by rw [hE], by rw [hE]⟩, ⟨by rw [ht]; exact hP, hD⟩⟩, hS.F ht⟩) hS.2.2 dX1_add_17
  · have tc_1 : (0 : Int) ≤ zg_size.toInt := q_nlt c_1
    refine lv_aload_n hx hb dX1_add_7 rfl (lv_at hl 0 rfl) ?_
    refine va_get (D := (dC, dI)) (ci := 1) (v := .int zg_size) (C := RX1) (T := TX1) (N := 5) hx hb hts in_X1_add_X1 hown hK hP 0 rfl rfl 4 (by decide) (hts _ m_X1_add_1) (fun _ h9 => h9) rfl dX1_add_8 ?_
    refine lv_bipush (v := (24 : Int32)) hx hb dX1_add_11 (by decide) ?_
    refine lv_icmp_lt (tgt := 18) hx hb dX1_add_13 (by decide) (fun c_2 => ?_) (fun c_2 => ?_)
    · have tc_2 : zg_size.toInt < (24 : Int) := q_lt c_2
      refine lv_aload_n hx hb dX1_add_18 rfl (lv_at hl 0 rfl) ?_
      refine lv_dup hx hb dX1_add_19 rfl ?_
      refine va_get (D := (dC, dI)) (ci := 1) (v := .int zg_size) (C := RX1) (T := TX1) (N := 5) hx hb hts in_X1_add_X1 hown hK hP 0 rfl rfl 4 (by decide) (hts _ m_X1_add_1) (fun _ h9 => h9) rfl dX1_add_20 ?_
      refine lv_iconst (v := (1 : Int32)) hx hb dX1_add_23 (by decide) ?_
      refine lv_iadd hx hb dX1_add_24 ?_
      obtain ⟨z_3, hz_3⟩ : ∃ z : Int32, z = (zg_size + (1 : Int32)) := ⟨_, rfl⟩
      try have gz_3 : z_3.toInt = zg_size.toInt + (1 : Int) := by rw [hz_3]; exact ti_add2 rfl rfl (by omega) (by omega)
      refine va_put (D := (dC, dI)) (ci := 1) (v := .int (zg_size + (1 : Int32))) (ty := .int) (C := RX1) (T := TX1) (N := 5) hx hb hts in_X1_add_X1 tyX1 tyX1_ok nmX1 hown hK hP hD hS 0 rfl rfl 4 (by decide) (hts _ m_X1_add_1) (fun _ h9 => h9) rfl (by decide +kernel) rfl rfl (Nat.le_of_ble_eq_true rfl) dX1_add_25 (fun H locs hP hD hS => ?_)
      have hP : va_P (dC, dI) vwCl [(zg, .inr (1, [.ref azg_kind, .ref azg_hand, .ref azg_state, .ref azg_look, .int (zg_size + (1 : Int32))])), (azg_kind, .inl (cI, 25, .inl zg_kind)), (azg_hand, .inl (cI, 25, .inl zg_hand)), (azg_state, .inl (cI, 25, .inl zg_state)), (azg_look, .inl (cI, 25, .inl zg_look))] H := hP
      have hD : va_D A [(zg, .inr (1, [.ref azg_kind, .ref azg_hand, .ref azg_state, .ref azg_look, .int (zg_size + (1 : Int32))])), (azg_kind, .inl (cI, 25, .inl zg_kind)), (azg_hand, .inl (cI, 25, .inl zg_hand)), (azg_state, .inl (cI, 25, .inl zg_state)), (azg_look, .inl (cI, 25, .inl zg_look))] := hD
      refine lv_aload_n hx hb dX1_add_28 rfl (lv_at hl 0 rfl) ?_
      refine va_get (D := (dC, dI)) (ci := 1) (v := .ref azg_kind) (C := RX1) (T := TX1) (N := 5) hx hb hts in_X1_add_X1 hown hK hP 0 rfl rfl 0 (by decide) (hts _ m_X1_add_2) (fun _ h9 => h9) rfl dX1_add_29 ?_
      refine lv_aload_n hx hb dX1_add_32 rfl (lv_at hl 0 rfl) ?_
      refine va_get (D := (dC, dI)) (ci := 1) (v := .int (zg_size + (1 : Int32))) (C := RX1) (T := TX1) (N := 5) hx hb hts in_X1_add_X1 hown hK hP 0 rfl rfl 4 (by decide) (hts _ m_X1_add_1) (fun _ h9 => h9) rfl dX1_add_33 ?_
      refine lv_iload_n hx hb dX1_add_36 rfl (lv_at hl 1 rfl) ?_
      refine va_iast (q0 := 1) (t0 := 0) (n := 25) (f := zg_kind) hx hb hK hP hD hS rfl rfl (by rw [← hz_3]; exact vp_in_iff.mpr ⟨by omega, by omega⟩) dX1_add_37 (fun H locs hP hD hS => ?_)
      have hP : va_P (dC, dI) vwCl [(zg, .inr (1, [.ref azg_kind, .ref azg_hand, .ref azg_state, .ref azg_look, .int (zg_size + (1 : Int32))])), (azg_kind, .inl (cI, 25, .inl (upd zg_kind ((zg_size + (1 : Int32))).toNatClampNeg a_k))), (azg_hand, .inl (cI, 25, .inl zg_hand)), (azg_state, .inl (cI, 25, .inl zg_state)), (azg_look, .inl (cI, 25, .inl zg_look))] H := hP
      have hD : va_D A [(zg, .inr (1, [.ref azg_kind, .ref azg_hand, .ref azg_state, .ref azg_look, .int (zg_size + (1 : Int32))])), (azg_kind, .inl (cI, 25, .inl (upd zg_kind ((zg_size + (1 : Int32))).toNatClampNeg a_k))), (azg_hand, .inl (cI, 25, .inl zg_hand)), (azg_state, .inl (cI, 25, .inl zg_state)), (azg_look, .inl (cI, 25, .inl zg_look))] := hD
      refine lv_aload_n hx hb dX1_add_38 rfl (lv_at hl 0 rfl) ?_
      refine va_get (D := (dC, dI)) (ci := 1) (v := .ref azg_hand) (C := RX1) (T := TX1) (N := 5) hx hb hts in_X1_add_X1 hown hK hP 0 rfl rfl 1 (by decide) (hts _ m_X1_add_3) (fun _ h9 => h9) rfl dX1_add_39 ?_
      refine lv_aload_n hx hb dX1_add_42 rfl (lv_at hl 0 rfl) ?_
      refine va_get (D := (dC, dI)) (ci := 1) (v := .int (zg_size + (1 : Int32))) (C := RX1) (T := TX1) (N := 5) hx hb hts in_X1_add_X1 hown hK hP 0 rfl rfl 4 (by decide) (hts _ m_X1_add_1) (fun _ h9 => h9) rfl dX1_add_43 ?_
      refine lv_iload_n hx hb dX1_add_46 rfl (lv_at hl 2 rfl) ?_
      refine va_iast (q0 := 2) (t0 := 0) (n := 25) (f := zg_hand) hx hb hK hP hD hS rfl rfl (by rw [← hz_3]; exact vp_in_iff.mpr ⟨by omega, by omega⟩) dX1_add_47 (fun H locs hP hD hS => ?_)
      have hP : va_P (dC, dI) vwCl [(zg, .inr (1, [.ref azg_kind, .ref azg_hand, .ref azg_state, .ref azg_look, .int (zg_size + (1 : Int32))])), (azg_kind, .inl (cI, 25, .inl (upd zg_kind ((zg_size + (1 : Int32))).toNatClampNeg a_k))), (azg_hand, .inl (cI, 25, .inl (upd zg_hand ((zg_size + (1 : Int32))).toNatClampNeg a_h))), (azg_state, .inl (cI, 25, .inl zg_state)), (azg_look, .inl (cI, 25, .inl zg_look))] H := hP
      have hD : va_D A [(zg, .inr (1, [.ref azg_kind, .ref azg_hand, .ref azg_state, .ref azg_look, .int (zg_size + (1 : Int32))])), (azg_kind, .inl (cI, 25, .inl (upd zg_kind ((zg_size + (1 : Int32))).toNatClampNeg a_k))), (azg_hand, .inl (cI, 25, .inl (upd zg_hand ((zg_size + (1 : Int32))).toNatClampNeg a_h))), (azg_state, .inl (cI, 25, .inl zg_state)), (azg_look, .inl (cI, 25, .inl zg_look))] := hD
      refine lv_aload_n hx hb dX1_add_48 rfl (lv_at hl 0 rfl) ?_
      refine va_get (D := (dC, dI)) (ci := 1) (v := .ref azg_state) (C := RX1) (T := TX1) (N := 5) hx hb hts in_X1_add_X1 hown hK hP 0 rfl rfl 2 (by decide) (hts _ m_X1_add_4) (fun _ h9 => h9) rfl dX1_add_49 ?_
      refine lv_aload_n hx hb dX1_add_52 rfl (lv_at hl 0 rfl) ?_
      refine va_get (D := (dC, dI)) (ci := 1) (v := .int (zg_size + (1 : Int32))) (C := RX1) (T := TX1) (N := 5) hx hb hts in_X1_add_X1 hown hK hP 0 rfl rfl 4 (by decide) (hts _ m_X1_add_1) (fun _ h9 => h9) rfl dX1_add_53 ?_
      refine lv_iconst (v := (0 : Int32)) hx hb dX1_add_56 (by decide) ?_
      refine va_iast (q0 := 3) (t0 := 0) (n := 25) (f := zg_state) hx hb hK hP hD hS rfl rfl (by rw [← hz_3]; exact vp_in_iff.mpr ⟨by omega, by omega⟩) dX1_add_57 (fun H locs hP hD hS => ?_)
      have hP : va_P (dC, dI) vwCl [(zg, .inr (1, [.ref azg_kind, .ref azg_hand, .ref azg_state, .ref azg_look, .int (zg_size + (1 : Int32))])), (azg_kind, .inl (cI, 25, .inl (upd zg_kind ((zg_size + (1 : Int32))).toNatClampNeg a_k))), (azg_hand, .inl (cI, 25, .inl (upd zg_hand ((zg_size + (1 : Int32))).toNatClampNeg a_h))), (azg_state, .inl (cI, 25, .inl (upd zg_state ((zg_size + (1 : Int32))).toNatClampNeg (0 : Int32)))), (azg_look, .inl (cI, 25, .inl zg_look))] H := hP
      have hD : va_D A [(zg, .inr (1, [.ref azg_kind, .ref azg_hand, .ref azg_state, .ref azg_look, .int (zg_size + (1 : Int32))])), (azg_kind, .inl (cI, 25, .inl (upd zg_kind ((zg_size + (1 : Int32))).toNatClampNeg a_k))), (azg_hand, .inl (cI, 25, .inl (upd zg_hand ((zg_size + (1 : Int32))).toNatClampNeg a_h))), (azg_state, .inl (cI, 25, .inl (upd zg_state ((zg_size + (1 : Int32))).toNatClampNeg (0 : Int32)))), (azg_look, .inl (cI, 25, .inl zg_look))] := hD
      refine lv_aload_n hx hb dX1_add_58 rfl (lv_at hl 0 rfl) ?_
      refine va_get (D := (dC, dI)) (ci := 1) (v := .ref azg_look) (C := RX1) (T := TX1) (N := 5) hx hb hts in_X1_add_X1 hown hK hP 0 rfl rfl 3 (by decide) (hts _ m_X1_add_5) (fun _ h9 => h9) rfl dX1_add_59 ?_
      refine lv_aload_n hx hb dX1_add_62 rfl (lv_at hl 0 rfl) ?_
      refine va_get (D := (dC, dI)) (ci := 1) (v := .int (zg_size + (1 : Int32))) (C := RX1) (T := TX1) (N := 5) hx hb hts in_X1_add_X1 hown hK hP 0 rfl rfl 4 (by decide) (hts _ m_X1_add_1) (fun _ h9 => h9) rfl dX1_add_63 ?_
      refine lv_iload_n hx hb dX1_add_66 rfl (lv_at hl 3 rfl) ?_
      refine va_iast (q0 := 4) (t0 := 0) (n := 25) (f := zg_look) hx hb hK hP hD hS rfl rfl (by rw [← hz_3]; exact vp_in_iff.mpr ⟨by omega, by omega⟩) dX1_add_67 (fun H locs hP hD hS => ?_)
      have hP : va_P (dC, dI) vwCl [(zg, .inr (1, [.ref azg_kind, .ref azg_hand, .ref azg_state, .ref azg_look, .int (zg_size + (1 : Int32))])), (azg_kind, .inl (cI, 25, .inl (upd zg_kind ((zg_size + (1 : Int32))).toNatClampNeg a_k))), (azg_hand, .inl (cI, 25, .inl (upd zg_hand ((zg_size + (1 : Int32))).toNatClampNeg a_h))), (azg_state, .inl (cI, 25, .inl (upd zg_state ((zg_size + (1 : Int32))).toNatClampNeg (0 : Int32)))), (azg_look, .inl (cI, 25, .inl (upd zg_look ((zg_size + (1 : Int32))).toNatClampNeg a_l)))] H := hP
      have hD : va_D A [(zg, .inr (1, [.ref azg_kind, .ref azg_hand, .ref azg_state, .ref azg_look, .int (zg_size + (1 : Int32))])), (azg_kind, .inl (cI, 25, .inl (upd zg_kind ((zg_size + (1 : Int32))).toNatClampNeg a_k))), (azg_hand, .inl (cI, 25, .inl (upd zg_hand ((zg_size + (1 : Int32))).toNatClampNeg a_h))), (azg_state, .inl (cI, 25, .inl (upd zg_state ((zg_size + (1 : Int32))).toNatClampNeg (0 : Int32)))), (azg_look, .inl (cI, 25, .inl (upd zg_look ((zg_size + (1 : Int32))).toNatClampNeg a_l)))] := hD
      refine lv_aload_n hx hb dX1_add_68 rfl (lv_at hl 0 rfl) ?_
      refine va_get (D := (dC, dI)) (ci := 1) (v := .int (zg_size + (1 : Int32))) (C := RX1) (T := TX1) (N := 5) hx hb hts in_X1_add_X1 hown hK hP 0 rfl rfl 4 (by decide) (hts _ m_X1_add_1) (fun _ h9 => h9) rfl dX1_add_69 ?_
      have hE : f_X1_add zg_kind zg_hand zg_state zg_look zg_size a_k a_h a_l = ((zg_size + (1 : Int32)), (upd zg_kind ((zg_size + (1 : Int32))).toNatClampNeg a_k), (upd zg_hand ((zg_size + (1 : Int32))).toNatClampNeg a_h), (upd zg_state ((zg_size + (1 : Int32))).toNatClampNeg (0 : Int32)), (upd zg_look ((zg_size + (1 : Int32))).toNatClampNeg a_l), (zg_size + (1 : Int32))) := (by rw [f_X1_add, if_neg c_1, if_pos c_2])
      exact W.iret (v := (zg_size + (1 : Int32))) hx hb hr (fun t ht hW => ⟨⟨(zg_size + (1 : Int32)), ((upd zg_kind ((zg_size + (1 : Int32))).toNatClampNeg a_k), (upd zg_hand ((zg_size + (1 : Int32))).toNatClampNeg a_h), (upd zg_state ((zg_size + (1 : Int32))).toNatClampNeg (0 : Int32)), (upd zg_look ((zg_size + (1 : Int32))).toNatClampNeg a_l), (zg_size + (1 : Int32))), rfl, ⟨by rw [hE], by rw [hE]⟩, ⟨by rw [ht]; exact hP, hD⟩⟩, hS.F ht⟩) hS.2.2 dX1_add_72
    · have tc_2 : (24 : Int) ≤ zg_size.toInt := q_nlt c_2
      refine lv_iconst (v := (0 : Int32)) hx hb dX1_add_16 (by decide) ?_
      have hE : f_X1_add zg_kind zg_hand zg_state zg_look zg_size a_k a_h a_l = ((0 : Int32), zg_kind, zg_hand, zg_state, zg_look, zg_size) := (by rw [f_X1_add, if_neg c_1, if_neg c_2])
      exact W.iret (v := (0 : Int32)) hx hb hr (fun t ht hW => ⟨⟨(0 : Int32), (zg_kind, zg_hand, zg_state, zg_look, zg_size), rfl, ⟨by rw [hE], by rw [hE]⟩, ⟨by rw [ht]; exact hP, hD⟩⟩, hS.F ht⟩) hS.2.2 dX1_add_17
theorem dX1_ofKind_0 : decode cX1_ofKind 0 = .ok (.iconst 0, 1) := by decide +kernel
theorem dX1_ofKind_1 : decode cX1_ofKind 1 = .ok (.istore_n 2, 1) := by decide +kernel
theorem dX1_ofKind_2 : decode cX1_ofKind 2 = .ok (.iconst 1, 1) := by decide +kernel
theorem dX1_ofKind_3 : decode cX1_ofKind 3 = .ok (.istore_n 3, 1) := by decide +kernel
theorem dX1_ofKind_4 : decode cX1_ofKind 4 = .ok (.iload_n 3, 1) := by decide +kernel
theorem dX1_ofKind_5 : decode cX1_ofKind 5 = .ok (.bipush 24, 2) := by decide +kernel
theorem dX1_ofKind_7 : decode cX1_ofKind 7 = .ok (.if_icmp .gt 34, 3) := by decide +kernel
theorem dX1_ofKind_41 : decode cX1_ofKind 41 = .ok (.iload_n 2, 1) := by decide +kernel
theorem dX1_ofKind_42 : decode cX1_ofKind 42 = .ok (.ireturn, 1) := by decide +kernel
theorem dX1_ofKind_10 : decode cX1_ofKind 10 = .ok (.aload_n 0, 1) := by decide +kernel
theorem dX1_ofKind_11 : decode cX1_ofKind 11 = .ok (.iload_n 3, 1) := by decide +kernel
theorem dX1_ofKind_12 : decode cX1_ofKind 12 = .ok (.invokevirtual 32, 3) := by decide +kernel
set_option maxRecDepth 20000 in
theorem ggX1_ofKind_X1_names : GoodIn wsX1_ofKind wsX1_names := goodIn_r _ [6, 7, 11, 12, 13, 14, 15] (by decide +kernel) (by decide +kernel)
set_option maxRecDepth 20000 in
theorem gX1_ofKind_X1_names : GoodIn wsX1_ofKind (wsV RX1 32 RX1 yX1_names wsX1_names) := goodIn_app (goodIn_of _ (by decide +kernel)) ggX1_ofKind_X1_names
theorem dX1_ofKind_15 : decode cX1_ofKind 15 = .ok (.ifCond .eq 26, 3) := by decide +kernel
theorem dX1_ofKind_18 : decode cX1_ofKind 18 = .ok (.aload_n 0, 1) := by decide +kernel
theorem dX1_ofKind_19 : decode cX1_ofKind 19 = .ok (.getfield 9, 3) := by decide +kernel
theorem in_X1_ofKind_X1 : ∀ w ∈ wsX10, w ∈ wsX1_ofKind := by decide +kernel
theorem m_X1_ofKind_1 : (.fieldLink RX1 9 "RedlineDesk$Ledger" "kind" "[I" : Cond) ∈ wsX1_ofKind := List.mem_of_getElem? (i := 1) (by decide +kernel)
theorem dX1_ofKind_22 : decode cX1_ofKind 22 = .ok (.iload_n 3, 1) := by decide +kernel
theorem dX1_ofKind_23 : decode cX1_ofKind 23 = .ok (.iaload, 1) := by decide +kernel
theorem dX1_ofKind_24 : decode cX1_ofKind 24 = .ok (.iload_n 1, 1) := by decide +kernel
theorem dX1_ofKind_25 : decode cX1_ofKind 25 = .ok (.if_icmp .ne 10, 3) := by decide +kernel
theorem dX1_ofKind_35 : decode cX1_ofKind 35 = .ok (.iinc 3 1, 3) := by decide +kernel
theorem dX1_ofKind_38 : decode cX1_ofKind 38 = .ok (.goto (-34), 3) := by decide +kernel
theorem dX1_ofKind_28 : decode cX1_ofKind 28 = .ok (.iload_n 2, 1) := by decide +kernel
theorem dX1_ofKind_29 : decode cX1_ofKind 29 = .ok (.iload_n 3, 1) := by decide +kernel
theorem dX1_ofKind_30 : decode cX1_ofKind 30 = .ok (.invokestatic 36, 3) := by decide +kernel
set_option maxRecDepth 20000 in
theorem ggX1_ofKind_X5_bit : GoodIn wsX1_ofKind wsX5_bit := goodIn_r _ [10] (by decide +kernel) (by decide +kernel)
set_option maxRecDepth 20000 in
theorem gX1_ofKind_X5_bit_n36 : GoodIn wsX1_ofKind (wsX5_bit) := ggX1_ofKind_X5_bit
theorem m_X1_ofKind_9 : (.initialized RX5 : Cond) ∈ wsX1_ofKind := List.mem_of_getElem? (i := 9) (by decide +kernel)
theorem m_X1_ofKind_8 : (.static yX5_bit : Cond) ∈ wsX1_ofKind := List.mem_of_getElem? (i := 8) (by decide +kernel)
theorem dX1_ofKind_33 : decode cX1_ofKind 33 = .ok (.ior, 1) := by decide +kernel
theorem dX1_ofKind_34 : decode cX1_ofKind 34 = .ok (.istore_n 2, 1) := by decide +kernel
def f_X1_ofKind_L4 (zg_kind : Nat → Int32) (zg_size : Int32) (a_w : Int32) : Nat → Int32 → Int32 → Int32
  | 0, _, _ => 0
  | n_1 + 1, v2_1, v3_1 => if (24 : Int32) < v3_1 then v2_1 else if (f_X1_names zg_size v3_1) = (0 : Int32) then v2_1 else if (zg_kind (v3_1).toNatClampNeg) = a_w then (f_X1_ofKind_L4 zg_kind zg_size a_w n_1) (v2_1 ||| (f_X5_bit v3_1)) (v3_1 + (1 : Int32)) else (f_X1_ofKind_L4 zg_kind zg_size a_w n_1) v2_1 (v3_1 + (1 : Int32))
def f_X1_ofKind (zg_kind : Nat → Int32) (zg_size : Int32) (a_w : Int32) : Int32 := f_X1_ofKind_L4 zg_kind zg_size a_w 26 (0 : Int32) (1 : Int32)
set_option maxHeartbeats 4000000 in
set_option maxRecDepth 100000 in
theorem c_X1_ofKind (l : Launch) (dC : Nat → ClassId) (dI : Nat → Nat → Nat) (cI cJ : ClassId) (sz : Nat) (zg azg_kind azg_hand azg_state azg_look : Nat) (zg_kind zg_hand zg_state zg_look : Nat → Int32) (zg_size : Int32) (a_w : Int32) : Met l yX1_ofKind wsX1_ofKind ({ frames := 1, cells := 0, slots := 0, locals := 21 } : Room) (va_Pc [.ref zg, .int a_w] (PreW dC dI cI cJ sz [(zg, .inr (1, [.ref azg_kind, .ref azg_hand, .ref azg_state, .ref azg_look, .int zg_size])), (azg_kind, .inl (cI, 25, .inl zg_kind)), (azg_hand, .inl (cI, 25, .inl zg_hand)), (azg_state, .inl (cI, 25, .inl zg_state)), (azg_look, .inl (cI, 25, .inl zg_look))])) (va_Qi (fun (r : Int32) (_ : Unit) => r = f_X1_ofKind zg_kind zg_size a_w) (fun (_ : Unit) _ => True) (fun q => sz ≤ q)) 0 0 (fun q => sz ≤ q) := by
  refine Met.ofW (cc := cX1_ofKind) (maxL := 4) (ret := (some .int)) (by decide) rfl ?_
  intro p e s m args below meth c s₁ B hml hv
  obtain ⟨rfl, hsz, hP, hK, hN, hD0⟩ := hv
  have hx := B.exec
  have hb := B.bytes
  have hr := B.returns
  have hts := atoms_spec (ws := wsX1_ofKind) B.pre
  have hown : s.vm.findClass RX1 = some m.cls := findClass_of_methodNamed B.named
  have hlocks := B.notSynchronized
  subst hsz
  have hD := hD0
  generalize hAe : (fun q => s.heap.size ≤ q) = A
  have hA : ∀ q : Nat, s.heap.size ≤ q → A q := fun q h => by rw [← hAe]; exact h
  have hS : va_S A s.heap s.heap [] := va_S.rf
  have hP : va_P (dC, dI) vwCl [(zg, .inr (1, [.ref azg_kind, .ref azg_hand, .ref azg_state, .ref azg_look, .int zg_size])), (azg_kind, .inl (cI, 25, .inl zg_kind)), (azg_hand, .inl (cI, 25, .inl zg_hand)), (azg_state, .inl (cI, 25, .inl zg_state)), (azg_look, .inl (cI, 25, .inl zg_look))] s.heap := hP
  have hl := lv_entry ([.ref zg, .int a_w]) (n := 4) (Nat.le_of_ble_eq_true rfl)
  rw [lg_entry_eq]
  generalize (lg_sl ([.ref zg, .int a_w]) ++ List.replicate (4 - (lg_sl ([.ref zg, .int a_w])).length) Slot.unset).toArray = ls at hl ⊢
  have hl : lv_has ls 4 [(0, .ref zg), (1, .int a_w)] := hl
  refine W_nm (fun QQ hQQ => ?_)
  refine lv_iconst (v := (0 : Int32)) hx hb dX1_ofKind_0 (by decide) ?_
  refine lv_istore_n (lv' := [(2, .int (0 : Int32)), (0, .ref zg), (1, .int a_w)]) hx hb dX1_ofKind_1 rfl hl (by decide) rfl (fun ls hl => ?_)
  refine lv_iconst (v := (1 : Int32)) hx hb dX1_ofKind_2 (by decide) ?_
  refine lv_istore_n (lv' := [(3, .int (1 : Int32)), (2, .int (0 : Int32)), (0, .ref zg), (1, .int a_w)]) hx hb dX1_ofKind_3 rfl hl (by decide) rfl (fun ls hl => ?_)
  have hloop_1 : ∀ (n_1 : Nat) (v2_1 : Int32) (v3_1 : Int32) , (0 ≤ v3_1.toInt) → (v3_1.toInt ≤ 25) → (25 - v3_1.toInt).toNat < n_1 → f_X1_ofKind zg_kind zg_size a_w = f_X1_ofKind_L4 zg_kind zg_size a_w n_1 v2_1 v3_1 → ∀ (H : Heap) (locs : List Loc), va_P (dC, dI) vwCl [(zg, .inr (1, [.ref azg_kind, .ref azg_hand, .ref azg_state, .ref azg_look, .int zg_size])), (azg_kind, .inl (cI, 25, .inl zg_kind)), (azg_hand, .inl (cI, 25, .inl zg_hand)), (azg_state, .inl (cI, 25, .inl zg_state)), (azg_look, .inl (cI, 25, .inl zg_look))] H → va_D (fun _ => True) [(zg, .inr (1, [.ref azg_kind, .ref azg_hand, .ref azg_state, .ref azg_look, .int zg_size])), (azg_kind, .inl (cI, 25, .inl zg_kind)), (azg_hand, .inl (cI, 25, .inl zg_hand)), (azg_state, .inl (cI, 25, .inl zg_state)), (azg_look, .inl (cI, 25, .inl zg_look))] → va_S A s.heap H locs → ∀ ls : Array Slot, lv_has ls 4 [(0, .ref zg), (1, .int a_w), (2, .int v2_1), (3, .int v3_1)] → W p l e (headSpec wsX1_ofKind ({ frames := 1, cells := 0, slots := 0, locals := 21 } : Room)).room s m ([.ref zg, .int a_w] : List Value).toArray below meth c H locs 0 0 QQ (F0 m 4 ls []) := by
    intro n_1
    induction n_1 with
    | zero => intro v2_1 v3_1 hi0_1 hi1_1 hmu; exact absurd hmu (Nat.not_lt_zero _)
    | succ n_1 ih_1 =>
      intro v2_1 v3_1 hi0_1 hi1_1 hmu_1 hI_1 H locs hP hD hS ls hl
      refine lv_iload_n hx hb dX1_ofKind_4 rfl (lv_at hl 3 rfl) ?_
      refine lv_bipush (v := (24 : Int32)) hx hb dX1_ofKind_5 (by decide) ?_
      refine lv_icmp_gt (tgt := 41) hx hb dX1_ofKind_7 (by decide) (fun c_2 => ?_) (fun c_2 => ?_)
      · have tc_2 : (24 : Int) < v3_1.toInt := q_lt c_2
        refine lv_iload_n hx hb dX1_ofKind_41 rfl (lv_at hl 2 rfl) ?_
        rw [hQQ]
        have hE : f_X1_ofKind zg_kind zg_size a_w = v2_1 := (hI_1.trans (by rw [f_X1_ofKind_L4, if_pos c_2]))
        exact W.iret (v := v2_1) hx hb hr (fun t ht hW => ⟨⟨v2_1, (), rfl, by rw [hE], trivial⟩, hS.F ht⟩) hS.2.2 dX1_ofKind_42
      · have tc_2 : v3_1.toInt ≤ (24 : Int) := q_nlt c_2
        refine lv_aload_n hx hb dX1_ofKind_10 rfl (lv_at hl 0 rfl) ?_
        refine lv_iload_n hx hb dX1_ofKind_11 rfl (lv_at hl 3 rfl) ?_
        have hPc := hP.sub (ws' := [(zg, .inr (1, [.ref azg_kind, .ref azg_hand, .ref azg_state, .ref azg_look, .int zg_size])), (azg_kind, .inl (cI, 25, .inl zg_kind)), (azg_hand, .inl (cI, 25, .inl zg_hand)), (azg_state, .inl (cI, 25, .inl zg_state)), (azg_look, .inl (cI, 25, .inl zg_look))]) [0, 1, 2, 3, 4] rfl
        have hDc := hD.sub (ws' := [(zg, .inr (1, [.ref azg_kind, .ref azg_hand, .ref azg_state, .ref azg_look, .int zg_size])), (azg_kind, .inl (cI, 25, .inl zg_kind)), (azg_hand, .inl (cI, 25, .inl zg_hand)), (azg_state, .inl (cI, 25, .inl zg_state)), (azg_look, .inl (cI, 25, .inl zg_look))]) [0, 1, 2, 3, 4] (by decide) rfl
        refine va_calli (va_runV (As := [.int v3_1]) (rest := []) ⟨hx, hb, hml, hown, hts⟩ (c_X1_names l dC dI cI cJ H.size zg azg_kind azg_hand azg_state azg_look zg_kind zg_hand zg_state zg_look zg_size v3_1) (cwV 1 hts gX1_ofKind_X1_names rfl rfl rfl (by decide +kernel) ⟨Nat.le_of_ble_eq_true rfl, Nat.le_of_ble_eq_true rfl⟩) ⟨fun a U g mk q => ⟨q.1, PreW.call g mk a q.2⟩, va_recv hK hP (ci := 1) (q0 := 0) rfl rfl, fun U hU hW => ⟨rfl, PreW.mk2 hU hW hPc hK hN (hDc.weaken (fun _ _ _ _ => trivial))⟩⟩ rfl rfl hl.1 rfl (lv_room (Nat.le_of_ble_eq_true rfl)) dX1_ofKind_12 ⟨Nat.le_of_ble_eq_true rfl, Nat.le_of_ble_eq_true rfl⟩) hS (fun q hq h => absurd hq (Nat.not_lt.mpr h)) (fun q h => hA q (Nat.le_trans hS.1 h)) (fun r_3 _u t H1 locs ht hvm hw hB hz1 hk1 hS => ?_)
        have hP := va_ro hP hk1
        generalize H1 = H at hP hS ⊢
        have hw : r_3 = f_X1_names zg_size v3_1 := hw
        subst hw
        obtain ⟨z_4, hz_4⟩ : ∃ z : Int32, z = f_X1_names zg_size v3_1 := ⟨_, rfl⟩
        refine lv_if_eq (tgt := 41) hx hb dX1_ofKind_15 (by decide) (fun c_5 => ?_) (fun c_5 => ?_)
        · have tc_5 : z_4.toInt = (0 : Int) := by rw [hz_4]; exact q_eq c_5
          refine lv_iload_n hx hb dX1_ofKind_41 rfl (lv_at hl 2 rfl) ?_
          rw [hQQ]
          have hE : f_X1_ofKind zg_kind zg_size a_w = v2_1 := (hI_1.trans (by rw [f_X1_ofKind_L4, if_neg c_2, if_pos c_5]))
          exact W.iret (v := v2_1) hx hb hr (fun t ht hW => ⟨⟨v2_1, (), rfl, by rw [hE], trivial⟩, hS.F ht⟩) hS.2.2 dX1_ofKind_42
        · have tc_5 : ¬ z_4.toInt = (0 : Int) := by rw [hz_4]; exact q_ne c_5
          obtain ⟨b_6, b_7, b_8⟩ := names_in c_5
          refine lv_aload_n hx hb dX1_ofKind_18 rfl (lv_at hl 0 rfl) ?_
          refine va_get (D := (dC, dI)) (ci := 1) (v := .ref azg_kind) (C := RX1) (T := TX1) (N := 5) hx hb hts in_X1_ofKind_X1 hown hK hP 0 rfl rfl 0 (by decide) (hts _ m_X1_ofKind_1) (fun _ h9 => h9) rfl dX1_ofKind_19 ?_
          refine lv_iload_n hx hb dX1_ofKind_22 rfl (lv_at hl 3 rfl) ?_
          refine va_iald (q0 := 1) (t0 := 0) (n := 25) (f := zg_kind) hx hb hK hP rfl rfl (vp_in_iff.mpr ⟨by omega, by omega⟩) dX1_ofKind_23 ?_
          refine lv_iload_n hx hb dX1_ofKind_24 rfl (lv_at hl 1 rfl) ?_
          refine lv_icmp_ne (tgt := 35) hx hb dX1_ofKind_25 (by decide) (fun c_9 => ?_) (fun c_9 => ?_)
          · refine lv_iinc (v := (v3_1 + (1 : Int32))) (lv' := [(3, .int (v3_1 + (1 : Int32))), (0, .ref zg), (1, .int a_w), (2, .int v2_1)]) hx hb dX1_ofKind_35 hl (k := 3) rfl rfl (by decide) rfl (fun ls hl => ?_)
            obtain ⟨z_10, hz_10⟩ : ∃ z : Int32, z = (v3_1 + (1 : Int32)) := ⟨_, rfl⟩
            try have gz_10 : z_10.toInt = v3_1.toInt + (1 : Int) := by rw [hz_10]; exact ti_add2 rfl rfl (by omega) (by omega)
            refine lv_goto (tgt := 4) hx hb dX1_ofKind_38 (by decide) ?_
            exact ih_1 v2_1 (v3_1 + (1 : Int32)) (by rw [← hz_10]; omega) (by rw [← hz_10]; omega) (by rw [← hz_10]; omega) (hI_1.trans (by rw [f_X1_ofKind_L4, if_neg c_2, if_neg c_5, if_neg c_9])) _ _ hP hD hS ls (lv_sub hl [1, 2, 3, 0] rfl)
          · refine lv_iload_n hx hb dX1_ofKind_28 rfl (lv_at hl 2 rfl) ?_
            refine lv_iload_n hx hb dX1_ofKind_29 rfl (lv_at hl 3 rfl) ?_
            have hPc := hP.sub (ws' := []) [] rfl
            have hDc := hD.sub (ws' := []) [] (by decide) rfl
            refine va_calli (va_runSN (As := [.int v3_1]) (rest := [.int v2_1]) ⟨hx, hb, hml, hown, hts⟩ (c_X5_bit l dC dI cI cJ H.size v3_1) ⟨va_cnB 1 hts gX1_ofKind_X5_bit_n36 rfl rfl rfl hN.1 (hts _ m_X1_ofKind_9) (by decide +kernel) ⟨Nat.le_of_ble_eq_true rfl, Nat.le_of_ble_eq_true rfl⟩, (hts _ m_X1_ofKind_8), trivial⟩ ⟨fun a U g mk q => ⟨q.1, PreW.call g mk a q.2⟩, fun U hU hW => ⟨rfl, PreW.mk2 hU hW hPc hK hN (hDc.weaken (fun _ _ _ _ => trivial))⟩⟩ rfl rfl hl.1 rfl (lv_room (Nat.le_of_ble_eq_true rfl)) dX1_ofKind_30 ⟨Nat.le_of_ble_eq_true rfl, Nat.le_of_ble_eq_true rfl⟩) hS (fun q hq h => absurd hq (Nat.not_lt.mpr h)) (fun q h => hA q (Nat.le_trans hS.1 h)) (fun r_11 _u t H1 locs ht hvm hw hB hz1 hk1 hS => ?_)
            have hP := va_ro hP hk1
            generalize H1 = H at hP hS ⊢
            have hw : r_11 = f_X5_bit v3_1 := hw
            subst hw
            obtain ⟨z_12, hz_12⟩ : ∃ z : Int32, z = f_X5_bit v3_1 := ⟨_, rfl⟩
            refine lv_ior hx hb dX1_ofKind_33 ?_
            refine lv_istore_n (lv' := [(2, .int (v2_1 ||| (f_X5_bit v3_1))), (0, .ref zg), (1, .int a_w), (3, .int v3_1)]) hx hb dX1_ofKind_34 rfl hl (by decide) rfl (fun ls hl => ?_)
            refine lv_iinc (v := (v3_1 + (1 : Int32))) (lv' := [(3, .int (v3_1 + (1 : Int32))), (2, .int (v2_1 ||| (f_X5_bit v3_1))), (0, .ref zg), (1, .int a_w)]) hx hb dX1_ofKind_35 hl (k := 3) rfl rfl (by decide) rfl (fun ls hl => ?_)
            obtain ⟨z_13, hz_13⟩ : ∃ z : Int32, z = (v3_1 + (1 : Int32)) := ⟨_, rfl⟩
            try have gz_13 : z_13.toInt = v3_1.toInt + (1 : Int) := by rw [hz_13]; exact ti_add2 rfl rfl (by omega) (by omega)
            refine lv_goto (tgt := 4) hx hb dX1_ofKind_38 (by decide) ?_
            exact ih_1 (v2_1 ||| (f_X5_bit v3_1)) (v3_1 + (1 : Int32)) (by rw [← hz_13]; omega) (by rw [← hz_13]; omega) (by rw [← hz_13]; omega) (hI_1.trans (by rw [f_X1_ofKind_L4, if_neg c_2, if_neg c_5, if_pos c_9])) _ _ hP hD hS ls (lv_sub hl [2, 3, 1, 0] rfl)
  exact hloop_1 26 (0 : Int32) (1 : Int32) (by first | omega | exact (show 0 ≤ (1 : Int) by omega) | assumption | trivial) (by first | omega | exact (show (1 : Int) ≤ 25 by omega) | assumption | trivial) (by first | omega | exact (show (25 - (1 : Int)).toNat < 26 by omega)) (by rw [f_X1_ofKind]) _ _ hP hD hS ls (lv_sub hl [2, 3, 1, 0] rfl)
theorem dX1_inState_0 : decode cX1_inState 0 = .ok (.iconst 0, 1) := by decide +kernel
theorem dX1_inState_1 : decode cX1_inState 1 = .ok (.istore_n 2, 1) := by decide +kernel
theorem dX1_inState_2 : decode cX1_inState 2 = .ok (.iconst 1, 1) := by decide +kernel
theorem dX1_inState_3 : decode cX1_inState 3 = .ok (.istore_n 3, 1) := by decide +kernel
theorem dX1_inState_4 : decode cX1_inState 4 = .ok (.iload_n 3, 1) := by decide +kernel
theorem dX1_inState_5 : decode cX1_inState 5 = .ok (.bipush 24, 2) := by decide +kernel
theorem dX1_inState_7 : decode cX1_inState 7 = .ok (.if_icmp .gt 34, 3) := by decide +kernel
theorem dX1_inState_41 : decode cX1_inState 41 = .ok (.iload_n 2, 1) := by decide +kernel
theorem dX1_inState_42 : decode cX1_inState 42 = .ok (.ireturn, 1) := by decide +kernel
theorem dX1_inState_10 : decode cX1_inState 10 = .ok (.aload_n 0, 1) := by decide +kernel
theorem dX1_inState_11 : decode cX1_inState 11 = .ok (.iload_n 3, 1) := by decide +kernel
theorem dX1_inState_12 : decode cX1_inState 12 = .ok (.invokevirtual 32, 3) := by decide +kernel
set_option maxRecDepth 20000 in
theorem ggX1_inState_X1_names : GoodIn wsX1_inState wsX1_names := goodIn_r _ [6, 7, 11, 12, 13, 14, 15] (by decide +kernel) (by decide +kernel)
set_option maxRecDepth 20000 in
theorem gX1_inState_X1_names : GoodIn wsX1_inState (wsV RX1 32 RX1 yX1_names wsX1_names) := goodIn_app (goodIn_of _ (by decide +kernel)) ggX1_inState_X1_names
theorem dX1_inState_15 : decode cX1_inState 15 = .ok (.ifCond .eq 26, 3) := by decide +kernel
theorem dX1_inState_18 : decode cX1_inState 18 = .ok (.aload_n 0, 1) := by decide +kernel
theorem dX1_inState_19 : decode cX1_inState 19 = .ok (.getfield 18, 3) := by decide +kernel
theorem in_X1_inState_X1 : ∀ w ∈ wsX10, w ∈ wsX1_inState := by decide +kernel
theorem m_X1_inState_1 : (.fieldLink RX1 18 "RedlineDesk$Ledger" "state" "[I" : Cond) ∈ wsX1_inState := List.mem_of_getElem? (i := 1) (by decide +kernel)
theorem dX1_inState_22 : decode cX1_inState 22 = .ok (.iload_n 3, 1) := by decide +kernel
theorem dX1_inState_23 : decode cX1_inState 23 = .ok (.iaload, 1) := by decide +kernel
theorem dX1_inState_24 : decode cX1_inState 24 = .ok (.iload_n 1, 1) := by decide +kernel
theorem dX1_inState_25 : decode cX1_inState 25 = .ok (.if_icmp .ne 10, 3) := by decide +kernel
theorem dX1_inState_35 : decode cX1_inState 35 = .ok (.iinc 3 1, 3) := by decide +kernel
theorem dX1_inState_38 : decode cX1_inState 38 = .ok (.goto (-34), 3) := by decide +kernel
theorem dX1_inState_28 : decode cX1_inState 28 = .ok (.iload_n 2, 1) := by decide +kernel
theorem dX1_inState_29 : decode cX1_inState 29 = .ok (.iload_n 3, 1) := by decide +kernel
theorem dX1_inState_30 : decode cX1_inState 30 = .ok (.invokestatic 36, 3) := by decide +kernel
set_option maxRecDepth 20000 in
theorem ggX1_inState_X5_bit : GoodIn wsX1_inState wsX5_bit := goodIn_r _ [10] (by decide +kernel) (by decide +kernel)
set_option maxRecDepth 20000 in
theorem gX1_inState_X5_bit_n36 : GoodIn wsX1_inState (wsX5_bit) := ggX1_inState_X5_bit
theorem m_X1_inState_9 : (.initialized RX5 : Cond) ∈ wsX1_inState := List.mem_of_getElem? (i := 9) (by decide +kernel)
theorem m_X1_inState_8 : (.static yX5_bit : Cond) ∈ wsX1_inState := List.mem_of_getElem? (i := 8) (by decide +kernel)
theorem dX1_inState_33 : decode cX1_inState 33 = .ok (.ior, 1) := by decide +kernel
theorem dX1_inState_34 : decode cX1_inState 34 = .ok (.istore_n 2, 1) := by decide +kernel
def f_X1_inState_L4 (zg_state : Nat → Int32) (zg_size : Int32) (a_w : Int32) : Nat → Int32 → Int32 → Int32
  | 0, _, _ => 0
  | n_1 + 1, v2_1, v3_1 => if (24 : Int32) < v3_1 then v2_1 else if (f_X1_names zg_size v3_1) = (0 : Int32) then v2_1 else if (zg_state (v3_1).toNatClampNeg) = a_w then (f_X1_inState_L4 zg_state zg_size a_w n_1) (v2_1 ||| (f_X5_bit v3_1)) (v3_1 + (1 : Int32)) else (f_X1_inState_L4 zg_state zg_size a_w n_1) v2_1 (v3_1 + (1 : Int32))
def f_X1_inState (zg_state : Nat → Int32) (zg_size : Int32) (a_w : Int32) : Int32 := f_X1_inState_L4 zg_state zg_size a_w 26 (0 : Int32) (1 : Int32)
set_option maxHeartbeats 4000000 in
set_option maxRecDepth 100000 in
theorem c_X1_inState (l : Launch) (dC : Nat → ClassId) (dI : Nat → Nat → Nat) (cI cJ : ClassId) (sz : Nat) (zg azg_kind azg_hand azg_state azg_look : Nat) (zg_kind zg_hand zg_state zg_look : Nat → Int32) (zg_size : Int32) (a_w : Int32) : Met l yX1_inState wsX1_inState ({ frames := 1, cells := 0, slots := 0, locals := 21 } : Room) (va_Pc [.ref zg, .int a_w] (PreW dC dI cI cJ sz [(zg, .inr (1, [.ref azg_kind, .ref azg_hand, .ref azg_state, .ref azg_look, .int zg_size])), (azg_kind, .inl (cI, 25, .inl zg_kind)), (azg_hand, .inl (cI, 25, .inl zg_hand)), (azg_state, .inl (cI, 25, .inl zg_state)), (azg_look, .inl (cI, 25, .inl zg_look))])) (va_Qi (fun (r : Int32) (_ : Unit) => r = f_X1_inState zg_state zg_size a_w) (fun (_ : Unit) _ => True) (fun q => sz ≤ q)) 0 0 (fun q => sz ≤ q) := by
  refine Met.ofW (cc := cX1_inState) (maxL := 4) (ret := (some .int)) (by decide) rfl ?_
  intro p e s m args below meth c s₁ B hml hv
  obtain ⟨rfl, hsz, hP, hK, hN, hD0⟩ := hv
  have hx := B.exec
  have hb := B.bytes
  have hr := B.returns
  have hts := atoms_spec (ws := wsX1_inState) B.pre
  have hown : s.vm.findClass RX1 = some m.cls := findClass_of_methodNamed B.named
  have hlocks := B.notSynchronized
  subst hsz
  have hD := hD0
  generalize hAe : (fun q => s.heap.size ≤ q) = A
  have hA : ∀ q : Nat, s.heap.size ≤ q → A q := fun q h => by rw [← hAe]; exact h
  have hS : va_S A s.heap s.heap [] := va_S.rf
  have hP : va_P (dC, dI) vwCl [(zg, .inr (1, [.ref azg_kind, .ref azg_hand, .ref azg_state, .ref azg_look, .int zg_size])), (azg_kind, .inl (cI, 25, .inl zg_kind)), (azg_hand, .inl (cI, 25, .inl zg_hand)), (azg_state, .inl (cI, 25, .inl zg_state)), (azg_look, .inl (cI, 25, .inl zg_look))] s.heap := hP
  have hl := lv_entry ([.ref zg, .int a_w]) (n := 4) (Nat.le_of_ble_eq_true rfl)
  rw [lg_entry_eq]
  generalize (lg_sl ([.ref zg, .int a_w]) ++ List.replicate (4 - (lg_sl ([.ref zg, .int a_w])).length) Slot.unset).toArray = ls at hl ⊢
  have hl : lv_has ls 4 [(0, .ref zg), (1, .int a_w)] := hl
  refine W_nm (fun QQ hQQ => ?_)
  refine lv_iconst (v := (0 : Int32)) hx hb dX1_inState_0 (by decide) ?_
  refine lv_istore_n (lv' := [(2, .int (0 : Int32)), (0, .ref zg), (1, .int a_w)]) hx hb dX1_inState_1 rfl hl (by decide) rfl (fun ls hl => ?_)
  refine lv_iconst (v := (1 : Int32)) hx hb dX1_inState_2 (by decide) ?_
  refine lv_istore_n (lv' := [(3, .int (1 : Int32)), (2, .int (0 : Int32)), (0, .ref zg), (1, .int a_w)]) hx hb dX1_inState_3 rfl hl (by decide) rfl (fun ls hl => ?_)
  have hloop_1 : ∀ (n_1 : Nat) (v2_1 : Int32) (v3_1 : Int32) , (0 ≤ v3_1.toInt) → (v3_1.toInt ≤ 25) → (25 - v3_1.toInt).toNat < n_1 → f_X1_inState zg_state zg_size a_w = f_X1_inState_L4 zg_state zg_size a_w n_1 v2_1 v3_1 → ∀ (H : Heap) (locs : List Loc), va_P (dC, dI) vwCl [(zg, .inr (1, [.ref azg_kind, .ref azg_hand, .ref azg_state, .ref azg_look, .int zg_size])), (azg_kind, .inl (cI, 25, .inl zg_kind)), (azg_hand, .inl (cI, 25, .inl zg_hand)), (azg_state, .inl (cI, 25, .inl zg_state)), (azg_look, .inl (cI, 25, .inl zg_look))] H → va_D (fun _ => True) [(zg, .inr (1, [.ref azg_kind, .ref azg_hand, .ref azg_state, .ref azg_look, .int zg_size])), (azg_kind, .inl (cI, 25, .inl zg_kind)), (azg_hand, .inl (cI, 25, .inl zg_hand)), (azg_state, .inl (cI, 25, .inl zg_state)), (azg_look, .inl (cI, 25, .inl zg_look))] → va_S A s.heap H locs → ∀ ls : Array Slot, lv_has ls 4 [(0, .ref zg), (1, .int a_w), (2, .int v2_1), (3, .int v3_1)] → W p l e (headSpec wsX1_inState ({ frames := 1, cells := 0, slots := 0, locals := 21 } : Room)).room s m ([.ref zg, .int a_w] : List Value).toArray below meth c H locs 0 0 QQ (F0 m 4 ls []) := by
    intro n_1
    induction n_1 with
    | zero => intro v2_1 v3_1 hi0_1 hi1_1 hmu; exact absurd hmu (Nat.not_lt_zero _)
    | succ n_1 ih_1 =>
      intro v2_1 v3_1 hi0_1 hi1_1 hmu_1 hI_1 H locs hP hD hS ls hl
      refine lv_iload_n hx hb dX1_inState_4 rfl (lv_at hl 3 rfl) ?_
      refine lv_bipush (v := (24 : Int32)) hx hb dX1_inState_5 (by decide) ?_
      refine lv_icmp_gt (tgt := 41) hx hb dX1_inState_7 (by decide) (fun c_2 => ?_) (fun c_2 => ?_)
      · have tc_2 : (24 : Int) < v3_1.toInt := q_lt c_2
        refine lv_iload_n hx hb dX1_inState_41 rfl (lv_at hl 2 rfl) ?_
        rw [hQQ]
        have hE : f_X1_inState zg_state zg_size a_w = v2_1 := (hI_1.trans (by rw [f_X1_inState_L4, if_pos c_2]))
        exact W.iret (v := v2_1) hx hb hr (fun t ht hW => ⟨⟨v2_1, (), rfl, by rw [hE], trivial⟩, hS.F ht⟩) hS.2.2 dX1_inState_42
      · have tc_2 : v3_1.toInt ≤ (24 : Int) := q_nlt c_2
        refine lv_aload_n hx hb dX1_inState_10 rfl (lv_at hl 0 rfl) ?_
        refine lv_iload_n hx hb dX1_inState_11 rfl (lv_at hl 3 rfl) ?_
        have hPc := hP.sub (ws' := [(zg, .inr (1, [.ref azg_kind, .ref azg_hand, .ref azg_state, .ref azg_look, .int zg_size])), (azg_kind, .inl (cI, 25, .inl zg_kind)), (azg_hand, .inl (cI, 25, .inl zg_hand)), (azg_state, .inl (cI, 25, .inl zg_state)), (azg_look, .inl (cI, 25, .inl zg_look))]) [0, 1, 2, 3, 4] rfl
        have hDc := hD.sub (ws' := [(zg, .inr (1, [.ref azg_kind, .ref azg_hand, .ref azg_state, .ref azg_look, .int zg_size])), (azg_kind, .inl (cI, 25, .inl zg_kind)), (azg_hand, .inl (cI, 25, .inl zg_hand)), (azg_state, .inl (cI, 25, .inl zg_state)), (azg_look, .inl (cI, 25, .inl zg_look))]) [0, 1, 2, 3, 4] (by decide) rfl
        refine va_calli (va_runV (As := [.int v3_1]) (rest := []) ⟨hx, hb, hml, hown, hts⟩ (c_X1_names l dC dI cI cJ H.size zg azg_kind azg_hand azg_state azg_look zg_kind zg_hand zg_state zg_look zg_size v3_1) (cwV 1 hts gX1_inState_X1_names rfl rfl rfl (by decide +kernel) ⟨Nat.le_of_ble_eq_true rfl, Nat.le_of_ble_eq_true rfl⟩) ⟨fun a U g mk q => ⟨q.1, PreW.call g mk a q.2⟩, va_recv hK hP (ci := 1) (q0 := 0) rfl rfl, fun U hU hW => ⟨rfl, PreW.mk2 hU hW hPc hK hN (hDc.weaken (fun _ _ _ _ => trivial))⟩⟩ rfl rfl hl.1 rfl (lv_room (Nat.le_of_ble_eq_true rfl)) dX1_inState_12 ⟨Nat.le_of_ble_eq_true rfl, Nat.le_of_ble_eq_true rfl⟩) hS (fun q hq h => absurd hq (Nat.not_lt.mpr h)) (fun q h => hA q (Nat.le_trans hS.1 h)) (fun r_3 _u t H1 locs ht hvm hw hB hz1 hk1 hS => ?_)
        have hP := va_ro hP hk1
        generalize H1 = H at hP hS ⊢
        have hw : r_3 = f_X1_names zg_size v3_1 := hw
        subst hw
        obtain ⟨z_4, hz_4⟩ : ∃ z : Int32, z = f_X1_names zg_size v3_1 := ⟨_, rfl⟩
        refine lv_if_eq (tgt := 41) hx hb dX1_inState_15 (by decide) (fun c_5 => ?_) (fun c_5 => ?_)
        · have tc_5 : z_4.toInt = (0 : Int) := by rw [hz_4]; exact q_eq c_5
          refine lv_iload_n hx hb dX1_inState_41 rfl (lv_at hl 2 rfl) ?_
          rw [hQQ]
          have hE : f_X1_inState zg_state zg_size a_w = v2_1 := (hI_1.trans (by rw [f_X1_inState_L4, if_neg c_2, if_pos c_5]))
          exact W.iret (v := v2_1) hx hb hr (fun t ht hW => ⟨⟨v2_1, (), rfl, by rw [hE], trivial⟩, hS.F ht⟩) hS.2.2 dX1_inState_42
        · have tc_5 : ¬ z_4.toInt = (0 : Int) := by rw [hz_4]; exact q_ne c_5
          obtain ⟨b_6, b_7, b_8⟩ := names_in c_5
          refine lv_aload_n hx hb dX1_inState_18 rfl (lv_at hl 0 rfl) ?_
          refine va_get (D := (dC, dI)) (ci := 1) (v := .ref azg_state) (C := RX1) (T := TX1) (N := 5) hx hb hts in_X1_inState_X1 hown hK hP 0 rfl rfl 2 (by decide) (hts _ m_X1_inState_1) (fun _ h9 => h9) rfl dX1_inState_19 ?_
          refine lv_iload_n hx hb dX1_inState_22 rfl (lv_at hl 3 rfl) ?_
          refine va_iald (q0 := 3) (t0 := 0) (n := 25) (f := zg_state) hx hb hK hP rfl rfl (vp_in_iff.mpr ⟨by omega, by omega⟩) dX1_inState_23 ?_
          refine lv_iload_n hx hb dX1_inState_24 rfl (lv_at hl 1 rfl) ?_
          refine lv_icmp_ne (tgt := 35) hx hb dX1_inState_25 (by decide) (fun c_9 => ?_) (fun c_9 => ?_)
          · refine lv_iinc (v := (v3_1 + (1 : Int32))) (lv' := [(3, .int (v3_1 + (1 : Int32))), (0, .ref zg), (1, .int a_w), (2, .int v2_1)]) hx hb dX1_inState_35 hl (k := 3) rfl rfl (by decide) rfl (fun ls hl => ?_)
            obtain ⟨z_10, hz_10⟩ : ∃ z : Int32, z = (v3_1 + (1 : Int32)) := ⟨_, rfl⟩
            try have gz_10 : z_10.toInt = v3_1.toInt + (1 : Int) := by rw [hz_10]; exact ti_add2 rfl rfl (by omega) (by omega)
            refine lv_goto (tgt := 4) hx hb dX1_inState_38 (by decide) ?_
            exact ih_1 v2_1 (v3_1 + (1 : Int32)) (by rw [← hz_10]; omega) (by rw [← hz_10]; omega) (by rw [← hz_10]; omega) (hI_1.trans (by rw [f_X1_inState_L4, if_neg c_2, if_neg c_5, if_neg c_9])) _ _ hP hD hS ls (lv_sub hl [1, 2, 3, 0] rfl)
          · refine lv_iload_n hx hb dX1_inState_28 rfl (lv_at hl 2 rfl) ?_
            refine lv_iload_n hx hb dX1_inState_29 rfl (lv_at hl 3 rfl) ?_
            have hPc := hP.sub (ws' := []) [] rfl
            have hDc := hD.sub (ws' := []) [] (by decide) rfl
            refine va_calli (va_runSN (As := [.int v3_1]) (rest := [.int v2_1]) ⟨hx, hb, hml, hown, hts⟩ (c_X5_bit l dC dI cI cJ H.size v3_1) ⟨va_cnB 1 hts gX1_inState_X5_bit_n36 rfl rfl rfl hN.1 (hts _ m_X1_inState_9) (by decide +kernel) ⟨Nat.le_of_ble_eq_true rfl, Nat.le_of_ble_eq_true rfl⟩, (hts _ m_X1_inState_8), trivial⟩ ⟨fun a U g mk q => ⟨q.1, PreW.call g mk a q.2⟩, fun U hU hW => ⟨rfl, PreW.mk2 hU hW hPc hK hN (hDc.weaken (fun _ _ _ _ => trivial))⟩⟩ rfl rfl hl.1 rfl (lv_room (Nat.le_of_ble_eq_true rfl)) dX1_inState_30 ⟨Nat.le_of_ble_eq_true rfl, Nat.le_of_ble_eq_true rfl⟩) hS (fun q hq h => absurd hq (Nat.not_lt.mpr h)) (fun q h => hA q (Nat.le_trans hS.1 h)) (fun r_11 _u t H1 locs ht hvm hw hB hz1 hk1 hS => ?_)
            have hP := va_ro hP hk1
            generalize H1 = H at hP hS ⊢
            have hw : r_11 = f_X5_bit v3_1 := hw
            subst hw
            obtain ⟨z_12, hz_12⟩ : ∃ z : Int32, z = f_X5_bit v3_1 := ⟨_, rfl⟩
            refine lv_ior hx hb dX1_inState_33 ?_
            refine lv_istore_n (lv' := [(2, .int (v2_1 ||| (f_X5_bit v3_1))), (0, .ref zg), (1, .int a_w), (3, .int v3_1)]) hx hb dX1_inState_34 rfl hl (by decide) rfl (fun ls hl => ?_)
            refine lv_iinc (v := (v3_1 + (1 : Int32))) (lv' := [(3, .int (v3_1 + (1 : Int32))), (2, .int (v2_1 ||| (f_X5_bit v3_1))), (0, .ref zg), (1, .int a_w)]) hx hb dX1_inState_35 hl (k := 3) rfl rfl (by decide) rfl (fun ls hl => ?_)
            obtain ⟨z_13, hz_13⟩ : ∃ z : Int32, z = (v3_1 + (1 : Int32)) := ⟨_, rfl⟩
            try have gz_13 : z_13.toInt = v3_1.toInt + (1 : Int) := by rw [hz_13]; exact ti_add2 rfl rfl (by omega) (by omega)
            refine lv_goto (tgt := 4) hx hb dX1_inState_38 (by decide) ?_
            exact ih_1 (v2_1 ||| (f_X5_bit v3_1)) (v3_1 + (1 : Int32)) (by rw [← hz_13]; omega) (by rw [← hz_13]; omega) (by rw [← hz_13]; omega) (hI_1.trans (by rw [f_X1_inState_L4, if_neg c_2, if_neg c_5, if_pos c_9])) _ _ hP hD hS ls (lv_sub hl [2, 3, 1, 0] rfl)
  exact hloop_1 26 (0 : Int32) (1 : Int32) (by first | omega | exact (show 0 ≤ (1 : Int) by omega) | assumption | trivial) (by first | omega | exact (show (1 : Int) ≤ 25 by omega) | assumption | trivial) (by first | omega | exact (show (25 - (1 : Int)).toNat < 26 by omega)) (by rw [f_X1_inState]) _ _ hP hD hS ls (lv_sub hl [2, 3, 1, 0] rfl)
theorem dX1_ofHand_0 : decode cX1_ofHand 0 = .ok (.iconst 0, 1) := by decide +kernel
theorem dX1_ofHand_1 : decode cX1_ofHand 1 = .ok (.istore_n 2, 1) := by decide +kernel
theorem dX1_ofHand_2 : decode cX1_ofHand 2 = .ok (.iconst 1, 1) := by decide +kernel
theorem dX1_ofHand_3 : decode cX1_ofHand 3 = .ok (.istore_n 3, 1) := by decide +kernel
theorem dX1_ofHand_4 : decode cX1_ofHand 4 = .ok (.iload_n 3, 1) := by decide +kernel
theorem dX1_ofHand_5 : decode cX1_ofHand 5 = .ok (.bipush 24, 2) := by decide +kernel
theorem dX1_ofHand_7 : decode cX1_ofHand 7 = .ok (.if_icmp .gt 34, 3) := by decide +kernel
theorem dX1_ofHand_41 : decode cX1_ofHand 41 = .ok (.iload_n 2, 1) := by decide +kernel
theorem dX1_ofHand_42 : decode cX1_ofHand 42 = .ok (.ireturn, 1) := by decide +kernel
theorem dX1_ofHand_10 : decode cX1_ofHand 10 = .ok (.aload_n 0, 1) := by decide +kernel
theorem dX1_ofHand_11 : decode cX1_ofHand 11 = .ok (.iload_n 3, 1) := by decide +kernel
theorem dX1_ofHand_12 : decode cX1_ofHand 12 = .ok (.invokevirtual 32, 3) := by decide +kernel
set_option maxRecDepth 20000 in
theorem ggX1_ofHand_X1_names : GoodIn wsX1_ofHand wsX1_names := goodIn_r _ [6, 7, 11, 12, 13, 14, 15] (by decide +kernel) (by decide +kernel)
set_option maxRecDepth 20000 in
theorem gX1_ofHand_X1_names : GoodIn wsX1_ofHand (wsV RX1 32 RX1 yX1_names wsX1_names) := goodIn_app (goodIn_of _ (by decide +kernel)) ggX1_ofHand_X1_names
theorem dX1_ofHand_15 : decode cX1_ofHand 15 = .ok (.ifCond .eq 26, 3) := by decide +kernel
theorem dX1_ofHand_18 : decode cX1_ofHand 18 = .ok (.aload_n 0, 1) := by decide +kernel
theorem dX1_ofHand_19 : decode cX1_ofHand 19 = .ok (.getfield 15, 3) := by decide +kernel
theorem in_X1_ofHand_X1 : ∀ w ∈ wsX10, w ∈ wsX1_ofHand := by decide +kernel
theorem m_X1_ofHand_1 : (.fieldLink RX1 15 "RedlineDesk$Ledger" "hand" "[I" : Cond) ∈ wsX1_ofHand := List.mem_of_getElem? (i := 1) (by decide +kernel)
theorem dX1_ofHand_22 : decode cX1_ofHand 22 = .ok (.iload_n 3, 1) := by decide +kernel
theorem dX1_ofHand_23 : decode cX1_ofHand 23 = .ok (.iaload, 1) := by decide +kernel
theorem dX1_ofHand_24 : decode cX1_ofHand 24 = .ok (.iload_n 1, 1) := by decide +kernel
theorem dX1_ofHand_25 : decode cX1_ofHand 25 = .ok (.if_icmp .ne 10, 3) := by decide +kernel
theorem dX1_ofHand_35 : decode cX1_ofHand 35 = .ok (.iinc 3 1, 3) := by decide +kernel
theorem dX1_ofHand_38 : decode cX1_ofHand 38 = .ok (.goto (-34), 3) := by decide +kernel
theorem dX1_ofHand_28 : decode cX1_ofHand 28 = .ok (.iload_n 2, 1) := by decide +kernel
theorem dX1_ofHand_29 : decode cX1_ofHand 29 = .ok (.iload_n 3, 1) := by decide +kernel
theorem dX1_ofHand_30 : decode cX1_ofHand 30 = .ok (.invokestatic 36, 3) := by decide +kernel
set_option maxRecDepth 20000 in
theorem ggX1_ofHand_X5_bit : GoodIn wsX1_ofHand wsX5_bit := goodIn_r _ [10] (by decide +kernel) (by decide +kernel)
set_option maxRecDepth 20000 in
theorem gX1_ofHand_X5_bit_n36 : GoodIn wsX1_ofHand (wsX5_bit) := ggX1_ofHand_X5_bit
theorem m_X1_ofHand_9 : (.initialized RX5 : Cond) ∈ wsX1_ofHand := List.mem_of_getElem? (i := 9) (by decide +kernel)
theorem m_X1_ofHand_8 : (.static yX5_bit : Cond) ∈ wsX1_ofHand := List.mem_of_getElem? (i := 8) (by decide +kernel)
theorem dX1_ofHand_33 : decode cX1_ofHand 33 = .ok (.ior, 1) := by decide +kernel
theorem dX1_ofHand_34 : decode cX1_ofHand 34 = .ok (.istore_n 2, 1) := by decide +kernel
def f_X1_ofHand_L4 (zg_hand : Nat → Int32) (zg_size : Int32) (a_w : Int32) : Nat → Int32 → Int32 → Int32
  | 0, _, _ => 0
  | n_1 + 1, v2_1, v3_1 => if (24 : Int32) < v3_1 then v2_1 else if (f_X1_names zg_size v3_1) = (0 : Int32) then v2_1 else if (zg_hand (v3_1).toNatClampNeg) = a_w then (f_X1_ofHand_L4 zg_hand zg_size a_w n_1) (v2_1 ||| (f_X5_bit v3_1)) (v3_1 + (1 : Int32)) else (f_X1_ofHand_L4 zg_hand zg_size a_w n_1) v2_1 (v3_1 + (1 : Int32))
def f_X1_ofHand (zg_hand : Nat → Int32) (zg_size : Int32) (a_w : Int32) : Int32 := f_X1_ofHand_L4 zg_hand zg_size a_w 26 (0 : Int32) (1 : Int32)
set_option maxHeartbeats 4000000 in
set_option maxRecDepth 100000 in
theorem c_X1_ofHand (l : Launch) (dC : Nat → ClassId) (dI : Nat → Nat → Nat) (cI cJ : ClassId) (sz : Nat) (zg azg_kind azg_hand azg_state azg_look : Nat) (zg_kind zg_hand zg_state zg_look : Nat → Int32) (zg_size : Int32) (a_w : Int32) : Met l yX1_ofHand wsX1_ofHand ({ frames := 1, cells := 0, slots := 0, locals := 21 } : Room) (va_Pc [.ref zg, .int a_w] (PreW dC dI cI cJ sz [(zg, .inr (1, [.ref azg_kind, .ref azg_hand, .ref azg_state, .ref azg_look, .int zg_size])), (azg_kind, .inl (cI, 25, .inl zg_kind)), (azg_hand, .inl (cI, 25, .inl zg_hand)), (azg_state, .inl (cI, 25, .inl zg_state)), (azg_look, .inl (cI, 25, .inl zg_look))])) (va_Qi (fun (r : Int32) (_ : Unit) => r = f_X1_ofHand zg_hand zg_size a_w) (fun (_ : Unit) _ => True) (fun q => sz ≤ q)) 0 0 (fun q => sz ≤ q) := by
  refine Met.ofW (cc := cX1_ofHand) (maxL := 4) (ret := (some .int)) (by decide) rfl ?_
  intro p e s m args below meth c s₁ B hml hv
  obtain ⟨rfl, hsz, hP, hK, hN, hD0⟩ := hv
  have hx := B.exec
  have hb := B.bytes
  have hr := B.returns
  have hts := atoms_spec (ws := wsX1_ofHand) B.pre
  have hown : s.vm.findClass RX1 = some m.cls := findClass_of_methodNamed B.named
  have hlocks := B.notSynchronized
  subst hsz
  have hD := hD0
  generalize hAe : (fun q => s.heap.size ≤ q) = A
  have hA : ∀ q : Nat, s.heap.size ≤ q → A q := fun q h => by rw [← hAe]; exact h
  have hS : va_S A s.heap s.heap [] := va_S.rf
  have hP : va_P (dC, dI) vwCl [(zg, .inr (1, [.ref azg_kind, .ref azg_hand, .ref azg_state, .ref azg_look, .int zg_size])), (azg_kind, .inl (cI, 25, .inl zg_kind)), (azg_hand, .inl (cI, 25, .inl zg_hand)), (azg_state, .inl (cI, 25, .inl zg_state)), (azg_look, .inl (cI, 25, .inl zg_look))] s.heap := hP
  have hl := lv_entry ([.ref zg, .int a_w]) (n := 4) (Nat.le_of_ble_eq_true rfl)
  rw [lg_entry_eq]
  generalize (lg_sl ([.ref zg, .int a_w]) ++ List.replicate (4 - (lg_sl ([.ref zg, .int a_w])).length) Slot.unset).toArray = ls at hl ⊢
  have hl : lv_has ls 4 [(0, .ref zg), (1, .int a_w)] := hl
  refine W_nm (fun QQ hQQ => ?_)
  refine lv_iconst (v := (0 : Int32)) hx hb dX1_ofHand_0 (by decide) ?_
  refine lv_istore_n (lv' := [(2, .int (0 : Int32)), (0, .ref zg), (1, .int a_w)]) hx hb dX1_ofHand_1 rfl hl (by decide) rfl (fun ls hl => ?_)
  refine lv_iconst (v := (1 : Int32)) hx hb dX1_ofHand_2 (by decide) ?_
  refine lv_istore_n (lv' := [(3, .int (1 : Int32)), (2, .int (0 : Int32)), (0, .ref zg), (1, .int a_w)]) hx hb dX1_ofHand_3 rfl hl (by decide) rfl (fun ls hl => ?_)
  have hloop_1 : ∀ (n_1 : Nat) (v2_1 : Int32) (v3_1 : Int32) , (0 ≤ v3_1.toInt) → (v3_1.toInt ≤ 25) → (25 - v3_1.toInt).toNat < n_1 → f_X1_ofHand zg_hand zg_size a_w = f_X1_ofHand_L4 zg_hand zg_size a_w n_1 v2_1 v3_1 → ∀ (H : Heap) (locs : List Loc), va_P (dC, dI) vwCl [(zg, .inr (1, [.ref azg_kind, .ref azg_hand, .ref azg_state, .ref azg_look, .int zg_size])), (azg_kind, .inl (cI, 25, .inl zg_kind)), (azg_hand, .inl (cI, 25, .inl zg_hand)), (azg_state, .inl (cI, 25, .inl zg_state)), (azg_look, .inl (cI, 25, .inl zg_look))] H → va_D (fun _ => True) [(zg, .inr (1, [.ref azg_kind, .ref azg_hand, .ref azg_state, .ref azg_look, .int zg_size])), (azg_kind, .inl (cI, 25, .inl zg_kind)), (azg_hand, .inl (cI, 25, .inl zg_hand)), (azg_state, .inl (cI, 25, .inl zg_state)), (azg_look, .inl (cI, 25, .inl zg_look))] → va_S A s.heap H locs → ∀ ls : Array Slot, lv_has ls 4 [(0, .ref zg), (1, .int a_w), (2, .int v2_1), (3, .int v3_1)] → W p l e (headSpec wsX1_ofHand ({ frames := 1, cells := 0, slots := 0, locals := 21 } : Room)).room s m ([.ref zg, .int a_w] : List Value).toArray below meth c H locs 0 0 QQ (F0 m 4 ls []) := by
    intro n_1
    induction n_1 with
    | zero => intro v2_1 v3_1 hi0_1 hi1_1 hmu; exact absurd hmu (Nat.not_lt_zero _)
    | succ n_1 ih_1 =>
      intro v2_1 v3_1 hi0_1 hi1_1 hmu_1 hI_1 H locs hP hD hS ls hl
      refine lv_iload_n hx hb dX1_ofHand_4 rfl (lv_at hl 3 rfl) ?_
      refine lv_bipush (v := (24 : Int32)) hx hb dX1_ofHand_5 (by decide) ?_
      refine lv_icmp_gt (tgt := 41) hx hb dX1_ofHand_7 (by decide) (fun c_2 => ?_) (fun c_2 => ?_)
      · have tc_2 : (24 : Int) < v3_1.toInt := q_lt c_2
        refine lv_iload_n hx hb dX1_ofHand_41 rfl (lv_at hl 2 rfl) ?_
        rw [hQQ]
        have hE : f_X1_ofHand zg_hand zg_size a_w = v2_1 := (hI_1.trans (by rw [f_X1_ofHand_L4, if_pos c_2]))
        exact W.iret (v := v2_1) hx hb hr (fun t ht hW => ⟨⟨v2_1, (), rfl, by rw [hE], trivial⟩, hS.F ht⟩) hS.2.2 dX1_ofHand_42
      · have tc_2 : v3_1.toInt ≤ (24 : Int) := q_nlt c_2
        refine lv_aload_n hx hb dX1_ofHand_10 rfl (lv_at hl 0 rfl) ?_
        refine lv_iload_n hx hb dX1_ofHand_11 rfl (lv_at hl 3 rfl) ?_
        have hPc := hP.sub (ws' := [(zg, .inr (1, [.ref azg_kind, .ref azg_hand, .ref azg_state, .ref azg_look, .int zg_size])), (azg_kind, .inl (cI, 25, .inl zg_kind)), (azg_hand, .inl (cI, 25, .inl zg_hand)), (azg_state, .inl (cI, 25, .inl zg_state)), (azg_look, .inl (cI, 25, .inl zg_look))]) [0, 1, 2, 3, 4] rfl
        have hDc := hD.sub (ws' := [(zg, .inr (1, [.ref azg_kind, .ref azg_hand, .ref azg_state, .ref azg_look, .int zg_size])), (azg_kind, .inl (cI, 25, .inl zg_kind)), (azg_hand, .inl (cI, 25, .inl zg_hand)), (azg_state, .inl (cI, 25, .inl zg_state)), (azg_look, .inl (cI, 25, .inl zg_look))]) [0, 1, 2, 3, 4] (by decide) rfl
        refine va_calli (va_runV (As := [.int v3_1]) (rest := []) ⟨hx, hb, hml, hown, hts⟩ (c_X1_names l dC dI cI cJ H.size zg azg_kind azg_hand azg_state azg_look zg_kind zg_hand zg_state zg_look zg_size v3_1) (cwV 1 hts gX1_ofHand_X1_names rfl rfl rfl (by decide +kernel) ⟨Nat.le_of_ble_eq_true rfl, Nat.le_of_ble_eq_true rfl⟩) ⟨fun a U g mk q => ⟨q.1, PreW.call g mk a q.2⟩, va_recv hK hP (ci := 1) (q0 := 0) rfl rfl, fun U hU hW => ⟨rfl, PreW.mk2 hU hW hPc hK hN (hDc.weaken (fun _ _ _ _ => trivial))⟩⟩ rfl rfl hl.1 rfl (lv_room (Nat.le_of_ble_eq_true rfl)) dX1_ofHand_12 ⟨Nat.le_of_ble_eq_true rfl, Nat.le_of_ble_eq_true rfl⟩) hS (fun q hq h => absurd hq (Nat.not_lt.mpr h)) (fun q h => hA q (Nat.le_trans hS.1 h)) (fun r_3 _u t H1 locs ht hvm hw hB hz1 hk1 hS => ?_)
        have hP := va_ro hP hk1
        generalize H1 = H at hP hS ⊢
        have hw : r_3 = f_X1_names zg_size v3_1 := hw
        subst hw
        obtain ⟨z_4, hz_4⟩ : ∃ z : Int32, z = f_X1_names zg_size v3_1 := ⟨_, rfl⟩
        refine lv_if_eq (tgt := 41) hx hb dX1_ofHand_15 (by decide) (fun c_5 => ?_) (fun c_5 => ?_)
        · have tc_5 : z_4.toInt = (0 : Int) := by rw [hz_4]; exact q_eq c_5
          refine lv_iload_n hx hb dX1_ofHand_41 rfl (lv_at hl 2 rfl) ?_
          rw [hQQ]
          have hE : f_X1_ofHand zg_hand zg_size a_w = v2_1 := (hI_1.trans (by rw [f_X1_ofHand_L4, if_neg c_2, if_pos c_5]))
          exact W.iret (v := v2_1) hx hb hr (fun t ht hW => ⟨⟨v2_1, (), rfl, by rw [hE], trivial⟩, hS.F ht⟩) hS.2.2 dX1_ofHand_42
        · have tc_5 : ¬ z_4.toInt = (0 : Int) := by rw [hz_4]; exact q_ne c_5
          obtain ⟨b_6, b_7, b_8⟩ := names_in c_5
          refine lv_aload_n hx hb dX1_ofHand_18 rfl (lv_at hl 0 rfl) ?_
          refine va_get (D := (dC, dI)) (ci := 1) (v := .ref azg_hand) (C := RX1) (T := TX1) (N := 5) hx hb hts in_X1_ofHand_X1 hown hK hP 0 rfl rfl 1 (by decide) (hts _ m_X1_ofHand_1) (fun _ h9 => h9) rfl dX1_ofHand_19 ?_
          refine lv_iload_n hx hb dX1_ofHand_22 rfl (lv_at hl 3 rfl) ?_
          refine va_iald (q0 := 2) (t0 := 0) (n := 25) (f := zg_hand) hx hb hK hP rfl rfl (vp_in_iff.mpr ⟨by omega, by omega⟩) dX1_ofHand_23 ?_
          refine lv_iload_n hx hb dX1_ofHand_24 rfl (lv_at hl 1 rfl) ?_
          refine lv_icmp_ne (tgt := 35) hx hb dX1_ofHand_25 (by decide) (fun c_9 => ?_) (fun c_9 => ?_)
          · refine lv_iinc (v := (v3_1 + (1 : Int32))) (lv' := [(3, .int (v3_1 + (1 : Int32))), (0, .ref zg), (1, .int a_w), (2, .int v2_1)]) hx hb dX1_ofHand_35 hl (k := 3) rfl rfl (by decide) rfl (fun ls hl => ?_)
            obtain ⟨z_10, hz_10⟩ : ∃ z : Int32, z = (v3_1 + (1 : Int32)) := ⟨_, rfl⟩
            try have gz_10 : z_10.toInt = v3_1.toInt + (1 : Int) := by rw [hz_10]; exact ti_add2 rfl rfl (by omega) (by omega)
            refine lv_goto (tgt := 4) hx hb dX1_ofHand_38 (by decide) ?_
            exact ih_1 v2_1 (v3_1 + (1 : Int32)) (by rw [← hz_10]; omega) (by rw [← hz_10]; omega) (by rw [← hz_10]; omega) (hI_1.trans (by rw [f_X1_ofHand_L4, if_neg c_2, if_neg c_5, if_neg c_9])) _ _ hP hD hS ls (lv_sub hl [1, 2, 3, 0] rfl)
          · refine lv_iload_n hx hb dX1_ofHand_28 rfl (lv_at hl 2 rfl) ?_
            refine lv_iload_n hx hb dX1_ofHand_29 rfl (lv_at hl 3 rfl) ?_
            have hPc := hP.sub (ws' := []) [] rfl
            have hDc := hD.sub (ws' := []) [] (by decide) rfl
            refine va_calli (va_runSN (As := [.int v3_1]) (rest := [.int v2_1]) ⟨hx, hb, hml, hown, hts⟩ (c_X5_bit l dC dI cI cJ H.size v3_1) ⟨va_cnB 1 hts gX1_ofHand_X5_bit_n36 rfl rfl rfl hN.1 (hts _ m_X1_ofHand_9) (by decide +kernel) ⟨Nat.le_of_ble_eq_true rfl, Nat.le_of_ble_eq_true rfl⟩, (hts _ m_X1_ofHand_8), trivial⟩ ⟨fun a U g mk q => ⟨q.1, PreW.call g mk a q.2⟩, fun U hU hW => ⟨rfl, PreW.mk2 hU hW hPc hK hN (hDc.weaken (fun _ _ _ _ => trivial))⟩⟩ rfl rfl hl.1 rfl (lv_room (Nat.le_of_ble_eq_true rfl)) dX1_ofHand_30 ⟨Nat.le_of_ble_eq_true rfl, Nat.le_of_ble_eq_true rfl⟩) hS (fun q hq h => absurd hq (Nat.not_lt.mpr h)) (fun q h => hA q (Nat.le_trans hS.1 h)) (fun r_11 _u t H1 locs ht hvm hw hB hz1 hk1 hS => ?_)
            have hP := va_ro hP hk1
            generalize H1 = H at hP hS ⊢
            have hw : r_11 = f_X5_bit v3_1 := hw
            subst hw
            obtain ⟨z_12, hz_12⟩ : ∃ z : Int32, z = f_X5_bit v3_1 := ⟨_, rfl⟩
            refine lv_ior hx hb dX1_ofHand_33 ?_
            refine lv_istore_n (lv' := [(2, .int (v2_1 ||| (f_X5_bit v3_1))), (0, .ref zg), (1, .int a_w), (3, .int v3_1)]) hx hb dX1_ofHand_34 rfl hl (by decide) rfl (fun ls hl => ?_)
            refine lv_iinc (v := (v3_1 + (1 : Int32))) (lv' := [(3, .int (v3_1 + (1 : Int32))), (2, .int (v2_1 ||| (f_X5_bit v3_1))), (0, .ref zg), (1, .int a_w)]) hx hb dX1_ofHand_35 hl (k := 3) rfl rfl (by decide) rfl (fun ls hl => ?_)
            obtain ⟨z_13, hz_13⟩ : ∃ z : Int32, z = (v3_1 + (1 : Int32)) := ⟨_, rfl⟩
            try have gz_13 : z_13.toInt = v3_1.toInt + (1 : Int) := by rw [hz_13]; exact ti_add2 rfl rfl (by omega) (by omega)
            refine lv_goto (tgt := 4) hx hb dX1_ofHand_38 (by decide) ?_
            exact ih_1 (v2_1 ||| (f_X5_bit v3_1)) (v3_1 + (1 : Int32)) (by rw [← hz_13]; omega) (by rw [← hz_13]; omega) (by rw [← hz_13]; omega) (hI_1.trans (by rw [f_X1_ofHand_L4, if_neg c_2, if_neg c_5, if_pos c_9])) _ _ hP hD hS ls (lv_sub hl [2, 3, 1, 0] rfl)
  exact hloop_1 26 (0 : Int32) (1 : Int32) (by first | omega | exact (show 0 ≤ (1 : Int) by omega) | assumption | trivial) (by first | omega | exact (show (1 : Int) ≤ 25 by omega) | assumption | trivial) (by first | omega | exact (show (25 - (1 : Int)).toNat < 26 by omega)) (by rw [f_X1_ofHand]) _ _ hP hD hS ls (lv_sub hl [2, 3, 1, 0] rfl)
theorem dX1_counting_0 : decode cX1_counting 0 = .ok (.iload_n 1, 1) := by decide +kernel
theorem dX1_counting_1 : decode cX1_counting 1 = .ok (.iconst 1, 1) := by decide +kernel
theorem dX1_counting_2 : decode cX1_counting 2 = .ok (.if_icmp .ge 5, 3) := by decide +kernel
theorem dX1_counting_7 : decode cX1_counting 7 = .ok (.aload_n 0, 1) := by decide +kernel
theorem dX1_counting_8 : decode cX1_counting 8 = .ok (.iconst 1, 1) := by decide +kernel
theorem dX1_counting_9 : decode cX1_counting 9 = .ok (.invokevirtual 40, 3) := by decide +kernel
set_option maxRecDepth 20000 in
theorem ggX1_counting_X1_inState : GoodIn wsX1_counting wsX1_inState := goodIn_r _ [5, 6, 7, 8, 9, 4, 10, 11, 12, 13, 14, 20, 21, 22, 23, 24] (by decide +kernel) (by decide +kernel)
set_option maxRecDepth 20000 in
theorem gX1_counting_X1_inState : GoodIn wsX1_counting (wsV RX1 40 RX1 yX1_inState wsX1_inState) := goodIn_app (goodIn_of _ (by decide +kernel)) ggX1_counting_X1_inState
theorem dX1_counting_12 : decode cX1_counting 12 = .ok (.istore_n 2, 1) := by decide +kernel
theorem dX1_counting_13 : decode cX1_counting 13 = .ok (.iload_n 1, 1) := by decide +kernel
theorem dX1_counting_14 : decode cX1_counting 14 = .ok (.iconst 1, 1) := by decide +kernel
theorem dX1_counting_15 : decode cX1_counting 15 = .ok (.if_icmp .ne 5, 3) := by decide +kernel
theorem dX1_counting_20 : decode cX1_counting 20 = .ok (.aload_n 0, 1) := by decide +kernel
theorem dX1_counting_21 : decode cX1_counting 21 = .ok (.iconst 0, 1) := by decide +kernel
theorem dX1_counting_22 : decode cX1_counting 22 = .ok (.invokevirtual 40, 3) := by decide +kernel
theorem dX1_counting_25 : decode cX1_counting 25 = .ok (.istore_n 3, 1) := by decide +kernel
theorem dX1_counting_26 : decode cX1_counting 26 = .ok (.iload_n 2, 1) := by decide +kernel
theorem dX1_counting_27 : decode cX1_counting 27 = .ok (.iload_n 1, 1) := by decide +kernel
theorem dX1_counting_28 : decode cX1_counting 28 = .ok (.iconst 2, 1) := by decide +kernel
theorem dX1_counting_29 : decode cX1_counting 29 = .ok (.if_icmp .ne 7, 3) := by decide +kernel
theorem dX1_counting_36 : decode cX1_counting 36 = .ok (.iload_n 3, 1) := by decide +kernel
theorem dX1_counting_37 : decode cX1_counting 37 = .ok (.aload_n 0, 1) := by decide +kernel
theorem dX1_counting_38 : decode cX1_counting 38 = .ok (.iload_n 1, 1) := by decide +kernel
theorem dX1_counting_39 : decode cX1_counting 39 = .ok (.iconst 3, 1) := by decide +kernel
theorem dX1_counting_40 : decode cX1_counting 40 = .ok (.isub, 1) := by decide +kernel
theorem dX1_counting_41 : decode cX1_counting 41 = .ok (.invokevirtual 43, 3) := by decide +kernel
set_option maxRecDepth 20000 in
theorem ggX1_counting_X1_ofHand : GoodIn wsX1_counting wsX1_ofHand := goodIn_r _ [18, 19, 7, 8, 9, 4, 10, 11, 12, 13, 14, 20, 21, 22, 23, 24] (by decide +kernel) (by decide +kernel)
set_option maxRecDepth 20000 in
theorem gX1_counting_X1_ofHand : GoodIn wsX1_counting (wsV RX1 43 RX1 yX1_ofHand wsX1_ofHand) := goodIn_app (goodIn_of _ (by decide +kernel)) ggX1_counting_X1_ofHand
theorem dX1_counting_44 : decode cX1_counting 44 = .ok (.iand, 1) := by decide +kernel
theorem dX1_counting_45 : decode cX1_counting 45 = .ok (.ior, 1) := by decide +kernel
theorem dX1_counting_46 : decode cX1_counting 46 = .ok (.ireturn, 1) := by decide +kernel
theorem dX1_counting_32 : decode cX1_counting 32 = .ok (.iload_n 3, 1) := by decide +kernel
theorem dX1_counting_33 : decode cX1_counting 33 = .ok (.goto 12, 3) := by decide +kernel
theorem dX1_counting_18 : decode cX1_counting 18 = .ok (.iload_n 2, 1) := by decide +kernel
theorem dX1_counting_19 : decode cX1_counting 19 = .ok (.ireturn, 1) := by decide +kernel
theorem dX1_counting_5 : decode cX1_counting 5 = .ok (.iconst 0, 1) := by decide +kernel
theorem dX1_counting_6 : decode cX1_counting 6 = .ok (.ireturn, 1) := by decide +kernel
def f_X1_counting (zg_hand : Nat → Int32) (zg_state : Nat → Int32) (zg_size : Int32) (a_v : Int32) : Int32 := if (1 : Int32) ≤ a_v then if a_v = (1 : Int32) then (f_X1_inState zg_state zg_size (1 : Int32)) else if a_v = (2 : Int32) then ((f_X1_inState zg_state zg_size (1 : Int32)) ||| (f_X1_inState zg_state zg_size (0 : Int32))) else ((f_X1_inState zg_state zg_size (1 : Int32)) ||| ((f_X1_inState zg_state zg_size (0 : Int32)) &&& (f_X1_ofHand zg_hand zg_size (a_v - (3 : Int32))))) else (0 : Int32)
set_option maxHeartbeats 4000000 in
set_option maxRecDepth 100000 in
theorem c_X1_counting (l : Launch) (dC : Nat → ClassId) (dI : Nat → Nat → Nat) (cI cJ : ClassId) (sz : Nat) (zg azg_kind azg_hand azg_state azg_look : Nat) (zg_kind zg_hand zg_state zg_look : Nat → Int32) (zg_size : Int32) (a_v : Int32) : Met l yX1_counting wsX1_counting ({ frames := 2, cells := 0, slots := 0, locals := 44 } : Room) (va_Pc [.ref zg, .int a_v] (PreW dC dI cI cJ sz [(zg, .inr (1, [.ref azg_kind, .ref azg_hand, .ref azg_state, .ref azg_look, .int zg_size])), (azg_kind, .inl (cI, 25, .inl zg_kind)), (azg_hand, .inl (cI, 25, .inl zg_hand)), (azg_state, .inl (cI, 25, .inl zg_state)), (azg_look, .inl (cI, 25, .inl zg_look))])) (va_Qi (fun (r : Int32) (_ : Unit) => r = f_X1_counting zg_hand zg_state zg_size a_v) (fun (_ : Unit) _ => True) (fun q => sz ≤ q)) 0 0 (fun q => sz ≤ q) := by
  refine Met.ofW (cc := cX1_counting) (maxL := 4) (ret := (some .int)) (by decide) rfl ?_
  intro p e s m args below meth c s₁ B hml hv
  obtain ⟨rfl, hsz, hP, hK, hN, hD0⟩ := hv
  have hx := B.exec
  have hb := B.bytes
  have hr := B.returns
  have hts := atoms_spec (ws := wsX1_counting) B.pre
  have hown : s.vm.findClass RX1 = some m.cls := findClass_of_methodNamed B.named
  have hlocks := B.notSynchronized
  subst hsz
  have hD := hD0
  generalize hAe : (fun q => s.heap.size ≤ q) = A
  have hA : ∀ q : Nat, s.heap.size ≤ q → A q := fun q h => by rw [← hAe]; exact h
  have hS : va_S A s.heap s.heap [] := va_S.rf
  have hP : va_P (dC, dI) vwCl [(zg, .inr (1, [.ref azg_kind, .ref azg_hand, .ref azg_state, .ref azg_look, .int zg_size])), (azg_kind, .inl (cI, 25, .inl zg_kind)), (azg_hand, .inl (cI, 25, .inl zg_hand)), (azg_state, .inl (cI, 25, .inl zg_state)), (azg_look, .inl (cI, 25, .inl zg_look))] s.heap := hP
  have hl := lv_entry ([.ref zg, .int a_v]) (n := 4) (Nat.le_of_ble_eq_true rfl)
  rw [lg_entry_eq]
  generalize (lg_sl ([.ref zg, .int a_v]) ++ List.replicate (4 - (lg_sl ([.ref zg, .int a_v])).length) Slot.unset).toArray = ls at hl ⊢
  have hl : lv_has ls 4 [(0, .ref zg), (1, .int a_v)] := hl
  refine lv_iload_n hx hb dX1_counting_0 rfl (lv_at hl 1 rfl) ?_
  refine lv_iconst (v := (1 : Int32)) hx hb dX1_counting_1 (by decide) ?_
  refine lv_icmp_ge (tgt := 7) hx hb dX1_counting_2 (by decide) (fun c_1 => ?_) (fun c_1 => ?_)
  · have tc_1 : (1 : Int) ≤ a_v.toInt := q_le c_1
    refine lv_aload_n hx hb dX1_counting_7 rfl (lv_at hl 0 rfl) ?_
    refine lv_iconst (v := (1 : Int32)) hx hb dX1_counting_8 (by decide) ?_
    have hPc := hP.sub (ws' := [(zg, .inr (1, [.ref azg_kind, .ref azg_hand, .ref azg_state, .ref azg_look, .int zg_size])), (azg_kind, .inl (cI, 25, .inl zg_kind)), (azg_hand, .inl (cI, 25, .inl zg_hand)), (azg_state, .inl (cI, 25, .inl zg_state)), (azg_look, .inl (cI, 25, .inl zg_look))]) [0, 1, 2, 3, 4] rfl
    have hDc := hD.sub (ws' := [(zg, .inr (1, [.ref azg_kind, .ref azg_hand, .ref azg_state, .ref azg_look, .int zg_size])), (azg_kind, .inl (cI, 25, .inl zg_kind)), (azg_hand, .inl (cI, 25, .inl zg_hand)), (azg_state, .inl (cI, 25, .inl zg_state)), (azg_look, .inl (cI, 25, .inl zg_look))]) [0, 1, 2, 3, 4] (by decide) rfl
    refine va_calli (va_runV (As := [.int (1 : Int32)]) (rest := []) ⟨hx, hb, hml, hown, hts⟩ (c_X1_inState l dC dI cI cJ s.heap.size zg azg_kind azg_hand azg_state azg_look zg_kind zg_hand zg_state zg_look zg_size (1 : Int32)) (cwV 1 hts gX1_counting_X1_inState rfl rfl rfl (by decide +kernel) ⟨Nat.le_of_ble_eq_true rfl, Nat.le_of_ble_eq_true rfl⟩) ⟨fun a U g mk q => ⟨q.1, PreW.call g mk a q.2⟩, va_recv hK hP (ci := 1) (q0 := 0) rfl rfl, fun U hU hW => ⟨rfl, PreW.mk2 hU hW hPc hK hN (hDc.weaken (fun _ _ _ _ => trivial))⟩⟩ rfl rfl hl.1 rfl (lv_room (Nat.le_of_ble_eq_true rfl)) dX1_counting_9 ⟨Nat.le_of_ble_eq_true rfl, Nat.le_of_ble_eq_true rfl⟩) hS (fun q hq h => absurd hq (Nat.not_lt.mpr h)) (fun q h => hA q (Nat.le_trans hS.1 h)) (fun r_2 _u t H1 locs ht hvm hw hB hz1 hk1 hS => ?_)
    have hP := va_ro hP hk1
    generalize H1 = H at hP hS ⊢
    have hw : r_2 = f_X1_inState zg_state zg_size (1 : Int32) := hw
    subst hw
    obtain ⟨z_3, hz_3⟩ : ∃ z : Int32, z = f_X1_inState zg_state zg_size (1 : Int32) := ⟨_, rfl⟩
    refine lv_istore_n (lv' := [(2, .int (f_X1_inState zg_state zg_size (1 : Int32))), (0, .ref zg), (1, .int a_v)]) hx hb dX1_counting_12 rfl hl (by decide) rfl (fun ls hl => ?_)
    refine lv_iload_n hx hb dX1_counting_13 rfl (lv_at hl 2 rfl) ?_
    refine lv_iconst (v := (1 : Int32)) hx hb dX1_counting_14 (by decide) ?_
    refine lv_icmp_ne (tgt := 20) hx hb dX1_counting_15 (by decide) (fun c_4 => ?_) (fun c_4 => ?_)
    · have tc_4 : ¬ a_v.toInt = (1 : Int) := q_ne c_4
      refine lv_aload_n hx hb dX1_counting_20 rfl (lv_at hl 1 rfl) ?_
      refine lv_iconst (v := (0 : Int32)) hx hb dX1_counting_21 (by decide) ?_
      have hPc := hP.sub (ws' := [(zg, .inr (1, [.ref azg_kind, .ref azg_hand, .ref azg_state, .ref azg_look, .int zg_size])), (azg_kind, .inl (cI, 25, .inl zg_kind)), (azg_hand, .inl (cI, 25, .inl zg_hand)), (azg_state, .inl (cI, 25, .inl zg_state)), (azg_look, .inl (cI, 25, .inl zg_look))]) [0, 1, 2, 3, 4] rfl
      have hDc := hD.sub (ws' := [(zg, .inr (1, [.ref azg_kind, .ref azg_hand, .ref azg_state, .ref azg_look, .int zg_size])), (azg_kind, .inl (cI, 25, .inl zg_kind)), (azg_hand, .inl (cI, 25, .inl zg_hand)), (azg_state, .inl (cI, 25, .inl zg_state)), (azg_look, .inl (cI, 25, .inl zg_look))]) [0, 1, 2, 3, 4] (by decide) rfl
      refine va_calli (va_runV (As := [.int (0 : Int32)]) (rest := []) ⟨hx, hb, hml, hown, hts⟩ (c_X1_inState l dC dI cI cJ H.size zg azg_kind azg_hand azg_state azg_look zg_kind zg_hand zg_state zg_look zg_size (0 : Int32)) (cwV 1 hts gX1_counting_X1_inState rfl rfl rfl (by decide +kernel) ⟨Nat.le_of_ble_eq_true rfl, Nat.le_of_ble_eq_true rfl⟩) ⟨fun a U g mk q => ⟨q.1, PreW.call g mk a q.2⟩, va_recv hK hP (ci := 1) (q0 := 0) rfl rfl, fun U hU hW => ⟨rfl, PreW.mk2 hU hW hPc hK hN (hDc.weaken (fun _ _ _ _ => trivial))⟩⟩ rfl rfl hl.1 rfl (lv_room (Nat.le_of_ble_eq_true rfl)) dX1_counting_22 ⟨Nat.le_of_ble_eq_true rfl, Nat.le_of_ble_eq_true rfl⟩) hS (fun q hq h => absurd hq (Nat.not_lt.mpr h)) (fun q h => hA q (Nat.le_trans hS.1 h)) (fun r_5 _u t H1 locs ht hvm hw hB hz1 hk1 hS => ?_)
      have hP := va_ro hP hk1
      generalize H1 = H at hP hS ⊢
      have hw : r_5 = f_X1_inState zg_state zg_size (0 : Int32) := hw
      subst hw
      obtain ⟨z_6, hz_6⟩ : ∃ z : Int32, z = f_X1_inState zg_state zg_size (0 : Int32) := ⟨_, rfl⟩
      refine lv_istore_n (lv' := [(3, .int (f_X1_inState zg_state zg_size (0 : Int32))), (2, .int (f_X1_inState zg_state zg_size (1 : Int32))), (0, .ref zg), (1, .int a_v)]) hx hb dX1_counting_25 rfl hl (by decide) rfl (fun ls hl => ?_)
      refine lv_iload_n hx hb dX1_counting_26 rfl (lv_at hl 1 rfl) ?_
      refine lv_iload_n hx hb dX1_counting_27 rfl (lv_at hl 3 rfl) ?_
      refine lv_iconst (v := (2 : Int32)) hx hb dX1_counting_28 (by decide) ?_
      refine lv_icmp_ne (tgt := 36) hx hb dX1_counting_29 (by decide) (fun c_7 => ?_) (fun c_7 => ?_)
      · have tc_7 : ¬ a_v.toInt = (2 : Int) := q_ne c_7
        refine lv_iload_n hx hb dX1_counting_36 rfl (lv_at hl 0 rfl) ?_
        refine lv_aload_n hx hb dX1_counting_37 rfl (lv_at hl 2 rfl) ?_
        refine lv_iload_n hx hb dX1_counting_38 rfl (lv_at hl 3 rfl) ?_
        refine lv_iconst (v := (3 : Int32)) hx hb dX1_counting_39 (by decide) ?_
        refine lv_isub hx hb dX1_counting_40 ?_
        obtain ⟨z_8, hz_8⟩ : ∃ z : Int32, z = (a_v - (3 : Int32)) := ⟨_, rfl⟩
        try have gz_8 : z_8.toInt = a_v.toInt - (3 : Int) := by rw [hz_8]; exact ti_sub2 rfl rfl (by omega) (by omega)
        have hPc := hP.sub (ws' := [(zg, .inr (1, [.ref azg_kind, .ref azg_hand, .ref azg_state, .ref azg_look, .int zg_size])), (azg_kind, .inl (cI, 25, .inl zg_kind)), (azg_hand, .inl (cI, 25, .inl zg_hand)), (azg_state, .inl (cI, 25, .inl zg_state)), (azg_look, .inl (cI, 25, .inl zg_look))]) [0, 1, 2, 3, 4] rfl
        have hDc := hD.sub (ws' := [(zg, .inr (1, [.ref azg_kind, .ref azg_hand, .ref azg_state, .ref azg_look, .int zg_size])), (azg_kind, .inl (cI, 25, .inl zg_kind)), (azg_hand, .inl (cI, 25, .inl zg_hand)), (azg_state, .inl (cI, 25, .inl zg_state)), (azg_look, .inl (cI, 25, .inl zg_look))]) [0, 1, 2, 3, 4] (by decide) rfl
        refine va_calli (va_runV (As := [.int (a_v - (3 : Int32))]) (rest := [.int (f_X1_inState zg_state zg_size (0 : Int32)), .int (f_X1_inState zg_state zg_size (1 : Int32))]) ⟨hx, hb, hml, hown, hts⟩ (c_X1_ofHand l dC dI cI cJ H.size zg azg_kind azg_hand azg_state azg_look zg_kind zg_hand zg_state zg_look zg_size (a_v - (3 : Int32))) (cwV 1 hts gX1_counting_X1_ofHand rfl rfl rfl (by decide +kernel) ⟨Nat.le_of_ble_eq_true rfl, Nat.le_of_ble_eq_true rfl⟩) ⟨fun a U g mk q => ⟨q.1, PreW.call g mk a q.2⟩, va_recv hK hP (ci := 1) (q0 := 0) rfl rfl, fun U hU hW => ⟨rfl, PreW.mk2 hU hW hPc hK hN (hDc.weaken (fun _ _ _ _ => trivial))⟩⟩ rfl rfl hl.1 rfl (lv_room (Nat.le_of_ble_eq_true rfl)) dX1_counting_41 ⟨Nat.le_of_ble_eq_true rfl, Nat.le_of_ble_eq_true rfl⟩) hS (fun q hq h => absurd hq (Nat.not_lt.mpr h)) (fun q h => hA q (Nat.le_trans hS.1 h)) (fun r_9 _u t H1 locs ht hvm hw hB hz1 hk1 hS => ?_)
        have hP := va_ro hP hk1
        generalize H1 = H at hP hS ⊢
        have hw : r_9 = f_X1_ofHand zg_hand zg_size (a_v - (3 : Int32)) := hw
        subst hw
        obtain ⟨z_10, hz_10⟩ : ∃ z : Int32, z = f_X1_ofHand zg_hand zg_size (a_v - (3 : Int32)) := ⟨_, rfl⟩
        refine lv_iand hx hb dX1_counting_44 ?_
        refine lv_ior hx hb dX1_counting_45 ?_
        have hE : f_X1_counting zg_hand zg_state zg_size a_v = ((f_X1_inState zg_state zg_size (1 : Int32)) ||| ((f_X1_inState zg_state zg_size (0 : Int32)) &&& (f_X1_ofHand zg_hand zg_size (a_v - (3 : Int32))))) := (by rw [f_X1_counting, if_pos c_1, if_neg c_4, if_neg c_7])
        exact W.iret (v := ((f_X1_inState zg_state zg_size (1 : Int32)) ||| ((f_X1_inState zg_state zg_size (0 : Int32)) &&& (f_X1_ofHand zg_hand zg_size (a_v - (3 : Int32)))))) hx hb hr (fun t ht hW => ⟨⟨((f_X1_inState zg_state zg_size (1 : Int32)) ||| ((f_X1_inState zg_state zg_size (0 : Int32)) &&& (f_X1_ofHand zg_hand zg_size (a_v - (3 : Int32))))), (), rfl, by rw [hE], trivial⟩, hS.F ht⟩) hS.2.2 dX1_counting_46
      · have tc_7 : a_v.toInt = (2 : Int) := q_eq c_7
        refine lv_iload_n hx hb dX1_counting_32 rfl (lv_at hl 0 rfl) ?_
        refine lv_goto (tgt := 45) hx hb dX1_counting_33 (by decide) ?_
        refine lv_ior hx hb dX1_counting_45 ?_
        have hE : f_X1_counting zg_hand zg_state zg_size a_v = ((f_X1_inState zg_state zg_size (1 : Int32)) ||| (f_X1_inState zg_state zg_size (0 : Int32))) := (by rw [f_X1_counting, if_pos c_1, if_neg c_4, if_pos c_7])
        exact W.iret (v := ((f_X1_inState zg_state zg_size (1 : Int32)) ||| (f_X1_inState zg_state zg_size (0 : Int32)))) hx hb hr (fun t ht hW => ⟨⟨((f_X1_inState zg_state zg_size (1 : Int32)) ||| (f_X1_inState zg_state zg_size (0 : Int32))), (), rfl, by rw [hE], trivial⟩, hS.F ht⟩) hS.2.2 dX1_counting_46
    · have tc_4 : a_v.toInt = (1 : Int) := q_eq c_4
      refine lv_iload_n hx hb dX1_counting_18 rfl (lv_at hl 0 rfl) ?_
      have hE : f_X1_counting zg_hand zg_state zg_size a_v = (f_X1_inState zg_state zg_size (1 : Int32)) := (by rw [f_X1_counting, if_pos c_1, if_pos c_4])
      exact W.iret (v := (f_X1_inState zg_state zg_size (1 : Int32))) hx hb hr (fun t ht hW => ⟨⟨(f_X1_inState zg_state zg_size (1 : Int32)), (), rfl, by rw [hE], trivial⟩, hS.F ht⟩) hS.2.2 dX1_counting_19
  · have tc_1 : a_v.toInt < (1 : Int) := q_nle c_1
    refine lv_iconst (v := (0 : Int32)) hx hb dX1_counting_5 (by decide) ?_
    have hE : f_X1_counting zg_hand zg_state zg_size a_v = (0 : Int32) := (by rw [f_X1_counting, if_neg c_1])
    exact W.iret (v := (0 : Int32)) hx hb hr (fun t ht hW => ⟨⟨(0 : Int32), (), rfl, by rw [hE], trivial⟩, hS.F ht⟩) hS.2.2 dX1_counting_6
