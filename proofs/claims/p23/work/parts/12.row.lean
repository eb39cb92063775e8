theorem dX2_has_0 : decode cX2_has 0 = .ok (.iload_n 1, 1) := by decide +kernel
theorem dX2_has_1 : decode cX2_has 1 = .ok (.ifCond .lt 22, 3) := by decide +kernel
theorem dX2_has_23 : decode cX2_has 23 = .ok (.iconst 0, 1) := by decide +kernel
theorem dX2_has_24 : decode cX2_has 24 = .ok (.ireturn, 1) := by decide +kernel
theorem dX2_has_4 : decode cX2_has 4 = .ok (.iload_n 1, 1) := by decide +kernel
theorem dX2_has_5 : decode cX2_has 5 = .ok (.aload_n 0, 1) := by decide +kernel
theorem dX2_has_6 : decode cX2_has 6 = .ok (.getfield 27, 3) := by decide +kernel
theorem in_X2_has_X2 : ∀ w ∈ wsX20, w ∈ wsX2_has := by decide +kernel
theorem m_X2_has_1 : (.fieldLink RX2 27 "RedlineDesk$Row" "size" "I" : Cond) ∈ wsX2_has := List.mem_of_getElem? (i := 1) (by decide +kernel)
theorem dX2_has_9 : decode cX2_has 9 = .ok (.if_icmp .ge 14, 3) := by decide +kernel
theorem dX2_has_12 : decode cX2_has 12 = .ok (.iload_n 1, 1) := by decide +kernel
theorem dX2_has_13 : decode cX2_has 13 = .ok (.sipush 240, 3) := by decide +kernel
theorem dX2_has_16 : decode cX2_has 16 = .ok (.if_icmp .ge 7, 3) := by decide +kernel
theorem dX2_has_19 : decode cX2_has 19 = .ok (.iconst 1, 1) := by decide +kernel
theorem dX2_has_20 : decode cX2_has 20 = .ok (.goto 4, 3) := by decide +kernel
def f_X2_has (zr_size : Int32) (a_s : Int32) : Int32 := if a_s < (0 : Int32) then (0 : Int32) else if zr_size ≤ a_s then (0 : Int32) else if (240 : Int32) ≤ a_s then (0 : Int32) else (1 : Int32)
set_option maxHeartbeats 4000000 in
set_option maxRecDepth 100000 in
theorem c_X2_has (l : Launch) (dC : Nat → ClassId) (dI : Nat → Nat → Nat) (cI cJ : ClassId) (sz : Nat) (zr azr_sign azr_token azr_in azr_own azr_since : Nat) (zr_sign zr_token zr_in zr_own zr_since : Nat → Int32) (zr_size : Int32) (a_s : Int32) : Met l yX2_has wsX2_has ({ frames := 0, cells := 0, slots := 0, locals := 0 } : Room) (va_Pc [.ref zr, .int a_s] (PreW dC dI cI cJ sz [(zr, .inr (2, [.ref azr_sign, .ref azr_token, .ref azr_in, .ref azr_own, .ref azr_since, .int zr_size])), (azr_sign, .inl (cI, 240, .inl zr_sign)), (azr_token, .inl (cI, 240, .inl zr_token)), (azr_in, .inl (cI, 240, .inl zr_in)), (azr_own, .inl (cI, 240, .inl zr_own)), (azr_since, .inl (cI, 240, .inl zr_since))])) (va_Qi (fun (r : Int32) (_ : Unit) => r = f_X2_has zr_size a_s) (fun (_ : Unit) _ => True) (fun q => sz ≤ q)) 0 0 (fun q => sz ≤ q) := by
  refine Met.ofW (cc := cX2_has) (maxL := 2) (ret := (some .boolean)) (by decide) rfl ?_
  intro p e s m args below meth c s₁ B hml hv
  obtain ⟨rfl, hsz, hP, hK, hN, hD0⟩ := hv
  have hx := B.exec
  have hb := B.bytes
  have hr := B.returns
  have hts := atoms_spec (ws := wsX2_has) B.pre
  have hown : s.vm.findClass RX2 = some m.cls := findClass_of_methodNamed B.named
  have hlocks := B.notSynchronized
  subst hsz
  have hD := hD0
  generalize hAe : (fun q => s.heap.size ≤ q) = A
  have hA : ∀ q : Nat, s.heap.size ≤ q → A q := fun q h => by rw [← hAe]; exact h
  have hS : va_S A s.heap s.heap [] := va_S.rf
  have hP : va_P (dC, dI) vwCl [(zr, .inr (2, [.ref azr_sign, .ref azr_token, .ref azr_in, .ref azr_own, .ref azr_since, .int zr_size])), (azr_sign, .inl (cI, 240, .inl zr_sign)), (azr_token, .inl (cI, 240, .inl zr_token)), (azr_in, .inl (cI, 240, .inl zr_in)), (azr_own, .inl (cI, 240, .inl zr_own)), (azr_since, .inl (cI, 240, .inl zr_since))] s.heap := hP
  have hl := lv_entry ([.ref zr, .int a_s]) (n := 2) (Nat.le_of_ble_eq_true rfl)
  rw [lg_entry_eq]
  generalize (lg_sl ([.ref zr, .int a_s]) ++ List.replicate (2 - (lg_sl ([.ref zr, .int a_s])).length) Slot.unset).toArray = ls at hl ⊢
  have hl : lv_has ls 2 [(0, .ref zr), (1, .int a_s)] := hl
  refine lv_iload_n hx hb dX2_has_0 rfl (lv_at hl 1 rfl) ?_
  refine lv_if_lt (tgt := 23) hx hb dX2_has_1 (by decide) (fun c_1 => ?_) (fun c_1 => ?_)
  · have tc_1 : a_s.toInt < (0 : Int) := q_lt c_1
    refine lv_iconst (v := (0 : Int32)) hx hb dX2_has_23 (by decide) ?_
    have hE : f_X2_has zr_size a_s = (0 : Int32) := (by rw [f_X2_has, if_pos c_1])
    exact W.zret (v := (0 : Int32)) hx hb hr (by decide) (fun t ht hW => ⟨⟨(0 : Int32), (), rfl, by rw [hE], trivial⟩, hS.F ht⟩) hS.2.2 dX2_has_24
  · have tc_1 : (0 : Int) ≤ a_s.toInt := q_nlt c_1
    refine lv_iload_n hx hb dX2_has_4 rfl (lv_at hl 1 rfl) ?_
    refine lv_aload_n hx hb dX2_has_5 rfl (lv_at hl 0 rfl) ?_
    refine va_get (D := (dC, dI)) (ci := 2) (v := .int zr_size) (C := RX2) (T := TX2) (N := 6) hx hb hts in_X2_has_X2 hown hK hP 0 rfl rfl 5 (by decide) (hts _ m_X2_has_1) (fun _ h9 => h9) rfl dX2_has_6 ?_
    refine lv_icmp_ge (tgt := 23) hx hb dX2_has_9 (by decide) (fun c_2 => ?_) (fun c_2 => ?_)
    · have tc_2 : zr_size.toInt ≤ a_s.toInt := q_le c_2
      refine lv_iconst (v := (0 : Int32)) hx hb dX2_has_23 (by decide) ?_
      have hE : f_X2_has zr_size a_s = (0 : Int32) := (by rw [f_X2_has, if_neg c_1, if_pos c_2])
      exact W.zret (v := (0 : Int32)) hx hb hr (by decide) (fun t ht hW => ⟨⟨(0 : Int32), (), rfl, by rw [hE], trivial⟩, hS.F ht⟩) hS.2.2 dX2_has_24
    · have tc_2 : a_s.toInt < zr_size.toInt := q_nle c_2
      refine lv_iload_n hx hb dX2_has_12 rfl (lv_at hl 1 rfl) ?_
      refine lv_sipush (v := (240 : Int32)) hx hb dX2_has_13 (by decide) ?_
      refine lv_icmp_ge (tgt := 23) hx hb dX2_has_16 (by decide) (fun c_3 => ?_) (fun c_3 => ?_)
      · have tc_3 : (240 : Int) ≤ a_s.toInt := q_le c_3
        refine lv_iconst (v := (0 : Int32)) hx hb dX2_has_23 (by decide) ?_
        have hE : f_X2_has zr_size a_s = (0 : Int32) := (by rw [f_X2_has, if_neg c_1, if_neg c_2, if_pos c_3])
        exact W.zret (v := (0 : Int32)) hx hb hr (by decide) (fun t ht hW => ⟨⟨(0 : Int32), (), rfl, by rw [hE], trivial⟩, hS.F ht⟩) hS.2.2 dX2_has_24
      · have tc_3 : a_s.toInt < (240 : Int) := q_nle c_3
        refine lv_iconst (v := (1 : Int32)) hx hb dX2_has_19 (by decide) ?_
        refine lv_goto (tgt := 24) hx hb dX2_has_20 (by decide) ?_
        have hE : f_X2_has zr_size a_s = (1 : Int32) := (by rw [f_X2_has, if_neg c_1, if_neg c_2, if_neg c_3])
        exact W.zret (v := (1 : Int32)) hx hb hr (by decide) (fun t ht hW => ⟨⟨(1 : Int32), (), rfl, by rw [hE], trivial⟩, hS.F ht⟩) hS.2.2 dX2_has_24
theorem has_in {z x : Int32} (h : ¬ f_X2_has z x = (0 : Int32)) : 0 ≤ x.toInt ∧ x.toInt < z.toInt ∧ x.toInt < 240 := by
  rw [f_X2_has] at h
  by_cases c1 : x < (0 : Int32)
  · rw [if_pos c1] at h; exact absurd rfl h
  · rw [if_neg c1] at h
    by_cases c2 : z ≤ x
    · rw [if_pos c2] at h; exact absurd rfl h
    · rw [if_neg c2] at h
      by_cases c3 : (240 : Int32) ≤ x
      · rw [if_pos c3] at h; exact absurd rfl h
      · exact ⟨q_nlt c1, q_nle c2, q_nle c3⟩
theorem dX2_room_0 : decode cX2_room 0 = .ok (.sipush 240, 3) := by decide +kernel
theorem dX2_room_3 : decode cX2_room 3 = .ok (.aload_n 0, 1) := by decide +kernel
theorem dX2_room_4 : decode cX2_room 4 = .ok (.getfield 27, 3) := by decide +kernel
theorem in_X2_room_X2 : ∀ w ∈ wsX20, w ∈ wsX2_room := by decide +kernel
theorem m_X2_room_1 : (.fieldLink RX2 27 "RedlineDesk$Row" "size" "I" : Cond) ∈ wsX2_room := List.mem_of_getElem? (i := 1) (by decide +kernel)
theorem dX2_room_7 : decode cX2_room 7 = .ok (.isub, 1) := by decide +kernel
theorem dX2_room_8 : decode cX2_room 8 = .ok (.ireturn, 1) := by decide +kernel
def f_X2_room (zr_size : Int32) : Int32 := ((240 : Int32) - zr_size)
set_option maxHeartbeats 4000000 in
set_option maxRecDepth 100000 in
theorem c_X2_room (l : Launch) (dC : Nat → ClassId) (dI : Nat → Nat → Nat) (cI cJ : ClassId) (sz : Nat) (zr azr_sign azr_token azr_in azr_own azr_since : Nat) (zr_sign zr_token zr_in zr_own zr_since : Nat → Int32) (zr_size : Int32) : Met l yX2_room wsX2_room ({ frames := 0, cells := 0, slots := 0, locals := 0 } : Room) (va_Pc [.ref zr] (PreW dC dI cI cJ sz [(zr, .inr (2, [.ref azr_sign, .ref azr_token, .ref azr_in, .ref azr_own, .ref azr_since, .int zr_size])), (azr_sign, .inl (cI, 240, .inl zr_sign)), (azr_token, .inl (cI, 240, .inl zr_token)), (azr_in, .inl (cI, 240, .inl zr_in)), (azr_own, .inl (cI, 240, .inl zr_own)), (azr_since, .inl (cI, 240, .inl zr_since))])) (va_Qi (fun (r : Int32) (_ : Unit) => r = f_X2_room zr_size) (fun (_ : Unit) _ => True) (fun q => sz ≤ q)) 0 0 (fun q => sz ≤ q) := by
  refine Met.ofW (cc := cX2_room) (maxL := 1) (ret := (some .int)) (by decide) rfl ?_
  intro p e s m args below meth c s₁ B hml hv
  obtain ⟨rfl, hsz, hP, hK, hN, hD0⟩ := hv
  have hx := B.exec
  have hb := B.bytes
  have hr := B.returns
  have hts := atoms_spec (ws := wsX2_room) B.pre
  have hown : s.vm.findClass RX2 = some m.cls := findClass_of_methodNamed B.named
  have hlocks := B.notSynchronized
  subst hsz
  have hD := hD0
  generalize hAe : (fun q => s.heap.size ≤ q) = A
  have hA : ∀ q : Nat, s.heap.size ≤ q → A q := fun q h => by rw [← hAe]; exact h
  have hS : va_S A s.heap s.heap [] := va_S.rf
  have hP : va_P (dC, dI) vwCl [(zr, .inr (2, [.ref azr_sign, .ref azr_token, .ref azr_in, .ref azr_own, .ref azr_since, .int zr_size])), (azr_sign, .inl (cI, 240, .inl zr_sign)), (azr_token, .inl (cI, 240, .inl zr_token)), (azr_in, .inl (cI, 240, .inl zr_in)), (azr_own, .inl (cI, 240, .inl zr_own)), (azr_since, .inl (cI, 240, .inl zr_since))] s.heap := hP
  have hl := lv_entry ([.ref zr]) (n := 1) (Nat.le_of_ble_eq_true rfl)
  rw [lg_entry_eq]
  generalize (lg_sl ([.ref zr]) ++ List.replicate (1 - (lg_sl ([.ref zr])).length) Slot.unset).toArray = ls at hl ⊢
  have hl : lv_has ls 1 [(0, .ref zr)] := hl
  refine lv_sipush (v := (240 : Int32)) hx hb dX2_room_0 (by decide) ?_
  refine lv_aload_n hx hb dX2_room_3 rfl (lv_at hl 0 rfl) ?_
  refine va_get (D := (dC, dI)) (ci := 2) (v := .int zr_size) (C := RX2) (T := TX2) (N := 6) hx hb hts in_X2_room_X2 hown hK hP 0 rfl rfl 5 (by decide) (hts _ m_X2_room_1) (fun _ h9 => h9) rfl dX2_room_4 ?_
  refine lv_isub hx hb dX2_room_7 ?_
  obtain ⟨z_1, hz_1⟩ : ∃ z : Int32, z = ((240 : Int32) - zr_size) := ⟨_, rfl⟩
  try have gz_1 : z_1.toInt = (240 : Int) - zr_size.toInt := by rw [hz_1]; exact ti_sub2 rfl rfl (by omega) (by omega)
  have hE : f_X2_room zr_size = ((240 : Int32) - zr_size) := (by rw [f_X2_room])
  exact W.iret (v := ((240 : Int32) - zr_size)) hx hb hr (fun t ht hW => ⟨⟨((240 : Int32) - zr_size), (), rfl, by rw [hE], trivial⟩, hS.F ht⟩) hS.2.2 dX2_room_8
theorem dX2_isToken_0 : decode cX2_isToken 0 = .ok (.aload_n 0, 1) := by decide +kernel
theorem dX2_isToken_1 : decode cX2_isToken 1 = .ok (.iload_n 1, 1) := by decide +kernel
theorem dX2_isToken_2 : decode cX2_isToken 2 = .ok (.invokevirtual 31, 3) := by decide +kernel
set_option maxRecDepth 20000 in
theorem ggX2_isToken_X2_has : GoodIn wsX2_isToken wsX2_has := goodIn_r _ [6, 7, 8, 9, 10, 11, 12, 13] (by decide +kernel) (by decide +kernel)
set_option maxRecDepth 20000 in
theorem gX2_isToken_X2_has : GoodIn wsX2_isToken (wsV RX2 31 RX2 yX2_has wsX2_has) := goodIn_app (goodIn_of _ (by decide +kernel)) ggX2_isToken_X2_has
theorem dX2_isToken_5 : decode cX2_isToken 5 = .ok (.ifCond .eq 16, 3) := by decide +kernel
theorem dX2_isToken_21 : decode cX2_isToken 21 = .ok (.iconst 0, 1) := by decide +kernel
theorem dX2_isToken_22 : decode cX2_isToken 22 = .ok (.ireturn, 1) := by decide +kernel
theorem dX2_isToken_8 : decode cX2_isToken 8 = .ok (.aload_n 0, 1) := by decide +kernel
theorem dX2_isToken_9 : decode cX2_isToken 9 = .ok (.getfield 15, 3) := by decide +kernel
theorem in_X2_isToken_X2 : ∀ w ∈ wsX20, w ∈ wsX2_isToken := by decide +kernel
theorem m_X2_isToken_1 : (.fieldLink RX2 15 "RedlineDesk$Row" "token" "[I" : Cond) ∈ wsX2_isToken := List.mem_of_getElem? (i := 1) (by decide +kernel)
theorem dX2_isToken_12 : decode cX2_isToken 12 = .ok (.iload_n 1, 1) := by decide +kernel
theorem dX2_isToken_13 : decode cX2_isToken 13 = .ok (.iaload, 1) := by decide +kernel
theorem dX2_isToken_14 : decode cX2_isToken 14 = .ok (.ifCond .eq 7, 3) := by decide +kernel
theorem dX2_isToken_17 : decode cX2_isToken 17 = .ok (.iconst 1, 1) := by decide +kernel
theorem dX2_isToken_18 : decode cX2_isToken 18 = .ok (.goto 4, 3) := by decide +kernel
def f_X2_isToken (zr_token : Nat → Int32) (zr_size : Int32) (a_s : Int32) : Int32 := if (f_X2_has zr_size a_s) = (0 : Int32) then (0 : Int32) else if (zr_token (a_s).toNatClampNeg) = (0 : Int32) then (0 : Int32) else (1 : Int32)
set_option maxHeartbeats 4000000 in
set_option maxRecDepth 100000 in
theorem c_X2_isToken (l : Launch) (dC : Nat → ClassId) (dI : Nat → Nat → Nat) (cI cJ : ClassId) (sz : Nat) (zr azr_sign azr_token azr_in azr_own azr_since : Nat) (zr_sign zr_token zr_in zr_own zr_since : Nat → Int32) (zr_size : Int32) (a_s : Int32) : Met l yX2_isToken wsX2_isToken ({ frames := 1, cells := 0, slots := 0, locals := 21 } : Room) (va_Pc [.ref zr, .int a_s] (PreW dC dI cI cJ sz [(zr, .inr (2, [.ref azr_sign, .ref azr_token, .ref azr_in, .ref azr_own, .ref azr_since, .int zr_size])), (azr_sign, .inl (cI, 240, .inl zr_sign)), (azr_token, .inl (cI, 240, .inl zr_token)), (azr_in, .inl (cI, 240, .inl zr_in)), (azr_own, .inl (cI, 240, .inl zr_own)), (azr_since, .inl (cI, 240, .inl zr_since))])) (va_Qi (fun (r : Int32) (_ : Unit) => r = f_X2_isToken zr_token zr_size a_s) (fun (_ : Unit) _ => True) (fun q => sz ≤ q)) 0 0 (fun q => sz ≤ q) := by
  refine Met.ofW (cc := cX2_isToken) (maxL := 2) (ret := (some .boolean)) (by decide) rfl ?_
  intro p e s m args below meth c s₁ B hml hv
  obtain ⟨rfl, hsz, hP, hK, hN, hD0⟩ := hv
  have hx := B.exec
  have hb := B.bytes
  have hr := B.returns
  have hts := atoms_spec (ws := wsX2_isToken) B.pre
  have hown : s.vm.findClass RX2 = some m.cls := findClass_of_methodNamed B.named
  have hlocks := B.notSynchronized
  subst hsz
  have hD := hD0
  generalize hAe : (fun q => s.heap.size ≤ q) = A
  have hA : ∀ q : Nat, s.heap.size ≤ q → A q := fun q h => by rw [← hAe]; exact h
  have hS : va_S A s.heap s.heap [] := va_S.rf
  have hP : va_P (dC, dI) vwCl [(zr, .inr (2, [.ref azr_sign, .ref azr_token, .ref azr_in, .ref azr_own, .ref azr_since, .int zr_size])), (azr_sign, .inl (cI, 240, .inl zr_sign)), (azr_token, .inl (cI, 240, .inl zr_token)), (azr_in, .inl (cI, 240, .inl zr_in)), (azr_own, .inl (cI, 240, .inl zr_own)), (azr_since, .inl (cI, 240, .inl zr_since))] s.heap := hP
  have hl := lv_entry ([.ref zr, .int a_s]) (n := 2) (Nat.le_of_ble_eq_true rfl)
  rw [lg_entry_eq]
  generalize (lg_sl ([.ref zr, .int a_s]) ++ List.replicate (2 - (lg_sl ([.ref zr, .int a_s])).length) Slot.unset).toArray = ls at hl ⊢
  have hl : lv_has ls 2 [(0, .ref zr), (1, .int a_s)] := hl
  refine lv_aload_n hx hb dX2_isToken_0 rfl (lv_at hl 0 rfl) ?_
  refine lv_iload_n hx hb dX2_isToken_1 rfl (lv_at hl 1 rfl) ?_
  have hPc := hP.sub (ws' := [(zr, .inr (2, [.ref azr_sign, .ref azr_token, .ref azr_in, .ref azr_own, .ref azr_since, .int zr_size])), (azr_sign, .inl (cI, 240, .inl zr_sign)), (azr_token, .inl (cI, 240, .inl zr_token)), (azr_in, .inl (cI, 240, .inl zr_in)), (azr_own, .inl (cI, 240, .inl zr_own)), (azr_since, .inl (cI, 240, .inl zr_since))]) [0, 1, 2, 3, 4, 5] rfl
  have hDc := hD.sub (ws' := [(zr, .inr (2, [.ref azr_sign, .ref azr_token, .ref azr_in, .ref azr_own, .ref azr_since, .int zr_size])), (azr_sign, .inl (cI, 240, .inl zr_sign)), (azr_token, .inl (cI, 240, .inl zr_token)), (azr_in, .inl (cI, 240, .inl zr_in)), (azr_own, .inl (cI, 240, .inl zr_own)), (azr_since, .inl (cI, 240, .inl zr_since))]) [0, 1, 2, 3, 4, 5] (by decide) rfl
  refine va_calli (va_runV (As := [.int a_s]) (rest := []) ⟨hx, hb, hml, hown, hts⟩ (c_X2_has l dC dI cI cJ s.heap.size zr azr_sign azr_token azr_in azr_own azr_since zr_sign zr_token zr_in zr_own zr_since zr_size a_s) (cwV 1 hts gX2_isToken_X2_has rfl rfl rfl (by decide +kernel) ⟨Nat.le_of_ble_eq_true rfl, Nat.le_of_ble_eq_true rfl⟩) ⟨fun a U g mk q => ⟨q.1, PreW.call g mk a q.2⟩, va_recv hK hP (ci := 2) (q0 := 0) rfl rfl, fun U hU hW => ⟨rfl, PreW.mk2 hU hW hPc hK hN (hDc.weaken (fun _ _ _ _ => trivial))⟩⟩ rfl rfl hl.1 rfl (lv_room (Nat.le_of_ble_eq_true rfl)) dX2_isToken_2 ⟨Nat.le_of_ble_eq_true rfl, Nat.le_of_ble_eq_true rfl⟩) hS (fun q hq h => absurd hq (Nat.not_lt.mpr h)) (fun q h => hA q (Nat.le_trans hS.1 h)) (fun r_1 _u t H1 locs ht hvm hw hB hz1 hk1 hS => ?_)
  have hP := va_ro hP hk1
  generalize H1 = H at hP hS ⊢
  have hw : r_1 = f_X2_has zr_size a_s := hw
  subst hw
  obtain ⟨z_2, hz_2⟩ : ∃ z : Int32, z = f_X2_has zr_size a_s := ⟨_, rfl⟩
  refine lv_if_eq (tgt := 21) hx hb dX2_isToken_5 (by decide) (fun c_3 => ?_) (fun c_3 => ?_)
  · have tc_3 : z_2.toInt = (0 : Int) := by rw [hz_2]; exact q_eq c_3
    refine lv_iconst (v := (0 : Int32)) hx hb dX2_isToken_21 (by decide) ?_
    have hE : f_X2_isToken zr_token zr_size a_s = (0 : Int32) := (by rw [f_X2_isToken, if_pos c_3])
    exact W.zret (v := (0 : Int32)) hx hb hr (by decide) (fun t ht hW => ⟨⟨(0 : Int32), (), rfl, by rw [hE], trivial⟩, hS.F ht⟩) hS.2.2 dX2_isToken_22
  · have tc_3 : ¬ z_2.toInt = (0 : Int) := by rw [hz_2]; exact q_ne c_3
    obtain ⟨b_4, b_5, b_6⟩ := has_in c_3
    refine lv_aload_n hx hb dX2_isToken_8 rfl (lv_at hl 0 rfl) ?_
    refine va_get (D := (dC, dI)) (ci := 2) (v := .ref azr_token) (C := RX2) (T := TX2) (N := 6) hx hb hts in_X2_isToken_X2 hown hK hP 0 rfl rfl 1 (by decide) (hts _ m_X2_isToken_1) (fun _ h9 => h9) rfl dX2_isToken_9 ?_
    refine lv_iload_n hx hb dX2_isToken_12 rfl (lv_at hl 1 rfl) ?_
    refine va_iald (q0 := 2) (t0 := 0) (n := 240) (f := zr_token) hx hb hK hP rfl rfl (vp_in_iff.mpr ⟨by omega, by omega⟩) dX2_isToken_13 ?_
    refine lv_if_eq (tgt := 21) hx hb dX2_isToken_14 (by decide) (fun c_7 => ?_) (fun c_7 => ?_)
    · refine lv_iconst (v := (0 : Int32)) hx hb dX2_isToken_21 (by decide) ?_
      have hE : f_X2_isToken zr_token zr_size a_s = (0 : Int32) := (by rw [f_X2_isToken, if_neg c_3, if_pos c_7])
      exact W.zret (v := (0 : Int32)) hx hb hr (by decide) (fun t ht hW => ⟨⟨(0 : Int32), (), rfl, by rw [hE], trivial⟩, hS.F ht⟩) hS.2.2 dX2_isToken_22
    · refine lv_iconst (v := (1 : Int32)) hx hb dX2_isToken_17 (by decide) ?_
      refine lv_goto (tgt := 22) hx hb dX2_isToken_18 (by decide) ?_
      have hE : f_X2_isToken zr_token zr_size a_s = (1 : Int32) := (by rw [f_X2_isToken, if_neg c_3, if_neg c_7])
      exact W.zret (v := (1 : Int32)) hx hb hr (by decide) (fun t ht hW => ⟨⟨(1 : Int32), (), rfl, by rw [hE], trivial⟩, hS.F ht⟩) hS.2.2 dX2_isToken_22
theorem isToken_in {f : Nat → Int32} {z x : Int32} (h : ¬ f_X2_isToken f z x = (0 : Int32)) : 0 ≤ x.toInt ∧ x.toInt < z.toInt ∧ x.toInt < 240 := by
  rw [f_X2_isToken] at h
  by_cases c1 : f_X2_has z x = (0 : Int32)
  · rw [if_pos c1] at h; exact absurd rfl h
  · exact has_in c1
theorem dX2_tokens_0 : decode cX2_tokens 0 = .ok (.iconst 0, 1) := by decide +kernel
theorem dX2_tokens_1 : decode cX2_tokens 1 = .ok (.istore_n 1, 1) := by decide +kernel
theorem dX2_tokens_2 : decode cX2_tokens 2 = .ok (.iconst 0, 1) := by decide +kernel
theorem dX2_tokens_3 : decode cX2_tokens 3 = .ok (.istore_n 2, 1) := by decide +kernel
theorem dX2_tokens_4 : decode cX2_tokens 4 = .ok (.iload_n 2, 1) := by decide +kernel
theorem dX2_tokens_5 : decode cX2_tokens 5 = .ok (.sipush 240, 3) := by decide +kernel
theorem dX2_tokens_8 : decode cX2_tokens 8 = .ok (.if_icmp .ge 29, 3) := by decide +kernel
theorem dX2_tokens_37 : decode cX2_tokens 37 = .ok (.iload_n 1, 1) := by decide +kernel
theorem dX2_tokens_38 : decode cX2_tokens 38 = .ok (.ireturn, 1) := by decide +kernel
theorem dX2_tokens_11 : decode cX2_tokens 11 = .ok (.aload_n 0, 1) := by decide +kernel
theorem dX2_tokens_12 : decode cX2_tokens 12 = .ok (.iload_n 2, 1) := by decide +kernel
theorem dX2_tokens_13 : decode cX2_tokens 13 = .ok (.invokevirtual 31, 3) := by decide +kernel
set_option maxRecDepth 20000 in
theorem ggX2_tokens_X2_has : GoodIn wsX2_tokens wsX2_has := goodIn_r _ [6, 7, 8, 9, 10, 11, 12, 13] (by decide +kernel) (by decide +kernel)
set_option maxRecDepth 20000 in
theorem gX2_tokens_X2_has : GoodIn wsX2_tokens (wsV RX2 31 RX2 yX2_has wsX2_has) := goodIn_app (goodIn_of _ (by decide +kernel)) ggX2_tokens_X2_has
theorem dX2_tokens_16 : decode cX2_tokens 16 = .ok (.ifCond .eq 21, 3) := by decide +kernel
theorem dX2_tokens_19 : decode cX2_tokens 19 = .ok (.aload_n 0, 1) := by decide +kernel
theorem dX2_tokens_20 : decode cX2_tokens 20 = .ok (.getfield 15, 3) := by decide +kernel
theorem in_X2_tokens_X2 : ∀ w ∈ wsX20, w ∈ wsX2_tokens := by decide +kernel
theorem m_X2_tokens_1 : (.fieldLink RX2 15 "RedlineDesk$Row" "token" "[I" : Cond) ∈ wsX2_tokens := List.mem_of_getElem? (i := 1) (by decide +kernel)
theorem dX2_tokens_23 : decode cX2_tokens 23 = .ok (.iload_n 2, 1) := by decide +kernel
theorem dX2_tokens_24 : decode cX2_tokens 24 = .ok (.iaload, 1) := by decide +kernel
theorem dX2_tokens_25 : decode cX2_tokens 25 = .ok (.ifCond .eq 6, 3) := by decide +kernel
theorem dX2_tokens_31 : decode cX2_tokens 31 = .ok (.iinc 2 1, 3) := by decide +kernel
theorem dX2_tokens_34 : decode cX2_tokens 34 = .ok (.goto (-30), 3) := by decide +kernel
theorem dX2_tokens_28 : decode cX2_tokens 28 = .ok (.iinc 1 1, 3) := by decide +kernel
def f_X2_tokens_L4 (zr_token : Nat → Int32) (zr_size : Int32) : Nat → Int32 → Int32 → Int32
  | 0, _, _ => 0
  | n_1 + 1, v1_1, v2_1 => if (240 : Int32) ≤ v2_1 then v1_1 else if (f_X2_has zr_size v2_1) = (0 : Int32) then v1_1 else if (zr_token (v2_1).toNatClampNeg) = (0 : Int32) then (f_X2_tokens_L4 zr_token zr_size n_1) v1_1 (v2_1 + (1 : Int32)) else (f_X2_tokens_L4 zr_token zr_size n_1) (v1_1 + (1 : Int32)) (v2_1 + (1 : Int32))
def f_X2_tokens (zr_token : Nat → Int32) (zr_size : Int32) : Int32 := f_X2_tokens_L4 zr_token zr_size 241 (0 : Int32) (0 : Int32)
set_option maxHeartbeats 4000000 in
set_option maxRecDepth 100000 in
theorem c_X2_tokens (l : Launch) (dC : Nat → ClassId) (dI : Nat → Nat → Nat) (cI cJ : ClassId) (sz : Nat) (zr azr_sign azr_token azr_in azr_own azr_since : Nat) (zr_sign zr_token zr_in zr_own zr_since : Nat → Int32) (zr_size : Int32) : Met l yX2_tokens wsX2_tokens ({ frames := 1, cells := 0, slots := 0, locals := 21 } : Room) (va_Pc [.ref zr] (PreW dC dI cI cJ sz [(zr, .inr (2, [.ref azr_sign, .ref azr_token, .ref azr_in, .ref azr_own, .ref azr_since, .int zr_size])), (azr_sign, .inl (cI, 240, .inl zr_sign)), (azr_token, .inl (cI, 240, .inl zr_token)), (azr_in, .inl (cI, 240, .inl zr_in)), (azr_own, .inl (cI, 240, .inl zr_own)), (azr_since, .inl (cI, 240, .inl zr_since))])) (va_Qi (fun (r : Int32) (_ : Unit) => r = f_X2_tokens zr_token zr_size) (fun (_ : Unit) _ => True) (fun q => sz ≤ q)) 0 0 (fun q => sz ≤ q) := by
  refine Met.ofW (cc := cX2_tokens) (maxL := 3) (ret := (some .int)) (by decide) rfl ?_
  intro p e s m args below meth c s₁ B hml hv
  obtain ⟨rfl, hsz, hP, hK, hN, hD0⟩ := hv
  have hx := B.exec
  have hb := B.bytes
  have hr := B.returns
  have hts := atoms_spec (ws := wsX2_tokens) B.pre
  have hown : s.vm.findClass RX2 = some m.cls := findClass_of_methodNamed B.named
  have hlocks := B.notSynchronized
  subst hsz
  have hD := hD0
  generalize hAe : (fun q => s.heap.size ≤ q) = A
  have hA : ∀ q : Nat, s.heap.size ≤ q → A q := fun q h => by rw [← hAe]; exact h
  have hS : va_S A s.heap s.heap [] := va_S.rf
  have hP : va_P (dC, dI) vwCl [(zr, .inr (2, [.ref azr_sign, .ref azr_token, .ref azr_in, .ref azr_own, .ref azr_since, .int zr_size])), (azr_sign, .inl (cI, 240, .inl zr_sign)), (azr_token, .inl (cI, 240, .inl zr_token)), (azr_in, .inl (cI, 240, .inl zr_in)), (azr_own, .inl (cI, 240, .inl zr_own)), (azr_since, .inl (cI, 240, .inl zr_since))] s.heap := hP
  have hl := lv_entry ([.ref zr]) (n := 3) (Nat.le_of_ble_eq_true rfl)
  rw [lg_entry_eq]
  generalize (lg_sl ([.ref zr]) ++ List.replicate (3 - (lg_sl ([.ref zr])).length) Slot.unset).toArray = ls at hl ⊢
  have hl : lv_has ls 3 [(0, .ref zr)] := hl
  refine W_nm (fun QQ hQQ => ?_)
  refine lv_iconst (v := (0 : Int32)) hx hb dX2_tokens_0 (by decide) ?_
  refine lv_istore_n (lv' := [(1, .int (0 : Int32)), (0, .ref zr)]) hx hb dX2_tokens_1 rfl hl (by decide) rfl (fun ls hl => ?_)
  refine lv_iconst (v := (0 : Int32)) hx hb dX2_tokens_2 (by decide) ?_
  refine lv_istore_n (lv' := [(2, .int (0 : Int32)), (1, .int (0 : Int32)), (0, .ref zr)]) hx hb dX2_tokens_3 rfl hl (by decide) rfl (fun ls hl => ?_)
  have hloop_1 : ∀ (n_1 : Nat) (v1_1 : Int32) (v2_1 : Int32) , (0 ≤ v2_1.toInt) → (v2_1.toInt ≤ 240) → (240 - v2_1.toInt).toNat < n_1 → f_X2_tokens zr_token zr_size = f_X2_tokens_L4 zr_token zr_size n_1 v1_1 v2_1 → ∀ (H : Heap) (locs : List Loc), va_P (dC, dI) vwCl [(zr, .inr (2, [.ref azr_sign, .ref azr_token, .ref azr_in, .ref azr_own, .ref azr_since, .int zr_size])), (azr_sign, .inl (cI, 240, .inl zr_sign)), (azr_token, .inl (cI, 240, .inl zr_token)), (azr_in, .inl (cI, 240, .inl zr_in)), (azr_own, .inl (cI, 240, .inl zr_own)), (azr_since, .inl (cI, 240, .inl zr_since))] H → va_D (fun _ => True) [(zr, .inr (2, [.ref azr_sign, .ref azr_token, .ref azr_in, .ref azr_own, .ref azr_since, .int zr_size])), (azr_sign, .inl (cI, 240, .inl zr_sign)), (azr_token, .inl (cI, 240, .inl zr_token)), (azr_in, .inl (cI, 240, .inl zr_in)), (azr_own, .inl (cI, 240, .inl zr_own)), (azr_since, .inl (cI, 240, .inl zr_since))] → va_S A s.heap H locs → ∀ ls : Array Slot, lv_has ls 3 [(0, .ref zr), (1, .int v1_1), (2, .int v2_1)] → W p l e (headSpec wsX2_tokens ({ frames := 1, cells := 0, slots := 0, locals := 21 } : Room)).room s m ([.ref zr] : List Value).toArray below meth c H locs 0 0 QQ (F0 m 4 ls []) := by
    intro n_1
    induction n_1 with
    | zero => intro v1_1 v2_1 hi0_1 hi1_1 hmu; exact absurd hmu (Nat.not_lt_zero _)
    | succ n_1 ih_1 =>
      intro v1_1 v2_1 hi0_1 hi1_1 hmu_1 hI_1 H locs hP hD hS ls hl
      refine lv_iload_n hx hb dX2_tokens_4 rfl (lv_at hl 2 rfl) ?_
      refine lv_sipush (v := (240 : Int32)) hx hb dX2_tokens_5 (by decide) ?_
      refine lv_icmp_ge (tgt := 37) hx hb dX2_tokens_8 (by decide) (fun c_2 => ?_) (fun c_2 => ?_)
      · have tc_2 : (240 : Int) ≤ v2_1.toInt := q_le c_2
        refine lv_iload_n hx hb dX2_tokens_37 rfl (lv_at hl 1 rfl) ?_
        rw [hQQ]
        have hE : f_X2_tokens zr_token zr_size = v1_1 := (hI_1.trans (by rw [f_X2_tokens_L4, if_pos c_2]))
        exact W.iret (v := v1_1) hx hb hr (fun t ht hW => ⟨⟨v1_1, (), rfl, by rw [hE], trivial⟩, hS.F ht⟩) hS.2.2 dX2_tokens_38
      · have tc_2 : v2_1.toInt < (240 : Int) := q_nle c_2
        refine lv_aload_n hx hb dX2_tokens_11 rfl (lv_at hl 0 rfl) ?_
        refine lv_iload_n hx hb dX2_tokens_12 rfl (lv_at hl 2 rfl) ?_
        have hPc := hP.sub (ws' := [(zr, .inr (2, [.ref azr_sign, .ref azr_token, .ref azr_in, .ref azr_own, .ref azr_since, .int zr_size])), (azr_sign, .inl (cI, 240, .inl zr_sign)), (azr_token, .inl (cI, 240, .inl zr_token)), (azr_in, .inl (cI, 240, .inl zr_in)), (azr_own, .inl (cI, 240, .inl zr_own)), (azr_since, .inl (cI, 240, .inl zr_since))]) [0, 1, 2, 3, 4, 5] rfl
        have hDc := hD.sub (ws' := [(zr, .inr (2, [.ref azr_sign, .ref azr_token, .ref azr_in, .ref azr_own, .ref azr_since, .int zr_size])), (azr_sign, .inl (cI, 240, .inl zr_sign)), (azr_token, .inl (cI, 240, .inl zr_token)), (azr_in, .inl (cI, 240, .inl zr_in)), (azr_own, .inl (cI, 240, .inl zr_own)), (azr_since, .inl (cI, 240, .inl zr_since))]) [0, 1, 2, 3, 4, 5] (by decide) rfl
        refine va_calli (va_runV (As := [.int v2_1]) (rest := []) ⟨hx, hb, hml, hown, hts⟩ (c_X2_has l dC dI cI cJ H.size zr azr_sign azr_token azr_in azr_own azr_since zr_sign zr_token zr_in zr_own zr_since zr_size v2_1) (cwV 1 hts gX2_tokens_X2_has rfl rfl rfl (by decide +kernel) ⟨Nat.le_of_ble_eq_true rfl, Nat.le_of_ble_eq_true rfl⟩) ⟨fun a U g mk q => ⟨q.1, PreW.call g mk a q.2⟩, va_recv hK hP (ci := 2) (q0 := 0) rfl rfl, fun U hU hW => ⟨rfl, PreW.mk2 hU hW hPc hK hN (hDc.weaken (fun _ _ _ _ => trivial))⟩⟩ rfl rfl hl.1 rfl (lv_room (Nat.le_of_ble_eq_true rfl)) dX2_tokens_13 ⟨Nat.le_of_ble_eq_true rfl, Nat.le_of_ble_eq_true rfl⟩) hS (fun q hq h => absurd hq (Nat.not_lt.mpr h)) (fun q h => hA q (Nat.le_trans hS.1 h)) (fun r_3 _u t H1 locs ht hvm hw hB hz1 hk1 hS => ?_)
        have hP := va_ro hP hk1
        generalize H1 = H at hP hS ⊢
        have hw : r_3 = f_X2_has zr_size v2_1 := hw
        subst hw
        obtain ⟨z_4, hz_4⟩ : ∃ z : Int32, z = f_X2_has zr_size v2_1 := ⟨_, rfl⟩
        refine lv_if_eq (tgt := 37) hx hb dX2_tokens_16 (by decide) (fun c_5 => ?_) (fun c_5 => ?_)
        · have tc_5 : z_4.toInt = (0 : Int) := by rw [hz_4]; exact q_eq c_5
          refine lv_iload_n hx hb dX2_tokens_37 rfl (lv_at hl 1 rfl) ?_
          rw [hQQ]
          have hE : f_X2_tokens zr_token zr_size = v1_1 := (hI_1.trans (by rw [f_X2_tokens_L4, if_neg c_2, if_pos c_5]))
          exact W.iret (v := v1_1) hx hb hr (fun t ht hW => ⟨⟨v1_1, (), rfl, by rw [hE], trivial⟩, hS.F ht⟩) hS.2.2 dX2_tokens_38
        · have tc_5 : ¬ z_4.toInt = (0 : Int) := by rw [hz_4]; exact q_ne c_5
          obtain ⟨b_6, b_7, b_8⟩ := has_in c_5
          refine lv_aload_n hx hb dX2_tokens_19 rfl (lv_at hl 0 rfl) ?_
          refine va_get (D := (dC, dI)) (ci := 2) (v := .ref azr_token) (C := RX2) (T := TX2) (N := 6) hx hb hts in_X2_tokens_X2 hown hK hP 0 rfl rfl 1 (by decide) (hts _ m_X2_tokens_1) (fun _ h9 => h9) rfl dX2_tokens_20 ?_
          refine lv_iload_n hx hb dX2_tokens_23 rfl (lv_at hl 2 rfl) ?_
          refine va_iald (q0 := 2) (t0 := 0) (n := 240) (f := zr_token) hx hb hK hP rfl rfl (vp_in_iff.mpr ⟨by omega, by omega⟩) dX2_tokens_24 ?_
          refine lv_if_eq (tgt := 31) hx hb dX2_tokens_25 (by decide) (fun c_9 => ?_) (fun c_9 => ?_)
          · refine lv_iinc (v := (v2_1 + (1 : Int32))) (lv' := [(2, .int (v2_1 + (1 : Int32))), (0, .ref zr), (1, .int v1_1)]) hx hb dX2_tokens_31 hl (k := 2) rfl rfl (by decide) rfl (fun ls hl => ?_)
            obtain ⟨z_10, hz_10⟩ : ∃ z : Int32, z = (v2_1 + (1 : Int32)) := ⟨_, rfl⟩
            try have gz_10 : z_10.toInt = v2_1.toInt + (1 : Int) := by rw [hz_10]; exact ti_add2 rfl rfl (by omega) (by omega)
            refine lv_goto (tgt := 4) hx hb dX2_tokens_34 (by decide) ?_
            exact ih_1 v1_1 (v2_1 + (1 : Int32)) (by rw [← hz_10]; omega) (by rw [← hz_10]; omega) (by rw [← hz_10]; omega) (hI_1.trans (by rw [f_X2_tokens_L4, if_neg c_2, if_neg c_5, if_pos c_9])) _ _ hP hD hS ls (lv_sub hl [1, 2, 0] rfl)
          · refine lv_iinc (v := (v1_1 + (1 : Int32))) (lv' := [(1, .int (v1_1 + (1 : Int32))), (0, .ref zr), (2, .int v2_1)]) hx hb dX2_tokens_28 hl (k := 1) rfl rfl (by decide) rfl (fun ls hl => ?_)
            obtain ⟨z_11, hz_11⟩ : ∃ z : Int32, z = (v1_1 + (1 : Int32)) := ⟨_, rfl⟩
            try have gz_11 : z_11.toInt = v1_1.toInt + (1 : Int) := by rw [hz_11]; exact ti_add2 rfl rfl (by omega) (by omega)
            refine lv_iinc (v := (v2_1 + (1 : Int32))) (lv' := [(2, .int (v2_1 + (1 : Int32))), (1, .int (v1_1 + (1 : Int32))), (0, .ref zr)]) hx hb dX2_tokens_31 hl (k := 2) rfl rfl (by decide) rfl (fun ls hl => ?_)
            obtain ⟨z_12, hz_12⟩ : ∃ z : Int32, z = (v2_1 + (1 : Int32)) := ⟨_, rfl⟩
            try have gz_12 : z_12.toInt = v2_1.toInt + (1 : Int) := by rw [hz_12]; exact ti_add2 rfl rfl (by omega) (by omega)
            refine lv_goto (tgt := 4) hx hb dX2_tokens_34 (by decide) ?_
            exact ih_1 (v1_1 + (1 : Int32)) (v2_1 + (1 : Int32)) (by rw [← hz_12]; omega) (by rw [← hz_12]; omega) (by rw [← hz_12]; omega) (hI_1.trans (by rw [f_X2_tokens_L4, if_neg c_2, if_neg c_5, if_neg c_9])) _ _ hP hD hS ls (lv_sub hl [2, 1, 0] rfl)
  exact hloop_1 241 (0 : Int32) (0 : Int32) (by first | omega | exact (show 0 ≤ (0 : Int) by omega) | assumption | trivial) (by first | omega | exact (show (0 : Int) ≤ 240 by omega) | assumption | trivial) (by first | omega | exact (show (240 - (0 : Int)).toNat < 241 by omega)) (by rw [f_X2_tokens]) _ _ hP hD hS ls (lv_sub hl [2, 1, 0] rfl)
theorem dX2_enter_0 : decode cX2_enter 0 = .ok (.aload_n 0, 1) := by decide +kernel
theorem dX2_enter_1 : decode cX2_enter 1 = .ok (.iload_n 1, 1) := by decide +kernel
theorem dX2_enter_2 : decode cX2_enter 2 = .ok (.invokevirtual 31, 3) := by decide +kernel
set_option maxRecDepth 20000 in
theorem ggX2_enter_X2_has : GoodIn wsX2_enter wsX2_has := goodIn_r _ [6, 7, 8, 9, 10, 11, 12, 13] (by decide +kernel) (by decide +kernel)
set_option maxRecDepth 20000 in
theorem gX2_enter_X2_has : GoodIn wsX2_enter (wsV RX2 31 RX2 yX2_has wsX2_has) := goodIn_app (goodIn_of _ (by decide +kernel)) ggX2_enter_X2_has
theorem dX2_enter_5 : decode cX2_enter 5 = .ok (.ifCond .eq 13, 3) := by decide +kernel
theorem dX2_enter_18 : decode cX2_enter 18 = .ok (.return_, 1) := by decide +kernel
theorem dX2_enter_8 : decode cX2_enter 8 = .ok (.aload_n 0, 1) := by decide +kernel
theorem dX2_enter_9 : decode cX2_enter 9 = .ok (.getfield 18, 3) := by decide +kernel
theorem in_X2_enter_X2 : ∀ w ∈ wsX20, w ∈ wsX2_enter := by decide +kernel
theorem m_X2_enter_1 : (.fieldLink RX2 18 "RedlineDesk$Row" "in" "[I" : Cond) ∈ wsX2_enter := List.mem_of_getElem? (i := 1) (by decide +kernel)
theorem dX2_enter_12 : decode cX2_enter 12 = .ok (.iload_n 1, 1) := by decide +kernel
theorem dX2_enter_13 : decode cX2_enter 13 = .ok (.dup2, 1) := by decide +kernel
theorem dX2_enter_14 : decode cX2_enter 14 = .ok (.iaload, 1) := by decide +kernel
theorem dX2_enter_15 : decode cX2_enter 15 = .ok (.iload_n 2, 1) := by decide +kernel
theorem dX2_enter_16 : decode cX2_enter 16 = .ok (.ior, 1) := by decide +kernel
theorem dX2_enter_17 : decode cX2_enter 17 = .ok (.iastore, 1) := by decide +kernel
def f_X2_enter (zr_in : Nat → Int32) (zr_size : Int32) (a_s : Int32) (a_c : Int32) : (Nat → Int32) := if (f_X2_has zr_size a_s) = (0 : Int32) then zr_in else (upd zr_in (a_s).toNatClampNeg ((zr_in (a_s).toNatClampNeg) ||| a_c))
set_option maxHeartbeats 4000000 in
set_option maxRecDepth 100000 in
theorem c_X2_enter (l : Launch) (dC : Nat → ClassId) (dI : Nat → Nat → Nat) (cI cJ : ClassId) (sz : Nat) (zr azr_sign azr_token azr_in azr_own azr_since : Nat) (zr_sign zr_token zr_in zr_own zr_since : Nat → Int32) (zr_size : Int32) (a_s : Int32) (a_c : Int32) : Met l yX2_enter wsX2_enter ({ frames := 1, cells := 0, slots := 0, locals := 21 } : Room) (va_Pc [.ref zr, .int a_s, .int a_c] (PreW dC dI cI cJ sz [(zr, .inr (2, [.ref azr_sign, .ref azr_token, .ref azr_in, .ref azr_own, .ref azr_since, .int zr_size])), (azr_sign, .inl (cI, 240, .inl zr_sign)), (azr_token, .inl (cI, 240, .inl zr_token)), (azr_in, .inl (cI, 240, .inl zr_in)), (azr_own, .inl (cI, 240, .inl zr_own)), (azr_since, .inl (cI, 240, .inl zr_since))])) (va_Qv (fun (u : (Nat → Int32)) => u = f_X2_enter zr_in zr_size a_s a_c) (fun (u : (Nat → Int32)) t => PostW dC dI [(zr, .inr (2, [.ref azr_sign, .ref azr_token, .ref azr_in, .ref azr_own, .ref azr_since, .int zr_size])), (azr_sign, .inl (cI, 240, .inl zr_sign)), (azr_token, .inl (cI, 240, .inl zr_token)), (azr_in, .inl (cI, 240, .inl u)), (azr_own, .inl (cI, 240, .inl zr_own)), (azr_since, .inl (cI, 240, .inl zr_since))] t (va_A [(zr, .inr (2, [.ref azr_sign, .ref azr_token, .ref azr_in, .ref azr_own, .ref azr_since, .int zr_size])), (azr_sign, .inl (cI, 240, .inl zr_sign)), (azr_token, .inl (cI, 240, .inl zr_token)), (azr_in, .inl (cI, 240, .inl zr_in)), (azr_own, .inl (cI, 240, .inl zr_own)), (azr_since, .inl (cI, 240, .inl zr_since))] sz)) (va_A [(zr, .inr (2, [.ref azr_sign, .ref azr_token, .ref azr_in, .ref azr_own, .ref azr_since, .int zr_size])), (azr_sign, .inl (cI, 240, .inl zr_sign)), (azr_token, .inl (cI, 240, .inl zr_token)), (azr_in, .inl (cI, 240, .inl zr_in)), (azr_own, .inl (cI, 240, .inl zr_own)), (azr_since, .inl (cI, 240, .inl zr_since))] sz)) 0 0 (va_A [(zr, .inr (2, [.ref azr_sign, .ref azr_token, .ref azr_in, .ref azr_own, .ref azr_since, .int zr_size])), (azr_sign, .inl (cI, 240, .inl zr_sign)), (azr_token, .inl (cI, 240, .inl zr_token)), (azr_in, .inl (cI, 240, .inl zr_in)), (azr_own, .inl (cI, 240, .inl zr_own)), (azr_since, .inl (cI, 240, .inl zr_since))] sz) := by
  refine Met.ofW (cc := cX2_enter) (maxL := 3) (ret := none) (by decide) rfl ?_
  intro p e s m args below meth c s₁ B hml hv
  obtain ⟨rfl, hsz, hP, hK, hN, hD0⟩ := hv
  have hx := B.exec
  have hb := B.bytes
  have hr := B.returns
  have hts := atoms_spec (ws := wsX2_enter) B.pre
  have hown : s.vm.findClass RX2 = some m.cls := findClass_of_methodNamed B.named
  have hlocks := B.notSynchronized
  subst hsz
  have hD := hD0.self (sz := s.heap.size)
  generalize hAe : va_A [(zr, .inr (2, [.ref azr_sign, .ref azr_token, .ref azr_in, .ref azr_own, .ref azr_since, .int zr_size])), (azr_sign, .inl (cI, 240, .inl zr_sign)), (azr_token, .inl (cI, 240, .inl zr_token)), (azr_in, .inl (cI, 240, .inl zr_in)), (azr_own, .inl (cI, 240, .inl zr_own)), (azr_since, .inl (cI, 240, .inl zr_since))] s.heap.size = A at hD ⊢
  have hA : ∀ q : Nat, s.heap.size ≤ q → A q := fun q h => by rw [← hAe]; exact Or.inr h
  have hS : va_S A s.heap s.heap [] := va_S.rf
  have hP : va_P (dC, dI) vwCl [(zr, .inr (2, [.ref azr_sign, .ref azr_token, .ref azr_in, .ref azr_own, .ref azr_since, .int zr_size])), (azr_sign, .inl (cI, 240, .inl zr_sign)), (azr_token, .inl (cI, 240, .inl zr_token)), (azr_in, .inl (cI, 240, .inl zr_in)), (azr_own, .inl (cI, 240, .inl zr_own)), (azr_since, .inl (cI, 240, .inl zr_since))] s.heap := hP
  have hl := lv_entry ([.ref zr, .int a_s, .int a_c]) (n := 3) (Nat.le_of_ble_eq_true rfl)
  rw [lg_entry_eq]
  generalize (lg_sl ([.ref zr, .int a_s, .int a_c]) ++ List.replicate (3 - (lg_sl ([.ref zr, .int a_s, .int a_c])).length) Slot.unset).toArray = ls at hl ⊢
  have hl : lv_has ls 3 [(0, .ref zr), (1, .int a_s), (2, .int a_c)] := hl
  refine lv_aload_n hx hb dX2_enter_0 rfl (lv_at hl 0 rfl) ?_
  refine lv_iload_n hx hb dX2_enter_1 rfl (lv_at hl 1 rfl) ?_
  have hPc := hP.sub (ws' := [(zr, .inr (2, [.ref azr_sign, .ref azr_token, .ref azr_in, .ref azr_own, .ref azr_since, .int zr_size])), (azr_sign, .inl (cI, 240, .inl zr_sign)), (azr_token, .inl (cI, 240, .inl zr_token)), (azr_in, .inl (cI, 240, .inl zr_in)), (azr_own, .inl (cI, 240, .inl zr_own)), (azr_since, .inl (cI, 240, .inl zr_since))]) [0, 1, 2, 3, 4, 5] rfl
  have hDc := hD.sub (ws' := [(zr, .inr (2, [.ref azr_sign, .ref azr_token, .ref azr_in, .ref azr_own, .ref azr_since, .int zr_size])), (azr_sign, .inl (cI, 240, .inl zr_sign)), (azr_token, .inl (cI, 240, .inl zr_token)), (azr_in, .inl (cI, 240, .inl zr_in)), (azr_own, .inl (cI, 240, .inl zr_own)), (azr_since, .inl (cI, 240, .inl zr_since))]) [0, 1, 2, 3, 4, 5] (by decide) rfl
  refine va_calli (va_runV (As := [.int a_s]) (rest := []) ⟨hx, hb, hml, hown, hts⟩ (c_X2_has l dC dI cI cJ s.heap.size zr azr_sign azr_token azr_in azr_own azr_since zr_sign zr_token zr_in zr_own zr_since zr_size a_s) (cwV 1 hts gX2_enter_X2_has rfl rfl rfl (by decide +kernel) ⟨Nat.le_of_ble_eq_true rfl, Nat.le_of_ble_eq_true rfl⟩) ⟨fun a U g mk q => ⟨q.1, PreW.call g mk a q.2⟩, va_recv hK hP (ci := 2) (q0 := 0) rfl rfl, fun U hU hW => ⟨rfl, PreW.mk2 hU hW hPc hK hN (hDc.weaken (fun _ _ _ _ => trivial))⟩⟩ rfl rfl hl.1 rfl (lv_room (Nat.le_of_ble_eq_true rfl)) dX2_enter_2 ⟨Nat.le_of_ble_eq_true rfl, Nat.le_of_ble_eq_true rfl⟩) hS (fun q hq h => absurd hq (Nat.not_lt.mpr h)) (fun q h => hA q (Nat.le_trans hS.1 h)) (fun r_1 _u t H1 locs ht hvm hw hB hz1 hk1 hS => ?_)
  have hP := va_ro hP hk1
  generalize H1 = H at hP hS ⊢
  have hw : r_1 = f_X2_has zr_size a_s := hw
  subst hw
  obtain ⟨z_2, hz_2⟩ : ∃ z : Int32, z = f_X2_has zr_size a_s := ⟨_, rfl⟩
  refine lv_if_eq (tgt := 18) hx hb dX2_enter_5 (by decide) (fun c_3 => ?_) (fun c_3 => ?_)
  · have tc_3 : z_2.toInt = (0 : Int) := by rw [hz_2]; exact q_eq c_3
    have hE : f_X2_enter zr_in zr_size a_s a_c = zr_in := (by rw [f_X2_enter, if_pos c_3])
    exact W.vret hx hb hr (fun t ht hW => ⟨⟨(zr_in), rfl, by rw [hE], ⟨by rw [ht]; exact hP, hD⟩⟩, hS.F ht⟩) hS.2.2 dX2_enter_18
  · have tc_3 : ¬ z_2.toInt = (0 : Int) := by rw [hz_2]; exact q_ne c_3
    obtain ⟨b_4, b_5, b_6⟩ := has_in c_3
    refine lv_aload_n hx hb dX2_enter_8 rfl (lv_at hl 0 rfl) ?_
    refine va_get (D := (dC, dI)) (ci := 2) (v := .ref azr_in) (C := RX2) (T := TX2) (N := 6) hx hb hts in_X2_enter_X2 hown hK hP 0 rfl rfl 2 (by decide) (hts _ m_X2_enter_1) (fun _ h9 => h9) rfl dX2_enter_9 ?_
    refine lv_iload_n hx hb dX2_enter_12 rfl (lv_at hl 1 rfl) ?_
    refine lv_dup2_11 hx hb dX2_enter_13 rfl rfl ?_
    refine va_iald (q0 := 3) (t0 := 0) (n := 240) (f := zr_in) hx hb hK hP rfl rfl (vp_in_iff.mpr ⟨by omega, by omega⟩) dX2_enter_14 ?_
    refine lv_iload_n hx hb dX2_enter_15 rfl (lv_at hl 2 rfl) ?_
    refine lv_ior hx hb dX2_enter_16 ?_
    refine va_iast (q0 := 3) (t0 := 0) (n := 240) (f := zr_in) hx hb hK hP hD hS rfl rfl (vp_in_iff.mpr ⟨by omega, by omega⟩) dX2_enter_17 (fun H locs hP hD hS => ?_)
    have hP : va_P (dC, dI) vwCl [(zr, .inr (2, [.ref azr_sign, .ref azr_token, .ref azr_in, .ref azr_own, .ref azr_since, .int zr_size])), (azr_sign, .inl (cI, 240, .inl zr_sign)), (azr_token, .inl (cI, 240, .inl zr_token)), (azr_in, .inl (cI, 240, .inl (upd zr_in (a_s).toNatClampNeg ((zr_in (a_s).toNatClampNeg) ||| a_c)))), (azr_own, .inl (cI, 240, .inl zr_own)), (azr_since, .inl (cI, 240, .inl zr_since))] H := hP
    have hD : va_D A [(zr, .inr (2, [.ref azr_sign, .ref azr_token, .ref azr_in, .ref azr_own, .ref azr_since, .int zr_size])), (azr_sign, .inl (cI, 240, .inl zr_sign)), (azr_token, .inl (cI, 240, .inl zr_token)), (azr_in, .inl (cI, 240, .inl (upd zr_in (a_s).toNatClampNeg ((zr_in (a_s).toNatClampNeg) ||| a_c)))), (azr_own, .inl (cI, 240, .inl zr_own)), (azr_since, .inl (cI, 240, .inl zr_since))] := hD
    have hE : f_X2_enter zr_in zr_size a_s a_c = (upd zr_in (a_s).toNatClampNeg ((zr_in (a_s).toNatClampNeg) ||| a_c)) := (by rw [f_X2_enter, if_neg c_3])
    exact W.vret hx hb hr (fun t ht hW => ⟨⟨((upd zr_in (a_s).toNatClampNeg ((zr_in (a_s).toNatClampNeg) ||| a_c))), rfl, by rw [hE], ⟨by rw [ht]; exact hP, hD⟩⟩, hS.F ht⟩) hS.2.2 dX2_enter_18
theorem dX2_enterTokens_0 : decode cX2_enterTokens 0 = .ok (.iconst 0, 1) := by decide +kernel
theorem dX2_enterTokens_1 : decode cX2_enterTokens 1 = .ok (.istore_n 3, 1) := by decide +kernel
theorem dX2_enterTokens_2 : decode cX2_enterTokens 2 = .ok (.iload_n 3, 1) := by decide +kernel
theorem dX2_enterTokens_3 : decode cX2_enterTokens 3 = .ok (.sipush 240, 3) := by decide +kernel
theorem dX2_enterTokens_6 : decode cX2_enterTokens 6 = .ok (.if_icmp .ge 41, 3) := by decide +kernel
theorem dX2_enterTokens_47 : decode cX2_enterTokens 47 = .ok (.return_, 1) := by decide +kernel
theorem dX2_enterTokens_9 : decode cX2_enterTokens 9 = .ok (.aload_n 0, 1) := by decide +kernel
theorem dX2_enterTokens_10 : decode cX2_enterTokens 10 = .ok (.iload_n 3, 1) := by decide +kernel
theorem dX2_enterTokens_11 : decode cX2_enterTokens 11 = .ok (.invokevirtual 31, 3) := by decide +kernel
set_option maxRecDepth 20000 in
theorem ggX2_enterTokens_X2_has : GoodIn wsX2_enterTokens wsX2_has := goodIn_r _ [7, 8, 12, 13, 14, 15, 16, 17] (by decide +kernel) (by decide +kernel)
set_option maxRecDepth 20000 in
theorem gX2_enterTokens_X2_has : GoodIn wsX2_enterTokens (wsV RX2 31 RX2 yX2_has wsX2_has) := goodIn_app (goodIn_of _ (by decide +kernel)) ggX2_enterTokens_X2_has
theorem dX2_enterTokens_14 : decode cX2_enterTokens 14 = .ok (.ifCond .eq 33, 3) := by decide +kernel
theorem dX2_enterTokens_17 : decode cX2_enterTokens 17 = .ok (.aload_n 0, 1) := by decide +kernel
theorem dX2_enterTokens_18 : decode cX2_enterTokens 18 = .ok (.getfield 15, 3) := by decide +kernel
theorem in_X2_enterTokens_X2 : ∀ w ∈ wsX20, w ∈ wsX2_enterTokens := by decide +kernel
theorem m_X2_enterTokens_1 : (.fieldLink RX2 15 "RedlineDesk$Row" "token" "[I" : Cond) ∈ wsX2_enterTokens := List.mem_of_getElem? (i := 1) (by decide +kernel)
theorem dX2_enterTokens_21 : decode cX2_enterTokens 21 = .ok (.iload_n 3, 1) := by decide +kernel
theorem dX2_enterTokens_22 : decode cX2_enterTokens 22 = .ok (.iaload, 1) := by decide +kernel
theorem dX2_enterTokens_23 : decode cX2_enterTokens 23 = .ok (.invokestatic 35, 3) := by decide +kernel
set_option maxRecDepth 20000 in
theorem ggX2_enterTokens_X5_bit : GoodIn wsX2_enterTokens wsX5_bit := goodIn_r _ [11] (by decide +kernel) (by decide +kernel)
set_option maxRecDepth 20000 in
theorem gX2_enterTokens_X5_bit_n35 : GoodIn wsX2_enterTokens (wsX5_bit) := ggX2_enterTokens_X5_bit
theorem m_X2_enterTokens_10 : (.initialized RX5 : Cond) ∈ wsX2_enterTokens := List.mem_of_getElem? (i := 10) (by decide +kernel)
theorem m_X2_enterTokens_9 : (.static yX5_bit : Cond) ∈ wsX2_enterTokens := List.mem_of_getElem? (i := 9) (by decide +kernel)
theorem dX2_enterTokens_26 : decode cX2_enterTokens 26 = .ok (.iload_n 1, 1) := by decide +kernel
theorem dX2_enterTokens_27 : decode cX2_enterTokens 27 = .ok (.iand, 1) := by decide +kernel
theorem dX2_enterTokens_28 : decode cX2_enterTokens 28 = .ok (.ifCond .eq 13, 3) := by decide +kernel
theorem dX2_enterTokens_41 : decode cX2_enterTokens 41 = .ok (.iinc 3 1, 3) := by decide +kernel
theorem dX2_enterTokens_44 : decode cX2_enterTokens 44 = .ok (.goto (-42), 3) := by decide +kernel
theorem dX2_enterTokens_31 : decode cX2_enterTokens 31 = .ok (.aload_n 0, 1) := by decide +kernel
theorem dX2_enterTokens_32 : decode cX2_enterTokens 32 = .ok (.getfield 18, 3) := by decide +kernel
theorem m_X2_enterTokens_2 : (.fieldLink RX2 18 "RedlineDesk$Row" "in" "[I" : Cond) ∈ wsX2_enterTokens := List.mem_of_getElem? (i := 2) (by decide +kernel)
theorem dX2_enterTokens_35 : decode cX2_enterTokens 35 = .ok (.iload_n 3, 1) := by decide +kernel
theorem dX2_enterTokens_36 : decode cX2_enterTokens 36 = .ok (.dup2, 1) := by decide +kernel
theorem dX2_enterTokens_37 : decode cX2_enterTokens 37 = .ok (.iaload, 1) := by decide +kernel
theorem dX2_enterTokens_38 : decode cX2_enterTokens 38 = .ok (.iload_n 2, 1) := by decide +kernel
theorem dX2_enterTokens_39 : decode cX2_enterTokens 39 = .ok (.ior, 1) := by decide +kernel
theorem dX2_enterTokens_40 : decode cX2_enterTokens 40 = .ok (.iastore, 1) := by decide +kernel
def f_X2_enterTokens_L2 (zr_token : Nat → Int32) (zr_size : Int32) (a_t : Int32) (a_c : Int32) : Nat → Int32 → (Nat → Int32) → (Nat → Int32)
  | 0, _, _ => (fun _ => 0)
  | n_1 + 1, v3_1, zr_in_1 => if (240 : Int32) ≤ v3_1 then zr_in_1 else if (f_X2_has zr_size v3_1) = (0 : Int32) then zr_in_1 else if ((f_X5_bit (zr_token (v3_1).toNatClampNeg)) &&& a_t) = (0 : Int32) then (f_X2_enterTokens_L2 zr_token zr_size a_t a_c n_1) (v3_1 + (1 : Int32)) zr_in_1 else (f_X2_enterTokens_L2 zr_token zr_size a_t a_c n_1) (v3_1 + (1 : Int32)) (upd zr_in_1 (v3_1).toNatClampNeg ((zr_in_1 (v3_1).toNatClampNeg) ||| a_c))
def f_X2_enterTokens (zr_token : Nat → Int32) (zr_in : Nat → Int32) (zr_size : Int32) (a_t : Int32) (a_c : Int32) : (Nat → Int32) := f_X2_enterTokens_L2 zr_token zr_size a_t a_c 241 (0 : Int32) zr_in
set_option maxHeartbeats 4000000 in
set_option maxRecDepth 100000 in
theorem c_X2_enterTokens (l : Launch) (dC : Nat → ClassId) (dI : Nat → Nat → Nat) (cI cJ : ClassId) (sz : Nat) (zr azr_sign azr_token azr_in azr_own azr_since : Nat) (zr_sign zr_token zr_in zr_own zr_since : Nat → Int32) (zr_size : Int32) (a_t : Int32) (a_c : Int32) : Met l yX2_enterTokens wsX2_enterTokens ({ frames := 1, cells := 0, slots := 0, locals := 21 } : Room) (va_Pc [.ref zr, .int a_t, .int a_c] (PreW dC dI cI cJ sz [(zr, .inr (2, [.ref azr_sign, .ref azr_token, .ref azr_in, .ref azr_own, .ref azr_since, .int zr_size])), (azr_sign, .inl (cI, 240, .inl zr_sign)), (azr_token, .inl (cI, 240, .inl zr_token)), (azr_in, .inl (cI, 240, .inl zr_in)), (azr_own, .inl (cI, 240, .inl zr_own)), (azr_since, .inl (cI, 240, .inl zr_since))])) (va_Qv (fun (u : (Nat → Int32)) => u = f_X2_enterTokens zr_token zr_in zr_size a_t a_c) (fun (u : (Nat → Int32)) t => PostW dC dI [(zr, .inr (2, [.ref azr_sign, .ref azr_token, .ref azr_in, .ref azr_own, .ref azr_since, .int zr_size])), (azr_sign, .inl (cI, 240, .inl zr_sign)), (azr_token, .inl (cI, 240, .inl zr_token)), (azr_in, .inl (cI, 240, .inl u)), (azr_own, .inl (cI, 240, .inl zr_own)), (azr_since, .inl (cI, 240, .inl zr_since))] t (va_A [(zr, .inr (2, [.ref azr_sign, .ref azr_token, .ref azr_in, .ref azr_own, .ref azr_since, .int zr_size])), (azr_sign, .inl (cI, 240, .inl zr_sign)), (azr_token, .inl (cI, 240, .inl zr_token)), (azr_in, .inl (cI, 240, .inl zr_in)), (azr_own, .inl (cI, 240, .inl zr_own)), (azr_since, .inl (cI, 240, .inl zr_since))] sz)) (va_A [(zr, .inr (2, [.ref azr_sign, .ref azr_token, .ref azr_in, .ref azr_own, .ref azr_since, .int zr_size])), (azr_sign, .inl (cI, 240, .inl zr_sign)), (azr_token, .inl (cI, 240, .inl zr_token)), (azr_in, .inl (cI, 240, .inl zr_in)), (azr_own, .inl (cI, 240, .inl zr_own)), (azr_since, .inl (cI, 240, .inl zr_since))] sz)) 0 0 (va_A [(zr, .inr (2, [.ref azr_sign, .ref azr_token, .ref azr_in, .ref azr_own, .ref azr_since, .int zr_size])), (azr_sign, .inl (cI, 240, .inl zr_sign)), (azr_token, .inl (cI, 240, .inl zr_token)), (azr_in, .inl (cI, 240, .inl zr_in)), (azr_own, .inl (cI, 240, .inl zr_own)), (azr_since, .inl (cI, 240, .inl zr_since))] sz) := by
  refine Met.ofW (cc := cX2_enterTokens) (maxL := 4) (ret := none) (by decide) rfl ?_
  intro p e s m args below meth c s₁ B hml hv
  obtain ⟨rfl, hsz, hP, hK, hN, hD0⟩ := hv
  have hx := B.exec
  have hb := B.bytes
  have hr := B.returns
  have hts := atoms_spec (ws := wsX2_enterTokens) B.pre
  have hown : s.vm.findClass RX2 = some m.cls := findClass_of_methodNamed B.named
  have hlocks := B.notSynchronized
  subst hsz
  have hD := hD0.self (sz := s.heap.size)
  generalize hAe : va_A [(zr, .inr (2, [.ref azr_sign, .ref azr_token, .ref azr_in, .ref azr_own, .ref azr_since, .int zr_size])), (azr_sign, .inl (cI, 240, .inl zr_sign)), (azr_token, .inl (cI, 240, .inl zr_token)), (azr_in, .inl (cI, 240, .inl zr_in)), (azr_own, .inl (cI, 240, .inl zr_own)), (azr_since, .inl (cI, 240, .inl zr_since))] s.heap.size = A at hD ⊢
  have hA : ∀ q : Nat, s.heap.size ≤ q → A q := fun q h => by rw [← hAe]; exact Or.inr h
  have hS : va_S A s.heap s.heap [] := va_S.rf
  have hP : va_P (dC, dI) vwCl [(zr, .inr (2, [.ref azr_sign, .ref azr_token, .ref azr_in, .ref azr_own, .ref azr_since, .int zr_size])), (azr_sign, .inl (cI, 240, .inl zr_sign)), (azr_token, .inl (cI, 240, .inl zr_token)), (azr_in, .inl (cI, 240, .inl zr_in)), (azr_own, .inl (cI, 240, .inl zr_own)), (azr_since, .inl (cI, 240, .inl zr_since))] s.heap := hP
  have hl := lv_entry ([.ref zr, .int a_t, .int a_c]) (n := 4) (Nat.le_of_ble_eq_true rfl)
  rw [lg_entry_eq]
  generalize (lg_sl ([.ref zr, .int a_t, .int a_c]) ++ List.replicate (4 - (lg_sl ([.ref zr, .int a_t, .int a_c])).length) Slot.unset).toArray = ls at hl ⊢
  have hl : lv_has ls 4 [(0, .ref zr), (1, .int a_t), (2, .int a_c)] := hl
  refine W_nm (fun QQ hQQ => ?_)
  refine lv_iconst (v := (0 : Int32)) hx hb dX2_enterTokens_0 (by decide) ?_
  refine lv_istore_n (lv' := [(3, .int (0 : Int32)), (0, .ref zr), (1, .int a_t), (2, .int a_c)]) hx hb dX2_enterTokens_1 rfl hl (by decide) rfl (fun ls hl => ?_)
  have hloop_1 : ∀ (n_1 : Nat) (v3_1 : Int32) (zr_in_1 : Nat → Int32) , (0 ≤ v3_1.toInt) → (v3_1.toInt ≤ 240) → (240 - v3_1.toInt).toNat < n_1 → f_X2_enterTokens zr_token zr_in zr_size a_t a_c = f_X2_enterTokens_L2 zr_token zr_size a_t a_c n_1 v3_1 zr_in_1 → ∀ (H : Heap) (locs : List Loc), va_P (dC, dI) vwCl [(zr, .inr (2, [.ref azr_sign, .ref azr_token, .ref azr_in, .ref azr_own, .ref azr_since, .int zr_size])), (azr_sign, .inl (cI, 240, .inl zr_sign)), (azr_token, .inl (cI, 240, .inl zr_token)), (azr_in, .inl (cI, 240, .inl zr_in_1)), (azr_own, .inl (cI, 240, .inl zr_own)), (azr_since, .inl (cI, 240, .inl zr_since))] H → va_D A [(zr, .inr (2, [.ref azr_sign, .ref azr_token, .ref azr_in, .ref azr_own, .ref azr_since, .int zr_size])), (azr_sign, .inl (cI, 240, .inl zr_sign)), (azr_token, .inl (cI, 240, .inl zr_token)), (azr_in, .inl (cI, 240, .inl zr_in_1)), (azr_own, .inl (cI, 240, .inl zr_own)), (azr_since, .inl (cI, 240, .inl zr_since))] → va_S A s.heap H locs → ∀ ls : Array Slot, lv_has ls 4 [(0, .ref zr), (1, .int a_t), (2, .int a_c), (3, .int v3_1)] → W p l e (headSpec wsX2_enterTokens ({ frames := 1, cells := 0, slots := 0, locals := 21 } : Room)).room s m ([.ref zr, .int a_t, .int a_c] : List Value).toArray below meth c H locs 0 0 QQ (F0 m 2 ls []) := by
    intro n_1
    induction n_1 with
    | zero => intro v3_1 zr_in_1 hi0_1 hi1_1 hmu; exact absurd hmu (Nat.not_lt_zero _)
    | succ n_1 ih_1 =>
      intro v3_1 zr_in_1 hi0_1 hi1_1 hmu_1 hI_1 H locs hP hD hS ls hl
      refine lv_iload_n hx hb dX2_enterTokens_2 rfl (lv_at hl 3 rfl) ?_
      refine lv_sipush (v := (240 : Int32)) hx hb dX2_enterTokens_3 (by decide) ?_
      refine lv_icmp_ge (tgt := 47) hx hb dX2_enterTokens_6 (by decide) (fun c_2 => ?_) (fun c_2 => ?_)
      · have tc_2 : (240 : Int) ≤ v3_1.toInt := q_le c_2
        rw [hQQ]
        have hE : f_X2_enterTokens zr_token zr_in zr_size a_t a_c = zr_in_1 := (hI_1.trans (by rw [f_X2_enterTokens_L2, if_pos c_2]))
        exact W.vret hx hb hr (fun t ht hW => ⟨⟨(zr_in_1), rfl, by rw [hE], ⟨by rw [ht]; exact hP, hD⟩⟩, hS.F ht⟩) hS.2.2 dX2_enterTokens_47
      · have tc_2 : v3_1.toInt < (240 : Int) := q_nle c_2
        refine lv_aload_n hx hb dX2_enterTokens_9 rfl (lv_at hl 0 rfl) ?_
        refine lv_iload_n hx hb dX2_enterTokens_10 rfl (lv_at hl 3 rfl) ?_
        have hPc := hP.sub (ws' := [(zr, .inr (2, [.ref azr_sign, .ref azr_token, .ref azr_in, .ref azr_own, .ref azr_since, .int zr_size])), (azr_sign, .inl (cI, 240, .inl zr_sign)), (azr_token, .inl (cI, 240, .inl zr_token)), (azr_in, .inl (cI, 240, .inl zr_in_1)), (azr_own, .inl (cI, 240, .inl zr_own)), (azr_since, .inl (cI, 240, .inl zr_since))]) [0, 1, 2, 3, 4, 5] rfl
        have hDc := hD.sub (ws' := [(zr, .inr (2, [.ref azr_sign, .ref azr_token, .ref azr_in, .ref azr_own, .ref azr_since, .int zr_size])), (azr_sign, .inl (cI, 240, .inl zr_sign)), (azr_token, .inl (cI, 240, .inl zr_token)), (azr_in, .inl (cI, 240, .inl zr_in_1)), (azr_own, .inl (cI, 240, .inl zr_own)), (azr_since, .inl (cI, 240, .inl zr_since))]) [0, 1, 2, 3, 4, 5] (by decide) rfl
        refine va_calli (va_runV (As := [.int v3_1]) (rest := []) ⟨hx, hb, hml, hown, hts⟩ (c_X2_has l dC dI cI cJ H.size zr azr_sign azr_token azr_in azr_own azr_since zr_sign zr_token zr_in_1 zr_own zr_since zr_size v3_1) (cwV 1 hts gX2_enterTokens_X2_has rfl rfl rfl (by decide +kernel) ⟨Nat.le_of_ble_eq_true rfl, Nat.le_of_ble_eq_true rfl⟩) ⟨fun a U g mk q => ⟨q.1, PreW.call g mk a q.2⟩, va_recv hK hP (ci := 2) (q0 := 0) rfl rfl, fun U hU hW => ⟨rfl, PreW.mk2 hU hW hPc hK hN (hDc.weaken (fun _ _ _ _ => trivial))⟩⟩ rfl rfl hl.1 rfl (lv_room (Nat.le_of_ble_eq_true rfl)) dX2_enterTokens_11 ⟨Nat.le_of_ble_eq_true rfl, Nat.le_of_ble_eq_true rfl⟩) hS (fun q hq h => absurd hq (Nat.not_lt.mpr h)) (fun q h => hA q (Nat.le_trans hS.1 h)) (fun r_3 _u t H1 locs ht hvm hw hB hz1 hk1 hS => ?_)
        have hP := va_ro hP hk1
        generalize H1 = H at hP hS ⊢
        have hw : r_3 = f_X2_has zr_size v3_1 := hw
        subst hw
        obtain ⟨z_4, hz_4⟩ : ∃ z : Int32, z = f_X2_has zr_size v3_1 := ⟨_, rfl⟩
        refine lv_if_eq (tgt := 47) hx hb dX2_enterTokens_14 (by decide) (fun c_5 => ?_) (fun c_5 => ?_)
        · have tc_5 : z_4.toInt = (0 : Int) := by rw [hz_4]; exact q_eq c_5
          rw [hQQ]
          have hE : f_X2_enterTokens zr_token zr_in zr_size a_t a_c = zr_in_1 := (hI_1.trans (by rw [f_X2_enterTokens_L2, if_neg c_2, if_pos c_5]))
          exact W.vret hx hb hr (fun t ht hW => ⟨⟨(zr_in_1), rfl, by rw [hE], ⟨by rw [ht]; exact hP, hD⟩⟩, hS.F ht⟩) hS.2.2 dX2_enterTokens_47
        · have tc_5 : ¬ z_4.toInt = (0 : Int) := by rw [hz_4]; exact q_ne c_5
          obtain ⟨b_6, b_7, b_8⟩ := has_in c_5
          refine lv_aload_n hx hb dX2_enterTokens_17 rfl (lv_at hl 0 rfl) ?_
          refine va_get (D := (dC, dI)) (ci := 2) (v := .ref azr_token) (C := RX2) (T := TX2) (N := 6) hx hb hts in_X2_enterTokens_X2 hown hK hP 0 rfl rfl 1 (by decide) (hts _ m_X2_enterTokens_1) (fun _ h9 => h9) rfl dX2_enterTokens_18 ?_
          refine lv_iload_n hx hb dX2_enterTokens_21 rfl (lv_at hl 3 rfl) ?_
          refine va_iald (q0 := 2) (t0 := 0) (n := 240) (f := zr_token) hx hb hK hP rfl rfl (vp_in_iff.mpr ⟨by omega, by omega⟩) dX2_enterTokens_22 ?_
          have hPc := hP.sub (ws' := []) [] rfl
          have hDc := hD.sub (ws' := []) [] (by decide) rfl
          refine va_calli (va_runSN (As := [.int (zr_token (v3_1).toNatClampNeg)]) (rest := []) ⟨hx, hb, hml, hown, hts⟩ (c_X5_bit l dC dI cI cJ H.size (zr_token (v3_1).toNatClampNeg)) ⟨va_cnB 1 hts gX2_enterTokens_X5_bit_n35 rfl rfl rfl hN.2.1 (hts _ m_X2_enterTokens_10) (by decide +kernel) ⟨Nat.le_of_ble_eq_true rfl, Nat.le_of_ble_eq_true rfl⟩, (hts _ m_X2_enterTokens_9), trivial⟩ ⟨fun a U g mk q => ⟨q.1, PreW.call g mk a q.2⟩, fun U hU hW => ⟨rfl, PreW.mk2 hU hW hPc hK hN (hDc.weaken (fun _ _ _ _ => trivial))⟩⟩ rfl rfl hl.1 rfl (lv_room (Nat.le_of_ble_eq_true rfl)) dX2_enterTokens_23 ⟨Nat.le_of_ble_eq_true rfl, Nat.le_of_ble_eq_true rfl⟩) hS (fun q hq h => absurd hq (Nat.not_lt.mpr h)) (fun q h => hA q (Nat.le_trans hS.1 h)) (fun r_9 _u t H1 locs ht hvm hw hB hz1 hk1 hS => ?_)
          have hP := va_ro hP hk1
          generalize H1 = H at hP hS ⊢
          have hw : r_9 = f_X5_bit (zr_token (v3_1).toNatClampNeg) := hw
          subst hw
          obtain ⟨z_10, hz_10⟩ : ∃ z : Int32, z = f_X5_bit (zr_token (v3_1).toNatClampNeg) := ⟨_, rfl⟩
          refine lv_iload_n hx hb dX2_enterTokens_26 rfl (lv_at hl 1 rfl) ?_
          refine lv_iand hx hb dX2_enterTokens_27 ?_
          refine lv_if_eq (tgt := 41) hx hb dX2_enterTokens_28 (by decide) (fun c_11 => ?_) (fun c_11 => ?_)
          · refine lv_iinc (v := (v3_1 + (1 : Int32))) (lv' := [(3, .int (v3_1 + (1 : Int32))), (0, .ref zr), (1, .int a_t), (2, .int a_c)]) hx hb dX2_enterTokens_41 hl (k := 3) rfl rfl (by decide) rfl (fun ls hl => ?_)
            obtain ⟨z_12, hz_12⟩ : ∃ z : Int32, z = (v3_1 + (1 : Int32)) := ⟨_, rfl⟩
            try have gz_12 : z_12.toInt = v3_1.toInt + (1 : Int) := by rw [hz_12]; exact ti_add2 rfl rfl (by omega) (by omega)
            refine lv_goto (tgt := 2) hx hb dX2_enterTokens_44 (by decide) ?_
            exact ih_1 (v3_1 + (1 : Int32)) zr_in_1 (by rw [← hz_12]; omega) (by rw [← hz_12]; omega) (by rw [← hz_12]; omega) (hI_1.trans (by rw [f_X2_enterTokens_L2, if_neg c_2, if_neg c_5, if_pos c_11])) _ _ hP hD hS ls (lv_sub hl [1, 2, 3, 0] rfl)
          · refine lv_aload_n hx hb dX2_enterTokens_31 rfl (lv_at hl 0 rfl) ?_
            refine va_get (D := (dC, dI)) (ci := 2) (v := .ref azr_in) (C := RX2) (T := TX2) (N := 6) hx hb hts in_X2_enterTokens_X2 hown hK hP 0 rfl rfl 2 (by decide) (hts _ m_X2_enterTokens_2) (fun _ h9 => h9) rfl dX2_enterTokens_32 ?_
            refine lv_iload_n hx hb dX2_enterTokens_35 rfl (lv_at hl 3 rfl) ?_
            refine lv_dup2_11 hx hb dX2_enterTokens_36 rfl rfl ?_
            refine va_iald (q0 := 3) (t0 := 0) (n := 240) (f := zr_in_1) hx hb hK hP rfl rfl (vp_in_iff.mpr ⟨by omega, by omega⟩) dX2_enterTokens_37 ?_
            refine lv_iload_n hx hb dX2_enterTokens_38 rfl (lv_at hl 2 rfl) ?_
            refine lv_ior hx hb dX2_enterTokens_39 ?_
            refine va_iast (q0 := 3) (t0 := 0) (n := 240) (f := zr_in_1) hx hb hK hP hD hS rfl rfl (vp_in_iff.mpr ⟨by omega, by omega⟩) dX2_enterTokens_40 (fun H locs hP hD hS => ?_)
            have hP : va_P (dC, dI) vwCl [(zr, .inr (2, [.ref azr_sign, .ref azr_token, .ref azr_in, .ref azr_own, .ref azr_since, .int zr_size])), (azr_sign, .inl (cI, 240, .inl zr_sign)), (azr_token, .inl (cI, 240, .inl zr_token)), (azr_in, .inl (cI, 240, .inl (upd zr_in_1 (v3_1).toNatClampNeg ((zr_in_1 (v3_1).toNatClampNeg) ||| a_c)))), (azr_own, .inl (cI, 240, .inl zr_own)), (azr_since, .inl (cI, 240, .inl zr_since))] H := hP
            have hD : va_D A [(zr, .inr (2, [.ref azr_sign, .ref azr_token, .ref azr_in, .ref azr_own, .ref azr_since, .int zr_size])), (azr_sign, .inl (cI, 240, .inl zr_sign)), (azr_token, .inl (cI, 240, .inl zr_token)), (azr_in, .inl (cI, 240, .inl (upd zr_in_1 (v3_1).toNatClampNeg ((zr_in_1 (v3_1).toNatClampNeg) ||| a_c)))), (azr_own, .inl (cI, 240, .inl zr_own)), (azr_since, .inl (cI, 240, .inl zr_since))] := hD
            refine lv_iinc (v := (v3_1 + (1 : Int32))) (lv' := [(3, .int (v3_1 + (1 : Int32))), (0, .ref zr), (1, .int a_t), (2, .int a_c)]) hx hb dX2_enterTokens_41 hl (k := 3) rfl rfl (by decide) rfl (fun ls hl => ?_)
            obtain ⟨z_13, hz_13⟩ : ∃ z : Int32, z = (v3_1 + (1 : Int32)) := ⟨_, rfl⟩
            try have gz_13 : z_13.toInt = v3_1.toInt + (1 : Int) := by rw [hz_13]; exact ti_add2 rfl rfl (by omega) (by omega)
            refine lv_goto (tgt := 2) hx hb dX2_enterTokens_44 (by decide) ?_
            exact ih_1 (v3_1 + (1 : Int32)) (upd zr_in_1 (v3_1).toNatClampNeg ((zr_in_1 (v3_1).toNatClampNeg) ||| a_c)) (by rw [← hz_13]; omega) (by rw [← hz_13]; omega) (by rw [← hz_13]; omega) (hI_1.trans (by rw [f_X2_enterTokens_L2, if_neg c_2, if_neg c_5, if_neg c_11])) _ _ hP hD hS ls (lv_sub hl [1, 2, 3, 0] rfl)
  exact hloop_1 241 (0 : Int32) zr_in (by first | omega | exact (show 0 ≤ (0 : Int) by omega) | assumption | trivial) (by first | omega | exact (show (0 : Int) ≤ 240 by omega) | assumption | trivial) (by first | omega | exact (show (240 - (0 : Int)).toNat < 241 by omega)) (by rw [f_X2_enterTokens]) _ _ hP hD hS ls (lv_sub hl [1, 2, 3, 0] rfl)
theorem dX2_aroundTokens_0 : decode cX2_aroundTokens 0 = .ok (.iconst 0, 1) := by decide +kernel
theorem dX2_aroundTokens_1 : decode cX2_aroundTokens 1 = .ok (.istore_n 2, 1) := by decide +kernel
theorem dX2_aroundTokens_2 : decode cX2_aroundTokens 2 = .ok (.iconst 0, 1) := by decide +kernel
theorem dX2_aroundTokens_3 : decode cX2_aroundTokens 3 = .ok (.istore_n 3, 1) := by decide +kernel
theorem dX2_aroundTokens_4 : decode cX2_aroundTokens 4 = .ok (.iload_n 3, 1) := by decide +kernel
theorem dX2_aroundTokens_5 : decode cX2_aroundTokens 5 = .ok (.sipush 240, 3) := by decide +kernel
theorem dX2_aroundTokens_8 : decode cX2_aroundTokens 8 = .ok (.if_icmp .ge 40, 3) := by decide +kernel
theorem dX2_aroundTokens_48 : decode cX2_aroundTokens 48 = .ok (.iload_n 2, 1) := by decide +kernel
theorem dX2_aroundTokens_49 : decode cX2_aroundTokens 49 = .ok (.ireturn, 1) := by decide +kernel
theorem dX2_aroundTokens_11 : decode cX2_aroundTokens 11 = .ok (.aload_n 0, 1) := by decide +kernel
theorem dX2_aroundTokens_12 : decode cX2_aroundTokens 12 = .ok (.iload_n 3, 1) := by decide +kernel
theorem dX2_aroundTokens_13 : decode cX2_aroundTokens 13 = .ok (.invokevirtual 31, 3) := by decide +kernel
set_option maxRecDepth 20000 in
theorem ggX2_aroundTokens_X2_has : GoodIn wsX2_aroundTokens wsX2_has := goodIn_r _ [7, 8, 12, 13, 14, 15, 16, 17] (by decide +kernel) (by decide +kernel)
set_option maxRecDepth 20000 in
theorem gX2_aroundTokens_X2_has : GoodIn wsX2_aroundTokens (wsV RX2 31 RX2 yX2_has wsX2_has) := goodIn_app (goodIn_of _ (by decide +kernel)) ggX2_aroundTokens_X2_has
theorem dX2_aroundTokens_16 : decode cX2_aroundTokens 16 = .ok (.ifCond .eq 32, 3) := by decide +kernel
theorem dX2_aroundTokens_19 : decode cX2_aroundTokens 19 = .ok (.aload_n 0, 1) := by decide +kernel
theorem dX2_aroundTokens_20 : decode cX2_aroundTokens 20 = .ok (.getfield 15, 3) := by decide +kernel
theorem in_X2_aroundTokens_X2 : ∀ w ∈ wsX20, w ∈ wsX2_aroundTokens := by decide +kernel
theorem m_X2_aroundTokens_1 : (.fieldLink RX2 15 "RedlineDesk$Row" "token" "[I" : Cond) ∈ wsX2_aroundTokens := List.mem_of_getElem? (i := 1) (by decide +kernel)
theorem dX2_aroundTokens_23 : decode cX2_aroundTokens 23 = .ok (.iload_n 3, 1) := by decide +kernel
theorem dX2_aroundTokens_24 : decode cX2_aroundTokens 24 = .ok (.iaload, 1) := by decide +kernel
theorem dX2_aroundTokens_25 : decode cX2_aroundTokens 25 = .ok (.invokestatic 35, 3) := by decide +kernel
set_option maxRecDepth 20000 in
theorem ggX2_aroundTokens_X5_bit : GoodIn wsX2_aroundTokens wsX5_bit := goodIn_r _ [11] (by decide +kernel) (by decide +kernel)
set_option maxRecDepth 20000 in
theorem gX2_aroundTokens_X5_bit_n35 : GoodIn wsX2_aroundTokens (wsX5_bit) := ggX2_aroundTokens_X5_bit
theorem m_X2_aroundTokens_10 : (.initialized RX5 : Cond) ∈ wsX2_aroundTokens := List.mem_of_getElem? (i := 10) (by decide +kernel)
theorem m_X2_aroundTokens_9 : (.static yX5_bit : Cond) ∈ wsX2_aroundTokens := List.mem_of_getElem? (i := 9) (by decide +kernel)
theorem dX2_aroundTokens_28 : decode cX2_aroundTokens 28 = .ok (.iload_n 1, 1) := by decide +kernel
theorem dX2_aroundTokens_29 : decode cX2_aroundTokens 29 = .ok (.iand, 1) := by decide +kernel
theorem dX2_aroundTokens_30 : decode cX2_aroundTokens 30 = .ok (.ifCond .eq 12, 3) := by decide +kernel
theorem dX2_aroundTokens_42 : decode cX2_aroundTokens 42 = .ok (.iinc 3 1, 3) := by decide +kernel
theorem dX2_aroundTokens_45 : decode cX2_aroundTokens 45 = .ok (.goto (-41), 3) := by decide +kernel
theorem dX2_aroundTokens_33 : decode cX2_aroundTokens 33 = .ok (.iload_n 2, 1) := by decide +kernel
theorem dX2_aroundTokens_34 : decode cX2_aroundTokens 34 = .ok (.aload_n 0, 1) := by decide +kernel
theorem dX2_aroundTokens_35 : decode cX2_aroundTokens 35 = .ok (.getfield 18, 3) := by decide +kernel
theorem m_X2_aroundTokens_2 : (.fieldLink RX2 18 "RedlineDesk$Row" "in" "[I" : Cond) ∈ wsX2_aroundTokens := List.mem_of_getElem? (i := 2) (by decide +kernel)
theorem dX2_aroundTokens_38 : decode cX2_aroundTokens 38 = .ok (.iload_n 3, 1) := by decide +kernel
theorem dX2_aroundTokens_39 : decode cX2_aroundTokens 39 = .ok (.iaload, 1) := by decide +kernel
theorem dX2_aroundTokens_40 : decode cX2_aroundTokens 40 = .ok (.ior, 1) := by decide +kernel
theorem dX2_aroundTokens_41 : decode cX2_aroundTokens 41 = .ok (.istore_n 2, 1) := by decide +kernel
def f_X2_aroundTokens_L4 (zr_token : Nat → Int32) (zr_in : Nat → Int32) (zr_size : Int32) (a_t : Int32) : Nat → Int32 → Int32 → Int32
  | 0, _, _ => 0
  | n_1 + 1, v2_1, v3_1 => if (240 : Int32) ≤ v3_1 then v2_1 else if (f_X2_has zr_size v3_1) = (0 : Int32) then v2_1 else if ((f_X5_bit (zr_token (v3_1).toNatClampNeg)) &&& a_t) = (0 : Int32) then (f_X2_aroundTokens_L4 zr_token zr_in zr_size a_t n_1) v2_1 (v3_1 + (1 : Int32)) else (f_X2_aroundTokens_L4 zr_token zr_in zr_size a_t n_1) (v2_1 ||| (zr_in (v3_1).toNatClampNeg)) (v3_1 + (1 : Int32))
def f_X2_aroundTokens (zr_token : Nat → Int32) (zr_in : Nat → Int32) (zr_size : Int32) (a_t : Int32) : Int32 := f_X2_aroundTokens_L4 zr_token zr_in zr_size a_t 241 (0 : Int32) (0 : Int32)
set_option maxHeartbeats 4000000 in
set_option maxRecDepth 100000 in
theorem c_X2_aroundTokens (l : Launch) (dC : Nat → ClassId) (dI : Nat → Nat → Nat) (cI cJ : ClassId) (sz : Nat) (zr azr_sign azr_token azr_in azr_own azr_since : Nat) (zr_sign zr_token zr_in zr_own zr_since : Nat → Int32) (zr_size : Int32) (a_t : Int32) : Met l yX2_aroundTokens wsX2_aroundTokens ({ frames := 1, cells := 0, slots := 0, locals := 21 } : Room) (va_Pc [.ref zr, .int a_t] (PreW dC dI cI cJ sz [(zr, .inr (2, [.ref azr_sign, .ref azr_token, .ref azr_in, .ref azr_own, .ref azr_since, .int zr_size])), (azr_sign, .inl (cI, 240, .inl zr_sign)), (azr_token, .inl (cI, 240, .inl zr_token)), (azr_in, .inl (cI, 240, .inl zr_in)), (azr_own, .inl (cI, 240, .inl zr_own)), (azr_since, .inl (cI, 240, .inl zr_since))])) (va_Qi (fun (r : Int32) (_ : Unit) => r = f_X2_aroundTokens zr_token zr_in zr_size a_t) (fun (_ : Unit) _ => True) (fun q => sz ≤ q)) 0 0 (fun q => sz ≤ q) := by
  refine Met.ofW (cc := cX2_aroundTokens) (maxL := 4) (ret := (some .int)) (by decide) rfl ?_
  intro p e s m args below meth c s₁ B hml hv
  obtain ⟨rfl, hsz, hP, hK, hN, hD0⟩ := hv
  have hx := B.exec
  have hb := B.bytes
  have hr := B.returns
  have hts := atoms_spec (ws := wsX2_aroundTokens) B.pre
  have hown : s.vm.findClass RX2 = some m.cls := findClass_of_methodNamed B.named
  have hlocks := B.notSynchronized
  subst hsz
  have hD := hD0
  generalize hAe : (fun q => s.heap.size ≤ q) = A
  have hA : ∀ q : Nat, s.heap.size ≤ q → A q := fun q h => by rw [← hAe]; exact h
  have hS : va_S A s.heap s.heap [] := va_S.rf
  have hP : va_P (dC, dI) vwCl [(zr, .inr (2, [.ref azr_sign, .ref azr_token, .ref azr_in, .ref azr_own, .ref azr_since, .int zr_size])), (azr_sign, .inl (cI, 240, .inl zr_sign)), (azr_token, .inl (cI, 240, .inl zr_token)), (azr_in, .inl (cI, 240, .inl zr_in)), (azr_own, .inl (cI, 240, .inl zr_own)), (azr_since, .inl (cI, 240, .inl zr_since))] s.heap := hP
  have hl := lv_entry ([.ref zr, .int a_t]) (n := 4) (Nat.le_of_ble_eq_true rfl)
  rw [lg_entry_eq]
  generalize (lg_sl ([.ref zr, .int a_t]) ++ List.replicate (4 - (lg_sl ([.ref zr, .int a_t])).length) Slot.unset).toArray = ls at hl ⊢
  have hl : lv_has ls 4 [(0, .ref zr), (1, .int a_t)] := hl
  refine W_nm (fun QQ hQQ => ?_)
  refine lv_iconst (v := (0 : Int32)) hx hb dX2_aroundTokens_0 (by decide) ?_
  refine lv_istore_n (lv' := [(2, .int (0 : Int32)), (0, .ref zr), (1, .int a_t)]) hx hb dX2_aroundTokens_1 rfl hl (by decide) rfl (fun ls hl => ?_)
  refine lv_iconst (v := (0 : Int32)) hx hb dX2_aroundTokens_2 (by decide) ?_
  refine lv_istore_n (lv' := [(3, .int (0 : Int32)), (2, .int (0 : Int32)), (0, .ref zr), (1, .int a_t)]) hx hb dX2_aroundTokens_3 rfl hl (by decide) rfl (fun ls hl => ?_)
  have hloop_1 : ∀ (n_1 : Nat) (v2_1 : Int32) (v3_1 : Int32) , (0 ≤ v3_1.toInt) → (v3_1.toInt ≤ 240) → (240 - v3_1.toInt).toNat < n_1 → f_X2_aroundTokens zr_token zr_in zr_size a_t = f_X2_aroundTokens_L4 zr_token zr_in zr_size a_t n_1 v2_1 v3_1 → ∀ (H : Heap) (locs : List Loc), va_P (dC, dI) vwCl [(zr, .inr (2, [.ref azr_sign, .ref azr_token, .ref azr_in, .ref azr_own, .ref azr_since, .int zr_size])), (azr_sign, .inl (cI, 240, .inl zr_sign)), (azr_token, .inl (cI, 240, .inl zr_token)), (azr_in, .inl (cI, 240, .inl zr_in)), (azr_own, .inl (cI, 240, .inl zr_own)), (azr_since, .inl (cI, 240, .inl zr_since))] H → va_D (fun _ => True) [(zr, .inr (2, [.ref azr_sign, .ref azr_token, .ref azr_in, .ref azr_own, .ref azr_since, .int zr_size])), (azr_sign, .inl (cI, 240, .inl zr_sign)), (azr_token, .inl (cI, 240, .inl zr_token)), (azr_in, .inl (cI, 240, .inl zr_in)), (azr_own, .inl (cI, 240, .inl zr_own)), (azr_since, .inl (cI, 240, .inl zr_since))] → va_S A s.heap H locs → ∀ ls : Array Slot, lv_has ls 4 [(0, .ref zr), (1, .int a_t), (2, .int v2_1), (3, .int v3_1)] → W p l e (headSpec wsX2_aroundTokens ({ frames := 1, cells := 0, slots := 0, locals := 21 } : Room)).room s m ([.ref zr, .int a_t] : List Value).toArray below meth c H locs 0 0 QQ (F0 m 4 ls []) := by
    intro n_1
    induction n_1 with
    | zero => intro v2_1 v3_1 hi0_1 hi1_1 hmu; exact absurd hmu (Nat.not_lt_zero _)
    | succ n_1 ih_1 =>
      intro v2_1 v3_1 hi0_1 hi1_1 hmu_1 hI_1 H locs hP hD hS ls hl
      refine lv_iload_n hx hb dX2_aroundTokens_4 rfl (lv_at hl 3 rfl) ?_
      refine lv_sipush (v := (240 : Int32)) hx hb dX2_aroundTokens_5 (by decide) ?_
      refine lv_icmp_ge (tgt := 48) hx hb dX2_aroundTokens_8 (by decide) (fun c_2 => ?_) (fun c_2 => ?_)
      · have tc_2 : (240 : Int) ≤ v3_1.toInt := q_le c_2
        refine lv_iload_n hx hb dX2_aroundTokens_48 rfl (lv_at hl 2 rfl) ?_
        rw [hQQ]
        have hE : f_X2_aroundTokens zr_token zr_in zr_size a_t = v2_1 := (hI_1.trans (by rw [f_X2_aroundTokens_L4, if_pos c_2]))
        exact W.iret (v := v2_1) hx hb hr (fun t ht hW => ⟨⟨v2_1, (), rfl, by rw [hE], trivial⟩, hS.F ht⟩) hS.2.2 dX2_aroundTokens_49
      · have tc_2 : v3_1.toInt < (240 : Int) := q_nle c_2
        refine lv_aload_n hx hb dX2_aroundTokens_11 rfl (lv_at hl 0 rfl) ?_
        refine lv_iload_n hx hb dX2_aroundTokens_12 rfl (lv_at hl 3 rfl) ?_
        have hPc := hP.sub (ws' := [(zr, .inr (2, [.ref azr_sign, .ref azr_token, .ref azr_in, .ref azr_own, .ref azr_since, .int zr_size])), (azr_sign, .inl (cI, 240, .inl zr_sign)), (azr_token, .inl (cI, 240, .inl zr_token)), (azr_in, .inl (cI, 240, .inl zr_in)), (azr_own, .inl (cI, 240, .inl zr_own)), (azr_since, .inl (cI, 240, .inl zr_since))]) [0, 1, 2, 3, 4, 5] rfl
        have hDc := hD.sub (ws' := [(zr, .inr (2, [.ref azr_sign, .ref azr_token, .ref azr_in, .ref azr_own, .ref azr_since, .int zr_size])), (azr_sign, .inl (cI, 240, .inl zr_sign)), (azr_token, .inl (cI, 240, .inl zr_token)), (azr_in, .inl (cI, 240, .inl zr_in)), (azr_own, .inl (cI, 240, .inl zr_own)), (azr_since, .inl (cI, 240, .inl zr_since))]) [0, 1, 2, 3, 4, 5] (by decide) rfl
        refine va_calli (va_runV (As := [.int v3_1]) (rest := []) ⟨hx, hb, hml, hown, hts⟩ (c_X2_has l dC dI cI cJ H.size zr azr_sign azr_token azr_in azr_own azr_since zr_sign zr_token zr_in zr_own zr_since zr_size v3_1) (cwV 1 hts gX2_aroundTokens_X2_has rfl rfl rfl (by decide +kernel) ⟨Nat.le_of_ble_eq_true rfl, Nat.le_of_ble_eq_true rfl⟩) ⟨fun a U g mk q => ⟨q.1, PreW.call g mk a q.2⟩, va_recv hK hP (ci := 2) (q0 := 0) rfl rfl, fun U hU hW => ⟨rfl, PreW.mk2 hU hW hPc hK hN (hDc.weaken (fun _ _ _ _ => trivial))⟩⟩ rfl rfl hl.1 rfl (lv_room (Nat.le_of_ble_eq_true rfl)) dX2_aroundTokens_13 ⟨Nat.le_of_ble_eq_true rfl, Nat.le_of_ble_eq_true rfl⟩) hS (fun q hq h => absurd hq (Nat.not_lt.mpr h)) (fun q h => hA q (Nat.le_trans hS.1 h)) (fun r_3 _u t H1 locs ht hvm hw hB hz1 hk1 hS => ?_)
        have hP := va_ro hP hk1
        generalize H1 = H at hP hS ⊢
        have hw : r_3 = f_X2_has zr_size v3_1 := hw
        subst hw
        obtain ⟨z_4, hz_4⟩ : ∃ z : Int32, z = f_X2_has zr_size v3_1 := ⟨_, rfl⟩
        refine lv_if_eq (tgt := 48) hx hb dX2_aroundTokens_16 (by decide) (fun c_5 => ?_) (fun c_5 => ?_)
        · have tc_5 : z_4.toInt = (0 : Int) := by rw [hz_4]; exact q_eq c_5
          refine lv_iload_n hx hb dX2_aroundTokens_48 rfl (lv_at hl 2 rfl) ?_
          rw [hQQ]
          have hE : f_X2_aroundTokens zr_token zr_in zr_size a_t = v2_1 := (hI_1.trans (by rw [f_X2_aroundTokens_L4, if_neg c_2, if_pos c_5]))
          exact W.iret (v := v2_1) hx hb hr (fun t ht hW => ⟨⟨v2_1, (), rfl, by rw [hE], trivial⟩, hS.F ht⟩) hS.2.2 dX2_aroundTokens_49
        · have tc_5 : ¬ z_4.toInt = (0 : Int) := by rw [hz_4]; exact q_ne c_5
          obtain ⟨b_6, b_7, b_8⟩ := has_in c_5
          refine lv_aload_n hx hb dX2_aroundTokens_19 rfl (lv_at hl 0 rfl) ?_
          refine va_get (D := (dC, dI)) (ci := 2) (v := .ref azr_token) (C := RX2) (T := TX2) (N := 6) hx hb hts in_X2_aroundTokens_X2 hown hK hP 0 rfl rfl 1 (by decide) (hts _ m_X2_aroundTokens_1) (fun _ h9 => h9) rfl dX2_aroundTokens_20 ?_
          refine lv_iload_n hx hb dX2_aroundTokens_23 rfl (lv_at hl 3 rfl) ?_
          refine va_iald (q0 := 2) (t0 := 0) (n := 240) (f := zr_token) hx hb hK hP rfl rfl (vp_in_iff.mpr ⟨by omega, by omega⟩) dX2_aroundTokens_24 ?_
          have hPc := hP.sub (ws' := []) [] rfl
          have hDc := hD.sub (ws' := []) [] (by decide) rfl
          refine va_calli (va_runSN (As := [.int (zr_token (v3_1).toNatClampNeg)]) (rest := []) ⟨hx, hb, hml, hown, hts⟩ (c_X5_bit l dC dI cI cJ H.size (zr_token (v3_1).toNatClampNeg)) ⟨va_cnB 1 hts gX2_aroundTokens_X5_bit_n35 rfl rfl rfl hN.2.1 (hts _ m_X2_aroundTokens_10) (by decide +kernel) ⟨Nat.le_of_ble_eq_true rfl, Nat.le_of_ble_eq_true rfl⟩, (hts _ m_X2_aroundTokens_9), trivial⟩ ⟨fun a U g mk q => ⟨q.1, PreW.call g mk a q.2⟩, fun U hU hW => ⟨rfl, PreW.mk2 hU hW hPc hK hN (hDc.weaken (fun _ _ _ _ => trivial))⟩⟩ rfl rfl hl.1 rfl (lv_room (Nat.le_of_ble_eq_true rfl)) dX2_aroundTokens_25 ⟨Nat.le_of_ble_eq_true rfl, Nat.le_of_ble_eq_true rfl⟩) hS (fun q hq h => absurd hq (Nat.not_lt.mpr h)) (fun q h => hA q (Nat.le_trans hS.1 h)) (fun r_9 _u t H1 locs ht hvm hw hB hz1 hk1 hS => ?_)
          have hP := va_ro hP hk1
          generalize H1 = H at hP hS ⊢
          have hw : r_9 = f_X5_bit (zr_token (v3_1).toNatClampNeg) := hw
          subst hw
          obtain ⟨z_10, hz_10⟩ : ∃ z : Int32, z = f_X5_bit (zr_token (v3_1).toNatClampNeg) := ⟨_, rfl⟩
          refine lv_iload_n hx hb dX2_aroundTokens_28 rfl (lv_at hl 1 rfl) ?_
          refine lv_iand hx hb dX2_aroundTokens_29 ?_
          refine lv_if_eq (tgt := 42) hx hb dX2_aroundTokens_30 (by decide) (fun c_11 => ?_) (fun c_11 => ?_)
          · refine lv_iinc (v := (v3_1 + (1 : Int32))) (lv' := [(3, .int (v3_1 + (1 : Int32))), (0, .ref zr), (1, .int a_t), (2, .int v2_1)]) hx hb dX2_aroundTokens_42 hl (k := 3) rfl rfl (by decide) rfl (fun ls hl => ?_)
            obtain ⟨z_12, hz_12⟩ : ∃ z : Int32, z = (v3_1 + (1 : Int32)) := ⟨_, rfl⟩
            try have gz_12 : z_12.toInt = v3_1.toInt + (1 : Int) := by rw [hz_12]; exact ti_add2 rfl rfl (by omega) (by omega)
            refine lv_goto (tgt := 4) hx hb dX2_aroundTokens_45 (by decide) ?_
            exact ih_1 v2_1 (v3_1 + (1 : Int32)) (by rw [← hz_12]; omega) (by rw [← hz_12]; omega) (by rw [← hz_12]; omega) (hI_1.trans (by rw [f_X2_aroundTokens_L4, if_neg c_2, if_neg c_5, if_pos c_11])) _ _ hP hD hS ls (lv_sub hl [1, 2, 3, 0] rfl)
          · refine lv_iload_n hx hb dX2_aroundTokens_33 rfl (lv_at hl 2 rfl) ?_
            refine lv_aload_n hx hb dX2_aroundTokens_34 rfl (lv_at hl 0 rfl) ?_
            refine va_get (D := (dC, dI)) (ci := 2) (v := .ref azr_in) (C := RX2) (T := TX2) (N := 6) hx hb hts in_X2_aroundTokens_X2 hown hK hP 0 rfl rfl 2 (by decide) (hts _ m_X2_aroundTokens_2) (fun _ h9 => h9) rfl dX2_aroundTokens_35 ?_
            refine lv_iload_n hx hb dX2_aroundTokens_38 rfl (lv_at hl 3 rfl) ?_
            refine va_iald (q0 := 3) (t0 := 0) (n := 240) (f := zr_in) hx hb hK hP rfl rfl (vp_in_iff.mpr ⟨by omega, by omega⟩) dX2_aroundTokens_39 ?_
            refine lv_ior hx hb dX2_aroundTokens_40 ?_
            refine lv_istore_n (lv' := [(2, .int (v2_1 ||| (zr_in (v3_1).toNatClampNeg))), (0, .ref zr), (1, .int a_t), (3, .int v3_1)]) hx hb dX2_aroundTokens_41 rfl hl (by decide) rfl (fun ls hl => ?_)
            refine lv_iinc (v := (v3_1 + (1 : Int32))) (lv' := [(3, .int (v3_1 + (1 : Int32))), (2, .int (v2_1 ||| (zr_in (v3_1).toNatClampNeg))), (0, .ref zr), (1, .int a_t)]) hx hb dX2_aroundTokens_42 hl (k := 3) rfl rfl (by decide) rfl (fun ls hl => ?_)
            obtain ⟨z_13, hz_13⟩ : ∃ z : Int32, z = (v3_1 + (1 : Int32)) := ⟨_, rfl⟩
            try have gz_13 : z_13.toInt = v3_1.toInt + (1 : Int) := by rw [hz_13]; exact ti_add2 rfl rfl (by omega) (by omega)
            refine lv_goto (tgt := 4) hx hb dX2_aroundTokens_45 (by decide) ?_
            exact ih_1 (v2_1 ||| (zr_in (v3_1).toNatClampNeg)) (v3_1 + (1 : Int32)) (by rw [← hz_13]; omega) (by rw [← hz_13]; omega) (by rw [← hz_13]; omega) (hI_1.trans (by rw [f_X2_aroundTokens_L4, if_neg c_2, if_neg c_5, if_neg c_11])) _ _ hP hD hS ls (lv_sub hl [2, 3, 1, 0] rfl)
  exact hloop_1 241 (0 : Int32) (0 : Int32) (by first | omega | exact (show 0 ≤ (0 : Int) by omega) | assumption | trivial) (by first | omega | exact (show (0 : Int) ≤ 240 by omega) | assumption | trivial) (by first | omega | exact (show (240 - (0 : Int)).toNat < 241 by omega)) (by rw [f_X2_aroundTokens]) _ _ hP hD hS ls (lv_sub hl [2, 3, 1, 0] rfl)
theorem dX2_anyLetterIn_0 : decode cX2_anyLetterIn 0 = .ok (.iconst 0, 1) := by decide +kernel
theorem dX2_anyLetterIn_1 : decode cX2_anyLetterIn 1 = .ok (.istore_n 2, 1) := by decide +kernel
theorem dX2_anyLetterIn_2 : decode cX2_anyLetterIn 2 = .ok (.iload_n 2, 1) := by decide +kernel
theorem dX2_anyLetterIn_3 : decode cX2_anyLetterIn 3 = .ok (.sipush 240, 3) := by decide +kernel
theorem dX2_anyLetterIn_6 : decode cX2_anyLetterIn 6 = .ok (.if_icmp .ge 40, 3) := by decide +kernel
theorem dX2_anyLetterIn_46 : decode cX2_anyLetterIn 46 = .ok (.iconst 0, 1) := by decide +kernel
theorem dX2_anyLetterIn_47 : decode cX2_anyLetterIn 47 = .ok (.ireturn, 1) := by decide +kernel
theorem dX2_anyLetterIn_9 : decode cX2_anyLetterIn 9 = .ok (.aload_n 0, 1) := by decide +kernel
theorem dX2_anyLetterIn_10 : decode cX2_anyLetterIn 10 = .ok (.iload_n 2, 1) := by decide +kernel
theorem dX2_anyLetterIn_11 : decode cX2_anyLetterIn 11 = .ok (.invokevirtual 31, 3) := by decide +kernel
set_option maxRecDepth 20000 in
theorem ggX2_anyLetterIn_X2_has : GoodIn wsX2_anyLetterIn wsX2_has := goodIn_r _ [7, 8, 9, 10, 11, 12, 13, 14] (by decide +kernel) (by decide +kernel)
set_option maxRecDepth 20000 in
theorem gX2_anyLetterIn_X2_has : GoodIn wsX2_anyLetterIn (wsV RX2 31 RX2 yX2_has wsX2_has) := goodIn_app (goodIn_of _ (by decide +kernel)) ggX2_anyLetterIn_X2_has
theorem dX2_anyLetterIn_14 : decode cX2_anyLetterIn 14 = .ok (.ifCond .eq 32, 3) := by decide +kernel
theorem dX2_anyLetterIn_17 : decode cX2_anyLetterIn 17 = .ok (.aload_n 0, 1) := by decide +kernel
theorem dX2_anyLetterIn_18 : decode cX2_anyLetterIn 18 = .ok (.getfield 15, 3) := by decide +kernel
theorem in_X2_anyLetterIn_X2 : ∀ w ∈ wsX20, w ∈ wsX2_anyLetterIn := by decide +kernel
theorem m_X2_anyLetterIn_1 : (.fieldLink RX2 15 "RedlineDesk$Row" "token" "[I" : Cond) ∈ wsX2_anyLetterIn := List.mem_of_getElem? (i := 1) (by decide +kernel)
theorem dX2_anyLetterIn_21 : decode cX2_anyLetterIn 21 = .ok (.iload_n 2, 1) := by decide +kernel
theorem dX2_anyLetterIn_22 : decode cX2_anyLetterIn 22 = .ok (.iaload, 1) := by decide +kernel
theorem dX2_anyLetterIn_23 : decode cX2_anyLetterIn 23 = .ok (.ifCond .ne 17, 3) := by decide +kernel
theorem dX2_anyLetterIn_40 : decode cX2_anyLetterIn 40 = .ok (.iinc 2 1, 3) := by decide +kernel
theorem dX2_anyLetterIn_43 : decode cX2_anyLetterIn 43 = .ok (.goto (-41), 3) := by decide +kernel
theorem dX2_anyLetterIn_26 : decode cX2_anyLetterIn 26 = .ok (.aload_n 0, 1) := by decide +kernel
theorem dX2_anyLetterIn_27 : decode cX2_anyLetterIn 27 = .ok (.getfield 18, 3) := by decide +kernel
theorem m_X2_anyLetterIn_2 : (.fieldLink RX2 18 "RedlineDesk$Row" "in" "[I" : Cond) ∈ wsX2_anyLetterIn := List.mem_of_getElem? (i := 2) (by decide +kernel)
theorem dX2_anyLetterIn_30 : decode cX2_anyLetterIn 30 = .ok (.iload_n 2, 1) := by decide +kernel
theorem dX2_anyLetterIn_31 : decode cX2_anyLetterIn 31 = .ok (.iaload, 1) := by decide +kernel
theorem dX2_anyLetterIn_32 : decode cX2_anyLetterIn 32 = .ok (.iload_n 1, 1) := by decide +kernel
theorem dX2_anyLetterIn_33 : decode cX2_anyLetterIn 33 = .ok (.iand, 1) := by decide +kernel
theorem dX2_anyLetterIn_34 : decode cX2_anyLetterIn 34 = .ok (.iload_n 1, 1) := by decide +kernel
theorem dX2_anyLetterIn_35 : decode cX2_anyLetterIn 35 = .ok (.if_icmp .ne 5, 3) := by decide +kernel
theorem dX2_anyLetterIn_38 : decode cX2_anyLetterIn 38 = .ok (.iconst 1, 1) := by decide +kernel
theorem dX2_anyLetterIn_39 : decode cX2_anyLetterIn 39 = .ok (.ireturn, 1) := by decide +kernel
def f_X2_anyLetterIn_L2 (zr_token : Nat → Int32) (zr_in : Nat → Int32) (zr_size : Int32) (a_c : Int32) : Nat → Int32 → Int32
  | 0, _ => 0
  | n_1 + 1, v2_1 => if (240 : Int32) ≤ v2_1 then (0 : Int32) else if (f_X2_has zr_size v2_1) = (0 : Int32) then (0 : Int32) else if (zr_token (v2_1).toNatClampNeg) = (0 : Int32) then if ((zr_in (v2_1).toNatClampNeg) &&& a_c) = a_c then (1 : Int32) else (f_X2_anyLetterIn_L2 zr_token zr_in zr_size a_c n_1) (v2_1 + (1 : Int32)) else (f_X2_anyLetterIn_L2 zr_token zr_in zr_size a_c n_1) (v2_1 + (1 : Int32))
def f_X2_anyLetterIn (zr_token : Nat → Int32) (zr_in : Nat → Int32) (zr_size : Int32) (a_c : Int32) : Int32 := f_X2_anyLetterIn_L2 zr_token zr_in zr_size a_c 241 (0 : Int32)
set_option maxHeartbeats 4000000 in
set_option maxRecDepth 100000 in
theorem c_X2_anyLetterIn (l : Launch) (dC : Nat → ClassId) (dI : Nat → Nat → Nat) (cI cJ : ClassId) (sz : Nat) (zr azr_sign azr_token azr_in azr_own azr_since : Nat) (zr_sign zr_token zr_in zr_own zr_since : Nat → Int32) (zr_size : Int32) (a_c : Int32) : Met l yX2_anyLetterIn wsX2_anyLetterIn ({ frames := 1, cells := 0, slots := 0, locals := 21 } : Room) (va_Pc [.ref zr, .int a_c] (PreW dC dI cI cJ sz [(zr, .inr (2, [.ref azr_sign, .ref azr_token, .ref azr_in, .ref azr_own, .ref azr_since, .int zr_size])), (azr_sign, .inl (cI, 240, .inl zr_sign)), (azr_token, .inl (cI, 240, .inl zr_token)), (azr_in, .inl (cI, 240, .inl zr_in)), (azr_own, .inl (cI, 240, .inl zr_own)), (azr_since, .inl (cI, 240, .inl zr_since))])) (va_Qi (fun (r : Int32) (_ : Unit) => r = f_X2_anyLetterIn zr_token zr_in zr_size a_c) (fun (_ : Unit) _ => True) (fun q => sz ≤ q)) 0 0 (fun q => sz ≤ q) := by
  refine Met.ofW (cc := cX2_anyLetterIn) (maxL := 3) (ret := (some .boolean)) (by decide) rfl ?_
  intro p e s m args below meth c s₁ B hml hv
  obtain ⟨rfl, hsz, hP, hK, hN, hD0⟩ := hv
  have hx := B.exec
  have hb := B.bytes
  have hr := B.returns
  have hts := atoms_spec (ws := wsX2_anyLetterIn) B.pre
  have hown : s.vm.findClass RX2 = some m.cls := findClass_of_methodNamed B.named
  have hlocks := B.notSynchronized
  subst hsz
  have hD := hD0
  generalize hAe : (fun q => s.heap.size ≤ q) = A
  have hA : ∀ q : Nat, s.heap.size ≤ q → A q := fun q h => by rw [← hAe]; exact h
  have hS : va_S A s.heap s.heap [] := va_S.rf
  have hP : va_P (dC, dI) vwCl [(zr, .inr (2, [.ref azr_sign, .ref azr_token, .ref azr_in, .ref azr_own, .ref azr_since, .int zr_size])), (azr_sign, .inl (cI, 240, .inl zr_sign)), (azr_token, .inl (cI, 240, .inl zr_token)), (azr_in, .inl (cI, 240, .inl zr_in)), (azr_own, .inl (cI, 240, .inl zr_own)), (azr_since, .inl (cI, 240, .inl zr_since))] s.heap := hP
  have hl := lv_entry ([.ref zr, .int a_c]) (n := 3) (Nat.le_of_ble_eq_true rfl)
  rw [lg_entry_eq]
  generalize (lg_sl ([.ref zr, .int a_c]) ++ List.replicate (3 - (lg_sl ([.ref zr, .int a_c])).length) Slot.unset).toArray = ls at hl ⊢
  have hl : lv_has ls 3 [(0, .ref zr), (1, .int a_c)] := hl
  refine W_nm (fun QQ hQQ => ?_)
  refine lv_iconst (v := (0 : Int32)) hx hb dX2_anyLetterIn_0 (by decide) ?_
  refine lv_istore_n (lv' := [(2, .int (0 : Int32)), (0, .ref zr), (1, .int a_c)]) hx hb dX2_anyLetterIn_1 rfl hl (by decide) rfl (fun ls hl => ?_)
  have hloop_1 : ∀ (n_1 : Nat) (v2_1 : Int32) , (0 ≤ v2_1.toInt) → (v2_1.toInt ≤ 240) → (240 - v2_1.toInt).toNat < n_1 → f_X2_anyLetterIn zr_token zr_in zr_size a_c = f_X2_anyLetterIn_L2 zr_token zr_in zr_size a_c n_1 v2_1 → ∀ (H : Heap) (locs : List Loc), va_P (dC, dI) vwCl [(zr, .inr (2, [.ref azr_sign, .ref azr_token, .ref azr_in, .ref azr_own, .ref azr_since, .int zr_size])), (azr_sign, .inl (cI, 240, .inl zr_sign)), (azr_token, .inl (cI, 240, .inl zr_token)), (azr_in, .inl (cI, 240, .inl zr_in)), (azr_own, .inl (cI, 240, .inl zr_own)), (azr_since, .inl (cI, 240, .inl zr_since))] H → va_D (fun _ => True) [(zr, .inr (2, [.ref azr_sign, .ref azr_token, .ref azr_in, .ref azr_own, .ref azr_since, .int zr_size])), (azr_sign, .inl (cI, 240, .inl zr_sign)), (azr_token, .inl (cI, 240, .inl zr_token)), (azr_in, .inl (cI, 240, .inl zr_in)), (azr_own, .inl (cI, 240, .inl zr_own)), (azr_since, .inl (cI, 240, .inl zr_since))] → va_S A s.heap H locs → ∀ ls : Array Slot, lv_has ls 3 [(0, .ref zr), (1, .int a_c), (2, .int v2_1)] → W p l e (headSpec wsX2_anyLetterIn ({ frames := 1, cells := 0, slots := 0, locals := 21 } : Room)).room s m ([.ref zr, .int a_c] : List Value).toArray below meth c H locs 0 0 QQ (F0 m 2 ls []) := by
    intro n_1
    induction n_1 with
    | zero => intro v2_1 hi0_1 hi1_1 hmu; exact absurd hmu (Nat.not_lt_zero _)
    | succ n_1 ih_1 =>
      intro v2_1 hi0_1 hi1_1 hmu_1 hI_1 H locs hP hD hS ls hl
      refine lv_iload_n hx hb dX2_anyLetterIn_2 rfl (lv_at hl 2 rfl) ?_
      refine lv_sipush (v := (240 : Int32)) hx hb dX2_anyLetterIn_3 (by decide) ?_
      refine lv_icmp_ge (tgt := 46) hx hb dX2_anyLetterIn_6 (by decide) (fun c_2 => ?_) (fun c_2 => ?_)
      · have tc_2 : (240 : Int) ≤ v2_1.toInt := q_le c_2
        refine lv_iconst (v := (0 : Int32)) hx hb dX2_anyLetterIn_46 (by decide) ?_
        rw [hQQ]
        have hE : f_X2_anyLetterIn zr_token zr_in zr_size a_c = (0 : Int32) := (hI_1.trans (by rw [f_X2_anyLetterIn_L2, if_pos c_2]))
        exact W.zret (v := (0 : Int32)) hx hb hr (by decide) (fun t ht hW => ⟨⟨(0 : Int32), (), rfl, by rw [hE], trivial⟩, hS.F ht⟩) hS.2.2 dX2_anyLetterIn_47
      · have tc_2 : v2_1.toInt < (240 : Int) := q_nle c_2
        refine lv_aload_n hx hb dX2_anyLetterIn_9 rfl (lv_at hl 0 rfl) ?_
        refine lv_iload_n hx hb dX2_anyLetterIn_10 rfl (lv_at hl 2 rfl) ?_
        have hPc := hP.sub (ws' := [(zr, .inr (2, [.ref azr_sign, .ref azr_token, .ref azr_in, .ref azr_own, .ref azr_since, .int zr_size])), (azr_sign, .inl (cI, 240, .inl zr_sign)), (azr_token, .inl (cI, 240, .inl zr_token)), (azr_in, .inl (cI, 240, .inl zr_in)), (azr_own, .inl (cI, 240, .inl zr_own)), (azr_since, .inl (cI, 240, .inl zr_since))]) [0, 1, 2, 3, 4, 5] rfl
        have hDc := hD.sub (ws' := [(zr, .inr (2, [.ref azr_sign, .ref azr_token, .ref azr_in, .ref azr_own, .ref azr_since, .int zr_size])), (azr_sign, .inl (cI, 240, .inl zr_sign)), (azr_token, .inl (cI, 240, .inl zr_token)), (azr_in, .inl (cI, 240, .inl zr_in)), (azr_own, .inl (cI, 240, .inl zr_own)), (azr_since, .inl (cI, 240, .inl zr_since))]) [0, 1, 2, 3, 4, 5] (by decide) rfl
        refine va_calli (va_runV (As := [.int v2_1]) (rest := []) ⟨hx, hb, hml, hown, hts⟩ (c_X2_has l dC dI cI cJ H.size zr azr_sign azr_token azr_in azr_own azr_since zr_sign zr_token zr_in zr_own zr_since zr_size v2_1) (cwV 1 hts gX2_anyLetterIn_X2_has rfl rfl rfl (by decide +kernel) ⟨Nat.le_of_ble_eq_true rfl, Nat.le_of_ble_eq_true rfl⟩) ⟨fun a U g mk q => ⟨q.1, PreW.call g mk a q.2⟩, va_recv hK hP (ci := 2) (q0 := 0) rfl rfl, fun U hU hW => ⟨rfl, PreW.mk2 hU hW hPc hK hN (hDc.weaken (fun _ _ _ _ => trivial))⟩⟩ rfl rfl hl.1 rfl (lv_room (Nat.le_of_ble_eq_true rfl)) dX2_anyLetterIn_11 ⟨Nat.le_of_ble_eq_true rfl, Nat.le_of_ble_eq_true rfl⟩) hS (fun q hq h => absurd hq (Nat.not_lt.mpr h)) (fun q h => hA q (Nat.le_trans hS.1 h)) (fun r_3 _u t H1 locs ht hvm hw hB hz1 hk1 hS => ?_)
        have hP := va_ro hP hk1
        generalize H1 = H at hP hS ⊢
        have hw : r_3 = f_X2_has zr_size v2_1 := hw
        subst hw
        obtain ⟨z_4, hz_4⟩ : ∃ z : Int32, z = f_X2_has zr_size v2_1 := ⟨_, rfl⟩
        refine lv_if_eq (tgt := 46) hx hb dX2_anyLetterIn_14 (by decide) (fun c_5 => ?_) (fun c_5 => ?_)
        · have tc_5 : z_4.toInt = (0 : Int) := by rw [hz_4]; exact q_eq c_5
          refine lv_iconst (v := (0 : Int32)) hx hb dX2_anyLetterIn_46 (by decide) ?_
          rw [hQQ]
          have hE : f_X2_anyLetterIn zr_token zr_in zr_size a_c = (0 : Int32) := (hI_1.trans (by rw [f_X2_anyLetterIn_L2, if_neg c_2, if_pos c_5]))
          exact W.zret (v := (0 : Int32)) hx hb hr (by decide) (fun t ht hW => ⟨⟨(0 : Int32), (), rfl, by rw [hE], trivial⟩, hS.F ht⟩) hS.2.2 dX2_anyLetterIn_47
        · have tc_5 : ¬ z_4.toInt = (0 : Int) := by rw [hz_4]; exact q_ne c_5
          obtain ⟨b_6, b_7, b_8⟩ := has_in c_5
          refine lv_aload_n hx hb dX2_anyLetterIn_17 rfl (lv_at hl 0 rfl) ?_
          refine va_get (D := (dC, dI)) (ci := 2) (v := .ref azr_token) (C := RX2) (T := TX2) (N := 6) hx hb hts in_X2_anyLetterIn_X2 hown hK hP 0 rfl rfl 1 (by decide) (hts _ m_X2_anyLetterIn_1) (fun _ h9 => h9) rfl dX2_anyLetterIn_18 ?_
          refine lv_iload_n hx hb dX2_anyLetterIn_21 rfl (lv_at hl 2 rfl) ?_
          refine va_iald (q0 := 2) (t0 := 0) (n := 240) (f := zr_token) hx hb hK hP rfl rfl (vp_in_iff.mpr ⟨by omega, by omega⟩) dX2_anyLetterIn_22 ?_
          refine lv_if_ne (tgt := 40) hx hb dX2_anyLetterIn_23 (by decide) (fun c_9 => ?_) (fun c_9 => ?_)
          · refine lv_iinc (v := (v2_1 + (1 : Int32))) (lv' := [(2, .int (v2_1 + (1 : Int32))), (0, .ref zr), (1, .int a_c)]) hx hb dX2_anyLetterIn_40 hl (k := 2) rfl rfl (by decide) rfl (fun ls hl => ?_)
            obtain ⟨z_10, hz_10⟩ : ∃ z : Int32, z = (v2_1 + (1 : Int32)) := ⟨_, rfl⟩
            try have gz_10 : z_10.toInt = v2_1.toInt + (1 : Int) := by rw [hz_10]; exact ti_add2 rfl rfl (by omega) (by omega)
            refine lv_goto (tgt := 2) hx hb dX2_anyLetterIn_43 (by decide) ?_
            exact ih_1 (v2_1 + (1 : Int32)) (by rw [← hz_10]; omega) (by rw [← hz_10]; omega) (by rw [← hz_10]; omega) (hI_1.trans (by rw [f_X2_anyLetterIn_L2, if_neg c_2, if_neg c_5, if_neg c_9])) _ _ hP hD hS ls (lv_sub hl [1, 2, 0] rfl)
          · refine lv_aload_n hx hb dX2_anyLetterIn_26 rfl (lv_at hl 0 rfl) ?_
            refine va_get (D := (dC, dI)) (ci := 2) (v := .ref azr_in) (C := RX2) (T := TX2) (N := 6) hx hb hts in_X2_anyLetterIn_X2 hown hK hP 0 rfl rfl 2 (by decide) (hts _ m_X2_anyLetterIn_2) (fun _ h9 => h9) rfl dX2_anyLetterIn_27 ?_
            refine lv_iload_n hx hb dX2_anyLetterIn_30 rfl (lv_at hl 2 rfl) ?_
            refine va_iald (q0 := 3) (t0 := 0) (n := 240) (f := zr_in) hx hb hK hP rfl rfl (vp_in_iff.mpr ⟨by omega, by omega⟩) dX2_anyLetterIn_31 ?_
            refine lv_iload_n hx hb dX2_anyLetterIn_32 rfl (lv_at hl 1 rfl) ?_
            refine lv_iand hx hb dX2_anyLetterIn_33 ?_
            refine lv_iload_n hx hb dX2_anyLetterIn_34 rfl (lv_at hl 1 rfl) ?_
            refine lv_icmp_ne (tgt := 40) hx hb dX2_anyLetterIn_35 (by decide) (fun c_11 => ?_) (fun c_11 => ?_)
            · refine lv_iinc (v := (v2_1 + (1 : Int32))) (lv' := [(2, .int (v2_1 + (1 : Int32))), (0, .ref zr), (1, .int a_c)]) hx hb dX2_anyLetterIn_40 hl (k := 2) rfl rfl (by decide) rfl (fun ls hl => ?_)
              obtain ⟨z_12, hz_12⟩ : ∃ z : Int32, z = (v2_1 + (1 : Int32)) := ⟨_, rfl⟩
              try have gz_12 : z_12.toInt = v2_1.toInt + (1 : Int) := by rw [hz_12]; exact ti_add2 rfl rfl (by omega) (by omega)
              refine lv_goto (tgt := 2) hx hb dX2_anyLetterIn_43 (by decide) ?_
              exact ih_1 (v2_1 + (1 : Int32)) (by rw [← hz_12]; omega) (by rw [← hz_12]; omega) (by rw [← hz_12]; omega) (hI_1.trans (by rw [f_X2_anyLetterIn_L2, if_neg c_2, if_neg c_5, if_pos c_9, if_neg c_11])) _ _ hP hD hS ls (lv_sub hl [1, 2, 0] rfl)
            · refine lv_iconst (v := (1 : Int32)) hx hb dX2_anyLetterIn_38 (by decide) ?_
              rw [hQQ]
              have hE : f_X2_anyLetterIn zr_token zr_in zr_size a_c = (1 : Int32) := (hI_1.trans (by rw [f_X2_anyLetterIn_L2, if_neg c_2, if_neg c_5, if_pos c_9, if_pos c_11]))
              exact W.zret (v := (1 : Int32)) hx hb hr (by decide) (fun t ht hW => ⟨⟨(1 : Int32), (), rfl, by rw [hE], trivial⟩, hS.F ht⟩) hS.2.2 dX2_anyLetterIn_39
  exact hloop_1 241 (0 : Int32) (by first | omega | exact (show 0 ≤ (0 : Int) by omega) | assumption | trivial) (by first | omega | exact (show (0 : Int) ≤ 240 by omega) | assumption | trivial) (by first | omega | exact (show (240 - (0 : Int)).toNat < 241 by omega)) (by rw [f_X2_anyLetterIn]) _ _ hP hD hS ls (lv_sub hl [1, 2, 0] rfl)
