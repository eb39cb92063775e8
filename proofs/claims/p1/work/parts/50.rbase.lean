def PreM (dC : Nat → ClassId) (dI : Nat → Nat → Nat) (cI cJ cZ : ClassId) (sz : Nat) (ws : va_W) (U : State) : Prop :=
  U.heap.size = sz ∧ va_P (dC, dI) vwCl ws U.heap ∧ va_K (dC, dI) vwCl [(cI, .int), (cJ, .long), (cZ, .boolean)] U ∧ NW U ∧ va_D (fun _ => True) ws
theorem PreM.call {dC : Nat → ClassId} {dI : Nat → Nat → Nat} {cI cJ cZ : ClassId} {sz : Nat} {ws : va_W} {U : State} (g : JFrame) (mk : MethodId) (a : Array Value) (h : PreM dC dI cI cJ cZ sz ws U) : PreM dC dI cI cJ cZ sz ws (U.calling g mk a) :=
  ⟨h.1, h.2.1, va_K.moved (u := U) (U := U.calling g mk a) (Vm.Alike.refl U.vm) h.2.2.1, NW.same (u := U) (U := U.calling g mk a) rfl h.2.2.2.1, h.2.2.2.2⟩
theorem PreM.mk2 {dC : Nat → ClassId} {dI : Nat → Nat → Nat} {cI cJ cZ : ClassId} {ws : va_W} {s U : State} {H : Heap} (hU : U.heap = H) (hW : s.WarmedH U.vm) (hP : va_P (dC, dI) vwCl ws H) (hK : va_K (dC, dI) vwCl [(cI, .int), (cJ, .long), (cZ, .boolean)] s) (hN : NW s) (hD : va_D (fun _ => True) ws) : PreM dC dI cI cJ cZ H.size ws U :=
  ⟨by rw [hU], by rw [hU]; exact hP, va_K.moved hW.alike hK, NW.warm hW hN, hD⟩
theorem dX6_in_0 : decode cX6_in 0 = .ok (.iload_n 0, 1) := by decide +kernel
theorem dX6_in_1 : decode cX6_in 1 = .ok (.iload_n 1, 1) := by decide +kernel
theorem dX6_in_2 : decode cX6_in 2 = .ok (.if_icmp .lt 12, 3) := by decide +kernel
theorem dX6_in_14 : decode cX6_in 14 = .ok (.iconst 0, 1) := by decide +kernel
theorem dX6_in_15 : decode cX6_in 15 = .ok (.ireturn, 1) := by decide +kernel
theorem dX6_in_5 : decode cX6_in 5 = .ok (.iload_n 0, 1) := by decide +kernel
theorem dX6_in_6 : decode cX6_in 6 = .ok (.iload_n 2, 1) := by decide +kernel
theorem dX6_in_7 : decode cX6_in 7 = .ok (.if_icmp .gt 7, 3) := by decide +kernel
theorem dX6_in_10 : decode cX6_in 10 = .ok (.iconst 1, 1) := by decide +kernel
theorem dX6_in_11 : decode cX6_in 11 = .ok (.goto 4, 3) := by decide +kernel
def f_X6_in (a_v : Int32) (a_l : Int32) (a_h : Int32) : Int32 := if a_v < a_l then (0 : Int32) else if a_h < a_v then (0 : Int32) else (1 : Int32)
set_option maxHeartbeats 4000000 in
set_option maxRecDepth 100000 in
theorem c_X6_in (l : Launch) (dC : Nat → ClassId) (dI : Nat → Nat → Nat) (cI cJ cZ : ClassId) (sz : Nat) (a_v : Int32) (a_l : Int32) (a_h : Int32) : Met l yX6_in wsX6_in ({ frames := 0, cells := 0, slots := 0, locals := 0 } : Room) (va_Pc [.int a_v, .int a_l, .int a_h] (PreM dC dI cI cJ cZ sz [])) (va_Qi (fun (r : Int32) (_ : Unit) => r = f_X6_in a_v a_l a_h) (fun (_ : Unit) _ => True) (fun q => sz ≤ q)) 0 0 (fun q => sz ≤ q) := by
  refine Met.ofW (cc := cX6_in) (maxL := 3) (ret := (some .boolean)) (by decide) rfl ?_
  intro p e s m args below meth c s₁ B hml hv
  obtain ⟨rfl, hsz, hP, hK, hN, hD0⟩ := hv
  have hx := B.exec
  have hb := B.bytes
  have hr := B.returns
  have hts := atoms_spec (ws := wsX6_in) B.pre
  have hown : s.vm.findClass RX6 = some m.cls := findClass_of_methodNamed B.named
  have hlocks := B.notSynchronized
  subst hsz
  have hD := hD0
  generalize hAe : (fun q => s.heap.size ≤ q) = A
  have hA : ∀ q : Nat, s.heap.size ≤ q → A q := fun q h => by rw [← hAe]; exact h
  have hS : va_S A s.heap s.heap [] := va_S.rf
  have hP : va_P (dC, dI) vwCl [] s.heap := hP
  have hl := lv_entry ([.int a_v, .int a_l, .int a_h]) (n := 3) (Nat.le_of_ble_eq_true rfl)
  rw [lg_entry_eq]
  generalize (lg_sl ([.int a_v, .int a_l, .int a_h]) ++ List.replicate (3 - (lg_sl ([.int a_v, .int a_l, .int a_h])).length) Slot.unset).toArray = ls at hl ⊢
  have hl : lv_has ls 3 [(0, .int a_v), (1, .int a_l), (2, .int a_h)] := hl
  refine lv_iload_n hx hb dX6_in_0 rfl (lv_at hl 0 rfl) ?_
  refine lv_iload_n hx hb dX6_in_1 rfl (lv_at hl 1 rfl) ?_
  refine lv_icmp_lt (tgt := 14) hx hb dX6_in_2 (by decide) (fun c_1 => ?_) (fun c_1 => ?_)
  · have tc_1 : a_v.toInt < a_l.toInt := q_lt c_1
    refine lv_iconst (v := (0 : Int32)) hx hb dX6_in_14 (by decide) ?_
    have hE : f_X6_in a_v a_l a_h = (0 : Int32) := (by rw [f_X6_in, if_pos c_1])
    exact W.zret (v := (0 : Int32)) hx hb hr (by decide) (fun t ht hW => ⟨⟨(0 : Int32), (), rfl, by rw [hE], trivial⟩, hS.F ht⟩) hS.2.2 dX6_in_15
  · have tc_1 : a_l.toInt ≤ a_v.toInt := q_nlt c_1
    refine lv_iload_n hx hb dX6_in_5 rfl (lv_at hl 0 rfl) ?_
    refine lv_iload_n hx hb dX6_in_6 rfl (lv_at hl 2 rfl) ?_
    refine lv_icmp_gt (tgt := 14) hx hb dX6_in_7 (by decide) (fun c_2 => ?_) (fun c_2 => ?_)
    · have tc_2 : a_h.toInt < a_v.toInt := q_lt c_2
      refine lv_iconst (v := (0 : Int32)) hx hb dX6_in_14 (by decide) ?_
      have hE : f_X6_in a_v a_l a_h = (0 : Int32) := (by rw [f_X6_in, if_neg c_1, if_pos c_2])
      exact W.zret (v := (0 : Int32)) hx hb hr (by decide) (fun t ht hW => ⟨⟨(0 : Int32), (), rfl, by rw [hE], trivial⟩, hS.F ht⟩) hS.2.2 dX6_in_15
    · have tc_2 : a_v.toInt ≤ a_h.toInt := q_nlt c_2
      refine lv_iconst (v := (1 : Int32)) hx hb dX6_in_10 (by decide) ?_
      refine lv_goto (tgt := 15) hx hb dX6_in_11 (by decide) ?_
      have hE : f_X6_in a_v a_l a_h = (1 : Int32) := (by rw [f_X6_in, if_neg c_1, if_neg c_2])
      exact W.zret (v := (1 : Int32)) hx hb hr (by decide) (fun t ht hW => ⟨⟨(1 : Int32), (), rfl, by rw [hE], trivial⟩, hS.F ht⟩) hS.2.2 dX6_in_15
theorem in_0 (v l h : Int32) (hh : h.toInt < l.toInt) : f_X6_in v l h = (0 : Int32) := by
  rw [f_X6_in]
  by_cases c1 : v < l
  · rw [if_pos c1]
  · rw [if_neg c1]
    by_cases c2 : h < v
    · rw [if_pos c2]
    · have t1 := q_nlt c1
      have t2 := q_nlt c2
      exact absurd hh (by omega)
theorem nar_in (v l h : Int32) : narrow .boolean (.int (f_X6_in v l h)) = .int (f_X6_in v l h) := by
  rw [f_X6_in]
  by_cases c1 : v < l
  · rw [if_pos c1]; rfl
  · rw [if_neg c1]
    by_cases c2 : h < v
    · rw [if_pos c2]; rfl
    · rw [if_neg c2]; rfl
theorem dX6_isView_0 : decode cX6_isView 0 = .ok (.iload_n 0, 1) := by decide +kernel
theorem dX6_isView_1 : decode cX6_isView 1 = .ok (.iconst 0, 1) := by decide +kernel
theorem dX6_isView_2 : decode cX6_isView 2 = .ok (.bipush 6, 2) := by decide +kernel
theorem dX6_isView_4 : decode cX6_isView 4 = .ok (.invokestatic 83, 3) := by decide +kernel
set_option maxRecDepth 20000 in
theorem ggX6_isView_X6_in : GoodIn wsX6_isView wsX6_in := goodIn_r _ [4] (by decide +kernel) (by decide +kernel)
set_option maxRecDepth 20000 in
theorem gX6_isView_X6_in : GoodIn wsX6_isView (va_wsS RX6 83 yX6_in wsX6_in) := goodIn_app (goodIn_of _ (by decide +kernel)) ggX6_isView_X6_in
theorem dX6_isView_7 : decode cX6_isView 7 = .ok (.ireturn, 1) := by decide +kernel
def f_X6_isView (a_v : Int32) : Int32 := (f_X6_in a_v (0 : Int32) (6 : Int32))
set_option maxHeartbeats 4000000 in
set_option maxRecDepth 100000 in
theorem c_X6_isView (l : Launch) (dC : Nat → ClassId) (dI : Nat → Nat → Nat) (cI cJ cZ : ClassId) (sz : Nat) (a_v : Int32) : Met l yX6_isView wsX6_isView ({ frames := 1, cells := 0, slots := 0, locals := 22 } : Room) (va_Pc [.int a_v] (PreM dC dI cI cJ cZ sz [])) (va_Qi (fun (r : Int32) (_ : Unit) => r = f_X6_isView a_v) (fun (_ : Unit) _ => True) (fun q => sz ≤ q)) 0 0 (fun q => sz ≤ q) := by
  refine Met.ofW (cc := cX6_isView) (maxL := 1) (ret := (some .boolean)) (by decide) rfl ?_
  intro p e s m args below meth c s₁ B hml hv
  obtain ⟨rfl, hsz, hP, hK, hN, hD0⟩ := hv
  have hx := B.exec
  have hb := B.bytes
  have hr := B.returns
  have hts := atoms_spec (ws := wsX6_isView) B.pre
  have hown : s.vm.findClass RX6 = some m.cls := findClass_of_methodNamed B.named
  have hlocks := B.notSynchronized
  subst hsz
  have hD := hD0
  generalize hAe : (fun q => s.heap.size ≤ q) = A
  have hA : ∀ q : Nat, s.heap.size ≤ q → A q := fun q h => by rw [← hAe]; exact h
  have hS : va_S A s.heap s.heap [] := va_S.rf
  have hP : va_P (dC, dI) vwCl [] s.heap := hP
  have hl := lv_entry ([.int a_v]) (n := 1) (Nat.le_of_ble_eq_true rfl)
  rw [lg_entry_eq]
  generalize (lg_sl ([.int a_v]) ++ List.replicate (1 - (lg_sl ([.int a_v])).length) Slot.unset).toArray = ls at hl ⊢
  have hl : lv_has ls 1 [(0, .int a_v)] := hl
  refine lv_iload_n hx hb dX6_isView_0 rfl (lv_at hl 0 rfl) ?_
  refine lv_iconst (v := (0 : Int32)) hx hb dX6_isView_1 (by decide) ?_
  refine lv_bipush (v := (6 : Int32)) hx hb dX6_isView_2 (by decide) ?_
  have hPc := hP.sub (ws' := []) [] rfl
  have hDc := hD.sub (ws' := []) [] (by decide) rfl
  refine va_calli (va_runS (As := [.int a_v, .int (0 : Int32), .int (6 : Int32)]) (rest := []) ⟨hx, hb, hml, hown, hts⟩ (c_X6_in l dC dI cI cJ cZ s.heap.size a_v (0 : Int32) (6 : Int32)) (va_cwS 3 hts gX6_isView_X6_in rfl rfl rfl (by decide +kernel) ⟨Nat.le_of_ble_eq_true rfl, Nat.le_of_ble_eq_true rfl⟩) ⟨fun a U g mk q => ⟨q.1, PreM.call g mk a q.2⟩, fun U hU hW => ⟨rfl, PreM.mk2 hU hW hPc hK hN (hDc.weaken (fun _ _ _ _ => trivial))⟩⟩ rfl rfl hl.1 rfl (lv_room (Nat.le_of_ble_eq_true rfl)) dX6_isView_4 ⟨Nat.le_of_ble_eq_true rfl, Nat.le_of_ble_eq_true rfl⟩) hS (fun q hq h => absurd hq (Nat.not_lt.mpr h)) (fun q h => hA q (Nat.le_trans hS.1 h)) (fun r_1 _u t H1 locs ht hvm hw hB hz1 hk1 hS => ?_)
  have hP := va_ro hP hk1
  generalize H1 = H at hP hS ⊢
  have hw : r_1 = f_X6_in a_v (0 : Int32) (6 : Int32) := hw
  subst hw
  have hE : f_X6_isView a_v = (f_X6_in a_v (0 : Int32) (6 : Int32)) := (by rw [f_X6_isView])
  exact W.zret (v := (f_X6_in a_v (0 : Int32) (6 : Int32))) hx hb hr (nar_in _ _ _) (fun t ht hW => ⟨⟨(f_X6_in a_v (0 : Int32) (6 : Int32)), (), rfl, by rw [hE], trivial⟩, hS.F ht⟩) hS.2.2 dX6_isView_7
theorem dX6_isHand_0 : decode cX6_isHand 0 = .ok (.iload_n 0, 1) := by decide +kernel
theorem dX6_isHand_1 : decode cX6_isHand 1 = .ok (.iconst 0, 1) := by decide +kernel
theorem dX6_isHand_2 : decode cX6_isHand 2 = .ok (.iconst 3, 1) := by decide +kernel
theorem dX6_isHand_3 : decode cX6_isHand 3 = .ok (.invokestatic 83, 3) := by decide +kernel
set_option maxRecDepth 20000 in
theorem ggX6_isHand_X6_in : GoodIn wsX6_isHand wsX6_in := goodIn_r _ [4] (by decide +kernel) (by decide +kernel)
set_option maxRecDepth 20000 in
theorem gX6_isHand_X6_in : GoodIn wsX6_isHand (va_wsS RX6 83 yX6_in wsX6_in) := goodIn_app (goodIn_of _ (by decide +kernel)) ggX6_isHand_X6_in
theorem dX6_isHand_6 : decode cX6_isHand 6 = .ok (.ireturn, 1) := by decide +kernel
def f_X6_isHand (a_h : Int32) : Int32 := (f_X6_in a_h (0 : Int32) (3 : Int32))
set_option maxHeartbeats 4000000 in
set_option maxRecDepth 100000 in
theorem c_X6_isHand (l : Launch) (dC : Nat → ClassId) (dI : Nat → Nat → Nat) (cI cJ cZ : ClassId) (sz : Nat) (a_h : Int32) : Met l yX6_isHand wsX6_isHand ({ frames := 1, cells := 0, slots := 0, locals := 22 } : Room) (va_Pc [.int a_h] (PreM dC dI cI cJ cZ sz [])) (va_Qi (fun (r : Int32) (_ : Unit) => r = f_X6_isHand a_h) (fun (_ : Unit) _ => True) (fun q => sz ≤ q)) 0 0 (fun q => sz ≤ q) := by
  refine Met.ofW (cc := cX6_isHand) (maxL := 1) (ret := (some .boolean)) (by decide) rfl ?_
  intro p e s m args below meth c s₁ B hml hv
  obtain ⟨rfl, hsz, hP, hK, hN, hD0⟩ := hv
  have hx := B.exec
  have hb := B.bytes
  have hr := B.returns
  have hts := atoms_spec (ws := wsX6_isHand) B.pre
  have hown : s.vm.findClass RX6 = some m.cls := findClass_of_methodNamed B.named
  have hlocks := B.notSynchronized
  subst hsz
  have hD := hD0
  generalize hAe : (fun q => s.heap.size ≤ q) = A
  have hA : ∀ q : Nat, s.heap.size ≤ q → A q := fun q h => by rw [← hAe]; exact h
  have hS : va_S A s.heap s.heap [] := va_S.rf
  have hP : va_P (dC, dI) vwCl [] s.heap := hP
  have hl := lv_entry ([.int a_h]) (n := 1) (Nat.le_of_ble_eq_true rfl)
  rw [lg_entry_eq]
  generalize (lg_sl ([.int a_h]) ++ List.replicate (1 - (lg_sl ([.int a_h])).length) Slot.unset).toArray = ls at hl ⊢
  have hl : lv_has ls 1 [(0, .int a_h)] := hl
  refine lv_iload_n hx hb dX6_isHand_0 rfl (lv_at hl 0 rfl) ?_
  refine lv_iconst (v := (0 : Int32)) hx hb dX6_isHand_1 (by decide) ?_
  refine lv_iconst (v := (3 : Int32)) hx hb dX6_isHand_2 (by decide) ?_
  have hPc := hP.sub (ws' := []) [] rfl
  have hDc := hD.sub (ws' := []) [] (by decide) rfl
  refine va_calli (va_runS (As := [.int a_h, .int (0 : Int32), .int (3 : Int32)]) (rest := []) ⟨hx, hb, hml, hown, hts⟩ (c_X6_in l dC dI cI cJ cZ s.heap.size a_h (0 : Int32) (3 : Int32)) (va_cwS 3 hts gX6_isHand_X6_in rfl rfl rfl (by decide +kernel) ⟨Nat.le_of_ble_eq_true rfl, Nat.le_of_ble_eq_true rfl⟩) ⟨fun a U g mk q => ⟨q.1, PreM.call g mk a q.2⟩, fun U hU hW => ⟨rfl, PreM.mk2 hU hW hPc hK hN (hDc.weaken (fun _ _ _ _ => trivial))⟩⟩ rfl rfl hl.1 rfl (lv_room (Nat.le_of_ble_eq_true rfl)) dX6_isHand_3 ⟨Nat.le_of_ble_eq_true rfl, Nat.le_of_ble_eq_true rfl⟩) hS (fun q hq h => absurd hq (Nat.not_lt.mpr h)) (fun q h => hA q (Nat.le_trans hS.1 h)) (fun r_1 _u t H1 locs ht hvm hw hB hz1 hk1 hS => ?_)
  have hP := va_ro hP hk1
  generalize H1 = H at hP hS ⊢
  have hw : r_1 = f_X6_in a_h (0 : Int32) (3 : Int32) := hw
  subst hw
  have hE : f_X6_isHand a_h = (f_X6_in a_h (0 : Int32) (3 : Int32)) := (by rw [f_X6_isHand])
  exact W.zret (v := (f_X6_in a_h (0 : Int32) (3 : Int32))) hx hb hr (nar_in _ _ _) (fun t ht hW => ⟨⟨(f_X6_in a_h (0 : Int32) (3 : Int32)), (), rfl, by rw [hE], trivial⟩, hS.F ht⟩) hS.2.2 dX6_isHand_6
theorem dX6_isChange_0 : decode cX6_isChange 0 = .ok (.iload_n 1, 1) := by decide +kernel
theorem dX6_isChange_1 : decode cX6_isChange 1 = .ok (.iconst 1, 1) := by decide +kernel
theorem dX6_isChange_2 : decode cX6_isChange 2 = .ok (.aload_n 0, 1) := by decide +kernel
theorem dX6_isChange_3 : decode cX6_isChange 3 = .ok (.getfield 96, 3) := by decide +kernel
theorem in_X6_isChange_X6 : ∀ w ∈ wsX60, w ∈ wsX6_isChange := by decide +kernel
theorem m_X6_isChange_1 : (.fieldLink RX6 96 "RedlineDeskModel" "changes" "I" : Cond) ∈ wsX6_isChange := List.mem_of_getElem? (i := 1) (by decide +kernel)
theorem dX6_isChange_6 : decode cX6_isChange 6 = .ok (.invokestatic 83, 3) := by decide +kernel
set_option maxRecDepth 20000 in
theorem ggX6_isChange_X6_in : GoodIn wsX6_isChange wsX6_in := goodIn_r _ [5] (by decide +kernel) (by decide +kernel)
set_option maxRecDepth 20000 in
theorem gX6_isChange_X6_in : GoodIn wsX6_isChange (va_wsS RX6 83 yX6_in wsX6_in) := goodIn_app (goodIn_of _ (by decide +kernel)) ggX6_isChange_X6_in
theorem dX6_isChange_9 : decode cX6_isChange 9 = .ok (.ireturn, 1) := by decide +kernel
def f_X6_isChange (a_c : Int32) : Int32 := (f_X6_in a_c (1 : Int32) (0 : Int32))
set_option maxHeartbeats 4000000 in
set_option maxRecDepth 100000 in
theorem c_X6_isChange (l : Launch) (dC : Nat → ClassId) (dI : Nat → Nat → Nat) (cI cJ cZ : ClassId) (sz : Nat) (zm azm_token azm_letter azm_putBy azm_bits azm_own azm_kind azm_hand azm_state azm_look azm_tape azm_shown azm_levelIn azm_levelAt azm_held azm_marked azm_alike azm_stays azm_gapFrom azm_gapMany azm_nowAt azm_newLetter azm_newPut azm_newBits azm_newOwn : Nat) (a_c : Int32) : Met l yX6_isChange wsX6_isChange ({ frames := 1, cells := 0, slots := 0, locals := 22 } : Room) (va_Pc [.ref zm, .int a_c] (PreM dC dI cI cJ cZ sz [(zm, .inr (6, [.int (0 : Int32), .ref azm_token, .ref azm_letter, .ref azm_putBy, .ref azm_bits, .ref azm_own, .int (0 : Int32), .ref azm_kind, .ref azm_hand, .ref azm_state, .ref azm_look, .ref azm_tape, .int (0 : Int32), .ref azm_shown, .int (0 : Int32), .ref azm_levelIn, .ref azm_levelAt, .ref azm_held, .ref azm_marked, .ref azm_alike, .ref azm_stays, .ref azm_gapFrom, .ref azm_gapMany, .ref azm_nowAt, .ref azm_newLetter, .ref azm_newPut, .ref azm_newBits, .ref azm_newOwn])), (azm_token, .inl (cI, 240, .inl (fun _ => (0 : Int32)))), (azm_letter, .inl (cI, 240, .inl (fun _ => (0 : Int32)))), (azm_putBy, .inl (cI, 240, .inl (fun _ => (0 : Int32)))), (azm_bits, .inl (cI, 240, .inl (fun _ => (0 : Int32)))), (azm_own, .inl (cI, 240, .inl (fun _ => (0 : Int32)))), (azm_kind, .inl (cI, 25, .inl (fun _ => (0 : Int32)))), (azm_hand, .inl (cI, 25, .inl (fun _ => (0 : Int32)))), (azm_state, .inl (cI, 25, .inl (fun _ => (0 : Int32)))), (azm_look, .inl (cI, 25, .inl (fun _ => (0 : Int32)))), (azm_tape, .inl (cI, 120, .inl (fun _ => (0 : Int32)))), (azm_shown, .inl (cI, 240, .inl (fun _ => (0 : Int32)))), (azm_levelIn, .inl (cI, 26, .inl (fun _ => (0 : Int32)))), (azm_levelAt, .inl (cI, 26, .inl (fun _ => (0 : Int32)))), (azm_held, .inl (cI, 25, .inl (fun _ => (0 : Int32)))), (azm_marked, .inl (cZ, 240, .inl (fun _ => (0 : Int32)))), (azm_alike, .inl (cI, 29161, .inl (fun _ => (0 : Int32)))), (azm_stays, .inl (cZ, 241, .inl (fun _ => (0 : Int32)))), (azm_gapFrom, .inl (cI, 242, .inl (fun _ => (0 : Int32)))), (azm_gapMany, .inl (cI, 242, .inl (fun _ => (0 : Int32)))), (azm_nowAt, .inl (cI, 240, .inl (fun _ => (0 : Int32)))), (azm_newLetter, .inl (cI, 240, .inl (fun _ => (0 : Int32)))), (azm_newPut, .inl (cI, 240, .inl (fun _ => (0 : Int32)))), (azm_newBits, .inl (cI, 240, .inl (fun _ => (0 : Int32)))), (azm_newOwn, .inl (cI, 240, .inl (fun _ => (0 : Int32))))])) (va_Qi (fun (r : Int32) (_ : Unit) => r = f_X6_isChange a_c) (fun (_ : Unit) _ => True) (fun q => sz ≤ q)) 0 0 (fun q => sz ≤ q) := by
  refine Met.ofW (cc := cX6_isChange) (maxL := 2) (ret := (some .boolean)) (by decide) rfl ?_
  intro p e s m args below meth c s₁ B hml hv
  obtain ⟨rfl, hsz, hP, hK, hN, hD0⟩ := hv
  have hx := B.exec
  have hb := B.bytes
  have hr := B.returns
  have hts := atoms_spec (ws := wsX6_isChange) B.pre
  have hown : s.vm.findClass RX6 = some m.cls := findClass_of_methodNamed B.named
  have hlocks := B.notSynchronized
  subst hsz
  have hD := hD0
  generalize hAe : (fun q => s.heap.size ≤ q) = A
  have hA : ∀ q : Nat, s.heap.size ≤ q → A q := fun q h => by rw [← hAe]; exact h
  have hS : va_S A s.heap s.heap [] := va_S.rf
  have hP : va_P (dC, dI) vwCl [(zm, .inr (6, [.int (0 : Int32), .ref azm_token, .ref azm_letter, .ref azm_putBy, .ref azm_bits, .ref azm_own, .int (0 : Int32), .ref azm_kind, .ref azm_hand, .ref azm_state, .ref azm_look, .ref azm_tape, .int (0 : Int32), .ref azm_shown, .int (0 : Int32), .ref azm_levelIn, .ref azm_levelAt, .ref azm_held, .ref azm_marked, .ref azm_alike, .ref azm_stays, .ref azm_gapFrom, .ref azm_gapMany, .ref azm_nowAt, .ref azm_newLetter, .ref azm_newPut, .ref azm_newBits, .ref azm_newOwn])), (azm_token, .inl (cI, 240, .inl (fun _ => (0 : Int32)))), (azm_letter, .inl (cI, 240, .inl (fun _ => (0 : Int32)))), (azm_putBy, .inl (cI, 240, .inl (fun _ => (0 : Int32)))), (azm_bits, .inl (cI, 240, .inl (fun _ => (0 : Int32)))), (azm_own, .inl (cI, 240, .inl (fun _ => (0 : Int32)))), (azm_kind, .inl (cI, 25, .inl (fun _ => (0 : Int32)))), (azm_hand, .inl (cI, 25, .inl (fun _ => (0 : Int32)))), (azm_state, .inl (cI, 25, .inl (fun _ => (0 : Int32)))), (azm_look, .inl (cI, 25, .inl (fun _ => (0 : Int32)))), (azm_tape, .inl (cI, 120, .inl (fun _ => (0 : Int32)))), (azm_shown, .inl (cI, 240, .inl (fun _ => (0 : Int32)))), (azm_levelIn, .inl (cI, 26, .inl (fun _ => (0 : Int32)))), (azm_levelAt, .inl (cI, 26, .inl (fun _ => (0 : Int32)))), (azm_held, .inl (cI, 25, .inl (fun _ => (0 : Int32)))), (azm_marked, .inl (cZ, 240, .inl (fun _ => (0 : Int32)))), (azm_alike, .inl (cI, 29161, .inl (fun _ => (0 : Int32)))), (azm_stays, .inl (cZ, 241, .inl (fun _ => (0 : Int32)))), (azm_gapFrom, .inl (cI, 242, .inl (fun _ => (0 : Int32)))), (azm_gapMany, .inl (cI, 242, .inl (fun _ => (0 : Int32)))), (azm_nowAt, .inl (cI, 240, .inl (fun _ => (0 : Int32)))), (azm_newLetter, .inl (cI, 240, .inl (fun _ => (0 : Int32)))), (azm_newPut, .inl (cI, 240, .inl (fun _ => (0 : Int32)))), (azm_newBits, .inl (cI, 240, .inl (fun _ => (0 : Int32)))), (azm_newOwn, .inl (cI, 240, .inl (fun _ => (0 : Int32))))] s.heap := hP
  have hl := lv_entry ([.ref zm, .int a_c]) (n := 2) (Nat.le_of_ble_eq_true rfl)
  rw [lg_entry_eq]
  generalize (lg_sl ([.ref zm, .int a_c]) ++ List.replicate (2 - (lg_sl ([.ref zm, .int a_c])).length) Slot.unset).toArray = ls at hl ⊢
  have hl : lv_has ls 2 [(0, .ref zm), (1, .int a_c)] := hl
  refine lv_iload_n hx hb dX6_isChange_0 rfl (lv_at hl 1 rfl) ?_
  refine lv_iconst (v := (1 : Int32)) hx hb dX6_isChange_1 (by decide) ?_
  refine lv_aload_n hx hb dX6_isChange_2 rfl (lv_at hl 0 rfl) ?_
  refine va_get (D := (dC, dI)) (ci := 6) (v := .int (0 : Int32)) (C := RX6) (T := TX6) (N := 28) hx hb hts in_X6_isChange_X6 hown hK hP 0 rfl rfl 6 (by decide) (hts _ m_X6_isChange_1) (fun _ h9 => h9) rfl dX6_isChange_3 ?_
  have hPc := hP.sub (ws' := []) [] rfl
  have hDc := hD.sub (ws' := []) [] (by decide) rfl
  refine va_calli (va_runS (As := [.int a_c, .int (1 : Int32), .int (0 : Int32)]) (rest := []) ⟨hx, hb, hml, hown, hts⟩ (c_X6_in l dC dI cI cJ cZ s.heap.size a_c (1 : Int32) (0 : Int32)) (va_cwS 3 hts gX6_isChange_X6_in rfl rfl rfl (by decide +kernel) ⟨Nat.le_of_ble_eq_true rfl, Nat.le_of_ble_eq_true rfl⟩) ⟨fun a U g mk q => ⟨q.1, PreM.call g mk a q.2⟩, fun U hU hW => ⟨rfl, PreM.mk2 hU hW hPc hK hN (hDc.weaken (fun _ _ _ _ => trivial))⟩⟩ rfl rfl hl.1 rfl (lv_room (Nat.le_of_ble_eq_true rfl)) dX6_isChange_6 ⟨Nat.le_of_ble_eq_true rfl, Nat.le_of_ble_eq_true rfl⟩) hS (fun q hq h => absurd hq (Nat.not_lt.mpr h)) (fun q h => hA q (Nat.le_trans hS.1 h)) (fun r_1 _u t H1 locs ht hvm hw hB hz1 hk1 hS => ?_)
  have hP := va_ro hP hk1
  generalize H1 = H at hP hS ⊢
  have hw : r_1 = f_X6_in a_c (1 : Int32) (0 : Int32) := hw
  subst hw
  have hE : f_X6_isChange a_c = (f_X6_in a_c (1 : Int32) (0 : Int32)) := (by rw [f_X6_isChange])
  exact W.zret (v := (f_X6_in a_c (1 : Int32) (0 : Int32))) hx hb hr (nar_in _ _ _) (fun t ht hW => ⟨⟨(f_X6_in a_c (1 : Int32) (0 : Int32)), (), rfl, by rw [hE], trivial⟩, hS.F ht⟩) hS.2.2 dX6_isChange_9
