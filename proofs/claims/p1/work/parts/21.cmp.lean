theorem dX0_isOfNow_0 : decode cX0_isOfNow 0 = .ok (.iload_n 1, 1) := by decide +kernel
theorem dX0_isOfNow_1 : decode cX0_isOfNow 1 = .ok (.ifCond .lt 22, 3) := by decide +kernel
theorem dX0_isOfNow_23 : decode cX0_isOfNow 23 = .ok (.iconst 0, 1) := by decide +kernel
theorem dX0_isOfNow_24 : decode cX0_isOfNow 24 = .ok (.ireturn, 1) := by decide +kernel
theorem dX0_isOfNow_4 : decode cX0_isOfNow 4 = .ok (.iload_n 1, 1) := by decide +kernel
theorem dX0_isOfNow_5 : decode cX0_isOfNow 5 = .ok (.aload_n 0, 1) := by decide +kernel
theorem dX0_isOfNow_6 : decode cX0_isOfNow 6 = .ok (.getfield 25, 3) := by decide +kernel
theorem in_X0_isOfNow_X0 : ∀ w ∈ wsX00, w ∈ wsX0_isOfNow := by decide +kernel
theorem m_X0_isOfNow_1 : (.fieldLink RX0 25 "RedlineDesk$Comparison" "nowSize" "I" : Cond) ∈ wsX0_isOfNow := List.mem_of_getElem? (i := 1) (by decide +kernel)
theorem dX0_isOfNow_9 : decode cX0_isOfNow 9 = .ok (.if_icmp .ge 14, 3) := by decide +kernel
theorem dX0_isOfNow_12 : decode cX0_isOfNow 12 = .ok (.iload_n 1, 1) := by decide +kernel
theorem dX0_isOfNow_13 : decode cX0_isOfNow 13 = .ok (.sipush 240, 3) := by decide +kernel
theorem dX0_isOfNow_16 : decode cX0_isOfNow 16 = .ok (.if_icmp .ge 7, 3) := by decide +kernel
theorem dX0_isOfNow_19 : decode cX0_isOfNow 19 = .ok (.iconst 1, 1) := by decide +kernel
theorem dX0_isOfNow_20 : decode cX0_isOfNow 20 = .ok (.goto 4, 3) := by decide +kernel
def f_X0_isOfNow (zk_nowSize : Int32) (a_i : Int32) : Int32 := if a_i < (0 : Int32) then (0 : Int32) else if zk_nowSize ≤ a_i then (0 : Int32) else if (240 : Int32) ≤ a_i then (0 : Int32) else (1 : Int32)
set_option maxHeartbeats 4000000 in
set_option maxRecDepth 100000 in
theorem c_X0_isOfNow (l : Launch) (dC : Nat → ClassId) (dI : Nat → Nat → Nat) (cI cJ : ClassId) (sz : Nat) (zk azk_now azk_typed azk_strikesNext azk_most : Nat) (zk_now zk_typed zk_most : Nat → Int32) (zk_strikesNext : Nat → Int64) (zk_nowSize zk_typedSize zk_nowFrom zk_nowTo zk_tapeFrom zk_tapeTo : Int32) (a_i : Int32) : Met l yX0_isOfNow wsX0_isOfNow ({ frames := 0, cells := 0, slots := 0, locals := 0 } : Room) (va_Pc [.ref zk, .int a_i] (PreW dC dI cI cJ sz [(zk, .inr (0, [.ref azk_now, .ref azk_typed, .int zk_nowSize, .int zk_typedSize, .ref azk_strikesNext, .ref azk_most, .int zk_nowFrom, .int zk_nowTo, .int zk_tapeFrom, .int zk_tapeTo])), (azk_now, .inl (cI, 240, .inl zk_now)), (azk_typed, .inl (cI, 120, .inl zk_typed)), (azk_strikesNext, .inl (cJ, 480, .inr (.inl zk_strikesNext))), (azk_most, .inl (cI, 121, .inl zk_most))])) (va_Qi (fun (r : Int32) (_ : Unit) => r = f_X0_isOfNow zk_nowSize a_i) (fun (_ : Unit) _ => True) (fun q => sz ≤ q)) 0 0 (fun q => sz ≤ q) := by
  refine Met.ofW (cc := cX0_isOfNow) (maxL := 2) (ret := (some .boolean)) (by decide) rfl ?_
  intro p e s m args below meth c s₁ B hml hv
  obtain ⟨rfl, hsz, hP, hK, hN, hD0⟩ := hv
  have hx := B.exec
  have hb := B.bytes
  have hr := B.returns
  have hts := atoms_spec (ws := wsX0_isOfNow) B.pre
  have hown : s.vm.findClass RX0 = some m.cls := findClass_of_methodNamed B.named
  have hlocks := B.notSynchronized
  subst hsz
  have hD := hD0
  generalize hAe : (fun q => s.heap.size ≤ q) = A
  have hA : ∀ q : Nat, s.heap.size ≤ q → A q := fun q h => by rw [← hAe]; exact h
  have hS : va_S A s.heap s.heap [] := va_S.rf
  have hP : va_P (dC, dI) vwCl [(zk, .inr (0, [.ref azk_now, .ref azk_typed, .int zk_nowSize, .int zk_typedSize, .ref azk_strikesNext, .ref azk_most, .int zk_nowFrom, .int zk_nowTo, .int zk_tapeFrom, .int zk_tapeTo])), (azk_now, .inl (cI, 240, .inl zk_now)), (azk_typed, .inl (cI, 120, .inl zk_typed)), (azk_strikesNext, .inl (cJ, 480, .inr (.inl zk_strikesNext))), (azk_most, .inl (cI, 121, .inl zk_most))] s.heap := hP
  have hl := lv_entry ([.ref zk, .int a_i]) (n := 2) (Nat.le_of_ble_eq_true rfl)
  rw [lg_entry_eq]
  generalize (lg_sl ([.ref zk, .int a_i]) ++ List.replicate (2 - (lg_sl ([.ref zk, .int a_i])).length) Slot.unset).toArray = ls at hl ⊢
  have hl : lv_has ls 2 [(0, .ref zk), (1, .int a_i)] := hl
  refine lv_iload_n hx hb dX0_isOfNow_0 rfl (lv_at hl 1 rfl) ?_
  refine lv_if_lt (tgt := 23) hx hb dX0_isOfNow_1 (by decide) (fun c_1 => ?_) (fun c_1 => ?_)
  · have tc_1 : a_i.toInt < (0 : Int) := q_lt c_1
    refine lv_iconst (v := (0 : Int32)) hx hb dX0_isOfNow_23 (by decide) ?_
    have hE : f_X0_isOfNow zk_nowSize a_i = (0 : Int32) := (by rw [f_X0_isOfNow, if_pos c_1])
    exact W.zret (v := (0 : Int32)) hx hb hr (by decide) (fun t ht hW => ⟨⟨(0 : Int32), (), rfl, by rw [hE], trivial⟩, hS.F ht⟩) hS.2.2 dX0_isOfNow_24
  · have tc_1 : (0 : Int) ≤ a_i.toInt := q_nlt c_1
    refine lv_iload_n hx hb dX0_isOfNow_4 rfl (lv_at hl 1 rfl) ?_
    refine lv_aload_n hx hb dX0_isOfNow_5 rfl (lv_at hl 0 rfl) ?_
    refine va_get (D := (dC, dI)) (ci := 0) (v := .int zk_nowSize) (C := RX0) (T := TX0) (N := 10) hx hb hts in_X0_isOfNow_X0 hown hK hP 0 rfl rfl 2 (by decide) (hts _ m_X0_isOfNow_1) (fun _ h9 => h9) rfl dX0_isOfNow_6 ?_
    refine lv_icmp_ge (tgt := 23) hx hb dX0_isOfNow_9 (by decide) (fun c_2 => ?_) (fun c_2 => ?_)
    · have tc_2 : zk_nowSize.toInt ≤ a_i.toInt := q_le c_2
      refine lv_iconst (v := (0 : Int32)) hx hb dX0_isOfNow_23 (by decide) ?_
      have hE : f_X0_isOfNow zk_nowSize a_i = (0 : Int32) := (by rw [f_X0_isOfNow, if_neg c_1, if_pos c_2])
      exact W.zret (v := (0 : Int32)) hx hb hr (by decide) (fun t ht hW => ⟨⟨(0 : Int32), (), rfl, by rw [hE], trivial⟩, hS.F ht⟩) hS.2.2 dX0_isOfNow_24
    · have tc_2 : a_i.toInt < zk_nowSize.toInt := q_nle c_2
      refine lv_iload_n hx hb dX0_isOfNow_12 rfl (lv_at hl 1 rfl) ?_
      refine lv_sipush (v := (240 : Int32)) hx hb dX0_isOfNow_13 (by decide) ?_
      refine lv_icmp_ge (tgt := 23) hx hb dX0_isOfNow_16 (by decide) (fun c_3 => ?_) (fun c_3 => ?_)
      · have tc_3 : (240 : Int) ≤ a_i.toInt := q_le c_3
        refine lv_iconst (v := (0 : Int32)) hx hb dX0_isOfNow_23 (by decide) ?_
        have hE : f_X0_isOfNow zk_nowSize a_i = (0 : Int32) := (by rw [f_X0_isOfNow, if_neg c_1, if_neg c_2, if_pos c_3])
        exact W.zret (v := (0 : Int32)) hx hb hr (by decide) (fun t ht hW => ⟨⟨(0 : Int32), (), rfl, by rw [hE], trivial⟩, hS.F ht⟩) hS.2.2 dX0_isOfNow_24
      · have tc_3 : a_i.toInt < (240 : Int) := q_nle c_3
        refine lv_iconst (v := (1 : Int32)) hx hb dX0_isOfNow_19 (by decide) ?_
        refine lv_goto (tgt := 24) hx hb dX0_isOfNow_20 (by decide) ?_
        have hE : f_X0_isOfNow zk_nowSize a_i = (1 : Int32) := (by rw [f_X0_isOfNow, if_neg c_1, if_neg c_2, if_neg c_3])
        exact W.zret (v := (1 : Int32)) hx hb hr (by decide) (fun t ht hW => ⟨⟨(1 : Int32), (), rfl, by rw [hE], trivial⟩, hS.F ht⟩) hS.2.2 dX0_isOfNow_24
theorem ofNow_in {z x : Int32} (h : ¬ f_X0_isOfNow z x = (0 : Int32)) : 0 ≤ x.toInt ∧ x.toInt < z.toInt ∧ x.toInt < 240 := by
  rw [f_X0_isOfNow] at h
  by_cases c1 : x < (0 : Int32)
  · rw [if_pos c1] at h; exact absurd rfl h
  · rw [if_neg c1] at h
    by_cases c2 : z ≤ x
    · rw [if_pos c2] at h; exact absurd rfl h
    · rw [if_neg c2] at h
      by_cases c3 : (240 : Int32) ≤ x
      · rw [if_pos c3] at h; exact absurd rfl h
      · exact ⟨q_nlt c1, q_nle c2, q_nle c3⟩
theorem dX0_isOfTape_0 : decode cX0_isOfTape 0 = .ok (.iload_n 1, 1) := by decide +kernel
theorem dX0_isOfTape_1 : decode cX0_isOfTape 1 = .ok (.ifCond .lt 21, 3) := by decide +kernel
theorem dX0_isOfTape_22 : decode cX0_isOfTape 22 = .ok (.iconst 0, 1) := by decide +kernel
theorem dX0_isOfTape_23 : decode cX0_isOfTape 23 = .ok (.ireturn, 1) := by decide +kernel
theorem dX0_isOfTape_4 : decode cX0_isOfTape 4 = .ok (.iload_n 1, 1) := by decide +kernel
theorem dX0_isOfTape_5 : decode cX0_isOfTape 5 = .ok (.aload_n 0, 1) := by decide +kernel
theorem dX0_isOfTape_6 : decode cX0_isOfTape 6 = .ok (.getfield 47, 3) := by decide +kernel
theorem in_X0_isOfTape_X0 : ∀ w ∈ wsX00, w ∈ wsX0_isOfTape := by decide +kernel
theorem m_X0_isOfTape_1 : (.fieldLink RX0 47 "RedlineDesk$Comparison" "typedSize" "I" : Cond) ∈ wsX0_isOfTape := List.mem_of_getElem? (i := 1) (by decide +kernel)
theorem dX0_isOfTape_9 : decode cX0_isOfTape 9 = .ok (.if_icmp .ge 13, 3) := by decide +kernel
theorem dX0_isOfTape_12 : decode cX0_isOfTape 12 = .ok (.iload_n 1, 1) := by decide +kernel
theorem dX0_isOfTape_13 : decode cX0_isOfTape 13 = .ok (.bipush 120, 2) := by decide +kernel
theorem dX0_isOfTape_15 : decode cX0_isOfTape 15 = .ok (.if_icmp .ge 7, 3) := by decide +kernel
theorem dX0_isOfTape_18 : decode cX0_isOfTape 18 = .ok (.iconst 1, 1) := by decide +kernel
theorem dX0_isOfTape_19 : decode cX0_isOfTape 19 = .ok (.goto 4, 3) := by decide +kernel
def f_X0_isOfTape (zk_typedSize : Int32) (a_i : Int32) : Int32 := if a_i < (0 : Int32) then (0 : Int32) else if zk_typedSize ≤ a_i then (0 : Int32) else if (120 : Int32) ≤ a_i then (0 : Int32) else (1 : Int32)
set_option maxHeartbeats 4000000 in
set_option maxRecDepth 100000 in
theorem c_X0_isOfTape (l : Launch) (dC : Nat → ClassId) (dI : Nat → Nat → Nat) (cI cJ : ClassId) (sz : Nat) (zk azk_now azk_typed azk_strikesNext azk_most : Nat) (zk_now zk_typed zk_most : Nat → Int32) (zk_strikesNext : Nat → Int64) (zk_nowSize zk_typedSize zk_nowFrom zk_nowTo zk_tapeFrom zk_tapeTo : Int32) (a_i : Int32) : Met l yX0_isOfTape wsX0_isOfTape ({ frames := 0, cells := 0, slots := 0, locals := 0 } : Room) (va_Pc [.ref zk, .int a_i] (PreW dC dI cI cJ sz [(zk, .inr (0, [.ref azk_now, .ref azk_typed, .int zk_nowSize, .int zk_typedSize, .ref azk_strikesNext, .ref azk_most, .int zk_nowFrom, .int zk_nowTo, .int zk_tapeFrom, .int zk_tapeTo])), (azk_now, .inl (cI, 240, .inl zk_now)), (azk_typed, .inl (cI, 120, .inl zk_typed)), (azk_strikesNext, .inl (cJ, 480, .inr (.inl zk_strikesNext))), (azk_most, .inl (cI, 121, .inl zk_most))])) (va_Qi (fun (r : Int32) (_ : Unit) => r = f_X0_isOfTape zk_typedSize a_i) (fun (_ : Unit) _ => True) (fun q => sz ≤ q)) 0 0 (fun q => sz ≤ q) := by
  refine Met.ofW (cc := cX0_isOfTape) (maxL := 2) (ret := (some .boolean)) (by decide) rfl ?_
  intro p e s m args below meth c s₁ B hml hv
  obtain ⟨rfl, hsz, hP, hK, hN, hD0⟩ := hv
  have hx := B.exec
  have hb := B.bytes
  have hr := B.returns
  have hts := atoms_spec (ws := wsX0_isOfTape) B.pre
  have hown : s.vm.findClass RX0 = some m.cls := findClass_of_methodNamed B.named
  have hlocks := B.notSynchronized
  subst hsz
  have hD := hD0
  generalize hAe : (fun q => s.heap.size ≤ q) = A
  have hA : ∀ q : Nat, s.heap.size ≤ q → A q := fun q h => by rw [← hAe]; exact h
  have hS : va_S A s.heap s.heap [] := va_S.rf
  have hP : va_P (dC, dI) vwCl [(zk, .inr (0, [.ref azk_now, .ref azk_typed, .int zk_nowSize, .int zk_typedSize, .ref azk_strikesNext, .ref azk_most, .int zk_nowFrom, .int zk_nowTo, .int zk_tapeFrom, .int zk_tapeTo])), (azk_now, .inl (cI, 240, .inl zk_now)), (azk_typed, .inl (cI, 120, .inl zk_typed)), (azk_strikesNext, .inl (cJ, 480, .inr (.inl zk_strikesNext))), (azk_most, .inl (cI, 121, .inl zk_most))] s.heap := hP
  have hl := lv_entry ([.ref zk, .int a_i]) (n := 2) (Nat.le_of_ble_eq_true rfl)
  rw [lg_entry_eq]
  generalize (lg_sl ([.ref zk, .int a_i]) ++ List.replicate (2 - (lg_sl ([.ref zk, .int a_i])).length) Slot.unset).toArray = ls at hl ⊢
  have hl : lv_has ls 2 [(0, .ref zk), (1, .int a_i)] := hl
  refine lv_iload_n hx hb dX0_isOfTape_0 rfl (lv_at hl 1 rfl) ?_
  refine lv_if_lt (tgt := 22) hx hb dX0_isOfTape_1 (by decide) (fun c_1 => ?_) (fun c_1 => ?_)
  · have tc_1 : a_i.toInt < (0 : Int) := q_lt c_1
    refine lv_iconst (v := (0 : Int32)) hx hb dX0_isOfTape_22 (by decide) ?_
    have hE : f_X0_isOfTape zk_typedSize a_i = (0 : Int32) := (by rw [f_X0_isOfTape, if_pos c_1])
    exact W.zret (v := (0 : Int32)) hx hb hr (by decide) (fun t ht hW => ⟨⟨(0 : Int32), (), rfl, by rw [hE], trivial⟩, hS.F ht⟩) hS.2.2 dX0_isOfTape_23
  · have tc_1 : (0 : Int) ≤ a_i.toInt := q_nlt c_1
    refine lv_iload_n hx hb dX0_isOfTape_4 rfl (lv_at hl 1 rfl) ?_
    refine lv_aload_n hx hb dX0_isOfTape_5 rfl (lv_at hl 0 rfl) ?_
    refine va_get (D := (dC, dI)) (ci := 0) (v := .int zk_typedSize) (C := RX0) (T := TX0) (N := 10) hx hb hts in_X0_isOfTape_X0 hown hK hP 0 rfl rfl 3 (by decide) (hts _ m_X0_isOfTape_1) (fun _ h9 => h9) rfl dX0_isOfTape_6 ?_
    refine lv_icmp_ge (tgt := 22) hx hb dX0_isOfTape_9 (by decide) (fun c_2 => ?_) (fun c_2 => ?_)
    · have tc_2 : zk_typedSize.toInt ≤ a_i.toInt := q_le c_2
      refine lv_iconst (v := (0 : Int32)) hx hb dX0_isOfTape_22 (by decide) ?_
      have hE : f_X0_isOfTape zk_typedSize a_i = (0 : Int32) := (by rw [f_X0_isOfTape, if_neg c_1, if_pos c_2])
      exact W.zret (v := (0 : Int32)) hx hb hr (by decide) (fun t ht hW => ⟨⟨(0 : Int32), (), rfl, by rw [hE], trivial⟩, hS.F ht⟩) hS.2.2 dX0_isOfTape_23
    · have tc_2 : a_i.toInt < zk_typedSize.toInt := q_nle c_2
      refine lv_iload_n hx hb dX0_isOfTape_12 rfl (lv_at hl 1 rfl) ?_
      refine lv_bipush (v := (120 : Int32)) hx hb dX0_isOfTape_13 (by decide) ?_
      refine lv_icmp_ge (tgt := 22) hx hb dX0_isOfTape_15 (by decide) (fun c_3 => ?_) (fun c_3 => ?_)
      · have tc_3 : (120 : Int) ≤ a_i.toInt := q_le c_3
        refine lv_iconst (v := (0 : Int32)) hx hb dX0_isOfTape_22 (by decide) ?_
        have hE : f_X0_isOfTape zk_typedSize a_i = (0 : Int32) := (by rw [f_X0_isOfTape, if_neg c_1, if_neg c_2, if_pos c_3])
        exact W.zret (v := (0 : Int32)) hx hb hr (by decide) (fun t ht hW => ⟨⟨(0 : Int32), (), rfl, by rw [hE], trivial⟩, hS.F ht⟩) hS.2.2 dX0_isOfTape_23
      · have tc_3 : a_i.toInt < (120 : Int) := q_nle c_3
        refine lv_iconst (v := (1 : Int32)) hx hb dX0_isOfTape_18 (by decide) ?_
        refine lv_goto (tgt := 23) hx hb dX0_isOfTape_19 (by decide) ?_
        have hE : f_X0_isOfTape zk_typedSize a_i = (1 : Int32) := (by rw [f_X0_isOfTape, if_neg c_1, if_neg c_2, if_neg c_3])
        exact W.zret (v := (1 : Int32)) hx hb hr (by decide) (fun t ht hW => ⟨⟨(1 : Int32), (), rfl, by rw [hE], trivial⟩, hS.F ht⟩) hS.2.2 dX0_isOfTape_23
theorem ofTape_in {z x : Int32} (h : ¬ f_X0_isOfTape z x = (0 : Int32)) : 0 ≤ x.toInt ∧ x.toInt < z.toInt ∧ x.toInt < 120 := by
  rw [f_X0_isOfTape] at h
  by_cases c1 : x < (0 : Int32)
  · rw [if_pos c1] at h; exact absurd rfl h
  · rw [if_neg c1] at h
    by_cases c2 : z ≤ x
    · rw [if_pos c2] at h; exact absurd rfl h
    · rw [if_neg c2] at h
      by_cases c3 : (120 : Int32) ≤ x
      · rw [if_pos c3] at h; exact absurd rfl h
      · exact ⟨q_nlt c1, q_nle c2, q_nle c3⟩
theorem dX0_areAlike_0 : decode cX0_areAlike 0 = .ok (.aload_n 0, 1) := by decide +kernel
theorem dX0_areAlike_1 : decode cX0_areAlike 1 = .ok (.iload_n 1, 1) := by decide +kernel
theorem dX0_areAlike_2 : decode cX0_areAlike 2 = .ok (.invokevirtual 102, 3) := by decide +kernel
set_option maxRecDepth 20000 in
theorem ggX0_areAlike_X0_isOfNow : GoodIn wsX0_areAlike wsX0_isOfNow := goodIn_r _ [7, 8, 14, 15, 16, 17, 18, 19, 20, 21, 22, 23] (by decide +kernel) (by decide +kernel)
set_option maxRecDepth 20000 in
theorem gX0_areAlike_X0_isOfNow : GoodIn wsX0_areAlike (wsV RX0 102 RX0 yX0_isOfNow wsX0_isOfNow) := goodIn_app (goodIn_of _ (by decide +kernel)) ggX0_areAlike_X0_isOfNow
theorem dX0_areAlike_5 : decode cX0_areAlike 5 = .ok (.ifCond .eq 30, 3) := by decide +kernel
theorem dX0_areAlike_35 : decode cX0_areAlike 35 = .ok (.iconst 0, 1) := by decide +kernel
theorem dX0_areAlike_36 : decode cX0_areAlike 36 = .ok (.ireturn, 1) := by decide +kernel
theorem dX0_areAlike_8 : decode cX0_areAlike 8 = .ok (.aload_n 0, 1) := by decide +kernel
theorem dX0_areAlike_9 : decode cX0_areAlike 9 = .ok (.iload_n 2, 1) := by decide +kernel
theorem dX0_areAlike_10 : decode cX0_areAlike 10 = .ok (.invokevirtual 105, 3) := by decide +kernel
set_option maxRecDepth 20000 in
theorem ggX0_areAlike_X0_isOfTape : GoodIn wsX0_areAlike wsX0_isOfTape := goodIn_r _ [12, 13, 14, 15, 16, 17, 18, 19, 20, 21, 22, 23] (by decide +kernel) (by decide +kernel)
set_option maxRecDepth 20000 in
theorem gX0_areAlike_X0_isOfTape : GoodIn wsX0_areAlike (wsV RX0 105 RX0 yX0_isOfTape wsX0_isOfTape) := goodIn_app (goodIn_of _ (by decide +kernel)) ggX0_areAlike_X0_isOfTape
theorem dX0_areAlike_13 : decode cX0_areAlike 13 = .ok (.ifCond .eq 22, 3) := by decide +kernel
theorem dX0_areAlike_16 : decode cX0_areAlike 16 = .ok (.aload_n 0, 1) := by decide +kernel
theorem dX0_areAlike_17 : decode cX0_areAlike 17 = .ok (.getfield 9, 3) := by decide +kernel
theorem in_X0_areAlike_X0 : ∀ w ∈ wsX00, w ∈ wsX0_areAlike := by decide +kernel
theorem m_X0_areAlike_1 : (.fieldLink RX0 9 "RedlineDesk$Comparison" "now" "[I" : Cond) ∈ wsX0_areAlike := List.mem_of_getElem? (i := 1) (by decide +kernel)
theorem dX0_areAlike_20 : decode cX0_areAlike 20 = .ok (.iload_n 1, 1) := by decide +kernel
theorem dX0_areAlike_21 : decode cX0_areAlike 21 = .ok (.iaload, 1) := by decide +kernel
theorem dX0_areAlike_22 : decode cX0_areAlike 22 = .ok (.aload_n 0, 1) := by decide +kernel
theorem dX0_areAlike_23 : decode cX0_areAlike 23 = .ok (.getfield 15, 3) := by decide +kernel
theorem m_X0_areAlike_2 : (.fieldLink RX0 15 "RedlineDesk$Comparison" "typed" "[I" : Cond) ∈ wsX0_areAlike := List.mem_of_getElem? (i := 2) (by decide +kernel)
theorem dX0_areAlike_26 : decode cX0_areAlike 26 = .ok (.iload_n 2, 1) := by decide +kernel
theorem dX0_areAlike_27 : decode cX0_areAlike 27 = .ok (.iaload, 1) := by decide +kernel
theorem dX0_areAlike_28 : decode cX0_areAlike 28 = .ok (.if_icmp .ne 7, 3) := by decide +kernel
theorem dX0_areAlike_31 : decode cX0_areAlike 31 = .ok (.iconst 1, 1) := by decide +kernel
theorem dX0_areAlike_32 : decode cX0_areAlike 32 = .ok (.goto 4, 3) := by decide +kernel
def f_X0_areAlike (zk_now : Nat → Int32) (zk_typed : Nat → Int32) (zk_nowSize : Int32) (zk_typedSize : Int32) (a_i : Int32) (a_j : Int32) : Int32 := if (f_X0_isOfNow zk_nowSize a_i) = (0 : Int32) then (0 : Int32) else if (f_X0_isOfTape zk_typedSize a_j) = (0 : Int32) then (0 : Int32) else if (zk_now (a_i).toNatClampNeg) = (zk_typed (a_j).toNatClampNeg) then (1 : Int32) else (0 : Int32)
set_option maxHeartbeats 4000000 in
set_option maxRecDepth 100000 in
theorem c_X0_areAlike (l : Launch) (dC : Nat → ClassId) (dI : Nat → Nat → Nat) (cI cJ : ClassId) (sz : Nat) (zk azk_now azk_typed azk_strikesNext azk_most : Nat) (zk_now zk_typed zk_most : Nat → Int32) (zk_strikesNext : Nat → Int64) (zk_nowSize zk_typedSize zk_nowFrom zk_nowTo zk_tapeFrom zk_tapeTo : Int32) (a_i : Int32) (a_j : Int32) : Met l yX0_areAlike wsX0_areAlike ({ frames := 1, cells := 0, slots := 0, locals := 21 } : Room) (va_Pc [.ref zk, .int a_i, .int a_j] (PreW dC dI cI cJ sz [(zk, .inr (0, [.ref azk_now, .ref azk_typed, .int zk_nowSize, .int zk_typedSize, .ref azk_strikesNext, .ref azk_most, .int zk_nowFrom, .int zk_nowTo, .int zk_tapeFrom, .int zk_tapeTo])), (azk_now, .inl (cI, 240, .inl zk_now)), (azk_typed, .inl (cI, 120, .inl zk_typed)), (azk_strikesNext, .inl (cJ, 480, .inr (.inl zk_strikesNext))), (azk_most, .inl (cI, 121, .inl zk_most))])) (va_Qi (fun (r : Int32) (_ : Unit) => r = f_X0_areAlike zk_now zk_typed zk_nowSize zk_typedSize a_i a_j) (fun (_ : Unit) _ => True) (fun q => sz ≤ q)) 0 0 (fun q => sz ≤ q) := by
  refine Met.ofW (cc := cX0_areAlike) (maxL := 3) (ret := (some .boolean)) (by decide) rfl ?_
  intro p e s m args below meth c s₁ B hml hv
  obtain ⟨rfl, hsz, hP, hK, hN, hD0⟩ := hv
  have hx := B.exec
  have hb := B.bytes
  have hr := B.returns
  have hts := atoms_spec (ws := wsX0_areAlike) B.pre
  have hown : s.vm.findClass RX0 = some m.cls := findClass_of_methodNamed B.named
  have hlocks := B.notSynchronized
  subst hsz
  have hD := hD0
  generalize hAe : (fun q => s.heap.size ≤ q) = A
  have hA : ∀ q : Nat, s.heap.size ≤ q → A q := fun q h => by rw [← hAe]; exact h
  have hS : va_S A s.heap s.heap [] := va_S.rf
  have hP : va_P (dC, dI) vwCl [(zk, .inr (0, [.ref azk_now, .ref azk_typed, .int zk_nowSize, .int zk_typedSize, .ref azk_strikesNext, .ref azk_most, .int zk_nowFrom, .int zk_nowTo, .int zk_tapeFrom, .int zk_tapeTo])), (azk_now, .inl (cI, 240, .inl zk_now)), (azk_typed, .inl (cI, 120, .inl zk_typed)), (azk_strikesNext, .inl (cJ, 480, .inr (.inl zk_strikesNext))), (azk_most, .inl (cI, 121, .inl zk_most))] s.heap := hP
  have hl := lv_entry ([.ref zk, .int a_i, .int a_j]) (n := 3) (Nat.le_of_ble_eq_true rfl)
  rw [lg_entry_eq]
  generalize (lg_sl ([.ref zk, .int a_i, .int a_j]) ++ List.replicate (3 - (lg_sl ([.ref zk, .int a_i, .int a_j])).length) Slot.unset).toArray = ls at hl ⊢
  have hl : lv_has ls 3 [(0, .ref zk), (1, .int a_i), (2, .int a_j)] := hl
  refine lv_aload_n hx hb dX0_areAlike_0 rfl (lv_at hl 0 rfl) ?_
  refine lv_iload_n hx hb dX0_areAlike_1 rfl (lv_at hl 1 rfl) ?_
  have hPc := hP.sub (ws' := [(zk, .inr (0, [.ref azk_now, .ref azk_typed, .int zk_nowSize, .int zk_typedSize, .ref azk_strikesNext, .ref azk_most, .int zk_nowFrom, .int zk_nowTo, .int zk_tapeFrom, .int zk_tapeTo])), (azk_now, .inl (cI, 240, .inl zk_now)), (azk_typed, .inl (cI, 120, .inl zk_typed)), (azk_strikesNext, .inl (cJ, 480, .inr (.inl zk_strikesNext))), (azk_most, .inl (cI, 121, .inl zk_most))]) [0, 1, 2, 3, 4] rfl
  have hDc := hD.sub (ws' := [(zk, .inr (0, [.ref azk_now, .ref azk_typed, .int zk_nowSize, .int zk_typedSize, .ref azk_strikesNext, .ref azk_most, .int zk_nowFrom, .int zk_nowTo, .int zk_tapeFrom, .int zk_tapeTo])), (azk_now, .inl (cI, 240, .inl zk_now)), (azk_typed, .inl (cI, 120, .inl zk_typed)), (azk_strikesNext, .inl (cJ, 480, .inr (.inl zk_strikesNext))), (azk_most, .inl (cI, 121, .inl zk_most))]) [0, 1, 2, 3, 4] (by decide) rfl
  refine va_calli (va_runV (As := [.int a_i]) (rest := []) ⟨hx, hb, hml, hown, hts⟩ (c_X0_isOfNow l dC dI cI cJ s.heap.size zk azk_now azk_typed azk_strikesNext azk_most zk_now zk_typed zk_most zk_strikesNext zk_nowSize zk_typedSize zk_nowFrom zk_nowTo zk_tapeFrom zk_tapeTo a_i) (cwV 1 hts gX0_areAlike_X0_isOfNow rfl rfl rfl (by decide +kernel) ⟨Nat.le_of_ble_eq_true rfl, Nat.le_of_ble_eq_true rfl⟩) ⟨fun a U g mk q => ⟨q.1, PreW.call g mk a q.2⟩, va_recv hK hP (ci := 0) (q0 := 0) rfl rfl, fun U hU hW => ⟨rfl, PreW.mk2 hU hW hPc hK hN (hDc.weaken (fun _ _ _ _ => trivial))⟩⟩ rfl rfl hl.1 rfl (lv_room (Nat.le_of_ble_eq_true rfl)) dX0_areAlike_2 ⟨Nat.le_of_ble_eq_true rfl, Nat.le_of_ble_eq_true rfl⟩) hS (fun q hq h => absurd hq (Nat.not_lt.mpr h)) (fun q h => hA q (Nat.le_trans hS.1 h)) (fun r_1 _u t H1 locs ht hvm hw hB hz1 hk1 hS => ?_)
  have hP := va_ro hP hk1
  generalize H1 = H at hP hS ⊢
  have hw : r_1 = f_X0_isOfNow zk_nowSize a_i := hw
  subst hw
  obtain ⟨z_2, hz_2⟩ : ∃ z : Int32, z = f_X0_isOfNow zk_nowSize a_i := ⟨_, rfl⟩
  refine lv_if_eq (tgt := 35) hx hb dX0_areAlike_5 (by decide) (fun c_3 => ?_) (fun c_3 => ?_)
  · have tc_3 : z_2.toInt = (0 : Int) := by rw [hz_2]; exact q_eq c_3
    refine lv_iconst (v := (0 : Int32)) hx hb dX0_areAlike_35 (by decide) ?_
    have hE : f_X0_areAlike zk_now zk_typed zk_nowSize zk_typedSize a_i a_j = (0 : Int32) := (by rw [f_X0_areAlike, if_pos c_3])
    exact W.zret (v := (0 : Int32)) hx hb hr (by decide) (fun t ht hW => ⟨⟨(0 : Int32), (), rfl, by rw [hE], trivial⟩, hS.F ht⟩) hS.2.2 dX0_areAlike_36
  · have tc_3 : ¬ z_2.toInt = (0 : Int) := by rw [hz_2]; exact q_ne c_3
    obtain ⟨b_4, b_5, b_6⟩ := ofNow_in c_3
    refine lv_aload_n hx hb dX0_areAlike_8 rfl (lv_at hl 0 rfl) ?_
    refine lv_iload_n hx hb dX0_areAlike_9 rfl (lv_at hl 2 rfl) ?_
    have hPc := hP.sub (ws' := [(zk, .inr (0, [.ref azk_now, .ref azk_typed, .int zk_nowSize, .int zk_typedSize, .ref azk_strikesNext, .ref azk_most, .int zk_nowFrom, .int zk_nowTo, .int zk_tapeFrom, .int zk_tapeTo])), (azk_now, .inl (cI, 240, .inl zk_now)), (azk_typed, .inl (cI, 120, .inl zk_typed)), (azk_strikesNext, .inl (cJ, 480, .inr (.inl zk_strikesNext))), (azk_most, .inl (cI, 121, .inl zk_most))]) [0, 1, 2, 3, 4] rfl
    have hDc := hD.sub (ws' := [(zk, .inr (0, [.ref azk_now, .ref azk_typed, .int zk_nowSize, .int zk_typedSize, .ref azk_strikesNext, .ref azk_most, .int zk_nowFrom, .int zk_nowTo, .int zk_tapeFrom, .int zk_tapeTo])), (azk_now, .inl (cI, 240, .inl zk_now)), (azk_typed, .inl (cI, 120, .inl zk_typed)), (azk_strikesNext, .inl (cJ, 480, .inr (.inl zk_strikesNext))), (azk_most, .inl (cI, 121, .inl zk_most))]) [0, 1, 2, 3, 4] (by decide) rfl
    refine va_calli (va_runV (As := [.int a_j]) (rest := []) ⟨hx, hb, hml, hown, hts⟩ (c_X0_isOfTape l dC dI cI cJ H.size zk azk_now azk_typed azk_strikesNext azk_most zk_now zk_typed zk_most zk_strikesNext zk_nowSize zk_typedSize zk_nowFrom zk_nowTo zk_tapeFrom zk_tapeTo a_j) (cwV 1 hts gX0_areAlike_X0_isOfTape rfl rfl rfl (by decide +kernel) ⟨Nat.le_of_ble_eq_true rfl, Nat.le_of_ble_eq_true rfl⟩) ⟨fun a U g mk q => ⟨q.1, PreW.call g mk a q.2⟩, va_recv hK hP (ci := 0) (q0 := 0) rfl rfl, fun U hU hW => ⟨rfl, PreW.mk2 hU hW hPc hK hN (hDc.weaken (fun _ _ _ _ => trivial))⟩⟩ rfl rfl hl.1 rfl (lv_room (Nat.le_of_ble_eq_true rfl)) dX0_areAlike_10 ⟨Nat.le_of_ble_eq_true rfl, Nat.le_of_ble_eq_true rfl⟩) hS (fun q hq h => absurd hq (Nat.not_lt.mpr h)) (fun q h => hA q (Nat.le_trans hS.1 h)) (fun r_7 _u t H1 locs ht hvm hw hB hz1 hk1 hS => ?_)
    have hP := va_ro hP hk1
    generalize H1 = H at hP hS ⊢
    have hw : r_7 = f_X0_isOfTape zk_typedSize a_j := hw
    subst hw
    obtain ⟨z_8, hz_8⟩ : ∃ z : Int32, z = f_X0_isOfTape zk_typedSize a_j := ⟨_, rfl⟩
    refine lv_if_eq (tgt := 35) hx hb dX0_areAlike_13 (by decide) (fun c_9 => ?_) (fun c_9 => ?_)
    · have tc_9 : z_8.toInt = (0 : Int) := by rw [hz_8]; exact q_eq c_9
      refine lv_iconst (v := (0 : Int32)) hx hb dX0_areAlike_35 (by decide) ?_
      have hE : f_X0_areAlike zk_now zk_typed zk_nowSize zk_typedSize a_i a_j = (0 : Int32) := (by rw [f_X0_areAlike, if_neg c_3, if_pos c_9])
      exact W.zret (v := (0 : Int32)) hx hb hr (by decide) (fun t ht hW => ⟨⟨(0 : Int32), (), rfl, by rw [hE], trivial⟩, hS.F ht⟩) hS.2.2 dX0_areAlike_36
    · have tc_9 : ¬ z_8.toInt = (0 : Int) := by rw [hz_8]; exact q_ne c_9
      obtain ⟨b_10, b_11, b_12⟩ := ofTape_in c_9
      refine lv_aload_n hx hb dX0_areAlike_16 rfl (lv_at hl 0 rfl) ?_
      refine va_get (D := (dC, dI)) (ci := 0) (v := .ref azk_now) (C := RX0) (T := TX0) (N := 10) hx hb hts in_X0_areAlike_X0 hown hK hP 0 rfl rfl 0 (by decide) (hts _ m_X0_areAlike_1) (fun _ h9 => h9) rfl dX0_areAlike_17 ?_
      refine lv_iload_n hx hb dX0_areAlike_20 rfl (lv_at hl 1 rfl) ?_
      refine va_iald (q0 := 1) (t0 := 0) (n := 240) (f := zk_now) hx hb hK hP rfl rfl (vp_in_iff.mpr ⟨by omega, by omega⟩) dX0_areAlike_21 ?_
      refine lv_aload_n hx hb dX0_areAlike_22 rfl (lv_at hl 0 rfl) ?_
      refine va_get (D := (dC, dI)) (ci := 0) (v := .ref azk_typed) (C := RX0) (T := TX0) (N := 10) hx hb hts in_X0_areAlike_X0 hown hK hP 0 rfl rfl 1 (by decide) (hts _ m_X0_areAlike_2) (fun _ h9 => h9) rfl dX0_areAlike_23 ?_
      refine lv_iload_n hx hb dX0_areAlike_26 rfl (lv_at hl 2 rfl) ?_
      refine va_iald (q0 := 2) (t0 := 0) (n := 120) (f := zk_typed) hx hb hK hP rfl rfl (vp_in_iff.mpr ⟨by omega, by omega⟩) dX0_areAlike_27 ?_
      refine lv_icmp_ne (tgt := 35) hx hb dX0_areAlike_28 (by decide) (fun c_13 => ?_) (fun c_13 => ?_)
      · refine lv_iconst (v := (0 : Int32)) hx hb dX0_areAlike_35 (by decide) ?_
        have hE : f_X0_areAlike zk_now zk_typed zk_nowSize zk_typedSize a_i a_j = (0 : Int32) := (by rw [f_X0_areAlike, if_neg c_3, if_neg c_9, if_neg c_13])
        exact W.zret (v := (0 : Int32)) hx hb hr (by decide) (fun t ht hW => ⟨⟨(0 : Int32), (), rfl, by rw [hE], trivial⟩, hS.F ht⟩) hS.2.2 dX0_areAlike_36
      · refine lv_iconst (v := (1 : Int32)) hx hb dX0_areAlike_31 (by decide) ?_
        refine lv_goto (tgt := 36) hx hb dX0_areAlike_32 (by decide) ?_
        have hE : f_X0_areAlike zk_now zk_typed zk_nowSize zk_typedSize a_i a_j = (1 : Int32) := (by rw [f_X0_areAlike, if_neg c_3, if_neg c_9, if_pos c_13])
        exact W.zret (v := (1 : Int32)) hx hb hr (by decide) (fun t ht hW => ⟨⟨(1 : Int32), (), rfl, by rw [hE], trivial⟩, hS.F ht⟩) hS.2.2 dX0_areAlike_36
theorem dX0_isWithinGap_0 : decode cX0_isWithinGap 0 = .ok (.aload_n 0, 1) := by decide +kernel
theorem dX0_isWithinGap_1 : decode cX0_isWithinGap 1 = .ok (.aload_n 0, 1) := by decide +kernel
theorem dX0_isWithinGap_2 : decode cX0_isWithinGap 2 = .ok (.getfield 75, 3) := by decide +kernel
theorem in_X0_isWithinGap_X0 : ∀ w ∈ wsX00, w ∈ wsX0_isWithinGap := by decide +kernel
theorem m_X0_isWithinGap_1 : (.fieldLink RX0 75 "RedlineDesk$Comparison" "nowTo" "I" : Cond) ∈ wsX0_isWithinGap := List.mem_of_getElem? (i := 1) (by decide +kernel)
theorem dX0_isWithinGap_5 : decode cX0_isWithinGap 5 = .ok (.invokevirtual 102, 3) := by decide +kernel
set_option maxRecDepth 20000 in
theorem ggX0_isWithinGap_X0_isOfNow : GoodIn wsX0_isWithinGap wsX0_isOfNow := goodIn_r _ [7, 8, 20, 21, 22, 23, 24, 25, 26, 27, 28, 29] (by decide +kernel) (by decide +kernel)
set_option maxRecDepth 20000 in
theorem gX0_isWithinGap_X0_isOfNow : GoodIn wsX0_isWithinGap (wsV RX0 102 RX0 yX0_isOfNow wsX0_isOfNow) := goodIn_app (goodIn_of _ (by decide +kernel)) ggX0_isWithinGap_X0_isOfNow
theorem dX0_isWithinGap_8 : decode cX0_isWithinGap 8 = .ok (.ifCond .ne 14, 3) := by decide +kernel
theorem dX0_isWithinGap_22 : decode cX0_isWithinGap 22 = .ok (.aload_n 0, 1) := by decide +kernel
theorem dX0_isWithinGap_23 : decode cX0_isWithinGap 23 = .ok (.aload_n 0, 1) := by decide +kernel
theorem dX0_isWithinGap_24 : decode cX0_isWithinGap 24 = .ok (.getfield 75, 3) := by decide +kernel
theorem dX0_isWithinGap_27 : decode cX0_isWithinGap 27 = .ok (.aload_n 0, 1) := by decide +kernel
theorem dX0_isWithinGap_28 : decode cX0_isWithinGap 28 = .ok (.getfield 81, 3) := by decide +kernel
theorem m_X0_isWithinGap_2 : (.fieldLink RX0 81 "RedlineDesk$Comparison" "tapeTo" "I" : Cond) ∈ wsX0_isWithinGap := List.mem_of_getElem? (i := 2) (by decide +kernel)
theorem dX0_isWithinGap_31 : decode cX0_isWithinGap 31 = .ok (.invokevirtual 84, 3) := by decide +kernel
set_option maxRecDepth 20000 in
theorem ggX0_isWithinGap_X0_areAlike : GoodIn wsX0_isWithinGap wsX0_areAlike := goodIn_r _ [17, 18, 19, 3, 4, 5, 6, 7, 8, 9, 10, 11, 12, 13, 20, 21, 22, 23, 24, 25, 26, 27, 28, 29] (by decide +kernel) (by decide +kernel)
set_option maxRecDepth 20000 in
theorem gX0_isWithinGap_X0_areAlike : GoodIn wsX0_isWithinGap (wsV RX0 84 RX0 yX0_areAlike wsX0_areAlike) := goodIn_app (goodIn_of _ (by decide +kernel)) ggX0_isWithinGap_X0_areAlike
theorem dX0_isWithinGap_34 : decode cX0_isWithinGap 34 = .ok (.ifCond .ne 7, 3) := by decide +kernel
theorem dX0_isWithinGap_41 : decode cX0_isWithinGap 41 = .ok (.iconst 0, 1) := by decide +kernel
theorem dX0_isWithinGap_42 : decode cX0_isWithinGap 42 = .ok (.ireturn, 1) := by decide +kernel
theorem dX0_isWithinGap_37 : decode cX0_isWithinGap 37 = .ok (.iconst 1, 1) := by decide +kernel
theorem dX0_isWithinGap_38 : decode cX0_isWithinGap 38 = .ok (.goto 4, 3) := by decide +kernel
theorem dX0_isWithinGap_11 : decode cX0_isWithinGap 11 = .ok (.aload_n 0, 1) := by decide +kernel
theorem dX0_isWithinGap_12 : decode cX0_isWithinGap 12 = .ok (.aload_n 0, 1) := by decide +kernel
theorem dX0_isWithinGap_13 : decode cX0_isWithinGap 13 = .ok (.getfield 81, 3) := by decide +kernel
theorem dX0_isWithinGap_16 : decode cX0_isWithinGap 16 = .ok (.invokevirtual 105, 3) := by decide +kernel
set_option maxRecDepth 20000 in
theorem ggX0_isWithinGap_X0_isOfTape : GoodIn wsX0_isWithinGap wsX0_isOfTape := goodIn_r _ [12, 13, 20, 21, 22, 23, 24, 25, 26, 27, 28, 29] (by decide +kernel) (by decide +kernel)
set_option maxRecDepth 20000 in
theorem gX0_isWithinGap_X0_isOfTape : GoodIn wsX0_isWithinGap (wsV RX0 105 RX0 yX0_isOfTape wsX0_isOfTape) := goodIn_app (goodIn_of _ (by decide +kernel)) ggX0_isWithinGap_X0_isOfTape
theorem dX0_isWithinGap_19 : decode cX0_isWithinGap 19 = .ok (.ifCond .eq 22, 3) := by decide +kernel
def f_X0_isWithinGap (zk_now : Nat → Int32) (zk_typed : Nat → Int32) (zk_nowSize : Int32) (zk_typedSize : Int32) (zk_nowTo : Int32) (zk_tapeTo : Int32) : Int32 := if (f_X0_isOfNow zk_nowSize zk_nowTo) = (0 : Int32) then if (f_X0_isOfTape zk_typedSize zk_tapeTo) = (0 : Int32) then (0 : Int32) else if (f_X0_areAlike zk_now zk_typed zk_nowSize zk_typedSize zk_nowTo zk_tapeTo) = (0 : Int32) then (1 : Int32) else (0 : Int32) else if (f_X0_areAlike zk_now zk_typed zk_nowSize zk_typedSize zk_nowTo zk_tapeTo) = (0 : Int32) then (1 : Int32) else (0 : Int32)
set_option maxHeartbeats 4000000 in
set_option maxRecDepth 100000 in
theorem c_X0_isWithinGap (l : Launch) (dC : Nat → ClassId) (dI : Nat → Nat → Nat) (cI cJ : ClassId) (sz : Nat) (zk azk_now azk_typed azk_strikesNext azk_most : Nat) (zk_now zk_typed zk_most : Nat → Int32) (zk_strikesNext : Nat → Int64) (zk_nowSize zk_typedSize zk_nowFrom zk_nowTo zk_tapeFrom zk_tapeTo : Int32) : Met l yX0_isWithinGap wsX0_isWithinGap ({ frames := 2, cells := 0, slots := 0, locals := 43 } : Room) (va_Pc [.ref zk] (PreW dC dI cI cJ sz [(zk, .inr (0, [.ref azk_now, .ref azk_typed, .int zk_nowSize, .int zk_typedSize, .ref azk_strikesNext, .ref azk_most, .int zk_nowFrom, .int zk_nowTo, .int zk_tapeFrom, .int zk_tapeTo])), (azk_now, .inl (cI, 240, .inl zk_now)), (azk_typed, .inl (cI, 120, .inl zk_typed)), (azk_strikesNext, .inl (cJ, 480, .inr (.inl zk_strikesNext))), (azk_most, .inl (cI, 121, .inl zk_most))])) (va_Qi (fun (r : Int32) (_ : Unit) => r = f_X0_isWithinGap zk_now zk_typed zk_nowSize zk_typedSize zk_nowTo zk_tapeTo) (fun (_ : Unit) _ => True) (fun q => sz ≤ q)) 0 0 (fun q => sz ≤ q) := by
  refine Met.ofW (cc := cX0_isWithinGap) (maxL := 1) (ret := (some .boolean)) (by decide) rfl ?_
  intro p e s m args below meth c s₁ B hml hv
  obtain ⟨rfl, hsz, hP, hK, hN, hD0⟩ := hv
  have hx := B.exec
  have hb := B.bytes
  have hr := B.returns
  have hts := atoms_spec (ws := wsX0_isWithinGap) B.pre
  have hown : s.vm.findClass RX0 = some m.cls := findClass_of_methodNamed B.named
  have hlocks := B.notSynchronized
  subst hsz
  have hD := hD0
  generalize hAe : (fun q => s.heap.size ≤ q) = A
  have hA : ∀ q : Nat, s.heap.size ≤ q → A q := fun q h => by rw [← hAe]; exact h
  have hS : va_S A s.heap s.heap [] := va_S.rf
  have hP : va_P (dC, dI) vwCl [(zk, .inr (0, [.ref azk_now, .ref azk_typed, .int zk_nowSize, .int zk_typedSize, .ref azk_strikesNext, .ref azk_most, .int zk_nowFrom, .int zk_nowTo, .int zk_tapeFrom, .int zk_tapeTo])), (azk_now, .inl (cI, 240, .inl zk_now)), (azk_typed, .inl (cI, 120, .inl zk_typed)), (azk_strikesNext, .inl (cJ, 480, .inr (.inl zk_strikesNext))), (azk_most, .inl (cI, 121, .inl zk_most))] s.heap := hP
  have hl := lv_entry ([.ref zk]) (n := 1) (Nat.le_of_ble_eq_true rfl)
  rw [lg_entry_eq]
  generalize (lg_sl ([.ref zk]) ++ List.replicate (1 - (lg_sl ([.ref zk])).length) Slot.unset).toArray = ls at hl ⊢
  have hl : lv_has ls 1 [(0, .ref zk)] := hl
  refine lv_aload_n hx hb dX0_isWithinGap_0 rfl (lv_at hl 0 rfl) ?_
  refine lv_aload_n hx hb dX0_isWithinGap_1 rfl (lv_at hl 0 rfl) ?_
  refine va_get (D := (dC, dI)) (ci := 0) (v := .int zk_nowTo) (C := RX0) (T := TX0) (N := 10) hx hb hts in_X0_isWithinGap_X0 hown hK hP 0 rfl rfl 7 (by decide) (hts _ m_X0_isWithinGap_1) (fun _ h9 => h9) rfl dX0_isWithinGap_2 ?_
  have hPc := hP.sub (ws' := [(zk, .inr (0, [.ref azk_now, .ref azk_typed, .int zk_nowSize, .int zk_typedSize, .ref azk_strikesNext, .ref azk_most, .int zk_nowFrom, .int zk_nowTo, .int zk_tapeFrom, .int zk_tapeTo])), (azk_now, .inl (cI, 240, .inl zk_now)), (azk_typed, .inl (cI, 120, .inl zk_typed)), (azk_strikesNext, .inl (cJ, 480, .inr (.inl zk_strikesNext))), (azk_most, .inl (cI, 121, .inl zk_most))]) [0, 1, 2, 3, 4] rfl
  have hDc := hD.sub (ws' := [(zk, .inr (0, [.ref azk_now, .ref azk_typed, .int zk_nowSize, .int zk_typedSize, .ref azk_strikesNext, .ref azk_most, .int zk_nowFrom, .int zk_nowTo, .int zk_tapeFrom, .int zk_tapeTo])), (azk_now, .inl (cI, 240, .inl zk_now)), (azk_typed, .inl (cI, 120, .inl zk_typed)), (azk_strikesNext, .inl (cJ, 480, .inr (.inl zk_strikesNext))), (azk_most, .inl (cI, 121, .inl zk_most))]) [0, 1, 2, 3, 4] (by decide) rfl
  refine va_calli (va_runV (As := [.int zk_nowTo]) (rest := []) ⟨hx, hb, hml, hown, hts⟩ (c_X0_isOfNow l dC dI cI cJ s.heap.size zk azk_now azk_typed azk_strikesNext azk_most zk_now zk_typed zk_most zk_strikesNext zk_nowSize zk_typedSize zk_nowFrom zk_nowTo zk_tapeFrom zk_tapeTo zk_nowTo) (cwV 1 hts gX0_isWithinGap_X0_isOfNow rfl rfl rfl (by decide +kernel) ⟨Nat.le_of_ble_eq_true rfl, Nat.le_of_ble_eq_true rfl⟩) ⟨fun a U g mk q => ⟨q.1, PreW.call g mk a q.2⟩, va_recv hK hP (ci := 0) (q0 := 0) rfl rfl, fun U hU hW => ⟨rfl, PreW.mk2 hU hW hPc hK hN (hDc.weaken (fun _ _ _ _ => trivial))⟩⟩ rfl rfl hl.1 rfl (lv_room (Nat.le_of_ble_eq_true rfl)) dX0_isWithinGap_5 ⟨Nat.le_of_ble_eq_true rfl, Nat.le_of_ble_eq_true rfl⟩) hS (fun q hq h => absurd hq (Nat.not_lt.mpr h)) (fun q h => hA q (Nat.le_trans hS.1 h)) (fun r_1 _u t H1 locs ht hvm hw hB hz1 hk1 hS => ?_)
  have hP := va_ro hP hk1
  generalize H1 = H at hP hS ⊢
  have hw : r_1 = f_X0_isOfNow zk_nowSize zk_nowTo := hw
  subst hw
  obtain ⟨z_2, hz_2⟩ : ∃ z : Int32, z = f_X0_isOfNow zk_nowSize zk_nowTo := ⟨_, rfl⟩
  refine lv_if_ne (tgt := 22) hx hb dX0_isWithinGap_8 (by decide) (fun c_3 => ?_) (fun c_3 => ?_)
  · have tc_3 : ¬ z_2.toInt = (0 : Int) := by rw [hz_2]; exact q_ne c_3
    obtain ⟨b_4, b_5, b_6⟩ := ofNow_in c_3
    refine lv_aload_n hx hb dX0_isWithinGap_22 rfl (lv_at hl 0 rfl) ?_
    refine lv_aload_n hx hb dX0_isWithinGap_23 rfl (lv_at hl 0 rfl) ?_
    refine va_get (D := (dC, dI)) (ci := 0) (v := .int zk_nowTo) (C := RX0) (T := TX0) (N := 10) hx hb hts in_X0_isWithinGap_X0 hown hK hP 0 rfl rfl 7 (by decide) (hts _ m_X0_isWithinGap_1) (fun _ h9 => h9) rfl dX0_isWithinGap_24 ?_
    refine lv_aload_n hx hb dX0_isWithinGap_27 rfl (lv_at hl 0 rfl) ?_
    refine va_get (D := (dC, dI)) (ci := 0) (v := .int zk_tapeTo) (C := RX0) (T := TX0) (N := 10) hx hb hts in_X0_isWithinGap_X0 hown hK hP 0 rfl rfl 9 (by decide) (hts _ m_X0_isWithinGap_2) (fun _ h9 => h9) rfl dX0_isWithinGap_28 ?_
    have hPc := hP.sub (ws' := [(zk, .inr (0, [.ref azk_now, .ref azk_typed, .int zk_nowSize, .int zk_typedSize, .ref azk_strikesNext, .ref azk_most, .int zk_nowFrom, .int zk_nowTo, .int zk_tapeFrom, .int zk_tapeTo])), (azk_now, .inl (cI, 240, .inl zk_now)), (azk_typed, .inl (cI, 120, .inl zk_typed)), (azk_strikesNext, .inl (cJ, 480, .inr (.inl zk_strikesNext))), (azk_most, .inl (cI, 121, .inl zk_most))]) [0, 1, 2, 3, 4] rfl
    have hDc := hD.sub (ws' := [(zk, .inr (0, [.ref azk_now, .ref azk_typed, .int zk_nowSize, .int zk_typedSize, .ref azk_strikesNext, .ref azk_most, .int zk_nowFrom, .int zk_nowTo, .int zk_tapeFrom, .int zk_tapeTo])), (azk_now, .inl (cI, 240, .inl zk_now)), (azk_typed, .inl (cI, 120, .inl zk_typed)), (azk_strikesNext, .inl (cJ, 480, .inr (.inl zk_strikesNext))), (azk_most, .inl (cI, 121, .inl zk_most))]) [0, 1, 2, 3, 4] (by decide) rfl
    refine va_calli (va_runV (As := [.int zk_nowTo, .int zk_tapeTo]) (rest := []) ⟨hx, hb, hml, hown, hts⟩ (c_X0_areAlike l dC dI cI cJ H.size zk azk_now azk_typed azk_strikesNext azk_most zk_now zk_typed zk_most zk_strikesNext zk_nowSize zk_typedSize zk_nowFrom zk_nowTo zk_tapeFrom zk_tapeTo zk_nowTo zk_tapeTo) (cwV 2 hts gX0_isWithinGap_X0_areAlike rfl rfl rfl (by decide +kernel) ⟨Nat.le_of_ble_eq_true rfl, Nat.le_of_ble_eq_true rfl⟩) ⟨fun a U g mk q => ⟨q.1, PreW.call g mk a q.2⟩, va_recv hK hP (ci := 0) (q0 := 0) rfl rfl, fun U hU hW => ⟨rfl, PreW.mk2 hU hW hPc hK hN (hDc.weaken (fun _ _ _ _ => trivial))⟩⟩ rfl rfl hl.1 rfl (lv_room (Nat.le_of_ble_eq_true rfl)) dX0_isWithinGap_31 ⟨Nat.le_of_ble_eq_true rfl, Nat.le_of_ble_eq_true rfl⟩) hS (fun q hq h => absurd hq (Nat.not_lt.mpr h)) (fun q h => hA q (Nat.le_trans hS.1 h)) (fun r_7 _u t H1 locs ht hvm hw hB hz1 hk1 hS => ?_)
    have hP := va_ro hP hk1
    generalize H1 = H at hP hS ⊢
    have hw : r_7 = f_X0_areAlike zk_now zk_typed zk_nowSize zk_typedSize zk_nowTo zk_tapeTo := hw
    subst hw
    obtain ⟨z_8, hz_8⟩ : ∃ z : Int32, z = f_X0_areAlike zk_now zk_typed zk_nowSize zk_typedSize zk_nowTo zk_tapeTo := ⟨_, rfl⟩
    refine lv_if_ne (tgt := 41) hx hb dX0_isWithinGap_34 (by decide) (fun c_9 => ?_) (fun c_9 => ?_)
    · have tc_9 : ¬ z_8.toInt = (0 : Int) := by rw [hz_8]; exact q_ne c_9
      refine lv_iconst (v := (0 : Int32)) hx hb dX0_isWithinGap_41 (by decide) ?_
      have hE : f_X0_isWithinGap zk_now zk_typed zk_nowSize zk_typedSize zk_nowTo zk_tapeTo = (0 : Int32) := (by rw [f_X0_isWithinGap, if_neg c_3, if_neg c_9])
      exact W.zret (v := (0 : Int32)) hx hb hr (by decide) (fun t ht hW => ⟨⟨(0 : Int32), (), rfl, by rw [hE], trivial⟩, hS.F ht⟩) hS.2.2 dX0_isWithinGap_42
    · have tc_9 : z_8.toInt = (0 : Int) := by rw [hz_8]; exact q_eq c_9
      refine lv_iconst (v := (1 : Int32)) hx hb dX0_isWithinGap_37 (by decide) ?_
      refine lv_goto (tgt := 42) hx hb dX0_isWithinGap_38 (by decide) ?_
      have hE : f_X0_isWithinGap zk_now zk_typed zk_nowSize zk_typedSize zk_nowTo zk_tapeTo = (1 : Int32) := (by rw [f_X0_isWithinGap, if_neg c_3, if_pos c_9])
      exact W.zret (v := (1 : Int32)) hx hb hr (by decide) (fun t ht hW => ⟨⟨(1 : Int32), (), rfl, by rw [hE], trivial⟩, hS.F ht⟩) hS.2.2 dX0_isWithinGap_42
  · have tc_3 : z_2.toInt = (0 : Int) := by rw [hz_2]; exact q_eq c_3
    refine lv_aload_n hx hb dX0_isWithinGap_11 rfl (lv_at hl 0 rfl) ?_
    refine lv_aload_n hx hb dX0_isWithinGap_12 rfl (lv_at hl 0 rfl) ?_
    refine va_get (D := (dC, dI)) (ci := 0) (v := .int zk_tapeTo) (C := RX0) (T := TX0) (N := 10) hx hb hts in_X0_isWithinGap_X0 hown hK hP 0 rfl rfl 9 (by decide) (hts _ m_X0_isWithinGap_2) (fun _ h9 => h9) rfl dX0_isWithinGap_13 ?_
    have hPc := hP.sub (ws' := [(zk, .inr (0, [.ref azk_now, .ref azk_typed, .int zk_nowSize, .int zk_typedSize, .ref azk_strikesNext, .ref azk_most, .int zk_nowFrom, .int zk_nowTo, .int zk_tapeFrom, .int zk_tapeTo])), (azk_now, .inl (cI, 240, .inl zk_now)), (azk_typed, .inl (cI, 120, .inl zk_typed)), (azk_strikesNext, .inl (cJ, 480, .inr (.inl zk_strikesNext))), (azk_most, .inl (cI, 121, .inl zk_most))]) [0, 1, 2, 3, 4] rfl
    have hDc := hD.sub (ws' := [(zk, .inr (0, [.ref azk_now, .ref azk_typed, .int zk_nowSize, .int zk_typedSize, .ref azk_strikesNext, .ref azk_most, .int zk_nowFrom, .int zk_nowTo, .int zk_tapeFrom, .int zk_tapeTo])), (azk_now, .inl (cI, 240, .inl zk_now)), (azk_typed, .inl (cI, 120, .inl zk_typed)), (azk_strikesNext, .inl (cJ, 480, .inr (.inl zk_strikesNext))), (azk_most, .inl (cI, 121, .inl zk_most))]) [0, 1, 2, 3, 4] (by decide) rfl
    refine va_calli (va_runV (As := [.int zk_tapeTo]) (rest := []) ⟨hx, hb, hml, hown, hts⟩ (c_X0_isOfTape l dC dI cI cJ H.size zk azk_now azk_typed azk_strikesNext azk_most zk_now zk_typed zk_most zk_strikesNext zk_nowSize zk_typedSize zk_nowFrom zk_nowTo zk_tapeFrom zk_tapeTo zk_tapeTo) (cwV 1 hts gX0_isWithinGap_X0_isOfTape rfl rfl rfl (by decide +kernel) ⟨Nat.le_of_ble_eq_true rfl, Nat.le_of_ble_eq_true rfl⟩) ⟨fun a U g mk q => ⟨q.1, PreW.call g mk a q.2⟩, va_recv hK hP (ci := 0) (q0 := 0) rfl rfl, fun U hU hW => ⟨rfl, PreW.mk2 hU hW hPc hK hN (hDc.weaken (fun _ _ _ _ => trivial))⟩⟩ rfl rfl hl.1 rfl (lv_room (Nat.le_of_ble_eq_true rfl)) dX0_isWithinGap_16 ⟨Nat.le_of_ble_eq_true rfl, Nat.le_of_ble_eq_true rfl⟩) hS (fun q hq h => absurd hq (Nat.not_lt.mpr h)) (fun q h => hA q (Nat.le_trans hS.1 h)) (fun r_10 _u t H1 locs ht hvm hw hB hz1 hk1 hS => ?_)
    have hP := va_ro hP hk1
    generalize H1 = H at hP hS ⊢
    have hw : r_10 = f_X0_isOfTape zk_typedSize zk_tapeTo := hw
    subst hw
    obtain ⟨z_11, hz_11⟩ : ∃ z : Int32, z = f_X0_isOfTape zk_typedSize zk_tapeTo := ⟨_, rfl⟩
    refine lv_if_eq (tgt := 41) hx hb dX0_isWithinGap_19 (by decide) (fun c_12 => ?_) (fun c_12 => ?_)
    · have tc_12 : z_11.toInt = (0 : Int) := by rw [hz_11]; exact q_eq c_12
      refine lv_iconst (v := (0 : Int32)) hx hb dX0_isWithinGap_41 (by decide) ?_
      have hE : f_X0_isWithinGap zk_now zk_typed zk_nowSize zk_typedSize zk_nowTo zk_tapeTo = (0 : Int32) := (by rw [f_X0_isWithinGap, if_pos c_3, if_pos c_12])
      exact W.zret (v := (0 : Int32)) hx hb hr (by decide) (fun t ht hW => ⟨⟨(0 : Int32), (), rfl, by rw [hE], trivial⟩, hS.F ht⟩) hS.2.2 dX0_isWithinGap_42
    · have tc_12 : ¬ z_11.toInt = (0 : Int) := by rw [hz_11]; exact q_ne c_12
      obtain ⟨b_13, b_14, b_15⟩ := ofTape_in c_12
      refine lv_aload_n hx hb dX0_isWithinGap_22 rfl (lv_at hl 0 rfl) ?_
      refine lv_aload_n hx hb dX0_isWithinGap_23 rfl (lv_at hl 0 rfl) ?_
      refine va_get (D := (dC, dI)) (ci := 0) (v := .int zk_nowTo) (C := RX0) (T := TX0) (N := 10) hx hb hts in_X0_isWithinGap_X0 hown hK hP 0 rfl rfl 7 (by decide) (hts _ m_X0_isWithinGap_1) (fun _ h9 => h9) rfl dX0_isWithinGap_24 ?_
      refine lv_aload_n hx hb dX0_isWithinGap_27 rfl (lv_at hl 0 rfl) ?_
      refine va_get (D := (dC, dI)) (ci := 0) (v := .int zk_tapeTo) (C := RX0) (T := TX0) (N := 10) hx hb hts in_X0_isWithinGap_X0 hown hK hP 0 rfl rfl 9 (by decide) (hts _ m_X0_isWithinGap_2) (fun _ h9 => h9) rfl dX0_isWithinGap_28 ?_
      have hPc := hP.sub (ws' := [(zk, .inr (0, [.ref azk_now, .ref azk_typed, .int zk_nowSize, .int zk_typedSize, .ref azk_strikesNext, .ref azk_most, .int zk_nowFrom, .int zk_nowTo, .int zk_tapeFrom, .int zk_tapeTo])), (azk_now, .inl (cI, 240, .inl zk_now)), (azk_typed, .inl (cI, 120, .inl zk_typed)), (azk_strikesNext, .inl (cJ, 480, .inr (.inl zk_strikesNext))), (azk_most, .inl (cI, 121, .inl zk_most))]) [0, 1, 2, 3, 4] rfl
      have hDc := hD.sub (ws' := [(zk, .inr (0, [.ref azk_now, .ref azk_typed, .int zk_nowSize, .int zk_typedSize, .ref azk_strikesNext, .ref azk_most, .int zk_nowFrom, .int zk_nowTo, .int zk_tapeFrom, .int zk_tapeTo])), (azk_now, .inl (cI, 240, .inl zk_now)), (azk_typed, .inl (cI, 120, .inl zk_typed)), (azk_strikesNext, .inl (cJ, 480, .inr (.inl zk_strikesNext))), (azk_most, .inl (cI, 121, .inl zk_most))]) [0, 1, 2, 3, 4] (by decide) rfl
      refine va_calli (va_runV (As := [.int zk_nowTo, .int zk_tapeTo]) (rest := []) ⟨hx, hb, hml, hown, hts⟩ (c_X0_areAlike l dC dI cI cJ H.size zk azk_now azk_typed azk_strikesNext azk_most zk_now zk_typed zk_most zk_strikesNext zk_nowSize zk_typedSize zk_nowFrom zk_nowTo zk_tapeFrom zk_tapeTo zk_nowTo zk_tapeTo) (cwV 2 hts gX0_isWithinGap_X0_areAlike rfl rfl rfl (by decide +kernel) ⟨Nat.le_of_ble_eq_true rfl, Nat.le_of_ble_eq_true rfl⟩) ⟨fun a U g mk q => ⟨q.1, PreW.call g mk a q.2⟩, va_recv hK hP (ci := 0) (q0 := 0) rfl rfl, fun U hU hW => ⟨rfl, PreW.mk2 hU hW hPc hK hN (hDc.weaken (fun _ _ _ _ => trivial))⟩⟩ rfl rfl hl.1 rfl (lv_room (Nat.le_of_ble_eq_true rfl)) dX0_isWithinGap_31 ⟨Nat.le_of_ble_eq_true rfl, Nat.le_of_ble_eq_true rfl⟩) hS (fun q hq h => absurd hq (Nat.not_lt.mpr h)) (fun q h => hA q (Nat.le_trans hS.1 h)) (fun r_16 _u t H1 locs ht hvm hw hB hz1 hk1 hS => ?_)
      have hP := va_ro hP hk1
      generalize H1 = H at hP hS ⊢
      have hw : r_16 = f_X0_areAlike zk_now zk_typed zk_nowSize zk_typedSize zk_nowTo zk_tapeTo := hw
      subst hw
      obtain ⟨z_17, hz_17⟩ : ∃ z : Int32, z = f_X0_areAlike zk_now zk_typed zk_nowSize zk_typedSize zk_nowTo zk_tapeTo := ⟨_, rfl⟩
      refine lv_if_ne (tgt := 41) hx hb dX0_isWithinGap_34 (by decide) (fun c_18 => ?_) (fun c_18 => ?_)
      · have tc_18 : ¬ z_17.toInt = (0 : Int) := by rw [hz_17]; exact q_ne c_18
        refine lv_iconst (v := (0 : Int32)) hx hb dX0_isWithinGap_41 (by decide) ?_
        have hE : f_X0_isWithinGap zk_now zk_typed zk_nowSize zk_typedSize zk_nowTo zk_tapeTo = (0 : Int32) := (by rw [f_X0_isWithinGap, if_pos c_3, if_neg c_12, if_neg c_18])
        exact W.zret (v := (0 : Int32)) hx hb hr (by decide) (fun t ht hW => ⟨⟨(0 : Int32), (), rfl, by rw [hE], trivial⟩, hS.F ht⟩) hS.2.2 dX0_isWithinGap_42
      · have tc_18 : z_17.toInt = (0 : Int) := by rw [hz_17]; exact q_eq c_18
        refine lv_iconst (v := (1 : Int32)) hx hb dX0_isWithinGap_37 (by decide) ?_
        refine lv_goto (tgt := 42) hx hb dX0_isWithinGap_38 (by decide) ?_
        have hE : f_X0_isWithinGap zk_now zk_typed zk_nowSize zk_typedSize zk_nowTo zk_tapeTo = (1 : Int32) := (by rw [f_X0_isWithinGap, if_pos c_3, if_neg c_12, if_pos c_18])
        exact W.zret (v := (1 : Int32)) hx hb hr (by decide) (fun t ht hW => ⟨⟨(1 : Int32), (), rfl, by rw [hE], trivial⟩, hS.F ht⟩) hS.2.2 dX0_isWithinGap_42
theorem dX0_isStruckNext_0 : decode cX0_isStruckNext 0 = .ok (.aload_n 0, 1) := by decide +kernel
theorem dX0_isStruckNext_1 : decode cX0_isStruckNext 1 = .ok (.iload_n 1, 1) := by decide +kernel
theorem dX0_isStruckNext_2 : decode cX0_isStruckNext 2 = .ok (.invokevirtual 102, 3) := by decide +kernel
set_option maxRecDepth 20000 in
theorem ggX0_isStruckNext_X0_isOfNow : GoodIn wsX0_isStruckNext wsX0_isOfNow := goodIn_r _ [6, 7, 13, 14, 15, 16, 17, 18, 19, 20, 21, 22] (by decide +kernel) (by decide +kernel)
set_option maxRecDepth 20000 in
theorem gX0_isStruckNext_X0_isOfNow : GoodIn wsX0_isStruckNext (wsV RX0 102 RX0 yX0_isOfNow wsX0_isOfNow) := goodIn_app (goodIn_of _ (by decide +kernel)) ggX0_isStruckNext_X0_isOfNow
theorem dX0_isStruckNext_5 : decode cX0_isStruckNext 5 = .ok (.ifCond .ne 5, 3) := by decide +kernel
theorem dX0_isStruckNext_10 : decode cX0_isStruckNext 10 = .ok (.aload_n 0, 1) := by decide +kernel
theorem dX0_isStruckNext_11 : decode cX0_isStruckNext 11 = .ok (.iload_n 2, 1) := by decide +kernel
theorem dX0_isStruckNext_12 : decode cX0_isStruckNext 12 = .ok (.invokevirtual 105, 3) := by decide +kernel
set_option maxRecDepth 20000 in
theorem ggX0_isStruckNext_X0_isOfTape : GoodIn wsX0_isStruckNext wsX0_isOfTape := goodIn_r _ [11, 12, 13, 14, 15, 16, 17, 18, 19, 20, 21, 22] (by decide +kernel) (by decide +kernel)
set_option maxRecDepth 20000 in
theorem gX0_isStruckNext_X0_isOfTape : GoodIn wsX0_isStruckNext (wsV RX0 105 RX0 yX0_isOfTape wsX0_isOfTape) := goodIn_app (goodIn_of _ (by decide +kernel)) ggX0_isStruckNext_X0_isOfTape
theorem dX0_isStruckNext_15 : decode cX0_isStruckNext 15 = .ok (.ifCond .ne 5, 3) := by decide +kernel
theorem dX0_isStruckNext_20 : decode cX0_isStruckNext 20 = .ok (.iload_n 2, 1) := by decide +kernel
theorem dX0_isStruckNext_21 : decode cX0_isStruckNext 21 = .ok (.bipush 64, 2) := by decide +kernel
theorem dX0_isStruckNext_23 : decode cX0_isStruckNext 23 = .ok (.if_icmp .ge 14, 3) := by decide +kernel
theorem dX0_isStruckNext_37 : decode cX0_isStruckNext 37 = .ok (.aload_n 0, 1) := by decide +kernel
theorem dX0_isStruckNext_38 : decode cX0_isStruckNext 38 = .ok (.getfield 18, 3) := by decide +kernel
theorem in_X0_isStruckNext_X0 : ∀ w ∈ wsX00, w ∈ wsX0_isStruckNext := by decide +kernel
theorem m_X0_isStruckNext_1 : (.fieldLink RX0 18 "RedlineDesk$Comparison" "strikesNext" "[J" : Cond) ∈ wsX0_isStruckNext := List.mem_of_getElem? (i := 1) (by decide +kernel)
theorem dX0_isStruckNext_41 : decode cX0_isStruckNext 41 = .ok (.iconst 2, 1) := by decide +kernel
theorem dX0_isStruckNext_42 : decode cX0_isStruckNext 42 = .ok (.iload_n 1, 1) := by decide +kernel
theorem dX0_isStruckNext_43 : decode cX0_isStruckNext 43 = .ok (.imul, 1) := by decide +kernel
theorem dX0_isStruckNext_44 : decode cX0_isStruckNext 44 = .ok (.iconst 1, 1) := by decide +kernel
theorem dX0_isStruckNext_45 : decode cX0_isStruckNext 45 = .ok (.iadd, 1) := by decide +kernel
theorem dX0_isStruckNext_46 : decode cX0_isStruckNext 46 = .ok (.laload, 1) := by decide +kernel
theorem dX0_isStruckNext_47 : decode cX0_isStruckNext 47 = .ok (.lstore_n 3, 1) := by decide +kernel
theorem dX0_isStruckNext_48 : decode cX0_isStruckNext 48 = .ok (.lload_n 3, 1) := by decide +kernel
theorem dX0_isStruckNext_49 : decode cX0_isStruckNext 49 = .ok (.iload_n 2, 1) := by decide +kernel
theorem dX0_isStruckNext_50 : decode cX0_isStruckNext 50 = .ok (.bipush 64, 2) := by decide +kernel
theorem dX0_isStruckNext_52 : decode cX0_isStruckNext 52 = .ok (.if_icmp .ge 7, 3) := by decide +kernel
theorem dX0_isStruckNext_59 : decode cX0_isStruckNext 59 = .ok (.iload_n 2, 1) := by decide +kernel
theorem dX0_isStruckNext_60 : decode cX0_isStruckNext 60 = .ok (.bipush 64, 2) := by decide +kernel
theorem dX0_isStruckNext_62 : decode cX0_isStruckNext 62 = .ok (.isub, 1) := by decide +kernel
theorem dX0_isStruckNext_63 : decode cX0_isStruckNext 63 = .ok (.lushr, 1) := by decide +kernel
theorem dX0_isStruckNext_64 : decode cX0_isStruckNext 64 = .ok (.lconst 1, 1) := by decide +kernel
theorem dX0_isStruckNext_65 : decode cX0_isStruckNext 65 = .ok (.land, 1) := by decide +kernel
theorem dX0_isStruckNext_66 : decode cX0_isStruckNext 66 = .ok (.lconst 0, 1) := by decide +kernel
theorem dX0_isStruckNext_67 : decode cX0_isStruckNext 67 = .ok (.lcmp, 1) := by decide +kernel
theorem dX0_isStruckNext_68 : decode cX0_isStruckNext 68 = .ok (.ifCond .eq 7, 3) := by decide +kernel
theorem dX0_isStruckNext_75 : decode cX0_isStruckNext 75 = .ok (.iconst 0, 1) := by decide +kernel
theorem dX0_isStruckNext_76 : decode cX0_isStruckNext 76 = .ok (.ireturn, 1) := by decide +kernel
theorem dX0_isStruckNext_71 : decode cX0_isStruckNext 71 = .ok (.iconst 1, 1) := by decide +kernel
theorem dX0_isStruckNext_72 : decode cX0_isStruckNext 72 = .ok (.goto 4, 3) := by decide +kernel
theorem dX0_isStruckNext_55 : decode cX0_isStruckNext 55 = .ok (.iload_n 2, 1) := by decide +kernel
theorem dX0_isStruckNext_56 : decode cX0_isStruckNext 56 = .ok (.goto 7, 3) := by decide +kernel
theorem dX0_isStruckNext_26 : decode cX0_isStruckNext 26 = .ok (.aload_n 0, 1) := by decide +kernel
theorem dX0_isStruckNext_27 : decode cX0_isStruckNext 27 = .ok (.getfield 18, 3) := by decide +kernel
theorem dX0_isStruckNext_30 : decode cX0_isStruckNext 30 = .ok (.iconst 2, 1) := by decide +kernel
theorem dX0_isStruckNext_31 : decode cX0_isStruckNext 31 = .ok (.iload_n 1, 1) := by decide +kernel
theorem dX0_isStruckNext_32 : decode cX0_isStruckNext 32 = .ok (.imul, 1) := by decide +kernel
theorem dX0_isStruckNext_33 : decode cX0_isStruckNext 33 = .ok (.laload, 1) := by decide +kernel
theorem dX0_isStruckNext_34 : decode cX0_isStruckNext 34 = .ok (.goto 13, 3) := by decide +kernel
theorem dX0_isStruckNext_18 : decode cX0_isStruckNext 18 = .ok (.iconst 1, 1) := by decide +kernel
theorem dX0_isStruckNext_19 : decode cX0_isStruckNext 19 = .ok (.ireturn, 1) := by decide +kernel
theorem dX0_isStruckNext_8 : decode cX0_isStruckNext 8 = .ok (.iconst 0, 1) := by decide +kernel
theorem dX0_isStruckNext_9 : decode cX0_isStruckNext 9 = .ok (.ireturn, 1) := by decide +kernel
def f_X0_isStruckNext (zk_nowSize : Int32) (zk_typedSize : Int32) (zk_strikesNext : Nat → Int64) (a_i : Int32) (a_j : Int32) : Int32 := if (f_X0_isOfNow zk_nowSize a_i) = (0 : Int32) then (0 : Int32) else if (f_X0_isOfTape zk_typedSize a_j) = (0 : Int32) then (1 : Int32) else if (64 : Int32) ≤ a_j then if (64 : Int32) ≤ a_j then if (lg_cmp ((((zk_strikesNext ((((2 : Int32) * a_i) + (1 : Int32))).toNatClampNeg).toUInt64 >>> ((a_j - (64 : Int32)).toInt64.toUInt64 &&& Int64.toUInt64 63)).toInt64) &&& (1 : Int64)) (0 : Int64)) = (0 : Int32) then (0 : Int32) else (1 : Int32) else if (lg_cmp ((((zk_strikesNext ((((2 : Int32) * a_i) + (1 : Int32))).toNatClampNeg).toUInt64 >>> (a_j.toInt64.toUInt64 &&& Int64.toUInt64 63)).toInt64) &&& (1 : Int64)) (0 : Int64)) = (0 : Int32) then (0 : Int32) else (1 : Int32) else if (64 : Int32) ≤ a_j then if (lg_cmp ((((zk_strikesNext (((2 : Int32) * a_i)).toNatClampNeg).toUInt64 >>> ((a_j - (64 : Int32)).toInt64.toUInt64 &&& Int64.toUInt64 63)).toInt64) &&& (1 : Int64)) (0 : Int64)) = (0 : Int32) then (0 : Int32) else (1 : Int32) else if (lg_cmp ((((zk_strikesNext (((2 : Int32) * a_i)).toNatClampNeg).toUInt64 >>> (a_j.toInt64.toUInt64 &&& Int64.toUInt64 63)).toInt64) &&& (1 : Int64)) (0 : Int64)) = (0 : Int32) then (0 : Int32) else (1 : Int32)
set_option maxHeartbeats 4000000 in
set_option maxRecDepth 100000 in
theorem c_X0_isStruckNext (l : Launch) (dC : Nat → ClassId) (dI : Nat → Nat → Nat) (cI cJ : ClassId) (sz : Nat) (zk azk_now azk_typed azk_strikesNext azk_most : Nat) (zk_now zk_typed zk_most : Nat → Int32) (zk_strikesNext : Nat → Int64) (zk_nowSize zk_typedSize zk_nowFrom zk_nowTo zk_tapeFrom zk_tapeTo : Int32) (a_i : Int32) (a_j : Int32) : Met l yX0_isStruckNext wsX0_isStruckNext ({ frames := 1, cells := 0, slots := 0, locals := 21 } : Room) (va_Pc [.ref zk, .int a_i, .int a_j] (PreW dC dI cI cJ sz [(zk, .inr (0, [.ref azk_now, .ref azk_typed, .int zk_nowSize, .int zk_typedSize, .ref azk_strikesNext, .ref azk_most, .int zk_nowFrom, .int zk_nowTo, .int zk_tapeFrom, .int zk_tapeTo])), (azk_now, .inl (cI, 240, .inl zk_now)), (azk_typed, .inl (cI, 120, .inl zk_typed)), (azk_strikesNext, .inl (cJ, 480, .inr (.inl zk_strikesNext))), (azk_most, .inl (cI, 121, .inl zk_most))])) (va_Qi (fun (r : Int32) (_ : Unit) => r = f_X0_isStruckNext zk_nowSize zk_typedSize zk_strikesNext a_i a_j) (fun (_ : Unit) _ => True) (fun q => sz ≤ q)) 0 0 (fun q => sz ≤ q) := by
  refine Met.ofW (cc := cX0_isStruckNext) (maxL := 5) (ret := (some .boolean)) (by decide) rfl ?_
  intro p e s m args below meth c s₁ B hml hv
  obtain ⟨rfl, hsz, hP, hK, hN, hD0⟩ := hv
  have hx := B.exec
  have hb := B.bytes
  have hr := B.returns
  have hts := atoms_spec (ws := wsX0_isStruckNext) B.pre
  have hown : s.vm.findClass RX0 = some m.cls := findClass_of_methodNamed B.named
  have hlocks := B.notSynchronized
  subst hsz
  have hD := hD0
  generalize hAe : (fun q => s.heap.size ≤ q) = A
  have hA : ∀ q : Nat, s.heap.size ≤ q → A q := fun q h => by rw [← hAe]; exact h
  have hS : va_S A s.heap s.heap [] := va_S.rf
  have hP : va_P (dC, dI) vwCl [(zk, .inr (0, [.ref azk_now, .ref azk_typed, .int zk_nowSize, .int zk_typedSize, .ref azk_strikesNext, .ref azk_most, .int zk_nowFrom, .int zk_nowTo, .int zk_tapeFrom, .int zk_tapeTo])), (azk_now, .inl (cI, 240, .inl zk_now)), (azk_typed, .inl (cI, 120, .inl zk_typed)), (azk_strikesNext, .inl (cJ, 480, .inr (.inl zk_strikesNext))), (azk_most, .inl (cI, 121, .inl zk_most))] s.heap := hP
  have hl := lv_entry ([.ref zk, .int a_i, .int a_j]) (n := 5) (Nat.le_of_ble_eq_true rfl)
  rw [lg_entry_eq]
  generalize (lg_sl ([.ref zk, .int a_i, .int a_j]) ++ List.replicate (5 - (lg_sl ([.ref zk, .int a_i, .int a_j])).length) Slot.unset).toArray = ls at hl ⊢
  have hl : lv_has ls 5 [(0, .ref zk), (1, .int a_i), (2, .int a_j)] := hl
  refine lv_aload_n hx hb dX0_isStruckNext_0 rfl (lv_at hl 0 rfl) ?_
  refine lv_iload_n hx hb dX0_isStruckNext_1 rfl (lv_at hl 1 rfl) ?_
  have hPc := hP.sub (ws' := [(zk, .inr (0, [.ref azk_now, .ref azk_typed, .int zk_nowSize, .int zk_typedSize, .ref azk_strikesNext, .ref azk_most, .int zk_nowFrom, .int zk_nowTo, .int zk_tapeFrom, .int zk_tapeTo])), (azk_now, .inl (cI, 240, .inl zk_now)), (azk_typed, .inl (cI, 120, .inl zk_typed)), (azk_strikesNext, .inl (cJ, 480, .inr (.inl zk_strikesNext))), (azk_most, .inl (cI, 121, .inl zk_most))]) [0, 1, 2, 3, 4] rfl
  have hDc := hD.sub (ws' := [(zk, .inr (0, [.ref azk_now, .ref azk_typed, .int zk_nowSize, .int zk_typedSize, .ref azk_strikesNext, .ref azk_most, .int zk_nowFrom, .int zk_nowTo, .int zk_tapeFrom, .int zk_tapeTo])), (azk_now, .inl (cI, 240, .inl zk_now)), (azk_typed, .inl (cI, 120, .inl zk_typed)), (azk_strikesNext, .inl (cJ, 480, .inr (.inl zk_strikesNext))), (azk_most, .inl (cI, 121, .inl zk_most))]) [0, 1, 2, 3, 4] (by decide) rfl
  refine va_calli (va_runV (As := [.int a_i]) (rest := []) ⟨hx, hb, hml, hown, hts⟩ (c_X0_isOfNow l dC dI cI cJ s.heap.size zk azk_now azk_typed azk_strikesNext azk_most zk_now zk_typed zk_most zk_strikesNext zk_nowSize zk_typedSize zk_nowFrom zk_nowTo zk_tapeFrom zk_tapeTo a_i) (cwV 1 hts gX0_isStruckNext_X0_isOfNow rfl rfl rfl (by decide +kernel) ⟨Nat.le_of_ble_eq_true rfl, Nat.le_of_ble_eq_true rfl⟩) ⟨fun a U g mk q => ⟨q.1, PreW.call g mk a q.2⟩, va_recv hK hP (ci := 0) (q0 := 0) rfl rfl, fun U hU hW => ⟨rfl, PreW.mk2 hU hW hPc hK hN (hDc.weaken (fun _ _ _ _ => trivial))⟩⟩ rfl rfl hl.1 rfl (lv_room (Nat.le_of_ble_eq_true rfl)) dX0_isStruckNext_2 ⟨Nat.le_of_ble_eq_true rfl, Nat.le_of_ble_eq_true rfl⟩) hS (fun q hq h => absurd hq (Nat.not_lt.mpr h)) (fun q h => hA q (Nat.le_trans hS.1 h)) (fun r_1 _u t H1 locs ht hvm hw hB hz1 hk1 hS => ?_)
  have hP := va_ro hP hk1
  generalize H1 = H at hP hS ⊢
  have hw : r_1 = f_X0_isOfNow zk_nowSize a_i := hw
  subst hw
  obtain ⟨z_2, hz_2⟩ : ∃ z : Int32, z = f_X0_isOfNow zk_nowSize a_i := ⟨_, rfl⟩
  refine lv_if_ne (tgt := 10) hx hb dX0_isStruckNext_5 (by decide) (fun c_3 => ?_) (fun c_3 => ?_)
  · have tc_3 : ¬ z_2.toInt = (0 : Int) := by rw [hz_2]; exact q_ne c_3
    obtain ⟨b_4, b_5, b_6⟩ := ofNow_in c_3
    refine lv_aload_n hx hb dX0_isStruckNext_10 rfl (lv_at hl 0 rfl) ?_
    refine lv_iload_n hx hb dX0_isStruckNext_11 rfl (lv_at hl 2 rfl) ?_
    have hPc := hP.sub (ws' := [(zk, .inr (0, [.ref azk_now, .ref azk_typed, .int zk_nowSize, .int zk_typedSize, .ref azk_strikesNext, .ref azk_most, .int zk_nowFrom, .int zk_nowTo, .int zk_tapeFrom, .int zk_tapeTo])), (azk_now, .inl (cI, 240, .inl zk_now)), (azk_typed, .inl (cI, 120, .inl zk_typed)), (azk_strikesNext, .inl (cJ, 480, .inr (.inl zk_strikesNext))), (azk_most, .inl (cI, 121, .inl zk_most))]) [0, 1, 2, 3, 4] rfl
    have hDc := hD.sub (ws' := [(zk, .inr (0, [.ref azk_now, .ref azk_typed, .int zk_nowSize, .int zk_typedSize, .ref azk_strikesNext, .ref azk_most, .int zk_nowFrom, .int zk_nowTo, .int zk_tapeFrom, .int zk_tapeTo])), (azk_now, .inl (cI, 240, .inl zk_now)), (azk_typed, .inl (cI, 120, .inl zk_typed)), (azk_strikesNext, .inl (cJ, 480, .inr (.inl zk_strikesNext))), (azk_most, .inl (cI, 121, .inl zk_most))]) [0, 1, 2, 3, 4] (by decide) rfl
    refine va_calli (va_runV (As := [.int a_j]) (rest := []) ⟨hx, hb, hml, hown, hts⟩ (c_X0_isOfTape l dC dI cI cJ H.size zk azk_now azk_typed azk_strikesNext azk_most zk_now zk_typed zk_most zk_strikesNext zk_nowSize zk_typedSize zk_nowFrom zk_nowTo zk_tapeFrom zk_tapeTo a_j) (cwV 1 hts gX0_isStruckNext_X0_isOfTape rfl rfl rfl (by decide +kernel) ⟨Nat.le_of_ble_eq_true rfl, Nat.le_of_ble_eq_true rfl⟩) ⟨fun a U g mk q => ⟨q.1, PreW.call g mk a q.2⟩, va_recv hK hP (ci := 0) (q0 := 0) rfl rfl, fun U hU hW => ⟨rfl, PreW.mk2 hU hW hPc hK hN (hDc.weaken (fun _ _ _ _ => trivial))⟩⟩ rfl rfl hl.1 rfl (lv_room (Nat.le_of_ble_eq_true rfl)) dX0_isStruckNext_12 ⟨Nat.le_of_ble_eq_true rfl, Nat.le_of_ble_eq_true rfl⟩) hS (fun q hq h => absurd hq (Nat.not_lt.mpr h)) (fun q h => hA q (Nat.le_trans hS.1 h)) (fun r_7 _u t H1 locs ht hvm hw hB hz1 hk1 hS => ?_)
    have hP := va_ro hP hk1
    generalize H1 = H at hP hS ⊢
    have hw : r_7 = f_X0_isOfTape zk_typedSize a_j := hw
    subst hw
    obtain ⟨z_8, hz_8⟩ : ∃ z : Int32, z = f_X0_isOfTape zk_typedSize a_j := ⟨_, rfl⟩
    refine lv_if_ne (tgt := 20) hx hb dX0_isStruckNext_15 (by decide) (fun c_9 => ?_) (fun c_9 => ?_)
    · have tc_9 : ¬ z_8.toInt = (0 : Int) := by rw [hz_8]; exact q_ne c_9
      obtain ⟨b_10, b_11, b_12⟩ := ofTape_in c_9
      refine lv_iload_n hx hb dX0_isStruckNext_20 rfl (lv_at hl 2 rfl) ?_
      refine lv_bipush (v := (64 : Int32)) hx hb dX0_isStruckNext_21 (by decide) ?_
      refine lv_icmp_ge (tgt := 37) hx hb dX0_isStruckNext_23 (by decide) (fun c_13 => ?_) (fun c_13 => ?_)
      · have tc_13 : (64 : Int) ≤ a_j.toInt := q_le c_13
        refine lv_aload_n hx hb dX0_isStruckNext_37 rfl (lv_at hl 0 rfl) ?_
        refine va_get (D := (dC, dI)) (ci := 0) (v := .ref azk_strikesNext) (C := RX0) (T := TX0) (N := 10) hx hb hts in_X0_isStruckNext_X0 hown hK hP 0 rfl rfl 4 (by decide) (hts _ m_X0_isStruckNext_1) (fun _ h9 => h9) rfl dX0_isStruckNext_38 ?_
        refine lv_iconst (v := (2 : Int32)) hx hb dX0_isStruckNext_41 (by decide) ?_
        refine lv_iload_n hx hb dX0_isStruckNext_42 rfl (lv_at hl 1 rfl) ?_
        refine lv_imul hx hb dX0_isStruckNext_43 ?_
        obtain ⟨z_14, hz_14⟩ : ∃ z : Int32, z = ((2 : Int32) * a_i) := ⟨_, rfl⟩
        try have gz_14 : z_14.toInt = (2 : Int) * a_i.toInt := by rw [hz_14]; exact ti_mul2 rfl rfl (by omega) (by omega)
        refine lv_iconst (v := (1 : Int32)) hx hb dX0_isStruckNext_44 (by decide) ?_
        refine lv_iadd hx hb dX0_isStruckNext_45 ?_
        obtain ⟨z_15, hz_15⟩ : ∃ z : Int32, z = (((2 : Int32) * a_i) + (1 : Int32)) := ⟨_, rfl⟩
        try have gz_15 : z_15.toInt = z_14.toInt + (1 : Int) := by rw [hz_15, ← hz_14]; exact ti_add2 rfl rfl (by omega) (by omega)
        refine va_lald (q0 := 3) (t0 := 1) (n := 480) (f := zk_strikesNext) hx hb hK hP rfl rfl (by rw [← hz_15]; exact vp_in_iff.mpr ⟨by omega, by omega⟩) dX0_isStruckNext_46 ?_
        refine lv_lstore_n (lv' := [(3, .long (zk_strikesNext ((((2 : Int32) * a_i) + (1 : Int32))).toNatClampNeg)), (0, .ref zk), (1, .int a_i), (2, .int a_j)]) hx hb dX0_isStruckNext_47 rfl hl (by decide) rfl (fun ls hl => ?_)
        refine lv_lload_n hx hb dX0_isStruckNext_48 rfl (lv_at hl 0 rfl) ?_
        refine lv_iload_n hx hb dX0_isStruckNext_49 rfl (lv_at hl 3 rfl) ?_
        refine lv_bipush (v := (64 : Int32)) hx hb dX0_isStruckNext_50 (by decide) ?_
        refine lv_icmp_ge (tgt := 59) hx hb dX0_isStruckNext_52 (by decide) (fun c_16 => ?_) (fun c_16 => ?_)
        · have tc_16 : (64 : Int) ≤ a_j.toInt := q_le c_16
          refine lv_iload_n hx hb dX0_isStruckNext_59 rfl (lv_at hl 3 rfl) ?_
          refine lv_bipush (v := (64 : Int32)) hx hb dX0_isStruckNext_60 (by decide) ?_
          refine lv_isub hx hb dX0_isStruckNext_62 ?_
          obtain ⟨z_17, hz_17⟩ : ∃ z : Int32, z = (a_j - (64 : Int32)) := ⟨_, rfl⟩
          try have gz_17 : z_17.toInt = a_j.toInt - (64 : Int) := by rw [hz_17]; exact ti_sub2 rfl rfl (by omega) (by omega)
          refine lv_lushr (v := (((zk_strikesNext ((((2 : Int32) * a_i) + (1 : Int32))).toNatClampNeg).toUInt64 >>> ((a_j - (64 : Int32)).toInt64.toUInt64 &&& Int64.toUInt64 63)).toInt64)) hx hb dX0_isStruckNext_63 rfl ?_
          refine lv_lconst (v := (1 : Int64)) hx hb dX0_isStruckNext_64 (by decide) ?_
          refine lv_land hx hb dX0_isStruckNext_65 ?_
          refine lv_lconst (v := (0 : Int64)) hx hb dX0_isStruckNext_66 (by decide) ?_
          refine W.lcmp hx hb dX0_isStruckNext_67 ?_
          refine lv_if_eq (tgt := 75) hx hb dX0_isStruckNext_68 (by decide) (fun c_18 => ?_) (fun c_18 => ?_)
          · refine lv_iconst (v := (0 : Int32)) hx hb dX0_isStruckNext_75 (by decide) ?_
            have hE : f_X0_isStruckNext zk_nowSize zk_typedSize zk_strikesNext a_i a_j = (0 : Int32) := (by rw [f_X0_isStruckNext, if_neg c_3, if_neg c_9, if_pos c_13, if_pos c_16, if_pos c_18])
            exact W.zret (v := (0 : Int32)) hx hb hr (by decide) (fun t ht hW => ⟨⟨(0 : Int32), (), rfl, by rw [hE], trivial⟩, hS.F ht⟩) hS.2.2 dX0_isStruckNext_76
          · refine lv_iconst (v := (1 : Int32)) hx hb dX0_isStruckNext_71 (by decide) ?_
            refine lv_goto (tgt := 76) hx hb dX0_isStruckNext_72 (by decide) ?_
            have hE : f_X0_isStruckNext zk_nowSize zk_typedSize zk_strikesNext a_i a_j = (1 : Int32) := (by rw [f_X0_isStruckNext, if_neg c_3, if_neg c_9, if_pos c_13, if_pos c_16, if_neg c_18])
            exact W.zret (v := (1 : Int32)) hx hb hr (by decide) (fun t ht hW => ⟨⟨(1 : Int32), (), rfl, by rw [hE], trivial⟩, hS.F ht⟩) hS.2.2 dX0_isStruckNext_76
        · have tc_16 : a_j.toInt < (64 : Int) := q_nle c_16
          refine lv_iload_n hx hb dX0_isStruckNext_55 rfl (lv_at hl 3 rfl) ?_
          refine lv_goto (tgt := 63) hx hb dX0_isStruckNext_56 (by decide) ?_
          refine lv_lushr (v := (((zk_strikesNext ((((2 : Int32) * a_i) + (1 : Int32))).toNatClampNeg).toUInt64 >>> (a_j.toInt64.toUInt64 &&& Int64.toUInt64 63)).toInt64)) hx hb dX0_isStruckNext_63 rfl ?_
          refine lv_lconst (v := (1 : Int64)) hx hb dX0_isStruckNext_64 (by decide) ?_
          refine lv_land hx hb dX0_isStruckNext_65 ?_
          refine lv_lconst (v := (0 : Int64)) hx hb dX0_isStruckNext_66 (by decide) ?_
          refine W.lcmp hx hb dX0_isStruckNext_67 ?_
          refine lv_if_eq (tgt := 75) hx hb dX0_isStruckNext_68 (by decide) (fun c_19 => ?_) (fun c_19 => ?_)
          · refine lv_iconst (v := (0 : Int32)) hx hb dX0_isStruckNext_75 (by decide) ?_
            have hE : f_X0_isStruckNext zk_nowSize zk_typedSize zk_strikesNext a_i a_j = (0 : Int32) := (by rw [f_X0_isStruckNext, if_neg c_3, if_neg c_9, if_pos c_13, if_neg c_16, if_pos c_19])
            exact W.zret (v := (0 : Int32)) hx hb hr (by decide) (fun t ht hW => ⟨⟨(0 : Int32), (), rfl, by rw [hE], trivial⟩, hS.F ht⟩) hS.2.2 dX0_isStruckNext_76
          · refine lv_iconst (v := (1 : Int32)) hx hb dX0_isStruckNext_71 (by decide) ?_
            refine lv_goto (tgt := 76) hx hb dX0_isStruckNext_72 (by decide) ?_
            have hE : f_X0_isStruckNext zk_nowSize zk_typedSize zk_strikesNext a_i a_j = (1 : Int32) := (by rw [f_X0_isStruckNext, if_neg c_3, if_neg c_9, if_pos c_13, if_neg c_16, if_neg c_19])
            exact W.zret (v := (1 : Int32)) hx hb hr (by decide) (fun t ht hW => ⟨⟨(1 : Int32), (), rfl, by rw [hE], trivial⟩, hS.F ht⟩) hS.2.2 dX0_isStruckNext_76
      · have tc_13 : a_j.toInt < (64 : Int) := q_nle c_13
        refine lv_aload_n hx hb dX0_isStruckNext_26 rfl (lv_at hl 0 rfl) ?_
        refine va_get (D := (dC, dI)) (ci := 0) (v := .ref azk_strikesNext) (C := RX0) (T := TX0) (N := 10) hx hb hts in_X0_isStruckNext_X0 hown hK hP 0 rfl rfl 4 (by decide) (hts _ m_X0_isStruckNext_1) (fun _ h9 => h9) rfl dX0_isStruckNext_27 ?_
        refine lv_iconst (v := (2 : Int32)) hx hb dX0_isStruckNext_30 (by decide) ?_
        refine lv_iload_n hx hb dX0_isStruckNext_31 rfl (lv_at hl 1 rfl) ?_
        refine lv_imul hx hb dX0_isStruckNext_32 ?_
        obtain ⟨z_20, hz_20⟩ : ∃ z : Int32, z = ((2 : Int32) * a_i) := ⟨_, rfl⟩
        try have gz_20 : z_20.toInt = (2 : Int) * a_i.toInt := by rw [hz_20]; exact ti_mul2 rfl rfl (by omega) (by omega)
        refine va_lald (q0 := 3) (t0 := 1) (n := 480) (f := zk_strikesNext) hx hb hK hP rfl rfl (by rw [← hz_20]; exact vp_in_iff.mpr ⟨by omega, by omega⟩) dX0_isStruckNext_33 ?_
        refine lv_goto (tgt := 47) hx hb dX0_isStruckNext_34 (by decide) ?_
        refine lv_lstore_n (lv' := [(3, .long (zk_strikesNext (((2 : Int32) * a_i)).toNatClampNeg)), (0, .ref zk), (1, .int a_i), (2, .int a_j)]) hx hb dX0_isStruckNext_47 rfl hl (by decide) rfl (fun ls hl => ?_)
        refine lv_lload_n hx hb dX0_isStruckNext_48 rfl (lv_at hl 0 rfl) ?_
        refine lv_iload_n hx hb dX0_isStruckNext_49 rfl (lv_at hl 3 rfl) ?_
        refine lv_bipush (v := (64 : Int32)) hx hb dX0_isStruckNext_50 (by decide) ?_
        refine lv_icmp_ge (tgt := 59) hx hb dX0_isStruckNext_52 (by decide) (fun c_21 => ?_) (fun c_21 => ?_)
        · have tc_21 : (64 : Int) ≤ a_j.toInt := q_le c_21
          refine lv_iload_n hx hb dX0_isStruckNext_59 rfl (lv_at hl 3 rfl) ?_
          refine lv_bipush (v := (64 : Int32)) hx hb dX0_isStruckNext_60 (by decide) ?_
          refine lv_isub hx hb dX0_isStruckNext_62 ?_
          obtain ⟨z_22, hz_22⟩ : ∃ z : Int32, z = (a_j - (64 : Int32)) := ⟨_, rfl⟩
          try have gz_22 : z_22.toInt = a_j.toInt - (64 : Int) := by rw [hz_22]; exact ti_sub2 rfl rfl (by omega) (by omega)
          refine lv_lushr (v := (((zk_strikesNext (((2 : Int32) * a_i)).toNatClampNeg).toUInt64 >>> ((a_j - (64 : Int32)).toInt64.toUInt64 &&& Int64.toUInt64 63)).toInt64)) hx hb dX0_isStruckNext_63 rfl ?_
          refine lv_lconst (v := (1 : Int64)) hx hb dX0_isStruckNext_64 (by decide) ?_
          refine lv_land hx hb dX0_isStruckNext_65 ?_
          refine lv_lconst (v := (0 : Int64)) hx hb dX0_isStruckNext_66 (by decide) ?_
          refine W.lcmp hx hb dX0_isStruckNext_67 ?_
          refine lv_if_eq (tgt := 75) hx hb dX0_isStruckNext_68 (by decide) (fun c_23 => ?_) (fun c_23 => ?_)
          · refine lv_iconst (v := (0 : Int32)) hx hb dX0_isStruckNext_75 (by decide) ?_
            have hE : f_X0_isStruckNext zk_nowSize zk_typedSize zk_strikesNext a_i a_j = (0 : Int32) := (by rw [f_X0_isStruckNext, if_neg c_3, if_neg c_9, if_neg c_13, if_pos c_21, if_pos c_23])
            exact W.zret (v := (0 : Int32)) hx hb hr (by decide) (fun t ht hW => ⟨⟨(0 : Int32), (), rfl, by rw [hE], trivial⟩, hS.F ht⟩) hS.2.2 dX0_isStruckNext_76
          · refine lv_iconst (v := (1 : Int32)) hx hb dX0_isStruckNext_71 (by decide) ?_
            refine lv_goto (tgt := 76) hx hb dX0_isStruckNext_72 (by decide) ?_
            have hE : f_X0_isStruckNext zk_nowSize zk_typedSize zk_strikesNext a_i a_j = (1 : Int32) := (by rw [f_X0_isStruckNext, if_neg c_3, if_neg c_9, if_neg c_13, if_pos c_21, if_neg c_23])
            exact W.zret (v := (1 : Int32)) hx hb hr (by decide) (fun t ht hW => ⟨⟨(1 : Int32), (), rfl, by rw [hE], trivial⟩, hS.F ht⟩) hS.2.2 dX0_isStruckNext_76
        · have tc_21 : a_j.toInt < (64 : Int) := q_nle c_21
          refine lv_iload_n hx hb dX0_isStruckNext_55 rfl (lv_at hl 3 rfl) ?_
          refine lv_goto (tgt := 63) hx hb dX0_isStruckNext_56 (by decide) ?_
          refine lv_lushr (v := (((zk_strikesNext (((2 : Int32) * a_i)).toNatClampNeg).toUInt64 >>> (a_j.toInt64.toUInt64 &&& Int64.toUInt64 63)).toInt64)) hx hb dX0_isStruckNext_63 rfl ?_
          refine lv_lconst (v := (1 : Int64)) hx hb dX0_isStruckNext_64 (by decide) ?_
          refine lv_land hx hb dX0_isStruckNext_65 ?_
          refine lv_lconst (v := (0 : Int64)) hx hb dX0_isStruckNext_66 (by decide) ?_
          refine W.lcmp hx hb dX0_isStruckNext_67 ?_
          refine lv_if_eq (tgt := 75) hx hb dX0_isStruckNext_68 (by decide) (fun c_24 => ?_) (fun c_24 => ?_)
          · refine lv_iconst (v := (0 : Int32)) hx hb dX0_isStruckNext_75 (by decide) ?_
            have hE : f_X0_isStruckNext zk_nowSize zk_typedSize zk_strikesNext a_i a_j = (0 : Int32) := (by rw [f_X0_isStruckNext, if_neg c_3, if_neg c_9, if_neg c_13, if_neg c_21, if_pos c_24])
            exact W.zret (v := (0 : Int32)) hx hb hr (by decide) (fun t ht hW => ⟨⟨(0 : Int32), (), rfl, by rw [hE], trivial⟩, hS.F ht⟩) hS.2.2 dX0_isStruckNext_76
          · refine lv_iconst (v := (1 : Int32)) hx hb dX0_isStruckNext_71 (by decide) ?_
            refine lv_goto (tgt := 76) hx hb dX0_isStruckNext_72 (by decide) ?_
            have hE : f_X0_isStruckNext zk_nowSize zk_typedSize zk_strikesNext a_i a_j = (1 : Int32) := (by rw [f_X0_isStruckNext, if_neg c_3, if_neg c_9, if_neg c_13, if_neg c_21, if_neg c_24])
            exact W.zret (v := (1 : Int32)) hx hb hr (by decide) (fun t ht hW => ⟨⟨(1 : Int32), (), rfl, by rw [hE], trivial⟩, hS.F ht⟩) hS.2.2 dX0_isStruckNext_76
    · have tc_9 : z_8.toInt = (0 : Int) := by rw [hz_8]; exact q_eq c_9
      refine lv_iconst (v := (1 : Int32)) hx hb dX0_isStruckNext_18 (by decide) ?_
      have hE : f_X0_isStruckNext zk_nowSize zk_typedSize zk_strikesNext a_i a_j = (1 : Int32) := (by rw [f_X0_isStruckNext, if_neg c_3, if_pos c_9])
      exact W.zret (v := (1 : Int32)) hx hb hr (by decide) (fun t ht hW => ⟨⟨(1 : Int32), (), rfl, by rw [hE], trivial⟩, hS.F ht⟩) hS.2.2 dX0_isStruckNext_19
  · have tc_3 : z_2.toInt = (0 : Int) := by rw [hz_2]; exact q_eq c_3
    refine lv_iconst (v := (0 : Int32)) hx hb dX0_isStruckNext_8 (by decide) ?_
    have hE : f_X0_isStruckNext zk_nowSize zk_typedSize zk_strikesNext a_i a_j = (0 : Int32) := (by rw [f_X0_isStruckNext, if_pos c_3])
    exact W.zret (v := (0 : Int32)) hx hb hr (by decide) (fun t ht hW => ⟨⟨(0 : Int32), (), rfl, by rw [hE], trivial⟩, hS.F ht⟩) hS.2.2 dX0_isStruckNext_9
theorem dX0_restart_0 : decode cX0_restart 0 = .ok (.aload_n 0, 1) := by decide +kernel
theorem dX0_restart_1 : decode cX0_restart 1 = .ok (.iconst 0, 1) := by decide +kernel
theorem dX0_restart_2 : decode cX0_restart 2 = .ok (.putfield 72, 3) := by decide +kernel
theorem in_X0_restart_X0 : ∀ w ∈ wsX00, w ∈ wsX0_restart := by decide +kernel
theorem m_X0_restart_1 : (.fieldLink RX0 72 "RedlineDesk$Comparison" "nowFrom" "I" : Cond) ∈ wsX0_restart := List.mem_of_getElem? (i := 1) (by decide +kernel)
theorem dX0_restart_5 : decode cX0_restart 5 = .ok (.aload_n 0, 1) := by decide +kernel
theorem dX0_restart_6 : decode cX0_restart 6 = .ok (.iconst 0, 1) := by decide +kernel
theorem dX0_restart_7 : decode cX0_restart 7 = .ok (.putfield 75, 3) := by decide +kernel
theorem m_X0_restart_2 : (.fieldLink RX0 75 "RedlineDesk$Comparison" "nowTo" "I" : Cond) ∈ wsX0_restart := List.mem_of_getElem? (i := 2) (by decide +kernel)
theorem dX0_restart_10 : decode cX0_restart 10 = .ok (.aload_n 0, 1) := by decide +kernel
theorem dX0_restart_11 : decode cX0_restart 11 = .ok (.iconst 0, 1) := by decide +kernel
theorem dX0_restart_12 : decode cX0_restart 12 = .ok (.putfield 78, 3) := by decide +kernel
theorem m_X0_restart_3 : (.fieldLink RX0 78 "RedlineDesk$Comparison" "tapeFrom" "I" : Cond) ∈ wsX0_restart := List.mem_of_getElem? (i := 3) (by decide +kernel)
theorem dX0_restart_15 : decode cX0_restart 15 = .ok (.aload_n 0, 1) := by decide +kernel
theorem dX0_restart_16 : decode cX0_restart 16 = .ok (.iconst 0, 1) := by decide +kernel
theorem dX0_restart_17 : decode cX0_restart 17 = .ok (.putfield 81, 3) := by decide +kernel
theorem m_X0_restart_4 : (.fieldLink RX0 81 "RedlineDesk$Comparison" "tapeTo" "I" : Cond) ∈ wsX0_restart := List.mem_of_getElem? (i := 4) (by decide +kernel)
theorem dX0_restart_20 : decode cX0_restart 20 = .ok (.return_, 1) := by decide +kernel
def f_X0_restart : Int32 × Int32 × Int32 × Int32 := ((0 : Int32), (0 : Int32), (0 : Int32), (0 : Int32))
set_option maxHeartbeats 4000000 in
set_option maxRecDepth 100000 in
theorem c_X0_restart (l : Launch) (dC : Nat → ClassId) (dI : Nat → Nat → Nat) (cI cJ : ClassId) (sz : Nat) (zk azk_now azk_typed azk_strikesNext azk_most : Nat) (zk_now zk_typed zk_most : Nat → Int32) (zk_strikesNext : Nat → Int64) (zk_nowSize zk_typedSize zk_nowFrom zk_nowTo zk_tapeFrom zk_tapeTo : Int32) : Met l yX0_restart wsX0_restart ({ frames := 0, cells := 0, slots := 0, locals := 0 } : Room) (va_Pc [.ref zk] (PreW dC dI cI cJ sz [(zk, .inr (0, [.ref azk_now, .ref azk_typed, .int zk_nowSize, .int zk_typedSize, .ref azk_strikesNext, .ref azk_most, .int zk_nowFrom, .int zk_nowTo, .int zk_tapeFrom, .int zk_tapeTo])), (azk_now, .inl (cI, 240, .inl zk_now)), (azk_typed, .inl (cI, 120, .inl zk_typed)), (azk_strikesNext, .inl (cJ, 480, .inr (.inl zk_strikesNext))), (azk_most, .inl (cI, 121, .inl zk_most))])) (va_Qv (fun (u : Int32 × Int32 × Int32 × Int32) => u = f_X0_restart) (fun (u : Int32 × Int32 × Int32 × Int32) t => PostW dC dI [(zk, .inr (0, [.ref azk_now, .ref azk_typed, .int zk_nowSize, .int zk_typedSize, .ref azk_strikesNext, .ref azk_most, .int u.1, .int u.2.1, .int u.2.2.1, .int u.2.2.2])), (azk_now, .inl (cI, 240, .inl zk_now)), (azk_typed, .inl (cI, 120, .inl zk_typed)), (azk_strikesNext, .inl (cJ, 480, .inr (.inl zk_strikesNext))), (azk_most, .inl (cI, 121, .inl zk_most))] t (va_A [(zk, .inr (0, [.ref azk_now, .ref azk_typed, .int zk_nowSize, .int zk_typedSize, .ref azk_strikesNext, .ref azk_most, .int zk_nowFrom, .int zk_nowTo, .int zk_tapeFrom, .int zk_tapeTo])), (azk_now, .inl (cI, 240, .inl zk_now)), (azk_typed, .inl (cI, 120, .inl zk_typed)), (azk_strikesNext, .inl (cJ, 480, .inr (.inl zk_strikesNext))), (azk_most, .inl (cI, 121, .inl zk_most))] sz)) (va_A [(zk, .inr (0, [.ref azk_now, .ref azk_typed, .int zk_nowSize, .int zk_typedSize, .ref azk_strikesNext, .ref azk_most, .int zk_nowFrom, .int zk_nowTo, .int zk_tapeFrom, .int zk_tapeTo])), (azk_now, .inl (cI, 240, .inl zk_now)), (azk_typed, .inl (cI, 120, .inl zk_typed)), (azk_strikesNext, .inl (cJ, 480, .inr (.inl zk_strikesNext))), (azk_most, .inl (cI, 121, .inl zk_most))] sz)) 0 0 (va_A [(zk, .inr (0, [.ref azk_now, .ref azk_typed, .int zk_nowSize, .int zk_typedSize, .ref azk_strikesNext, .ref azk_most, .int zk_nowFrom, .int zk_nowTo, .int zk_tapeFrom, .int zk_tapeTo])), (azk_now, .inl (cI, 240, .inl zk_now)), (azk_typed, .inl (cI, 120, .inl zk_typed)), (azk_strikesNext, .inl (cJ, 480, .inr (.inl zk_strikesNext))), (azk_most, .inl (cI, 121, .inl zk_most))] sz) := by
  refine Met.ofW (cc := cX0_restart) (maxL := 1) (ret := none) (by decide) rfl ?_
  intro p e s m args below meth c s₁ B hml hv
  obtain ⟨rfl, hsz, hP, hK, hN, hD0⟩ := hv
  have hx := B.exec
  have hb := B.bytes
  have hr := B.returns
  have hts := atoms_spec (ws := wsX0_restart) B.pre
  have hown : s.vm.findClass RX0 = some m.cls := findClass_of_methodNamed B.named
  have hlocks := B.notSynchronized
  subst hsz
  have hD := hD0.self (sz := s.heap.size)
  generalize hAe : va_A [(zk, .inr (0, [.ref azk_now, .ref azk_typed, .int zk_nowSize, .int zk_typedSize, .ref azk_strikesNext, .ref azk_most, .int zk_nowFrom, .int zk_nowTo, .int zk_tapeFrom, .int zk_tapeTo])), (azk_now, .inl (cI, 240, .inl zk_now)), (azk_typed, .inl (cI, 120, .inl zk_typed)), (azk_strikesNext, .inl (cJ, 480, .inr (.inl zk_strikesNext))), (azk_most, .inl (cI, 121, .inl zk_most))] s.heap.size = A at hD ⊢
  have hA : ∀ q : Nat, s.heap.size ≤ q → A q := fun q h => by rw [← hAe]; exact Or.inr h
  have hS : va_S A s.heap s.heap [] := va_S.rf
  have hP : va_P (dC, dI) vwCl [(zk, .inr (0, [.ref azk_now, .ref azk_typed, .int zk_nowSize, .int zk_typedSize, .ref azk_strikesNext, .ref azk_most, .int zk_nowFrom, .int zk_nowTo, .int zk_tapeFrom, .int zk_tapeTo])), (azk_now, .inl (cI, 240, .inl zk_now)), (azk_typed, .inl (cI, 120, .inl zk_typed)), (azk_strikesNext, .inl (cJ, 480, .inr (.inl zk_strikesNext))), (azk_most, .inl (cI, 121, .inl zk_most))] s.heap := hP
  have hl := lv_entry ([.ref zk]) (n := 1) (Nat.le_of_ble_eq_true rfl)
  rw [lg_entry_eq]
  generalize (lg_sl ([.ref zk]) ++ List.replicate (1 - (lg_sl ([.ref zk])).length) Slot.unset).toArray = ls at hl ⊢
  have hl : lv_has ls 1 [(0, .ref zk)] := hl
  refine lv_aload_n hx hb dX0_restart_0 rfl (lv_at hl 0 rfl) ?_
  refine lv_iconst (v := (0 : Int32)) hx hb dX0_restart_1 (by decide) ?_
  refine va_put (D := (dC, dI)) (ci := 0) (v := .int (0 : Int32)) (ty := .int) (C := RX0) (T := TX0) (N := 10) hx hb hts in_X0_restart_X0 tyX0 tyX0_ok nmX0 hown hK hP hD hS 0 rfl rfl 6 (by decide) (hts _ m_X0_restart_1) (fun _ h9 => h9) rfl (by decide +kernel) rfl rfl (Nat.le_of_ble_eq_true rfl) dX0_restart_2 (fun H locs hP hD hS => ?_)
  have hP : va_P (dC, dI) vwCl [(zk, .inr (0, [.ref azk_now, .ref azk_typed, .int zk_nowSize, .int zk_typedSize, .ref azk_strikesNext, .ref azk_most, .int (0 : Int32), .int zk_nowTo, .int zk_tapeFrom, .int zk_tapeTo])), (azk_now, .inl (cI, 240, .inl zk_now)), (azk_typed, .inl (cI, 120, .inl zk_typed)), (azk_strikesNext, .inl (cJ, 480, .inr (.inl zk_strikesNext))), (azk_most, .inl (cI, 121, .inl zk_most))] H := hP
  have hD : va_D A [(zk, .inr (0, [.ref azk_now, .ref azk_typed, .int zk_nowSize, .int zk_typedSize, .ref azk_strikesNext, .ref azk_most, .int (0 : Int32), .int zk_nowTo, .int zk_tapeFrom, .int zk_tapeTo])), (azk_now, .inl (cI, 240, .inl zk_now)), (azk_typed, .inl (cI, 120, .inl zk_typed)), (azk_strikesNext, .inl (cJ, 480, .inr (.inl zk_strikesNext))), (azk_most, .inl (cI, 121, .inl zk_most))] := hD
  refine lv_aload_n hx hb dX0_restart_5 rfl (lv_at hl 0 rfl) ?_
  refine lv_iconst (v := (0 : Int32)) hx hb dX0_restart_6 (by decide) ?_
  refine va_put (D := (dC, dI)) (ci := 0) (v := .int (0 : Int32)) (ty := .int) (C := RX0) (T := TX0) (N := 10) hx hb hts in_X0_restart_X0 tyX0 tyX0_ok nmX0 hown hK hP hD hS 0 rfl rfl 7 (by decide) (hts _ m_X0_restart_2) (fun _ h9 => h9) rfl (by decide +kernel) rfl rfl (Nat.le_of_ble_eq_true rfl) dX0_restart_7 (fun H locs hP hD hS => ?_)
  have hP : va_P (dC, dI) vwCl [(zk, .inr (0, [.ref azk_now, .ref azk_typed, .int zk_nowSize, .int zk_typedSize, .ref azk_strikesNext, .ref azk_most, .int (0 : Int32), .int (0 : Int32), .int zk_tapeFrom, .int zk_tapeTo])), (azk_now, .inl (cI, 240, .inl zk_now)), (azk_typed, .inl (cI, 120, .inl zk_typed)), (azk_strikesNext, .inl (cJ, 480, .inr (.inl zk_strikesNext))), (azk_most, .inl (cI, 121, .inl zk_most))] H := hP
  have hD : va_D A [(zk, .inr (0, [.ref azk_now, .ref azk_typed, .int zk_nowSize, .int zk_typedSize, .ref azk_strikesNext, .ref azk_most, .int (0 : Int32), .int (0 : Int32), .int zk_tapeFrom, .int zk_tapeTo])), (azk_now, .inl (cI, 240, .inl zk_now)), (azk_typed, .inl (cI, 120, .inl zk_typed)), (azk_strikesNext, .inl (cJ, 480, .inr (.inl zk_strikesNext))), (azk_most, .inl (cI, 121, .inl zk_most))] := hD
  refine lv_aload_n hx hb dX0_restart_10 rfl (lv_at hl 0 rfl) ?_
  refine lv_iconst (v := (0 : Int32)) hx hb dX0_restart_11 (by decide) ?_
  refine va_put (D := (dC, dI)) (ci := 0) (v := .int (0 : Int32)) (ty := .int) (C := RX0) (T := TX0) (N := 10) hx hb hts in_X0_restart_X0 tyX0 tyX0_ok nmX0 hown hK hP hD hS 0 rfl rfl 8 (by decide) (hts _ m_X0_restart_3) (fun _ h9 => h9) rfl (by decide +kernel) rfl rfl (Nat.le_of_ble_eq_true rfl) dX0_restart_12 (fun H locs hP hD hS => ?_)
  have hP : va_P (dC, dI) vwCl [(zk, .inr (0, [.ref azk_now, .ref azk_typed, .int zk_nowSize, .int zk_typedSize, .ref azk_strikesNext, .ref azk_most, .int (0 : Int32), .int (0 : Int32), .int (0 : Int32), .int zk_tapeTo])), (azk_now, .inl (cI, 240, .inl zk_now)), (azk_typed, .inl (cI, 120, .inl zk_typed)), (azk_strikesNext, .inl (cJ, 480, .inr (.inl zk_strikesNext))), (azk_most, .inl (cI, 121, .inl zk_most))] H := hP
  have hD : va_D A [(zk, .inr (0, [.ref azk_now, .ref azk_typed, .int zk_nowSize, .int zk_typedSize, .ref azk_strikesNext, .ref azk_most, .int (0 : Int32), .int (0 : Int32), .int (0 : Int32), .int zk_tapeTo])), (azk_now, .inl (cI, 240, .inl zk_now)), (azk_typed, .inl (cI, 120, .inl zk_typed)), (azk_strikesNext, .inl (cJ, 480, .inr (.inl zk_strikesNext))), (azk_most, .inl (cI, 121, .inl zk_most))] := hD
  refine lv_aload_n hx hb dX0_restart_15 rfl (lv_at hl 0 rfl) ?_
  refine lv_iconst (v := (0 : Int32)) hx hb dX0_restart_16 (by decide) ?_
  refine va_put (D := (dC, dI)) (ci := 0) (v := .int (0 : Int32)) (ty := .int) (C := RX0) (T := TX0) (N := 10) hx hb hts in_X0_restart_X0 tyX0 tyX0_ok nmX0 hown hK hP hD hS 0 rfl rfl 9 (by decide) (hts _ m_X0_restart_4) (fun _ h9 => h9) rfl (by decide +kernel) rfl rfl (Nat.le_of_ble_eq_true rfl) dX0_restart_17 (fun H locs hP hD hS => ?_)
  have hP : va_P (dC, dI) vwCl [(zk, .inr (0, [.ref azk_now, .ref azk_typed, .int zk_nowSize, .int zk_typedSize, .ref azk_strikesNext, .ref azk_most, .int (0 : Int32), .int (0 : Int32), .int (0 : Int32), .int (0 : Int32)])), (azk_now, .inl (cI, 240, .inl zk_now)), (azk_typed, .inl (cI, 120, .inl zk_typed)), (azk_strikesNext, .inl (cJ, 480, .inr (.inl zk_strikesNext))), (azk_most, .inl (cI, 121, .inl zk_most))] H := hP
  have hD : va_D A [(zk, .inr (0, [.ref azk_now, .ref azk_typed, .int zk_nowSize, .int zk_typedSize, .ref azk_strikesNext, .ref azk_most, .int (0 : Int32), .int (0 : Int32), .int (0 : Int32), .int (0 : Int32)])), (azk_now, .inl (cI, 240, .inl zk_now)), (azk_typed, .inl (cI, 120, .inl zk_typed)), (azk_strikesNext, .inl (cJ, 480, .inr (.inl zk_strikesNext))), (azk_most, .inl (cI, 121, .inl zk_most))] := hD
  have hE : f_X0_restart  = ((0 : Int32), (0 : Int32), (0 : Int32), (0 : Int32)) := (by rw [f_X0_restart])
  exact W.vret hx hb hr (fun t ht hW => ⟨⟨((0 : Int32), (0 : Int32), (0 : Int32), (0 : Int32)), rfl, by rw [hE], ⟨by rw [ht]; exact hP, hD⟩⟩, hS.F ht⟩) hS.2.2 dX0_restart_20
theorem dX0_strikes_0 : decode cX0_strikes 0 = .ok (.aload_n 0, 1) := by decide +kernel
theorem dX0_strikes_1 : decode cX0_strikes 1 = .ok (.getfield 75, 3) := by decide +kernel
theorem in_X0_strikes_X0 : ∀ w ∈ wsX00, w ∈ wsX0_strikes := by decide +kernel
theorem m_X0_strikes_1 : (.fieldLink RX0 75 "RedlineDesk$Comparison" "nowTo" "I" : Cond) ∈ wsX0_strikes := List.mem_of_getElem? (i := 1) (by decide +kernel)
theorem dX0_strikes_4 : decode cX0_strikes 4 = .ok (.aload_n 0, 1) := by decide +kernel
theorem dX0_strikes_5 : decode cX0_strikes 5 = .ok (.getfield 72, 3) := by decide +kernel
theorem m_X0_strikes_2 : (.fieldLink RX0 72 "RedlineDesk$Comparison" "nowFrom" "I" : Cond) ∈ wsX0_strikes := List.mem_of_getElem? (i := 2) (by decide +kernel)
theorem dX0_strikes_8 : decode cX0_strikes 8 = .ok (.isub, 1) := by decide +kernel
theorem dX0_strikes_9 : decode cX0_strikes 9 = .ok (.ireturn, 1) := by decide +kernel
def f_X0_strikes (zk_nowFrom : Int32) (zk_nowTo : Int32) : Int32 := (zk_nowTo - zk_nowFrom)
set_option maxHeartbeats 4000000 in
set_option maxRecDepth 100000 in
theorem c_X0_strikes (l : Launch) (dC : Nat → ClassId) (dI : Nat → Nat → Nat) (cI cJ : ClassId) (sz : Nat) (zk azk_now azk_typed azk_strikesNext azk_most : Nat) (zk_now zk_typed zk_most : Nat → Int32) (zk_strikesNext : Nat → Int64) (zk_nowSize zk_typedSize zk_nowFrom zk_nowTo zk_tapeFrom zk_tapeTo : Int32) : Met l yX0_strikes wsX0_strikes ({ frames := 0, cells := 0, slots := 0, locals := 0 } : Room) (va_Pc [.ref zk] (PreW dC dI cI cJ sz [(zk, .inr (0, [.ref azk_now, .ref azk_typed, .int zk_nowSize, .int zk_typedSize, .ref azk_strikesNext, .ref azk_most, .int zk_nowFrom, .int zk_nowTo, .int zk_tapeFrom, .int zk_tapeTo])), (azk_now, .inl (cI, 240, .inl zk_now)), (azk_typed, .inl (cI, 120, .inl zk_typed)), (azk_strikesNext, .inl (cJ, 480, .inr (.inl zk_strikesNext))), (azk_most, .inl (cI, 121, .inl zk_most))])) (va_Qi (fun (r : Int32) (_ : Unit) => r = f_X0_strikes zk_nowFrom zk_nowTo) (fun (_ : Unit) _ => True) (fun q => sz ≤ q)) 0 0 (fun q => sz ≤ q) := by
  refine Met.ofW (cc := cX0_strikes) (maxL := 1) (ret := (some .int)) (by decide) rfl ?_
  intro p e s m args below meth c s₁ B hml hv
  obtain ⟨rfl, hsz, hP, hK, hN, hD0⟩ := hv
  have hx := B.exec
  have hb := B.bytes
  have hr := B.returns
  have hts := atoms_spec (ws := wsX0_strikes) B.pre
  have hown : s.vm.findClass RX0 = some m.cls := findClass_of_methodNamed B.named
  have hlocks := B.notSynchronized
  subst hsz
  have hD := hD0
  generalize hAe : (fun q => s.heap.size ≤ q) = A
  have hA : ∀ q : Nat, s.heap.size ≤ q → A q := fun q h => by rw [← hAe]; exact h
  have hS : va_S A s.heap s.heap [] := va_S.rf
  have hP : va_P (dC, dI) vwCl [(zk, .inr (0, [.ref azk_now, .ref azk_typed, .int zk_nowSize, .int zk_typedSize, .ref azk_strikesNext, .ref azk_most, .int zk_nowFrom, .int zk_nowTo, .int zk_tapeFrom, .int zk_tapeTo])), (azk_now, .inl (cI, 240, .inl zk_now)), (azk_typed, .inl (cI, 120, .inl zk_typed)), (azk_strikesNext, .inl (cJ, 480, .inr (.inl zk_strikesNext))), (azk_most, .inl (cI, 121, .inl zk_most))] s.heap := hP
  have hl := lv_entry ([.ref zk]) (n := 1) (Nat.le_of_ble_eq_true rfl)
  rw [lg_entry_eq]
  generalize (lg_sl ([.ref zk]) ++ List.replicate (1 - (lg_sl ([.ref zk])).length) Slot.unset).toArray = ls at hl ⊢
  have hl : lv_has ls 1 [(0, .ref zk)] := hl
  refine lv_aload_n hx hb dX0_strikes_0 rfl (lv_at hl 0 rfl) ?_
  refine va_get (D := (dC, dI)) (ci := 0) (v := .int zk_nowTo) (C := RX0) (T := TX0) (N := 10) hx hb hts in_X0_strikes_X0 hown hK hP 0 rfl rfl 7 (by decide) (hts _ m_X0_strikes_1) (fun _ h9 => h9) rfl dX0_strikes_1 ?_
  refine lv_aload_n hx hb dX0_strikes_4 rfl (lv_at hl 0 rfl) ?_
  refine va_get (D := (dC, dI)) (ci := 0) (v := .int zk_nowFrom) (C := RX0) (T := TX0) (N := 10) hx hb hts in_X0_strikes_X0 hown hK hP 0 rfl rfl 6 (by decide) (hts _ m_X0_strikes_2) (fun _ h9 => h9) rfl dX0_strikes_5 ?_
  refine lv_isub hx hb dX0_strikes_8 ?_
  have hE : f_X0_strikes zk_nowFrom zk_nowTo = (zk_nowTo - zk_nowFrom) := (by rw [f_X0_strikes])
  exact W.iret (v := (zk_nowTo - zk_nowFrom)) hx hb hr (fun t ht hW => ⟨⟨(zk_nowTo - zk_nowFrom), (), rfl, by rw [hE], trivial⟩, hS.F ht⟩) hS.2.2 dX0_strikes_9
theorem dX0_puts_0 : decode cX0_puts 0 = .ok (.aload_n 0, 1) := by decide +kernel
theorem dX0_puts_1 : decode cX0_puts 1 = .ok (.getfield 81, 3) := by decide +kernel
theorem in_X0_puts_X0 : ∀ w ∈ wsX00, w ∈ wsX0_puts := by decide +kernel
theorem m_X0_puts_1 : (.fieldLink RX0 81 "RedlineDesk$Comparison" "tapeTo" "I" : Cond) ∈ wsX0_puts := List.mem_of_getElem? (i := 1) (by decide +kernel)
theorem dX0_puts_4 : decode cX0_puts 4 = .ok (.aload_n 0, 1) := by decide +kernel
theorem dX0_puts_5 : decode cX0_puts 5 = .ok (.getfield 78, 3) := by decide +kernel
theorem m_X0_puts_2 : (.fieldLink RX0 78 "RedlineDesk$Comparison" "tapeFrom" "I" : Cond) ∈ wsX0_puts := List.mem_of_getElem? (i := 2) (by decide +kernel)
theorem dX0_puts_8 : decode cX0_puts 8 = .ok (.isub, 1) := by decide +kernel
theorem dX0_puts_9 : decode cX0_puts 9 = .ok (.ireturn, 1) := by decide +kernel
def f_X0_puts (zk_tapeFrom : Int32) (zk_tapeTo : Int32) : Int32 := (zk_tapeTo - zk_tapeFrom)
set_option maxHeartbeats 4000000 in
set_option maxRecDepth 100000 in
theorem c_X0_puts (l : Launch) (dC : Nat → ClassId) (dI : Nat → Nat → Nat) (cI cJ : ClassId) (sz : Nat) (zk azk_now azk_typed azk_strikesNext azk_most : Nat) (zk_now zk_typed zk_most : Nat → Int32) (zk_strikesNext : Nat → Int64) (zk_nowSize zk_typedSize zk_nowFrom zk_nowTo zk_tapeFrom zk_tapeTo : Int32) : Met l yX0_puts wsX0_puts ({ frames := 0, cells := 0, slots := 0, locals := 0 } : Room) (va_Pc [.ref zk] (PreW dC dI cI cJ sz [(zk, .inr (0, [.ref azk_now, .ref azk_typed, .int zk_nowSize, .int zk_typedSize, .ref azk_strikesNext, .ref azk_most, .int zk_nowFrom, .int zk_nowTo, .int zk_tapeFrom, .int zk_tapeTo])), (azk_now, .inl (cI, 240, .inl zk_now)), (azk_typed, .inl (cI, 120, .inl zk_typed)), (azk_strikesNext, .inl (cJ, 480, .inr (.inl zk_strikesNext))), (azk_most, .inl (cI, 121, .inl zk_most))])) (va_Qi (fun (r : Int32) (_ : Unit) => r = f_X0_puts zk_tapeFrom zk_tapeTo) (fun (_ : Unit) _ => True) (fun q => sz ≤ q)) 0 0 (fun q => sz ≤ q) := by
  refine Met.ofW (cc := cX0_puts) (maxL := 1) (ret := (some .int)) (by decide) rfl ?_
  intro p e s m args below meth c s₁ B hml hv
  obtain ⟨rfl, hsz, hP, hK, hN, hD0⟩ := hv
  have hx := B.exec
  have hb := B.bytes
  have hr := B.returns
  have hts := atoms_spec (ws := wsX0_puts) B.pre
  have hown : s.vm.findClass RX0 = some m.cls := findClass_of_methodNamed B.named
  have hlocks := B.notSynchronized
  subst hsz
  have hD := hD0
  generalize hAe : (fun q => s.heap.size ≤ q) = A
  have hA : ∀ q : Nat, s.heap.size ≤ q → A q := fun q h => by rw [← hAe]; exact h
  have hS : va_S A s.heap s.heap [] := va_S.rf
  have hP : va_P (dC, dI) vwCl [(zk, .inr (0, [.ref azk_now, .ref azk_typed, .int zk_nowSize, .int zk_typedSize, .ref azk_strikesNext, .ref azk_most, .int zk_nowFrom, .int zk_nowTo, .int zk_tapeFrom, .int zk_tapeTo])), (azk_now, .inl (cI, 240, .inl zk_now)), (azk_typed, .inl (cI, 120, .inl zk_typed)), (azk_strikesNext, .inl (cJ, 480, .inr (.inl zk_strikesNext))), (azk_most, .inl (cI, 121, .inl zk_most))] s.heap := hP
  have hl := lv_entry ([.ref zk]) (n := 1) (Nat.le_of_ble_eq_true rfl)
  rw [lg_entry_eq]
  generalize (lg_sl ([.ref zk]) ++ List.replicate (1 - (lg_sl ([.ref zk])).length) Slot.unset).toArray = ls at hl ⊢
  have hl : lv_has ls 1 [(0, .ref zk)] := hl
  refine lv_aload_n hx hb dX0_puts_0 rfl (lv_at hl 0 rfl) ?_
  refine va_get (D := (dC, dI)) (ci := 0) (v := .int zk_tapeTo) (C := RX0) (T := TX0) (N := 10) hx hb hts in_X0_puts_X0 hown hK hP 0 rfl rfl 9 (by decide) (hts _ m_X0_puts_1) (fun _ h9 => h9) rfl dX0_puts_1 ?_
  refine lv_aload_n hx hb dX0_puts_4 rfl (lv_at hl 0 rfl) ?_
  refine va_get (D := (dC, dI)) (ci := 0) (v := .int zk_tapeFrom) (C := RX0) (T := TX0) (N := 10) hx hb hts in_X0_puts_X0 hown hK hP 0 rfl rfl 8 (by decide) (hts _ m_X0_puts_2) (fun _ h9 => h9) rfl dX0_puts_5 ?_
  refine lv_isub hx hb dX0_puts_8 ?_
  have hE : f_X0_puts zk_tapeFrom zk_tapeTo = (zk_tapeTo - zk_tapeFrom) := (by rw [f_X0_puts])
  exact W.iret (v := (zk_tapeTo - zk_tapeFrom)) hx hb hr (fun t ht hW => ⟨⟨(zk_tapeTo - zk_tapeFrom), (), rfl, by rw [hE], trivial⟩, hS.F ht⟩) hS.2.2 dX0_puts_9
