theorem dX4_addUnlessHidden_0 : decode cX4_addUnlessHidden 0 = .ok (.aload_n 1, 1) := by decide +kernel
theorem dX4_addUnlessHidden_1 : decode cX4_addUnlessHidden 1 = .ok (.iload_n 2, 1) := by decide +kernel
theorem dX4_addUnlessHidden_2 : decode cX4_addUnlessHidden 2 = .ok (.invokevirtual 28, 3) := by decide +kernel
set_option maxRecDepth 20000 in
theorem ggX4_addUnlessHidden_X2_has : GoodIn wsX4_addUnlessHidden wsX2_has := goodIn_r _ [9, 10, 11, 12, 13, 14, 15, 16] (by decide +kernel) (by decide +kernel)
set_option maxRecDepth 20000 in
theorem gX4_addUnlessHidden_X2_has : GoodIn wsX4_addUnlessHidden (wsV RX4 28 RX2 yX2_has wsX2_has) := goodIn_app (goodIn_of _ (by decide +kernel)) ggX4_addUnlessHidden_X2_has
theorem dX4_addUnlessHidden_5 : decode cX4_addUnlessHidden 5 = .ok (.ifCond .eq 54, 3) := by decide +kernel
theorem dX4_addUnlessHidden_59 : decode cX4_addUnlessHidden 59 = .ok (.return_, 1) := by decide +kernel
theorem dX4_addUnlessHidden_8 : decode cX4_addUnlessHidden 8 = .ok (.aload_n 1, 1) := by decide +kernel
theorem dX4_addUnlessHidden_9 : decode cX4_addUnlessHidden 9 = .ok (.getfield 34, 3) := by decide +kernel
theorem in_X4_addUnlessHidden_X2 : ∀ w ∈ wsX20, w ∈ wsX4_addUnlessHidden := by decide +kernel
theorem m_X4_addUnlessHidden_1 : (.fieldLink RX4 34 "RedlineDesk$Row" "in" "[I" : Cond) ∈ wsX4_addUnlessHidden := List.mem_of_getElem? (i := 1) (by decide +kernel)
theorem dX4_addUnlessHidden_12 : decode cX4_addUnlessHidden 12 = .ok (.iload_n 2, 1) := by decide +kernel
theorem dX4_addUnlessHidden_13 : decode cX4_addUnlessHidden 13 = .ok (.iaload, 1) := by decide +kernel
theorem dX4_addUnlessHidden_14 : decode cX4_addUnlessHidden 14 = .ok (.aload_n 0, 1) := by decide +kernel
theorem dX4_addUnlessHidden_15 : decode cX4_addUnlessHidden 15 = .ok (.getfield 22, 3) := by decide +kernel
theorem in_X4_addUnlessHidden_X4 : ∀ w ∈ wsX40, w ∈ wsX4_addUnlessHidden := by decide +kernel
theorem m_X4_addUnlessHidden_2 : (.fieldLink RX4 22 "RedlineDesk$View" "hides" "I" : Cond) ∈ wsX4_addUnlessHidden := List.mem_of_getElem? (i := 2) (by decide +kernel)
theorem dX4_addUnlessHidden_18 : decode cX4_addUnlessHidden 18 = .ok (.iand, 1) := by decide +kernel
theorem dX4_addUnlessHidden_19 : decode cX4_addUnlessHidden 19 = .ok (.ifCond .ne 40, 3) := by decide +kernel
theorem dX4_addUnlessHidden_22 : decode cX4_addUnlessHidden 22 = .ok (.aload_n 0, 1) := by decide +kernel
theorem dX4_addUnlessHidden_23 : decode cX4_addUnlessHidden 23 = .ok (.getfield 25, 3) := by decide +kernel
theorem m_X4_addUnlessHidden_3 : (.fieldLink RX4 25 "RedlineDesk$View" "size" "I" : Cond) ∈ wsX4_addUnlessHidden := List.mem_of_getElem? (i := 3) (by decide +kernel)
theorem dX4_addUnlessHidden_26 : decode cX4_addUnlessHidden 26 = .ok (.ifCond .lt 33, 3) := by decide +kernel
theorem dX4_addUnlessHidden_29 : decode cX4_addUnlessHidden 29 = .ok (.aload_n 0, 1) := by decide +kernel
theorem dX4_addUnlessHidden_30 : decode cX4_addUnlessHidden 30 = .ok (.getfield 25, 3) := by decide +kernel
theorem dX4_addUnlessHidden_33 : decode cX4_addUnlessHidden 33 = .ok (.sipush 240, 3) := by decide +kernel
theorem dX4_addUnlessHidden_36 : decode cX4_addUnlessHidden 36 = .ok (.if_icmp .ge 23, 3) := by decide +kernel
theorem dX4_addUnlessHidden_39 : decode cX4_addUnlessHidden 39 = .ok (.aload_n 0, 1) := by decide +kernel
theorem dX4_addUnlessHidden_40 : decode cX4_addUnlessHidden 40 = .ok (.getfield 9, 3) := by decide +kernel
theorem m_X4_addUnlessHidden_4 : (.fieldLink RX4 9 "RedlineDesk$View" "spots" "[I" : Cond) ∈ wsX4_addUnlessHidden := List.mem_of_getElem? (i := 4) (by decide +kernel)
theorem dX4_addUnlessHidden_43 : decode cX4_addUnlessHidden 43 = .ok (.aload_n 0, 1) := by decide +kernel
theorem dX4_addUnlessHidden_44 : decode cX4_addUnlessHidden 44 = .ok (.getfield 25, 3) := by decide +kernel
theorem dX4_addUnlessHidden_47 : decode cX4_addUnlessHidden 47 = .ok (.iload_n 2, 1) := by decide +kernel
theorem dX4_addUnlessHidden_48 : decode cX4_addUnlessHidden 48 = .ok (.iastore, 1) := by decide +kernel
theorem dX4_addUnlessHidden_49 : decode cX4_addUnlessHidden 49 = .ok (.aload_n 0, 1) := by decide +kernel
theorem dX4_addUnlessHidden_50 : decode cX4_addUnlessHidden 50 = .ok (.dup, 1) := by decide +kernel
theorem dX4_addUnlessHidden_51 : decode cX4_addUnlessHidden 51 = .ok (.getfield 25, 3) := by decide +kernel
theorem dX4_addUnlessHidden_54 : decode cX4_addUnlessHidden 54 = .ok (.iconst 1, 1) := by decide +kernel
theorem dX4_addUnlessHidden_55 : decode cX4_addUnlessHidden 55 = .ok (.iadd, 1) := by decide +kernel
theorem dX4_addUnlessHidden_56 : decode cX4_addUnlessHidden 56 = .ok (.putfield 25, 3) := by decide +kernel
def f_X4_addUnlessHidden (zv_spots : Nat → Int32) (zv_size : Int32) (zv_hides : Int32) (zr_in : Nat → Int32) (zr_size : Int32) (a_s : Int32) : (Nat → Int32) × Int32 := if (f_X2_has zr_size a_s) = (0 : Int32) then (zv_spots, zv_size) else if ((zr_in (a_s).toNatClampNeg) &&& zv_hides) = (0 : Int32) then if zv_size < (0 : Int32) then (zv_spots, zv_size) else if (240 : Int32) ≤ zv_size then (zv_spots, zv_size) else ((upd zv_spots (zv_size).toNatClampNeg a_s), (zv_size + (1 : Int32))) else (zv_spots, zv_size)
set_option maxHeartbeats 4000000 in
set_option maxRecDepth 100000 in
theorem c_X4_addUnlessHidden (l : Launch) (dC : Nat → ClassId) (dI : Nat → Nat → Nat) (cI cJ : ClassId) (sz : Nat) (zv azv_spots azv_homes zr azr_sign azr_token azr_in azr_own azr_since : Nat) (zv_spots zv_homes zr_sign zr_token zr_in zr_own zr_since : Nat → Int32) (zv_size zv_counts zv_hides zr_size : Int32) (a_s : Int32) : Met l yX4_addUnlessHidden wsX4_addUnlessHidden ({ frames := 1, cells := 0, slots := 0, locals := 21 } : Room) (va_Pc [.ref zv, .ref zr, .int a_s] (PreW dC dI cI cJ sz [(zv, .inr (4, [.ref azv_spots, .ref azv_homes, .int zv_size, .int zv_counts, .int zv_hides])), (azv_spots, .inl (cI, 240, .inl zv_spots)), (azv_homes, .inl (cI, 240, .inl zv_homes)), (zr, .inr (2, [.ref azr_sign, .ref azr_token, .ref azr_in, .ref azr_own, .ref azr_since, .int zr_size])), (azr_sign, .inl (cI, 240, .inl zr_sign)), (azr_token, .inl (cI, 240, .inl zr_token)), (azr_in, .inl (cI, 240, .inl zr_in)), (azr_own, .inl (cI, 240, .inl zr_own)), (azr_since, .inl (cI, 240, .inl zr_since))])) (va_Qv (fun (u : (Nat → Int32) × Int32) => u = f_X4_addUnlessHidden zv_spots zv_size zv_hides zr_in zr_size a_s) (fun (u : (Nat → Int32) × Int32) t => PostW dC dI [(zv, .inr (4, [.ref azv_spots, .ref azv_homes, .int u.2, .int zv_counts, .int zv_hides])), (azv_spots, .inl (cI, 240, .inl u.1)), (azv_homes, .inl (cI, 240, .inl zv_homes)), (zr, .inr (2, [.ref azr_sign, .ref azr_token, .ref azr_in, .ref azr_own, .ref azr_since, .int zr_size])), (azr_sign, .inl (cI, 240, .inl zr_sign)), (azr_token, .inl (cI, 240, .inl zr_token)), (azr_in, .inl (cI, 240, .inl zr_in)), (azr_own, .inl (cI, 240, .inl zr_own)), (azr_since, .inl (cI, 240, .inl zr_since))] t (va_A [(zv, .inr (4, [.ref azv_spots, .ref azv_homes, .int zv_size, .int zv_counts, .int zv_hides])), (azv_spots, .inl (cI, 240, .inl zv_spots)), (azv_homes, .inl (cI, 240, .inl zv_homes)), (zr, .inr (2, [.ref azr_sign, .ref azr_token, .ref azr_in, .ref azr_own, .ref azr_since, .int zr_size])), (azr_sign, .inl (cI, 240, .inl zr_sign)), (azr_token, .inl (cI, 240, .inl zr_token)), (azr_in, .inl (cI, 240, .inl zr_in)), (azr_own, .inl (cI, 240, .inl zr_own)), (azr_since, .inl (cI, 240, .inl zr_since))] sz)) (va_A [(zv, .inr (4, [.ref azv_spots, .ref azv_homes, .int zv_size, .int zv_counts, .int zv_hides])), (azv_spots, .inl (cI, 240, .inl zv_spots)), (azv_homes, .inl (cI, 240, .inl zv_homes)), (zr, .inr (2, [.ref azr_sign, .ref azr_token, .ref azr_in, .ref azr_own, .ref azr_since, .int zr_size])), (azr_sign, .inl (cI, 240, .inl zr_sign)), (azr_token, .inl (cI, 240, .inl zr_token)), (azr_in, .inl (cI, 240, .inl zr_in)), (azr_own, .inl (cI, 240, .inl zr_own)), (azr_since, .inl (cI, 240, .inl zr_since))] sz)) 0 0 (va_A [(zv, .inr (4, [.ref azv_spots, .ref azv_homes, .int zv_size, .int zv_counts, .int zv_hides])), (azv_spots, .inl (cI, 240, .inl zv_spots)), (azv_homes, .inl (cI, 240, .inl zv_homes)), (zr, .inr (2, [.ref azr_sign, .ref azr_token, .ref azr_in, .ref azr_own, .ref azr_since, .int zr_size])), (azr_sign, .inl (cI, 240, .inl zr_sign)), (azr_token, .inl (cI, 240, .inl zr_token)), (azr_in, .inl (cI, 240, .inl zr_in)), (azr_own, .inl (cI, 240, .inl zr_own)), (azr_since, .inl (cI, 240, .inl zr_since))] sz) := by
  refine Met.ofW (cc := cX4_addUnlessHidden) (maxL := 3) (ret := none) (by decide) rfl ?_
  intro p e s m args below meth c s₁ B hml hv
  obtain ⟨rfl, hsz, hP, hK, hN, hD0⟩ := hv
  have hx := B.exec
  have hb := B.bytes
  have hr := B.returns
  have hts := atoms_spec (ws := wsX4_addUnlessHidden) B.pre
  have hown : s.vm.findClass RX4 = some m.cls := findClass_of_methodNamed B.named
  have hlocks := B.notSynchronized
  subst hsz
  have hD := hD0.self (sz := s.heap.size)
  generalize hAe : va_A [(zv, .inr (4, [.ref azv_spots, .ref azv_homes, .int zv_size, .int zv_counts, .int zv_hides])), (azv_spots, .inl (cI, 240, .inl zv_spots)), (azv_homes, .inl (cI, 240, .inl zv_homes)), (zr, .inr (2, [.ref azr_sign, .ref azr_token, .ref azr_in, .ref azr_own, .ref azr_since, .int zr_size])), (azr_sign, .inl (cI, 240, .inl zr_sign)), (azr_token, .inl (cI, 240, .inl zr_token)), (azr_in, .inl (cI, 240, .inl zr_in)), (azr_own, .inl (cI, 240, .inl zr_own)), (azr_since, .inl (cI, 240, .inl zr_since))] s.heap.size = A at hD ⊢
  have hA : ∀ q : Nat, s.heap.size ≤ q → A q := fun q h => by rw [← hAe]; exact Or.inr h
  have hS : va_S A s.heap s.heap [] := va_S.rf
  have hP : va_P (dC, dI) vwCl [(zv, .inr (4, [.ref azv_spots, .ref azv_homes, .int zv_size, .int zv_counts, .int zv_hides])), (azv_spots, .inl (cI, 240, .inl zv_spots)), (azv_homes, .inl (cI, 240, .inl zv_homes)), (zr, .inr (2, [.ref azr_sign, .ref azr_token, .ref azr_in, .ref azr_own, .ref azr_since, .int zr_size])), (azr_sign, .inl (cI, 240, .inl zr_sign)), (azr_token, .inl (cI, 240, .inl zr_token)), (azr_in, .inl (cI, 240, .inl zr_in)), (azr_own, .inl (cI, 240, .inl zr_own)), (azr_since, .inl (cI, 240, .inl zr_since))] s.heap := hP
  have hl := lv_entry ([.ref zv, .ref zr, .int a_s]) (n := 3) (Nat.le_of_ble_eq_true rfl)
  rw [lg_entry_eq]
  generalize (lg_sl ([.ref zv, .ref zr, .int a_s]) ++ List.replicate (3 - (lg_sl ([.ref zv, .ref zr, .int a_s])).length) Slot.unset).toArray = ls at hl ⊢
  have hl : lv_has ls 3 [(0, .ref zv), (1, .ref zr), (2, .int a_s)] := hl
  refine lv_aload_n hx hb dX4_addUnlessHidden_0 rfl (lv_at hl 1 rfl) ?_
  refine lv_iload_n hx hb dX4_addUnlessHidden_1 rfl (lv_at hl 2 rfl) ?_
  have hPc := hP.sub (ws' := [(zr, .inr (2, [.ref azr_sign, .ref azr_token, .ref azr_in, .ref azr_own, .ref azr_since, .int zr_size])), (azr_sign, .inl (cI, 240, .inl zr_sign)), (azr_token, .inl (cI, 240, .inl zr_token)), (azr_in, .inl (cI, 240, .inl zr_in)), (azr_own, .inl (cI, 240, .inl zr_own)), (azr_since, .inl (cI, 240, .inl zr_since))]) [3, 4, 5, 6, 7, 8] rfl
  have hDc := hD.sub (ws' := [(zr, .inr (2, [.ref azr_sign, .ref azr_token, .ref azr_in, .ref azr_own, .ref azr_since, .int zr_size])), (azr_sign, .inl (cI, 240, .inl zr_sign)), (azr_token, .inl (cI, 240, .inl zr_token)), (azr_in, .inl (cI, 240, .inl zr_in)), (azr_own, .inl (cI, 240, .inl zr_own)), (azr_since, .inl (cI, 240, .inl zr_since))]) [3, 4, 5, 6, 7, 8] (by decide) rfl
  refine va_calli (va_runV (As := [.int a_s]) (rest := []) ⟨hx, hb, hml, hown, hts⟩ (c_X2_has l dC dI cI cJ s.heap.size zr azr_sign azr_token azr_in azr_own azr_since zr_sign zr_token zr_in zr_own zr_since zr_size a_s) (cwV 1 hts gX4_addUnlessHidden_X2_has rfl rfl rfl (by decide +kernel) ⟨Nat.le_of_ble_eq_true rfl, Nat.le_of_ble_eq_true rfl⟩) ⟨fun a U g mk q => ⟨q.1, PreW.call g mk a q.2⟩, va_recv hK hP (ci := 2) (q0 := 3) rfl rfl, fun U hU hW => ⟨rfl, PreW.mk2 hU hW hPc hK hN (hDc.weaken (fun _ _ _ _ => trivial))⟩⟩ rfl rfl hl.1 rfl (lv_room (Nat.le_of_ble_eq_true rfl)) dX4_addUnlessHidden_2 ⟨Nat.le_of_ble_eq_true rfl, Nat.le_of_ble_eq_true rfl⟩) hS (fun q hq h => absurd hq (Nat.not_lt.mpr h)) (fun q h => hA q (Nat.le_trans hS.1 h)) (fun r_1 _u t H1 locs ht hvm hw hB hz1 hk1 hS => ?_)
  have hP := va_ro hP hk1
  generalize H1 = H at hP hS ⊢
  have hw : r_1 = f_X2_has zr_size a_s := hw
  subst hw
  obtain ⟨z_2, hz_2⟩ : ∃ z : Int32, z = f_X2_has zr_size a_s := ⟨_, rfl⟩
  refine lv_if_eq (tgt := 59) hx hb dX4_addUnlessHidden_5 (by decide) (fun c_3 => ?_) (fun c_3 => ?_)
  · have tc_3 : z_2.toInt = (0 : Int) := by rw [hz_2]; exact q_eq c_3
    have hE : f_X4_addUnlessHidden zv_spots zv_size zv_hides zr_in zr_size a_s = (zv_spots, zv_size) := (by rw [f_X4_addUnlessHidden, if_pos c_3])
    exact W.vret hx hb hr (fun t ht hW => ⟨⟨(zv_spots, zv_size), rfl, by rw [hE], ⟨by rw [ht]; exact hP, hD⟩⟩, hS.F ht⟩) hS.2.2 dX4_addUnlessHidden_59
  · have tc_3 : ¬ z_2.toInt = (0 : Int) := by rw [hz_2]; exact q_ne c_3
    obtain ⟨b_4, b_5, b_6⟩ := has_in c_3
    refine lv_aload_n hx hb dX4_addUnlessHidden_8 rfl (lv_at hl 1 rfl) ?_
    refine va_get (D := (dC, dI)) (ci := 2) (v := .ref azr_in) (C := RX2) (T := TX2) (N := 6) hx hb hts in_X4_addUnlessHidden_X2 hown hK hP 3 rfl rfl 2 (by decide) (hts _ m_X4_addUnlessHidden_1) (fun _ h9 => h9) rfl dX4_addUnlessHidden_9 ?_
    refine lv_iload_n hx hb dX4_addUnlessHidden_12 rfl (lv_at hl 2 rfl) ?_
    refine va_iald (q0 := 6) (t0 := 0) (n := 240) (f := zr_in) hx hb hK hP rfl rfl (vp_in_iff.mpr ⟨by omega, by omega⟩) dX4_addUnlessHidden_13 ?_
    refine lv_aload_n hx hb dX4_addUnlessHidden_14 rfl (lv_at hl 0 rfl) ?_
    refine va_get (D := (dC, dI)) (ci := 4) (v := .int zv_hides) (C := RX4) (T := TX4) (N := 5) hx hb hts in_X4_addUnlessHidden_X4 hown hK hP 0 rfl rfl 4 (by decide) (hts _ m_X4_addUnlessHidden_2) (fun _ h9 => h9) rfl dX4_addUnlessHidden_15 ?_
    refine lv_iand hx hb dX4_addUnlessHidden_18 ?_
    refine lv_if_ne (tgt := 59) hx hb dX4_addUnlessHidden_19 (by decide) (fun c_7 => ?_) (fun c_7 => ?_)
    · have hE : f_X4_addUnlessHidden zv_spots zv_size zv_hides zr_in zr_size a_s = (zv_spots, zv_size) := (by rw [f_X4_addUnlessHidden, if_neg c_3, if_neg c_7])
      exact W.vret hx hb hr (fun t ht hW => ⟨⟨(zv_spots, zv_size), rfl, by rw [hE], ⟨by rw [ht]; exact hP, hD⟩⟩, hS.F ht⟩) hS.2.2 dX4_addUnlessHidden_59
    · refine lv_aload_n hx hb dX4_addUnlessHidden_22 rfl (lv_at hl 0 rfl) ?_
      refine va_get (D := (dC, dI)) (ci := 4) (v := .int zv_size) (C := RX4) (T := TX4) (N := 5) hx hb hts in_X4_addUnlessHidden_X4 hown hK hP 0 rfl rfl 2 (by decide) (hts _ m_X4_addUnlessHidden_3) (fun _ h9 => h9) rfl dX4_addUnlessHidden_23 ?_
      refine lv_if_lt (tgt := 59) hx hb dX4_addUnlessHidden_26 (by decide) (fun c_8 => ?_) (fun c_8 => ?_)
      · have tc_8 : zv_size.toInt < (0 : Int) := q_lt c_8
        have hE : f_X4_addUnlessHidden zv_spots zv_size zv_hides zr_in zr_size a_s = (zv_spots, zv_size) := (by rw [f_X4_addUnlessHidden, if_neg c_3, if_pos c_7, if_pos c_8])
        exact W.vret hx hb hr (fun t ht hW => ⟨⟨(zv_spots, zv_size), rfl, by rw [hE], ⟨by rw [ht]; exact hP, hD⟩⟩, hS.F ht⟩) hS.2.2 dX4_addUnlessHidden_59
      · have tc_8 : (0 : Int) ≤ zv_size.toInt := q_nlt c_8
        refine lv_aload_n hx hb dX4_addUnlessHidden_29 rfl (lv_at hl 0 rfl) ?_
        refine va_get (D := (dC, dI)) (ci := 4) (v := .int zv_size) (C := RX4) (T := TX4) (N := 5) hx hb hts in_X4_addUnlessHidden_X4 hown hK hP 0 rfl rfl 2 (by decide) (hts _ m_X4_addUnlessHidden_3) (fun _ h9 => h9) rfl dX4_addUnlessHidden_30 ?_
        refine lv_sipush (v := (240 : Int32)) hx hb dX4_addUnlessHidden_33 (by decide) ?_
        refine lv_icmp_ge (tgt := 59) hx hb dX4_addUnlessHidden_36 (by decide) (fun c_9 => ?_) (fun c_9 => ?_)
        · have tc_9 : (240 : Int) ≤ zv_size.toInt := q_le c_9
          have hE : f_X4_addUnlessHidden zv_spots zv_size zv_hides zr_in zr_size a_s = (zv_spots, zv_size) := (by rw [f_X4_addUnlessHidden, if_neg c_3, if_pos c_7, if_neg c_8, if_pos c_9])
          exact W.vret hx hb hr (fun t ht hW => ⟨⟨(zv_spots, zv_size), rfl, by rw [hE], ⟨by rw [ht]; exact hP, hD⟩⟩, hS.F ht⟩) hS.2.2 dX4_addUnlessHidden_59
        · have tc_9 : zv_size.toInt < (240 : Int) := q_nle c_9
          refine lv_aload_n hx hb dX4_addUnlessHidden_39 rfl (lv_at hl 0 rfl) ?_
          refine va_get (D := (dC, dI)) (ci := 4) (v := .ref azv_spots) (C := RX4) (T := TX4) (N := 5) hx hb hts in_X4_addUnlessHidden_X4 hown hK hP 0 rfl rfl 0 (by decide) (hts _ m_X4_addUnlessHidden_4) (fun _ h9 => h9) rfl dX4_addUnlessHidden_40 ?_
          refine lv_aload_n hx hb dX4_addUnlessHidden_43 rfl (lv_at hl 0 rfl) ?_
          refine va_get (D := (dC, dI)) (ci := 4) (v := .int zv_size) (C := RX4) (T := TX4) (N := 5) hx hb hts in_X4_addUnlessHidden_X4 hown hK hP 0 rfl rfl 2 (by decide) (hts _ m_X4_addUnlessHidden_3) (fun _ h9 => h9) rfl dX4_addUnlessHidden_44 ?_
          refine lv_iload_n hx hb dX4_addUnlessHidden_47 rfl (lv_at hl 2 rfl) ?_
          refine va_iast (q0 := 1) (t0 := 0) (n := 240) (f := zv_spots) hx hb hK hP hD hS rfl rfl (vp_in_iff.mpr ⟨by omega, by omega⟩) dX4_addUnlessHidden_48 (fun H locs hP hD hS => ?_)
          have hP : va_P (dC, dI) vwCl [(zv, .inr (4, [.ref azv_spots, .ref azv_homes, .int zv_size, .int zv_counts, .int zv_hides])), (azv_spots, .inl (cI, 240, .inl (upd zv_spots (zv_size).toNatClampNeg a_s))), (azv_homes, .inl (cI, 240, .inl zv_homes)), (zr, .inr (2, [.ref azr_sign, .ref azr_token, .ref azr_in, .ref azr_own, .ref azr_since, .int zr_size])), (azr_sign, .inl (cI, 240, .inl zr_sign)), (azr_token, .inl (cI, 240, .inl zr_token)), (azr_in, .inl (cI, 240, .inl zr_in)), (azr_own, .inl (cI, 240, .inl zr_own)), (azr_since, .inl (cI, 240, .inl zr_since))] H := hP
          have hD : va_D A [(zv, .inr (4, [.ref azv_spots, .ref azv_homes, .int zv_size, .int zv_counts, .int zv_hides])), (azv_spots, .inl (cI, 240, .inl (upd zv_spots (zv_size).toNatClampNeg a_s))), (azv_homes, .inl (cI, 240, .inl zv_homes)), (zr, .inr (2, [.ref azr_sign, .ref azr_token, .ref azr_in, .ref azr_own, .ref azr_since, .int zr_size])), (azr_sign, .inl (cI, 240, .inl zr_sign)), (azr_token, .inl (cI, 240, .inl zr_token)), (azr_in, .inl (cI, 240, .inl zr_in)), (azr_own, .inl (cI, 240, .inl zr_own)), (azr_since, .inl (cI, 240, .inl zr_since))] := hD
          refine lv_aload_n hx hb dX4_addUnlessHidden_49 rfl (lv_at hl 0 rfl) ?_
          refine lv_dup hx hb dX4_addUnlessHidden_50 rfl ?_
          refine va_get (D := (dC, dI)) (ci := 4) (v := .int zv_size) (C := RX4) (T := TX4) (N := 5) hx hb hts in_X4_addUnlessHidden_X4 hown hK hP 0 rfl rfl 2 (by decide) (hts _ m_X4_addUnlessHidden_3) (fun _ h9 => h9) rfl dX4_addUnlessHidden_51 ?_
          refine lv_iconst (v := (1 : Int32)) hx hb dX4_addUnlessHidden_54 (by decide) ?_
          refine lv_iadd hx hb dX4_addUnlessHidden_55 ?_
          obtain ⟨z_10, hz_10⟩ : ∃ z : Int32, z = (zv_size + (1 : Int32)) := ⟨_, rfl⟩
          try have gz_10 : z_10.toInt = zv_size.toInt + (1 : Int) := by rw [hz_10]; exact ti_add2 rfl rfl (by omega) (by omega)
          refine va_put (D := (dC, dI)) (ci := 4) (v := .int (zv_size + (1 : Int32))) (ty := .int) (C := RX4) (T := TX4) (N := 5) hx hb hts in_X4_addUnlessHidden_X4 tyX4 tyX4_ok nmX4 hown hK hP hD hS 0 rfl rfl 2 (by decide) (hts _ m_X4_addUnlessHidden_3) (fun _ h9 => h9) rfl (by decide +kernel) rfl rfl (Nat.le_of_ble_eq_true rfl) dX4_addUnlessHidden_56 (fun H locs hP hD hS => ?_)
          have hP : va_P (dC, dI) vwCl [(zv, .inr (4, [.ref azv_spots, .ref azv_homes, .int (zv_size + (1 : Int32)), .int zv_counts, .int zv_hides])), (azv_spots, .inl (cI, 240, .inl (upd zv_spots (zv_size).toNatClampNeg a_s))), (azv_homes, .inl (cI, 240, .inl zv_homes)), (zr, .inr (2, [.ref azr_sign, .ref azr_token, .ref azr_in, .ref azr_own, .ref azr_since, .int zr_size])), (azr_sign, .inl (cI, 240, .inl zr_sign)), (azr_token, .inl (cI, 240, .inl zr_token)), (azr_in, .inl (cI, 240, .inl zr_in)), (azr_own, .inl (cI, 240, .inl zr_own)), (azr_since, .inl (cI, 240, .inl zr_since))] H := hP
          have hD : va_D A [(zv, .inr (4, [.ref azv_spots, .ref azv_homes, .int (zv_size + (1 : Int32)), .int zv_counts, .int zv_hides])), (azv_spots, .inl (cI, 240, .inl (upd zv_spots (zv_size).toNatClampNeg a_s))), (azv_homes, .inl (cI, 240, .inl zv_homes)), (zr, .inr (2, [.ref azr_sign, .ref azr_token, .ref azr_in, .ref azr_own, .ref azr_since, .int zr_size])), (azr_sign, .inl (cI, 240, .inl zr_sign)), (azr_token, .inl (cI, 240, .inl zr_token)), (azr_in, .inl (cI, 240, .inl zr_in)), (azr_own, .inl (cI, 240, .inl zr_own)), (azr_since, .inl (cI, 240, .inl zr_since))] := hD
          have hE : f_X4_addUnlessHidden zv_spots zv_size zv_hides zr_in zr_size a_s = ((upd zv_spots (zv_size).toNatClampNeg a_s), (zv_size + (1 : Int32))) := (by rw [f_X4_addUnlessHidden, if_neg c_3, if_pos c_7, if_neg c_8, if_neg c_9])
          exact W.vret hx hb hr (fun t ht hW => ⟨⟨((upd zv_spots (zv_size).toNatClampNeg a_s), (zv_size + (1 : Int32))), rfl, by rw [hE], ⟨by rw [ht]; exact hP, hD⟩⟩, hS.F ht⟩) hS.2.2 dX4_addUnlessHidden_59
theorem dX4_gather_0 : decode cX4_gather 0 = .ok (.iload_n 3, 1) := by decide +kernel
theorem dX4_gather_1 : decode cX4_gather 1 = .ok (.bipush 24, 2) := by decide +kernel
theorem dX4_gather_3 : decode cX4_gather 3 = .ok (.if_icmp .le 4, 3) := by decide +kernel
theorem dX4_gather_7 : decode cX4_gather 7 = .ok (.iconst 0, 1) := by decide +kernel
theorem dX4_gather_8 : decode cX4_gather 8 = .ok (.istore 4, 2) := by decide +kernel
theorem dX4_gather_10 : decode cX4_gather 10 = .ok (.iload 4, 2) := by decide +kernel
theorem dX4_gather_12 : decode cX4_gather 12 = .ok (.sipush 240, 3) := by decide +kernel
theorem dX4_gather_15 : decode cX4_gather 15 = .ok (.if_icmp .ge 79, 3) := by decide +kernel
theorem dX4_gather_94 : decode cX4_gather 94 = .ok (.return_, 1) := by decide +kernel
theorem dX4_gather_18 : decode cX4_gather 18 = .ok (.aload_n 1, 1) := by decide +kernel
theorem dX4_gather_19 : decode cX4_gather 19 = .ok (.iload 4, 2) := by decide +kernel
theorem dX4_gather_21 : decode cX4_gather 21 = .ok (.invokevirtual 28, 3) := by decide +kernel
set_option maxRecDepth 20000 in
theorem ggX4_gather_X2_has : GoodIn wsX4_gather wsX2_has := goodIn_r _ [8, 9, 29, 30, 31, 32, 33, 34] (by decide +kernel) (by decide +kernel)
set_option maxRecDepth 20000 in
theorem gX4_gather_X2_has : GoodIn wsX4_gather (wsV RX4 28 RX2 yX2_has wsX2_has) := goodIn_app (goodIn_of _ (by decide +kernel)) ggX4_gather_X2_has
theorem dX4_gather_24 : decode cX4_gather 24 = .ok (.ifCond .eq 70, 3) := by decide +kernel
theorem dX4_gather_27 : decode cX4_gather 27 = .ok (.aload_n 0, 1) := by decide +kernel
theorem dX4_gather_28 : decode cX4_gather 28 = .ok (.getfield 15, 3) := by decide +kernel
theorem in_X4_gather_X4 : ∀ w ∈ wsX40, w ∈ wsX4_gather := by decide +kernel
theorem m_X4_gather_1 : (.fieldLink RX4 15 "RedlineDesk$View" "homes" "[I" : Cond) ∈ wsX4_gather := List.mem_of_getElem? (i := 1) (by decide +kernel)
theorem dX4_gather_31 : decode cX4_gather 31 = .ok (.iload 4, 2) := by decide +kernel
theorem dX4_gather_33 : decode cX4_gather 33 = .ok (.iaload, 1) := by decide +kernel
theorem dX4_gather_34 : decode cX4_gather 34 = .ok (.iload_n 2, 1) := by decide +kernel
theorem dX4_gather_35 : decode cX4_gather 35 = .ok (.if_icmp .eq 6, 3) := by decide +kernel
theorem dX4_gather_41 : decode cX4_gather 41 = .ok (.aload_n 1, 1) := by decide +kernel
theorem dX4_gather_42 : decode cX4_gather 42 = .ok (.getfield 45, 3) := by decide +kernel
theorem in_X4_gather_X2 : ∀ w ∈ wsX20, w ∈ wsX4_gather := by decide +kernel
theorem m_X4_gather_2 : (.fieldLink RX4 45 "RedlineDesk$Row" "token" "[I" : Cond) ∈ wsX4_gather := List.mem_of_getElem? (i := 2) (by decide +kernel)
theorem dX4_gather_45 : decode cX4_gather 45 = .ok (.iload 4, 2) := by decide +kernel
theorem dX4_gather_47 : decode cX4_gather 47 = .ok (.iaload, 1) := by decide +kernel
theorem dX4_gather_48 : decode cX4_gather 48 = .ok (.istore 5, 2) := by decide +kernel
theorem dX4_gather_50 : decode cX4_gather 50 = .ok (.iload 5, 2) := by decide +kernel
theorem dX4_gather_52 : decode cX4_gather 52 = .ok (.ifCond .ne 13, 3) := by decide +kernel
theorem dX4_gather_65 : decode cX4_gather 65 = .ok (.iload 5, 2) := by decide +kernel
theorem dX4_gather_67 : decode cX4_gather 67 = .ok (.invokestatic 52, 3) := by decide +kernel
set_option maxRecDepth 20000 in
theorem ggX4_gather_X5_bit : GoodIn wsX4_gather wsX5_bit := goodIn_r _ [21] (by decide +kernel) (by decide +kernel)
set_option maxRecDepth 20000 in
theorem gX4_gather_X5_bit_n52 : GoodIn wsX4_gather (wsX5_bit) := ggX4_gather_X5_bit
theorem m_X4_gather_20 : (.initialized RX5 : Cond) ∈ wsX4_gather := List.mem_of_getElem? (i := 20) (by decide +kernel)
theorem m_X4_gather_19 : (.static yX5_bit : Cond) ∈ wsX4_gather := List.mem_of_getElem? (i := 19) (by decide +kernel)
theorem dX4_gather_70 : decode cX4_gather 70 = .ok (.aload_n 0, 1) := by decide +kernel
theorem dX4_gather_71 : decode cX4_gather 71 = .ok (.getfield 18, 3) := by decide +kernel
theorem m_X4_gather_3 : (.fieldLink RX4 18 "RedlineDesk$View" "counts" "I" : Cond) ∈ wsX4_gather := List.mem_of_getElem? (i := 3) (by decide +kernel)
theorem dX4_gather_74 : decode cX4_gather 74 = .ok (.iand, 1) := by decide +kernel
theorem dX4_gather_75 : decode cX4_gather 75 = .ok (.ifCond .eq 13, 3) := by decide +kernel
theorem dX4_gather_88 : decode cX4_gather 88 = .ok (.iinc 4 1, 3) := by decide +kernel
theorem dX4_gather_91 : decode cX4_gather 91 = .ok (.goto (-81), 3) := by decide +kernel
theorem dX4_gather_78 : decode cX4_gather 78 = .ok (.aload_n 0, 1) := by decide +kernel
theorem dX4_gather_79 : decode cX4_gather 79 = .ok (.aload_n 1, 1) := by decide +kernel
theorem dX4_gather_80 : decode cX4_gather 80 = .ok (.iload 5, 2) := by decide +kernel
theorem dX4_gather_82 : decode cX4_gather 82 = .ok (.iload_n 3, 1) := by decide +kernel
theorem dX4_gather_83 : decode cX4_gather 83 = .ok (.iconst 1, 1) := by decide +kernel
theorem dX4_gather_84 : decode cX4_gather 84 = .ok (.iadd, 1) := by decide +kernel
theorem dX4_gather_85 : decode cX4_gather 85 = .ok (.invokestatic 41, 3) := by decide +kernel
set_option maxRecDepth 20000 in
theorem ggX4_gather_X4_gather : GoodIn wsX4_gather wsX4_gather := goodIn_r _ [0, 1, 2, 3, 4, 5, 6, 7, 8, 9, 10, 11, 12, 13, 14, 15, 16, 17, 18, 19, 20, 21, 22, 23, 24, 25, 26, 27, 28, 29, 30, 31, 32, 33, 34] (by decide +kernel) (by decide +kernel)
set_option maxRecDepth 20000 in
theorem gX4_gather_X4_gather : GoodIn wsX4_gather (va_wsS RX4 41 yX4_gather wsX4_gather) := goodIn_app (goodIn_of _ (by decide +kernel)) ggX4_gather_X4_gather
theorem dX4_gather_55 : decode cX4_gather 55 = .ok (.aload_n 0, 1) := by decide +kernel
theorem dX4_gather_56 : decode cX4_gather 56 = .ok (.aload_n 1, 1) := by decide +kernel
theorem dX4_gather_57 : decode cX4_gather 57 = .ok (.iload 4, 2) := by decide +kernel
theorem dX4_gather_59 : decode cX4_gather 59 = .ok (.invokevirtual 48, 3) := by decide +kernel
set_option maxRecDepth 20000 in
theorem ggX4_gather_X4_addUnlessHidden : GoodIn wsX4_gather wsX4_addUnlessHidden := goodIn_r _ [14, 15, 16, 17, 18, 4, 5, 6, 7, 8, 9, 29, 30, 31, 32, 33, 34, 24, 25, 26, 27, 28] (by decide +kernel) (by decide +kernel)
set_option maxRecDepth 20000 in
theorem gX4_gather_X4_addUnlessHidden : GoodIn wsX4_gather (wsV RX4 48 RX4 yX4_addUnlessHidden wsX4_addUnlessHidden) := goodIn_app (goodIn_of _ (by decide +kernel)) ggX4_gather_X4_addUnlessHidden
theorem dX4_gather_62 : decode cX4_gather 62 = .ok (.goto 26, 3) := by decide +kernel
theorem dX4_gather_38 : decode cX4_gather 38 = .ok (.goto 50, 3) := by decide +kernel
theorem dX4_gather_6 : decode cX4_gather 6 = .ok (.return_, 1) := by decide +kernel
def f_X4_gather_s_k88_u_17 (v4_2 : Int32) (K_f_X4_gather_s_L10 : Int32 → (Nat → Int32) → Int32 → (Nat → Int32) × Int32) (u_17 : (Nat → Int32) × Int32) : (Nat → Int32) × Int32 := K_f_X4_gather_s_L10 (v4_2 + (1 : Int32)) u_17.1 u_17.2
def f_X4_gather_s_k62_u_20 (v4_2 : Int32) (K_f_X4_gather_s_L10 : Int32 → (Nat → Int32) → Int32 → (Nat → Int32) × Int32) (u_20 : (Nat → Int32) × Int32) : (Nat → Int32) × Int32 := K_f_X4_gather_s_L10 (v4_2 + (1 : Int32)) u_20.1 u_20.2
def f_X4_gather_s_L10 (rec_ : (Nat → Int32) → Int32 → Int32 → Int32 → (Nat → Int32) × Int32) (zv_homes : Nat → Int32) (zv_counts : Int32) (zv_hides : Int32) (zr_token : Nat → Int32) (zr_in : Nat → Int32) (zr_size : Int32) (a_h : Int32) (a_d : Int32) : Nat → Int32 → (Nat → Int32) → Int32 → (Nat → Int32) × Int32
  | 0, _, _, _ => ((fun _ => 0), 0)
  | n_2 + 1, v4_2, zv_spots_2, zv_size_2 => if (240 : Int32) ≤ v4_2 then (zv_spots_2, zv_size_2) else if (f_X2_has zr_size v4_2) = (0 : Int32) then (zv_spots_2, zv_size_2) else if (zv_homes (v4_2).toNatClampNeg) = a_h then if (zr_token (v4_2).toNatClampNeg) = (0 : Int32) then f_X4_gather_s_k62_u_20 v4_2 (f_X4_gather_s_L10 rec_ zv_homes zv_counts zv_hides zr_token zr_in zr_size a_h a_d n_2) (f_X4_addUnlessHidden zv_spots_2 zv_size_2 zv_hides zr_in zr_size v4_2) else if ((f_X5_bit (zr_token (v4_2).toNatClampNeg)) &&& zv_counts) = (0 : Int32) then (f_X4_gather_s_L10 rec_ zv_homes zv_counts zv_hides zr_token zr_in zr_size a_h a_d n_2) (v4_2 + (1 : Int32)) zv_spots_2 zv_size_2 else f_X4_gather_s_k88_u_17 v4_2 (f_X4_gather_s_L10 rec_ zv_homes zv_counts zv_hides zr_token zr_in zr_size a_h a_d n_2) (rec_ zv_spots_2 zv_size_2 (zr_token (v4_2).toNatClampNeg) (a_d + (1 : Int32))) else (f_X4_gather_s_L10 rec_ zv_homes zv_counts zv_hides zr_token zr_in zr_size a_h a_d n_2) (v4_2 + (1 : Int32)) zv_spots_2 zv_size_2
def f_X4_gather_s (rec_ : (Nat → Int32) → Int32 → Int32 → Int32 → (Nat → Int32) × Int32) (zv_spots : Nat → Int32) (zv_homes : Nat → Int32) (zv_size : Int32) (zv_counts : Int32) (zv_hides : Int32) (zr_token : Nat → Int32) (zr_in : Nat → Int32) (zr_size : Int32) (a_h : Int32) (a_d : Int32) : (Nat → Int32) × Int32 := if a_d ≤ (24 : Int32) then f_X4_gather_s_L10 rec_ zv_homes zv_counts zv_hides zr_token zr_in zr_size a_h a_d 241 (0 : Int32) zv_spots zv_size else (zv_spots, zv_size)
set_option maxHeartbeats 4000000 in
set_option maxRecDepth 100000 in
theorem c_X4_gather_s (q : Nat) (l : Launch) (dC : Nat → ClassId) (dI : Nat → Nat → Nat) (cI cJ : ClassId) (sz : Nat) (zv azv_spots azv_homes zr azr_sign azr_token azr_in azr_own azr_since : Nat) (zv_spots zv_homes zr_sign zr_token zr_in zr_own zr_since : Nat → Int32) (zv_size zv_counts zv_hides zr_size : Int32) (a_h : Int32) (a_d : Int32) (hd : 24 - a_d.toInt < ((q + 1 : Nat) : Int)) (hd0 : 0 ≤ a_d.toInt) (rec_ : (Nat → Int32) → Int32 → Int32 → Int32 → (Nat → Int32) × Int32) (ih : ∀ (sz : Nat) (zv_spots : Nat → Int32) (zv_size a_h a_d : Int32), 24 - a_d.toInt < (q : Nat) → 0 ≤ a_d.toInt → Met l yX4_gather wsX4_gather ({ frames := q + 2, cells := 0, slots := 0, locals := 25 * q + 60 } : Room) (va_Pc [.ref zv, .ref zr, .int a_h, .int a_d] (PreW dC dI cI cJ sz [(zv, .inr (4, [.ref azv_spots, .ref azv_homes, .int zv_size, .int zv_counts, .int zv_hides])), (azv_spots, .inl (cI, 240, .inl zv_spots)), (azv_homes, .inl (cI, 240, .inl zv_homes)), (zr, .inr (2, [.ref azr_sign, .ref azr_token, .ref azr_in, .ref azr_own, .ref azr_since, .int zr_size])), (azr_sign, .inl (cI, 240, .inl zr_sign)), (azr_token, .inl (cI, 240, .inl zr_token)), (azr_in, .inl (cI, 240, .inl zr_in)), (azr_own, .inl (cI, 240, .inl zr_own)), (azr_since, .inl (cI, 240, .inl zr_since))])) (va_Qv (fun (u : (Nat → Int32) × Int32) => u = rec_ zv_spots zv_size a_h a_d) (fun (u : (Nat → Int32) × Int32) t => PostW dC dI [(zv, .inr (4, [.ref azv_spots, .ref azv_homes, .int u.2, .int zv_counts, .int zv_hides])), (azv_spots, .inl (cI, 240, .inl u.1)), (azv_homes, .inl (cI, 240, .inl zv_homes)), (zr, .inr (2, [.ref azr_sign, .ref azr_token, .ref azr_in, .ref azr_own, .ref azr_since, .int zr_size])), (azr_sign, .inl (cI, 240, .inl zr_sign)), (azr_token, .inl (cI, 240, .inl zr_token)), (azr_in, .inl (cI, 240, .inl zr_in)), (azr_own, .inl (cI, 240, .inl zr_own)), (azr_since, .inl (cI, 240, .inl zr_since))] t (va_A [(zv, .inr (4, [.ref azv_spots, .ref azv_homes, .int zv_size, .int zv_counts, .int zv_hides])), (azv_spots, .inl (cI, 240, .inl zv_spots)), (azv_homes, .inl (cI, 240, .inl zv_homes)), (zr, .inr (2, [.ref azr_sign, .ref azr_token, .ref azr_in, .ref azr_own, .ref azr_since, .int zr_size])), (azr_sign, .inl (cI, 240, .inl zr_sign)), (azr_token, .inl (cI, 240, .inl zr_token)), (azr_in, .inl (cI, 240, .inl zr_in)), (azr_own, .inl (cI, 240, .inl zr_own)), (azr_since, .inl (cI, 240, .inl zr_since))] sz)) (va_A [(zv, .inr (4, [.ref azv_spots, .ref azv_homes, .int zv_size, .int zv_counts, .int zv_hides])), (azv_spots, .inl (cI, 240, .inl zv_spots)), (azv_homes, .inl (cI, 240, .inl zv_homes)), (zr, .inr (2, [.ref azr_sign, .ref azr_token, .ref azr_in, .ref azr_own, .ref azr_since, .int zr_size])), (azr_sign, .inl (cI, 240, .inl zr_sign)), (azr_token, .inl (cI, 240, .inl zr_token)), (azr_in, .inl (cI, 240, .inl zr_in)), (azr_own, .inl (cI, 240, .inl zr_own)), (azr_since, .inl (cI, 240, .inl zr_since))] sz)) 0 0 (va_A [(zv, .inr (4, [.ref azv_spots, .ref azv_homes, .int zv_size, .int zv_counts, .int zv_hides])), (azv_spots, .inl (cI, 240, .inl zv_spots)), (azv_homes, .inl (cI, 240, .inl zv_homes)), (zr, .inr (2, [.ref azr_sign, .ref azr_token, .ref azr_in, .ref azr_own, .ref azr_since, .int zr_size])), (azr_sign, .inl (cI, 240, .inl zr_sign)), (azr_token, .inl (cI, 240, .inl zr_token)), (azr_in, .inl (cI, 240, .inl zr_in)), (azr_own, .inl (cI, 240, .inl zr_own)), (azr_since, .inl (cI, 240, .inl zr_since))] sz)) : Met l yX4_gather wsX4_gather ({ frames := (q + 1) + 2, cells := 0, slots := 0, locals := 25 * (q + 1) + 60 } : Room) (va_Pc [.ref zv, .ref zr, .int a_h, .int a_d] (PreW dC dI cI cJ sz [(zv, .inr (4, [.ref azv_spots, .ref azv_homes, .int zv_size, .int zv_counts, .int zv_hides])), (azv_spots, .inl (cI, 240, .inl zv_spots)), (azv_homes, .inl (cI, 240, .inl zv_homes)), (zr, .inr (2, [.ref azr_sign, .ref azr_token, .ref azr_in, .ref azr_own, .ref azr_since, .int zr_size])), (azr_sign, .inl (cI, 240, .inl zr_sign)), (azr_token, .inl (cI, 240, .inl zr_token)), (azr_in, .inl (cI, 240, .inl zr_in)), (azr_own, .inl (cI, 240, .inl zr_own)), (azr_since, .inl (cI, 240, .inl zr_since))])) (va_Qv (fun (u : (Nat → Int32) × Int32) => u = f_X4_gather_s rec_ zv_spots zv_homes zv_size zv_counts zv_hides zr_token zr_in zr_size a_h a_d) (fun (u : (Nat → Int32) × Int32) t => PostW dC dI [(zv, .inr (4, [.ref azv_spots, .ref azv_homes, .int u.2, .int zv_counts, .int zv_hides])), (azv_spots, .inl (cI, 240, .inl u.1)), (azv_homes, .inl (cI, 240, .inl zv_homes)), (zr, .inr (2, [.ref azr_sign, .ref azr_token, .ref azr_in, .ref azr_own, .ref azr_since, .int zr_size])), (azr_sign, .inl (cI, 240, .inl zr_sign)), (azr_token, .inl (cI, 240, .inl zr_token)), (azr_in, .inl (cI, 240, .inl zr_in)), (azr_own, .inl (cI, 240, .inl zr_own)), (azr_since, .inl (cI, 240, .inl zr_since))] t (va_A [(zv, .inr (4, [.ref azv_spots, .ref azv_homes, .int zv_size, .int zv_counts, .int zv_hides])), (azv_spots, .inl (cI, 240, .inl zv_spots)), (azv_homes, .inl (cI, 240, .inl zv_homes)), (zr, .inr (2, [.ref azr_sign, .ref azr_token, .ref azr_in, .ref azr_own, .ref azr_since, .int zr_size])), (azr_sign, .inl (cI, 240, .inl zr_sign)), (azr_token, .inl (cI, 240, .inl zr_token)), (azr_in, .inl (cI, 240, .inl zr_in)), (azr_own, .inl (cI, 240, .inl zr_own)), (azr_since, .inl (cI, 240, .inl zr_since))] sz)) (va_A [(zv, .inr (4, [.ref azv_spots, .ref azv_homes, .int zv_size, .int zv_counts, .int zv_hides])), (azv_spots, .inl (cI, 240, .inl zv_spots)), (azv_homes, .inl (cI, 240, .inl zv_homes)), (zr, .inr (2, [.ref azr_sign, .ref azr_token, .ref azr_in, .ref azr_own, .ref azr_since, .int zr_size])), (azr_sign, .inl (cI, 240, .inl zr_sign)), (azr_token, .inl (cI, 240, .inl zr_token)), (azr_in, .inl (cI, 240, .inl zr_in)), (azr_own, .inl (cI, 240, .inl zr_own)), (azr_since, .inl (cI, 240, .inl zr_since))] sz)) 0 0 (va_A [(zv, .inr (4, [.ref azv_spots, .ref azv_homes, .int zv_size, .int zv_counts, .int zv_hides])), (azv_spots, .inl (cI, 240, .inl zv_spots)), (azv_homes, .inl (cI, 240, .inl zv_homes)), (zr, .inr (2, [.ref azr_sign, .ref azr_token, .ref azr_in, .ref azr_own, .ref azr_since, .int zr_size])), (azr_sign, .inl (cI, 240, .inl zr_sign)), (azr_token, .inl (cI, 240, .inl zr_token)), (azr_in, .inl (cI, 240, .inl zr_in)), (azr_own, .inl (cI, 240, .inl zr_own)), (azr_since, .inl (cI, 240, .inl zr_since))] sz) := by
  refine Met.ofW (cc := cX4_gather) (maxL := 6) (ret := none) (by decide) rfl ?_
  intro p e s m args below meth c s₁ B hml hv
  obtain ⟨rfl, hsz, hP, hK, hN, hD0⟩ := hv
  have hx := B.exec
  have hb := B.bytes
  have hr := B.returns
  have hts := atoms_spec (ws := wsX4_gather) B.pre
  have hown : s.vm.findClass RX4 = some m.cls := findClass_of_methodNamed B.named
  have hlocks := B.notSynchronized
  subst hsz
  have hD := hD0.self (sz := s.heap.size)
  generalize hAe : va_A [(zv, .inr (4, [.ref azv_spots, .ref azv_homes, .int zv_size, .int zv_counts, .int zv_hides])), (azv_spots, .inl (cI, 240, .inl zv_spots)), (azv_homes, .inl (cI, 240, .inl zv_homes)), (zr, .inr (2, [.ref azr_sign, .ref azr_token, .ref azr_in, .ref azr_own, .ref azr_since, .int zr_size])), (azr_sign, .inl (cI, 240, .inl zr_sign)), (azr_token, .inl (cI, 240, .inl zr_token)), (azr_in, .inl (cI, 240, .inl zr_in)), (azr_own, .inl (cI, 240, .inl zr_own)), (azr_since, .inl (cI, 240, .inl zr_since))] s.heap.size = A at hD ⊢
  have hA : ∀ q : Nat, s.heap.size ≤ q → A q := fun q h => by rw [← hAe]; exact Or.inr h
  have hS : va_S A s.heap s.heap [] := va_S.rf
  have hP : va_P (dC, dI) vwCl [(zv, .inr (4, [.ref azv_spots, .ref azv_homes, .int zv_size, .int zv_counts, .int zv_hides])), (azv_spots, .inl (cI, 240, .inl zv_spots)), (azv_homes, .inl (cI, 240, .inl zv_homes)), (zr, .inr (2, [.ref azr_sign, .ref azr_token, .ref azr_in, .ref azr_own, .ref azr_since, .int zr_size])), (azr_sign, .inl (cI, 240, .inl zr_sign)), (azr_token, .inl (cI, 240, .inl zr_token)), (azr_in, .inl (cI, 240, .inl zr_in)), (azr_own, .inl (cI, 240, .inl zr_own)), (azr_since, .inl (cI, 240, .inl zr_since))] s.heap := hP
  have hl := lv_entry ([.ref zv, .ref zr, .int a_h, .int a_d]) (n := 6) (Nat.le_of_ble_eq_true rfl)
  rw [lg_entry_eq]
  generalize (lg_sl ([.ref zv, .ref zr, .int a_h, .int a_d]) ++ List.replicate (6 - (lg_sl ([.ref zv, .ref zr, .int a_h, .int a_d])).length) Slot.unset).toArray = ls at hl ⊢
  have hl : lv_has ls 6 [(0, .ref zv), (1, .ref zr), (2, .int a_h), (3, .int a_d)] := hl
  refine W_nm (fun QQ hQQ => ?_)
  refine lv_iload_n hx hb dX4_gather_0 rfl (lv_at hl 3 rfl) ?_
  refine lv_bipush (v := (24 : Int32)) hx hb dX4_gather_1 (by decide) ?_
  refine lv_icmp_le (tgt := 7) hx hb dX4_gather_3 (by decide) (fun c_1 => ?_) (fun c_1 => ?_)
  · have tc_1 : a_d.toInt ≤ (24 : Int) := q_le c_1
    refine lv_iconst (v := (0 : Int32)) hx hb dX4_gather_7 (by decide) ?_
    refine lv_istore (lv' := [(4, .int (0 : Int32)), (0, .ref zv), (1, .ref zr), (2, .int a_h), (3, .int a_d)]) hx hb dX4_gather_8 hl (by decide) rfl (fun ls hl => ?_)
    have hloop_2 : ∀ (n_2 : Nat) (v4_2 : Int32) (zv_spots_2 : Nat → Int32) (zv_size_2 : Int32) , (0 ≤ v4_2.toInt) → (v4_2.toInt ≤ 240) → (240 - v4_2.toInt).toNat < n_2 → f_X4_gather_s rec_ zv_spots zv_homes zv_size zv_counts zv_hides zr_token zr_in zr_size a_h a_d = f_X4_gather_s_L10 rec_ zv_homes zv_counts zv_hides zr_token zr_in zr_size a_h a_d n_2 v4_2 zv_spots_2 zv_size_2 → ∀ (H : Heap) (locs : List Loc), va_P (dC, dI) vwCl [(zv, .inr (4, [.ref azv_spots, .ref azv_homes, .int zv_size_2, .int zv_counts, .int zv_hides])), (azv_spots, .inl (cI, 240, .inl zv_spots_2)), (azv_homes, .inl (cI, 240, .inl zv_homes)), (zr, .inr (2, [.ref azr_sign, .ref azr_token, .ref azr_in, .ref azr_own, .ref azr_since, .int zr_size])), (azr_sign, .inl (cI, 240, .inl zr_sign)), (azr_token, .inl (cI, 240, .inl zr_token)), (azr_in, .inl (cI, 240, .inl zr_in)), (azr_own, .inl (cI, 240, .inl zr_own)), (azr_since, .inl (cI, 240, .inl zr_since))] H → va_D A [(zv, .inr (4, [.ref azv_spots, .ref azv_homes, .int zv_size_2, .int zv_counts, .int zv_hides])), (azv_spots, .inl (cI, 240, .inl zv_spots_2)), (azv_homes, .inl (cI, 240, .inl zv_homes)), (zr, .inr (2, [.ref azr_sign, .ref azr_token, .ref azr_in, .ref azr_own, .ref azr_since, .int zr_size])), (azr_sign, .inl (cI, 240, .inl zr_sign)), (azr_token, .inl (cI, 240, .inl zr_token)), (azr_in, .inl (cI, 240, .inl zr_in)), (azr_own, .inl (cI, 240, .inl zr_own)), (azr_since, .inl (cI, 240, .inl zr_since))] → va_S A s.heap H locs → ∀ ls : Array Slot, lv_has ls 6 [(0, .ref zv), (1, .ref zr), (2, .int a_h), (3, .int a_d), (4, .int v4_2)] → W p l e (headSpec wsX4_gather ({ frames := (q + 1) + 2, cells := 0, slots := 0, locals := 25 * (q + 1) + 60 } : Room)).room s m ([.ref zv, .ref zr, .int a_h, .int a_d] : List Value).toArray below meth c H locs 0 0 QQ (F0 m 10 ls []) := by
      intro n_2
      induction n_2 with
      | zero => intro v4_2 zv_spots_2 zv_size_2 hi0_2 hi1_2 hmu; exact absurd hmu (Nat.not_lt_zero _)
      | succ n_2 ih_2 =>
        intro v4_2 zv_spots_2 zv_size_2 hi0_2 hi1_2 hmu_2 hI_2 H locs hP hD hS ls hl
        refine lv_iload hx hb dX4_gather_10 (lv_at hl 4 rfl) ?_
        refine lv_sipush (v := (240 : Int32)) hx hb dX4_gather_12 (by decide) ?_
        refine lv_icmp_ge (tgt := 94) hx hb dX4_gather_15 (by decide) (fun c_3 => ?_) (fun c_3 => ?_)
        · have tc_3 : (240 : Int) ≤ v4_2.toInt := q_le c_3
          rw [hQQ]
          have hE : f_X4_gather_s rec_ zv_spots zv_homes zv_size zv_counts zv_hides zr_token zr_in zr_size a_h a_d = (zv_spots_2, zv_size_2) := (hI_2.trans (by rw [f_X4_gather_s_L10, if_pos c_3]))
          exact W.vret hx hb hr (fun t ht hW => ⟨⟨(zv_spots_2, zv_size_2), rfl, by rw [hE], ⟨by rw [ht]; exact hP, hD⟩⟩, hS.F ht⟩) hS.2.2 dX4_gather_94
        · have tc_3 : v4_2.toInt < (240 : Int) := q_nle c_3
          refine lv_aload_n hx hb dX4_gather_18 rfl (lv_at hl 1 rfl) ?_
          refine lv_iload hx hb dX4_gather_19 (lv_at hl 4 rfl) ?_
          have hPc := hP.sub (ws' := [(zr, .inr (2, [.ref azr_sign, .ref azr_token, .ref azr_in, .ref azr_own, .ref azr_since, .int zr_size])), (azr_sign, .inl (cI, 240, .inl zr_sign)), (azr_token, .inl (cI, 240, .inl zr_token)), (azr_in, .inl (cI, 240, .inl zr_in)), (azr_own, .inl (cI, 240, .inl zr_own)), (azr_since, .inl (cI, 240, .inl zr_since))]) [3, 4, 5, 6, 7, 8] rfl
          have hDc := hD.sub (ws' := [(zr, .inr (2, [.ref azr_sign, .ref azr_token, .ref azr_in, .ref azr_own, .ref azr_since, .int zr_size])), (azr_sign, .inl (cI, 240, .inl zr_sign)), (azr_token, .inl (cI, 240, .inl zr_token)), (azr_in, .inl (cI, 240, .inl zr_in)), (azr_own, .inl (cI, 240, .inl zr_own)), (azr_since, .inl (cI, 240, .inl zr_since))]) [3, 4, 5, 6, 7, 8] (by decide) rfl
          refine va_calli (va_runV (As := [.int v4_2]) (rest := []) ⟨hx, hb, hml, hown, hts⟩ (c_X2_has l dC dI cI cJ H.size zr azr_sign azr_token azr_in azr_own azr_since zr_sign zr_token zr_in zr_own zr_since zr_size v4_2) (cwV 1 hts gX4_gather_X2_has rfl rfl rfl (by decide +kernel) ⟨(by show 0 + 1 ≤ (q + 1) + 2; omega), (by show 8 + (2 + 11) + 0 ≤ 25 * (q + 1) + 60; omega)⟩) ⟨fun a U g mk q => ⟨q.1, PreW.call g mk a q.2⟩, va_recv hK hP (ci := 2) (q0 := 3) rfl rfl, fun U hU hW => ⟨rfl, PreW.mk2 hU hW hPc hK hN (hDc.weaken (fun _ _ _ _ => trivial))⟩⟩ rfl rfl hl.1 rfl (lv_room (Nat.le_of_ble_eq_true rfl)) dX4_gather_21 ⟨Nat.le_of_ble_eq_true rfl, Nat.le_of_ble_eq_true rfl⟩) hS (fun q hq h => absurd hq (Nat.not_lt.mpr h)) (fun q h => hA q (Nat.le_trans hS.1 h)) (fun r_4 _u t H1 locs ht hvm hw hB hz1 hk1 hS => ?_)
          have hP := va_ro hP hk1
          generalize H1 = H at hP hS ⊢
          have hw : r_4 = f_X2_has zr_size v4_2 := hw
          subst hw
          obtain ⟨z_5, hz_5⟩ : ∃ z : Int32, z = f_X2_has zr_size v4_2 := ⟨_, rfl⟩
          refine lv_if_eq (tgt := 94) hx hb dX4_gather_24 (by decide) (fun c_6 => ?_) (fun c_6 => ?_)
          · have tc_6 : z_5.toInt = (0 : Int) := by rw [hz_5]; exact q_eq c_6
            rw [hQQ]
            have hE : f_X4_gather_s rec_ zv_spots zv_homes zv_size zv_counts zv_hides zr_token zr_in zr_size a_h a_d = (zv_spots_2, zv_size_2) := (hI_2.trans (by rw [f_X4_gather_s_L10, if_neg c_3, if_pos c_6]))
            exact W.vret hx hb hr (fun t ht hW => ⟨⟨(zv_spots_2, zv_size_2), rfl, by rw [hE], ⟨by rw [ht]; exact hP, hD⟩⟩, hS.F ht⟩) hS.2.2 dX4_gather_94
          · have tc_6 : ¬ z_5.toInt = (0 : Int) := by rw [hz_5]; exact q_ne c_6
            obtain ⟨b_7, b_8, b_9⟩ := has_in c_6
            refine lv_aload_n hx hb dX4_gather_27 rfl (lv_at hl 0 rfl) ?_
            refine va_get (D := (dC, dI)) (ci := 4) (v := .ref azv_homes) (C := RX4) (T := TX4) (N := 5) hx hb hts in_X4_gather_X4 hown hK hP 0 rfl rfl 1 (by decide) (hts _ m_X4_gather_1) (fun _ h9 => h9) rfl dX4_gather_28 ?_
            refine lv_iload hx hb dX4_gather_31 (lv_at hl 4 rfl) ?_
            refine va_iald (q0 := 2) (t0 := 0) (n := 240) (f := zv_homes) hx hb hK hP rfl rfl (vp_in_iff.mpr ⟨by omega, by omega⟩) dX4_gather_33 ?_
            refine lv_iload_n hx hb dX4_gather_34 rfl (lv_at hl 2 rfl) ?_
            refine lv_icmp_eq (tgt := 41) hx hb dX4_gather_35 (by decide) (fun c_10 => ?_) (fun c_10 => ?_)
            · refine lv_aload_n hx hb dX4_gather_41 rfl (lv_at hl 1 rfl) ?_
              refine va_get (D := (dC, dI)) (ci := 2) (v := .ref azr_token) (C := RX2) (T := TX2) (N := 6) hx hb hts in_X4_gather_X2 hown hK hP 3 rfl rfl 1 (by decide) (hts _ m_X4_gather_2) (fun _ h9 => h9) rfl dX4_gather_42 ?_
              refine lv_iload hx hb dX4_gather_45 (lv_at hl 4 rfl) ?_
              refine va_iald (q0 := 5) (t0 := 0) (n := 240) (f := zr_token) hx hb hK hP rfl rfl (vp_in_iff.mpr ⟨by omega, by omega⟩) dX4_gather_47 ?_
              refine lv_istore (lv' := [(5, .int (zr_token (v4_2).toNatClampNeg)), (0, .ref zv), (1, .ref zr), (2, .int a_h), (3, .int a_d), (4, .int v4_2)]) hx hb dX4_gather_48 hl (by decide) rfl (fun ls hl => ?_)
              refine lv_iload hx hb dX4_gather_50 (lv_at hl 0 rfl) ?_
              refine lv_if_ne (tgt := 65) hx hb dX4_gather_52 (by decide) (fun c_11 => ?_) (fun c_11 => ?_)
              · refine lv_iload hx hb dX4_gather_65 (lv_at hl 0 rfl) ?_
                have hPc := hP.sub (ws' := []) [] rfl
                have hDc := hD.sub (ws' := []) [] (by decide) rfl
                refine va_calli (va_runSN (As := [.int (zr_token (v4_2).toNatClampNeg)]) (rest := []) ⟨hx, hb, hml, hown, hts⟩ (c_X5_bit l dC dI cI cJ H.size (zr_token (v4_2).toNatClampNeg)) ⟨va_cnB 1 hts gX4_gather_X5_bit_n52 rfl rfl rfl hN.2.2.2.1 (hts _ m_X4_gather_20) (by decide +kernel) ⟨(by show 0 + 1 ≤ (q + 1) + 2; omega), (by show 8 + (1 + 11) + 0 ≤ 25 * (q + 1) + 60; omega)⟩, (hts _ m_X4_gather_19), trivial⟩ ⟨fun a U g mk q => ⟨q.1, PreW.call g mk a q.2⟩, fun U hU hW => ⟨rfl, PreW.mk2 hU hW hPc hK hN (hDc.weaken (fun _ _ _ _ => trivial))⟩⟩ rfl rfl hl.1 rfl (lv_room (Nat.le_of_ble_eq_true rfl)) dX4_gather_67 ⟨Nat.le_of_ble_eq_true rfl, Nat.le_of_ble_eq_true rfl⟩) hS (fun q hq h => absurd hq (Nat.not_lt.mpr h)) (fun q h => hA q (Nat.le_trans hS.1 h)) (fun r_12 _u t H1 locs ht hvm hw hB hz1 hk1 hS => ?_)
                have hP := va_ro hP hk1
                generalize H1 = H at hP hS ⊢
                have hw : r_12 = f_X5_bit (zr_token (v4_2).toNatClampNeg) := hw
                subst hw
                obtain ⟨z_13, hz_13⟩ : ∃ z : Int32, z = f_X5_bit (zr_token (v4_2).toNatClampNeg) := ⟨_, rfl⟩
                refine lv_aload_n hx hb dX4_gather_70 rfl (lv_at hl 1 rfl) ?_
                refine va_get (D := (dC, dI)) (ci := 4) (v := .int zv_counts) (C := RX4) (T := TX4) (N := 5) hx hb hts in_X4_gather_X4 hown hK hP 0 rfl rfl 3 (by decide) (hts _ m_X4_gather_3) (fun _ h9 => h9) rfl dX4_gather_71 ?_
                refine lv_iand hx hb dX4_gather_74 ?_
                refine lv_if_eq (tgt := 88) hx hb dX4_gather_75 (by decide) (fun c_14 => ?_) (fun c_14 => ?_)
                · refine lv_iinc (v := (v4_2 + (1 : Int32))) (lv' := [(4, .int (v4_2 + (1 : Int32))), (5, .int (zr_token (v4_2).toNatClampNeg)), (0, .ref zv), (1, .ref zr), (2, .int a_h), (3, .int a_d)]) hx hb dX4_gather_88 hl (k := 5) rfl rfl (by decide) rfl (fun ls hl => ?_)
                  obtain ⟨z_15, hz_15⟩ : ∃ z : Int32, z = (v4_2 + (1 : Int32)) := ⟨_, rfl⟩
                  try have gz_15 : z_15.toInt = v4_2.toInt + (1 : Int) := by rw [hz_15]; exact ti_add2 rfl rfl (by omega) (by omega)
                  refine lv_goto (tgt := 10) hx hb dX4_gather_91 (by decide) ?_
                  exact ih_2 (v4_2 + (1 : Int32)) zv_spots_2 zv_size_2 (by rw [← hz_15]; omega) (by rw [← hz_15]; omega) (by rw [← hz_15]; omega) (hI_2.trans (by rw [f_X4_gather_s_L10, if_neg c_3, if_neg c_6, if_pos c_10, if_neg c_11, if_pos c_14])) _ _ hP hD hS ls (lv_sub hl [2, 3, 4, 5, 0] rfl)
                · refine lv_aload_n hx hb dX4_gather_78 rfl (lv_at hl 1 rfl) ?_
                  refine lv_aload_n hx hb dX4_gather_79 rfl (lv_at hl 2 rfl) ?_
                  refine lv_iload hx hb dX4_gather_80 (lv_at hl 0 rfl) ?_
                  refine lv_iload_n hx hb dX4_gather_82 rfl (lv_at hl 4 rfl) ?_
                  refine lv_iconst (v := (1 : Int32)) hx hb dX4_gather_83 (by decide) ?_
                  refine lv_iadd hx hb dX4_gather_84 ?_
                  obtain ⟨z_16, hz_16⟩ : ∃ z : Int32, z = (a_d + (1 : Int32)) := ⟨_, rfl⟩
                  try have gz_16 : z_16.toInt = a_d.toInt + (1 : Int) := by rw [hz_16]; exact ti_add2 rfl rfl (by omega) (by omega)
                  have hPc := hP.sub (ws' := [(zv, .inr (4, [.ref azv_spots, .ref azv_homes, .int zv_size_2, .int zv_counts, .int zv_hides])), (azv_spots, .inl (cI, 240, .inl zv_spots_2)), (azv_homes, .inl (cI, 240, .inl zv_homes)), (zr, .inr (2, [.ref azr_sign, .ref azr_token, .ref azr_in, .ref azr_own, .ref azr_since, .int zr_size])), (azr_sign, .inl (cI, 240, .inl zr_sign)), (azr_token, .inl (cI, 240, .inl zr_token)), (azr_in, .inl (cI, 240, .inl zr_in)), (azr_own, .inl (cI, 240, .inl zr_own)), (azr_since, .inl (cI, 240, .inl zr_since))]) [0, 1, 2, 3, 4, 5, 6, 7, 8] rfl
                  have hDc := hD.sub (ws' := [(zv, .inr (4, [.ref azv_spots, .ref azv_homes, .int zv_size_2, .int zv_counts, .int zv_hides])), (azv_spots, .inl (cI, 240, .inl zv_spots_2)), (azv_homes, .inl (cI, 240, .inl zv_homes)), (zr, .inr (2, [.ref azr_sign, .ref azr_token, .ref azr_in, .ref azr_own, .ref azr_since, .int zr_size])), (azr_sign, .inl (cI, 240, .inl zr_sign)), (azr_token, .inl (cI, 240, .inl zr_token)), (azr_in, .inl (cI, 240, .inl zr_in)), (azr_own, .inl (cI, 240, .inl zr_own)), (azr_since, .inl (cI, 240, .inl zr_since))]) [0, 1, 2, 3, 4, 5, 6, 7, 8] (by decide) rfl
                  have hFc := va_free (wc := [(zv, .inr (4, [.ref azv_spots, .ref azv_homes, .int zv_size_2, .int zv_counts, .int zv_hides])), (azv_spots, .inl (cI, 240, .inl zv_spots_2)), (azv_homes, .inl (cI, 240, .inl zv_homes)), (zr, .inr (2, [.ref azr_sign, .ref azr_token, .ref azr_in, .ref azr_own, .ref azr_since, .int zr_size])), (azr_sign, .inl (cI, 240, .inl zr_sign)), (azr_token, .inl (cI, 240, .inl zr_token)), (azr_in, .inl (cI, 240, .inl zr_in)), (azr_own, .inl (cI, 240, .inl zr_own)), (azr_since, .inl (cI, 240, .inl zr_since))]) hD hS hA [0, 1, 2, 3, 4, 5, 6, 7, 8] rfl
                  refine va_callv (va_runS (As := [.ref zv, .ref zr, .int (zr_token (v4_2).toNatClampNeg), .int (a_d + (1 : Int32))]) (rest := []) ⟨hx, hb, hml, hown, hts⟩ (ih H.size zv_spots_2 zv_size_2 (zr_token (v4_2).toNatClampNeg) (a_d + (1 : Int32)) (by rw [← hz_16]; omega) (by rw [← hz_16]; omega)) (va_cwS 4 hts gX4_gather_X4_gather rfl rfl rfl (by decide +kernel) ⟨(by show (q + 2) + 1 ≤ (q + 1) + 2; omega), (by show 8 + (6 + 11) + (25 * q + 60) ≤ 25 * (q + 1) + 60; omega)⟩) ⟨fun a U g mk q => ⟨q.1, PreW.call g mk a q.2⟩, fun U hU hW => ⟨rfl, PreW.mk2 hU hW hPc hK hN (hDc.weaken (fun _ _ _ _ => trivial))⟩⟩ rfl rfl hl.1 rfl (lv_room (Nat.le_of_ble_eq_true rfl)) dX4_gather_85 ⟨Nat.le_of_ble_eq_true rfl, Nat.le_of_ble_eq_true rfl⟩) hS (fun q _ h => hFc q h) hFc (fun u_17 t H1 locs ht hvm hw hB hz1 hk1 hS => ?_)
                  obtain ⟨hB1, hB2⟩ : PostW dC dI [(zv, .inr (4, [.ref azv_spots, .ref azv_homes, .int u_17.2, .int zv_counts, .int zv_hides])), (azv_spots, .inl (cI, 240, .inl u_17.1)), (azv_homes, .inl (cI, 240, .inl zv_homes)), (zr, .inr (2, [.ref azr_sign, .ref azr_token, .ref azr_in, .ref azr_own, .ref azr_since, .int zr_size])), (azr_sign, .inl (cI, 240, .inl zr_sign)), (azr_token, .inl (cI, 240, .inl zr_token)), (azr_in, .inl (cI, 240, .inl zr_in)), (azr_own, .inl (cI, 240, .inl zr_own)), (azr_since, .inl (cI, 240, .inl zr_since))] t _ := hB
                  rw [ht] at hB1
                  obtain ⟨hP, hD⟩ := va_join (wr := []) (w1 := [(zv, .inr (4, [.ref azv_spots, .ref azv_homes, .int u_17.2, .int zv_counts, .int zv_hides])), (azv_spots, .inl (cI, 240, .inl u_17.1)), (azv_homes, .inl (cI, 240, .inl zv_homes)), (zr, .inr (2, [.ref azr_sign, .ref azr_token, .ref azr_in, .ref azr_own, .ref azr_since, .int zr_size])), (azr_sign, .inl (cI, 240, .inl zr_sign)), (azr_token, .inl (cI, 240, .inl zr_token)), (azr_in, .inl (cI, 240, .inl zr_in)), (azr_own, .inl (cI, 240, .inl zr_own)), (azr_since, .inl (cI, 240, .inl zr_since))]) hP hD [0, 1, 2, 3, 4, 5, 6, 7, 8] [] rfl rfl (by decide) (by decide) hk1 hFc hB1 hB2
                  generalize H1 = H at hP hS ⊢
                  have hP : va_P (dC, dI) vwCl [(zv, .inr (4, [.ref azv_spots, .ref azv_homes, .int u_17.2, .int zv_counts, .int zv_hides])), (azv_spots, .inl (cI, 240, .inl u_17.1)), (azv_homes, .inl (cI, 240, .inl zv_homes)), (zr, .inr (2, [.ref azr_sign, .ref azr_token, .ref azr_in, .ref azr_own, .ref azr_since, .int zr_size])), (azr_sign, .inl (cI, 240, .inl zr_sign)), (azr_token, .inl (cI, 240, .inl zr_token)), (azr_in, .inl (cI, 240, .inl zr_in)), (azr_own, .inl (cI, 240, .inl zr_own)), (azr_since, .inl (cI, 240, .inl zr_since))] H := hP
                  have hD : va_D A [(zv, .inr (4, [.ref azv_spots, .ref azv_homes, .int u_17.2, .int zv_counts, .int zv_hides])), (azv_spots, .inl (cI, 240, .inl u_17.1)), (azv_homes, .inl (cI, 240, .inl zv_homes)), (zr, .inr (2, [.ref azr_sign, .ref azr_token, .ref azr_in, .ref azr_own, .ref azr_since, .int zr_size])), (azr_sign, .inl (cI, 240, .inl zr_sign)), (azr_token, .inl (cI, 240, .inl zr_token)), (azr_in, .inl (cI, 240, .inl zr_in)), (azr_own, .inl (cI, 240, .inl zr_own)), (azr_since, .inl (cI, 240, .inl zr_since))] := hD
                  have hw2 : u_17 = rec_ zv_spots_2 zv_size_2 (zr_token (v4_2).toNatClampNeg) (a_d + (1 : Int32)) := hw
                  have hI18 : f_X4_gather_s rec_ zv_spots zv_homes zv_size zv_counts zv_hides zr_token zr_in zr_size a_h a_d = f_X4_gather_s_k88_u_17 v4_2 (f_X4_gather_s_L10 rec_ zv_homes zv_counts zv_hides zr_token zr_in zr_size a_h a_d n_2) u_17 := (hI_2.trans (by rw [hw2]; rw [f_X4_gather_s_L10, if_neg c_3, if_neg c_6, if_pos c_10, if_neg c_11, if_neg c_14]))
                  refine lv_iinc (v := (v4_2 + (1 : Int32))) (lv' := [(4, .int (v4_2 + (1 : Int32))), (5, .int (zr_token (v4_2).toNatClampNeg)), (0, .ref zv), (1, .ref zr), (2, .int a_h), (3, .int a_d)]) hx hb dX4_gather_88 hl (k := 5) rfl rfl (by decide) rfl (fun ls hl => ?_)
                  obtain ⟨z_19, hz_19⟩ : ∃ z : Int32, z = (v4_2 + (1 : Int32)) := ⟨_, rfl⟩
                  try have gz_19 : z_19.toInt = v4_2.toInt + (1 : Int) := by rw [hz_19]; exact ti_add2 rfl rfl (by omega) (by omega)
                  refine lv_goto (tgt := 10) hx hb dX4_gather_91 (by decide) ?_
                  exact ih_2 (v4_2 + (1 : Int32)) u_17.1 u_17.2 (by rw [← hz_19]; omega) (by rw [← hz_19]; omega) (by rw [← hz_19]; omega) (hI18.trans (by rw [f_X4_gather_s_k88_u_17])) _ _ hP hD hS ls (lv_sub hl [2, 3, 4, 5, 0] rfl)
              · refine lv_aload_n hx hb dX4_gather_55 rfl (lv_at hl 1 rfl) ?_
                refine lv_aload_n hx hb dX4_gather_56 rfl (lv_at hl 2 rfl) ?_
                refine lv_iload hx hb dX4_gather_57 (lv_at hl 5 rfl) ?_
                have hPc := hP.sub (ws' := [(zv, .inr (4, [.ref azv_spots, .ref azv_homes, .int zv_size_2, .int zv_counts, .int zv_hides])), (azv_spots, .inl (cI, 240, .inl zv_spots_2)), (azv_homes, .inl (cI, 240, .inl zv_homes)), (zr, .inr (2, [.ref azr_sign, .ref azr_token, .ref azr_in, .ref azr_own, .ref azr_since, .int zr_size])), (azr_sign, .inl (cI, 240, .inl zr_sign)), (azr_token, .inl (cI, 240, .inl zr_token)), (azr_in, .inl (cI, 240, .inl zr_in)), (azr_own, .inl (cI, 240, .inl zr_own)), (azr_since, .inl (cI, 240, .inl zr_since))]) [0, 1, 2, 3, 4, 5, 6, 7, 8] rfl
                have hDc := hD.sub (ws' := [(zv, .inr (4, [.ref azv_spots, .ref azv_homes, .int zv_size_2, .int zv_counts, .int zv_hides])), (azv_spots, .inl (cI, 240, .inl zv_spots_2)), (azv_homes, .inl (cI, 240, .inl zv_homes)), (zr, .inr (2, [.ref azr_sign, .ref azr_token, .ref azr_in, .ref azr_own, .ref azr_since, .int zr_size])), (azr_sign, .inl (cI, 240, .inl zr_sign)), (azr_token, .inl (cI, 240, .inl zr_token)), (azr_in, .inl (cI, 240, .inl zr_in)), (azr_own, .inl (cI, 240, .inl zr_own)), (azr_since, .inl (cI, 240, .inl zr_since))]) [0, 1, 2, 3, 4, 5, 6, 7, 8] (by decide) rfl
                have hFc := va_free (wc := [(zv, .inr (4, [.ref azv_spots, .ref azv_homes, .int zv_size_2, .int zv_counts, .int zv_hides])), (azv_spots, .inl (cI, 240, .inl zv_spots_2)), (azv_homes, .inl (cI, 240, .inl zv_homes)), (zr, .inr (2, [.ref azr_sign, .ref azr_token, .ref azr_in, .ref azr_own, .ref azr_since, .int zr_size])), (azr_sign, .inl (cI, 240, .inl zr_sign)), (azr_token, .inl (cI, 240, .inl zr_token)), (azr_in, .inl (cI, 240, .inl zr_in)), (azr_own, .inl (cI, 240, .inl zr_own)), (azr_since, .inl (cI, 240, .inl zr_since))]) hD hS hA [0, 1, 2, 3, 4, 5, 6, 7, 8] rfl
                refine va_callv (va_runV (As := [.ref zr, .int v4_2]) (rest := []) ⟨hx, hb, hml, hown, hts⟩ (c_X4_addUnlessHidden l dC dI cI cJ H.size zv azv_spots azv_homes zr azr_sign azr_token azr_in azr_own azr_since zv_spots_2 zv_homes zr_sign zr_token zr_in zr_own zr_since zv_size_2 zv_counts zv_hides zr_size v4_2) (cwV 2 hts gX4_gather_X4_addUnlessHidden rfl rfl rfl (by decide +kernel) ⟨(by show 1 + 1 ≤ (q + 1) + 2; omega), (by show 8 + (3 + 11) + 21 ≤ 25 * (q + 1) + 60; omega)⟩) ⟨fun a U g mk q => ⟨q.1, PreW.call g mk a q.2⟩, va_recv hK hP (ci := 4) (q0 := 0) rfl rfl, fun U hU hW => ⟨rfl, PreW.mk2 hU hW hPc hK hN (hDc.weaken (fun _ _ _ _ => trivial))⟩⟩ rfl rfl hl.1 rfl (lv_room (Nat.le_of_ble_eq_true rfl)) dX4_gather_59 ⟨Nat.le_of_ble_eq_true rfl, Nat.le_of_ble_eq_true rfl⟩) hS (fun q _ h => hFc q h) hFc (fun u_20 t H1 locs ht hvm hw hB hz1 hk1 hS => ?_)
                obtain ⟨hB1, hB2⟩ : PostW dC dI [(zv, .inr (4, [.ref azv_spots, .ref azv_homes, .int u_20.2, .int zv_counts, .int zv_hides])), (azv_spots, .inl (cI, 240, .inl u_20.1)), (azv_homes, .inl (cI, 240, .inl zv_homes)), (zr, .inr (2, [.ref azr_sign, .ref azr_token, .ref azr_in, .ref azr_own, .ref azr_since, .int zr_size])), (azr_sign, .inl (cI, 240, .inl zr_sign)), (azr_token, .inl (cI, 240, .inl zr_token)), (azr_in, .inl (cI, 240, .inl zr_in)), (azr_own, .inl (cI, 240, .inl zr_own)), (azr_since, .inl (cI, 240, .inl zr_since))] t _ := hB
                rw [ht] at hB1
                obtain ⟨hP, hD⟩ := va_join (wr := []) (w1 := [(zv, .inr (4, [.ref azv_spots, .ref azv_homes, .int u_20.2, .int zv_counts, .int zv_hides])), (azv_spots, .inl (cI, 240, .inl u_20.1)), (azv_homes, .inl (cI, 240, .inl zv_homes)), (zr, .inr (2, [.ref azr_sign, .ref azr_token, .ref azr_in, .ref azr_own, .ref azr_since, .int zr_size])), (azr_sign, .inl (cI, 240, .inl zr_sign)), (azr_token, .inl (cI, 240, .inl zr_token)), (azr_in, .inl (cI, 240, .inl zr_in)), (azr_own, .inl (cI, 240, .inl zr_own)), (azr_since, .inl (cI, 240, .inl zr_since))]) hP hD [0, 1, 2, 3, 4, 5, 6, 7, 8] [] rfl rfl (by decide) (by decide) hk1 hFc hB1 hB2
                generalize H1 = H at hP hS ⊢
                have hP : va_P (dC, dI) vwCl [(zv, .inr (4, [.ref azv_spots, .ref azv_homes, .int u_20.2, .int zv_counts, .int zv_hides])), (azv_spots, .inl (cI, 240, .inl u_20.1)), (azv_homes, .inl (cI, 240, .inl zv_homes)), (zr, .inr (2, [.ref azr_sign, .ref azr_token, .ref azr_in, .ref azr_own, .ref azr_since, .int zr_size])), (azr_sign, .inl (cI, 240, .inl zr_sign)), (azr_token, .inl (cI, 240, .inl zr_token)), (azr_in, .inl (cI, 240, .inl zr_in)), (azr_own, .inl (cI, 240, .inl zr_own)), (azr_since, .inl (cI, 240, .inl zr_since))] H := hP
                have hD : va_D A [(zv, .inr (4, [.ref azv_spots, .ref azv_homes, .int u_20.2, .int zv_counts, .int zv_hides])), (azv_spots, .inl (cI, 240, .inl u_20.1)), (azv_homes, .inl (cI, 240, .inl zv_homes)), (zr, .inr (2, [.ref azr_sign, .ref azr_token, .ref azr_in, .ref azr_own, .ref azr_since, .int zr_size])), (azr_sign, .inl (cI, 240, .inl zr_sign)), (azr_token, .inl (cI, 240, .inl zr_token)), (azr_in, .inl (cI, 240, .inl zr_in)), (azr_own, .inl (cI, 240, .inl zr_own)), (azr_since, .inl (cI, 240, .inl zr_since))] := hD
                have hw2 : u_20 = f_X4_addUnlessHidden zv_spots_2 zv_size_2 zv_hides zr_in zr_size v4_2 := hw
                have hI21 : f_X4_gather_s rec_ zv_spots zv_homes zv_size zv_counts zv_hides zr_token zr_in zr_size a_h a_d = f_X4_gather_s_k62_u_20 v4_2 (f_X4_gather_s_L10 rec_ zv_homes zv_counts zv_hides zr_token zr_in zr_size a_h a_d n_2) u_20 := (hI_2.trans (by rw [hw2]; rw [f_X4_gather_s_L10, if_neg c_3, if_neg c_6, if_pos c_10, if_pos c_11]))
                refine lv_goto (tgt := 88) hx hb dX4_gather_62 (by decide) ?_
                refine lv_iinc (v := (v4_2 + (1 : Int32))) (lv' := [(4, .int (v4_2 + (1 : Int32))), (5, .int (zr_token (v4_2).toNatClampNeg)), (0, .ref zv), (1, .ref zr), (2, .int a_h), (3, .int a_d)]) hx hb dX4_gather_88 hl (k := 5) rfl rfl (by decide) rfl (fun ls hl => ?_)
                obtain ⟨z_22, hz_22⟩ : ∃ z : Int32, z = (v4_2 + (1 : Int32)) := ⟨_, rfl⟩
                try have gz_22 : z_22.toInt = v4_2.toInt + (1 : Int) := by rw [hz_22]; exact ti_add2 rfl rfl (by omega) (by omega)
                refine lv_goto (tgt := 10) hx hb dX4_gather_91 (by decide) ?_
                exact ih_2 (v4_2 + (1 : Int32)) u_20.1 u_20.2 (by rw [← hz_22]; omega) (by rw [← hz_22]; omega) (by rw [← hz_22]; omega) (hI21.trans (by rw [f_X4_gather_s_k62_u_20])) _ _ hP hD hS ls (lv_sub hl [2, 3, 4, 5, 0] rfl)
            · refine lv_goto (tgt := 88) hx hb dX4_gather_38 (by decide) ?_
              refine lv_iinc (v := (v4_2 + (1 : Int32))) (lv' := [(4, .int (v4_2 + (1 : Int32))), (0, .ref zv), (1, .ref zr), (2, .int a_h), (3, .int a_d)]) hx hb dX4_gather_88 hl (k := 4) rfl rfl (by decide) rfl (fun ls hl => ?_)
              obtain ⟨z_23, hz_23⟩ : ∃ z : Int32, z = (v4_2 + (1 : Int32)) := ⟨_, rfl⟩
              try have gz_23 : z_23.toInt = v4_2.toInt + (1 : Int) := by rw [hz_23]; exact ti_add2 rfl rfl (by omega) (by omega)
              refine lv_goto (tgt := 10) hx hb dX4_gather_91 (by decide) ?_
              exact ih_2 (v4_2 + (1 : Int32)) zv_spots_2 zv_size_2 (by rw [← hz_23]; omega) (by rw [← hz_23]; omega) (by rw [← hz_23]; omega) (hI_2.trans (by rw [f_X4_gather_s_L10, if_neg c_3, if_neg c_6, if_neg c_10])) _ _ hP hD hS ls (lv_sub hl [1, 2, 3, 4, 0] rfl)
    exact hloop_2 241 (0 : Int32) zv_spots zv_size (by first | omega | exact (show 0 ≤ (0 : Int) by omega) | assumption | trivial) (by first | omega | exact (show (0 : Int) ≤ 240 by omega) | assumption | trivial) (by first | omega | exact (show (240 - (0 : Int)).toNat < 241 by omega)) (by rw [f_X4_gather_s, if_pos c_1]) _ _ hP hD hS ls (lv_sub hl [1, 2, 3, 4, 0] rfl)
  · have tc_1 : (24 : Int) < a_d.toInt := q_nle c_1
    rw [hQQ]
    have hE : f_X4_gather_s rec_ zv_spots zv_homes zv_size zv_counts zv_hides zr_token zr_in zr_size a_h a_d = (zv_spots, zv_size) := (by rw [f_X4_gather_s, if_neg c_1])
    exact W.vret hx hb hr (fun t ht hW => ⟨⟨(zv_spots, zv_size), rfl, by rw [hE], ⟨by rw [ht]; exact hP, hD⟩⟩, hS.F ht⟩) hS.2.2 dX4_gather_6

def f_X4_gather_0 (zv_spots : Nat → Int32) (zv_size : Int32) (a_d : Int32) : (Nat → Int32) × Int32 := if a_d ≤ (24 : Int32) then ((fun _ => 0), 0) else (zv_spots, zv_size)
set_option maxHeartbeats 4000000 in
set_option maxRecDepth 100000 in
theorem c_X4_gather_0 (l : Launch) (dC : Nat → ClassId) (dI : Nat → Nat → Nat) (cI cJ : ClassId) (sz : Nat) (zv azv_spots azv_homes zr azr_sign azr_token azr_in azr_own azr_since : Nat) (zv_spots zv_homes zr_sign zr_token zr_in zr_own zr_since : Nat → Int32) (zv_size zv_counts zv_hides zr_size : Int32) (a_h : Int32) (a_d : Int32) (hd : 24 - a_d.toInt < 0) : Met l yX4_gather wsX4_gather ({ frames := 0 + 2, cells := 0, slots := 0, locals := 25 * 0 + 60 } : Room) (va_Pc [.ref zv, .ref zr, .int a_h, .int a_d] (PreW dC dI cI cJ sz [(zv, .inr (4, [.ref azv_spots, .ref azv_homes, .int zv_size, .int zv_counts, .int zv_hides])), (azv_spots, .inl (cI, 240, .inl zv_spots)), (azv_homes, .inl (cI, 240, .inl zv_homes)), (zr, .inr (2, [.ref azr_sign, .ref azr_token, .ref azr_in, .ref azr_own, .ref azr_since, .int zr_size])), (azr_sign, .inl (cI, 240, .inl zr_sign)), (azr_token, .inl (cI, 240, .inl zr_token)), (azr_in, .inl (cI, 240, .inl zr_in)), (azr_own, .inl (cI, 240, .inl zr_own)), (azr_since, .inl (cI, 240, .inl zr_since))])) (va_Qv (fun (u : (Nat → Int32) × Int32) => u = f_X4_gather_0 zv_spots zv_size a_d) (fun (u : (Nat → Int32) × Int32) t => PostW dC dI [(zv, .inr (4, [.ref azv_spots, .ref azv_homes, .int u.2, .int zv_counts, .int zv_hides])), (azv_spots, .inl (cI, 240, .inl u.1)), (azv_homes, .inl (cI, 240, .inl zv_homes)), (zr, .inr (2, [.ref azr_sign, .ref azr_token, .ref azr_in, .ref azr_own, .ref azr_since, .int zr_size])), (azr_sign, .inl (cI, 240, .inl zr_sign)), (azr_token, .inl (cI, 240, .inl zr_token)), (azr_in, .inl (cI, 240, .inl zr_in)), (azr_own, .inl (cI, 240, .inl zr_own)), (azr_since, .inl (cI, 240, .inl zr_since))] t (va_A [(zv, .inr (4, [.ref azv_spots, .ref azv_homes, .int zv_size, .int zv_counts, .int zv_hides])), (azv_spots, .inl (cI, 240, .inl zv_spots)), (azv_homes, .inl (cI, 240, .inl zv_homes)), (zr, .inr (2, [.ref azr_sign, .ref azr_token, .ref azr_in, .ref azr_own, .ref azr_since, .int zr_size])), (azr_sign, .inl (cI, 240, .inl zr_sign)), (azr_token, .inl (cI, 240, .inl zr_token)), (azr_in, .inl (cI, 240, .inl zr_in)), (azr_own, .inl (cI, 240, .inl zr_own)), (azr_since, .inl (cI, 240, .inl zr_since))] sz)) (va_A [(zv, .inr (4, [.ref azv_spots, .ref azv_homes, .int zv_size, .int zv_counts, .int zv_hides])), (azv_spots, .inl (cI, 240, .inl zv_spots)), (azv_homes, .inl (cI, 240, .inl zv_homes)), (zr, .inr (2, [.ref azr_sign, .ref azr_token, .ref azr_in, .ref azr_own, .ref azr_since, .int zr_size])), (azr_sign, .inl (cI, 240, .inl zr_sign)), (azr_token, .inl (cI, 240, .inl zr_token)), (azr_in, .inl (cI, 240, .inl zr_in)), (azr_own, .inl (cI, 240, .inl zr_own)), (azr_since, .inl (cI, 240, .inl zr_since))] sz)) 0 0 (va_A [(zv, .inr (4, [.ref azv_spots, .ref azv_homes, .int zv_size, .int zv_counts, .int zv_hides])), (azv_spots, .inl (cI, 240, .inl zv_spots)), (azv_homes, .inl (cI, 240, .inl zv_homes)), (zr, .inr (2, [.ref azr_sign, .ref azr_token, .ref azr_in, .ref azr_own, .ref azr_since, .int zr_size])), (azr_sign, .inl (cI, 240, .inl zr_sign)), (azr_token, .inl (cI, 240, .inl zr_token)), (azr_in, .inl (cI, 240, .inl zr_in)), (azr_own, .inl (cI, 240, .inl zr_own)), (azr_since, .inl (cI, 240, .inl zr_since))] sz) := by
  refine Met.ofW (cc := cX4_gather) (maxL := 6) (ret := none) (by decide) rfl ?_
  intro p e s m args below meth c s₁ B hml hv
  obtain ⟨rfl, hsz, hP, hK, hN, hD0⟩ := hv
  have hx := B.exec
  have hb := B.bytes
  have hr := B.returns
  have hts := atoms_spec (ws := wsX4_gather) B.pre
  have hown : s.vm.findClass RX4 = some m.cls := findClass_of_methodNamed B.named
  have hlocks := B.notSynchronized
  subst hsz
  have hD := hD0.self (sz := s.heap.size)
  generalize hAe : va_A [(zv, .inr (4, [.ref azv_spots, .ref azv_homes, .int zv_size, .int zv_counts, .int zv_hides])), (azv_spots, .inl (cI, 240, .inl zv_spots)), (azv_homes, .inl (cI, 240, .inl zv_homes)), (zr, .inr (2, [.ref azr_sign, .ref azr_token, .ref azr_in, .ref azr_own, .ref azr_since, .int zr_size])), (azr_sign, .inl (cI, 240, .inl zr_sign)), (azr_token, .inl (cI, 240, .inl zr_token)), (azr_in, .inl (cI, 240, .inl zr_in)), (azr_own, .inl (cI, 240, .inl zr_own)), (azr_since, .inl (cI, 240, .inl zr_since))] s.heap.size = A at hD ⊢
  have hA : ∀ q : Nat, s.heap.size ≤ q → A q := fun q h => by rw [← hAe]; exact Or.inr h
  have hS : va_S A s.heap s.heap [] := va_S.rf
  have hP : va_P (dC, dI) vwCl [(zv, .inr (4, [.ref azv_spots, .ref azv_homes, .int zv_size, .int zv_counts, .int zv_hides])), (azv_spots, .inl (cI, 240, .inl zv_spots)), (azv_homes, .inl (cI, 240, .inl zv_homes)), (zr, .inr (2, [.ref azr_sign, .ref azr_token, .ref azr_in, .ref azr_own, .ref azr_since, .int zr_size])), (azr_sign, .inl (cI, 240, .inl zr_sign)), (azr_token, .inl (cI, 240, .inl zr_token)), (azr_in, .inl (cI, 240, .inl zr_in)), (azr_own, .inl (cI, 240, .inl zr_own)), (azr_since, .inl (cI, 240, .inl zr_since))] s.heap := hP
  have hl := lv_entry ([.ref zv, .ref zr, .int a_h, .int a_d]) (n := 6) (Nat.le_of_ble_eq_true rfl)
  rw [lg_entry_eq]
  generalize (lg_sl ([.ref zv, .ref zr, .int a_h, .int a_d]) ++ List.replicate (6 - (lg_sl ([.ref zv, .ref zr, .int a_h, .int a_d])).length) Slot.unset).toArray = ls at hl ⊢
  have hl : lv_has ls 6 [(0, .ref zv), (1, .ref zr), (2, .int a_h), (3, .int a_d)] := hl
  refine lv_iload_n hx hb dX4_gather_0 rfl (lv_at hl 3 rfl) ?_
  refine lv_bipush (v := (24 : Int32)) hx hb dX4_gather_1 (by decide) ?_
  refine lv_icmp_le (tgt := 7) hx hb dX4_gather_3 (by decide) (fun c_1 => ?_) (fun c_1 => ?_)
  · have tc_1 : a_d.toInt ≤ (24 : Int) := q_le c_1
    exact False.elim (by omega)
  · have tc_1 : (24 : Int) < a_d.toInt := q_nle c_1
    have hE : f_X4_gather_0 zv_spots zv_size a_d = (zv_spots, zv_size) := (by rw [f_X4_gather_0, if_neg c_1])
    exact W.vret hx hb hr (fun t ht hW => ⟨⟨(zv_spots, zv_size), rfl, by rw [hE], ⟨by rw [ht]; exact hP, hD⟩⟩, hS.F ht⟩) hS.2.2 dX4_gather_6
def f_X4_gather (zv_homes : Nat → Int32) (zv_counts : Int32) (zv_hides : Int32) (zr_token : Nat → Int32) (zr_in : Nat → Int32) (zr_size : Int32) : Nat → (Nat → Int32) → Int32 → Int32 → Int32 → (Nat → Int32) × Int32
  | 0, zv_spots, zv_size, _, _ => (zv_spots, zv_size)
  | q + 1, zv_spots, zv_size, a_h, a_d => f_X4_gather_s (fun s_ z_ h_ d_ => f_X4_gather zv_homes zv_counts zv_hides zr_token zr_in zr_size q s_ z_ h_ d_) zv_spots zv_homes zv_size zv_counts zv_hides zr_token zr_in zr_size a_h a_d
def f_X4_gatherT (zv_homes : Nat → Int32) (zv_counts : Int32) (zv_hides : Int32) (zr_token : Nat → Int32) (zr_in : Nat → Int32) (zr_size : Int32) (zv_spots : Nat → Int32) (zv_size a_h a_d : Int32) : (Nat → Int32) × Int32 := f_X4_gather zv_homes zv_counts zv_hides zr_token zr_in zr_size 26 zv_spots zv_size a_h a_d
set_option maxRecDepth 100000 in
theorem c_X4_gatherQ (l : Launch) (dC : Nat → ClassId) (dI : Nat → Nat → Nat) (cI cJ : ClassId) (zv azv_spots azv_homes zr azr_sign azr_token azr_in azr_own azr_since : Nat) (zv_homes : Nat → Int32) (zr_sign : Nat → Int32) (zr_token : Nat → Int32) (zr_in : Nat → Int32) (zr_own : Nat → Int32) (zr_since : Nat → Int32) (zv_counts : Int32) (zv_hides : Int32) (zr_size : Int32) : ∀ (q : Nat), ∀ (sz : Nat) (zv_spots : Nat → Int32) (zv_size a_h a_d : Int32), 24 - a_d.toInt < (q : Nat) → 0 ≤ a_d.toInt → Met l yX4_gather wsX4_gather ({ frames := q + 2, cells := 0, slots := 0, locals := 25 * q + 60 } : Room) (va_Pc [.ref zv, .ref zr, .int a_h, .int a_d] (PreW dC dI cI cJ sz [(zv, .inr (4, [.ref azv_spots, .ref azv_homes, .int zv_size, .int zv_counts, .int zv_hides])), (azv_spots, .inl (cI, 240, .inl zv_spots)), (azv_homes, .inl (cI, 240, .inl zv_homes)), (zr, .inr (2, [.ref azr_sign, .ref azr_token, .ref azr_in, .ref azr_own, .ref azr_since, .int zr_size])), (azr_sign, .inl (cI, 240, .inl zr_sign)), (azr_token, .inl (cI, 240, .inl zr_token)), (azr_in, .inl (cI, 240, .inl zr_in)), (azr_own, .inl (cI, 240, .inl zr_own)), (azr_since, .inl (cI, 240, .inl zr_since))])) (va_Qv (fun (u : (Nat → Int32) × Int32) => u = f_X4_gather zv_homes zv_counts zv_hides zr_token zr_in zr_size q zv_spots zv_size a_h a_d) (fun (u : (Nat → Int32) × Int32) t => PostW dC dI [(zv, .inr (4, [.ref azv_spots, .ref azv_homes, .int u.2, .int zv_counts, .int zv_hides])), (azv_spots, .inl (cI, 240, .inl u.1)), (azv_homes, .inl (cI, 240, .inl zv_homes)), (zr, .inr (2, [.ref azr_sign, .ref azr_token, .ref azr_in, .ref azr_own, .ref azr_since, .int zr_size])), (azr_sign, .inl (cI, 240, .inl zr_sign)), (azr_token, .inl (cI, 240, .inl zr_token)), (azr_in, .inl (cI, 240, .inl zr_in)), (azr_own, .inl (cI, 240, .inl zr_own)), (azr_since, .inl (cI, 240, .inl zr_since))] t (va_A [(zv, .inr (4, [.ref azv_spots, .ref azv_homes, .int zv_size, .int zv_counts, .int zv_hides])), (azv_spots, .inl (cI, 240, .inl zv_spots)), (azv_homes, .inl (cI, 240, .inl zv_homes)), (zr, .inr (2, [.ref azr_sign, .ref azr_token, .ref azr_in, .ref azr_own, .ref azr_since, .int zr_size])), (azr_sign, .inl (cI, 240, .inl zr_sign)), (azr_token, .inl (cI, 240, .inl zr_token)), (azr_in, .inl (cI, 240, .inl zr_in)), (azr_own, .inl (cI, 240, .inl zr_own)), (azr_since, .inl (cI, 240, .inl zr_since))] sz)) (va_A [(zv, .inr (4, [.ref azv_spots, .ref azv_homes, .int zv_size, .int zv_counts, .int zv_hides])), (azv_spots, .inl (cI, 240, .inl zv_spots)), (azv_homes, .inl (cI, 240, .inl zv_homes)), (zr, .inr (2, [.ref azr_sign, .ref azr_token, .ref azr_in, .ref azr_own, .ref azr_since, .int zr_size])), (azr_sign, .inl (cI, 240, .inl zr_sign)), (azr_token, .inl (cI, 240, .inl zr_token)), (azr_in, .inl (cI, 240, .inl zr_in)), (azr_own, .inl (cI, 240, .inl zr_own)), (azr_since, .inl (cI, 240, .inl zr_since))] sz)) 0 0 (va_A [(zv, .inr (4, [.ref azv_spots, .ref azv_homes, .int zv_size, .int zv_counts, .int zv_hides])), (azv_spots, .inl (cI, 240, .inl zv_spots)), (azv_homes, .inl (cI, 240, .inl zv_homes)), (zr, .inr (2, [.ref azr_sign, .ref azr_token, .ref azr_in, .ref azr_own, .ref azr_since, .int zr_size])), (azr_sign, .inl (cI, 240, .inl zr_sign)), (azr_token, .inl (cI, 240, .inl zr_token)), (azr_in, .inl (cI, 240, .inl zr_in)), (azr_own, .inl (cI, 240, .inl zr_own)), (azr_since, .inl (cI, 240, .inl zr_since))] sz) := by
  intro q
  induction q with
  | zero =>
    intro sz zv_spots zv_size a_h a_d hd hd0
    have c1 : ¬ a_d ≤ (24 : Int32) := fun z => by have z2 : a_d.toInt ≤ 24 := q_le z; omega
    have h0 := c_X4_gather_0 l dC dI cI cJ sz zv azv_spots azv_homes zr azr_sign azr_token azr_in azr_own azr_since zv_spots zv_homes zr_sign zr_token zr_in zr_own zr_since zv_size zv_counts zv_hides zr_size a_h a_d (by omega)
    rw [f_X4_gather_0, if_neg c1] at h0
    exact h0
  | succ q ih =>
    intro sz zv_spots zv_size a_h a_d hd hd0
    exact c_X4_gather_s q l dC dI cI cJ sz zv azv_spots azv_homes zr azr_sign azr_token azr_in azr_own azr_since zv_spots zv_homes zr_sign zr_token zr_in zr_own zr_since zv_size zv_counts zv_hides zr_size a_h a_d hd hd0 (fun s_ z_ h_ d_ => f_X4_gather zv_homes zv_counts zv_hides zr_token zr_in zr_size q s_ z_ h_ d_) ih
theorem c_X4_gatherT (l : Launch) (dC : Nat → ClassId) (dI : Nat → Nat → Nat) (cI cJ : ClassId) (sz : Nat) (zv azv_spots azv_homes zr azr_sign azr_token azr_in azr_own azr_since : Nat) (zv_spots zv_homes zr_sign zr_token zr_in zr_own zr_since : Nat → Int32) (zv_size zv_counts zv_hides zr_size : Int32) (a_h a_d : Int32) (hd0 : 0 ≤ a_d.toInt) : Met l yX4_gather wsX4_gather ({ frames := 26 + 2, cells := 0, slots := 0, locals := 25 * 26 + 60 } : Room) (va_Pc [.ref zv, .ref zr, .int a_h, .int a_d] (PreW dC dI cI cJ sz [(zv, .inr (4, [.ref azv_spots, .ref azv_homes, .int zv_size, .int zv_counts, .int zv_hides])), (azv_spots, .inl (cI, 240, .inl zv_spots)), (azv_homes, .inl (cI, 240, .inl zv_homes)), (zr, .inr (2, [.ref azr_sign, .ref azr_token, .ref azr_in, .ref azr_own, .ref azr_since, .int zr_size])), (azr_sign, .inl (cI, 240, .inl zr_sign)), (azr_token, .inl (cI, 240, .inl zr_token)), (azr_in, .inl (cI, 240, .inl zr_in)), (azr_own, .inl (cI, 240, .inl zr_own)), (azr_since, .inl (cI, 240, .inl zr_since))])) (va_Qv (fun (u : (Nat → Int32) × Int32) => u = f_X4_gatherT zv_homes zv_counts zv_hides zr_token zr_in zr_size zv_spots zv_size a_h a_d) (fun (u : (Nat → Int32) × Int32) t => PostW dC dI [(zv, .inr (4, [.ref azv_spots, .ref azv_homes, .int u.2, .int zv_counts, .int zv_hides])), (azv_spots, .inl (cI, 240, .inl u.1)), (azv_homes, .inl (cI, 240, .inl zv_homes)), (zr, .inr (2, [.ref azr_sign, .ref azr_token, .ref azr_in, .ref azr_own, .ref azr_since, .int zr_size])), (azr_sign, .inl (cI, 240, .inl zr_sign)), (azr_token, .inl (cI, 240, .inl zr_token)), (azr_in, .inl (cI, 240, .inl zr_in)), (azr_own, .inl (cI, 240, .inl zr_own)), (azr_since, .inl (cI, 240, .inl zr_since))] t (va_A [(zv, .inr (4, [.ref azv_spots, .ref azv_homes, .int zv_size, .int zv_counts, .int zv_hides])), (azv_spots, .inl (cI, 240, .inl zv_spots)), (azv_homes, .inl (cI, 240, .inl zv_homes)), (zr, .inr (2, [.ref azr_sign, .ref azr_token, .ref azr_in, .ref azr_own, .ref azr_since, .int zr_size])), (azr_sign, .inl (cI, 240, .inl zr_sign)), (azr_token, .inl (cI, 240, .inl zr_token)), (azr_in, .inl (cI, 240, .inl zr_in)), (azr_own, .inl (cI, 240, .inl zr_own)), (azr_since, .inl (cI, 240, .inl zr_since))] sz)) (va_A [(zv, .inr (4, [.ref azv_spots, .ref azv_homes, .int zv_size, .int zv_counts, .int zv_hides])), (azv_spots, .inl (cI, 240, .inl zv_spots)), (azv_homes, .inl (cI, 240, .inl zv_homes)), (zr, .inr (2, [.ref azr_sign, .ref azr_token, .ref azr_in, .ref azr_own, .ref azr_since, .int zr_size])), (azr_sign, .inl (cI, 240, .inl zr_sign)), (azr_token, .inl (cI, 240, .inl zr_token)), (azr_in, .inl (cI, 240, .inl zr_in)), (azr_own, .inl (cI, 240, .inl zr_own)), (azr_since, .inl (cI, 240, .inl zr_since))] sz)) 0 0 (va_A [(zv, .inr (4, [.ref azv_spots, .ref azv_homes, .int zv_size, .int zv_counts, .int zv_hides])), (azv_spots, .inl (cI, 240, .inl zv_spots)), (azv_homes, .inl (cI, 240, .inl zv_homes)), (zr, .inr (2, [.ref azr_sign, .ref azr_token, .ref azr_in, .ref azr_own, .ref azr_since, .int zr_size])), (azr_sign, .inl (cI, 240, .inl zr_sign)), (azr_token, .inl (cI, 240, .inl zr_token)), (azr_in, .inl (cI, 240, .inl zr_in)), (azr_own, .inl (cI, 240, .inl zr_own)), (azr_since, .inl (cI, 240, .inl zr_since))] sz) :=
  c_X4_gatherQ l dC dI cI cJ zv azv_spots azv_homes zr azr_sign azr_token azr_in azr_own azr_since zv_homes zr_sign zr_token zr_in zr_own zr_since zv_counts zv_hides zr_size 26 sz zv_spots zv_size a_h a_d (by omega) hd0
theorem dX4_gatherAll_0 : decode cX4_gatherAll 0 = .ok (.aload_n 0, 1) := by decide +kernel
theorem dX4_gatherAll_1 : decode cX4_gatherAll 1 = .ok (.iload_n 2, 1) := by decide +kernel
theorem dX4_gatherAll_2 : decode cX4_gatherAll 2 = .ok (.putfield 18, 3) := by decide +kernel
theorem in_X4_gatherAll_X4 : ∀ w ∈ wsX40, w ∈ wsX4_gatherAll := by decide +kernel
theorem m_X4_gatherAll_1 : (.fieldLink RX4 18 "RedlineDesk$View" "counts" "I" : Cond) ∈ wsX4_gatherAll := List.mem_of_getElem? (i := 1) (by decide +kernel)
theorem dX4_gatherAll_5 : decode cX4_gatherAll 5 = .ok (.aload_n 0, 1) := by decide +kernel
theorem dX4_gatherAll_6 : decode cX4_gatherAll 6 = .ok (.iload 4, 2) := by decide +kernel
theorem dX4_gatherAll_8 : decode cX4_gatherAll 8 = .ok (.putfield 22, 3) := by decide +kernel
theorem m_X4_gatherAll_2 : (.fieldLink RX4 22 "RedlineDesk$View" "hides" "I" : Cond) ∈ wsX4_gatherAll := List.mem_of_getElem? (i := 2) (by decide +kernel)
theorem dX4_gatherAll_11 : decode cX4_gatherAll 11 = .ok (.aload_n 0, 1) := by decide +kernel
theorem dX4_gatherAll_12 : decode cX4_gatherAll 12 = .ok (.iconst 0, 1) := by decide +kernel
theorem dX4_gatherAll_13 : decode cX4_gatherAll 13 = .ok (.putfield 25, 3) := by decide +kernel
theorem m_X4_gatherAll_3 : (.fieldLink RX4 25 "RedlineDesk$View" "size" "I" : Cond) ∈ wsX4_gatherAll := List.mem_of_getElem? (i := 3) (by decide +kernel)
theorem dX4_gatherAll_16 : decode cX4_gatherAll 16 = .ok (.iconst 0, 1) := by decide +kernel
theorem dX4_gatherAll_17 : decode cX4_gatherAll 17 = .ok (.istore 5, 2) := by decide +kernel
theorem dX4_gatherAll_19 : decode cX4_gatherAll 19 = .ok (.iload 5, 2) := by decide +kernel
theorem dX4_gatherAll_21 : decode cX4_gatherAll 21 = .ok (.sipush 240, 3) := by decide +kernel
theorem dX4_gatherAll_24 : decode cX4_gatherAll 24 = .ok (.if_icmp .ge 37, 3) := by decide +kernel
theorem dX4_gatherAll_61 : decode cX4_gatherAll 61 = .ok (.aload_n 0, 1) := by decide +kernel
theorem dX4_gatherAll_62 : decode cX4_gatherAll 62 = .ok (.aload_n 1, 1) := by decide +kernel
theorem dX4_gatherAll_63 : decode cX4_gatherAll 63 = .ok (.iconst 0, 1) := by decide +kernel
theorem dX4_gatherAll_64 : decode cX4_gatherAll 64 = .ok (.iconst 0, 1) := by decide +kernel
theorem dX4_gatherAll_65 : decode cX4_gatherAll 65 = .ok (.invokestatic 41, 3) := by decide +kernel
set_option maxRecDepth 20000 in
theorem ggX4_gatherAll_X4_gather : GoodIn wsX4_gatherAll wsX4_gather := goodIn_r _ [21, 4, 22, 1, 6, 7, 8, 9, 10, 11, 23, 24, 25, 20, 26, 5, 2, 3, 27, 16, 13, 17, 18, 19, 28, 29, 30, 31, 32, 33, 34, 35, 36, 37, 38] (by decide +kernel) (by decide +kernel)
set_option maxRecDepth 20000 in
theorem gX4_gatherAll_X4_gather : GoodIn wsX4_gatherAll (va_wsS RX4 41 yX4_gather wsX4_gather) := goodIn_app (goodIn_of _ (by decide +kernel)) ggX4_gatherAll_X4_gather
theorem dX4_gatherAll_68 : decode cX4_gatherAll 68 = .ok (.return_, 1) := by decide +kernel
theorem dX4_gatherAll_27 : decode cX4_gatherAll 27 = .ok (.aload_n 1, 1) := by decide +kernel
theorem dX4_gatherAll_28 : decode cX4_gatherAll 28 = .ok (.iload 5, 2) := by decide +kernel
theorem dX4_gatherAll_30 : decode cX4_gatherAll 30 = .ok (.invokevirtual 28, 3) := by decide +kernel
set_option maxRecDepth 20000 in
theorem ggX4_gatherAll_X2_has : GoodIn wsX4_gatherAll wsX2_has := goodIn_r _ [10, 11, 33, 34, 35, 36, 37, 38] (by decide +kernel) (by decide +kernel)
set_option maxRecDepth 20000 in
theorem gX4_gatherAll_X2_has : GoodIn wsX4_gatherAll (wsV RX4 28 RX2 yX2_has wsX2_has) := goodIn_app (goodIn_of _ (by decide +kernel)) ggX4_gatherAll_X2_has
theorem dX4_gatherAll_33 : decode cX4_gatherAll 33 = .ok (.ifCond .eq 28, 3) := by decide +kernel
theorem dX4_gatherAll_36 : decode cX4_gatherAll 36 = .ok (.aload_n 0, 1) := by decide +kernel
theorem dX4_gatherAll_37 : decode cX4_gatherAll 37 = .ok (.getfield 15, 3) := by decide +kernel
theorem m_X4_gatherAll_4 : (.fieldLink RX4 15 "RedlineDesk$View" "homes" "[I" : Cond) ∈ wsX4_gatherAll := List.mem_of_getElem? (i := 4) (by decide +kernel)
theorem dX4_gatherAll_40 : decode cX4_gatherAll 40 = .ok (.iload 5, 2) := by decide +kernel
theorem dX4_gatherAll_42 : decode cX4_gatherAll 42 = .ok (.aload_n 1, 1) := by decide +kernel
theorem dX4_gatherAll_43 : decode cX4_gatherAll 43 = .ok (.getfield 34, 3) := by decide +kernel
theorem in_X4_gatherAll_X2 : ∀ w ∈ wsX20, w ∈ wsX4_gatherAll := by decide +kernel
theorem m_X4_gatherAll_5 : (.fieldLink RX4 34 "RedlineDesk$Row" "in" "[I" : Cond) ∈ wsX4_gatherAll := List.mem_of_getElem? (i := 5) (by decide +kernel)
theorem dX4_gatherAll_46 : decode cX4_gatherAll 46 = .ok (.iload 5, 2) := by decide +kernel
theorem dX4_gatherAll_48 : decode cX4_gatherAll 48 = .ok (.iaload, 1) := by decide +kernel
theorem dX4_gatherAll_49 : decode cX4_gatherAll 49 = .ok (.iload_n 3, 1) := by decide +kernel
theorem dX4_gatherAll_50 : decode cX4_gatherAll 50 = .ok (.iand, 1) := by decide +kernel
theorem dX4_gatherAll_51 : decode cX4_gatherAll 51 = .ok (.invokestatic 37, 3) := by decide +kernel
set_option maxRecDepth 20000 in
theorem ggX4_gatherAll_X5_latest : GoodIn wsX4_gatherAll wsX5_latest := goodIn_r _ [14, 15, 16, 13, 17] (by decide +kernel) (by decide +kernel)
set_option maxRecDepth 20000 in
theorem gX4_gatherAll_X5_latest_n37 : GoodIn wsX4_gatherAll (wsX5_latest) := ggX4_gatherAll_X5_latest
theorem m_X4_gatherAll_13 : (.initialized RX5 : Cond) ∈ wsX4_gatherAll := List.mem_of_getElem? (i := 13) (by decide +kernel)
theorem m_X4_gatherAll_12 : (.static yX5_latest : Cond) ∈ wsX4_gatherAll := List.mem_of_getElem? (i := 12) (by decide +kernel)
theorem dX4_gatherAll_54 : decode cX4_gatherAll 54 = .ok (.iastore, 1) := by decide +kernel
theorem dX4_gatherAll_55 : decode cX4_gatherAll 55 = .ok (.iinc 5 1, 3) := by decide +kernel
theorem dX4_gatherAll_58 : decode cX4_gatherAll 58 = .ok (.goto (-39), 3) := by decide +kernel
def f_X4_gatherAll_k68_u_3 (a_c : Int32) (a_h : Int32) (zv_homes_1 : Nat → Int32) (u_3 : (Nat → Int32) × Int32) : (Nat → Int32) × (Nat → Int32) × Int32 × Int32 × Int32 := (u_3.1, zv_homes_1, u_3.2, a_c, a_h)
def f_X4_gatherAll_k68_u_8 (a_c : Int32) (a_h : Int32) (zv_homes_1 : Nat → Int32) (u_8 : (Nat → Int32) × Int32) : (Nat → Int32) × (Nat → Int32) × Int32 × Int32 × Int32 := (u_8.1, zv_homes_1, u_8.2, a_c, a_h)
def f_X4_gatherAll_L19 (zv_spots : Nat → Int32) (zr_token : Nat → Int32) (zr_in : Nat → Int32) (zr_size : Int32) (a_c : Int32) (a_m : Int32) (a_h : Int32) : Nat → Int32 → (Nat → Int32) → (Nat → Int32) × (Nat → Int32) × Int32 × Int32 × Int32
  | 0, _, _ => ((fun _ => 0), (fun _ => 0), 0, 0, 0)
  | n_1 + 1, v5_1, zv_homes_1 => if (240 : Int32) ≤ v5_1 then f_X4_gatherAll_k68_u_3 a_c a_h zv_homes_1 (f_X4_gatherT zv_homes_1 a_c a_h zr_token zr_in zr_size zv_spots (0 : Int32) (0 : Int32) (0 : Int32)) else if (f_X2_has zr_size v5_1) = (0 : Int32) then f_X4_gatherAll_k68_u_8 a_c a_h zv_homes_1 (f_X4_gatherT zv_homes_1 a_c a_h zr_token zr_in zr_size zv_spots (0 : Int32) (0 : Int32) (0 : Int32)) else (f_X4_gatherAll_L19 zv_spots zr_token zr_in zr_size a_c a_m a_h n_1) (v5_1 + (1 : Int32)) (upd zv_homes_1 (v5_1).toNatClampNeg (f_X5_latest ((zr_in (v5_1).toNatClampNeg) &&& a_m)))
def f_X4_gatherAll (zv_spots : Nat → Int32) (zv_homes : Nat → Int32) (zr_token : Nat → Int32) (zr_in : Nat → Int32) (zr_size : Int32) (a_c : Int32) (a_m : Int32) (a_h : Int32) : (Nat → Int32) × (Nat → Int32) × Int32 × Int32 × Int32 := f_X4_gatherAll_L19 zv_spots zr_token zr_in zr_size a_c a_m a_h 241 (0 : Int32) zv_homes
set_option maxHeartbeats 4000000 in
set_option maxRecDepth 100000 in
theorem c_X4_gatherAll (l : Launch) (dC : Nat → ClassId) (dI : Nat → Nat → Nat) (cI cJ : ClassId) (sz : Nat) (zv azv_spots azv_homes zr azr_sign azr_token azr_in azr_own azr_since : Nat) (zv_spots zv_homes zr_sign zr_token zr_in zr_own zr_since : Nat → Int32) (zv_size zv_counts zv_hides zr_size : Int32) (a_c : Int32) (a_m : Int32) (a_h : Int32) : Met l yX4_gatherAll wsX4_gatherAll ({ frames := 29, cells := 0, slots := 0, locals := 735 } : Room) (va_Pc [.ref zv, .ref zr, .int a_c, .int a_m, .int a_h] (PreW dC dI cI cJ sz [(zv, .inr (4, [.ref azv_spots, .ref azv_homes, .int zv_size, .int zv_counts, .int zv_hides])), (azv_spots, .inl (cI, 240, .inl zv_spots)), (azv_homes, .inl (cI, 240, .inl zv_homes)), (zr, .inr (2, [.ref azr_sign, .ref azr_token, .ref azr_in, .ref azr_own, .ref azr_since, .int zr_size])), (azr_sign, .inl (cI, 240, .inl zr_sign)), (azr_token, .inl (cI, 240, .inl zr_token)), (azr_in, .inl (cI, 240, .inl zr_in)), (azr_own, .inl (cI, 240, .inl zr_own)), (azr_since, .inl (cI, 240, .inl zr_since))])) (va_Qv (fun (u : (Nat → Int32) × (Nat → Int32) × Int32 × Int32 × Int32) => u = f_X4_gatherAll zv_spots zv_homes zr_token zr_in zr_size a_c a_m a_h) (fun (u : (Nat → Int32) × (Nat → Int32) × Int32 × Int32 × Int32) t => PostW dC dI [(zv, .inr (4, [.ref azv_spots, .ref azv_homes, .int u.2.2.1, .int u.2.2.2.1, .int u.2.2.2.2])), (azv_spots, .inl (cI, 240, .inl u.1)), (azv_homes, .inl (cI, 240, .inl u.2.1)), (zr, .inr (2, [.ref azr_sign, .ref azr_token, .ref azr_in, .ref azr_own, .ref azr_since, .int zr_size])), (azr_sign, .inl (cI, 240, .inl zr_sign)), (azr_token, .inl (cI, 240, .inl zr_token)), (azr_in, .inl (cI, 240, .inl zr_in)), (azr_own, .inl (cI, 240, .inl zr_own)), (azr_since, .inl (cI, 240, .inl zr_since))] t (va_A [(zv, .inr (4, [.ref azv_spots, .ref azv_homes, .int zv_size, .int zv_counts, .int zv_hides])), (azv_spots, .inl (cI, 240, .inl zv_spots)), (azv_homes, .inl (cI, 240, .inl zv_homes)), (zr, .inr (2, [.ref azr_sign, .ref azr_token, .ref azr_in, .ref azr_own, .ref azr_since, .int zr_size])), (azr_sign, .inl (cI, 240, .inl zr_sign)), (azr_token, .inl (cI, 240, .inl zr_token)), (azr_in, .inl (cI, 240, .inl zr_in)), (azr_own, .inl (cI, 240, .inl zr_own)), (azr_since, .inl (cI, 240, .inl zr_since))] sz)) (va_A [(zv, .inr (4, [.ref azv_spots, .ref azv_homes, .int zv_size, .int zv_counts, .int zv_hides])), (azv_spots, .inl (cI, 240, .inl zv_spots)), (azv_homes, .inl (cI, 240, .inl zv_homes)), (zr, .inr (2, [.ref azr_sign, .ref azr_token, .ref azr_in, .ref azr_own, .ref azr_since, .int zr_size])), (azr_sign, .inl (cI, 240, .inl zr_sign)), (azr_token, .inl (cI, 240, .inl zr_token)), (azr_in, .inl (cI, 240, .inl zr_in)), (azr_own, .inl (cI, 240, .inl zr_own)), (azr_since, .inl (cI, 240, .inl zr_since))] sz)) 0 0 (va_A [(zv, .inr (4, [.ref azv_spots, .ref azv_homes, .int zv_size, .int zv_counts, .int zv_hides])), (azv_spots, .inl (cI, 240, .inl zv_spots)), (azv_homes, .inl (cI, 240, .inl zv_homes)), (zr, .inr (2, [.ref azr_sign, .ref azr_token, .ref azr_in, .ref azr_own, .ref azr_since, .int zr_size])), (azr_sign, .inl (cI, 240, .inl zr_sign)), (azr_token, .inl (cI, 240, .inl zr_token)), (azr_in, .inl (cI, 240, .inl zr_in)), (azr_own, .inl (cI, 240, .inl zr_own)), (azr_since, .inl (cI, 240, .inl zr_since))] sz) := by
  refine Met.ofW (cc := cX4_gatherAll) (maxL := 6) (ret := none) (by decide) rfl ?_
  intro p e s m args below meth c s₁ B hml hv
  obtain ⟨rfl, hsz, hP, hK, hN, hD0⟩ := hv
  have hx := B.exec
  have hb := B.bytes
  have hr := B.returns
  have hts := atoms_spec (ws := wsX4_gatherAll) B.pre
  have hown : s.vm.findClass RX4 = some m.cls := findClass_of_methodNamed B.named
  have hlocks := B.notSynchronized
  subst hsz
  have hD := hD0.self (sz := s.heap.size)
  generalize hAe : va_A [(zv, .inr (4, [.ref azv_spots, .ref azv_homes, .int zv_size, .int zv_counts, .int zv_hides])), (azv_spots, .inl (cI, 240, .inl zv_spots)), (azv_homes, .inl (cI, 240, .inl zv_homes)), (zr, .inr (2, [.ref azr_sign, .ref azr_token, .ref azr_in, .ref azr_own, .ref azr_since, .int zr_size])), (azr_sign, .inl (cI, 240, .inl zr_sign)), (azr_token, .inl (cI, 240, .inl zr_token)), (azr_in, .inl (cI, 240, .inl zr_in)), (azr_own, .inl (cI, 240, .inl zr_own)), (azr_since, .inl (cI, 240, .inl zr_since))] s.heap.size = A at hD ⊢
  have hA : ∀ q : Nat, s.heap.size ≤ q → A q := fun q h => by rw [← hAe]; exact Or.inr h
  have hS : va_S A s.heap s.heap [] := va_S.rf
  have hP : va_P (dC, dI) vwCl [(zv, .inr (4, [.ref azv_spots, .ref azv_homes, .int zv_size, .int zv_counts, .int zv_hides])), (azv_spots, .inl (cI, 240, .inl zv_spots)), (azv_homes, .inl (cI, 240, .inl zv_homes)), (zr, .inr (2, [.ref azr_sign, .ref azr_token, .ref azr_in, .ref azr_own, .ref azr_since, .int zr_size])), (azr_sign, .inl (cI, 240, .inl zr_sign)), (azr_token, .inl (cI, 240, .inl zr_token)), (azr_in, .inl (cI, 240, .inl zr_in)), (azr_own, .inl (cI, 240, .inl zr_own)), (azr_since, .inl (cI, 240, .inl zr_since))] s.heap := hP
  have hl := lv_entry ([.ref zv, .ref zr, .int a_c, .int a_m, .int a_h]) (n := 6) (Nat.le_of_ble_eq_true rfl)
  rw [lg_entry_eq]
  generalize (lg_sl ([.ref zv, .ref zr, .int a_c, .int a_m, .int a_h]) ++ List.replicate (6 - (lg_sl ([.ref zv, .ref zr, .int a_c, .int a_m, .int a_h])).length) Slot.unset).toArray = ls at hl ⊢
  have hl : lv_has ls 6 [(0, .ref zv), (1, .ref zr), (2, .int a_c), (3, .int a_m), (4, .int a_h)] := hl
  refine W_nm (fun QQ hQQ => ?_)
  refine lv_aload_n hx hb dX4_gatherAll_0 rfl (lv_at hl 0 rfl) ?_
  refine lv_iload_n hx hb dX4_gatherAll_1 rfl (lv_at hl 2 rfl) ?_
  refine va_put (D := (dC, dI)) (ci := 4) (v := .int a_c) (ty := .int) (C := RX4) (T := TX4) (N := 5) hx hb hts in_X4_gatherAll_X4 tyX4 tyX4_ok nmX4 hown hK hP hD hS 0 rfl rfl 3 (by decide) (hts _ m_X4_gatherAll_1) (fun _ h9 => h9) rfl (by decide +kernel) rfl rfl (Nat.le_of_ble_eq_true rfl) dX4_gatherAll_2 (fun H locs hP hD hS => ?_)
  have hP : va_P (dC, dI) vwCl [(zv, .inr (4, [.ref azv_spots, .ref azv_homes, .int zv_size, .int a_c, .int zv_hides])), (azv_spots, .inl (cI, 240, .inl zv_spots)), (azv_homes, .inl (cI, 240, .inl zv_homes)), (zr, .inr (2, [.ref azr_sign, .ref azr_token, .ref azr_in, .ref azr_own, .ref azr_since, .int zr_size])), (azr_sign, .inl (cI, 240, .inl zr_sign)), (azr_token, .inl (cI, 240, .inl zr_token)), (azr_in, .inl (cI, 240, .inl zr_in)), (azr_own, .inl (cI, 240, .inl zr_own)), (azr_since, .inl (cI, 240, .inl zr_since))] H := hP
  have hD : va_D A [(zv, .inr (4, [.ref azv_spots, .ref azv_homes, .int zv_size, .int a_c, .int zv_hides])), (azv_spots, .inl (cI, 240, .inl zv_spots)), (azv_homes, .inl (cI, 240, .inl zv_homes)), (zr, .inr (2, [.ref azr_sign, .ref azr_token, .ref azr_in, .ref azr_own, .ref azr_since, .int zr_size])), (azr_sign, .inl (cI, 240, .inl zr_sign)), (azr_token, .inl (cI, 240, .inl zr_token)), (azr_in, .inl (cI, 240, .inl zr_in)), (azr_own, .inl (cI, 240, .inl zr_own)), (azr_since, .inl (cI, 240, .inl zr_since))] := hD
  refine lv_aload_n hx hb dX4_gatherAll_5 rfl (lv_at hl 0 rfl) ?_
  refine lv_iload hx hb dX4_gatherAll_6 (lv_at hl 4 rfl) ?_
  refine va_put (D := (dC, dI)) (ci := 4) (v := .int a_h) (ty := .int) (C := RX4) (T := TX4) (N := 5) hx hb hts in_X4_gatherAll_X4 tyX4 tyX4_ok nmX4 hown hK hP hD hS 0 rfl rfl 4 (by decide) (hts _ m_X4_gatherAll_2) (fun _ h9 => h9) rfl (by decide +kernel) rfl rfl (Nat.le_of_ble_eq_true rfl) dX4_gatherAll_8 (fun H locs hP hD hS => ?_)
  have hP : va_P (dC, dI) vwCl [(zv, .inr (4, [.ref azv_spots, .ref azv_homes, .int zv_size, .int a_c, .int a_h])), (azv_spots, .inl (cI, 240, .inl zv_spots)), (azv_homes, .inl (cI, 240, .inl zv_homes)), (zr, .inr (2, [.ref azr_sign, .ref azr_token, .ref azr_in, .ref azr_own, .ref azr_since, .int zr_size])), (azr_sign, .inl (cI, 240, .inl zr_sign)), (azr_token, .inl (cI, 240, .inl zr_token)), (azr_in, .inl (cI, 240, .inl zr_in)), (azr_own, .inl (cI, 240, .inl zr_own)), (azr_since, .inl (cI, 240, .inl zr_since))] H := hP
  have hD : va_D A [(zv, .inr (4, [.ref azv_spots, .ref azv_homes, .int zv_size, .int a_c, .int a_h])), (azv_spots, .inl (cI, 240, .inl zv_spots)), (azv_homes, .inl (cI, 240, .inl zv_homes)), (zr, .inr (2, [.ref azr_sign, .ref azr_token, .ref azr_in, .ref azr_own, .ref azr_since, .int zr_size])), (azr_sign, .inl (cI, 240, .inl zr_sign)), (azr_token, .inl (cI, 240, .inl zr_token)), (azr_in, .inl (cI, 240, .inl zr_in)), (azr_own, .inl (cI, 240, .inl zr_own)), (azr_since, .inl (cI, 240, .inl zr_since))] := hD
  refine lv_aload_n hx hb dX4_gatherAll_11 rfl (lv_at hl 0 rfl) ?_
  refine lv_iconst (v := (0 : Int32)) hx hb dX4_gatherAll_12 (by decide) ?_
  refine va_put (D := (dC, dI)) (ci := 4) (v := .int (0 : Int32)) (ty := .int) (C := RX4) (T := TX4) (N := 5) hx hb hts in_X4_gatherAll_X4 tyX4 tyX4_ok nmX4 hown hK hP hD hS 0 rfl rfl 2 (by decide) (hts _ m_X4_gatherAll_3) (fun _ h9 => h9) rfl (by decide +kernel) rfl rfl (Nat.le_of_ble_eq_true rfl) dX4_gatherAll_13 (fun H locs hP hD hS => ?_)
  have hP : va_P (dC, dI) vwCl [(zv, .inr (4, [.ref azv_spots, .ref azv_homes, .int (0 : Int32), .int a_c, .int a_h])), (azv_spots, .inl (cI, 240, .inl zv_spots)), (azv_homes, .inl (cI, 240, .inl zv_homes)), (zr, .inr (2, [.ref azr_sign, .ref azr_token, .ref azr_in, .ref azr_own, .ref azr_since, .int zr_size])), (azr_sign, .inl (cI, 240, .inl zr_sign)), (azr_token, .inl (cI, 240, .inl zr_token)), (azr_in, .inl (cI, 240, .inl zr_in)), (azr_own, .inl (cI, 240, .inl zr_own)), (azr_since, .inl (cI, 240, .inl zr_since))] H := hP
  have hD : va_D A [(zv, .inr (4, [.ref azv_spots, .ref azv_homes, .int (0 : Int32), .int a_c, .int a_h])), (azv_spots, .inl (cI, 240, .inl zv_spots)), (azv_homes, .inl (cI, 240, .inl zv_homes)), (zr, .inr (2, [.ref azr_sign, .ref azr_token, .ref azr_in, .ref azr_own, .ref azr_since, .int zr_size])), (azr_sign, .inl (cI, 240, .inl zr_sign)), (azr_token, .inl (cI, 240, .inl zr_token)), (azr_in, .inl (cI, 240, .inl zr_in)), (azr_own, .inl (cI, 240, .inl zr_own)), (azr_since, .inl (cI, 240, .inl zr_since))] := hD
  refine lv_iconst (v := (0 : Int32)) hx hb dX4_gatherAll_16 (by decide) ?_
  refine lv_istore (lv' := [(5, .int (0 : Int32)), (0, .ref zv), (1, .ref zr), (2, .int a_c), (3, .int a_m), (4, .int a_h)]) hx hb dX4_gatherAll_17 hl (by decide) rfl (fun ls hl => ?_)
  have hloop_1 : ∀ (n_1 : Nat) (v5_1 : Int32) (zv_homes_1 : Nat → Int32) , (0 ≤ v5_1.toInt) → (v5_1.toInt ≤ 240) → (240 - v5_1.toInt).toNat < n_1 → f_X4_gatherAll zv_spots zv_homes zr_token zr_in zr_size a_c a_m a_h = f_X4_gatherAll_L19 zv_spots zr_token zr_in zr_size a_c a_m a_h n_1 v5_1 zv_homes_1 → ∀ (H : Heap) (locs : List Loc), va_P (dC, dI) vwCl [(zv, .inr (4, [.ref azv_spots, .ref azv_homes, .int (0 : Int32), .int a_c, .int a_h])), (azv_spots, .inl (cI, 240, .inl zv_spots)), (azv_homes, .inl (cI, 240, .inl zv_homes_1)), (zr, .inr (2, [.ref azr_sign, .ref azr_token, .ref azr_in, .ref azr_own, .ref azr_since, .int zr_size])), (azr_sign, .inl (cI, 240, .inl zr_sign)), (azr_token, .inl (cI, 240, .inl zr_token)), (azr_in, .inl (cI, 240, .inl zr_in)), (azr_own, .inl (cI, 240, .inl zr_own)), (azr_since, .inl (cI, 240, .inl zr_since))] H → va_D A [(zv, .inr (4, [.ref azv_spots, .ref azv_homes, .int (0 : Int32), .int a_c, .int a_h])), (azv_spots, .inl (cI, 240, .inl zv_spots)), (azv_homes, .inl (cI, 240, .inl zv_homes_1)), (zr, .inr (2, [.ref azr_sign, .ref azr_token, .ref azr_in, .ref azr_own, .ref azr_since, .int zr_size])), (azr_sign, .inl (cI, 240, .inl zr_sign)), (azr_token, .inl (cI, 240, .inl zr_token)), (azr_in, .inl (cI, 240, .inl zr_in)), (azr_own, .inl (cI, 240, .inl zr_own)), (azr_since, .inl (cI, 240, .inl zr_since))] → va_S A s.heap H locs → ∀ ls : Array Slot, lv_has ls 6 [(0, .ref zv), (1, .ref zr), (2, .int a_c), (3, .int a_m), (4, .int a_h), (5, .int v5_1)] → W p l e (headSpec wsX4_gatherAll ({ frames := 29, cells := 0, slots := 0, locals := 735 } : Room)).room s m ([.ref zv, .ref zr, .int a_c, .int a_m, .int a_h] : List Value).toArray below meth c H locs 0 0 QQ (F0 m 19 ls []) := by
    intro n_1
    induction n_1 with
    | zero => intro v5_1 zv_homes_1 hi0_1 hi1_1 hmu; exact absurd hmu (Nat.not_lt_zero _)
    | succ n_1 ih_1 =>
      intro v5_1 zv_homes_1 hi0_1 hi1_1 hmu_1 hI_1 H locs hP hD hS ls hl
      refine lv_iload hx hb dX4_gatherAll_19 (lv_at hl 5 rfl) ?_
      refine lv_sipush (v := (240 : Int32)) hx hb dX4_gatherAll_21 (by decide) ?_
      refine lv_icmp_ge (tgt := 61) hx hb dX4_gatherAll_24 (by decide) (fun c_2 => ?_) (fun c_2 => ?_)
      · have tc_2 : (240 : Int) ≤ v5_1.toInt := q_le c_2
        refine lv_aload_n hx hb dX4_gatherAll_61 rfl (lv_at hl 0 rfl) ?_
        refine lv_aload_n hx hb dX4_gatherAll_62 rfl (lv_at hl 1 rfl) ?_
        refine lv_iconst (v := (0 : Int32)) hx hb dX4_gatherAll_63 (by decide) ?_
        refine lv_iconst (v := (0 : Int32)) hx hb dX4_gatherAll_64 (by decide) ?_
        have hPc := hP.sub (ws' := [(zv, .inr (4, [.ref azv_spots, .ref azv_homes, .int (0 : Int32), .int a_c, .int a_h])), (azv_spots, .inl (cI, 240, .inl zv_spots)), (azv_homes, .inl (cI, 240, .inl zv_homes_1)), (zr, .inr (2, [.ref azr_sign, .ref azr_token, .ref azr_in, .ref azr_own, .ref azr_since, .int zr_size])), (azr_sign, .inl (cI, 240, .inl zr_sign)), (azr_token, .inl (cI, 240, .inl zr_token)), (azr_in, .inl (cI, 240, .inl zr_in)), (azr_own, .inl (cI, 240, .inl zr_own)), (azr_since, .inl (cI, 240, .inl zr_since))]) [0, 1, 2, 3, 4, 5, 6, 7, 8] rfl
        have hDc := hD.sub (ws' := [(zv, .inr (4, [.ref azv_spots, .ref azv_homes, .int (0 : Int32), .int a_c, .int a_h])), (azv_spots, .inl (cI, 240, .inl zv_spots)), (azv_homes, .inl (cI, 240, .inl zv_homes_1)), (zr, .inr (2, [.ref azr_sign, .ref azr_token, .ref azr_in, .ref azr_own, .ref azr_since, .int zr_size])), (azr_sign, .inl (cI, 240, .inl zr_sign)), (azr_token, .inl (cI, 240, .inl zr_token)), (azr_in, .inl (cI, 240, .inl zr_in)), (azr_own, .inl (cI, 240, .inl zr_own)), (azr_since, .inl (cI, 240, .inl zr_since))]) [0, 1, 2, 3, 4, 5, 6, 7, 8] (by decide) rfl
        have hFc := va_free (wc := [(zv, .inr (4, [.ref azv_spots, .ref azv_homes, .int (0 : Int32), .int a_c, .int a_h])), (azv_spots, .inl (cI, 240, .inl zv_spots)), (azv_homes, .inl (cI, 240, .inl zv_homes_1)), (zr, .inr (2, [.ref azr_sign, .ref azr_token, .ref azr_in, .ref azr_own, .ref azr_since, .int zr_size])), (azr_sign, .inl (cI, 240, .inl zr_sign)), (azr_token, .inl (cI, 240, .inl zr_token)), (azr_in, .inl (cI, 240, .inl zr_in)), (azr_own, .inl (cI, 240, .inl zr_own)), (azr_since, .inl (cI, 240, .inl zr_since))]) hD hS hA [0, 1, 2, 3, 4, 5, 6, 7, 8] rfl
        refine va_callv (va_runS (As := [.ref zv, .ref zr, .int (0 : Int32), .int (0 : Int32)]) (rest := []) ⟨hx, hb, hml, hown, hts⟩ (c_X4_gatherT l dC dI cI cJ H.size zv azv_spots azv_homes zr azr_sign azr_token azr_in azr_own azr_since zv_spots zv_homes_1 zr_sign zr_token zr_in zr_own zr_since (0 : Int32) a_c a_h zr_size (0 : Int32) (0 : Int32) (by first | omega | decide | assumption)) (va_cwS 4 hts gX4_gatherAll_X4_gather rfl rfl rfl (by decide +kernel) ⟨Nat.le_of_ble_eq_true rfl, Nat.le_of_ble_eq_true rfl⟩) ⟨fun a U g mk q => ⟨q.1, PreW.call g mk a q.2⟩, fun U hU hW => ⟨rfl, PreW.mk2 hU hW hPc hK hN (hDc.weaken (fun _ _ _ _ => trivial))⟩⟩ rfl rfl hl.1 rfl (lv_room (Nat.le_of_ble_eq_true rfl)) dX4_gatherAll_65 ⟨Nat.le_of_ble_eq_true rfl, Nat.le_of_ble_eq_true rfl⟩) hS (fun q _ h => hFc q h) hFc (fun u_3 t H1 locs ht hvm hw hB hz1 hk1 hS => ?_)
        obtain ⟨hB1, hB2⟩ : PostW dC dI [(zv, .inr (4, [.ref azv_spots, .ref azv_homes, .int u_3.2, .int a_c, .int a_h])), (azv_spots, .inl (cI, 240, .inl u_3.1)), (azv_homes, .inl (cI, 240, .inl zv_homes_1)), (zr, .inr (2, [.ref azr_sign, .ref azr_token, .ref azr_in, .ref azr_own, .ref azr_since, .int zr_size])), (azr_sign, .inl (cI, 240, .inl zr_sign)), (azr_token, .inl (cI, 240, .inl zr_token)), (azr_in, .inl (cI, 240, .inl zr_in)), (azr_own, .inl (cI, 240, .inl zr_own)), (azr_since, .inl (cI, 240, .inl zr_since))] t _ := hB
        rw [ht] at hB1
        obtain ⟨hP, hD⟩ := va_join (wr := []) (w1 := [(zv, .inr (4, [.ref azv_spots, .ref azv_homes, .int u_3.2, .int a_c, .int a_h])), (azv_spots, .inl (cI, 240, .inl u_3.1)), (azv_homes, .inl (cI, 240, .inl zv_homes_1)), (zr, .inr (2, [.ref azr_sign, .ref azr_token, .ref azr_in, .ref azr_own, .ref azr_since, .int zr_size])), (azr_sign, .inl (cI, 240, .inl zr_sign)), (azr_token, .inl (cI, 240, .inl zr_token)), (azr_in, .inl (cI, 240, .inl zr_in)), (azr_own, .inl (cI, 240, .inl zr_own)), (azr_since, .inl (cI, 240, .inl zr_since))]) hP hD [0, 1, 2, 3, 4, 5, 6, 7, 8] [] rfl rfl (by decide) (by decide) hk1 hFc hB1 hB2
        generalize H1 = H at hP hS ⊢
        have hP : va_P (dC, dI) vwCl [(zv, .inr (4, [.ref azv_spots, .ref azv_homes, .int u_3.2, .int a_c, .int a_h])), (azv_spots, .inl (cI, 240, .inl u_3.1)), (azv_homes, .inl (cI, 240, .inl zv_homes_1)), (zr, .inr (2, [.ref azr_sign, .ref azr_token, .ref azr_in, .ref azr_own, .ref azr_since, .int zr_size])), (azr_sign, .inl (cI, 240, .inl zr_sign)), (azr_token, .inl (cI, 240, .inl zr_token)), (azr_in, .inl (cI, 240, .inl zr_in)), (azr_own, .inl (cI, 240, .inl zr_own)), (azr_since, .inl (cI, 240, .inl zr_since))] H := hP
        have hD : va_D A [(zv, .inr (4, [.ref azv_spots, .ref azv_homes, .int u_3.2, .int a_c, .int a_h])), (azv_spots, .inl (cI, 240, .inl u_3.1)), (azv_homes, .inl (cI, 240, .inl zv_homes_1)), (zr, .inr (2, [.ref azr_sign, .ref azr_token, .ref azr_in, .ref azr_own, .ref azr_since, .int zr_size])), (azr_sign, .inl (cI, 240, .inl zr_sign)), (azr_token, .inl (cI, 240, .inl zr_token)), (azr_in, .inl (cI, 240, .inl zr_in)), (azr_own, .inl (cI, 240, .inl zr_own)), (azr_since, .inl (cI, 240, .inl zr_since))] := hD
        have hw2 : u_3 = f_X4_gatherT zv_homes_1 a_c a_h zr_token zr_in zr_size zv_spots (0 : Int32) (0 : Int32) (0 : Int32) := hw
        have hI4 : f_X4_gatherAll zv_spots zv_homes zr_token zr_in zr_size a_c a_m a_h = f_X4_gatherAll_k68_u_3 a_c a_h zv_homes_1 u_3 := (hI_1.trans (by rw [hw2]; rw [f_X4_gatherAll_L19, if_pos c_2]))
        rw [hQQ]
        have hE : f_X4_gatherAll zv_spots zv_homes zr_token zr_in zr_size a_c a_m a_h = (u_3.1, zv_homes_1, u_3.2, a_c, a_h) := (hI4.trans (by rw [f_X4_gatherAll_k68_u_3]))
        exact W.vret hx hb hr (fun t ht hW => ⟨⟨(u_3.1, zv_homes_1, u_3.2, a_c, a_h), rfl, by rw [hE], ⟨by rw [ht]; exact hP, hD⟩⟩, hS.F ht⟩) hS.2.2 dX4_gatherAll_68
      · have tc_2 : v5_1.toInt < (240 : Int) := q_nle c_2
        refine lv_aload_n hx hb dX4_gatherAll_27 rfl (lv_at hl 1 rfl) ?_
        refine lv_iload hx hb dX4_gatherAll_28 (lv_at hl 5 rfl) ?_
        have hPc := hP.sub (ws' := [(zr, .inr (2, [.ref azr_sign, .ref azr_token, .ref azr_in, .ref azr_own, .ref azr_since, .int zr_size])), (azr_sign, .inl (cI, 240, .inl zr_sign)), (azr_token, .inl (cI, 240, .inl zr_token)), (azr_in, .inl (cI, 240, .inl zr_in)), (azr_own, .inl (cI, 240, .inl zr_own)), (azr_since, .inl (cI, 240, .inl zr_since))]) [3, 4, 5, 6, 7, 8] rfl
        have hDc := hD.sub (ws' := [(zr, .inr (2, [.ref azr_sign, .ref azr_token, .ref azr_in, .ref azr_own, .ref azr_since, .int zr_size])), (azr_sign, .inl (cI, 240, .inl zr_sign)), (azr_token, .inl (cI, 240, .inl zr_token)), (azr_in, .inl (cI, 240, .inl zr_in)), (azr_own, .inl (cI, 240, .inl zr_own)), (azr_since, .inl (cI, 240, .inl zr_since))]) [3, 4, 5, 6, 7, 8] (by decide) rfl
        refine va_calli (va_runV (As := [.int v5_1]) (rest := []) ⟨hx, hb, hml, hown, hts⟩ (c_X2_has l dC dI cI cJ H.size zr azr_sign azr_token azr_in azr_own azr_since zr_sign zr_token zr_in zr_own zr_since zr_size v5_1) (cwV 1 hts gX4_gatherAll_X2_has rfl rfl rfl (by decide +kernel) ⟨Nat.le_of_ble_eq_true rfl, Nat.le_of_ble_eq_true rfl⟩) ⟨fun a U g mk q => ⟨q.1, PreW.call g mk a q.2⟩, va_recv hK hP (ci := 2) (q0 := 3) rfl rfl, fun U hU hW => ⟨rfl, PreW.mk2 hU hW hPc hK hN (hDc.weaken (fun _ _ _ _ => trivial))⟩⟩ rfl rfl hl.1 rfl (lv_room (Nat.le_of_ble_eq_true rfl)) dX4_gatherAll_30 ⟨Nat.le_of_ble_eq_true rfl, Nat.le_of_ble_eq_true rfl⟩) hS (fun q hq h => absurd hq (Nat.not_lt.mpr h)) (fun q h => hA q (Nat.le_trans hS.1 h)) (fun r_5 _u t H1 locs ht hvm hw hB hz1 hk1 hS => ?_)
        have hP := va_ro hP hk1
        generalize H1 = H at hP hS ⊢
        have hw : r_5 = f_X2_has zr_size v5_1 := hw
        subst hw
        obtain ⟨z_6, hz_6⟩ : ∃ z : Int32, z = f_X2_has zr_size v5_1 := ⟨_, rfl⟩
        refine lv_if_eq (tgt := 61) hx hb dX4_gatherAll_33 (by decide) (fun c_7 => ?_) (fun c_7 => ?_)
        · have tc_7 : z_6.toInt = (0 : Int) := by rw [hz_6]; exact q_eq c_7
          refine lv_aload_n hx hb dX4_gatherAll_61 rfl (lv_at hl 0 rfl) ?_
          refine lv_aload_n hx hb dX4_gatherAll_62 rfl (lv_at hl 1 rfl) ?_
          refine lv_iconst (v := (0 : Int32)) hx hb dX4_gatherAll_63 (by decide) ?_
          refine lv_iconst (v := (0 : Int32)) hx hb dX4_gatherAll_64 (by decide) ?_
          have hPc := hP.sub (ws' := [(zv, .inr (4, [.ref azv_spots, .ref azv_homes, .int (0 : Int32), .int a_c, .int a_h])), (azv_spots, .inl (cI, 240, .inl zv_spots)), (azv_homes, .inl (cI, 240, .inl zv_homes_1)), (zr, .inr (2, [.ref azr_sign, .ref azr_token, .ref azr_in, .ref azr_own, .ref azr_since, .int zr_size])), (azr_sign, .inl (cI, 240, .inl zr_sign)), (azr_token, .inl (cI, 240, .inl zr_token)), (azr_in, .inl (cI, 240, .inl zr_in)), (azr_own, .inl (cI, 240, .inl zr_own)), (azr_since, .inl (cI, 240, .inl zr_since))]) [0, 1, 2, 3, 4, 5, 6, 7, 8] rfl
          have hDc := hD.sub (ws' := [(zv, .inr (4, [.ref azv_spots, .ref azv_homes, .int (0 : Int32), .int a_c, .int a_h])), (azv_spots, .inl (cI, 240, .inl zv_spots)), (azv_homes, .inl (cI, 240, .inl zv_homes_1)), (zr, .inr (2, [.ref azr_sign, .ref azr_token, .ref azr_in, .ref azr_own, .ref azr_since, .int zr_size])), (azr_sign, .inl (cI, 240, .inl zr_sign)), (azr_token, .inl (cI, 240, .inl zr_token)), (azr_in, .inl (cI, 240, .inl zr_in)), (azr_own, .inl (cI, 240, .inl zr_own)), (azr_since, .inl (cI, 240, .inl zr_since))]) [0, 1, 2, 3, 4, 5, 6, 7, 8] (by decide) rfl
          have hFc := va_free (wc := [(zv, .inr (4, [.ref azv_spots, .ref azv_homes, .int (0 : Int32), .int a_c, .int a_h])), (azv_spots, .inl (cI, 240, .inl zv_spots)), (azv_homes, .inl (cI, 240, .inl zv_homes_1)), (zr, .inr (2, [.ref azr_sign, .ref azr_token, .ref azr_in, .ref azr_own, .ref azr_since, .int zr_size])), (azr_sign, .inl (cI, 240, .inl zr_sign)), (azr_token, .inl (cI, 240, .inl zr_token)), (azr_in, .inl (cI, 240, .inl zr_in)), (azr_own, .inl (cI, 240, .inl zr_own)), (azr_since, .inl (cI, 240, .inl zr_since))]) hD hS hA [0, 1, 2, 3, 4, 5, 6, 7, 8] rfl
          refine va_callv (va_runS (As := [.ref zv, .ref zr, .int (0 : Int32), .int (0 : Int32)]) (rest := []) ⟨hx, hb, hml, hown, hts⟩ (c_X4_gatherT l dC dI cI cJ H.size zv azv_spots azv_homes zr azr_sign azr_token azr_in azr_own azr_since zv_spots zv_homes_1 zr_sign zr_token zr_in zr_own zr_since (0 : Int32) a_c a_h zr_size (0 : Int32) (0 : Int32) (by first | omega | decide | assumption)) (va_cwS 4 hts gX4_gatherAll_X4_gather rfl rfl rfl (by decide +kernel) ⟨Nat.le_of_ble_eq_true rfl, Nat.le_of_ble_eq_true rfl⟩) ⟨fun a U g mk q => ⟨q.1, PreW.call g mk a q.2⟩, fun U hU hW => ⟨rfl, PreW.mk2 hU hW hPc hK hN (hDc.weaken (fun _ _ _ _ => trivial))⟩⟩ rfl rfl hl.1 rfl (lv_room (Nat.le_of_ble_eq_true rfl)) dX4_gatherAll_65 ⟨Nat.le_of_ble_eq_true rfl, Nat.le_of_ble_eq_true rfl⟩) hS (fun q _ h => hFc q h) hFc (fun u_8 t H1 locs ht hvm hw hB hz1 hk1 hS => ?_)
          obtain ⟨hB1, hB2⟩ : PostW dC dI [(zv, .inr (4, [.ref azv_spots, .ref azv_homes, .int u_8.2, .int a_c, .int a_h])), (azv_spots, .inl (cI, 240, .inl u_8.1)), (azv_homes, .inl (cI, 240, .inl zv_homes_1)), (zr, .inr (2, [.ref azr_sign, .ref azr_token, .ref azr_in, .ref azr_own, .ref azr_since, .int zr_size])), (azr_sign, .inl (cI, 240, .inl zr_sign)), (azr_token, .inl (cI, 240, .inl zr_token)), (azr_in, .inl (cI, 240, .inl zr_in)), (azr_own, .inl (cI, 240, .inl zr_own)), (azr_since, .inl (cI, 240, .inl zr_since))] t _ := hB
          rw [ht] at hB1
          obtain ⟨hP, hD⟩ := va_join (wr := []) (w1 := [(zv, .inr (4, [.ref azv_spots, .ref azv_homes, .int u_8.2, .int a_c, .int a_h])), (azv_spots, .inl (cI, 240, .inl u_8.1)), (azv_homes, .inl (cI, 240, .inl zv_homes_1)), (zr, .inr (2, [.ref azr_sign, .ref azr_token, .ref azr_in, .ref azr_own, .ref azr_since, .int zr_size])), (azr_sign, .inl (cI, 240, .inl zr_sign)), (azr_token, .inl (cI, 240, .inl zr_token)), (azr_in, .inl (cI, 240, .inl zr_in)), (azr_own, .inl (cI, 240, .inl zr_own)), (azr_since, .inl (cI, 240, .inl zr_since))]) hP hD [0, 1, 2, 3, 4, 5, 6, 7, 8] [] rfl rfl (by decide) (by decide) hk1 hFc hB1 hB2
          generalize H1 = H at hP hS ⊢
          have hP : va_P (dC, dI) vwCl [(zv, .inr (4, [.ref azv_spots, .ref azv_homes, .int u_8.2, .int a_c, .int a_h])), (azv_spots, .inl (cI, 240, .inl u_8.1)), (azv_homes, .inl (cI, 240, .inl zv_homes_1)), (zr, .inr (2, [.ref azr_sign, .ref azr_token, .ref azr_in, .ref azr_own, .ref azr_since, .int zr_size])), (azr_sign, .inl (cI, 240, .inl zr_sign)), (azr_token, .inl (cI, 240, .inl zr_token)), (azr_in, .inl (cI, 240, .inl zr_in)), (azr_own, .inl (cI, 240, .inl zr_own)), (azr_since, .inl (cI, 240, .inl zr_since))] H := hP
          have hD : va_D A [(zv, .inr (4, [.ref azv_spots, .ref azv_homes, .int u_8.2, .int a_c, .int a_h])), (azv_spots, .inl (cI, 240, .inl u_8.1)), (azv_homes, .inl (cI, 240, .inl zv_homes_1)), (zr, .inr (2, [.ref azr_sign, .ref azr_token, .ref azr_in, .ref azr_own, .ref azr_since, .int zr_size])), (azr_sign, .inl (cI, 240, .inl zr_sign)), (azr_token, .inl (cI, 240, .inl zr_token)), (azr_in, .inl (cI, 240, .inl zr_in)), (azr_own, .inl (cI, 240, .inl zr_own)), (azr_since, .inl (cI, 240, .inl zr_since))] := hD
          have hw2 : u_8 = f_X4_gatherT zv_homes_1 a_c a_h zr_token zr_in zr_size zv_spots (0 : Int32) (0 : Int32) (0 : Int32) := hw
          have hI9 : f_X4_gatherAll zv_spots zv_homes zr_token zr_in zr_size a_c a_m a_h = f_X4_gatherAll_k68_u_8 a_c a_h zv_homes_1 u_8 := (hI_1.trans (by rw [hw2]; rw [f_X4_gatherAll_L19, if_neg c_2, if_pos c_7]))
          rw [hQQ]
          have hE : f_X4_gatherAll zv_spots zv_homes zr_token zr_in zr_size a_c a_m a_h = (u_8.1, zv_homes_1, u_8.2, a_c, a_h) := (hI9.trans (by rw [f_X4_gatherAll_k68_u_8]))
          exact W.vret hx hb hr (fun t ht hW => ⟨⟨(u_8.1, zv_homes_1, u_8.2, a_c, a_h), rfl, by rw [hE], ⟨by rw [ht]; exact hP, hD⟩⟩, hS.F ht⟩) hS.2.2 dX4_gatherAll_68
        · have tc_7 : ¬ z_6.toInt = (0 : Int) := by rw [hz_6]; exact q_ne c_7
          obtain ⟨b_10, b_11, b_12⟩ := has_in c_7
          refine lv_aload_n hx hb dX4_gatherAll_36 rfl (lv_at hl 0 rfl) ?_
          refine va_get (D := (dC, dI)) (ci := 4) (v := .ref azv_homes) (C := RX4) (T := TX4) (N := 5) hx hb hts in_X4_gatherAll_X4 hown hK hP 0 rfl rfl 1 (by decide) (hts _ m_X4_gatherAll_4) (fun _ h9 => h9) rfl dX4_gatherAll_37 ?_
          refine lv_iload hx hb dX4_gatherAll_40 (lv_at hl 5 rfl) ?_
          refine lv_aload_n hx hb dX4_gatherAll_42 rfl (lv_at hl 1 rfl) ?_
          refine va_get (D := (dC, dI)) (ci := 2) (v := .ref azr_in) (C := RX2) (T := TX2) (N := 6) hx hb hts in_X4_gatherAll_X2 hown hK hP 3 rfl rfl 2 (by decide) (hts _ m_X4_gatherAll_5) (fun _ h9 => h9) rfl dX4_gatherAll_43 ?_
          refine lv_iload hx hb dX4_gatherAll_46 (lv_at hl 5 rfl) ?_
          refine va_iald (q0 := 6) (t0 := 0) (n := 240) (f := zr_in) hx hb hK hP rfl rfl (vp_in_iff.mpr ⟨by omega, by omega⟩) dX4_gatherAll_48 ?_
          refine lv_iload_n hx hb dX4_gatherAll_49 rfl (lv_at hl 3 rfl) ?_
          refine lv_iand hx hb dX4_gatherAll_50 ?_
          have hPc := hP.sub (ws' := []) [] rfl
          have hDc := hD.sub (ws' := []) [] (by decide) rfl
          refine va_calli (va_runSN (As := [.int ((zr_in (v5_1).toNatClampNeg) &&& a_m)]) (rest := [.int v5_1, .ref azv_homes]) ⟨hx, hb, hml, hown, hts⟩ (c_X5_latest l dC dI cI cJ H.size ((zr_in (v5_1).toNatClampNeg) &&& a_m)) ⟨va_cnB 1 hts gX4_gatherAll_X5_latest_n37 rfl rfl rfl hN.2.2.1 (hts _ m_X4_gatherAll_13) (by decide +kernel) ⟨Nat.le_of_ble_eq_true rfl, Nat.le_of_ble_eq_true rfl⟩, (hts _ m_X4_gatherAll_12), trivial⟩ ⟨fun a U g mk q => ⟨q.1, PreW.call g mk a q.2⟩, fun U hU hW => ⟨rfl, PreW.mk2 hU hW hPc hK hN (hDc.weaken (fun _ _ _ _ => trivial))⟩⟩ rfl rfl hl.1 rfl (lv_room (Nat.le_of_ble_eq_true rfl)) dX4_gatherAll_51 ⟨Nat.le_of_ble_eq_true rfl, Nat.le_of_ble_eq_true rfl⟩) hS (fun q hq h => absurd hq (Nat.not_lt.mpr h)) (fun q h => hA q (Nat.le_trans hS.1 h)) (fun r_13 _u t H1 locs ht hvm hw hB hz1 hk1 hS => ?_)
          have hP := va_ro hP hk1
          generalize H1 = H at hP hS ⊢
          have hw : r_13 = f_X5_latest ((zr_in (v5_1).toNatClampNeg) &&& a_m) := hw
          subst hw
          obtain ⟨z_14, hz_14⟩ : ∃ z : Int32, z = f_X5_latest ((zr_in (v5_1).toNatClampNeg) &&& a_m) := ⟨_, rfl⟩
          refine va_iast (q0 := 2) (t0 := 0) (n := 240) (f := zv_homes_1) hx hb hK hP hD hS rfl rfl (vp_in_iff.mpr ⟨by omega, by omega⟩) dX4_gatherAll_54 (fun H locs hP hD hS => ?_)
          have hP : va_P (dC, dI) vwCl [(zv, .inr (4, [.ref azv_spots, .ref azv_homes, .int (0 : Int32), .int a_c, .int a_h])), (azv_spots, .inl (cI, 240, .inl zv_spots)), (azv_homes, .inl (cI, 240, .inl (upd zv_homes_1 (v5_1).toNatClampNeg (f_X5_latest ((zr_in (v5_1).toNatClampNeg) &&& a_m))))), (zr, .inr (2, [.ref azr_sign, .ref azr_token, .ref azr_in, .ref azr_own, .ref azr_since, .int zr_size])), (azr_sign, .inl (cI, 240, .inl zr_sign)), (azr_token, .inl (cI, 240, .inl zr_token)), (azr_in, .inl (cI, 240, .inl zr_in)), (azr_own, .inl (cI, 240, .inl zr_own)), (azr_since, .inl (cI, 240, .inl zr_since))] H := hP
          have hD : va_D A [(zv, .inr (4, [.ref azv_spots, .ref azv_homes, .int (0 : Int32), .int a_c, .int a_h])), (azv_spots, .inl (cI, 240, .inl zv_spots)), (azv_homes, .inl (cI, 240, .inl (upd zv_homes_1 (v5_1).toNatClampNeg (f_X5_latest ((zr_in (v5_1).toNatClampNeg) &&& a_m))))), (zr, .inr (2, [.ref azr_sign, .ref azr_token, .ref azr_in, .ref azr_own, .ref azr_since, .int zr_size])), (azr_sign, .inl (cI, 240, .inl zr_sign)), (azr_token, .inl (cI, 240, .inl zr_token)), (azr_in, .inl (cI, 240, .inl zr_in)), (azr_own, .inl (cI, 240, .inl zr_own)), (azr_since, .inl (cI, 240, .inl zr_since))] := hD
          refine lv_iinc (v := (v5_1 + (1 : Int32))) (lv' := [(5, .int (v5_1 + (1 : Int32))), (0, .ref zv), (1, .ref zr), (2, .int a_c), (3, .int a_m), (4, .int a_h)]) hx hb dX4_gatherAll_55 hl (k := 5) rfl rfl (by decide) rfl (fun ls hl => ?_)
          obtain ⟨z_15, hz_15⟩ : ∃ z : Int32, z = (v5_1 + (1 : Int32)) := ⟨_, rfl⟩
          try have gz_15 : z_15.toInt = v5_1.toInt + (1 : Int) := by rw [hz_15]; exact ti_add2 rfl rfl (by omega) (by omega)
          refine lv_goto (tgt := 19) hx hb dX4_gatherAll_58 (by decide) ?_
          exact ih_1 (v5_1 + (1 : Int32)) (upd zv_homes_1 (v5_1).toNatClampNeg (f_X5_latest ((zr_in (v5_1).toNatClampNeg) &&& a_m))) (by rw [← hz_15]; omega) (by rw [← hz_15]; omega) (by rw [← hz_15]; omega) (hI_1.trans (by rw [f_X4_gatherAll_L19, if_neg c_2, if_neg c_7])) _ _ hP hD hS ls (lv_sub hl [1, 2, 3, 4, 5, 0] rfl)
  exact hloop_1 241 (0 : Int32) zv_homes (by first | omega | exact (show 0 ≤ (0 : Int) by omega) | assumption | trivial) (by first | omega | exact (show (0 : Int) ≤ 240 by omega) | assumption | trivial) (by first | omega | exact (show (240 - (0 : Int)).toNat < 241 by omega)) (by rw [f_X4_gatherAll]) _ _ hP hD hS ls (lv_sub hl [1, 2, 3, 4, 5, 0] rfl)
