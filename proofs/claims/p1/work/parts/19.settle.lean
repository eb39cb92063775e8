theorem dX5_settle_0 : decode cX5_settle 0 = .ok (.aload_n 0, 1) := by decide +kernel
theorem dX5_settle_1 : decode cX5_settle 1 = .ok (.getfield 29, 3) := by decide +kernel
theorem in_X5_settle_X5 : ∀ w ∈ wsX50, w ∈ wsX5_settle := by decide +kernel
theorem m_X5_settle_1 : (.fieldLink RX5 29 "RedlineDesk" "ledger" "LRedlineDesk$Ledger;" : Cond) ∈ wsX5_settle := List.mem_of_getElem? (i := 1) (by decide +kernel)
theorem dX5_settle_4 : decode cX5_settle 4 = .ok (.iload_n 1, 1) := by decide +kernel
theorem dX5_settle_5 : decode cX5_settle 5 = .ok (.invokevirtual 167, 3) := by decide +kernel
set_option maxRecDepth 20000 in
theorem ggX5_settle_X1_names : GoodIn wsX5_settle wsX1_names := goodIn_r _ [7, 8, 15, 16, 17, 18, 19] (by decide +kernel) (by decide +kernel)
set_option maxRecDepth 20000 in
theorem gX5_settle_X1_names : GoodIn wsX5_settle (wsV RX5 167 RX1 yX1_names wsX1_names) := goodIn_app (goodIn_of _ (by decide +kernel)) ggX5_settle_X1_names
theorem dX5_settle_8 : decode cX5_settle 8 = .ok (.ifCond .ne 5, 3) := by decide +kernel
theorem dX5_settle_13 : decode cX5_settle 13 = .ok (.aload_n 0, 1) := by decide +kernel
theorem dX5_settle_14 : decode cX5_settle 14 = .ok (.getfield 29, 3) := by decide +kernel
theorem dX5_settle_17 : decode cX5_settle 17 = .ok (.getfield 170, 3) := by decide +kernel
theorem in_X5_settle_X1 : ∀ w ∈ wsX10, w ∈ wsX5_settle := by decide +kernel
theorem m_X5_settle_2 : (.fieldLink RX5 170 "RedlineDesk$Ledger" "state" "[I" : Cond) ∈ wsX5_settle := List.mem_of_getElem? (i := 2) (by decide +kernel)
theorem dX5_settle_20 : decode cX5_settle 20 = .ok (.iload_n 1, 1) := by decide +kernel
theorem dX5_settle_21 : decode cX5_settle 21 = .ok (.iaload, 1) := by decide +kernel
theorem dX5_settle_22 : decode cX5_settle 22 = .ok (.ifCond .eq 6, 3) := by decide +kernel
theorem dX5_settle_28 : decode cX5_settle 28 = .ok (.aload_n 0, 1) := by decide +kernel
theorem dX5_settle_29 : decode cX5_settle 29 = .ok (.getfield 29, 3) := by decide +kernel
theorem dX5_settle_32 : decode cX5_settle 32 = .ok (.getfield 170, 3) := by decide +kernel
theorem dX5_settle_35 : decode cX5_settle 35 = .ok (.iload_n 1, 1) := by decide +kernel
theorem dX5_settle_36 : decode cX5_settle 36 = .ok (.iload_n 2, 1) := by decide +kernel
theorem dX5_settle_37 : decode cX5_settle 37 = .ok (.ifCond .eq 7, 3) := by decide +kernel
theorem dX5_settle_44 : decode cX5_settle 44 = .ok (.iconst 2, 1) := by decide +kernel
theorem dX5_settle_45 : decode cX5_settle 45 = .ok (.iastore, 1) := by decide +kernel
theorem dX5_settle_46 : decode cX5_settle 46 = .ok (.iconst 1, 1) := by decide +kernel
theorem dX5_settle_47 : decode cX5_settle 47 = .ok (.ireturn, 1) := by decide +kernel
theorem dX5_settle_40 : decode cX5_settle 40 = .ok (.iconst 1, 1) := by decide +kernel
theorem dX5_settle_41 : decode cX5_settle 41 = .ok (.goto 4, 3) := by decide +kernel
theorem dX5_settle_25 : decode cX5_settle 25 = .ok (.bipush (-2), 2) := by decide +kernel
theorem dX5_settle_27 : decode cX5_settle 27 = .ok (.ireturn, 1) := by decide +kernel
theorem dX5_settle_11 : decode cX5_settle 11 = .ok (.iconst (-1), 1) := by decide +kernel
theorem dX5_settle_12 : decode cX5_settle 12 = .ok (.ireturn, 1) := by decide +kernel
def f_X5_settle (zg_state : Nat → Int32) (zg_size : Int32) (a_c : Int32) (a_b : Int32) : Int32 × (Nat → Int32) := if (f_X1_names zg_size a_c) = (0 : Int32) then ((-1 : Int32), zg_state) else if (zg_state (a_c).toNatClampNeg) = (0 : Int32) then if a_b = (0 : Int32) then ((1 : Int32), (upd zg_state (a_c).toNatClampNeg (2 : Int32))) else ((1 : Int32), (upd zg_state (a_c).toNatClampNeg (1 : Int32))) else ((-2 : Int32), zg_state)
set_option maxHeartbeats 4000000 in
set_option maxRecDepth 100000 in
theorem c_X5_settle (l : Launch) (dC : Nat → ClassId) (dI : Nat → Nat → Nat) (cI cJ : ClassId) (sz : Nat) (zd zg azg_kind azg_hand azg_state azg_look zt zr zw zv zk : Nat) (zg_kind zg_hand zg_state zg_look : Nat → Int32) (zg_size : Int32) (a_c : Int32) (a_b : Int32) : Met l yX5_settle wsX5_settle ({ frames := 1, cells := 0, slots := 0, locals := 21 } : Room) (va_Pc [.ref zd, .int a_c, .int a_b] (PreW dC dI cI cJ sz [(zd, .inr (5, [.ref zt, .ref zr, .ref zw, .ref zg, .ref zv, .ref zk])), (zg, .inr (1, [.ref azg_kind, .ref azg_hand, .ref azg_state, .ref azg_look, .int zg_size])), (azg_kind, .inl (cI, 25, .inl zg_kind)), (azg_hand, .inl (cI, 25, .inl zg_hand)), (azg_state, .inl (cI, 25, .inl zg_state)), (azg_look, .inl (cI, 25, .inl zg_look))])) (va_Qi (fun (r : Int32) (u : (Nat → Int32)) => r = (f_X5_settle zg_state zg_size a_c a_b).1 ∧ u = (f_X5_settle zg_state zg_size a_c a_b).2) (fun (u : (Nat → Int32)) t => PostW dC dI [(zd, .inr (5, [.ref zt, .ref zr, .ref zw, .ref zg, .ref zv, .ref zk])), (zg, .inr (1, [.ref azg_kind, .ref azg_hand, .ref azg_state, .ref azg_look, .int zg_size])), (azg_kind, .inl (cI, 25, .inl zg_kind)), (azg_hand, .inl (cI, 25, .inl zg_hand)), (azg_state, .inl (cI, 25, .inl u)), (azg_look, .inl (cI, 25, .inl zg_look))] t (va_A [(zd, .inr (5, [.ref zt, .ref zr, .ref zw, .ref zg, .ref zv, .ref zk])), (zg, .inr (1, [.ref azg_kind, .ref azg_hand, .ref azg_state, .ref azg_look, .int zg_size])), (azg_kind, .inl (cI, 25, .inl zg_kind)), (azg_hand, .inl (cI, 25, .inl zg_hand)), (azg_state, .inl (cI, 25, .inl zg_state)), (azg_look, .inl (cI, 25, .inl zg_look))] sz)) (va_A [(zd, .inr (5, [.ref zt, .ref zr, .ref zw, .ref zg, .ref zv, .ref zk])), (zg, .inr (1, [.ref azg_kind, .ref azg_hand, .ref azg_state, .ref azg_look, .int zg_size])), (azg_kind, .inl (cI, 25, .inl zg_kind)), (azg_hand, .inl (cI, 25, .inl zg_hand)), (azg_state, .inl (cI, 25, .inl zg_state)), (azg_look, .inl (cI, 25, .inl zg_look))] sz)) 0 0 (va_A [(zd, .inr (5, [.ref zt, .ref zr, .ref zw, .ref zg, .ref zv, .ref zk])), (zg, .inr (1, [.ref azg_kind, .ref azg_hand, .ref azg_state, .ref azg_look, .int zg_size])), (azg_kind, .inl (cI, 25, .inl zg_kind)), (azg_hand, .inl (cI, 25, .inl zg_hand)), (azg_state, .inl (cI, 25, .inl zg_state)), (azg_look, .inl (cI, 25, .inl zg_look))] sz) := by
  refine Met.ofW (cc := cX5_settle) (maxL := 3) (ret := (some .int)) (by decide) rfl ?_
  intro p e s m args below meth c s₁ B hml hv
  obtain ⟨rfl, hsz, hP, hK, hN, hD0⟩ := hv
  have hx := B.exec
  have hb := B.bytes
  have hr := B.returns
  have hts := atoms_spec (ws := wsX5_settle) B.pre
  have hown : s.vm.findClass RX5 = some m.cls := findClass_of_methodNamed B.named
  have hlocks := B.notSynchronized
  subst hsz
  have hD := hD0.self (sz := s.heap.size)
  generalize hAe : va_A [(zd, .inr (5, [.ref zt, .ref zr, .ref zw, .ref zg, .ref zv, .ref zk])), (zg, .inr (1, [.ref azg_kind, .ref azg_hand, .ref azg_state, .ref azg_look, .int zg_size])), (azg_kind, .inl (cI, 25, .inl zg_kind)), (azg_hand, .inl (cI, 25, .inl zg_hand)), (azg_state, .inl (cI, 25, .inl zg_state)), (azg_look, .inl (cI, 25, .inl zg_look))] s.heap.size = A at hD ⊢
  have hA : ∀ q : Nat, s.heap.size ≤ q → A q := fun q h => by rw [← hAe]; exact Or.inr h
  have hS : va_S A s.heap s.heap [] := va_S.rf
  have hP : va_P (dC, dI) vwCl [(zd, .inr (5, [.ref zt, .ref zr, .ref zw, .ref zg, .ref zv, .ref zk])), (zg, .inr (1, [.ref azg_kind, .ref azg_hand, .ref azg_state, .ref azg_look, .int zg_size])), (azg_kind, .inl (cI, 25, .inl zg_kind)), (azg_hand, .inl (cI, 25, .inl zg_hand)), (azg_state, .inl (cI, 25, .inl zg_state)), (azg_look, .inl (cI, 25, .inl zg_look))] s.heap := hP
  have hl := lv_entry ([.ref zd, .int a_c, .int a_b]) (n := 3) (Nat.le_of_ble_eq_true rfl)
  rw [lg_entry_eq]
  generalize (lg_sl ([.ref zd, .int a_c, .int a_b]) ++ List.replicate (3 - (lg_sl ([.ref zd, .int a_c, .int a_b])).length) Slot.unset).toArray = ls at hl ⊢
  have hl : lv_has ls 3 [(0, .ref zd), (1, .int a_c), (2, .int a_b)] := hl
  refine lv_aload_n hx hb dX5_settle_0 rfl (lv_at hl 0 rfl) ?_
  refine va_get (D := (dC, dI)) (ci := 5) (v := .ref zg) (C := RX5) (T := TX5) (N := 6) hx hb hts in_X5_settle_X5 hown hK hP 0 rfl rfl 3 (by decide) (hts _ m_X5_settle_1) (fun _ h9 => h9) rfl dX5_settle_1 ?_
  refine lv_iload_n hx hb dX5_settle_4 rfl (lv_at hl 1 rfl) ?_
  have hPc := hP.sub (ws' := [(zg, .inr (1, [.ref azg_kind, .ref azg_hand, .ref azg_state, .ref azg_look, .int zg_size])), (azg_kind, .inl (cI, 25, .inl zg_kind)), (azg_hand, .inl (cI, 25, .inl zg_hand)), (azg_state, .inl (cI, 25, .inl zg_state)), (azg_look, .inl (cI, 25, .inl zg_look))]) [1, 2, 3, 4, 5] rfl
  have hDc := hD.sub (ws' := [(zg, .inr (1, [.ref azg_kind, .ref azg_hand, .ref azg_state, .ref azg_look, .int zg_size])), (azg_kind, .inl (cI, 25, .inl zg_kind)), (azg_hand, .inl (cI, 25, .inl zg_hand)), (azg_state, .inl (cI, 25, .inl zg_state)), (azg_look, .inl (cI, 25, .inl zg_look))]) [1, 2, 3, 4, 5] (by decide) rfl
  refine va_calli (va_runV (As := [.int a_c]) (rest := []) ⟨hx, hb, hml, hown, hts⟩ (c_X1_names l dC dI cI cJ s.heap.size zg azg_kind azg_hand azg_state azg_look zg_kind zg_hand zg_state zg_look zg_size a_c) (cwV 1 hts gX5_settle_X1_names rfl rfl rfl (by decide +kernel) ⟨Nat.le_of_ble_eq_true rfl, Nat.le_of_ble_eq_true rfl⟩) ⟨fun a U g mk q => ⟨q.1, PreW.call g mk a q.2⟩, va_recv hK hP (ci := 1) (q0 := 1) rfl rfl, fun U hU hW => ⟨rfl, PreW.mk2 hU hW hPc hK hN (hDc.weaken (fun _ _ _ _ => trivial))⟩⟩ rfl rfl hl.1 rfl (lv_room (Nat.le_of_ble_eq_true rfl)) dX5_settle_5 ⟨Nat.le_of_ble_eq_true rfl, Nat.le_of_ble_eq_true rfl⟩) hS (fun q hq h => absurd hq (Nat.not_lt.mpr h)) (fun q h => hA q (Nat.le_trans hS.1 h)) (fun r_1 _u t H1 locs ht hvm hw hB hz1 hk1 hS => ?_)
  have hP := va_ro hP hk1
  generalize H1 = H at hP hS ⊢
  have hw : r_1 = f_X1_names zg_size a_c := hw
  subst hw
  obtain ⟨z_2, hz_2⟩ : ∃ z : Int32, z = f_X1_names zg_size a_c := ⟨_, rfl⟩
  refine lv_if_ne (tgt := 13) hx hb dX5_settle_8 (by decide) (fun c_3 => ?_) (fun c_3 => ?_)
  · have tc_3 : ¬ z_2.toInt = (0 : Int) := by rw [hz_2]; exact q_ne c_3
    obtain ⟨b_4, b_5, b_6⟩ := names_in c_3
    refine lv_aload_n hx hb dX5_settle_13 rfl (lv_at hl 0 rfl) ?_
    refine va_get (D := (dC, dI)) (ci := 5) (v := .ref zg) (C := RX5) (T := TX5) (N := 6) hx hb hts in_X5_settle_X5 hown hK hP 0 rfl rfl 3 (by decide) (hts _ m_X5_settle_1) (fun _ h9 => h9) rfl dX5_settle_14 ?_
    refine va_get (D := (dC, dI)) (ci := 1) (v := .ref azg_state) (C := RX1) (T := TX1) (N := 5) hx hb hts in_X5_settle_X1 hown hK hP 1 rfl rfl 2 (by decide) (hts _ m_X5_settle_2) (fun _ h9 => h9) rfl dX5_settle_17 ?_
    refine lv_iload_n hx hb dX5_settle_20 rfl (lv_at hl 1 rfl) ?_
    refine va_iald (q0 := 4) (t0 := 0) (n := 25) (f := zg_state) hx hb hK hP rfl rfl (vp_in_iff.mpr ⟨by omega, by omega⟩) dX5_settle_21 ?_
    refine lv_if_eq (tgt := 28) hx hb dX5_settle_22 (by decide) (fun c_7 => ?_) (fun c_7 => ?_)
    · refine lv_aload_n hx hb dX5_settle_28 rfl (lv_at hl 0 rfl) ?_
      refine va_get (D := (dC, dI)) (ci := 5) (v := .ref zg) (C := RX5) (T := TX5) (N := 6) hx hb hts in_X5_settle_X5 hown hK hP 0 rfl rfl 3 (by decide) (hts _ m_X5_settle_1) (fun _ h9 => h9) rfl dX5_settle_29 ?_
      refine va_get (D := (dC, dI)) (ci := 1) (v := .ref azg_state) (C := RX1) (T := TX1) (N := 5) hx hb hts in_X5_settle_X1 hown hK hP 1 rfl rfl 2 (by decide) (hts _ m_X5_settle_2) (fun _ h9 => h9) rfl dX5_settle_32 ?_
      refine lv_iload_n hx hb dX5_settle_35 rfl (lv_at hl 1 rfl) ?_
      refine lv_iload_n hx hb dX5_settle_36 rfl (lv_at hl 2 rfl) ?_
      refine lv_if_eq (tgt := 44) hx hb dX5_settle_37 (by decide) (fun c_8 => ?_) (fun c_8 => ?_)
      · have tc_8 : a_b.toInt = (0 : Int) := q_eq c_8
        refine lv_iconst (v := (2 : Int32)) hx hb dX5_settle_44 (by decide) ?_
        refine va_iast (q0 := 4) (t0 := 0) (n := 25) (f := zg_state) hx hb hK hP hD hS rfl rfl (vp_in_iff.mpr ⟨by omega, by omega⟩) dX5_settle_45 (fun H locs hP hD hS => ?_)
        have hP : va_P (dC, dI) vwCl [(zd, .inr (5, [.ref zt, .ref zr, .ref zw, .ref zg, .ref zv, .ref zk])), (zg, .inr (1, [.ref azg_kind, .ref azg_hand, .ref azg_state, .ref azg_look, .int zg_size])), (azg_kind, .inl (cI, 25, .inl zg_kind)), (azg_hand, .inl (cI, 25, .inl zg_hand)), (azg_state, .inl (cI, 25, .inl (upd zg_state (a_c).toNatClampNeg (2 : Int32)))), (azg_look, .inl (cI, 25, .inl zg_look))] H := hP
        have hD : va_D A [(zd, .inr (5, [.ref zt, .ref zr, .ref zw, .ref zg, .ref zv, .ref zk])), (zg, .inr (1, [.ref azg_kind, .ref azg_hand, .ref azg_state, .ref azg_look, .int zg_size])), (azg_kind, .inl (cI, 25, .inl zg_kind)), (azg_hand, .inl (cI, 25, .inl zg_hand)), (azg_state, .inl (cI, 25, .inl (upd zg_state (a_c).toNatClampNeg (2 : Int32)))), (azg_look, .inl (cI, 25, .inl zg_look))] := hD
        refine lv_iconst (v := (1 : Int32)) hx hb dX5_settle_46 (by decide) ?_
        have hE : f_X5_settle zg_state zg_size a_c a_b = ((1 : Int32), (upd zg_state (a_c).toNatClampNeg (2 : Int32))) := (by rw [f_X5_settle, if_neg c_3, if_pos c_7, if_pos c_8])
        exact W.iret (v := (1 : Int32)) hx hb hr (fun t ht hW => ⟨⟨(1 : Int32), ((upd zg_state (a_c).toNatClampNeg (2 : Int32))), rfl, ⟨by rw [hE], by rw [hE]⟩, ⟨by rw [ht]; exact hP, hD⟩⟩, hS.F ht⟩) hS.2.2 dX5_settle_47
      · have tc_8 : ¬ a_b.toInt = (0 : Int) := q_ne c_8
        refine lv_iconst (v := (1 : Int32)) hx hb dX5_settle_40 (by decide) ?_
        refine lv_goto (tgt := 45) hx hb dX5_settle_41 (by decide) ?_
        refine va_iast (q0 := 4) (t0 := 0) (n := 25) (f := zg_state) hx hb hK hP hD hS rfl rfl (vp_in_iff.mpr ⟨by omega, by omega⟩) dX5_settle_45 (fun H locs hP hD hS => ?_)
        have hP : va_P (dC, dI) vwCl [(zd, .inr (5, [.ref zt, .ref zr, .ref zw, .ref zg, .ref zv, .ref zk])), (zg, .inr (1, [.ref azg_kind, .ref azg_hand, .ref azg_state, .ref azg_look, .int zg_size])), (azg_kind, .inl (cI, 25, .inl zg_kind)), (azg_hand, .inl (cI, 25, .inl zg_hand)), (azg_state, .inl (cI, 25, .inl (upd zg_state (a_c).toNatClampNeg (1 : Int32)))), (azg_look, .inl (cI, 25, .inl zg_look))] H := hP
        have hD : va_D A [(zd, .inr (5, [.ref zt, .ref zr, .ref zw, .ref zg, .ref zv, .ref zk])), (zg, .inr (1, [.ref azg_kind, .ref azg_hand, .ref azg_state, .ref azg_look, .int zg_size])), (azg_kind, .inl (cI, 25, .inl zg_kind)), (azg_hand, .inl (cI, 25, .inl zg_hand)), (azg_state, .inl (cI, 25, .inl (upd zg_state (a_c).toNatClampNeg (1 : Int32)))), (azg_look, .inl (cI, 25, .inl zg_look))] := hD
        refine lv_iconst (v := (1 : Int32)) hx hb dX5_settle_46 (by decide) ?_
        have hE : f_X5_settle zg_state zg_size a_c a_b = ((1 : Int32), (upd zg_state (a_c).toNatClampNeg (1 : Int32))) := (by rw [f_X5_settle, if_neg c_3, if_pos c_7, if_neg c_8])
        exact W.iret (v := (1 : Int32)) hx hb hr (fun t ht hW => ⟨⟨(1 : Int32), ((upd zg_state (a_c).toNatClampNeg (1 : Int32))), rfl, ⟨by rw [hE], by rw [hE]⟩, ⟨by rw [ht]; exact hP, hD⟩⟩, hS.F ht⟩) hS.2.2 dX5_settle_47
    · refine lv_bipush (v := (-2 : Int32)) hx hb dX5_settle_25 (by decide) ?_
      have hE : f_X5_settle zg_state zg_size a_c a_b = ((-2 : Int32), zg_state) := (by rw [f_X5_settle, if_neg c_3, if_neg c_7])
      exact W.iret (v := (-2 : Int32)) hx hb hr (fun t ht hW => ⟨⟨(-2 : Int32), (zg_state), rfl, ⟨by rw [hE], by rw [hE]⟩, ⟨by rw [ht]; exact hP, hD⟩⟩, hS.F ht⟩) hS.2.2 dX5_settle_27
  · have tc_3 : z_2.toInt = (0 : Int) := by rw [hz_2]; exact q_eq c_3
    refine lv_iconst (v := (-1 : Int32)) hx hb dX5_settle_11 (by decide) ?_
    have hE : f_X5_settle zg_state zg_size a_c a_b = ((-1 : Int32), zg_state) := (by rw [f_X5_settle, if_pos c_3])
    exact W.iret (v := (-1 : Int32)) hx hb hr (fun t ht hW => ⟨⟨(-1 : Int32), (zg_state), rfl, ⟨by rw [hE], by rw [hE]⟩, ⟨by rw [ht]; exact hP, hD⟩⟩, hS.F ht⟩) hS.2.2 dX5_settle_12
theorem dX5_cut_0 : decode cX5_cut 0 = .ok (.aload_n 0, 1) := by decide +kernel
theorem dX5_cut_1 : decode cX5_cut 1 = .ok (.getfield 29, 3) := by decide +kernel
theorem in_X5_cut_X5 : ∀ w ∈ wsX50, w ∈ wsX5_cut := by decide +kernel
theorem m_X5_cut_1 : (.fieldLink RX5 29 "RedlineDesk" "ledger" "LRedlineDesk$Ledger;" : Cond) ∈ wsX5_cut := List.mem_of_getElem? (i := 1) (by decide +kernel)
theorem dX5_cut_4 : decode cX5_cut 4 = .ok (.iload_n 1, 1) := by decide +kernel
theorem dX5_cut_5 : decode cX5_cut 5 = .ok (.invokevirtual 167, 3) := by decide +kernel
set_option maxRecDepth 20000 in
theorem ggX5_cut_X1_names : GoodIn wsX5_cut wsX1_names := goodIn_r _ [11, 12, 55, 56, 57, 58, 59] (by decide +kernel) (by decide +kernel)
set_option maxRecDepth 20000 in
theorem gX5_cut_X1_names : GoodIn wsX5_cut (wsV RX5 167 RX1 yX1_names wsX1_names) := goodIn_app (goodIn_of _ (by decide +kernel)) ggX5_cut_X1_names
theorem dX5_cut_8 : decode cX5_cut 8 = .ok (.ifCond .ne 5, 3) := by decide +kernel
theorem dX5_cut_13 : decode cX5_cut 13 = .ok (.aload_n 0, 1) := by decide +kernel
theorem dX5_cut_14 : decode cX5_cut 14 = .ok (.getfield 29, 3) := by decide +kernel
theorem dX5_cut_17 : decode cX5_cut 17 = .ok (.getfield 173, 3) := by decide +kernel
theorem in_X5_cut_X1 : ∀ w ∈ wsX10, w ∈ wsX5_cut := by decide +kernel
theorem m_X5_cut_2 : (.fieldLink RX5 173 "RedlineDesk$Ledger" "kind" "[I" : Cond) ∈ wsX5_cut := List.mem_of_getElem? (i := 2) (by decide +kernel)
theorem dX5_cut_20 : decode cX5_cut 20 = .ok (.iload_n 1, 1) := by decide +kernel
theorem dX5_cut_21 : decode cX5_cut 21 = .ok (.iaload, 1) := by decide +kernel
theorem dX5_cut_22 : decode cX5_cut 22 = .ok (.iconst 2, 1) := by decide +kernel
theorem dX5_cut_23 : decode cX5_cut 23 = .ok (.if_icmp .ne 6, 3) := by decide +kernel
theorem dX5_cut_29 : decode cX5_cut 29 = .ok (.aload_n 0, 1) := by decide +kernel
theorem dX5_cut_30 : decode cX5_cut 30 = .ok (.getfield 29, 3) := by decide +kernel
theorem dX5_cut_33 : decode cX5_cut 33 = .ok (.getfield 170, 3) := by decide +kernel
theorem m_X5_cut_3 : (.fieldLink RX5 170 "RedlineDesk$Ledger" "state" "[I" : Cond) ∈ wsX5_cut := List.mem_of_getElem? (i := 3) (by decide +kernel)
theorem dX5_cut_36 : decode cX5_cut 36 = .ok (.iload_n 1, 1) := by decide +kernel
theorem dX5_cut_37 : decode cX5_cut 37 = .ok (.iaload, 1) := by decide +kernel
theorem dX5_cut_38 : decode cX5_cut 38 = .ok (.ifCond .ne 23, 3) := by decide +kernel
theorem dX5_cut_61 : decode cX5_cut 61 = .ok (.bipush (-2), 2) := by decide +kernel
theorem dX5_cut_63 : decode cX5_cut 63 = .ok (.ireturn, 1) := by decide +kernel
theorem dX5_cut_41 : decode cX5_cut 41 = .ok (.iload_n 2, 1) := by decide +kernel
theorem dX5_cut_42 : decode cX5_cut 42 = .ok (.iconst 1, 1) := by decide +kernel
theorem dX5_cut_43 : decode cX5_cut 43 = .ok (.if_icmp .lt 18, 3) := by decide +kernel
theorem dX5_cut_46 : decode cX5_cut 46 = .ok (.iload_n 2, 1) := by decide +kernel
theorem dX5_cut_47 : decode cX5_cut 47 = .ok (.aload_n 0, 1) := by decide +kernel
theorem dX5_cut_48 : decode cX5_cut 48 = .ok (.getfield 19, 3) := by decide +kernel
theorem m_X5_cut_4 : (.fieldLink RX5 19 "RedlineDesk" "row" "LRedlineDesk$Row;" : Cond) ∈ wsX5_cut := List.mem_of_getElem? (i := 4) (by decide +kernel)
theorem dX5_cut_51 : decode cX5_cut 51 = .ok (.iload_n 1, 1) := by decide +kernel
theorem dX5_cut_52 : decode cX5_cut 52 = .ok (.invokestatic 154, 3) := by decide +kernel
set_option maxRecDepth 20000 in
theorem ggX5_cut_X5_bit : GoodIn wsX5_cut wsX5_bit := goodIn_r _ [16] (by decide +kernel) (by decide +kernel)
set_option maxRecDepth 20000 in
theorem gX5_cut_X5_bit : GoodIn wsX5_cut (va_wsS RX5 154 yX5_bit wsX5_bit) := goodIn_app (goodIn_of _ (by decide +kernel)) ggX5_cut_X5_bit
theorem dX5_cut_55 : decode cX5_cut 55 = .ok (.invokevirtual 176, 3) := by decide +kernel
set_option maxRecDepth 20000 in
theorem ggX5_cut_X2_lettersIn : GoodIn wsX5_cut wsX2_lettersIn := goodIn_r _ [21, 22, 23, 24, 25, 26, 20, 27, 28, 60, 61, 62, 63, 64, 65] (by decide +kernel) (by decide +kernel)
set_option maxRecDepth 20000 in
theorem gX5_cut_X2_lettersIn : GoodIn wsX5_cut (wsV RX5 176 RX2 yX2_lettersIn wsX2_lettersIn) := goodIn_app (goodIn_of _ (by decide +kernel)) ggX5_cut_X2_lettersIn
theorem dX5_cut_58 : decode cX5_cut 58 = .ok (.if_icmp .lt 6, 3) := by decide +kernel
theorem dX5_cut_64 : decode cX5_cut 64 = .ok (.aload_n 0, 1) := by decide +kernel
theorem dX5_cut_65 : decode cX5_cut 65 = .ok (.getfield 29, 3) := by decide +kernel
theorem dX5_cut_68 : decode cX5_cut 68 = .ok (.invokevirtual 118, 3) := by decide +kernel
set_option maxRecDepth 20000 in
theorem ggX5_cut_X1_isFull : GoodIn wsX5_cut wsX1_isFull := goodIn_r _ [32, 33, 34, 35, 10, 36, 12, 55, 56, 57, 58, 59] (by decide +kernel) (by decide +kernel)
set_option maxRecDepth 20000 in
theorem gX5_cut_X1_isFull : GoodIn wsX5_cut (wsV RX5 118 RX1 yX1_isFull wsX1_isFull) := goodIn_app (goodIn_of _ (by decide +kernel)) ggX5_cut_X1_isFull
theorem dX5_cut_71 : decode cX5_cut 71 = .ok (.ifCond .eq 6, 3) := by decide +kernel
theorem dX5_cut_77 : decode cX5_cut 77 = .ok (.aload_n 0, 1) := by decide +kernel
theorem dX5_cut_78 : decode cX5_cut 78 = .ok (.getfield 29, 3) := by decide +kernel
theorem dX5_cut_81 : decode cX5_cut 81 = .ok (.aload_n 0, 1) := by decide +kernel
theorem dX5_cut_82 : decode cX5_cut 82 = .ok (.getfield 29, 3) := by decide +kernel
theorem dX5_cut_85 : decode cX5_cut 85 = .ok (.getfield 173, 3) := by decide +kernel
theorem dX5_cut_88 : decode cX5_cut 88 = .ok (.iload_n 1, 1) := by decide +kernel
theorem dX5_cut_89 : decode cX5_cut 89 = .ok (.iaload, 1) := by decide +kernel
theorem dX5_cut_90 : decode cX5_cut 90 = .ok (.aload_n 0, 1) := by decide +kernel
theorem dX5_cut_91 : decode cX5_cut 91 = .ok (.getfield 29, 3) := by decide +kernel
theorem dX5_cut_94 : decode cX5_cut 94 = .ok (.getfield 179, 3) := by decide +kernel
theorem m_X5_cut_5 : (.fieldLink RX5 179 "RedlineDesk$Ledger" "hand" "[I" : Cond) ∈ wsX5_cut := List.mem_of_getElem? (i := 5) (by decide +kernel)
theorem dX5_cut_97 : decode cX5_cut 97 = .ok (.iload_n 1, 1) := by decide +kernel
theorem dX5_cut_98 : decode cX5_cut 98 = .ok (.iaload, 1) := by decide +kernel
theorem dX5_cut_99 : decode cX5_cut 99 = .ok (.aload_n 0, 1) := by decide +kernel
theorem dX5_cut_100 : decode cX5_cut 100 = .ok (.getfield 29, 3) := by decide +kernel
theorem dX5_cut_103 : decode cX5_cut 103 = .ok (.getfield 182, 3) := by decide +kernel
theorem m_X5_cut_6 : (.fieldLink RX5 182 "RedlineDesk$Ledger" "look" "[I" : Cond) ∈ wsX5_cut := List.mem_of_getElem? (i := 6) (by decide +kernel)
theorem dX5_cut_106 : decode cX5_cut 106 = .ok (.iload_n 1, 1) := by decide +kernel
theorem dX5_cut_107 : decode cX5_cut 107 = .ok (.iaload, 1) := by decide +kernel
theorem dX5_cut_108 : decode cX5_cut 108 = .ok (.invokevirtual 122, 3) := by decide +kernel
set_option maxRecDepth 20000 in
theorem ggX5_cut_X1_add : GoodIn wsX5_cut wsX1_add := goodIn_r _ [40, 12, 41, 42, 43, 44, 55, 56, 57, 58, 59] (by decide +kernel) (by decide +kernel)
set_option maxRecDepth 20000 in
theorem gX5_cut_X1_add : GoodIn wsX5_cut (wsV RX5 122 RX1 yX1_add wsX1_add) := goodIn_app (goodIn_of _ (by decide +kernel)) ggX5_cut_X1_add
theorem dX5_cut_111 : decode cX5_cut 111 = .ok (.istore_n 3, 1) := by decide +kernel
theorem dX5_cut_112 : decode cX5_cut 112 = .ok (.aload_n 0, 1) := by decide +kernel
theorem dX5_cut_113 : decode cX5_cut 113 = .ok (.getfield 19, 3) := by decide +kernel
theorem dX5_cut_116 : decode cX5_cut 116 = .ok (.iload_n 1, 1) := by decide +kernel
theorem dX5_cut_117 : decode cX5_cut 117 = .ok (.invokestatic 154, 3) := by decide +kernel
theorem dX5_cut_120 : decode cX5_cut 120 = .ok (.iload_n 3, 1) := by decide +kernel
theorem dX5_cut_121 : decode cX5_cut 121 = .ok (.invokestatic 154, 3) := by decide +kernel
theorem dX5_cut_124 : decode cX5_cut 124 = .ok (.iload_n 2, 1) := by decide +kernel
theorem dX5_cut_125 : decode cX5_cut 125 = .ok (.invokevirtual 185, 3) := by decide +kernel
set_option maxRecDepth 20000 in
theorem ggX5_cut_X2_handOver : GoodIn wsX5_cut wsX2_handOver := goodIn_r _ [48, 22, 23, 24, 25, 26, 20, 27, 28, 60, 61, 62, 63, 64, 65] (by decide +kernel) (by decide +kernel)
set_option maxRecDepth 20000 in
theorem gX5_cut_X2_handOver : GoodIn wsX5_cut (wsV RX5 185 RX2 yX2_handOver wsX2_handOver) := goodIn_app (goodIn_of _ (by decide +kernel)) ggX5_cut_X2_handOver
theorem dX5_cut_128 : decode cX5_cut 128 = .ok (.iload_n 3, 1) := by decide +kernel
theorem dX5_cut_129 : decode cX5_cut 129 = .ok (.ireturn, 1) := by decide +kernel
theorem dX5_cut_74 : decode cX5_cut 74 = .ok (.bipush (-3), 2) := by decide +kernel
theorem dX5_cut_76 : decode cX5_cut 76 = .ok (.ireturn, 1) := by decide +kernel
theorem dX5_cut_26 : decode cX5_cut 26 = .ok (.bipush (-13), 2) := by decide +kernel
theorem dX5_cut_28 : decode cX5_cut 28 = .ok (.ireturn, 1) := by decide +kernel
theorem dX5_cut_11 : decode cX5_cut 11 = .ok (.iconst (-1), 1) := by decide +kernel
theorem dX5_cut_12 : decode cX5_cut 12 = .ok (.ireturn, 1) := by decide +kernel
def f_X5_cut_k128_u_24 (zg_kind : Nat → Int32) (zg_hand : Nat → Int32) (zg_state : Nat → Int32) (zg_look : Nat → Int32) (zg_size : Int32) (a_c : Int32) (u_19 : (Nat → Int32) × (Nat → Int32) × (Nat → Int32) × (Nat → Int32) × Int32) (u_24 : (Nat → Int32)) : Int32 × (Nat → Int32) × (Nat → Int32) × (Nat → Int32) × (Nat → Int32) × Int32 × (Nat → Int32) := ((f_X1_add zg_kind zg_hand zg_state zg_look zg_size (zg_kind (a_c).toNatClampNeg) (zg_hand (a_c).toNatClampNeg) (zg_look (a_c).toNatClampNeg)).1, u_19.1, u_19.2.1, u_19.2.2.1, u_19.2.2.2.1, u_19.2.2.2.2, u_24)
def f_X5_cut_k111_u_19 (zg_kind : Nat → Int32) (zg_hand : Nat → Int32) (zg_state : Nat → Int32) (zg_look : Nat → Int32) (zg_size : Int32) (zr_token : Nat → Int32) (zr_in : Nat → Int32) (zr_size : Int32) (a_c : Int32) (a_k : Int32) (u_19 : (Nat → Int32) × (Nat → Int32) × (Nat → Int32) × (Nat → Int32) × Int32) : Int32 × (Nat → Int32) × (Nat → Int32) × (Nat → Int32) × (Nat → Int32) × Int32 × (Nat → Int32) := f_X5_cut_k128_u_24 zg_kind zg_hand zg_state zg_look zg_size a_c u_19 (f_X2_handOver zr_token zr_in zr_size (f_X5_bit a_c) (f_X5_bit ((f_X1_add zg_kind zg_hand zg_state zg_look zg_size (zg_kind (a_c).toNatClampNeg) (zg_hand (a_c).toNatClampNeg) (zg_look (a_c).toNatClampNeg)).1)) a_k)
def f_X5_cut (zg_kind : Nat → Int32) (zg_hand : Nat → Int32) (zg_state : Nat → Int32) (zg_look : Nat → Int32) (zg_size : Int32) (zr_token : Nat → Int32) (zr_in : Nat → Int32) (zr_size : Int32) (a_c : Int32) (a_k : Int32) : Int32 × (Nat → Int32) × (Nat → Int32) × (Nat → Int32) × (Nat → Int32) × Int32 × (Nat → Int32) := if (f_X1_names zg_size a_c) = (0 : Int32) then ((-1 : Int32), zg_kind, zg_hand, zg_state, zg_look, zg_size, zr_in) else if (zg_kind (a_c).toNatClampNeg) = (2 : Int32) then ((-13 : Int32), zg_kind, zg_hand, zg_state, zg_look, zg_size, zr_in) else if (zg_state (a_c).toNatClampNeg) = (0 : Int32) then if a_k < (1 : Int32) then ((-2 : Int32), zg_kind, zg_hand, zg_state, zg_look, zg_size, zr_in) else if a_k < (f_X2_lettersIn zr_token zr_in zr_size (f_X5_bit a_c)) then if (f_X1_isFull zg_size) = (0 : Int32) then f_X5_cut_k111_u_19 zg_kind zg_hand zg_state zg_look zg_size zr_token zr_in zr_size a_c a_k ((f_X1_add zg_kind zg_hand zg_state zg_look zg_size (zg_kind (a_c).toNatClampNeg) (zg_hand (a_c).toNatClampNeg) (zg_look (a_c).toNatClampNeg)).2) else ((-3 : Int32), zg_kind, zg_hand, zg_state, zg_look, zg_size, zr_in) else ((-2 : Int32), zg_kind, zg_hand, zg_state, zg_look, zg_size, zr_in) else ((-2 : Int32), zg_kind, zg_hand, zg_state, zg_look, zg_size, zr_in)
set_option maxHeartbeats 4000000 in
set_option maxRecDepth 100000 in
theorem c_X5_cut (l : Launch) (dC : Nat → ClassId) (dI : Nat → Nat → Nat) (cI cJ : ClassId) (sz : Nat) (zd zg azg_kind azg_hand azg_state azg_look zr azr_sign azr_token azr_in azr_own azr_since zt zw zv zk : Nat) (zg_kind zg_hand zg_state zg_look zr_sign zr_token zr_in zr_own zr_since : Nat → Int32) (zg_size zr_size : Int32) (a_c : Int32) (a_k : Int32) : Met l yX5_cut wsX5_cut ({ frames := 2, cells := 0, slots := 0, locals := 46 } : Room) (va_Pc [.ref zd, .int a_c, .int a_k] (PreW dC dI cI cJ sz [(zd, .inr (5, [.ref zt, .ref zr, .ref zw, .ref zg, .ref zv, .ref zk])), (zg, .inr (1, [.ref azg_kind, .ref azg_hand, .ref azg_state, .ref azg_look, .int zg_size])), (azg_kind, .inl (cI, 25, .inl zg_kind)), (azg_hand, .inl (cI, 25, .inl zg_hand)), (azg_state, .inl (cI, 25, .inl zg_state)), (azg_look, .inl (cI, 25, .inl zg_look)), (zr, .inr (2, [.ref azr_sign, .ref azr_token, .ref azr_in, .ref azr_own, .ref azr_since, .int zr_size])), (azr_sign, .inl (cI, 240, .inl zr_sign)), (azr_token, .inl (cI, 240, .inl zr_token)), (azr_in, .inl (cI, 240, .inl zr_in)), (azr_own, .inl (cI, 240, .inl zr_own)), (azr_since, .inl (cI, 240, .inl zr_since))])) (va_Qi (fun (r : Int32) (u : (Nat → Int32) × (Nat → Int32) × (Nat → Int32) × (Nat → Int32) × Int32 × (Nat → Int32)) => r = (f_X5_cut zg_kind zg_hand zg_state zg_look zg_size zr_token zr_in zr_size a_c a_k).1 ∧ u = (f_X5_cut zg_kind zg_hand zg_state zg_look zg_size zr_token zr_in zr_size a_c a_k).2) (fun (u : (Nat → Int32) × (Nat → Int32) × (Nat → Int32) × (Nat → Int32) × Int32 × (Nat → Int32)) t => PostW dC dI [(zd, .inr (5, [.ref zt, .ref zr, .ref zw, .ref zg, .ref zv, .ref zk])), (zg, .inr (1, [.ref azg_kind, .ref azg_hand, .ref azg_state, .ref azg_look, .int u.2.2.2.2.1])), (azg_kind, .inl (cI, 25, .inl u.1)), (azg_hand, .inl (cI, 25, .inl u.2.1)), (azg_state, .inl (cI, 25, .inl u.2.2.1)), (azg_look, .inl (cI, 25, .inl u.2.2.2.1)), (zr, .inr (2, [.ref azr_sign, .ref azr_token, .ref azr_in, .ref azr_own, .ref azr_since, .int zr_size])), (azr_sign, .inl (cI, 240, .inl zr_sign)), (azr_token, .inl (cI, 240, .inl zr_token)), (azr_in, .inl (cI, 240, .inl u.2.2.2.2.2)), (azr_own, .inl (cI, 240, .inl zr_own)), (azr_since, .inl (cI, 240, .inl zr_since))] t (va_A [(zd, .inr (5, [.ref zt, .ref zr, .ref zw, .ref zg, .ref zv, .ref zk])), (zg, .inr (1, [.ref azg_kind, .ref azg_hand, .ref azg_state, .ref azg_look, .int zg_size])), (azg_kind, .inl (cI, 25, .inl zg_kind)), (azg_hand, .inl (cI, 25, .inl zg_hand)), (azg_state, .inl (cI, 25, .inl zg_state)), (azg_look, .inl (cI, 25, .inl zg_look)), (zr, .inr (2, [.ref azr_sign, .ref azr_token, .ref azr_in, .ref azr_own, .ref azr_since, .int zr_size])), (azr_sign, .inl (cI, 240, .inl zr_sign)), (azr_token, .inl (cI, 240, .inl zr_token)), (azr_in, .inl (cI, 240, .inl zr_in)), (azr_own, .inl (cI, 240, .inl zr_own)), (azr_since, .inl (cI, 240, .inl zr_since))] sz)) (va_A [(zd, .inr (5, [.ref zt, .ref zr, .ref zw, .ref zg, .ref zv, .ref zk])), (zg, .inr (1, [.ref azg_kind, .ref azg_hand, .ref azg_state, .ref azg_look, .int zg_size])), (azg_kind, .inl (cI, 25, .inl zg_kind)), (azg_hand, .inl (cI, 25, .inl zg_hand)), (azg_state, .inl (cI, 25, .inl zg_state)), (azg_look, .inl (cI, 25, .inl zg_look)), (zr, .inr (2, [.ref azr_sign, .ref azr_token, .ref azr_in, .ref azr_own, .ref azr_since, .int zr_size])), (azr_sign, .inl (cI, 240, .inl zr_sign)), (azr_token, .inl (cI, 240, .inl zr_token)), (azr_in, .inl (cI, 240, .inl zr_in)), (azr_own, .inl (cI, 240, .inl zr_own)), (azr_since, .inl (cI, 240, .inl zr_since))] sz)) 0 0 (va_A [(zd, .inr (5, [.ref zt, .ref zr, .ref zw, .ref zg, .ref zv, .ref zk])), (zg, .inr (1, [.ref azg_kind, .ref azg_hand, .ref azg_state, .ref azg_look, .int zg_size])), (azg_kind, .inl (cI, 25, .inl zg_kind)), (azg_hand, .inl (cI, 25, .inl zg_hand)), (azg_state, .inl (cI, 25, .inl zg_state)), (azg_look, .inl (cI, 25, .inl zg_look)), (zr, .inr (2, [.ref azr_sign, .ref azr_token, .ref azr_in, .ref azr_own, .ref azr_since, .int zr_size])), (azr_sign, .inl (cI, 240, .inl zr_sign)), (azr_token, .inl (cI, 240, .inl zr_token)), (azr_in, .inl (cI, 240, .inl zr_in)), (azr_own, .inl (cI, 240, .inl zr_own)), (azr_since, .inl (cI, 240, .inl zr_since))] sz) := by
  refine Met.ofW (cc := cX5_cut) (maxL := 4) (ret := (some .int)) (by decide) rfl ?_
  intro p e s m args below meth c s₁ B hml hv
  obtain ⟨rfl, hsz, hP, hK, hN, hD0⟩ := hv
  have hx := B.exec
  have hb := B.bytes
  have hr := B.returns
  have hts := atoms_spec (ws := wsX5_cut) B.pre
  have hown : s.vm.findClass RX5 = some m.cls := findClass_of_methodNamed B.named
  have hlocks := B.notSynchronized
  subst hsz
  have hD := hD0.self (sz := s.heap.size)
  generalize hAe : va_A [(zd, .inr (5, [.ref zt, .ref zr, .ref zw, .ref zg, .ref zv, .ref zk])), (zg, .inr (1, [.ref azg_kind, .ref azg_hand, .ref azg_state, .ref azg_look, .int zg_size])), (azg_kind, .inl (cI, 25, .inl zg_kind)), (azg_hand, .inl (cI, 25, .inl zg_hand)), (azg_state, .inl (cI, 25, .inl zg_state)), (azg_look, .inl (cI, 25, .inl zg_look)), (zr, .inr (2, [.ref azr_sign, .ref azr_token, .ref azr_in, .ref azr_own, .ref azr_since, .int zr_size])), (azr_sign, .inl (cI, 240, .inl zr_sign)), (azr_token, .inl (cI, 240, .inl zr_token)), (azr_in, .inl (cI, 240, .inl zr_in)), (azr_own, .inl (cI, 240, .inl zr_own)), (azr_since, .inl (cI, 240, .inl zr_since))] s.heap.size = A at hD ⊢
  have hA : ∀ q : Nat, s.heap.size ≤ q → A q := fun q h => by rw [← hAe]; exact Or.inr h
  have hS : va_S A s.heap s.heap [] := va_S.rf
  have hP : va_P (dC, dI) vwCl [(zd, .inr (5, [.ref zt, .ref zr, .ref zw, .ref zg, .ref zv, .ref zk])), (zg, .inr (1, [.ref azg_kind, .ref azg_hand, .ref azg_state, .ref azg_look, .int zg_size])), (azg_kind, .inl (cI, 25, .inl zg_kind)), (azg_hand, .inl (cI, 25, .inl zg_hand)), (azg_state, .inl (cI, 25, .inl zg_state)), (azg_look, .inl (cI, 25, .inl zg_look)), (zr, .inr (2, [.ref azr_sign, .ref azr_token, .ref azr_in, .ref azr_own, .ref azr_since, .int zr_size])), (azr_sign, .inl (cI, 240, .inl zr_sign)), (azr_token, .inl (cI, 240, .inl zr_token)), (azr_in, .inl (cI, 240, .inl zr_in)), (azr_own, .inl (cI, 240, .inl zr_own)), (azr_since, .inl (cI, 240, .inl zr_since))] s.heap := hP
  have hl := lv_entry ([.ref zd, .int a_c, .int a_k]) (n := 4) (Nat.le_of_ble_eq_true rfl)
  rw [lg_entry_eq]
  generalize (lg_sl ([.ref zd, .int a_c, .int a_k]) ++ List.replicate (4 - (lg_sl ([.ref zd, .int a_c, .int a_k])).length) Slot.unset).toArray = ls at hl ⊢
  have hl : lv_has ls 4 [(0, .ref zd), (1, .int a_c), (2, .int a_k)] := hl
  refine lv_aload_n hx hb dX5_cut_0 rfl (lv_at hl 0 rfl) ?_
  refine va_get (D := (dC, dI)) (ci := 5) (v := .ref zg) (C := RX5) (T := TX5) (N := 6) hx hb hts in_X5_cut_X5 hown hK hP 0 rfl rfl 3 (by decide) (hts _ m_X5_cut_1) (fun _ h9 => h9) rfl dX5_cut_1 ?_
  refine lv_iload_n hx hb dX5_cut_4 rfl (lv_at hl 1 rfl) ?_
  have hPc := hP.sub (ws' := [(zg, .inr (1, [.ref azg_kind, .ref azg_hand, .ref azg_state, .ref azg_look, .int zg_size])), (azg_kind, .inl (cI, 25, .inl zg_kind)), (azg_hand, .inl (cI, 25, .inl zg_hand)), (azg_state, .inl (cI, 25, .inl zg_state)), (azg_look, .inl (cI, 25, .inl zg_look))]) [1, 2, 3, 4, 5] rfl
  have hDc := hD.sub (ws' := [(zg, .inr (1, [.ref azg_kind, .ref azg_hand, .ref azg_state, .ref azg_look, .int zg_size])), (azg_kind, .inl (cI, 25, .inl zg_kind)), (azg_hand, .inl (cI, 25, .inl zg_hand)), (azg_state, .inl (cI, 25, .inl zg_state)), (azg_look, .inl (cI, 25, .inl zg_look))]) [1, 2, 3, 4, 5] (by decide) rfl
  refine va_calli (va_runV (As := [.int a_c]) (rest := []) ⟨hx, hb, hml, hown, hts⟩ (c_X1_names l dC dI cI cJ s.heap.size zg azg_kind azg_hand azg_state azg_look zg_kind zg_hand zg_state zg_look zg_size a_c) (cwV 1 hts gX5_cut_X1_names rfl rfl rfl (by decide +kernel) ⟨Nat.le_of_ble_eq_true rfl, Nat.le_of_ble_eq_true rfl⟩) ⟨fun a U g mk q => ⟨q.1, PreW.call g mk a q.2⟩, va_recv hK hP (ci := 1) (q0 := 1) rfl rfl, fun U hU hW => ⟨rfl, PreW.mk2 hU hW hPc hK hN (hDc.weaken (fun _ _ _ _ => trivial))⟩⟩ rfl rfl hl.1 rfl (lv_room (Nat.le_of_ble_eq_true rfl)) dX5_cut_5 ⟨Nat.le_of_ble_eq_true rfl, Nat.le_of_ble_eq_true rfl⟩) hS (fun q hq h => absurd hq (Nat.not_lt.mpr h)) (fun q h => hA q (Nat.le_trans hS.1 h)) (fun r_1 _u t H1 locs ht hvm hw hB hz1 hk1 hS => ?_)
  have hP := va_ro hP hk1
  generalize H1 = H at hP hS ⊢
  have hw : r_1 = f_X1_names zg_size a_c := hw
  subst hw
  obtain ⟨z_2, hz_2⟩ : ∃ z : Int32, z = f_X1_names zg_size a_c := ⟨_, rfl⟩
  refine lv_if_ne (tgt := 13) hx hb dX5_cut_8 (by decide) (fun c_3 => ?_) (fun c_3 => ?_)
  · have tc_3 : ¬ z_2.toInt = (0 : Int) := by rw [hz_2]; exact q_ne c_3
    obtain ⟨b_4, b_5, b_6⟩ := names_in c_3
    refine lv_aload_n hx hb dX5_cut_13 rfl (lv_at hl 0 rfl) ?_
    refine va_get (D := (dC, dI)) (ci := 5) (v := .ref zg) (C := RX5) (T := TX5) (N := 6) hx hb hts in_X5_cut_X5 hown hK hP 0 rfl rfl 3 (by decide) (hts _ m_X5_cut_1) (fun _ h9 => h9) rfl dX5_cut_14 ?_
    refine va_get (D := (dC, dI)) (ci := 1) (v := .ref azg_kind) (C := RX1) (T := TX1) (N := 5) hx hb hts in_X5_cut_X1 hown hK hP 1 rfl rfl 0 (by decide) (hts _ m_X5_cut_2) (fun _ h9 => h9) rfl dX5_cut_17 ?_
    refine lv_iload_n hx hb dX5_cut_20 rfl (lv_at hl 1 rfl) ?_
    refine va_iald (q0 := 2) (t0 := 0) (n := 25) (f := zg_kind) hx hb hK hP rfl rfl (vp_in_iff.mpr ⟨by omega, by omega⟩) dX5_cut_21 ?_
    refine lv_iconst (v := (2 : Int32)) hx hb dX5_cut_22 (by decide) ?_
    refine lv_icmp_ne (tgt := 29) hx hb dX5_cut_23 (by decide) (fun c_7 => ?_) (fun c_7 => ?_)
    · refine lv_aload_n hx hb dX5_cut_29 rfl (lv_at hl 0 rfl) ?_
      refine va_get (D := (dC, dI)) (ci := 5) (v := .ref zg) (C := RX5) (T := TX5) (N := 6) hx hb hts in_X5_cut_X5 hown hK hP 0 rfl rfl 3 (by decide) (hts _ m_X5_cut_1) (fun _ h9 => h9) rfl dX5_cut_30 ?_
      refine va_get (D := (dC, dI)) (ci := 1) (v := .ref azg_state) (C := RX1) (T := TX1) (N := 5) hx hb hts in_X5_cut_X1 hown hK hP 1 rfl rfl 2 (by decide) (hts _ m_X5_cut_3) (fun _ h9 => h9) rfl dX5_cut_33 ?_
      refine lv_iload_n hx hb dX5_cut_36 rfl (lv_at hl 1 rfl) ?_
      refine va_iald (q0 := 4) (t0 := 0) (n := 25) (f := zg_state) hx hb hK hP rfl rfl (vp_in_iff.mpr ⟨by omega, by omega⟩) dX5_cut_37 ?_
      refine lv_if_ne (tgt := 61) hx hb dX5_cut_38 (by decide) (fun c_8 => ?_) (fun c_8 => ?_)
      · refine lv_bipush (v := (-2 : Int32)) hx hb dX5_cut_61 (by decide) ?_
        have hE : f_X5_cut zg_kind zg_hand zg_state zg_look zg_size zr_token zr_in zr_size a_c a_k = ((-2 : Int32), zg_kind, zg_hand, zg_state, zg_look, zg_size, zr_in) := (by rw [f_X5_cut, if_neg c_3, if_neg c_7, if_neg c_8])
        exact W.iret (v := (-2 : Int32)) hx hb hr (fun t ht hW => ⟨⟨(-2 : Int32), (zg_kind, zg_hand, zg_state, zg_look, zg_size, zr_in), rfl, ⟨by rw [hE], by rw [hE]⟩, ⟨by rw [ht]; exact hP, hD⟩⟩, hS.F ht⟩) hS.2.2 dX5_cut_63
      · refine lv_iload_n hx hb dX5_cut_41 rfl (lv_at hl 2 rfl) ?_
        refine lv_iconst (v := (1 : Int32)) hx hb dX5_cut_42 (by decide) ?_
        refine lv_icmp_lt (tgt := 61) hx hb dX5_cut_43 (by decide) (fun c_9 => ?_) (fun c_9 => ?_)
        · have tc_9 : a_k.toInt < (1 : Int) := q_lt c_9
          refine lv_bipush (v := (-2 : Int32)) hx hb dX5_cut_61 (by decide) ?_
          have hE : f_X5_cut zg_kind zg_hand zg_state zg_look zg_size zr_token zr_in zr_size a_c a_k = ((-2 : Int32), zg_kind, zg_hand, zg_state, zg_look, zg_size, zr_in) := (by rw [f_X5_cut, if_neg c_3, if_neg c_7, if_pos c_8, if_pos c_9])
          exact W.iret (v := (-2 : Int32)) hx hb hr (fun t ht hW => ⟨⟨(-2 : Int32), (zg_kind, zg_hand, zg_state, zg_look, zg_size, zr_in), rfl, ⟨by rw [hE], by rw [hE]⟩, ⟨by rw [ht]; exact hP, hD⟩⟩, hS.F ht⟩) hS.2.2 dX5_cut_63
        · have tc_9 : (1 : Int) ≤ a_k.toInt := q_nlt c_9
          refine lv_iload_n hx hb dX5_cut_46 rfl (lv_at hl 2 rfl) ?_
          refine lv_aload_n hx hb dX5_cut_47 rfl (lv_at hl 0 rfl) ?_
          refine va_get (D := (dC, dI)) (ci := 5) (v := .ref zr) (C := RX5) (T := TX5) (N := 6) hx hb hts in_X5_cut_X5 hown hK hP 0 rfl rfl 1 (by decide) (hts _ m_X5_cut_4) (fun _ h9 => h9) rfl dX5_cut_48 ?_
          refine lv_iload_n hx hb dX5_cut_51 rfl (lv_at hl 1 rfl) ?_
          have hPc := hP.sub (ws' := []) [] rfl
          have hDc := hD.sub (ws' := []) [] (by decide) rfl
          refine va_calli (va_runS (As := [.int a_c]) (rest := [.ref zr, .int a_k]) ⟨hx, hb, hml, hown, hts⟩ (c_X5_bit l dC dI cI cJ H.size a_c) (va_cwS 1 hts gX5_cut_X5_bit rfl rfl rfl (by decide +kernel) ⟨Nat.le_of_ble_eq_true rfl, Nat.le_of_ble_eq_true rfl⟩) ⟨fun a U g mk q => ⟨q.1, PreW.call g mk a q.2⟩, fun U hU hW => ⟨rfl, PreW.mk2 hU hW hPc hK hN (hDc.weaken (fun _ _ _ _ => trivial))⟩⟩ rfl rfl hl.1 rfl (lv_room (Nat.le_of_ble_eq_true rfl)) dX5_cut_52 ⟨Nat.le_of_ble_eq_true rfl, Nat.le_of_ble_eq_true rfl⟩) hS (fun q hq h => absurd hq (Nat.not_lt.mpr h)) (fun q h => hA q (Nat.le_trans hS.1 h)) (fun r_10 _u t H1 locs ht hvm hw hB hz1 hk1 hS => ?_)
          have hP := va_ro hP hk1
          generalize H1 = H at hP hS ⊢
          have hw : r_10 = f_X5_bit a_c := hw
          subst hw
          obtain ⟨z_11, hz_11⟩ : ∃ z : Int32, z = f_X5_bit a_c := ⟨_, rfl⟩
          have hPc := hP.sub (ws' := [(zr, .inr (2, [.ref azr_sign, .ref azr_token, .ref azr_in, .ref azr_own, .ref azr_since, .int zr_size])), (azr_sign, .inl (cI, 240, .inl zr_sign)), (azr_token, .inl (cI, 240, .inl zr_token)), (azr_in, .inl (cI, 240, .inl zr_in)), (azr_own, .inl (cI, 240, .inl zr_own)), (azr_since, .inl (cI, 240, .inl zr_since))]) [6, 7, 8, 9, 10, 11] rfl
          have hDc := hD.sub (ws' := [(zr, .inr (2, [.ref azr_sign, .ref azr_token, .ref azr_in, .ref azr_own, .ref azr_since, .int zr_size])), (azr_sign, .inl (cI, 240, .inl zr_sign)), (azr_token, .inl (cI, 240, .inl zr_token)), (azr_in, .inl (cI, 240, .inl zr_in)), (azr_own, .inl (cI, 240, .inl zr_own)), (azr_since, .inl (cI, 240, .inl zr_since))]) [6, 7, 8, 9, 10, 11] (by decide) rfl
          refine va_calli (va_runV (As := [.int (f_X5_bit a_c)]) (rest := [.int a_k]) ⟨hx, hb, hml, hown, hts⟩ (c_X2_lettersIn l dC dI cI cJ H.size zr azr_sign azr_token azr_in azr_own azr_since zr_sign zr_token zr_in zr_own zr_since zr_size (f_X5_bit a_c)) (cwV 1 hts gX5_cut_X2_lettersIn rfl rfl rfl (by decide +kernel) ⟨Nat.le_of_ble_eq_true rfl, Nat.le_of_ble_eq_true rfl⟩) ⟨fun a U g mk q => ⟨q.1, PreW.call g mk a q.2⟩, va_recv hK hP (ci := 2) (q0 := 6) rfl rfl, fun U hU hW => ⟨rfl, PreW.mk2 hU hW hPc hK hN (hDc.weaken (fun _ _ _ _ => trivial))⟩⟩ rfl rfl hl.1 rfl (lv_room (Nat.le_of_ble_eq_true rfl)) dX5_cut_55 ⟨Nat.le_of_ble_eq_true rfl, Nat.le_of_ble_eq_true rfl⟩) hS (fun q hq h => absurd hq (Nat.not_lt.mpr h)) (fun q h => hA q (Nat.le_trans hS.1 h)) (fun r_12 _u t H1 locs ht hvm hw hB hz1 hk1 hS => ?_)
          have hP := va_ro hP hk1
          generalize H1 = H at hP hS ⊢
          have hw : r_12 = f_X2_lettersIn zr_token zr_in zr_size (f_X5_bit a_c) := hw
          subst hw
          obtain ⟨z_13, hz_13⟩ : ∃ z : Int32, z = f_X2_lettersIn zr_token zr_in zr_size (f_X5_bit a_c) := ⟨_, rfl⟩
          refine lv_icmp_lt (tgt := 64) hx hb dX5_cut_58 (by decide) (fun c_14 => ?_) (fun c_14 => ?_)
          · have tc_14 : a_k.toInt < z_13.toInt := by rw [hz_13]; exact q_lt c_14
            refine lv_aload_n hx hb dX5_cut_64 rfl (lv_at hl 0 rfl) ?_
            refine va_get (D := (dC, dI)) (ci := 5) (v := .ref zg) (C := RX5) (T := TX5) (N := 6) hx hb hts in_X5_cut_X5 hown hK hP 0 rfl rfl 3 (by decide) (hts _ m_X5_cut_1) (fun _ h9 => h9) rfl dX5_cut_65 ?_
            have hPc := hP.sub (ws' := [(zg, .inr (1, [.ref azg_kind, .ref azg_hand, .ref azg_state, .ref azg_look, .int zg_size])), (azg_kind, .inl (cI, 25, .inl zg_kind)), (azg_hand, .inl (cI, 25, .inl zg_hand)), (azg_state, .inl (cI, 25, .inl zg_state)), (azg_look, .inl (cI, 25, .inl zg_look))]) [1, 2, 3, 4, 5] rfl
            have hDc := hD.sub (ws' := [(zg, .inr (1, [.ref azg_kind, .ref azg_hand, .ref azg_state, .ref azg_look, .int zg_size])), (azg_kind, .inl (cI, 25, .inl zg_kind)), (azg_hand, .inl (cI, 25, .inl zg_hand)), (azg_state, .inl (cI, 25, .inl zg_state)), (azg_look, .inl (cI, 25, .inl zg_look))]) [1, 2, 3, 4, 5] (by decide) rfl
            refine va_calli (va_runV (As := []) (rest := []) ⟨hx, hb, hml, hown, hts⟩ (c_X1_isFull l dC dI cI cJ H.size zg azg_kind azg_hand azg_state azg_look zg_kind zg_hand zg_state zg_look zg_size) (cwV 0 hts gX5_cut_X1_isFull rfl rfl rfl (by decide +kernel) ⟨Nat.le_of_ble_eq_true rfl, Nat.le_of_ble_eq_true rfl⟩) ⟨fun a U g mk q => ⟨q.1, PreW.call g mk a q.2⟩, va_recv hK hP (ci := 1) (q0 := 1) rfl rfl, fun U hU hW => ⟨rfl, PreW.mk2 hU hW hPc hK hN (hDc.weaken (fun _ _ _ _ => trivial))⟩⟩ rfl rfl hl.1 rfl (lv_room (Nat.le_of_ble_eq_true rfl)) dX5_cut_68 ⟨Nat.le_of_ble_eq_true rfl, Nat.le_of_ble_eq_true rfl⟩) hS (fun q hq h => absurd hq (Nat.not_lt.mpr h)) (fun q h => hA q (Nat.le_trans hS.1 h)) (fun r_15 _u t H1 locs ht hvm hw hB hz1 hk1 hS => ?_)
            have hP := va_ro hP hk1
            generalize H1 = H at hP hS ⊢
            have hw : r_15 = f_X1_isFull zg_size := hw
            subst hw
            obtain ⟨z_16, hz_16⟩ : ∃ z : Int32, z = f_X1_isFull zg_size := ⟨_, rfl⟩
            refine lv_if_eq (tgt := 77) hx hb dX5_cut_71 (by decide) (fun c_17 => ?_) (fun c_17 => ?_)
            · have tc_17 : z_16.toInt = (0 : Int) := by rw [hz_16]; exact q_eq c_17
              refine lv_aload_n hx hb dX5_cut_77 rfl (lv_at hl 0 rfl) ?_
              refine va_get (D := (dC, dI)) (ci := 5) (v := .ref zg) (C := RX5) (T := TX5) (N := 6) hx hb hts in_X5_cut_X5 hown hK hP 0 rfl rfl 3 (by decide) (hts _ m_X5_cut_1) (fun _ h9 => h9) rfl dX5_cut_78 ?_
              refine lv_aload_n hx hb dX5_cut_81 rfl (lv_at hl 0 rfl) ?_
              refine va_get (D := (dC, dI)) (ci := 5) (v := .ref zg) (C := RX5) (T := TX5) (N := 6) hx hb hts in_X5_cut_X5 hown hK hP 0 rfl rfl 3 (by decide) (hts _ m_X5_cut_1) (fun _ h9 => h9) rfl dX5_cut_82 ?_
              refine va_get (D := (dC, dI)) (ci := 1) (v := .ref azg_kind) (C := RX1) (T := TX1) (N := 5) hx hb hts in_X5_cut_X1 hown hK hP 1 rfl rfl 0 (by decide) (hts _ m_X5_cut_2) (fun _ h9 => h9) rfl dX5_cut_85 ?_
              refine lv_iload_n hx hb dX5_cut_88 rfl (lv_at hl 1 rfl) ?_
              refine va_iald (q0 := 2) (t0 := 0) (n := 25) (f := zg_kind) hx hb hK hP rfl rfl (vp_in_iff.mpr ⟨by omega, by omega⟩) dX5_cut_89 ?_
              refine lv_aload_n hx hb dX5_cut_90 rfl (lv_at hl 0 rfl) ?_
              refine va_get (D := (dC, dI)) (ci := 5) (v := .ref zg) (C := RX5) (T := TX5) (N := 6) hx hb hts in_X5_cut_X5 hown hK hP 0 rfl rfl 3 (by decide) (hts _ m_X5_cut_1) (fun _ h9 => h9) rfl dX5_cut_91 ?_
              refine va_get (D := (dC, dI)) (ci := 1) (v := .ref azg_hand) (C := RX1) (T := TX1) (N := 5) hx hb hts in_X5_cut_X1 hown hK hP 1 rfl rfl 1 (by decide) (hts _ m_X5_cut_5) (fun _ h9 => h9) rfl dX5_cut_94 ?_
              refine lv_iload_n hx hb dX5_cut_97 rfl (lv_at hl 1 rfl) ?_
              refine va_iald (q0 := 3) (t0 := 0) (n := 25) (f := zg_hand) hx hb hK hP rfl rfl (vp_in_iff.mpr ⟨by omega, by omega⟩) dX5_cut_98 ?_
              refine lv_aload_n hx hb dX5_cut_99 rfl (lv_at hl 0 rfl) ?_
              refine va_get (D := (dC, dI)) (ci := 5) (v := .ref zg) (C := RX5) (T := TX5) (N := 6) hx hb hts in_X5_cut_X5 hown hK hP 0 rfl rfl 3 (by decide) (hts _ m_X5_cut_1) (fun _ h9 => h9) rfl dX5_cut_100 ?_
              refine va_get (D := (dC, dI)) (ci := 1) (v := .ref azg_look) (C := RX1) (T := TX1) (N := 5) hx hb hts in_X5_cut_X1 hown hK hP 1 rfl rfl 3 (by decide) (hts _ m_X5_cut_6) (fun _ h9 => h9) rfl dX5_cut_103 ?_
              refine lv_iload_n hx hb dX5_cut_106 rfl (lv_at hl 1 rfl) ?_
              refine va_iald (q0 := 5) (t0 := 0) (n := 25) (f := zg_look) hx hb hK hP rfl rfl (vp_in_iff.mpr ⟨by omega, by omega⟩) dX5_cut_107 ?_
              have hPc := hP.sub (ws' := [(zg, .inr (1, [.ref azg_kind, .ref azg_hand, .ref azg_state, .ref azg_look, .int zg_size])), (azg_kind, .inl (cI, 25, .inl zg_kind)), (azg_hand, .inl (cI, 25, .inl zg_hand)), (azg_state, .inl (cI, 25, .inl zg_state)), (azg_look, .inl (cI, 25, .inl zg_look))]) [1, 2, 3, 4, 5] rfl
              have hDc := hD.sub (ws' := [(zg, .inr (1, [.ref azg_kind, .ref azg_hand, .ref azg_state, .ref azg_look, .int zg_size])), (azg_kind, .inl (cI, 25, .inl zg_kind)), (azg_hand, .inl (cI, 25, .inl zg_hand)), (azg_state, .inl (cI, 25, .inl zg_state)), (azg_look, .inl (cI, 25, .inl zg_look))]) [1, 2, 3, 4, 5] (by decide) rfl
              have hFc := va_free (wc := [(zg, .inr (1, [.ref azg_kind, .ref azg_hand, .ref azg_state, .ref azg_look, .int zg_size])), (azg_kind, .inl (cI, 25, .inl zg_kind)), (azg_hand, .inl (cI, 25, .inl zg_hand)), (azg_state, .inl (cI, 25, .inl zg_state)), (azg_look, .inl (cI, 25, .inl zg_look))]) hD hS hA [1, 2, 3, 4, 5] rfl
              refine va_calli (va_runV (As := [.int (zg_kind (a_c).toNatClampNeg), .int (zg_hand (a_c).toNatClampNeg), .int (zg_look (a_c).toNatClampNeg)]) (rest := []) ⟨hx, hb, hml, hown, hts⟩ (c_X1_add l dC dI cI cJ H.size zg azg_kind azg_hand azg_state azg_look zg_kind zg_hand zg_state zg_look zg_size (zg_kind (a_c).toNatClampNeg) (zg_hand (a_c).toNatClampNeg) (zg_look (a_c).toNatClampNeg)) (cwV 3 hts gX5_cut_X1_add rfl rfl rfl (by decide +kernel) ⟨Nat.le_of_ble_eq_true rfl, Nat.le_of_ble_eq_true rfl⟩) ⟨fun a U g mk q => ⟨q.1, PreW.call g mk a q.2⟩, va_recv hK hP (ci := 1) (q0 := 1) rfl rfl, fun U hU hW => ⟨rfl, PreW.mk2 hU hW hPc hK hN (hDc.weaken (fun _ _ _ _ => trivial))⟩⟩ rfl rfl hl.1 rfl (lv_room (Nat.le_of_ble_eq_true rfl)) dX5_cut_108 ⟨Nat.le_of_ble_eq_true rfl, Nat.le_of_ble_eq_true rfl⟩) hS (fun q _ h => hFc q h) hFc (fun r_18 u_19 t H1 locs ht hvm hw hB hz1 hk1 hS => ?_)
              obtain ⟨hB1, hB2⟩ : PostW dC dI [(zg, .inr (1, [.ref azg_kind, .ref azg_hand, .ref azg_state, .ref azg_look, .int u_19.2.2.2.2])), (azg_kind, .inl (cI, 25, .inl u_19.1)), (azg_hand, .inl (cI, 25, .inl u_19.2.1)), (azg_state, .inl (cI, 25, .inl u_19.2.2.1)), (azg_look, .inl (cI, 25, .inl u_19.2.2.2.1))] t _ := hB
              rw [ht] at hB1
              obtain ⟨hP, hD⟩ := va_join (wr := [(zd, .inr (5, [.ref zt, .ref zr, .ref zw, .ref zg, .ref zv, .ref zk])), (zr, .inr (2, [.ref azr_sign, .ref azr_token, .ref azr_in, .ref azr_own, .ref azr_since, .int zr_size])), (azr_sign, .inl (cI, 240, .inl zr_sign)), (azr_token, .inl (cI, 240, .inl zr_token)), (azr_in, .inl (cI, 240, .inl zr_in)), (azr_own, .inl (cI, 240, .inl zr_own)), (azr_since, .inl (cI, 240, .inl zr_since))]) (w1 := [(zg, .inr (1, [.ref azg_kind, .ref azg_hand, .ref azg_state, .ref azg_look, .int u_19.2.2.2.2])), (azg_kind, .inl (cI, 25, .inl u_19.1)), (azg_hand, .inl (cI, 25, .inl u_19.2.1)), (azg_state, .inl (cI, 25, .inl u_19.2.2.1)), (azg_look, .inl (cI, 25, .inl u_19.2.2.2.1))]) hP hD [1, 2, 3, 4, 5] [0, 6, 7, 8, 9, 10, 11] rfl rfl (by decide) (by decide) hk1 hFc hB1 hB2
              have hP := hP.sub (ws' := [(zd, .inr (5, [.ref zt, .ref zr, .ref zw, .ref zg, .ref zv, .ref zk])), (zg, .inr (1, [.ref azg_kind, .ref azg_hand, .ref azg_state, .ref azg_look, .int u_19.2.2.2.2])), (azg_kind, .inl (cI, 25, .inl u_19.1)), (azg_hand, .inl (cI, 25, .inl u_19.2.1)), (azg_state, .inl (cI, 25, .inl u_19.2.2.1)), (azg_look, .inl (cI, 25, .inl u_19.2.2.2.1)), (zr, .inr (2, [.ref azr_sign, .ref azr_token, .ref azr_in, .ref azr_own, .ref azr_since, .int zr_size])), (azr_sign, .inl (cI, 240, .inl zr_sign)), (azr_token, .inl (cI, 240, .inl zr_token)), (azr_in, .inl (cI, 240, .inl zr_in)), (azr_own, .inl (cI, 240, .inl zr_own)), (azr_since, .inl (cI, 240, .inl zr_since))]) [0, 7, 8, 9, 10, 11, 1, 2, 3, 4, 5, 6] rfl
              have hD := hD.sub (ws' := [(zd, .inr (5, [.ref zt, .ref zr, .ref zw, .ref zg, .ref zv, .ref zk])), (zg, .inr (1, [.ref azg_kind, .ref azg_hand, .ref azg_state, .ref azg_look, .int u_19.2.2.2.2])), (azg_kind, .inl (cI, 25, .inl u_19.1)), (azg_hand, .inl (cI, 25, .inl u_19.2.1)), (azg_state, .inl (cI, 25, .inl u_19.2.2.1)), (azg_look, .inl (cI, 25, .inl u_19.2.2.2.1)), (zr, .inr (2, [.ref azr_sign, .ref azr_token, .ref azr_in, .ref azr_own, .ref azr_since, .int zr_size])), (azr_sign, .inl (cI, 240, .inl zr_sign)), (azr_token, .inl (cI, 240, .inl zr_token)), (azr_in, .inl (cI, 240, .inl zr_in)), (azr_own, .inl (cI, 240, .inl zr_own)), (azr_since, .inl (cI, 240, .inl zr_since))]) [0, 7, 8, 9, 10, 11, 1, 2, 3, 4, 5, 6] (by decide) rfl
              generalize H1 = H at hP hS ⊢
              have hP : va_P (dC, dI) vwCl [(zd, .inr (5, [.ref zt, .ref zr, .ref zw, .ref zg, .ref zv, .ref zk])), (zg, .inr (1, [.ref azg_kind, .ref azg_hand, .ref azg_state, .ref azg_look, .int u_19.2.2.2.2])), (azg_kind, .inl (cI, 25, .inl u_19.1)), (azg_hand, .inl (cI, 25, .inl u_19.2.1)), (azg_state, .inl (cI, 25, .inl u_19.2.2.1)), (azg_look, .inl (cI, 25, .inl u_19.2.2.2.1)), (zr, .inr (2, [.ref azr_sign, .ref azr_token, .ref azr_in, .ref azr_own, .ref azr_since, .int zr_size])), (azr_sign, .inl (cI, 240, .inl zr_sign)), (azr_token, .inl (cI, 240, .inl zr_token)), (azr_in, .inl (cI, 240, .inl zr_in)), (azr_own, .inl (cI, 240, .inl zr_own)), (azr_since, .inl (cI, 240, .inl zr_since))] H := hP
              have hD : va_D A [(zd, .inr (5, [.ref zt, .ref zr, .ref zw, .ref zg, .ref zv, .ref zk])), (zg, .inr (1, [.ref azg_kind, .ref azg_hand, .ref azg_state, .ref azg_look, .int u_19.2.2.2.2])), (azg_kind, .inl (cI, 25, .inl u_19.1)), (azg_hand, .inl (cI, 25, .inl u_19.2.1)), (azg_state, .inl (cI, 25, .inl u_19.2.2.1)), (azg_look, .inl (cI, 25, .inl u_19.2.2.2.1)), (zr, .inr (2, [.ref azr_sign, .ref azr_token, .ref azr_in, .ref azr_own, .ref azr_since, .int zr_size])), (azr_sign, .inl (cI, 240, .inl zr_sign)), (azr_token, .inl (cI, 240, .inl zr_token)), (azr_in, .inl (cI, 240, .inl zr_in)), (azr_own, .inl (cI, 240, .inl zr_own)), (azr_since, .inl (cI, 240, .inl zr_since))] := hD
              have hw1 : r_18 = (f_X1_add zg_kind zg_hand zg_state zg_look zg_size (zg_kind (a_c).toNatClampNeg) (zg_hand (a_c).toNatClampNeg) (zg_look (a_c).toNatClampNeg)).1 := hw.1
              have hw2 : u_19 = (f_X1_add zg_kind zg_hand zg_state zg_look zg_size (zg_kind (a_c).toNatClampNeg) (zg_hand (a_c).toNatClampNeg) (zg_look (a_c).toNatClampNeg)).2 := hw.2
              subst hw1
              have hI20 : f_X5_cut zg_kind zg_hand zg_state zg_look zg_size zr_token zr_in zr_size a_c a_k = f_X5_cut_k111_u_19 zg_kind zg_hand zg_state zg_look zg_size zr_token zr_in zr_size a_c a_k u_19 := (by rw [hw2]; rw [f_X5_cut, if_neg c_3, if_neg c_7, if_pos c_8, if_neg c_9, if_pos c_14, if_pos c_17])
              refine lv_istore_n (lv' := [(3, .int ((f_X1_add zg_kind zg_hand zg_state zg_look zg_size (zg_kind (a_c).toNatClampNeg) (zg_hand (a_c).toNatClampNeg) (zg_look (a_c).toNatClampNeg)).1)), (0, .ref zd), (1, .int a_c), (2, .int a_k)]) hx hb dX5_cut_111 rfl hl (by decide) rfl (fun ls hl => ?_)
              refine lv_aload_n hx hb dX5_cut_112 rfl (lv_at hl 1 rfl) ?_
              refine va_get (D := (dC, dI)) (ci := 5) (v := .ref zr) (C := RX5) (T := TX5) (N := 6) hx hb hts in_X5_cut_X5 hown hK hP 0 rfl rfl 1 (by decide) (hts _ m_X5_cut_4) (fun _ h9 => h9) rfl dX5_cut_113 ?_
              refine lv_iload_n hx hb dX5_cut_116 rfl (lv_at hl 2 rfl) ?_
              have hPc := hP.sub (ws' := []) [] rfl
              have hDc := hD.sub (ws' := []) [] (by decide) rfl
              refine va_calli (va_runS (As := [.int a_c]) (rest := [.ref zr]) ⟨hx, hb, hml, hown, hts⟩ (c_X5_bit l dC dI cI cJ H.size a_c) (va_cwS 1 hts gX5_cut_X5_bit rfl rfl rfl (by decide +kernel) ⟨Nat.le_of_ble_eq_true rfl, Nat.le_of_ble_eq_true rfl⟩) ⟨fun a U g mk q => ⟨q.1, PreW.call g mk a q.2⟩, fun U hU hW => ⟨rfl, PreW.mk2 hU hW hPc hK hN (hDc.weaken (fun _ _ _ _ => trivial))⟩⟩ rfl rfl hl.1 rfl (lv_room (Nat.le_of_ble_eq_true rfl)) dX5_cut_117 ⟨Nat.le_of_ble_eq_true rfl, Nat.le_of_ble_eq_true rfl⟩) hS (fun q hq h => absurd hq (Nat.not_lt.mpr h)) (fun q h => hA q (Nat.le_trans hS.1 h)) (fun r_21 _u t H1 locs ht hvm hw hB hz1 hk1 hS => ?_)
              have hP := va_ro hP hk1
              generalize H1 = H at hP hS ⊢
              have hw : r_21 = f_X5_bit a_c := hw
              subst hw
              refine lv_iload_n hx hb dX5_cut_120 rfl (lv_at hl 0 rfl) ?_
              have hPc := hP.sub (ws' := []) [] rfl
              have hDc := hD.sub (ws' := []) [] (by decide) rfl
              refine va_calli (va_runS (As := [.int ((f_X1_add zg_kind zg_hand zg_state zg_look zg_size (zg_kind (a_c).toNatClampNeg) (zg_hand (a_c).toNatClampNeg) (zg_look (a_c).toNatClampNeg)).1)]) (rest := [.int (f_X5_bit a_c), .ref zr]) ⟨hx, hb, hml, hown, hts⟩ (c_X5_bit l dC dI cI cJ H.size ((f_X1_add zg_kind zg_hand zg_state zg_look zg_size (zg_kind (a_c).toNatClampNeg) (zg_hand (a_c).toNatClampNeg) (zg_look (a_c).toNatClampNeg)).1)) (va_cwS 1 hts gX5_cut_X5_bit rfl rfl rfl (by decide +kernel) ⟨Nat.le_of_ble_eq_true rfl, Nat.le_of_ble_eq_true rfl⟩) ⟨fun a U g mk q => ⟨q.1, PreW.call g mk a q.2⟩, fun U hU hW => ⟨rfl, PreW.mk2 hU hW hPc hK hN (hDc.weaken (fun _ _ _ _ => trivial))⟩⟩ rfl rfl hl.1 rfl (lv_room (Nat.le_of_ble_eq_true rfl)) dX5_cut_121 ⟨Nat.le_of_ble_eq_true rfl, Nat.le_of_ble_eq_true rfl⟩) hS (fun q hq h => absurd hq (Nat.not_lt.mpr h)) (fun q h => hA q (Nat.le_trans hS.1 h)) (fun r_22 _u t H1 locs ht hvm hw hB hz1 hk1 hS => ?_)
              have hP := va_ro hP hk1
              generalize H1 = H at hP hS ⊢
              have hw : r_22 = f_X5_bit ((f_X1_add zg_kind zg_hand zg_state zg_look zg_size (zg_kind (a_c).toNatClampNeg) (zg_hand (a_c).toNatClampNeg) (zg_look (a_c).toNatClampNeg)).1) := hw
              subst hw
              obtain ⟨z_23, hz_23⟩ : ∃ z : Int32, z = f_X5_bit ((f_X1_add zg_kind zg_hand zg_state zg_look zg_size (zg_kind (a_c).toNatClampNeg) (zg_hand (a_c).toNatClampNeg) (zg_look (a_c).toNatClampNeg)).1) := ⟨_, rfl⟩
              refine lv_iload_n hx hb dX5_cut_124 rfl (lv_at hl 3 rfl) ?_
              have hPc := hP.sub (ws' := [(zr, .inr (2, [.ref azr_sign, .ref azr_token, .ref azr_in, .ref azr_own, .ref azr_since, .int zr_size])), (azr_sign, .inl (cI, 240, .inl zr_sign)), (azr_token, .inl (cI, 240, .inl zr_token)), (azr_in, .inl (cI, 240, .inl zr_in)), (azr_own, .inl (cI, 240, .inl zr_own)), (azr_since, .inl (cI, 240, .inl zr_since))]) [6, 7, 8, 9, 10, 11] rfl
              have hDc := hD.sub (ws' := [(zr, .inr (2, [.ref azr_sign, .ref azr_token, .ref azr_in, .ref azr_own, .ref azr_since, .int zr_size])), (azr_sign, .inl (cI, 240, .inl zr_sign)), (azr_token, .inl (cI, 240, .inl zr_token)), (azr_in, .inl (cI, 240, .inl zr_in)), (azr_own, .inl (cI, 240, .inl zr_own)), (azr_since, .inl (cI, 240, .inl zr_since))]) [6, 7, 8, 9, 10, 11] (by decide) rfl
              have hFc := va_free (wc := [(zr, .inr (2, [.ref azr_sign, .ref azr_token, .ref azr_in, .ref azr_own, .ref azr_since, .int zr_size])), (azr_sign, .inl (cI, 240, .inl zr_sign)), (azr_token, .inl (cI, 240, .inl zr_token)), (azr_in, .inl (cI, 240, .inl zr_in)), (azr_own, .inl (cI, 240, .inl zr_own)), (azr_since, .inl (cI, 240, .inl zr_since))]) hD hS hA [6, 7, 8, 9, 10, 11] rfl
              refine va_callv (va_runV (As := [.int (f_X5_bit a_c), .int (f_X5_bit ((f_X1_add zg_kind zg_hand zg_state zg_look zg_size (zg_kind (a_c).toNatClampNeg) (zg_hand (a_c).toNatClampNeg) (zg_look (a_c).toNatClampNeg)).1)), .int a_k]) (rest := []) ⟨hx, hb, hml, hown, hts⟩ (c_X2_handOver l dC dI cI cJ H.size zr azr_sign azr_token azr_in azr_own azr_since zr_sign zr_token zr_in zr_own zr_since zr_size (f_X5_bit a_c) (f_X5_bit ((f_X1_add zg_kind zg_hand zg_state zg_look zg_size (zg_kind (a_c).toNatClampNeg) (zg_hand (a_c).toNatClampNeg) (zg_look (a_c).toNatClampNeg)).1)) a_k) (cwV 3 hts gX5_cut_X2_handOver rfl rfl rfl (by decide +kernel) ⟨Nat.le_of_ble_eq_true rfl, Nat.le_of_ble_eq_true rfl⟩) ⟨fun a U g mk q => ⟨q.1, PreW.call g mk a q.2⟩, va_recv hK hP (ci := 2) (q0 := 6) rfl rfl, fun U hU hW => ⟨rfl, PreW.mk2 hU hW hPc hK hN (hDc.weaken (fun _ _ _ _ => trivial))⟩⟩ rfl rfl hl.1 rfl (lv_room (Nat.le_of_ble_eq_true rfl)) dX5_cut_125 ⟨Nat.le_of_ble_eq_true rfl, Nat.le_of_ble_eq_true rfl⟩) hS (fun q _ h => hFc q h) hFc (fun u_24 t H1 locs ht hvm hw hB hz1 hk1 hS => ?_)
              obtain ⟨hB1, hB2⟩ : PostW dC dI [(zr, .inr (2, [.ref azr_sign, .ref azr_token, .ref azr_in, .ref azr_own, .ref azr_since, .int zr_size])), (azr_sign, .inl (cI, 240, .inl zr_sign)), (azr_token, .inl (cI, 240, .inl zr_token)), (azr_in, .inl (cI, 240, .inl u_24)), (azr_own, .inl (cI, 240, .inl zr_own)), (azr_since, .inl (cI, 240, .inl zr_since))] t _ := hB
              rw [ht] at hB1
              obtain ⟨hP, hD⟩ := va_join (wr := [(zd, .inr (5, [.ref zt, .ref zr, .ref zw, .ref zg, .ref zv, .ref zk])), (zg, .inr (1, [.ref azg_kind, .ref azg_hand, .ref azg_state, .ref azg_look, .int u_19.2.2.2.2])), (azg_kind, .inl (cI, 25, .inl u_19.1)), (azg_hand, .inl (cI, 25, .inl u_19.2.1)), (azg_state, .inl (cI, 25, .inl u_19.2.2.1)), (azg_look, .inl (cI, 25, .inl u_19.2.2.2.1))]) (w1 := [(zr, .inr (2, [.ref azr_sign, .ref azr_token, .ref azr_in, .ref azr_own, .ref azr_since, .int zr_size])), (azr_sign, .inl (cI, 240, .inl zr_sign)), (azr_token, .inl (cI, 240, .inl zr_token)), (azr_in, .inl (cI, 240, .inl u_24)), (azr_own, .inl (cI, 240, .inl zr_own)), (azr_since, .inl (cI, 240, .inl zr_since))]) hP hD [6, 7, 8, 9, 10, 11] [0, 1, 2, 3, 4, 5] rfl rfl (by decide) (by decide) hk1 hFc hB1 hB2
              generalize H1 = H at hP hS ⊢
              have hP : va_P (dC, dI) vwCl [(zd, .inr (5, [.ref zt, .ref zr, .ref zw, .ref zg, .ref zv, .ref zk])), (zg, .inr (1, [.ref azg_kind, .ref azg_hand, .ref azg_state, .ref azg_look, .int u_19.2.2.2.2])), (azg_kind, .inl (cI, 25, .inl u_19.1)), (azg_hand, .inl (cI, 25, .inl u_19.2.1)), (azg_state, .inl (cI, 25, .inl u_19.2.2.1)), (azg_look, .inl (cI, 25, .inl u_19.2.2.2.1)), (zr, .inr (2, [.ref azr_sign, .ref azr_token, .ref azr_in, .ref azr_own, .ref azr_since, .int zr_size])), (azr_sign, .inl (cI, 240, .inl zr_sign)), (azr_token, .inl (cI, 240, .inl zr_token)), (azr_in, .inl (cI, 240, .inl u_24)), (azr_own, .inl (cI, 240, .inl zr_own)), (azr_since, .inl (cI, 240, .inl zr_since))] H := hP
              have hD : va_D A [(zd, .inr (5, [.ref zt, .ref zr, .ref zw, .ref zg, .ref zv, .ref zk])), (zg, .inr (1, [.ref azg_kind, .ref azg_hand, .ref azg_state, .ref azg_look, .int u_19.2.2.2.2])), (azg_kind, .inl (cI, 25, .inl u_19.1)), (azg_hand, .inl (cI, 25, .inl u_19.2.1)), (azg_state, .inl (cI, 25, .inl u_19.2.2.1)), (azg_look, .inl (cI, 25, .inl u_19.2.2.2.1)), (zr, .inr (2, [.ref azr_sign, .ref azr_token, .ref azr_in, .ref azr_own, .ref azr_since, .int zr_size])), (azr_sign, .inl (cI, 240, .inl zr_sign)), (azr_token, .inl (cI, 240, .inl zr_token)), (azr_in, .inl (cI, 240, .inl u_24)), (azr_own, .inl (cI, 240, .inl zr_own)), (azr_since, .inl (cI, 240, .inl zr_since))] := hD
              have hw2 : u_24 = f_X2_handOver zr_token zr_in zr_size (f_X5_bit a_c) (f_X5_bit ((f_X1_add zg_kind zg_hand zg_state zg_look zg_size (zg_kind (a_c).toNatClampNeg) (zg_hand (a_c).toNatClampNeg) (zg_look (a_c).toNatClampNeg)).1)) a_k := hw
              have hI25 : f_X5_cut zg_kind zg_hand zg_state zg_look zg_size zr_token zr_in zr_size a_c a_k = f_X5_cut_k128_u_24 zg_kind zg_hand zg_state zg_look zg_size a_c u_19 u_24 := (hI20.trans (by rw [hw2]; rw [f_X5_cut_k111_u_19]))
              refine lv_iload_n hx hb dX5_cut_128 rfl (lv_at hl 0 rfl) ?_
              have hE : f_X5_cut zg_kind zg_hand zg_state zg_look zg_size zr_token zr_in zr_size a_c a_k = ((f_X1_add zg_kind zg_hand zg_state zg_look zg_size (zg_kind (a_c).toNatClampNeg) (zg_hand (a_c).toNatClampNeg) (zg_look (a_c).toNatClampNeg)).1, u_19.1, u_19.2.1, u_19.2.2.1, u_19.2.2.2.1, u_19.2.2.2.2, u_24) := (hI25.trans (by rw [f_X5_cut_k128_u_24]))
              exact W.iret (v := ((f_X1_add zg_kind zg_hand zg_state zg_look zg_size (zg_kind (a_c).toNatClampNeg) (zg_hand (a_c).toNatClampNeg) (zg_look (a_c).toNatClampNeg)).1)) hx hb hr (fun t ht hW => ⟨⟨((f_X1_add zg_kind zg_hand zg_state zg_look zg_size (zg_kind (a_c).toNatClampNeg) (zg_hand (a_c).toNatClampNeg) (zg_look (a_c).toNatClampNeg)).1), (u_19.1, u_19.2.1, u_19.2.2.1, u_19.2.2.2.1, u_19.2.2.2.2, u_24), rfl, ⟨by rw [hE], by rw [hE]⟩, ⟨by rw [ht]; exact hP, hD⟩⟩, hS.F ht⟩) hS.2.2 dX5_cut_129
            · have tc_17 : ¬ z_16.toInt = (0 : Int) := by rw [hz_16]; exact q_ne c_17
              refine lv_bipush (v := (-3 : Int32)) hx hb dX5_cut_74 (by decide) ?_
              have hE : f_X5_cut zg_kind zg_hand zg_state zg_look zg_size zr_token zr_in zr_size a_c a_k = ((-3 : Int32), zg_kind, zg_hand, zg_state, zg_look, zg_size, zr_in) := (by rw [f_X5_cut, if_neg c_3, if_neg c_7, if_pos c_8, if_neg c_9, if_pos c_14, if_neg c_17])
              exact W.iret (v := (-3 : Int32)) hx hb hr (fun t ht hW => ⟨⟨(-3 : Int32), (zg_kind, zg_hand, zg_state, zg_look, zg_size, zr_in), rfl, ⟨by rw [hE], by rw [hE]⟩, ⟨by rw [ht]; exact hP, hD⟩⟩, hS.F ht⟩) hS.2.2 dX5_cut_76
          · have tc_14 : z_13.toInt ≤ a_k.toInt := by rw [hz_13]; exact q_nlt c_14
            refine lv_bipush (v := (-2 : Int32)) hx hb dX5_cut_61 (by decide) ?_
            have hE : f_X5_cut zg_kind zg_hand zg_state zg_look zg_size zr_token zr_in zr_size a_c a_k = ((-2 : Int32), zg_kind, zg_hand, zg_state, zg_look, zg_size, zr_in) := (by rw [f_X5_cut, if_neg c_3, if_neg c_7, if_pos c_8, if_neg c_9, if_neg c_14])
            exact W.iret (v := (-2 : Int32)) hx hb hr (fun t ht hW => ⟨⟨(-2 : Int32), (zg_kind, zg_hand, zg_state, zg_look, zg_size, zr_in), rfl, ⟨by rw [hE], by rw [hE]⟩, ⟨by rw [ht]; exact hP, hD⟩⟩, hS.F ht⟩) hS.2.2 dX5_cut_63
    · refine lv_bipush (v := (-13 : Int32)) hx hb dX5_cut_26 (by decide) ?_
      have hE : f_X5_cut zg_kind zg_hand zg_state zg_look zg_size zr_token zr_in zr_size a_c a_k = ((-13 : Int32), zg_kind, zg_hand, zg_state, zg_look, zg_size, zr_in) := (by rw [f_X5_cut, if_neg c_3, if_pos c_7])
      exact W.iret (v := (-13 : Int32)) hx hb hr (fun t ht hW => ⟨⟨(-13 : Int32), (zg_kind, zg_hand, zg_state, zg_look, zg_size, zr_in), rfl, ⟨by rw [hE], by rw [hE]⟩, ⟨by rw [ht]; exact hP, hD⟩⟩, hS.F ht⟩) hS.2.2 dX5_cut_28
  · have tc_3 : z_2.toInt = (0 : Int) := by rw [hz_2]; exact q_eq c_3
    refine lv_iconst (v := (-1 : Int32)) hx hb dX5_cut_11 (by decide) ?_
    have hE : f_X5_cut zg_kind zg_hand zg_state zg_look zg_size zr_token zr_in zr_size a_c a_k = ((-1 : Int32), zg_kind, zg_hand, zg_state, zg_look, zg_size, zr_in) := (by rw [f_X5_cut, if_pos c_3])
    exact W.iret (v := (-1 : Int32)) hx hb hr (fun t ht hW => ⟨⟨(-1 : Int32), (zg_kind, zg_hand, zg_state, zg_look, zg_size, zr_in), rfl, ⟨by rw [hE], by rw [hE]⟩, ⟨by rw [ht]; exact hP, hD⟩⟩, hS.F ht⟩) hS.2.2 dX5_cut_12
theorem dX5_change_0 : decode cX5_change 0 = .ok (.aload_n 0, 1) := by decide +kernel
theorem dX5_change_1 : decode cX5_change 1 = .ok (.getfield 29, 3) := by decide +kernel
theorem in_X5_change_X5 : ∀ w ∈ wsX50, w ∈ wsX5_change := by decide +kernel
theorem m_X5_change_1 : (.fieldLink RX5 29 "RedlineDesk" "ledger" "LRedlineDesk$Ledger;" : Cond) ∈ wsX5_change := List.mem_of_getElem? (i := 1) (by decide +kernel)
theorem dX5_change_4 : decode cX5_change 4 = .ok (.iload_n 1, 1) := by decide +kernel
theorem dX5_change_5 : decode cX5_change 5 = .ok (.invokevirtual 167, 3) := by decide +kernel
set_option maxRecDepth 20000 in
theorem ggX5_change_X1_names : GoodIn wsX5_change wsX1_names := goodIn_r _ [11, 12, 35, 36, 37, 38, 39] (by decide +kernel) (by decide +kernel)
set_option maxRecDepth 20000 in
theorem gX5_change_X1_names : GoodIn wsX5_change (wsV RX5 167 RX1 yX1_names wsX1_names) := goodIn_app (goodIn_of _ (by decide +kernel)) ggX5_change_X1_names
theorem dX5_change_8 : decode cX5_change 8 = .ok (.ifCond .ne 5, 3) := by decide +kernel
theorem dX5_change_13 : decode cX5_change 13 = .ok (.iload_n 2, 1) := by decide +kernel
theorem dX5_change_14 : decode cX5_change 14 = .ok (.tableswitch 86 0 4 #[34, 44, 54, 64, 74], 34) := by decide +kernel
theorem dX5_change_48 : decode cX5_change 48 = .ok (.aload_n 0, 1) := by decide +kernel
theorem dX5_change_49 : decode cX5_change 49 = .ok (.getfield 29, 3) := by decide +kernel
theorem dX5_change_52 : decode cX5_change 52 = .ok (.getfield 173, 3) := by decide +kernel
theorem in_X5_change_X1 : ∀ w ∈ wsX10, w ∈ wsX5_change := by decide +kernel
theorem m_X5_change_2 : (.fieldLink RX5 173 "RedlineDesk$Ledger" "kind" "[I" : Cond) ∈ wsX5_change := List.mem_of_getElem? (i := 2) (by decide +kernel)
theorem dX5_change_55 : decode cX5_change 55 = .ok (.iload_n 1, 1) := by decide +kernel
theorem dX5_change_56 : decode cX5_change 56 = .ok (.iaload, 1) := by decide +kernel
theorem dX5_change_57 : decode cX5_change 57 = .ok (.ireturn, 1) := by decide +kernel
theorem dX5_change_58 : decode cX5_change 58 = .ok (.aload_n 0, 1) := by decide +kernel
theorem dX5_change_59 : decode cX5_change 59 = .ok (.getfield 29, 3) := by decide +kernel
theorem dX5_change_62 : decode cX5_change 62 = .ok (.getfield 179, 3) := by decide +kernel
theorem m_X5_change_3 : (.fieldLink RX5 179 "RedlineDesk$Ledger" "hand" "[I" : Cond) ∈ wsX5_change := List.mem_of_getElem? (i := 3) (by decide +kernel)
theorem dX5_change_65 : decode cX5_change 65 = .ok (.iload_n 1, 1) := by decide +kernel
theorem dX5_change_66 : decode cX5_change 66 = .ok (.iaload, 1) := by decide +kernel
theorem dX5_change_67 : decode cX5_change 67 = .ok (.ireturn, 1) := by decide +kernel
theorem dX5_change_68 : decode cX5_change 68 = .ok (.aload_n 0, 1) := by decide +kernel
theorem dX5_change_69 : decode cX5_change 69 = .ok (.getfield 29, 3) := by decide +kernel
theorem dX5_change_72 : decode cX5_change 72 = .ok (.getfield 170, 3) := by decide +kernel
theorem m_X5_change_4 : (.fieldLink RX5 170 "RedlineDesk$Ledger" "state" "[I" : Cond) ∈ wsX5_change := List.mem_of_getElem? (i := 4) (by decide +kernel)
theorem dX5_change_75 : decode cX5_change 75 = .ok (.iload_n 1, 1) := by decide +kernel
theorem dX5_change_76 : decode cX5_change 76 = .ok (.iaload, 1) := by decide +kernel
theorem dX5_change_77 : decode cX5_change 77 = .ok (.ireturn, 1) := by decide +kernel
theorem dX5_change_78 : decode cX5_change 78 = .ok (.aload_n 0, 1) := by decide +kernel
theorem dX5_change_79 : decode cX5_change 79 = .ok (.getfield 29, 3) := by decide +kernel
theorem dX5_change_82 : decode cX5_change 82 = .ok (.getfield 182, 3) := by decide +kernel
theorem m_X5_change_5 : (.fieldLink RX5 182 "RedlineDesk$Ledger" "look" "[I" : Cond) ∈ wsX5_change := List.mem_of_getElem? (i := 5) (by decide +kernel)
theorem dX5_change_85 : decode cX5_change 85 = .ok (.iload_n 1, 1) := by decide +kernel
theorem dX5_change_86 : decode cX5_change 86 = .ok (.iaload, 1) := by decide +kernel
theorem dX5_change_87 : decode cX5_change 87 = .ok (.ireturn, 1) := by decide +kernel
theorem dX5_change_88 : decode cX5_change 88 = .ok (.aload_n 0, 1) := by decide +kernel
theorem dX5_change_89 : decode cX5_change 89 = .ok (.getfield 19, 3) := by decide +kernel
theorem m_X5_change_6 : (.fieldLink RX5 19 "RedlineDesk" "row" "LRedlineDesk$Row;" : Cond) ∈ wsX5_change := List.mem_of_getElem? (i := 6) (by decide +kernel)
theorem dX5_change_92 : decode cX5_change 92 = .ok (.iload_n 1, 1) := by decide +kernel
theorem dX5_change_93 : decode cX5_change 93 = .ok (.invokestatic 154, 3) := by decide +kernel
set_option maxRecDepth 20000 in
theorem ggX5_change_X5_bit : GoodIn wsX5_change wsX5_bit := goodIn_r _ [16] (by decide +kernel) (by decide +kernel)
set_option maxRecDepth 20000 in
theorem gX5_change_X5_bit : GoodIn wsX5_change (va_wsS RX5 154 yX5_bit wsX5_bit) := goodIn_app (goodIn_of _ (by decide +kernel)) ggX5_change_X5_bit
theorem dX5_change_96 : decode cX5_change 96 = .ok (.invokevirtual 176, 3) := by decide +kernel
set_option maxRecDepth 20000 in
theorem ggX5_change_X2_lettersIn : GoodIn wsX5_change wsX2_lettersIn := goodIn_r _ [21, 22, 23, 24, 25, 26, 20, 27, 28, 40, 41, 42, 43, 44, 45] (by decide +kernel) (by decide +kernel)
set_option maxRecDepth 20000 in
theorem gX5_change_X2_lettersIn : GoodIn wsX5_change (wsV RX5 176 RX2 yX2_lettersIn wsX2_lettersIn) := goodIn_app (goodIn_of _ (by decide +kernel)) ggX5_change_X2_lettersIn
theorem dX5_change_99 : decode cX5_change 99 = .ok (.ireturn, 1) := by decide +kernel
theorem dX5_change_100 : decode cX5_change 100 = .ok (.iconst (-1), 1) := by decide +kernel
theorem dX5_change_101 : decode cX5_change 101 = .ok (.ireturn, 1) := by decide +kernel
theorem dX5_change_11 : decode cX5_change 11 = .ok (.iconst (-1), 1) := by decide +kernel
theorem dX5_change_12 : decode cX5_change 12 = .ok (.ireturn, 1) := by decide +kernel
def f_X5_change (zg_kind : Nat → Int32) (zg_hand : Nat → Int32) (zg_state : Nat → Int32) (zg_look : Nat → Int32) (zg_size : Int32) (zr_token : Nat → Int32) (zr_in : Nat → Int32) (zr_size : Int32) (a_c : Int32) (a_w : Int32) : Int32 := if (f_X1_names zg_size a_c) = (0 : Int32) then (-1 : Int32) else if a_w = (0 : Int32) then (zg_kind (a_c).toNatClampNeg) else if a_w = (1 : Int32) then (zg_hand (a_c).toNatClampNeg) else if a_w = (2 : Int32) then (zg_state (a_c).toNatClampNeg) else if a_w = (3 : Int32) then (zg_look (a_c).toNatClampNeg) else if a_w = (4 : Int32) then (f_X2_lettersIn zr_token zr_in zr_size (f_X5_bit a_c)) else (-1 : Int32)
set_option maxHeartbeats 4000000 in
set_option maxRecDepth 100000 in
theorem c_X5_change (l : Launch) (dC : Nat → ClassId) (dI : Nat → Nat → Nat) (cI cJ : ClassId) (sz : Nat) (zd zg azg_kind azg_hand azg_state azg_look zr azr_sign azr_token azr_in azr_own azr_since zt zw zv zk : Nat) (zg_kind zg_hand zg_state zg_look zr_sign zr_token zr_in zr_own zr_since : Nat → Int32) (zg_size zr_size : Int32) (a_c : Int32) (a_w : Int32) : Met l yX5_change wsX5_change ({ frames := 2, cells := 0, slots := 0, locals := 44 } : Room) (va_Pc [.ref zd, .int a_c, .int a_w] (PreW dC dI cI cJ sz [(zd, .inr (5, [.ref zt, .ref zr, .ref zw, .ref zg, .ref zv, .ref zk])), (zg, .inr (1, [.ref azg_kind, .ref azg_hand, .ref azg_state, .ref azg_look, .int zg_size])), (azg_kind, .inl (cI, 25, .inl zg_kind)), (azg_hand, .inl (cI, 25, .inl zg_hand)), (azg_state, .inl (cI, 25, .inl zg_state)), (azg_look, .inl (cI, 25, .inl zg_look)), (zr, .inr (2, [.ref azr_sign, .ref azr_token, .ref azr_in, .ref azr_own, .ref azr_since, .int zr_size])), (azr_sign, .inl (cI, 240, .inl zr_sign)), (azr_token, .inl (cI, 240, .inl zr_token)), (azr_in, .inl (cI, 240, .inl zr_in)), (azr_own, .inl (cI, 240, .inl zr_own)), (azr_since, .inl (cI, 240, .inl zr_since))])) (va_Qi (fun (r : Int32) (_ : Unit) => r = f_X5_change zg_kind zg_hand zg_state zg_look zg_size zr_token zr_in zr_size a_c a_w) (fun (_ : Unit) _ => True) (fun q => sz ≤ q)) 0 0 (fun q => sz ≤ q) := by
  refine Met.ofW (cc := cX5_change) (maxL := 3) (ret := (some .int)) (by decide) rfl ?_
  intro p e s m args below meth c s₁ B hml hv
  obtain ⟨rfl, hsz, hP, hK, hN, hD0⟩ := hv
  have hx := B.exec
  have hb := B.bytes
  have hr := B.returns
  have hts := atoms_spec (ws := wsX5_change) B.pre
  have hown : s.vm.findClass RX5 = some m.cls := findClass_of_methodNamed B.named
  have hlocks := B.notSynchronized
  subst hsz
  have hD := hD0
  generalize hAe : (fun q => s.heap.size ≤ q) = A
  have hA : ∀ q : Nat, s.heap.size ≤ q → A q := fun q h => by rw [← hAe]; exact h
  have hS : va_S A s.heap s.heap [] := va_S.rf
  have hP : va_P (dC, dI) vwCl [(zd, .inr (5, [.ref zt, .ref zr, .ref zw, .ref zg, .ref zv, .ref zk])), (zg, .inr (1, [.ref azg_kind, .ref azg_hand, .ref azg_state, .ref azg_look, .int zg_size])), (azg_kind, .inl (cI, 25, .inl zg_kind)), (azg_hand, .inl (cI, 25, .inl zg_hand)), (azg_state, .inl (cI, 25, .inl zg_state)), (azg_look, .inl (cI, 25, .inl zg_look)), (zr, .inr (2, [.ref azr_sign, .ref azr_token, .ref azr_in, .ref azr_own, .ref azr_since, .int zr_size])), (azr_sign, .inl (cI, 240, .inl zr_sign)), (azr_token, .inl (cI, 240, .inl zr_token)), (azr_in, .inl (cI, 240, .inl zr_in)), (azr_own, .inl (cI, 240, .inl zr_own)), (azr_since, .inl (cI, 240, .inl zr_since))] s.heap := hP
  have hl := lv_entry ([.ref zd, .int a_c, .int a_w]) (n := 3) (Nat.le_of_ble_eq_true rfl)
  rw [lg_entry_eq]
  generalize (lg_sl ([.ref zd, .int a_c, .int a_w]) ++ List.replicate (3 - (lg_sl ([.ref zd, .int a_c, .int a_w])).length) Slot.unset).toArray = ls at hl ⊢
  have hl : lv_has ls 3 [(0, .ref zd), (1, .int a_c), (2, .int a_w)] := hl
  refine lv_aload_n hx hb dX5_change_0 rfl (lv_at hl 0 rfl) ?_
  refine va_get (D := (dC, dI)) (ci := 5) (v := .ref zg) (C := RX5) (T := TX5) (N := 6) hx hb hts in_X5_change_X5 hown hK hP 0 rfl rfl 3 (by decide) (hts _ m_X5_change_1) (fun _ h9 => h9) rfl dX5_change_1 ?_
  refine lv_iload_n hx hb dX5_change_4 rfl (lv_at hl 1 rfl) ?_
  have hPc := hP.sub (ws' := [(zg, .inr (1, [.ref azg_kind, .ref azg_hand, .ref azg_state, .ref azg_look, .int zg_size])), (azg_kind, .inl (cI, 25, .inl zg_kind)), (azg_hand, .inl (cI, 25, .inl zg_hand)), (azg_state, .inl (cI, 25, .inl zg_state)), (azg_look, .inl (cI, 25, .inl zg_look))]) [1, 2, 3, 4, 5] rfl
  have hDc := hD.sub (ws' := [(zg, .inr (1, [.ref azg_kind, .ref azg_hand, .ref azg_state, .ref azg_look, .int zg_size])), (azg_kind, .inl (cI, 25, .inl zg_kind)), (azg_hand, .inl (cI, 25, .inl zg_hand)), (azg_state, .inl (cI, 25, .inl zg_state)), (azg_look, .inl (cI, 25, .inl zg_look))]) [1, 2, 3, 4, 5] (by decide) rfl
  refine va_calli (va_runV (As := [.int a_c]) (rest := []) ⟨hx, hb, hml, hown, hts⟩ (c_X1_names l dC dI cI cJ s.heap.size zg azg_kind azg_hand azg_state azg_look zg_kind zg_hand zg_state zg_look zg_size a_c) (cwV 1 hts gX5_change_X1_names rfl rfl rfl (by decide +kernel) ⟨Nat.le_of_ble_eq_true rfl, Nat.le_of_ble_eq_true rfl⟩) ⟨fun a U g mk q => ⟨q.1, PreW.call g mk a q.2⟩, va_recv hK hP (ci := 1) (q0 := 1) rfl rfl, fun U hU hW => ⟨rfl, PreW.mk2 hU hW hPc hK hN (hDc.weaken (fun _ _ _ _ => trivial))⟩⟩ rfl rfl hl.1 rfl (lv_room (Nat.le_of_ble_eq_true rfl)) dX5_change_5 ⟨Nat.le_of_ble_eq_true rfl, Nat.le_of_ble_eq_true rfl⟩) hS (fun q hq h => absurd hq (Nat.not_lt.mpr h)) (fun q h => hA q (Nat.le_trans hS.1 h)) (fun r_1 _u t H1 locs ht hvm hw hB hz1 hk1 hS => ?_)
  have hP := va_ro hP hk1
  generalize H1 = H at hP hS ⊢
  have hw : r_1 = f_X1_names zg_size a_c := hw
  subst hw
  obtain ⟨z_2, hz_2⟩ : ∃ z : Int32, z = f_X1_names zg_size a_c := ⟨_, rfl⟩
  refine lv_if_ne (tgt := 13) hx hb dX5_change_8 (by decide) (fun c_3 => ?_) (fun c_3 => ?_)
  · have tc_3 : ¬ z_2.toInt = (0 : Int) := by rw [hz_2]; exact q_ne c_3
    obtain ⟨b_4, b_5, b_6⟩ := names_in c_3
    refine lv_iload_n hx hb dX5_change_13 rfl (lv_at hl 2 rfl) ?_
    by_cases c_7 : a_w = (0 : Int32)
    · have tc_7 : a_w.toInt = (0 : Int) := q_eq c_7
      refine lv_tableIn (off := 34) (tgt := 48) hx hb dX5_change_14 (by rw [c_7]; decide) (by rw [c_7]; decide) (by rw [c_7]; rfl) (by decide) ?_
      refine lv_aload_n hx hb dX5_change_48 rfl (lv_at hl 0 rfl) ?_
      refine va_get (D := (dC, dI)) (ci := 5) (v := .ref zg) (C := RX5) (T := TX5) (N := 6) hx hb hts in_X5_change_X5 hown hK hP 0 rfl rfl 3 (by decide) (hts _ m_X5_change_1) (fun _ h9 => h9) rfl dX5_change_49 ?_
      refine va_get (D := (dC, dI)) (ci := 1) (v := .ref azg_kind) (C := RX1) (T := TX1) (N := 5) hx hb hts in_X5_change_X1 hown hK hP 1 rfl rfl 0 (by decide) (hts _ m_X5_change_2) (fun _ h9 => h9) rfl dX5_change_52 ?_
      refine lv_iload_n hx hb dX5_change_55 rfl (lv_at hl 1 rfl) ?_
      refine va_iald (q0 := 2) (t0 := 0) (n := 25) (f := zg_kind) hx hb hK hP rfl rfl (vp_in_iff.mpr ⟨by omega, by omega⟩) dX5_change_56 ?_
      have hE : f_X5_change zg_kind zg_hand zg_state zg_look zg_size zr_token zr_in zr_size a_c a_w = (zg_kind (a_c).toNatClampNeg) := (by rw [f_X5_change, if_neg c_3, if_pos c_7])
      exact W.iret (v := (zg_kind (a_c).toNatClampNeg)) hx hb hr (fun t ht hW => ⟨⟨(zg_kind (a_c).toNatClampNeg), (), rfl, by rw [hE], trivial⟩, hS.F ht⟩) hS.2.2 dX5_change_57
    by_cases c_8 : a_w = (1 : Int32)
    · have tc_8 : a_w.toInt = (1 : Int) := q_eq c_8
      refine lv_tableIn (off := 44) (tgt := 58) hx hb dX5_change_14 (by rw [c_8]; decide) (by rw [c_8]; decide) (by rw [c_8]; rfl) (by decide) ?_
      refine lv_aload_n hx hb dX5_change_58 rfl (lv_at hl 0 rfl) ?_
      refine va_get (D := (dC, dI)) (ci := 5) (v := .ref zg) (C := RX5) (T := TX5) (N := 6) hx hb hts in_X5_change_X5 hown hK hP 0 rfl rfl 3 (by decide) (hts _ m_X5_change_1) (fun _ h9 => h9) rfl dX5_change_59 ?_
      refine va_get (D := (dC, dI)) (ci := 1) (v := .ref azg_hand) (C := RX1) (T := TX1) (N := 5) hx hb hts in_X5_change_X1 hown hK hP 1 rfl rfl 1 (by decide) (hts _ m_X5_change_3) (fun _ h9 => h9) rfl dX5_change_62 ?_
      refine lv_iload_n hx hb dX5_change_65 rfl (lv_at hl 1 rfl) ?_
      refine va_iald (q0 := 3) (t0 := 0) (n := 25) (f := zg_hand) hx hb hK hP rfl rfl (vp_in_iff.mpr ⟨by omega, by omega⟩) dX5_change_66 ?_
      have hE : f_X5_change zg_kind zg_hand zg_state zg_look zg_size zr_token zr_in zr_size a_c a_w = (zg_hand (a_c).toNatClampNeg) := (by rw [f_X5_change, if_neg c_3, if_neg c_7, if_pos c_8])
      exact W.iret (v := (zg_hand (a_c).toNatClampNeg)) hx hb hr (fun t ht hW => ⟨⟨(zg_hand (a_c).toNatClampNeg), (), rfl, by rw [hE], trivial⟩, hS.F ht⟩) hS.2.2 dX5_change_67
    by_cases c_9 : a_w = (2 : Int32)
    · have tc_9 : a_w.toInt = (2 : Int) := q_eq c_9
      refine lv_tableIn (off := 54) (tgt := 68) hx hb dX5_change_14 (by rw [c_9]; decide) (by rw [c_9]; decide) (by rw [c_9]; rfl) (by decide) ?_
      refine lv_aload_n hx hb dX5_change_68 rfl (lv_at hl 0 rfl) ?_
      refine va_get (D := (dC, dI)) (ci := 5) (v := .ref zg) (C := RX5) (T := TX5) (N := 6) hx hb hts in_X5_change_X5 hown hK hP 0 rfl rfl 3 (by decide) (hts _ m_X5_change_1) (fun _ h9 => h9) rfl dX5_change_69 ?_
      refine va_get (D := (dC, dI)) (ci := 1) (v := .ref azg_state) (C := RX1) (T := TX1) (N := 5) hx hb hts in_X5_change_X1 hown hK hP 1 rfl rfl 2 (by decide) (hts _ m_X5_change_4) (fun _ h9 => h9) rfl dX5_change_72 ?_
      refine lv_iload_n hx hb dX5_change_75 rfl (lv_at hl 1 rfl) ?_
      refine va_iald (q0 := 4) (t0 := 0) (n := 25) (f := zg_state) hx hb hK hP rfl rfl (vp_in_iff.mpr ⟨by omega, by omega⟩) dX5_change_76 ?_
      have hE : f_X5_change zg_kind zg_hand zg_state zg_look zg_size zr_token zr_in zr_size a_c a_w = (zg_state (a_c).toNatClampNeg) := (by rw [f_X5_change, if_neg c_3, if_neg c_7, if_neg c_8, if_pos c_9])
      exact W.iret (v := (zg_state (a_c).toNatClampNeg)) hx hb hr (fun t ht hW => ⟨⟨(zg_state (a_c).toNatClampNeg), (), rfl, by rw [hE], trivial⟩, hS.F ht⟩) hS.2.2 dX5_change_77
    by_cases c_10 : a_w = (3 : Int32)
    · have tc_10 : a_w.toInt = (3 : Int) := q_eq c_10
      refine lv_tableIn (off := 64) (tgt := 78) hx hb dX5_change_14 (by rw [c_10]; decide) (by rw [c_10]; decide) (by rw [c_10]; rfl) (by decide) ?_
      refine lv_aload_n hx hb dX5_change_78 rfl (lv_at hl 0 rfl) ?_
      refine va_get (D := (dC, dI)) (ci := 5) (v := .ref zg) (C := RX5) (T := TX5) (N := 6) hx hb hts in_X5_change_X5 hown hK hP 0 rfl rfl 3 (by decide) (hts _ m_X5_change_1) (fun _ h9 => h9) rfl dX5_change_79 ?_
      refine va_get (D := (dC, dI)) (ci := 1) (v := .ref azg_look) (C := RX1) (T := TX1) (N := 5) hx hb hts in_X5_change_X1 hown hK hP 1 rfl rfl 3 (by decide) (hts _ m_X5_change_5) (fun _ h9 => h9) rfl dX5_change_82 ?_
      refine lv_iload_n hx hb dX5_change_85 rfl (lv_at hl 1 rfl) ?_
      refine va_iald (q0 := 5) (t0 := 0) (n := 25) (f := zg_look) hx hb hK hP rfl rfl (vp_in_iff.mpr ⟨by omega, by omega⟩) dX5_change_86 ?_
      have hE : f_X5_change zg_kind zg_hand zg_state zg_look zg_size zr_token zr_in zr_size a_c a_w = (zg_look (a_c).toNatClampNeg) := (by rw [f_X5_change, if_neg c_3, if_neg c_7, if_neg c_8, if_neg c_9, if_pos c_10])
      exact W.iret (v := (zg_look (a_c).toNatClampNeg)) hx hb hr (fun t ht hW => ⟨⟨(zg_look (a_c).toNatClampNeg), (), rfl, by rw [hE], trivial⟩, hS.F ht⟩) hS.2.2 dX5_change_87
    by_cases c_11 : a_w = (4 : Int32)
    · have tc_11 : a_w.toInt = (4 : Int) := q_eq c_11
      refine lv_tableIn (off := 74) (tgt := 88) hx hb dX5_change_14 (by rw [c_11]; decide) (by rw [c_11]; decide) (by rw [c_11]; rfl) (by decide) ?_
      refine lv_aload_n hx hb dX5_change_88 rfl (lv_at hl 0 rfl) ?_
      refine va_get (D := (dC, dI)) (ci := 5) (v := .ref zr) (C := RX5) (T := TX5) (N := 6) hx hb hts in_X5_change_X5 hown hK hP 0 rfl rfl 1 (by decide) (hts _ m_X5_change_6) (fun _ h9 => h9) rfl dX5_change_89 ?_
      refine lv_iload_n hx hb dX5_change_92 rfl (lv_at hl 1 rfl) ?_
      have hPc := hP.sub (ws' := []) [] rfl
      have hDc := hD.sub (ws' := []) [] (by decide) rfl
      refine va_calli (va_runS (As := [.int a_c]) (rest := [.ref zr]) ⟨hx, hb, hml, hown, hts⟩ (c_X5_bit l dC dI cI cJ H.size a_c) (va_cwS 1 hts gX5_change_X5_bit rfl rfl rfl (by decide +kernel) ⟨Nat.le_of_ble_eq_true rfl, Nat.le_of_ble_eq_true rfl⟩) ⟨fun a U g mk q => ⟨q.1, PreW.call g mk a q.2⟩, fun U hU hW => ⟨rfl, PreW.mk2 hU hW hPc hK hN (hDc.weaken (fun _ _ _ _ => trivial))⟩⟩ rfl rfl hl.1 rfl (lv_room (Nat.le_of_ble_eq_true rfl)) dX5_change_93 ⟨Nat.le_of_ble_eq_true rfl, Nat.le_of_ble_eq_true rfl⟩) hS (fun q hq h => absurd hq (Nat.not_lt.mpr h)) (fun q h => hA q (Nat.le_trans hS.1 h)) (fun r_12 _u t H1 locs ht hvm hw hB hz1 hk1 hS => ?_)
      have hP := va_ro hP hk1
      generalize H1 = H at hP hS ⊢
      have hw : r_12 = f_X5_bit a_c := hw
      subst hw
      obtain ⟨z_13, hz_13⟩ : ∃ z : Int32, z = f_X5_bit a_c := ⟨_, rfl⟩
      have hPc := hP.sub (ws' := [(zr, .inr (2, [.ref azr_sign, .ref azr_token, .ref azr_in, .ref azr_own, .ref azr_since, .int zr_size])), (azr_sign, .inl (cI, 240, .inl zr_sign)), (azr_token, .inl (cI, 240, .inl zr_token)), (azr_in, .inl (cI, 240, .inl zr_in)), (azr_own, .inl (cI, 240, .inl zr_own)), (azr_since, .inl (cI, 240, .inl zr_since))]) [6, 7, 8, 9, 10, 11] rfl
      have hDc := hD.sub (ws' := [(zr, .inr (2, [.ref azr_sign, .ref azr_token, .ref azr_in, .ref azr_own, .ref azr_since, .int zr_size])), (azr_sign, .inl (cI, 240, .inl zr_sign)), (azr_token, .inl (cI, 240, .inl zr_token)), (azr_in, .inl (cI, 240, .inl zr_in)), (azr_own, .inl (cI, 240, .inl zr_own)), (azr_since, .inl (cI, 240, .inl zr_since))]) [6, 7, 8, 9, 10, 11] (by decide) rfl
      refine va_calli (va_runV (As := [.int (f_X5_bit a_c)]) (rest := []) ⟨hx, hb, hml, hown, hts⟩ (c_X2_lettersIn l dC dI cI cJ H.size zr azr_sign azr_token azr_in azr_own azr_since zr_sign zr_token zr_in zr_own zr_since zr_size (f_X5_bit a_c)) (cwV 1 hts gX5_change_X2_lettersIn rfl rfl rfl (by decide +kernel) ⟨Nat.le_of_ble_eq_true rfl, Nat.le_of_ble_eq_true rfl⟩) ⟨fun a U g mk q => ⟨q.1, PreW.call g mk a q.2⟩, va_recv hK hP (ci := 2) (q0 := 6) rfl rfl, fun U hU hW => ⟨rfl, PreW.mk2 hU hW hPc hK hN (hDc.weaken (fun _ _ _ _ => trivial))⟩⟩ rfl rfl hl.1 rfl (lv_room (Nat.le_of_ble_eq_true rfl)) dX5_change_96 ⟨Nat.le_of_ble_eq_true rfl, Nat.le_of_ble_eq_true rfl⟩) hS (fun q hq h => absurd hq (Nat.not_lt.mpr h)) (fun q h => hA q (Nat.le_trans hS.1 h)) (fun r_14 _u t H1 locs ht hvm hw hB hz1 hk1 hS => ?_)
      have hP := va_ro hP hk1
      generalize H1 = H at hP hS ⊢
      have hw : r_14 = f_X2_lettersIn zr_token zr_in zr_size (f_X5_bit a_c) := hw
      subst hw
      obtain ⟨z_15, hz_15⟩ : ∃ z : Int32, z = f_X2_lettersIn zr_token zr_in zr_size (f_X5_bit a_c) := ⟨_, rfl⟩
      have hE : f_X5_change zg_kind zg_hand zg_state zg_look zg_size zr_token zr_in zr_size a_c a_w = (f_X2_lettersIn zr_token zr_in zr_size (f_X5_bit a_c)) := (by rw [f_X5_change, if_neg c_3, if_neg c_7, if_neg c_8, if_neg c_9, if_neg c_10, if_pos c_11])
      exact W.iret (v := (f_X2_lettersIn zr_token zr_in zr_size (f_X5_bit a_c))) hx hb hr (fun t ht hW => ⟨⟨(f_X2_lettersIn zr_token zr_in zr_size (f_X5_bit a_c)), (), rfl, by rw [hE], trivial⟩, hS.F ht⟩) hS.2.2 dX5_change_99
    have tc_7 : ¬ a_w.toInt = (0 : Int) := q_ne c_7
    have tc_8 : ¬ a_w.toInt = (1 : Int) := q_ne c_8
    have tc_9 : ¬ a_w.toInt = (2 : Int) := q_ne c_9
    have tc_10 : ¬ a_w.toInt = (3 : Int) := q_ne c_10
    have tc_11 : ¬ a_w.toInt = (4 : Int) := q_ne c_11
    refine lv_tableOut (tgt := 100) hx hb dX5_change_14 (by omega) (by decide) ?_
    refine lv_iconst (v := (-1 : Int32)) hx hb dX5_change_100 (by decide) ?_
    have hE : f_X5_change zg_kind zg_hand zg_state zg_look zg_size zr_token zr_in zr_size a_c a_w = (-1 : Int32) := (by rw [f_X5_change, if_neg c_3, if_neg c_7, if_neg c_8, if_neg c_9, if_neg c_10, if_neg c_11])
    exact W.iret (v := (-1 : Int32)) hx hb hr (fun t ht hW => ⟨⟨(-1 : Int32), (), rfl, by rw [hE], trivial⟩, hS.F ht⟩) hS.2.2 dX5_change_101
  · have tc_3 : z_2.toInt = (0 : Int) := by rw [hz_2]; exact q_eq c_3
    refine lv_iconst (v := (-1 : Int32)) hx hb dX5_change_11 (by decide) ?_
    have hE : f_X5_change zg_kind zg_hand zg_state zg_look zg_size zr_token zr_in zr_size a_c a_w = (-1 : Int32) := (by rw [f_X5_change, if_pos c_3])
    exact W.iret (v := (-1 : Int32)) hx hb hr (fun t ht hW => ⟨⟨(-1 : Int32), (), rfl, by rw [hE], trivial⟩, hS.F ht⟩) hS.2.2 dX5_change_12
theorem dX5_span_0 : decode cX5_span 0 = .ok (.aload_n 0, 1) := by decide +kernel
theorem dX5_span_1 : decode cX5_span 1 = .ok (.getfield 29, 3) := by decide +kernel
theorem in_X5_span_X5 : ∀ w ∈ wsX50, w ∈ wsX5_span := by decide +kernel
theorem m_X5_span_1 : (.fieldLink RX5 29 "RedlineDesk" "ledger" "LRedlineDesk$Ledger;" : Cond) ∈ wsX5_span := List.mem_of_getElem? (i := 1) (by decide +kernel)
theorem dX5_span_4 : decode cX5_span 4 = .ok (.iload_n 1, 1) := by decide +kernel
theorem dX5_span_5 : decode cX5_span 5 = .ok (.invokevirtual 167, 3) := by decide +kernel
set_option maxRecDepth 20000 in
theorem ggX5_span_X1_names : GoodIn wsX5_span wsX1_names := goodIn_r _ [10, 11, 92, 93, 94, 95, 96] (by decide +kernel) (by decide +kernel)
set_option maxRecDepth 20000 in
theorem gX5_span_X1_names : GoodIn wsX5_span (wsV RX5 167 RX1 yX1_names wsX1_names) := goodIn_app (goodIn_of _ (by decide +kernel)) ggX5_span_X1_names
theorem dX5_span_8 : decode cX5_span 8 = .ok (.ifCond .eq 10, 3) := by decide +kernel
theorem dX5_span_18 : decode cX5_span 18 = .ok (.iconst (-1), 1) := by decide +kernel
theorem dX5_span_19 : decode cX5_span 19 = .ok (.ireturn, 1) := by decide +kernel
theorem dX5_span_11 : decode cX5_span 11 = .ok (.iload_n 2, 1) := by decide +kernel
theorem dX5_span_12 : decode cX5_span 12 = .ok (.invokestatic 69, 3) := by decide +kernel
set_option maxRecDepth 20000 in
theorem ggX5_span_X5_isView : GoodIn wsX5_span wsX5_isView := goodIn_r _ [15] (by decide +kernel) (by decide +kernel)
set_option maxRecDepth 20000 in
theorem gX5_span_X5_isView : GoodIn wsX5_span (va_wsS RX5 69 yX5_isView wsX5_isView) := goodIn_app (goodIn_of _ (by decide +kernel)) ggX5_span_X5_isView
theorem dX5_span_15 : decode cX5_span 15 = .ok (.ifCond .ne 5, 3) := by decide +kernel
theorem dX5_span_20 : decode cX5_span 20 = .ok (.aload_n 0, 1) := by decide +kernel
theorem dX5_span_21 : decode cX5_span 21 = .ok (.iload_n 2, 1) := by decide +kernel
theorem dX5_span_22 : decode cX5_span 22 = .ok (.invokevirtual 73, 3) := by decide +kernel
set_option maxRecDepth 20000 in
theorem ggX5_span_X5_lookAt : GoodIn wsX5_span wsX5_lookAt := goodIn_r _ [19, 1, 2, 4, 20, 21, 22, 9, 23, 24, 25, 26, 27, 28, 29, 7, 8, 10, 11, 30, 14, 31, 32, 33, 34, 35, 36, 37, 38, 39, 40, 41, 42, 43, 44, 45, 46, 47, 48, 49, 50, 51, 52, 53, 54, 55, 56, 57, 58, 59, 60, 61, 62, 63, 64, 65, 66, 67, 68, 69, 75, 76, 77, 78, 79, 80, 92, 93, 94, 95, 96, 81, 82, 83, 84, 85, 86, 87, 88, 89, 90, 91] (by decide +kernel) (by decide +kernel)
set_option maxRecDepth 20000 in
theorem gX5_span_X5_lookAt : GoodIn wsX5_span (wsV RX5 73 RX5 yX5_lookAt wsX5_lookAt) := goodIn_app (goodIn_of _ (by decide +kernel)) ggX5_span_X5_lookAt
theorem dX5_span_25 : decode cX5_span 25 = .ok (.bipush (-2), 2) := by decide +kernel
theorem dX5_span_27 : decode cX5_span 27 = .ok (.istore 4, 2) := by decide +kernel
theorem dX5_span_29 : decode cX5_span 29 = .ok (.iconst 0, 1) := by decide +kernel
theorem dX5_span_30 : decode cX5_span 30 = .ok (.istore 5, 2) := by decide +kernel
theorem dX5_span_32 : decode cX5_span 32 = .ok (.iload 5, 2) := by decide +kernel
theorem dX5_span_34 : decode cX5_span 34 = .ok (.aload_n 0, 1) := by decide +kernel
theorem dX5_span_35 : decode cX5_span 35 = .ok (.getfield 36, 3) := by decide +kernel
theorem m_X5_span_2 : (.fieldLink RX5 36 "RedlineDesk" "shown" "LRedlineDesk$View;" : Cond) ∈ wsX5_span := List.mem_of_getElem? (i := 2) (by decide +kernel)
theorem dX5_span_38 : decode cX5_span 38 = .ok (.getfield 76, 3) := by decide +kernel
theorem in_X5_span_X4 : ∀ w ∈ wsX40, w ∈ wsX5_span := by decide +kernel
theorem m_X5_span_3 : (.fieldLink RX5 76 "RedlineDesk$View" "size" "I" : Cond) ∈ wsX5_span := List.mem_of_getElem? (i := 3) (by decide +kernel)
theorem dX5_span_41 : decode cX5_span 41 = .ok (.if_icmp .ge 65, 3) := by decide +kernel
theorem dX5_span_106 : decode cX5_span 106 = .ok (.iload 4, 2) := by decide +kernel
theorem dX5_span_108 : decode cX5_span 108 = .ok (.ireturn, 1) := by decide +kernel
theorem dX5_span_44 : decode cX5_span 44 = .ok (.iload_n 3, 1) := by decide +kernel
theorem dX5_span_45 : decode cX5_span 45 = .ok (.ifCond .ne 10, 3) := by decide +kernel
theorem dX5_span_55 : decode cX5_span 55 = .ok (.aload_n 0, 1) := by decide +kernel
theorem dX5_span_56 : decode cX5_span 56 = .ok (.getfield 36, 3) := by decide +kernel
theorem dX5_span_59 : decode cX5_span 59 = .ok (.iload 5, 2) := by decide +kernel
theorem dX5_span_61 : decode cX5_span 61 = .ok (.invokevirtual 77, 3) := by decide +kernel
set_option maxRecDepth 20000 in
theorem ggX5_span_X4_spotAt : GoodIn wsX5_span wsX4_spotAt := goodIn_r _ [73, 49, 69, 81, 82, 83, 84, 85] (by decide +kernel) (by decide +kernel)
set_option maxRecDepth 20000 in
theorem gX5_span_X4_spotAt : GoodIn wsX5_span (wsV RX5 77 RX4 yX4_spotAt wsX4_spotAt) := goodIn_app (goodIn_of _ (by decide +kernel)) ggX5_span_X4_spotAt
theorem dX5_span_64 : decode cX5_span 64 = .ok (.istore 6, 2) := by decide +kernel
theorem dX5_span_66 : decode cX5_span 66 = .ok (.aload_n 0, 1) := by decide +kernel
theorem dX5_span_67 : decode cX5_span 67 = .ok (.getfield 19, 3) := by decide +kernel
theorem m_X5_span_4 : (.fieldLink RX5 19 "RedlineDesk" "row" "LRedlineDesk$Row;" : Cond) ∈ wsX5_span := List.mem_of_getElem? (i := 4) (by decide +kernel)
theorem dX5_span_70 : decode cX5_span 70 = .ok (.iload 6, 2) := by decide +kernel
theorem dX5_span_72 : decode cX5_span 72 = .ok (.invokevirtual 81, 3) := by decide +kernel
set_option maxRecDepth 20000 in
theorem ggX5_span_X2_has : GoodIn wsX5_span wsX2_has := goodIn_r _ [56, 57, 86, 87, 88, 89, 90, 91] (by decide +kernel) (by decide +kernel)
set_option maxRecDepth 20000 in
theorem gX5_span_X2_has : GoodIn wsX5_span (wsV RX5 81 RX2 yX2_has wsX2_has) := goodIn_app (goodIn_of _ (by decide +kernel)) ggX5_span_X2_has
theorem dX5_span_75 : decode cX5_span 75 = .ok (.ifCond .eq 25, 3) := by decide +kernel
theorem dX5_span_100 : decode cX5_span 100 = .ok (.iinc 5 1, 3) := by decide +kernel
theorem dX5_span_103 : decode cX5_span 103 = .ok (.goto (-71), 3) := by decide +kernel
theorem dX5_span_78 : decode cX5_span 78 = .ok (.aload_n 0, 1) := by decide +kernel
theorem dX5_span_79 : decode cX5_span 79 = .ok (.getfield 19, 3) := by decide +kernel
theorem dX5_span_82 : decode cX5_span 82 = .ok (.getfield 91, 3) := by decide +kernel
theorem in_X5_span_X2 : ∀ w ∈ wsX20, w ∈ wsX5_span := by decide +kernel
theorem m_X5_span_5 : (.fieldLink RX5 91 "RedlineDesk$Row" "in" "[I" : Cond) ∈ wsX5_span := List.mem_of_getElem? (i := 5) (by decide +kernel)
theorem dX5_span_85 : decode cX5_span 85 = .ok (.iload 6, 2) := by decide +kernel
theorem dX5_span_87 : decode cX5_span 87 = .ok (.iaload, 1) := by decide +kernel
theorem dX5_span_88 : decode cX5_span 88 = .ok (.iload_n 1, 1) := by decide +kernel
theorem dX5_span_89 : decode cX5_span 89 = .ok (.invokestatic 154, 3) := by decide +kernel
set_option maxRecDepth 20000 in
theorem ggX5_span_X5_bit : GoodIn wsX5_span wsX5_bit := goodIn_r _ [31] (by decide +kernel) (by decide +kernel)
set_option maxRecDepth 20000 in
theorem gX5_span_X5_bit : GoodIn wsX5_span (va_wsS RX5 154 yX5_bit wsX5_bit) := goodIn_app (goodIn_of _ (by decide +kernel)) ggX5_span_X5_bit
theorem dX5_span_92 : decode cX5_span 92 = .ok (.iand, 1) := by decide +kernel
theorem dX5_span_93 : decode cX5_span 93 = .ok (.ifCond .eq 7, 3) := by decide +kernel
theorem dX5_span_96 : decode cX5_span 96 = .ok (.iload 5, 2) := by decide +kernel
theorem dX5_span_98 : decode cX5_span 98 = .ok (.istore 4, 2) := by decide +kernel
theorem dX5_span_48 : decode cX5_span 48 = .ok (.iload 4, 2) := by decide +kernel
theorem dX5_span_50 : decode cX5_span 50 = .ok (.bipush (-2), 2) := by decide +kernel
theorem dX5_span_52 : decode cX5_span 52 = .ok (.if_icmp .ne 54, 3) := by decide +kernel
def f_X5_span_L32 (zr_in : Nat → Int32) (zr_size : Int32) (a_c : Int32) (a_l : Int32) (u_10 : (Nat → Int32) × (Nat → Int32) × Int32 × Int32 × Int32) : Nat → Int32 → Int32 → Int32 × (Nat → Int32) × (Nat → Int32) × Int32 × Int32 × Int32
  | 0, _, _ => (0, (fun _ => 0), (fun _ => 0), 0, 0, 0)
  | n_12 + 1, v4_12, v5_12 => if u_10.2.2.1 ≤ v5_12 then (v4_12, u_10.1, u_10.2.1, u_10.2.2.1, u_10.2.2.2.1, u_10.2.2.2.2) else if a_l = (0 : Int32) then if v4_12 = (-2 : Int32) then if (f_X2_has zr_size (f_X4_spotAt u_10.1 u_10.2.2.1 v5_12)) = (0 : Int32) then (f_X5_span_L32 zr_in zr_size a_c a_l u_10 n_12) v4_12 (v5_12 + (1 : Int32)) else if ((zr_in ((f_X4_spotAt u_10.1 u_10.2.2.1 v5_12)).toNatClampNeg) &&& (f_X5_bit a_c)) = (0 : Int32) then (f_X5_span_L32 zr_in zr_size a_c a_l u_10 n_12) v4_12 (v5_12 + (1 : Int32)) else (f_X5_span_L32 zr_in zr_size a_c a_l u_10 n_12) v5_12 (v5_12 + (1 : Int32)) else (v4_12, u_10.1, u_10.2.1, u_10.2.2.1, u_10.2.2.2.1, u_10.2.2.2.2) else if (f_X2_has zr_size (f_X4_spotAt u_10.1 u_10.2.2.1 v5_12)) = (0 : Int32) then (f_X5_span_L32 zr_in zr_size a_c a_l u_10 n_12) v4_12 (v5_12 + (1 : Int32)) else if ((zr_in ((f_X4_spotAt u_10.1 u_10.2.2.1 v5_12)).toNatClampNeg) &&& (f_X5_bit a_c)) = (0 : Int32) then (f_X5_span_L32 zr_in zr_size a_c a_l u_10 n_12) v4_12 (v5_12 + (1 : Int32)) else (f_X5_span_L32 zr_in zr_size a_c a_l u_10 n_12) v5_12 (v5_12 + (1 : Int32))
def f_X5_span_k25_u_10 (zr_in : Nat → Int32) (zr_size : Int32) (a_c : Int32) (a_l : Int32) (u_10 : (Nat → Int32) × (Nat → Int32) × Int32 × Int32 × Int32) : Int32 × (Nat → Int32) × (Nat → Int32) × Int32 × Int32 × Int32 := f_X5_span_L32 zr_in zr_size a_c a_l u_10 5000000000 (-2 : Int32) (0 : Int32)
def f_X5_span (zg_kind : Nat → Int32) (zg_hand : Nat → Int32) (zg_state : Nat → Int32) (zg_size : Int32) (zv_spots : Nat → Int32) (zv_homes : Nat → Int32) (zv_size : Int32) (zv_counts : Int32) (zv_hides : Int32) (zr_token : Nat → Int32) (zr_in : Nat → Int32) (zr_size : Int32) (a_c : Int32) (a_v : Int32) (a_l : Int32) : Int32 × (Nat → Int32) × (Nat → Int32) × Int32 × Int32 × Int32 := if (f_X1_names zg_size a_c) = (0 : Int32) then ((-1 : Int32), zv_spots, zv_homes, zv_size, zv_counts, zv_hides) else if (f_X5_isView a_v) = (0 : Int32) then ((-1 : Int32), zv_spots, zv_homes, zv_size, zv_counts, zv_hides) else f_X5_span_k25_u_10 zr_in zr_size a_c a_l (f_X5_lookAt zg_kind zg_hand zg_state zg_size zv_spots zv_homes zr_token zr_in zr_size a_v)
set_option maxHeartbeats 4000000 in
set_option maxRecDepth 100000 in
theorem c_X5_span (l : Launch) (dC : Nat → ClassId) (dI : Nat → Nat → Nat) (cI cJ : ClassId) (sz : Nat) (zd zg azg_kind azg_hand azg_state azg_look zv azv_spots azv_homes zr azr_sign azr_token azr_in azr_own azr_since zt zw zk : Nat) (zg_kind zg_hand zg_state zg_look zv_spots zv_homes zr_sign zr_token zr_in zr_own zr_since : Nat → Int32) (zg_size zv_size zv_counts zv_hides zr_size : Int32) (a_c : Int32) (a_v : Int32) (a_l : Int32) : Met l yX5_span wsX5_span ({ frames := 31, cells := 0, slots := 0, locals := 783 } : Room) (va_Pc [.ref zd, .int a_c, .int a_v, .int a_l] (PreW dC dI cI cJ sz [(zd, .inr (5, [.ref zt, .ref zr, .ref zw, .ref zg, .ref zv, .ref zk])), (zg, .inr (1, [.ref azg_kind, .ref azg_hand, .ref azg_state, .ref azg_look, .int zg_size])), (azg_kind, .inl (cI, 25, .inl zg_kind)), (azg_hand, .inl (cI, 25, .inl zg_hand)), (azg_state, .inl (cI, 25, .inl zg_state)), (azg_look, .inl (cI, 25, .inl zg_look)), (zv, .inr (4, [.ref azv_spots, .ref azv_homes, .int zv_size, .int zv_counts, .int zv_hides])), (azv_spots, .inl (cI, 240, .inl zv_spots)), (azv_homes, .inl (cI, 240, .inl zv_homes)), (zr, .inr (2, [.ref azr_sign, .ref azr_token, .ref azr_in, .ref azr_own, .ref azr_since, .int zr_size])), (azr_sign, .inl (cI, 240, .inl zr_sign)), (azr_token, .inl (cI, 240, .inl zr_token)), (azr_in, .inl (cI, 240, .inl zr_in)), (azr_own, .inl (cI, 240, .inl zr_own)), (azr_since, .inl (cI, 240, .inl zr_since))])) (va_Qi (fun (r : Int32) (u : (Nat → Int32) × (Nat → Int32) × Int32 × Int32 × Int32) => r = (f_X5_span zg_kind zg_hand zg_state zg_size zv_spots zv_homes zv_size zv_counts zv_hides zr_token zr_in zr_size a_c a_v a_l).1 ∧ u = (f_X5_span zg_kind zg_hand zg_state zg_size zv_spots zv_homes zv_size zv_counts zv_hides zr_token zr_in zr_size a_c a_v a_l).2) (fun (u : (Nat → Int32) × (Nat → Int32) × Int32 × Int32 × Int32) t => PostW dC dI [(zd, .inr (5, [.ref zt, .ref zr, .ref zw, .ref zg, .ref zv, .ref zk])), (zg, .inr (1, [.ref azg_kind, .ref azg_hand, .ref azg_state, .ref azg_look, .int zg_size])), (azg_kind, .inl (cI, 25, .inl zg_kind)), (azg_hand, .inl (cI, 25, .inl zg_hand)), (azg_state, .inl (cI, 25, .inl zg_state)), (azg_look, .inl (cI, 25, .inl zg_look)), (zv, .inr (4, [.ref azv_spots, .ref azv_homes, .int u.2.2.1, .int u.2.2.2.1, .int u.2.2.2.2])), (azv_spots, .inl (cI, 240, .inl u.1)), (azv_homes, .inl (cI, 240, .inl u.2.1)), (zr, .inr (2, [.ref azr_sign, .ref azr_token, .ref azr_in, .ref azr_own, .ref azr_since, .int zr_size])), (azr_sign, .inl (cI, 240, .inl zr_sign)), (azr_token, .inl (cI, 240, .inl zr_token)), (azr_in, .inl (cI, 240, .inl zr_in)), (azr_own, .inl (cI, 240, .inl zr_own)), (azr_since, .inl (cI, 240, .inl zr_since))] t (va_A [(zd, .inr (5, [.ref zt, .ref zr, .ref zw, .ref zg, .ref zv, .ref zk])), (zg, .inr (1, [.ref azg_kind, .ref azg_hand, .ref azg_state, .ref azg_look, .int zg_size])), (azg_kind, .inl (cI, 25, .inl zg_kind)), (azg_hand, .inl (cI, 25, .inl zg_hand)), (azg_state, .inl (cI, 25, .inl zg_state)), (azg_look, .inl (cI, 25, .inl zg_look)), (zv, .inr (4, [.ref azv_spots, .ref azv_homes, .int zv_size, .int zv_counts, .int zv_hides])), (azv_spots, .inl (cI, 240, .inl zv_spots)), (azv_homes, .inl (cI, 240, .inl zv_homes)), (zr, .inr (2, [.ref azr_sign, .ref azr_token, .ref azr_in, .ref azr_own, .ref azr_since, .int zr_size])), (azr_sign, .inl (cI, 240, .inl zr_sign)), (azr_token, .inl (cI, 240, .inl zr_token)), (azr_in, .inl (cI, 240, .inl zr_in)), (azr_own, .inl (cI, 240, .inl zr_own)), (azr_since, .inl (cI, 240, .inl zr_since))] sz)) (va_A [(zd, .inr (5, [.ref zt, .ref zr, .ref zw, .ref zg, .ref zv, .ref zk])), (zg, .inr (1, [.ref azg_kind, .ref azg_hand, .ref azg_state, .ref azg_look, .int zg_size])), (azg_kind, .inl (cI, 25, .inl zg_kind)), (azg_hand, .inl (cI, 25, .inl zg_hand)), (azg_state, .inl (cI, 25, .inl zg_state)), (azg_look, .inl (cI, 25, .inl zg_look)), (zv, .inr (4, [.ref azv_spots, .ref azv_homes, .int zv_size, .int zv_counts, .int zv_hides])), (azv_spots, .inl (cI, 240, .inl zv_spots)), (azv_homes, .inl (cI, 240, .inl zv_homes)), (zr, .inr (2, [.ref azr_sign, .ref azr_token, .ref azr_in, .ref azr_own, .ref azr_since, .int zr_size])), (azr_sign, .inl (cI, 240, .inl zr_sign)), (azr_token, .inl (cI, 240, .inl zr_token)), (azr_in, .inl (cI, 240, .inl zr_in)), (azr_own, .inl (cI, 240, .inl zr_own)), (azr_since, .inl (cI, 240, .inl zr_since))] sz)) 0 0 (va_A [(zd, .inr (5, [.ref zt, .ref zr, .ref zw, .ref zg, .ref zv, .ref zk])), (zg, .inr (1, [.ref azg_kind, .ref azg_hand, .ref azg_state, .ref azg_look, .int zg_size])), (azg_kind, .inl (cI, 25, .inl zg_kind)), (azg_hand, .inl (cI, 25, .inl zg_hand)), (azg_state, .inl (cI, 25, .inl zg_state)), (azg_look, .inl (cI, 25, .inl zg_look)), (zv, .inr (4, [.ref azv_spots, .ref azv_homes, .int zv_size, .int zv_counts, .int zv_hides])), (azv_spots, .inl (cI, 240, .inl zv_spots)), (azv_homes, .inl (cI, 240, .inl zv_homes)), (zr, .inr (2, [.ref azr_sign, .ref azr_token, .ref azr_in, .ref azr_own, .ref azr_since, .int zr_size])), (azr_sign, .inl (cI, 240, .inl zr_sign)), (azr_token, .inl (cI, 240, .inl zr_token)), (azr_in, .inl (cI, 240, .inl zr_in)), (azr_own, .inl (cI, 240, .inl zr_own)), (azr_since, .inl (cI, 240, .inl zr_since))] sz) := by
  refine Met.ofW (cc := cX5_span) (maxL := 7) (ret := (some .int)) (by decide) rfl ?_
  intro p e s m args below meth c s₁ B hml hv
  obtain ⟨rfl, hsz, hP, hK, hN, hD0⟩ := hv
  have hx := B.exec
  have hb := B.bytes
  have hr := B.returns
  have hts := atoms_spec (ws := wsX5_span) B.pre
  have hown : s.vm.findClass RX5 = some m.cls := findClass_of_methodNamed B.named
  have hlocks := B.notSynchronized
  subst hsz
  have hD := hD0.self (sz := s.heap.size)
  generalize hAe : va_A [(zd, .inr (5, [.ref zt, .ref zr, .ref zw, .ref zg, .ref zv, .ref zk])), (zg, .inr (1, [.ref azg_kind, .ref azg_hand, .ref azg_state, .ref azg_look, .int zg_size])), (azg_kind, .inl (cI, 25, .inl zg_kind)), (azg_hand, .inl (cI, 25, .inl zg_hand)), (azg_state, .inl (cI, 25, .inl zg_state)), (azg_look, .inl (cI, 25, .inl zg_look)), (zv, .inr (4, [.ref azv_spots, .ref azv_homes, .int zv_size, .int zv_counts, .int zv_hides])), (azv_spots, .inl (cI, 240, .inl zv_spots)), (azv_homes, .inl (cI, 240, .inl zv_homes)), (zr, .inr (2, [.ref azr_sign, .ref azr_token, .ref azr_in, .ref azr_own, .ref azr_since, .int zr_size])), (azr_sign, .inl (cI, 240, .inl zr_sign)), (azr_token, .inl (cI, 240, .inl zr_token)), (azr_in, .inl (cI, 240, .inl zr_in)), (azr_own, .inl (cI, 240, .inl zr_own)), (azr_since, .inl (cI, 240, .inl zr_since))] s.heap.size = A at hD ⊢
  have hA : ∀ q : Nat, s.heap.size ≤ q → A q := fun q h => by rw [← hAe]; exact Or.inr h
  have hS : va_S A s.heap s.heap [] := va_S.rf
  have hP : va_P (dC, dI) vwCl [(zd, .inr (5, [.ref zt, .ref zr, .ref zw, .ref zg, .ref zv, .ref zk])), (zg, .inr (1, [.ref azg_kind, .ref azg_hand, .ref azg_state, .ref azg_look, .int zg_size])), (azg_kind, .inl (cI, 25, .inl zg_kind)), (azg_hand, .inl (cI, 25, .inl zg_hand)), (azg_state, .inl (cI, 25, .inl zg_state)), (azg_look, .inl (cI, 25, .inl zg_look)), (zv, .inr (4, [.ref azv_spots, .ref azv_homes, .int zv_size, .int zv_counts, .int zv_hides])), (azv_spots, .inl (cI, 240, .inl zv_spots)), (azv_homes, .inl (cI, 240, .inl zv_homes)), (zr, .inr (2, [.ref azr_sign, .ref azr_token, .ref azr_in, .ref azr_own, .ref azr_since, .int zr_size])), (azr_sign, .inl (cI, 240, .inl zr_sign)), (azr_token, .inl (cI, 240, .inl zr_token)), (azr_in, .inl (cI, 240, .inl zr_in)), (azr_own, .inl (cI, 240, .inl zr_own)), (azr_since, .inl (cI, 240, .inl zr_since))] s.heap := hP
  have hl := lv_entry ([.ref zd, .int a_c, .int a_v, .int a_l]) (n := 7) (Nat.le_of_ble_eq_true rfl)
  rw [lg_entry_eq]
  generalize (lg_sl ([.ref zd, .int a_c, .int a_v, .int a_l]) ++ List.replicate (7 - (lg_sl ([.ref zd, .int a_c, .int a_v, .int a_l])).length) Slot.unset).toArray = ls at hl ⊢
  have hl : lv_has ls 7 [(0, .ref zd), (1, .int a_c), (2, .int a_v), (3, .int a_l)] := hl
  refine W_nm (fun QQ hQQ => ?_)
  refine lv_aload_n hx hb dX5_span_0 rfl (lv_at hl 0 rfl) ?_
  refine va_get (D := (dC, dI)) (ci := 5) (v := .ref zg) (C := RX5) (T := TX5) (N := 6) hx hb hts in_X5_span_X5 hown hK hP 0 rfl rfl 3 (by decide) (hts _ m_X5_span_1) (fun _ h9 => h9) rfl dX5_span_1 ?_
  refine lv_iload_n hx hb dX5_span_4 rfl (lv_at hl 1 rfl) ?_
  have hPc := hP.sub (ws' := [(zg, .inr (1, [.ref azg_kind, .ref azg_hand, .ref azg_state, .ref azg_look, .int zg_size])), (azg_kind, .inl (cI, 25, .inl zg_kind)), (azg_hand, .inl (cI, 25, .inl zg_hand)), (azg_state, .inl (cI, 25, .inl zg_state)), (azg_look, .inl (cI, 25, .inl zg_look))]) [1, 2, 3, 4, 5] rfl
  have hDc := hD.sub (ws' := [(zg, .inr (1, [.ref azg_kind, .ref azg_hand, .ref azg_state, .ref azg_look, .int zg_size])), (azg_kind, .inl (cI, 25, .inl zg_kind)), (azg_hand, .inl (cI, 25, .inl zg_hand)), (azg_state, .inl (cI, 25, .inl zg_state)), (azg_look, .inl (cI, 25, .inl zg_look))]) [1, 2, 3, 4, 5] (by decide) rfl
  refine va_calli (va_runV (As := [.int a_c]) (rest := []) ⟨hx, hb, hml, hown, hts⟩ (c_X1_names l dC dI cI cJ s.heap.size zg azg_kind azg_hand azg_state azg_look zg_kind zg_hand zg_state zg_look zg_size a_c) (cwV 1 hts gX5_span_X1_names rfl rfl rfl (by decide +kernel) ⟨Nat.le_of_ble_eq_true rfl, Nat.le_of_ble_eq_true rfl⟩) ⟨fun a U g mk q => ⟨q.1, PreW.call g mk a q.2⟩, va_recv hK hP (ci := 1) (q0 := 1) rfl rfl, fun U hU hW => ⟨rfl, PreW.mk2 hU hW hPc hK hN (hDc.weaken (fun _ _ _ _ => trivial))⟩⟩ rfl rfl hl.1 rfl (lv_room (Nat.le_of_ble_eq_true rfl)) dX5_span_5 ⟨Nat.le_of_ble_eq_true rfl, Nat.le_of_ble_eq_true rfl⟩) hS (fun q hq h => absurd hq (Nat.not_lt.mpr h)) (fun q h => hA q (Nat.le_trans hS.1 h)) (fun r_1 _u t H1 locs ht hvm hw hB hz1 hk1 hS => ?_)
  have hP := va_ro hP hk1
  generalize H1 = H at hP hS ⊢
  have hw : r_1 = f_X1_names zg_size a_c := hw
  subst hw
  obtain ⟨z_2, hz_2⟩ : ∃ z : Int32, z = f_X1_names zg_size a_c := ⟨_, rfl⟩
  refine lv_if_eq (tgt := 18) hx hb dX5_span_8 (by decide) (fun c_3 => ?_) (fun c_3 => ?_)
  · have tc_3 : z_2.toInt = (0 : Int) := by rw [hz_2]; exact q_eq c_3
    refine lv_iconst (v := (-1 : Int32)) hx hb dX5_span_18 (by decide) ?_
    rw [hQQ]
    have hE : f_X5_span zg_kind zg_hand zg_state zg_size zv_spots zv_homes zv_size zv_counts zv_hides zr_token zr_in zr_size a_c a_v a_l = ((-1 : Int32), zv_spots, zv_homes, zv_size, zv_counts, zv_hides) := (by rw [f_X5_span, if_pos c_3])
    exact W.iret (v := (-1 : Int32)) hx hb hr (fun t ht hW => ⟨⟨(-1 : Int32), (zv_spots, zv_homes, zv_size, zv_counts, zv_hides), rfl, ⟨by rw [hE], by rw [hE]⟩, ⟨by rw [ht]; exact hP, hD⟩⟩, hS.F ht⟩) hS.2.2 dX5_span_19
  · have tc_3 : ¬ z_2.toInt = (0 : Int) := by rw [hz_2]; exact q_ne c_3
    obtain ⟨b_4, b_5, b_6⟩ := names_in c_3
    refine lv_iload_n hx hb dX5_span_11 rfl (lv_at hl 2 rfl) ?_
    have hPc := hP.sub (ws' := []) [] rfl
    have hDc := hD.sub (ws' := []) [] (by decide) rfl
    refine va_calli (va_runS (As := [.int a_v]) (rest := []) ⟨hx, hb, hml, hown, hts⟩ (c_X5_isView l dC dI cI cJ H.size a_v) (va_cwS 1 hts gX5_span_X5_isView rfl rfl rfl (by decide +kernel) ⟨Nat.le_of_ble_eq_true rfl, Nat.le_of_ble_eq_true rfl⟩) ⟨fun a U g mk q => ⟨q.1, PreW.call g mk a q.2⟩, fun U hU hW => ⟨rfl, PreW.mk2 hU hW hPc hK hN (hDc.weaken (fun _ _ _ _ => trivial))⟩⟩ rfl rfl hl.1 rfl (lv_room (Nat.le_of_ble_eq_true rfl)) dX5_span_12 ⟨Nat.le_of_ble_eq_true rfl, Nat.le_of_ble_eq_true rfl⟩) hS (fun q hq h => absurd hq (Nat.not_lt.mpr h)) (fun q h => hA q (Nat.le_trans hS.1 h)) (fun r_7 _u t H1 locs ht hvm hw hB hz1 hk1 hS => ?_)
    have hP := va_ro hP hk1
    generalize H1 = H at hP hS ⊢
    have hw : r_7 = f_X5_isView a_v := hw
    subst hw
    obtain ⟨z_8, hz_8⟩ : ∃ z : Int32, z = f_X5_isView a_v := ⟨_, rfl⟩
    refine lv_if_ne (tgt := 20) hx hb dX5_span_15 (by decide) (fun c_9 => ?_) (fun c_9 => ?_)
    · have tc_9 : ¬ z_8.toInt = (0 : Int) := by rw [hz_8]; exact q_ne c_9
      refine lv_aload_n hx hb dX5_span_20 rfl (lv_at hl 0 rfl) ?_
      refine lv_iload_n hx hb dX5_span_21 rfl (lv_at hl 2 rfl) ?_
      have hPc := hP.sub (ws' := [(zd, .inr (5, [.ref zt, .ref zr, .ref zw, .ref zg, .ref zv, .ref zk])), (zg, .inr (1, [.ref azg_kind, .ref azg_hand, .ref azg_state, .ref azg_look, .int zg_size])), (azg_kind, .inl (cI, 25, .inl zg_kind)), (azg_hand, .inl (cI, 25, .inl zg_hand)), (azg_state, .inl (cI, 25, .inl zg_state)), (azg_look, .inl (cI, 25, .inl zg_look)), (zv, .inr (4, [.ref azv_spots, .ref azv_homes, .int zv_size, .int zv_counts, .int zv_hides])), (azv_spots, .inl (cI, 240, .inl zv_spots)), (azv_homes, .inl (cI, 240, .inl zv_homes)), (zr, .inr (2, [.ref azr_sign, .ref azr_token, .ref azr_in, .ref azr_own, .ref azr_since, .int zr_size])), (azr_sign, .inl (cI, 240, .inl zr_sign)), (azr_token, .inl (cI, 240, .inl zr_token)), (azr_in, .inl (cI, 240, .inl zr_in)), (azr_own, .inl (cI, 240, .inl zr_own)), (azr_since, .inl (cI, 240, .inl zr_since))]) [0, 1, 2, 3, 4, 5, 6, 7, 8, 9, 10, 11, 12, 13, 14] rfl
      have hDc := hD.sub (ws' := [(zd, .inr (5, [.ref zt, .ref zr, .ref zw, .ref zg, .ref zv, .ref zk])), (zg, .inr (1, [.ref azg_kind, .ref azg_hand, .ref azg_state, .ref azg_look, .int zg_size])), (azg_kind, .inl (cI, 25, .inl zg_kind)), (azg_hand, .inl (cI, 25, .inl zg_hand)), (azg_state, .inl (cI, 25, .inl zg_state)), (azg_look, .inl (cI, 25, .inl zg_look)), (zv, .inr (4, [.ref azv_spots, .ref azv_homes, .int zv_size, .int zv_counts, .int zv_hides])), (azv_spots, .inl (cI, 240, .inl zv_spots)), (azv_homes, .inl (cI, 240, .inl zv_homes)), (zr, .inr (2, [.ref azr_sign, .ref azr_token, .ref azr_in, .ref azr_own, .ref azr_since, .int zr_size])), (azr_sign, .inl (cI, 240, .inl zr_sign)), (azr_token, .inl (cI, 240, .inl zr_token)), (azr_in, .inl (cI, 240, .inl zr_in)), (azr_own, .inl (cI, 240, .inl zr_own)), (azr_since, .inl (cI, 240, .inl zr_since))]) [0, 1, 2, 3, 4, 5, 6, 7, 8, 9, 10, 11, 12, 13, 14] (by decide) rfl
      have hFc := va_free (wc := [(zd, .inr (5, [.ref zt, .ref zr, .ref zw, .ref zg, .ref zv, .ref zk])), (zg, .inr (1, [.ref azg_kind, .ref azg_hand, .ref azg_state, .ref azg_look, .int zg_size])), (azg_kind, .inl (cI, 25, .inl zg_kind)), (azg_hand, .inl (cI, 25, .inl zg_hand)), (azg_state, .inl (cI, 25, .inl zg_state)), (azg_look, .inl (cI, 25, .inl zg_look)), (zv, .inr (4, [.ref azv_spots, .ref azv_homes, .int zv_size, .int zv_counts, .int zv_hides])), (azv_spots, .inl (cI, 240, .inl zv_spots)), (azv_homes, .inl (cI, 240, .inl zv_homes)), (zr, .inr (2, [.ref azr_sign, .ref azr_token, .ref azr_in, .ref azr_own, .ref azr_since, .int zr_size])), (azr_sign, .inl (cI, 240, .inl zr_sign)), (azr_token, .inl (cI, 240, .inl zr_token)), (azr_in, .inl (cI, 240, .inl zr_in)), (azr_own, .inl (cI, 240, .inl zr_own)), (azr_since, .inl (cI, 240, .inl zr_since))]) hD hS hA [0, 1, 2, 3, 4, 5, 6, 7, 8, 9, 10, 11, 12, 13, 14] rfl
      refine va_callv (va_runV (As := [.int a_v]) (rest := []) ⟨hx, hb, hml, hown, hts⟩ (c_X5_lookAt l dC dI cI cJ H.size zd zg azg_kind azg_hand azg_state azg_look zv azv_spots azv_homes zr azr_sign azr_token azr_in azr_own azr_since zt zw zk zg_kind zg_hand zg_state zg_look zv_spots zv_homes zr_sign zr_token zr_in zr_own zr_since zg_size zv_size zv_counts zv_hides zr_size a_v) (cwV 1 hts gX5_span_X5_lookAt rfl rfl rfl (by decide +kernel) ⟨Nat.le_of_ble_eq_true rfl, Nat.le_of_ble_eq_true rfl⟩) ⟨fun a U g mk q => ⟨q.1, PreW.call g mk a q.2⟩, va_recv hK hP (ci := 5) (q0 := 0) rfl rfl, fun U hU hW => ⟨rfl, PreW.mk2 hU hW hPc hK hN (hDc.weaken (fun _ _ _ _ => trivial))⟩⟩ rfl rfl hl.1 rfl (lv_room (Nat.le_of_ble_eq_true rfl)) dX5_span_22 ⟨Nat.le_of_ble_eq_true rfl, Nat.le_of_ble_eq_true rfl⟩) hS (fun q _ h => hFc q h) hFc (fun u_10 t H1 locs ht hvm hw hB hz1 hk1 hS => ?_)
      obtain ⟨hB1, hB2⟩ : PostW dC dI [(zd, .inr (5, [.ref zt, .ref zr, .ref zw, .ref zg, .ref zv, .ref zk])), (zg, .inr (1, [.ref azg_kind, .ref azg_hand, .ref azg_state, .ref azg_look, .int zg_size])), (azg_kind, .inl (cI, 25, .inl zg_kind)), (azg_hand, .inl (cI, 25, .inl zg_hand)), (azg_state, .inl (cI, 25, .inl zg_state)), (azg_look, .inl (cI, 25, .inl zg_look)), (zv, .inr (4, [.ref azv_spots, .ref azv_homes, .int u_10.2.2.1, .int u_10.2.2.2.1, .int u_10.2.2.2.2])), (azv_spots, .inl (cI, 240, .inl u_10.1)), (azv_homes, .inl (cI, 240, .inl u_10.2.1)), (zr, .inr (2, [.ref azr_sign, .ref azr_token, .ref azr_in, .ref azr_own, .ref azr_since, .int zr_size])), (azr_sign, .inl (cI, 240, .inl zr_sign)), (azr_token, .inl (cI, 240, .inl zr_token)), (azr_in, .inl (cI, 240, .inl zr_in)), (azr_own, .inl (cI, 240, .inl zr_own)), (azr_since, .inl (cI, 240, .inl zr_since))] t _ := hB
      rw [ht] at hB1
      obtain ⟨hP, hD⟩ := va_join (wr := []) (w1 := [(zd, .inr (5, [.ref zt, .ref zr, .ref zw, .ref zg, .ref zv, .ref zk])), (zg, .inr (1, [.ref azg_kind, .ref azg_hand, .ref azg_state, .ref azg_look, .int zg_size])), (azg_kind, .inl (cI, 25, .inl zg_kind)), (azg_hand, .inl (cI, 25, .inl zg_hand)), (azg_state, .inl (cI, 25, .inl zg_state)), (azg_look, .inl (cI, 25, .inl zg_look)), (zv, .inr (4, [.ref azv_spots, .ref azv_homes, .int u_10.2.2.1, .int u_10.2.2.2.1, .int u_10.2.2.2.2])), (azv_spots, .inl (cI, 240, .inl u_10.1)), (azv_homes, .inl (cI, 240, .inl u_10.2.1)), (zr, .inr (2, [.ref azr_sign, .ref azr_token, .ref azr_in, .ref azr_own, .ref azr_since, .int zr_size])), (azr_sign, .inl (cI, 240, .inl zr_sign)), (azr_token, .inl (cI, 240, .inl zr_token)), (azr_in, .inl (cI, 240, .inl zr_in)), (azr_own, .inl (cI, 240, .inl zr_own)), (azr_since, .inl (cI, 240, .inl zr_since))]) hP hD [0, 1, 2, 3, 4, 5, 6, 7, 8, 9, 10, 11, 12, 13, 14] [] rfl rfl (by decide) (by decide) hk1 hFc hB1 hB2
      generalize H1 = H at hP hS ⊢
      have hP : va_P (dC, dI) vwCl [(zd, .inr (5, [.ref zt, .ref zr, .ref zw, .ref zg, .ref zv, .ref zk])), (zg, .inr (1, [.ref azg_kind, .ref azg_hand, .ref azg_state, .ref azg_look, .int zg_size])), (azg_kind, .inl (cI, 25, .inl zg_kind)), (azg_hand, .inl (cI, 25, .inl zg_hand)), (azg_state, .inl (cI, 25, .inl zg_state)), (azg_look, .inl (cI, 25, .inl zg_look)), (zv, .inr (4, [.ref azv_spots, .ref azv_homes, .int u_10.2.2.1, .int u_10.2.2.2.1, .int u_10.2.2.2.2])), (azv_spots, .inl (cI, 240, .inl u_10.1)), (azv_homes, .inl (cI, 240, .inl u_10.2.1)), (zr, .inr (2, [.ref azr_sign, .ref azr_token, .ref azr_in, .ref azr_own, .ref azr_since, .int zr_size])), (azr_sign, .inl (cI, 240, .inl zr_sign)), (azr_token, .inl (cI, 240, .inl zr_token)), (azr_in, .inl (cI, 240, .inl zr_in)), (azr_own, .inl (cI, 240, .inl zr_own)), (azr_since, .inl (cI, 240, .inl zr_since))] H := hP
      have hD : va_D A [(zd, .inr (5, [.ref zt, .ref zr, .ref zw, .ref zg, .ref zv, .ref zk])), (zg, .inr (1, [.ref azg_kind, .ref azg_hand, .ref azg_state, .ref azg_look, .int zg_size])), (azg_kind, .inl (cI, 25, .inl zg_kind)), (azg_hand, .inl (cI, 25, .inl zg_hand)), (azg_state, .inl (cI, 25, .inl zg_state)), (azg_look, .inl (cI, 25, .inl zg_look)), (zv, .inr (4, [.ref azv_spots, .ref azv_homes, .int u_10.2.2.1, .int u_10.2.2.2.1, .int u_10.2.2.2.2])), (azv_spots, .inl (cI, 240, .inl u_10.1)), (azv_homes, .inl (cI, 240, .inl u_10.2.1)), (zr, .inr (2, [.ref azr_sign, .ref azr_token, .ref azr_in, .ref azr_own, .ref azr_since, .int zr_size])), (azr_sign, .inl (cI, 240, .inl zr_sign)), (azr_token, .inl (cI, 240, .inl zr_token)), (azr_in, .inl (cI, 240, .inl zr_in)), (azr_own, .inl (cI, 240, .inl zr_own)), (azr_since, .inl (cI, 240, .inl zr_since))] := hD
      have hw2 : u_10 = f_X5_lookAt zg_kind zg_hand zg_state zg_size zv_spots zv_homes zr_token zr_in zr_size a_v := hw
      have hI11 : f_X5_span zg_kind zg_hand zg_state zg_size zv_spots zv_homes zv_size zv_counts zv_hides zr_token zr_in zr_size a_c a_v a_l = f_X5_span_k25_u_10 zr_in zr_size a_c a_l u_10 := (by rw [hw2]; rw [f_X5_span, if_neg c_3, if_neg c_9])
      refine lv_bipush (v := (-2 : Int32)) hx hb dX5_span_25 (by decide) ?_
      refine lv_istore (lv' := [(4, .int (-2 : Int32)), (0, .ref zd), (1, .int a_c), (2, .int a_v), (3, .int a_l)]) hx hb dX5_span_27 hl (by decide) rfl (fun ls hl => ?_)
      refine lv_iconst (v := (0 : Int32)) hx hb dX5_span_29 (by decide) ?_
      refine lv_istore (lv' := [(5, .int (0 : Int32)), (4, .int (-2 : Int32)), (0, .ref zd), (1, .int a_c), (2, .int a_v), (3, .int a_l)]) hx hb dX5_span_30 hl (by decide) rfl (fun ls hl => ?_)
      have hloop_12 : ∀ (n_12 : Nat) (v4_12 : Int32) (v5_12 : Int32) , (u_10.2.2.1.toInt - v5_12.toInt).toNat < n_12 → f_X5_span zg_kind zg_hand zg_state zg_size zv_spots zv_homes zv_size zv_counts zv_hides zr_token zr_in zr_size a_c a_v a_l = f_X5_span_L32 zr_in zr_size a_c a_l u_10 n_12 v4_12 v5_12 → ∀ (H : Heap) (locs : List Loc), va_P (dC, dI) vwCl [(zd, .inr (5, [.ref zt, .ref zr, .ref zw, .ref zg, .ref zv, .ref zk])), (zg, .inr (1, [.ref azg_kind, .ref azg_hand, .ref azg_state, .ref azg_look, .int zg_size])), (azg_kind, .inl (cI, 25, .inl zg_kind)), (azg_hand, .inl (cI, 25, .inl zg_hand)), (azg_state, .inl (cI, 25, .inl zg_state)), (azg_look, .inl (cI, 25, .inl zg_look)), (zv, .inr (4, [.ref azv_spots, .ref azv_homes, .int u_10.2.2.1, .int u_10.2.2.2.1, .int u_10.2.2.2.2])), (azv_spots, .inl (cI, 240, .inl u_10.1)), (azv_homes, .inl (cI, 240, .inl u_10.2.1)), (zr, .inr (2, [.ref azr_sign, .ref azr_token, .ref azr_in, .ref azr_own, .ref azr_since, .int zr_size])), (azr_sign, .inl (cI, 240, .inl zr_sign)), (azr_token, .inl (cI, 240, .inl zr_token)), (azr_in, .inl (cI, 240, .inl zr_in)), (azr_own, .inl (cI, 240, .inl zr_own)), (azr_since, .inl (cI, 240, .inl zr_since))] H → va_D A [(zd, .inr (5, [.ref zt, .ref zr, .ref zw, .ref zg, .ref zv, .ref zk])), (zg, .inr (1, [.ref azg_kind, .ref azg_hand, .ref azg_state, .ref azg_look, .int zg_size])), (azg_kind, .inl (cI, 25, .inl zg_kind)), (azg_hand, .inl (cI, 25, .inl zg_hand)), (azg_state, .inl (cI, 25, .inl zg_state)), (azg_look, .inl (cI, 25, .inl zg_look)), (zv, .inr (4, [.ref azv_spots, .ref azv_homes, .int u_10.2.2.1, .int u_10.2.2.2.1, .int u_10.2.2.2.2])), (azv_spots, .inl (cI, 240, .inl u_10.1)), (azv_homes, .inl (cI, 240, .inl u_10.2.1)), (zr, .inr (2, [.ref azr_sign, .ref azr_token, .ref azr_in, .ref azr_own, .ref azr_since, .int zr_size])), (azr_sign, .inl (cI, 240, .inl zr_sign)), (azr_token, .inl (cI, 240, .inl zr_token)), (azr_in, .inl (cI, 240, .inl zr_in)), (azr_own, .inl (cI, 240, .inl zr_own)), (azr_since, .inl (cI, 240, .inl zr_since))] → va_S A s.heap H locs → ∀ ls : Array Slot, lv_has ls 7 [(0, .ref zd), (1, .int a_c), (2, .int a_v), (3, .int a_l), (4, .int v4_12), (5, .int v5_12)] → W p l e (headSpec wsX5_span ({ frames := 31, cells := 0, slots := 0, locals := 783 } : Room)).room s m ([.ref zd, .int a_c, .int a_v, .int a_l] : List Value).toArray below meth c H locs 0 0 QQ (F0 m 32 ls []) := by
        intro n_12
        induction n_12 with
        | zero => intro v4_12 v5_12  hmu; exact absurd hmu (Nat.not_lt_zero _)
        | succ n_12 ih_12 =>
          intro v4_12 v5_12  hmu_12 hI_12 H locs hP hD hS ls hl
          have rb := ti_rng u_10.2.2.1
          have rx := ti_rng v5_12
          refine lv_iload hx hb dX5_span_32 (lv_at hl 5 rfl) ?_
          refine lv_aload_n hx hb dX5_span_34 rfl (lv_at hl 0 rfl) ?_
          refine va_get (D := (dC, dI)) (ci := 5) (v := .ref zv) (C := RX5) (T := TX5) (N := 6) hx hb hts in_X5_span_X5 hown hK hP 0 rfl rfl 4 (by decide) (hts _ m_X5_span_2) (fun _ h9 => h9) rfl dX5_span_35 ?_
          refine va_get (D := (dC, dI)) (ci := 4) (v := .int u_10.2.2.1) (C := RX4) (T := TX4) (N := 5) hx hb hts in_X5_span_X4 hown hK hP 6 rfl rfl 2 (by decide) (hts _ m_X5_span_3) (fun _ h9 => h9) rfl dX5_span_38 ?_
          refine lv_icmp_ge (tgt := 106) hx hb dX5_span_41 (by decide) (fun c_13 => ?_) (fun c_13 => ?_)
          · have tc_13 : u_10.2.2.1.toInt ≤ v5_12.toInt := q_le c_13
            refine lv_iload hx hb dX5_span_106 (lv_at hl 4 rfl) ?_
            rw [hQQ]
            have hE : f_X5_span zg_kind zg_hand zg_state zg_size zv_spots zv_homes zv_size zv_counts zv_hides zr_token zr_in zr_size a_c a_v a_l = (v4_12, u_10.1, u_10.2.1, u_10.2.2.1, u_10.2.2.2.1, u_10.2.2.2.2) := (hI_12.trans (by rw [f_X5_span_L32, if_pos c_13]))
            exact W.iret (v := v4_12) hx hb hr (fun t ht hW => ⟨⟨v4_12, (u_10.1, u_10.2.1, u_10.2.2.1, u_10.2.2.2.1, u_10.2.2.2.2), rfl, ⟨by rw [hE], by rw [hE]⟩, ⟨by rw [ht]; exact hP, hD⟩⟩, hS.F ht⟩) hS.2.2 dX5_span_108
          · have tc_13 : v5_12.toInt < u_10.2.2.1.toInt := q_nle c_13
            refine lv_iload_n hx hb dX5_span_44 rfl (lv_at hl 3 rfl) ?_
            refine lv_if_ne (tgt := 55) hx hb dX5_span_45 (by decide) (fun c_14 => ?_) (fun c_14 => ?_)
            · have tc_14 : ¬ a_l.toInt = (0 : Int) := q_ne c_14
              refine lv_aload_n hx hb dX5_span_55 rfl (lv_at hl 0 rfl) ?_
              refine va_get (D := (dC, dI)) (ci := 5) (v := .ref zv) (C := RX5) (T := TX5) (N := 6) hx hb hts in_X5_span_X5 hown hK hP 0 rfl rfl 4 (by decide) (hts _ m_X5_span_2) (fun _ h9 => h9) rfl dX5_span_56 ?_
              refine lv_iload hx hb dX5_span_59 (lv_at hl 5 rfl) ?_
              have hPc := hP.sub (ws' := [(zv, .inr (4, [.ref azv_spots, .ref azv_homes, .int u_10.2.2.1, .int u_10.2.2.2.1, .int u_10.2.2.2.2])), (azv_spots, .inl (cI, 240, .inl u_10.1)), (azv_homes, .inl (cI, 240, .inl u_10.2.1))]) [6, 7, 8] rfl
              have hDc := hD.sub (ws' := [(zv, .inr (4, [.ref azv_spots, .ref azv_homes, .int u_10.2.2.1, .int u_10.2.2.2.1, .int u_10.2.2.2.2])), (azv_spots, .inl (cI, 240, .inl u_10.1)), (azv_homes, .inl (cI, 240, .inl u_10.2.1))]) [6, 7, 8] (by decide) rfl
              refine va_calli (va_runV (As := [.int v5_12]) (rest := []) ⟨hx, hb, hml, hown, hts⟩ (c_X4_spotAt l dC dI cI cJ H.size zv azv_spots azv_homes u_10.1 u_10.2.1 u_10.2.2.1 u_10.2.2.2.1 u_10.2.2.2.2 v5_12) (cwV 1 hts gX5_span_X4_spotAt rfl rfl rfl (by decide +kernel) ⟨Nat.le_of_ble_eq_true rfl, Nat.le_of_ble_eq_true rfl⟩) ⟨fun a U g mk q => ⟨q.1, PreW.call g mk a q.2⟩, va_recv hK hP (ci := 4) (q0 := 6) rfl rfl, fun U hU hW => ⟨rfl, PreW.mk2 hU hW hPc hK hN (hDc.weaken (fun _ _ _ _ => trivial))⟩⟩ rfl rfl hl.1 rfl (lv_room (Nat.le_of_ble_eq_true rfl)) dX5_span_61 ⟨Nat.le_of_ble_eq_true rfl, Nat.le_of_ble_eq_true rfl⟩) hS (fun q hq h => absurd hq (Nat.not_lt.mpr h)) (fun q h => hA q (Nat.le_trans hS.1 h)) (fun r_15 _u t H1 locs ht hvm hw hB hz1 hk1 hS => ?_)
              have hP := va_ro hP hk1
              generalize H1 = H at hP hS ⊢
              have hw : r_15 = f_X4_spotAt u_10.1 u_10.2.2.1 v5_12 := hw
              subst hw
              obtain ⟨z_16, hz_16⟩ : ∃ z : Int32, z = f_X4_spotAt u_10.1 u_10.2.2.1 v5_12 := ⟨_, rfl⟩
              refine lv_istore (lv' := [(6, .int (f_X4_spotAt u_10.1 u_10.2.2.1 v5_12)), (0, .ref zd), (1, .int a_c), (2, .int a_v), (3, .int a_l), (4, .int v4_12), (5, .int v5_12)]) hx hb dX5_span_64 hl (by decide) rfl (fun ls hl => ?_)
              refine lv_aload_n hx hb dX5_span_66 rfl (lv_at hl 1 rfl) ?_
              refine va_get (D := (dC, dI)) (ci := 5) (v := .ref zr) (C := RX5) (T := TX5) (N := 6) hx hb hts in_X5_span_X5 hown hK hP 0 rfl rfl 1 (by decide) (hts _ m_X5_span_4) (fun _ h9 => h9) rfl dX5_span_67 ?_
              refine lv_iload hx hb dX5_span_70 (lv_at hl 0 rfl) ?_
              have hPc := hP.sub (ws' := [(zr, .inr (2, [.ref azr_sign, .ref azr_token, .ref azr_in, .ref azr_own, .ref azr_since, .int zr_size])), (azr_sign, .inl (cI, 240, .inl zr_sign)), (azr_token, .inl (cI, 240, .inl zr_token)), (azr_in, .inl (cI, 240, .inl zr_in)), (azr_own, .inl (cI, 240, .inl zr_own)), (azr_since, .inl (cI, 240, .inl zr_since))]) [9, 10, 11, 12, 13, 14] rfl
              have hDc := hD.sub (ws' := [(zr, .inr (2, [.ref azr_sign, .ref azr_token, .ref azr_in, .ref azr_own, .ref azr_since, .int zr_size])), (azr_sign, .inl (cI, 240, .inl zr_sign)), (azr_token, .inl (cI, 240, .inl zr_token)), (azr_in, .inl (cI, 240, .inl zr_in)), (azr_own, .inl (cI, 240, .inl zr_own)), (azr_since, .inl (cI, 240, .inl zr_since))]) [9, 10, 11, 12, 13, 14] (by decide) rfl
              refine va_calli (va_runV (As := [.int (f_X4_spotAt u_10.1 u_10.2.2.1 v5_12)]) (rest := []) ⟨hx, hb, hml, hown, hts⟩ (c_X2_has l dC dI cI cJ H.size zr azr_sign azr_token azr_in azr_own azr_since zr_sign zr_token zr_in zr_own zr_since zr_size (f_X4_spotAt u_10.1 u_10.2.2.1 v5_12)) (cwV 1 hts gX5_span_X2_has rfl rfl rfl (by decide +kernel) ⟨Nat.le_of_ble_eq_true rfl, Nat.le_of_ble_eq_true rfl⟩) ⟨fun a U g mk q => ⟨q.1, PreW.call g mk a q.2⟩, va_recv hK hP (ci := 2) (q0 := 9) rfl rfl, fun U hU hW => ⟨rfl, PreW.mk2 hU hW hPc hK hN (hDc.weaken (fun _ _ _ _ => trivial))⟩⟩ rfl rfl hl.1 rfl (lv_room (Nat.le_of_ble_eq_true rfl)) dX5_span_72 ⟨Nat.le_of_ble_eq_true rfl, Nat.le_of_ble_eq_true rfl⟩) hS (fun q hq h => absurd hq (Nat.not_lt.mpr h)) (fun q h => hA q (Nat.le_trans hS.1 h)) (fun r_17 _u t H1 locs ht hvm hw hB hz1 hk1 hS => ?_)
              have hP := va_ro hP hk1
              generalize H1 = H at hP hS ⊢
              have hw : r_17 = f_X2_has zr_size (f_X4_spotAt u_10.1 u_10.2.2.1 v5_12) := hw
              subst hw
              obtain ⟨z_18, hz_18⟩ : ∃ z : Int32, z = f_X2_has zr_size (f_X4_spotAt u_10.1 u_10.2.2.1 v5_12) := ⟨_, rfl⟩
              refine lv_if_eq (tgt := 100) hx hb dX5_span_75 (by decide) (fun c_19 => ?_) (fun c_19 => ?_)
              · have tc_19 : z_18.toInt = (0 : Int) := by rw [hz_18]; exact q_eq c_19
                refine lv_iinc (v := (v5_12 + (1 : Int32))) (lv' := [(5, .int (v5_12 + (1 : Int32))), (6, .int (f_X4_spotAt u_10.1 u_10.2.2.1 v5_12)), (0, .ref zd), (1, .int a_c), (2, .int a_v), (3, .int a_l), (4, .int v4_12)]) hx hb dX5_span_100 hl (k := 6) rfl rfl (by decide) rfl (fun ls hl => ?_)
                obtain ⟨z_20, hz_20⟩ : ∃ z : Int32, z = (v5_12 + (1 : Int32)) := ⟨_, rfl⟩
                try have gz_20 : z_20.toInt = v5_12.toInt + (1 : Int) := by rw [hz_20]; exact ti_add2 rfl rfl (by omega) (by omega)
                refine lv_goto (tgt := 32) hx hb dX5_span_103 (by decide) ?_
                exact ih_12 v4_12 (v5_12 + (1 : Int32)) (by rw [← hz_20]; omega) (hI_12.trans (by rw [f_X5_span_L32, if_neg c_13, if_neg c_14, if_pos c_19])) _ _ hP hD hS ls (lv_sub hl [2, 3, 4, 5, 6, 0] rfl)
              · have tc_19 : ¬ z_18.toInt = (0 : Int) := by rw [hz_18]; exact q_ne c_19
                obtain ⟨b_21, b_22, b_23⟩ := has_in c_19
                try simp only [← hz_16] at b_21 b_22 b_23
                refine lv_aload_n hx hb dX5_span_78 rfl (lv_at hl 1 rfl) ?_
                refine va_get (D := (dC, dI)) (ci := 5) (v := .ref zr) (C := RX5) (T := TX5) (N := 6) hx hb hts in_X5_span_X5 hown hK hP 0 rfl rfl 1 (by decide) (hts _ m_X5_span_4) (fun _ h9 => h9) rfl dX5_span_79 ?_
                refine va_get (D := (dC, dI)) (ci := 2) (v := .ref azr_in) (C := RX2) (T := TX2) (N := 6) hx hb hts in_X5_span_X2 hown hK hP 9 rfl rfl 2 (by decide) (hts _ m_X5_span_5) (fun _ h9 => h9) rfl dX5_span_82 ?_
                refine lv_iload hx hb dX5_span_85 (lv_at hl 0 rfl) ?_
                refine va_iald (q0 := 12) (t0 := 0) (n := 240) (f := zr_in) hx hb hK hP rfl rfl (by rw [← hz_16]; exact vp_in_iff.mpr ⟨by omega, by omega⟩) dX5_span_87 ?_
                refine lv_iload_n hx hb dX5_span_88 rfl (lv_at hl 2 rfl) ?_
                have hPc := hP.sub (ws' := []) [] rfl
                have hDc := hD.sub (ws' := []) [] (by decide) rfl
                refine va_calli (va_runS (As := [.int a_c]) (rest := [.int (zr_in ((f_X4_spotAt u_10.1 u_10.2.2.1 v5_12)).toNatClampNeg)]) ⟨hx, hb, hml, hown, hts⟩ (c_X5_bit l dC dI cI cJ H.size a_c) (va_cwS 1 hts gX5_span_X5_bit rfl rfl rfl (by decide +kernel) ⟨Nat.le_of_ble_eq_true rfl, Nat.le_of_ble_eq_true rfl⟩) ⟨fun a U g mk q => ⟨q.1, PreW.call g mk a q.2⟩, fun U hU hW => ⟨rfl, PreW.mk2 hU hW hPc hK hN (hDc.weaken (fun _ _ _ _ => trivial))⟩⟩ rfl rfl hl.1 rfl (lv_room (Nat.le_of_ble_eq_true rfl)) dX5_span_89 ⟨Nat.le_of_ble_eq_true rfl, Nat.le_of_ble_eq_true rfl⟩) hS (fun q hq h => absurd hq (Nat.not_lt.mpr h)) (fun q h => hA q (Nat.le_trans hS.1 h)) (fun r_24 _u t H1 locs ht hvm hw hB hz1 hk1 hS => ?_)
                have hP := va_ro hP hk1
                generalize H1 = H at hP hS ⊢
                have hw : r_24 = f_X5_bit a_c := hw
                subst hw
                obtain ⟨z_25, hz_25⟩ : ∃ z : Int32, z = f_X5_bit a_c := ⟨_, rfl⟩
                refine lv_iand hx hb dX5_span_92 ?_
                refine lv_if_eq (tgt := 100) hx hb dX5_span_93 (by decide) (fun c_26 => ?_) (fun c_26 => ?_)
                · refine lv_iinc (v := (v5_12 + (1 : Int32))) (lv' := [(5, .int (v5_12 + (1 : Int32))), (6, .int (f_X4_spotAt u_10.1 u_10.2.2.1 v5_12)), (0, .ref zd), (1, .int a_c), (2, .int a_v), (3, .int a_l), (4, .int v4_12)]) hx hb dX5_span_100 hl (k := 6) rfl rfl (by decide) rfl (fun ls hl => ?_)
                  obtain ⟨z_27, hz_27⟩ : ∃ z : Int32, z = (v5_12 + (1 : Int32)) := ⟨_, rfl⟩
                  try have gz_27 : z_27.toInt = v5_12.toInt + (1 : Int) := by rw [hz_27]; exact ti_add2 rfl rfl (by omega) (by omega)
                  refine lv_goto (tgt := 32) hx hb dX5_span_103 (by decide) ?_
                  exact ih_12 v4_12 (v5_12 + (1 : Int32)) (by rw [← hz_27]; omega) (hI_12.trans (by rw [f_X5_span_L32, if_neg c_13, if_neg c_14, if_neg c_19, if_pos c_26])) _ _ hP hD hS ls (lv_sub hl [2, 3, 4, 5, 6, 0] rfl)
                · refine lv_iload hx hb dX5_span_96 (lv_at hl 6 rfl) ?_
                  refine lv_istore (lv' := [(4, .int v5_12), (6, .int (f_X4_spotAt u_10.1 u_10.2.2.1 v5_12)), (0, .ref zd), (1, .int a_c), (2, .int a_v), (3, .int a_l), (5, .int v5_12)]) hx hb dX5_span_98 hl (by decide) rfl (fun ls hl => ?_)
                  refine lv_iinc (v := (v5_12 + (1 : Int32))) (lv' := [(5, .int (v5_12 + (1 : Int32))), (4, .int v5_12), (6, .int (f_X4_spotAt u_10.1 u_10.2.2.1 v5_12)), (0, .ref zd), (1, .int a_c), (2, .int a_v), (3, .int a_l)]) hx hb dX5_span_100 hl (k := 6) rfl rfl (by decide) rfl (fun ls hl => ?_)
                  obtain ⟨z_28, hz_28⟩ : ∃ z : Int32, z = (v5_12 + (1 : Int32)) := ⟨_, rfl⟩
                  try have gz_28 : z_28.toInt = v5_12.toInt + (1 : Int) := by rw [hz_28]; exact ti_add2 rfl rfl (by omega) (by omega)
                  refine lv_goto (tgt := 32) hx hb dX5_span_103 (by decide) ?_
                  exact ih_12 v5_12 (v5_12 + (1 : Int32)) (by rw [← hz_28]; omega) (hI_12.trans (by rw [f_X5_span_L32, if_neg c_13, if_neg c_14, if_neg c_19, if_neg c_26])) _ _ hP hD hS ls (lv_sub hl [3, 4, 5, 6, 1, 0] rfl)
            · have tc_14 : a_l.toInt = (0 : Int) := q_eq c_14
              refine lv_iload hx hb dX5_span_48 (lv_at hl 4 rfl) ?_
              refine lv_bipush (v := (-2 : Int32)) hx hb dX5_span_50 (by decide) ?_
              refine lv_icmp_ne (tgt := 106) hx hb dX5_span_52 (by decide) (fun c_29 => ?_) (fun c_29 => ?_)
              · have tc_29 : ¬ v4_12.toInt = (-2 : Int) := q_ne c_29
                refine lv_iload hx hb dX5_span_106 (lv_at hl 4 rfl) ?_
                rw [hQQ]
                have hE : f_X5_span zg_kind zg_hand zg_state zg_size zv_spots zv_homes zv_size zv_counts zv_hides zr_token zr_in zr_size a_c a_v a_l = (v4_12, u_10.1, u_10.2.1, u_10.2.2.1, u_10.2.2.2.1, u_10.2.2.2.2) := (hI_12.trans (by rw [f_X5_span_L32, if_neg c_13, if_pos c_14, if_neg c_29]))
                exact W.iret (v := v4_12) hx hb hr (fun t ht hW => ⟨⟨v4_12, (u_10.1, u_10.2.1, u_10.2.2.1, u_10.2.2.2.1, u_10.2.2.2.2), rfl, ⟨by rw [hE], by rw [hE]⟩, ⟨by rw [ht]; exact hP, hD⟩⟩, hS.F ht⟩) hS.2.2 dX5_span_108
              · have tc_29 : v4_12.toInt = (-2 : Int) := q_eq c_29
                refine lv_aload_n hx hb dX5_span_55 rfl (lv_at hl 0 rfl) ?_
                refine va_get (D := (dC, dI)) (ci := 5) (v := .ref zv) (C := RX5) (T := TX5) (N := 6) hx hb hts in_X5_span_X5 hown hK hP 0 rfl rfl 4 (by decide) (hts _ m_X5_span_2) (fun _ h9 => h9) rfl dX5_span_56 ?_
                refine lv_iload hx hb dX5_span_59 (lv_at hl 5 rfl) ?_
                have hPc := hP.sub (ws' := [(zv, .inr (4, [.ref azv_spots, .ref azv_homes, .int u_10.2.2.1, .int u_10.2.2.2.1, .int u_10.2.2.2.2])), (azv_spots, .inl (cI, 240, .inl u_10.1)), (azv_homes, .inl (cI, 240, .inl u_10.2.1))]) [6, 7, 8] rfl
                have hDc := hD.sub (ws' := [(zv, .inr (4, [.ref azv_spots, .ref azv_homes, .int u_10.2.2.1, .int u_10.2.2.2.1, .int u_10.2.2.2.2])), (azv_spots, .inl (cI, 240, .inl u_10.1)), (azv_homes, .inl (cI, 240, .inl u_10.2.1))]) [6, 7, 8] (by decide) rfl
                refine va_calli (va_runV (As := [.int v5_12]) (rest := []) ⟨hx, hb, hml, hown, hts⟩ (c_X4_spotAt l dC dI cI cJ H.size zv azv_spots azv_homes u_10.1 u_10.2.1 u_10.2.2.1 u_10.2.2.2.1 u_10.2.2.2.2 v5_12) (cwV 1 hts gX5_span_X4_spotAt rfl rfl rfl (by decide +kernel) ⟨Nat.le_of_ble_eq_true rfl, Nat.le_of_ble_eq_true rfl⟩) ⟨fun a U g mk q => ⟨q.1, PreW.call g mk a q.2⟩, va_recv hK hP (ci := 4) (q0 := 6) rfl rfl, fun U hU hW => ⟨rfl, PreW.mk2 hU hW hPc hK hN (hDc.weaken (fun _ _ _ _ => trivial))⟩⟩ rfl rfl hl.1 rfl (lv_room (Nat.le_of_ble_eq_true rfl)) dX5_span_61 ⟨Nat.le_of_ble_eq_true rfl, Nat.le_of_ble_eq_true rfl⟩) hS (fun q hq h => absurd hq (Nat.not_lt.mpr h)) (fun q h => hA q (Nat.le_trans hS.1 h)) (fun r_30 _u t H1 locs ht hvm hw hB hz1 hk1 hS => ?_)
                have hP := va_ro hP hk1
                generalize H1 = H at hP hS ⊢
                have hw : r_30 = f_X4_spotAt u_10.1 u_10.2.2.1 v5_12 := hw
                subst hw
                obtain ⟨z_31, hz_31⟩ : ∃ z : Int32, z = f_X4_spotAt u_10.1 u_10.2.2.1 v5_12 := ⟨_, rfl⟩
                refine lv_istore (lv' := [(6, .int (f_X4_spotAt u_10.1 u_10.2.2.1 v5_12)), (0, .ref zd), (1, .int a_c), (2, .int a_v), (3, .int a_l), (4, .int v4_12), (5, .int v5_12)]) hx hb dX5_span_64 hl (by decide) rfl (fun ls hl => ?_)
                refine lv_aload_n hx hb dX5_span_66 rfl (lv_at hl 1 rfl) ?_
                refine va_get (D := (dC, dI)) (ci := 5) (v := .ref zr) (C := RX5) (T := TX5) (N := 6) hx hb hts in_X5_span_X5 hown hK hP 0 rfl rfl 1 (by decide) (hts _ m_X5_span_4) (fun _ h9 => h9) rfl dX5_span_67 ?_
                refine lv_iload hx hb dX5_span_70 (lv_at hl 0 rfl) ?_
                have hPc := hP.sub (ws' := [(zr, .inr (2, [.ref azr_sign, .ref azr_token, .ref azr_in, .ref azr_own, .ref azr_since, .int zr_size])), (azr_sign, .inl (cI, 240, .inl zr_sign)), (azr_token, .inl (cI, 240, .inl zr_token)), (azr_in, .inl (cI, 240, .inl zr_in)), (azr_own, .inl (cI, 240, .inl zr_own)), (azr_since, .inl (cI, 240, .inl zr_since))]) [9, 10, 11, 12, 13, 14] rfl
                have hDc := hD.sub (ws' := [(zr, .inr (2, [.ref azr_sign, .ref azr_token, .ref azr_in, .ref azr_own, .ref azr_since, .int zr_size])), (azr_sign, .inl (cI, 240, .inl zr_sign)), (azr_token, .inl (cI, 240, .inl zr_token)), (azr_in, .inl (cI, 240, .inl zr_in)), (azr_own, .inl (cI, 240, .inl zr_own)), (azr_since, .inl (cI, 240, .inl zr_since))]) [9, 10, 11, 12, 13, 14] (by decide) rfl
                refine va_calli (va_runV (As := [.int (f_X4_spotAt u_10.1 u_10.2.2.1 v5_12)]) (rest := []) ⟨hx, hb, hml, hown, hts⟩ (c_X2_has l dC dI cI cJ H.size zr azr_sign azr_token azr_in azr_own azr_since zr_sign zr_token zr_in zr_own zr_since zr_size (f_X4_spotAt u_10.1 u_10.2.2.1 v5_12)) (cwV 1 hts gX5_span_X2_has rfl rfl rfl (by decide +kernel) ⟨Nat.le_of_ble_eq_true rfl, Nat.le_of_ble_eq_true rfl⟩) ⟨fun a U g mk q => ⟨q.1, PreW.call g mk a q.2⟩, va_recv hK hP (ci := 2) (q0 := 9) rfl rfl, fun U hU hW => ⟨rfl, PreW.mk2 hU hW hPc hK hN (hDc.weaken (fun _ _ _ _ => trivial))⟩⟩ rfl rfl hl.1 rfl (lv_room (Nat.le_of_ble_eq_true rfl)) dX5_span_72 ⟨Nat.le_of_ble_eq_true rfl, Nat.le_of_ble_eq_true rfl⟩) hS (fun q hq h => absurd hq (Nat.not_lt.mpr h)) (fun q h => hA q (Nat.le_trans hS.1 h)) (fun r_32 _u t H1 locs ht hvm hw hB hz1 hk1 hS => ?_)
                have hP := va_ro hP hk1
                generalize H1 = H at hP hS ⊢
                have hw : r_32 = f_X2_has zr_size (f_X4_spotAt u_10.1 u_10.2.2.1 v5_12) := hw
                subst hw
                obtain ⟨z_33, hz_33⟩ : ∃ z : Int32, z = f_X2_has zr_size (f_X4_spotAt u_10.1 u_10.2.2.1 v5_12) := ⟨_, rfl⟩
                refine lv_if_eq (tgt := 100) hx hb dX5_span_75 (by decide) (fun c_34 => ?_) (fun c_34 => ?_)
                · have tc_34 : z_33.toInt = (0 : Int) := by rw [hz_33]; exact q_eq c_34
                  refine lv_iinc (v := (v5_12 + (1 : Int32))) (lv' := [(5, .int (v5_12 + (1 : Int32))), (6, .int (f_X4_spotAt u_10.1 u_10.2.2.1 v5_12)), (0, .ref zd), (1, .int a_c), (2, .int a_v), (3, .int a_l), (4, .int v4_12)]) hx hb dX5_span_100 hl (k := 6) rfl rfl (by decide) rfl (fun ls hl => ?_)
                  obtain ⟨z_35, hz_35⟩ : ∃ z : Int32, z = (v5_12 + (1 : Int32)) := ⟨_, rfl⟩
                  try have gz_35 : z_35.toInt = v5_12.toInt + (1 : Int) := by rw [hz_35]; exact ti_add2 rfl rfl (by omega) (by omega)
                  refine lv_goto (tgt := 32) hx hb dX5_span_103 (by decide) ?_
                  exact ih_12 v4_12 (v5_12 + (1 : Int32)) (by rw [← hz_35]; omega) (hI_12.trans (by rw [f_X5_span_L32, if_neg c_13, if_pos c_14, if_pos c_29, if_pos c_34])) _ _ hP hD hS ls (lv_sub hl [2, 3, 4, 5, 6, 0] rfl)
                · have tc_34 : ¬ z_33.toInt = (0 : Int) := by rw [hz_33]; exact q_ne c_34
                  obtain ⟨b_36, b_37, b_38⟩ := has_in c_34
                  try simp only [← hz_31] at b_36 b_37 b_38
                  refine lv_aload_n hx hb dX5_span_78 rfl (lv_at hl 1 rfl) ?_
                  refine va_get (D := (dC, dI)) (ci := 5) (v := .ref zr) (C := RX5) (T := TX5) (N := 6) hx hb hts in_X5_span_X5 hown hK hP 0 rfl rfl 1 (by decide) (hts _ m_X5_span_4) (fun _ h9 => h9) rfl dX5_span_79 ?_
                  refine va_get (D := (dC, dI)) (ci := 2) (v := .ref azr_in) (C := RX2) (T := TX2) (N := 6) hx hb hts in_X5_span_X2 hown hK hP 9 rfl rfl 2 (by decide) (hts _ m_X5_span_5) (fun _ h9 => h9) rfl dX5_span_82 ?_
                  refine lv_iload hx hb dX5_span_85 (lv_at hl 0 rfl) ?_
                  refine va_iald (q0 := 12) (t0 := 0) (n := 240) (f := zr_in) hx hb hK hP rfl rfl (by rw [← hz_31]; exact vp_in_iff.mpr ⟨by omega, by omega⟩) dX5_span_87 ?_
                  refine lv_iload_n hx hb dX5_span_88 rfl (lv_at hl 2 rfl) ?_
                  have hPc := hP.sub (ws' := []) [] rfl
                  have hDc := hD.sub (ws' := []) [] (by decide) rfl
                  refine va_calli (va_runS (As := [.int a_c]) (rest := [.int (zr_in ((f_X4_spotAt u_10.1 u_10.2.2.1 v5_12)).toNatClampNeg)]) ⟨hx, hb, hml, hown, hts⟩ (c_X5_bit l dC dI cI cJ H.size a_c) (va_cwS 1 hts gX5_span_X5_bit rfl rfl rfl (by decide +kernel) ⟨Nat.le_of_ble_eq_true rfl, Nat.le_of_ble_eq_true rfl⟩) ⟨fun a U g mk q => ⟨q.1, PreW.call g mk a q.2⟩, fun U hU hW => ⟨rfl, PreW.mk2 hU hW hPc hK hN (hDc.weaken (fun _ _ _ _ => trivial))⟩⟩ rfl rfl hl.1 rfl (lv_room (Nat.le_of_ble_eq_true rfl)) dX5_span_89 ⟨Nat.le_of_ble_eq_true rfl, Nat.le_of_ble_eq_true rfl⟩) hS (fun q hq h => absurd hq (Nat.not_lt.mpr h)) (fun q h => hA q (Nat.le_trans hS.1 h)) (fun r_39 _u t H1 locs ht hvm hw hB hz1 hk1 hS => ?_)
                  have hP := va_ro hP hk1
                  generalize H1 = H at hP hS ⊢
                  have hw : r_39 = f_X5_bit a_c := hw
                  subst hw
                  obtain ⟨z_40, hz_40⟩ : ∃ z : Int32, z = f_X5_bit a_c := ⟨_, rfl⟩
                  refine lv_iand hx hb dX5_span_92 ?_
                  refine lv_if_eq (tgt := 100) hx hb dX5_span_93 (by decide) (fun c_41 => ?_) (fun c_41 => ?_)
                  · refine lv_iinc (v := (v5_12 + (1 : Int32))) (lv' := [(5, .int (v5_12 + (1 : Int32))), (6, .int (f_X4_spotAt u_10.1 u_10.2.2.1 v5_12)), (0, .ref zd), (1, .int a_c), (2, .int a_v), (3, .int a_l), (4, .int v4_12)]) hx hb dX5_span_100 hl (k := 6) rfl rfl (by decide) rfl (fun ls hl => ?_)
                    obtain ⟨z_42, hz_42⟩ : ∃ z : Int32, z = (v5_12 + (1 : Int32)) := ⟨_, rfl⟩
                    try have gz_42 : z_42.toInt = v5_12.toInt + (1 : Int) := by rw [hz_42]; exact ti_add2 rfl rfl (by omega) (by omega)
                    refine lv_goto (tgt := 32) hx hb dX5_span_103 (by decide) ?_
                    exact ih_12 v4_12 (v5_12 + (1 : Int32)) (by rw [← hz_42]; omega) (hI_12.trans (by rw [f_X5_span_L32, if_neg c_13, if_pos c_14, if_pos c_29, if_neg c_34, if_pos c_41])) _ _ hP hD hS ls (lv_sub hl [2, 3, 4, 5, 6, 0] rfl)
                  · refine lv_iload hx hb dX5_span_96 (lv_at hl 6 rfl) ?_
                    refine lv_istore (lv' := [(4, .int v5_12), (6, .int (f_X4_spotAt u_10.1 u_10.2.2.1 v5_12)), (0, .ref zd), (1, .int a_c), (2, .int a_v), (3, .int a_l), (5, .int v5_12)]) hx hb dX5_span_98 hl (by decide) rfl (fun ls hl => ?_)
                    refine lv_iinc (v := (v5_12 + (1 : Int32))) (lv' := [(5, .int (v5_12 + (1 : Int32))), (4, .int v5_12), (6, .int (f_X4_spotAt u_10.1 u_10.2.2.1 v5_12)), (0, .ref zd), (1, .int a_c), (2, .int a_v), (3, .int a_l)]) hx hb dX5_span_100 hl (k := 6) rfl rfl (by decide) rfl (fun ls hl => ?_)
                    obtain ⟨z_43, hz_43⟩ : ∃ z : Int32, z = (v5_12 + (1 : Int32)) := ⟨_, rfl⟩
                    try have gz_43 : z_43.toInt = v5_12.toInt + (1 : Int) := by rw [hz_43]; exact ti_add2 rfl rfl (by omega) (by omega)
                    refine lv_goto (tgt := 32) hx hb dX5_span_103 (by decide) ?_
                    exact ih_12 v5_12 (v5_12 + (1 : Int32)) (by rw [← hz_43]; omega) (hI_12.trans (by rw [f_X5_span_L32, if_neg c_13, if_pos c_14, if_pos c_29, if_neg c_34, if_neg c_41])) _ _ hP hD hS ls (lv_sub hl [3, 4, 5, 6, 1, 0] rfl)
      have rb := ti_rng u_10.2.2.1
      have rx := ti_rng (0 : Int32)
      exact hloop_12 5000000000 (-2 : Int32) (0 : Int32) (by first | omega | exact (show (u_10.2.2.1.toInt - (0 : Int)).toNat < 5000000000 by omega)) (hI11.trans (by rw [f_X5_span_k25_u_10])) _ _ hP hD hS ls (lv_sub hl [2, 3, 4, 5, 1, 0] rfl)
    · have tc_9 : z_8.toInt = (0 : Int) := by rw [hz_8]; exact q_eq c_9
      refine lv_iconst (v := (-1 : Int32)) hx hb dX5_span_18 (by decide) ?_
      rw [hQQ]
      have hE : f_X5_span zg_kind zg_hand zg_state zg_size zv_spots zv_homes zv_size zv_counts zv_hides zr_token zr_in zr_size a_c a_v a_l = ((-1 : Int32), zv_spots, zv_homes, zv_size, zv_counts, zv_hides) := (by rw [f_X5_span, if_neg c_3, if_pos c_9])
      exact W.iret (v := (-1 : Int32)) hx hb hr (fun t ht hW => ⟨⟨(-1 : Int32), (zv_spots, zv_homes, zv_size, zv_counts, zv_hides), rfl, ⟨by rw [hE], by rw [hE]⟩, ⟨by rw [ht]; exact hP, hD⟩⟩, hS.F ht⟩) hS.2.2 dX5_span_19
theorem dX5_look_0 : decode cX5_look 0 = .ok (.aload_n 0, 1) := by decide +kernel
theorem dX5_look_1 : decode cX5_look 1 = .ok (.getfield 29, 3) := by decide +kernel
theorem in_X5_look_X5 : ∀ w ∈ wsX50, w ∈ wsX5_look := by decide +kernel
theorem m_X5_look_1 : (.fieldLink RX5 29 "RedlineDesk" "ledger" "LRedlineDesk$Ledger;" : Cond) ∈ wsX5_look := List.mem_of_getElem? (i := 1) (by decide +kernel)
theorem dX5_look_4 : decode cX5_look 4 = .ok (.iload_n 1, 1) := by decide +kernel
theorem dX5_look_5 : decode cX5_look 5 = .ok (.invokevirtual 167, 3) := by decide +kernel
set_option maxRecDepth 20000 in
theorem ggX5_look_X1_names : GoodIn wsX5_look wsX1_names := goodIn_r _ [9, 10, 21, 22, 23, 24, 25] (by decide +kernel) (by decide +kernel)
set_option maxRecDepth 20000 in
theorem gX5_look_X1_names : GoodIn wsX5_look (wsV RX5 167 RX1 yX1_names wsX1_names) := goodIn_app (goodIn_of _ (by decide +kernel)) ggX5_look_X1_names
theorem dX5_look_8 : decode cX5_look 8 = .ok (.ifCond .eq 10, 3) := by decide +kernel
theorem dX5_look_18 : decode cX5_look 18 = .ok (.iconst (-1), 1) := by decide +kernel
theorem dX5_look_19 : decode cX5_look 19 = .ok (.ireturn, 1) := by decide +kernel
theorem dX5_look_11 : decode cX5_look 11 = .ok (.iload_n 2, 1) := by decide +kernel
theorem dX5_look_12 : decode cX5_look 12 = .ok (.invokestatic 133, 3) := by decide +kernel
set_option maxRecDepth 20000 in
theorem ggX5_look_X5_isLook : GoodIn wsX5_look wsX5_isLook := goodIn_r _ [14] (by decide +kernel) (by decide +kernel)
set_option maxRecDepth 20000 in
theorem gX5_look_X5_isLook : GoodIn wsX5_look (va_wsS RX5 133 yX5_isLook wsX5_isLook) := goodIn_app (goodIn_of _ (by decide +kernel)) ggX5_look_X5_isLook
theorem dX5_look_15 : decode cX5_look 15 = .ok (.ifCond .ne 5, 3) := by decide +kernel
theorem dX5_look_20 : decode cX5_look 20 = .ok (.aload_n 0, 1) := by decide +kernel
theorem dX5_look_21 : decode cX5_look 21 = .ok (.getfield 29, 3) := by decide +kernel
theorem dX5_look_24 : decode cX5_look 24 = .ok (.getfield 173, 3) := by decide +kernel
theorem in_X5_look_X1 : ∀ w ∈ wsX10, w ∈ wsX5_look := by decide +kernel
theorem m_X5_look_2 : (.fieldLink RX5 173 "RedlineDesk$Ledger" "kind" "[I" : Cond) ∈ wsX5_look := List.mem_of_getElem? (i := 2) (by decide +kernel)
theorem dX5_look_27 : decode cX5_look 27 = .ok (.iload_n 1, 1) := by decide +kernel
theorem dX5_look_28 : decode cX5_look 28 = .ok (.iaload, 1) := by decide +kernel
theorem dX5_look_29 : decode cX5_look 29 = .ok (.iconst 3, 1) := by decide +kernel
theorem dX5_look_30 : decode cX5_look 30 = .ok (.if_icmp .eq 6, 3) := by decide +kernel
theorem dX5_look_36 : decode cX5_look 36 = .ok (.aload_n 0, 1) := by decide +kernel
theorem dX5_look_37 : decode cX5_look 37 = .ok (.getfield 29, 3) := by decide +kernel
theorem dX5_look_40 : decode cX5_look 40 = .ok (.getfield 170, 3) := by decide +kernel
theorem m_X5_look_3 : (.fieldLink RX5 170 "RedlineDesk$Ledger" "state" "[I" : Cond) ∈ wsX5_look := List.mem_of_getElem? (i := 3) (by decide +kernel)
theorem dX5_look_43 : decode cX5_look 43 = .ok (.iload_n 1, 1) := by decide +kernel
theorem dX5_look_44 : decode cX5_look 44 = .ok (.iaload, 1) := by decide +kernel
theorem dX5_look_45 : decode cX5_look 45 = .ok (.ifCond .eq 6, 3) := by decide +kernel
theorem dX5_look_51 : decode cX5_look 51 = .ok (.aload_n 0, 1) := by decide +kernel
theorem dX5_look_52 : decode cX5_look 52 = .ok (.getfield 29, 3) := by decide +kernel
theorem dX5_look_55 : decode cX5_look 55 = .ok (.getfield 182, 3) := by decide +kernel
theorem m_X5_look_4 : (.fieldLink RX5 182 "RedlineDesk$Ledger" "look" "[I" : Cond) ∈ wsX5_look := List.mem_of_getElem? (i := 4) (by decide +kernel)
theorem dX5_look_58 : decode cX5_look 58 = .ok (.iload_n 1, 1) := by decide +kernel
theorem dX5_look_59 : decode cX5_look 59 = .ok (.iaload, 1) := by decide +kernel
theorem dX5_look_60 : decode cX5_look 60 = .ok (.istore_n 3, 1) := by decide +kernel
theorem dX5_look_61 : decode cX5_look 61 = .ok (.aload_n 0, 1) := by decide +kernel
theorem dX5_look_62 : decode cX5_look 62 = .ok (.getfield 29, 3) := by decide +kernel
theorem dX5_look_65 : decode cX5_look 65 = .ok (.getfield 182, 3) := by decide +kernel
theorem dX5_look_68 : decode cX5_look 68 = .ok (.iload_n 1, 1) := by decide +kernel
theorem dX5_look_69 : decode cX5_look 69 = .ok (.iload_n 2, 1) := by decide +kernel
theorem dX5_look_70 : decode cX5_look 70 = .ok (.iastore, 1) := by decide +kernel
theorem dX5_look_71 : decode cX5_look 71 = .ok (.iload_n 3, 1) := by decide +kernel
theorem dX5_look_72 : decode cX5_look 72 = .ok (.ireturn, 1) := by decide +kernel
theorem dX5_look_48 : decode cX5_look 48 = .ok (.bipush (-2), 2) := by decide +kernel
theorem dX5_look_50 : decode cX5_look 50 = .ok (.ireturn, 1) := by decide +kernel
theorem dX5_look_33 : decode cX5_look 33 = .ok (.bipush (-13), 2) := by decide +kernel
theorem dX5_look_35 : decode cX5_look 35 = .ok (.ireturn, 1) := by decide +kernel
def f_X5_look (zg_kind : Nat → Int32) (zg_state : Nat → Int32) (zg_look : Nat → Int32) (zg_size : Int32) (a_c : Int32) (a_l : Int32) : Int32 × (Nat → Int32) := if (f_X1_names zg_size a_c) = (0 : Int32) then ((-1 : Int32), zg_look) else if (f_X5_isLook a_l) = (0 : Int32) then ((-1 : Int32), zg_look) else if (zg_kind (a_c).toNatClampNeg) = (3 : Int32) then if (zg_state (a_c).toNatClampNeg) = (0 : Int32) then ((zg_look (a_c).toNatClampNeg), (upd zg_look (a_c).toNatClampNeg a_l)) else ((-2 : Int32), zg_look) else ((-13 : Int32), zg_look)
set_option maxHeartbeats 4000000 in
set_option maxRecDepth 100000 in
theorem c_X5_look (l : Launch) (dC : Nat → ClassId) (dI : Nat → Nat → Nat) (cI cJ : ClassId) (sz : Nat) (zd zg azg_kind azg_hand azg_state azg_look zt zr zw zv zk : Nat) (zg_kind zg_hand zg_state zg_look : Nat → Int32) (zg_size : Int32) (a_c : Int32) (a_l : Int32) : Met l yX5_look wsX5_look ({ frames := 1, cells := 0, slots := 0, locals := 21 } : Room) (va_Pc [.ref zd, .int a_c, .int a_l] (PreW dC dI cI cJ sz [(zd, .inr (5, [.ref zt, .ref zr, .ref zw, .ref zg, .ref zv, .ref zk])), (zg, .inr (1, [.ref azg_kind, .ref azg_hand, .ref azg_state, .ref azg_look, .int zg_size])), (azg_kind, .inl (cI, 25, .inl zg_kind)), (azg_hand, .inl (cI, 25, .inl zg_hand)), (azg_state, .inl (cI, 25, .inl zg_state)), (azg_look, .inl (cI, 25, .inl zg_look))])) (va_Qi (fun (r : Int32) (u : (Nat → Int32)) => r = (f_X5_look zg_kind zg_state zg_look zg_size a_c a_l).1 ∧ u = (f_X5_look zg_kind zg_state zg_look zg_size a_c a_l).2) (fun (u : (Nat → Int32)) t => PostW dC dI [(zd, .inr (5, [.ref zt, .ref zr, .ref zw, .ref zg, .ref zv, .ref zk])), (zg, .inr (1, [.ref azg_kind, .ref azg_hand, .ref azg_state, .ref azg_look, .int zg_size])), (azg_kind, .inl (cI, 25, .inl zg_kind)), (azg_hand, .inl (cI, 25, .inl zg_hand)), (azg_state, .inl (cI, 25, .inl zg_state)), (azg_look, .inl (cI, 25, .inl u))] t (va_A [(zd, .inr (5, [.ref zt, .ref zr, .ref zw, .ref zg, .ref zv, .ref zk])), (zg, .inr (1, [.ref azg_kind, .ref azg_hand, .ref azg_state, .ref azg_look, .int zg_size])), (azg_kind, .inl (cI, 25, .inl zg_kind)), (azg_hand, .inl (cI, 25, .inl zg_hand)), (azg_state, .inl (cI, 25, .inl zg_state)), (azg_look, .inl (cI, 25, .inl zg_look))] sz)) (va_A [(zd, .inr (5, [.ref zt, .ref zr, .ref zw, .ref zg, .ref zv, .ref zk])), (zg, .inr (1, [.ref azg_kind, .ref azg_hand, .ref azg_state, .ref azg_look, .int zg_size])), (azg_kind, .inl (cI, 25, .inl zg_kind)), (azg_hand, .inl (cI, 25, .inl zg_hand)), (azg_state, .inl (cI, 25, .inl zg_state)), (azg_look, .inl (cI, 25, .inl zg_look))] sz)) 0 0 (va_A [(zd, .inr (5, [.ref zt, .ref zr, .ref zw, .ref zg, .ref zv, .ref zk])), (zg, .inr (1, [.ref azg_kind, .ref azg_hand, .ref azg_state, .ref azg_look, .int zg_size])), (azg_kind, .inl (cI, 25, .inl zg_kind)), (azg_hand, .inl (cI, 25, .inl zg_hand)), (azg_state, .inl (cI, 25, .inl zg_state)), (azg_look, .inl (cI, 25, .inl zg_look))] sz) := by
  refine Met.ofW (cc := cX5_look) (maxL := 4) (ret := (some .int)) (by decide) rfl ?_
  intro p e s m args below meth c s₁ B hml hv
  obtain ⟨rfl, hsz, hP, hK, hN, hD0⟩ := hv
  have hx := B.exec
  have hb := B.bytes
  have hr := B.returns
  have hts := atoms_spec (ws := wsX5_look) B.pre
  have hown : s.vm.findClass RX5 = some m.cls := findClass_of_methodNamed B.named
  have hlocks := B.notSynchronized
  subst hsz
  have hD := hD0.self (sz := s.heap.size)
  generalize hAe : va_A [(zd, .inr (5, [.ref zt, .ref zr, .ref zw, .ref zg, .ref zv, .ref zk])), (zg, .inr (1, [.ref azg_kind, .ref azg_hand, .ref azg_state, .ref azg_look, .int zg_size])), (azg_kind, .inl (cI, 25, .inl zg_kind)), (azg_hand, .inl (cI, 25, .inl zg_hand)), (azg_state, .inl (cI, 25, .inl zg_state)), (azg_look, .inl (cI, 25, .inl zg_look))] s.heap.size = A at hD ⊢
  have hA : ∀ q : Nat, s.heap.size ≤ q → A q := fun q h => by rw [← hAe]; exact Or.inr h
  have hS : va_S A s.heap s.heap [] := va_S.rf
  have hP : va_P (dC, dI) vwCl [(zd, .inr (5, [.ref zt, .ref zr, .ref zw, .ref zg, .ref zv, .ref zk])), (zg, .inr (1, [.ref azg_kind, .ref azg_hand, .ref azg_state, .ref azg_look, .int zg_size])), (azg_kind, .inl (cI, 25, .inl zg_kind)), (azg_hand, .inl (cI, 25, .inl zg_hand)), (azg_state, .inl (cI, 25, .inl zg_state)), (azg_look, .inl (cI, 25, .inl zg_look))] s.heap := hP
  have hl := lv_entry ([.ref zd, .int a_c, .int a_l]) (n := 4) (Nat.le_of_ble_eq_true rfl)
  rw [lg_entry_eq]
  generalize (lg_sl ([.ref zd, .int a_c, .int a_l]) ++ List.replicate (4 - (lg_sl ([.ref zd, .int a_c, .int a_l])).length) Slot.unset).toArray = ls at hl ⊢
  have hl : lv_has ls 4 [(0, .ref zd), (1, .int a_c), (2, .int a_l)] := hl
  refine lv_aload_n hx hb dX5_look_0 rfl (lv_at hl 0 rfl) ?_
  refine va_get (D := (dC, dI)) (ci := 5) (v := .ref zg) (C := RX5) (T := TX5) (N := 6) hx hb hts in_X5_look_X5 hown hK hP 0 rfl rfl 3 (by decide) (hts _ m_X5_look_1) (fun _ h9 => h9) rfl dX5_look_1 ?_
  refine lv_iload_n hx hb dX5_look_4 rfl (lv_at hl 1 rfl) ?_
  have hPc := hP.sub (ws' := [(zg, .inr (1, [.ref azg_kind, .ref azg_hand, .ref azg_state, .ref azg_look, .int zg_size])), (azg_kind, .inl (cI, 25, .inl zg_kind)), (azg_hand, .inl (cI, 25, .inl zg_hand)), (azg_state, .inl (cI, 25, .inl zg_state)), (azg_look, .inl (cI, 25, .inl zg_look))]) [1, 2, 3, 4, 5] rfl
  have hDc := hD.sub (ws' := [(zg, .inr (1, [.ref azg_kind, .ref azg_hand, .ref azg_state, .ref azg_look, .int zg_size])), (azg_kind, .inl (cI, 25, .inl zg_kind)), (azg_hand, .inl (cI, 25, .inl zg_hand)), (azg_state, .inl (cI, 25, .inl zg_state)), (azg_look, .inl (cI, 25, .inl zg_look))]) [1, 2, 3, 4, 5] (by decide) rfl
  refine va_calli (va_runV (As := [.int a_c]) (rest := []) ⟨hx, hb, hml, hown, hts⟩ (c_X1_names l dC dI cI cJ s.heap.size zg azg_kind azg_hand azg_state azg_look zg_kind zg_hand zg_state zg_look zg_size a_c) (cwV 1 hts gX5_look_X1_names rfl rfl rfl (by decide +kernel) ⟨Nat.le_of_ble_eq_true rfl, Nat.le_of_ble_eq_true rfl⟩) ⟨fun a U g mk q => ⟨q.1, PreW.call g mk a q.2⟩, va_recv hK hP (ci := 1) (q0 := 1) rfl rfl, fun U hU hW => ⟨rfl, PreW.mk2 hU hW hPc hK hN (hDc.weaken (fun _ _ _ _ => trivial))⟩⟩ rfl rfl hl.1 rfl (lv_room (Nat.le_of_ble_eq_true rfl)) dX5_look_5 ⟨Nat.le_of_ble_eq_true rfl, Nat.le_of_ble_eq_true rfl⟩) hS (fun q hq h => absurd hq (Nat.not_lt.mpr h)) (fun q h => hA q (Nat.le_trans hS.1 h)) (fun r_1 _u t H1 locs ht hvm hw hB hz1 hk1 hS => ?_)
  have hP := va_ro hP hk1
  generalize H1 = H at hP hS ⊢
  have hw : r_1 = f_X1_names zg_size a_c := hw
  subst hw
  obtain ⟨z_2, hz_2⟩ : ∃ z : Int32, z = f_X1_names zg_size a_c := ⟨_, rfl⟩
  refine lv_if_eq (tgt := 18) hx hb dX5_look_8 (by decide) (fun c_3 => ?_) (fun c_3 => ?_)
  · have tc_3 : z_2.toInt = (0 : Int) := by rw [hz_2]; exact q_eq c_3
    refine lv_iconst (v := (-1 : Int32)) hx hb dX5_look_18 (by decide) ?_
    have hE : f_X5_look zg_kind zg_state zg_look zg_size a_c a_l = ((-1 : Int32), zg_look) := (by rw [f_X5_look, if_pos c_3])
    exact W.iret (v := (-1 : Int32)) hx hb hr (fun t ht hW => ⟨⟨(-1 : Int32), (zg_look), rfl, ⟨by rw [hE], by rw [hE]⟩, ⟨by rw [ht]; exact hP, hD⟩⟩, hS.F ht⟩) hS.2.2 dX5_look_19
  · have tc_3 : ¬ z_2.toInt = (0 : Int) := by rw [hz_2]; exact q_ne c_3
    obtain ⟨b_4, b_5, b_6⟩ := names_in c_3
    refine lv_iload_n hx hb dX5_look_11 rfl (lv_at hl 2 rfl) ?_
    have hPc := hP.sub (ws' := []) [] rfl
    have hDc := hD.sub (ws' := []) [] (by decide) rfl
    refine va_calli (va_runS (As := [.int a_l]) (rest := []) ⟨hx, hb, hml, hown, hts⟩ (c_X5_isLook l dC dI cI cJ H.size a_l) (va_cwS 1 hts gX5_look_X5_isLook rfl rfl rfl (by decide +kernel) ⟨Nat.le_of_ble_eq_true rfl, Nat.le_of_ble_eq_true rfl⟩) ⟨fun a U g mk q => ⟨q.1, PreW.call g mk a q.2⟩, fun U hU hW => ⟨rfl, PreW.mk2 hU hW hPc hK hN (hDc.weaken (fun _ _ _ _ => trivial))⟩⟩ rfl rfl hl.1 rfl (lv_room (Nat.le_of_ble_eq_true rfl)) dX5_look_12 ⟨Nat.le_of_ble_eq_true rfl, Nat.le_of_ble_eq_true rfl⟩) hS (fun q hq h => absurd hq (Nat.not_lt.mpr h)) (fun q h => hA q (Nat.le_trans hS.1 h)) (fun r_7 _u t H1 locs ht hvm hw hB hz1 hk1 hS => ?_)
    have hP := va_ro hP hk1
    generalize H1 = H at hP hS ⊢
    have hw : r_7 = f_X5_isLook a_l := hw
    subst hw
    obtain ⟨z_8, hz_8⟩ : ∃ z : Int32, z = f_X5_isLook a_l := ⟨_, rfl⟩
    refine lv_if_ne (tgt := 20) hx hb dX5_look_15 (by decide) (fun c_9 => ?_) (fun c_9 => ?_)
    · have tc_9 : ¬ z_8.toInt = (0 : Int) := by rw [hz_8]; exact q_ne c_9
      refine lv_aload_n hx hb dX5_look_20 rfl (lv_at hl 0 rfl) ?_
      refine va_get (D := (dC, dI)) (ci := 5) (v := .ref zg) (C := RX5) (T := TX5) (N := 6) hx hb hts in_X5_look_X5 hown hK hP 0 rfl rfl 3 (by decide) (hts _ m_X5_look_1) (fun _ h9 => h9) rfl dX5_look_21 ?_
      refine va_get (D := (dC, dI)) (ci := 1) (v := .ref azg_kind) (C := RX1) (T := TX1) (N := 5) hx hb hts in_X5_look_X1 hown hK hP 1 rfl rfl 0 (by decide) (hts _ m_X5_look_2) (fun _ h9 => h9) rfl dX5_look_24 ?_
      refine lv_iload_n hx hb dX5_look_27 rfl (lv_at hl 1 rfl) ?_
      refine va_iald (q0 := 2) (t0 := 0) (n := 25) (f := zg_kind) hx hb hK hP rfl rfl (vp_in_iff.mpr ⟨by omega, by omega⟩) dX5_look_28 ?_
      refine lv_iconst (v := (3 : Int32)) hx hb dX5_look_29 (by decide) ?_
      refine lv_icmp_eq (tgt := 36) hx hb dX5_look_30 (by decide) (fun c_10 => ?_) (fun c_10 => ?_)
      · refine lv_aload_n hx hb dX5_look_36 rfl (lv_at hl 0 rfl) ?_
        refine va_get (D := (dC, dI)) (ci := 5) (v := .ref zg) (C := RX5) (T := TX5) (N := 6) hx hb hts in_X5_look_X5 hown hK hP 0 rfl rfl 3 (by decide) (hts _ m_X5_look_1) (fun _ h9 => h9) rfl dX5_look_37 ?_
        refine va_get (D := (dC, dI)) (ci := 1) (v := .ref azg_state) (C := RX1) (T := TX1) (N := 5) hx hb hts in_X5_look_X1 hown hK hP 1 rfl rfl 2 (by decide) (hts _ m_X5_look_3) (fun _ h9 => h9) rfl dX5_look_40 ?_
        refine lv_iload_n hx hb dX5_look_43 rfl (lv_at hl 1 rfl) ?_
        refine va_iald (q0 := 4) (t0 := 0) (n := 25) (f := zg_state) hx hb hK hP rfl rfl (vp_in_iff.mpr ⟨by omega, by omega⟩) dX5_look_44 ?_
        refine lv_if_eq (tgt := 51) hx hb dX5_look_45 (by decide) (fun c_11 => ?_) (fun c_11 => ?_)
        · refine lv_aload_n hx hb dX5_look_51 rfl (lv_at hl 0 rfl) ?_
          refine va_get (D := (dC, dI)) (ci := 5) (v := .ref zg) (C := RX5) (T := TX5) (N := 6) hx hb hts in_X5_look_X5 hown hK hP 0 rfl rfl 3 (by decide) (hts _ m_X5_look_1) (fun _ h9 => h9) rfl dX5_look_52 ?_
          refine va_get (D := (dC, dI)) (ci := 1) (v := .ref azg_look) (C := RX1) (T := TX1) (N := 5) hx hb hts in_X5_look_X1 hown hK hP 1 rfl rfl 3 (by decide) (hts _ m_X5_look_4) (fun _ h9 => h9) rfl dX5_look_55 ?_
          refine lv_iload_n hx hb dX5_look_58 rfl (lv_at hl 1 rfl) ?_
          refine va_iald (q0 := 5) (t0 := 0) (n := 25) (f := zg_look) hx hb hK hP rfl rfl (vp_in_iff.mpr ⟨by omega, by omega⟩) dX5_look_59 ?_
          refine lv_istore_n (lv' := [(3, .int (zg_look (a_c).toNatClampNeg)), (0, .ref zd), (1, .int a_c), (2, .int a_l)]) hx hb dX5_look_60 rfl hl (by decide) rfl (fun ls hl => ?_)
          refine lv_aload_n hx hb dX5_look_61 rfl (lv_at hl 1 rfl) ?_
          refine va_get (D := (dC, dI)) (ci := 5) (v := .ref zg) (C := RX5) (T := TX5) (N := 6) hx hb hts in_X5_look_X5 hown hK hP 0 rfl rfl 3 (by decide) (hts _ m_X5_look_1) (fun _ h9 => h9) rfl dX5_look_62 ?_
          refine va_get (D := (dC, dI)) (ci := 1) (v := .ref azg_look) (C := RX1) (T := TX1) (N := 5) hx hb hts in_X5_look_X1 hown hK hP 1 rfl rfl 3 (by decide) (hts _ m_X5_look_4) (fun _ h9 => h9) rfl dX5_look_65 ?_
          refine lv_iload_n hx hb dX5_look_68 rfl (lv_at hl 2 rfl) ?_
          refine lv_iload_n hx hb dX5_look_69 rfl (lv_at hl 3 rfl) ?_
          refine va_iast (q0 := 5) (t0 := 0) (n := 25) (f := zg_look) hx hb hK hP hD hS rfl rfl (vp_in_iff.mpr ⟨by omega, by omega⟩) dX5_look_70 (fun H locs hP hD hS => ?_)
          have hP : va_P (dC, dI) vwCl [(zd, .inr (5, [.ref zt, .ref zr, .ref zw, .ref zg, .ref zv, .ref zk])), (zg, .inr (1, [.ref azg_kind, .ref azg_hand, .ref azg_state, .ref azg_look, .int zg_size])), (azg_kind, .inl (cI, 25, .inl zg_kind)), (azg_hand, .inl (cI, 25, .inl zg_hand)), (azg_state, .inl (cI, 25, .inl zg_state)), (azg_look, .inl (cI, 25, .inl (upd zg_look (a_c).toNatClampNeg a_l)))] H := hP
          have hD : va_D A [(zd, .inr (5, [.ref zt, .ref zr, .ref zw, .ref zg, .ref zv, .ref zk])), (zg, .inr (1, [.ref azg_kind, .ref azg_hand, .ref azg_state, .ref azg_look, .int zg_size])), (azg_kind, .inl (cI, 25, .inl zg_kind)), (azg_hand, .inl (cI, 25, .inl zg_hand)), (azg_state, .inl (cI, 25, .inl zg_state)), (azg_look, .inl (cI, 25, .inl (upd zg_look (a_c).toNatClampNeg a_l)))] := hD
          refine lv_iload_n hx hb dX5_look_71 rfl (lv_at hl 0 rfl) ?_
          have hE : f_X5_look zg_kind zg_state zg_look zg_size a_c a_l = ((zg_look (a_c).toNatClampNeg), (upd zg_look (a_c).toNatClampNeg a_l)) := (by rw [f_X5_look, if_neg c_3, if_neg c_9, if_pos c_10, if_pos c_11])
          exact W.iret (v := (zg_look (a_c).toNatClampNeg)) hx hb hr (fun t ht hW => ⟨⟨(zg_look (a_c).toNatClampNeg), ((upd zg_look (a_c).toNatClampNeg a_l)), rfl, ⟨by rw [hE], by rw [hE]⟩, ⟨by rw [ht]; exact hP, hD⟩⟩, hS.F ht⟩) hS.2.2 dX5_look_72
        · refine lv_bipush (v := (-2 : Int32)) hx hb dX5_look_48 (by decide) ?_
          have hE : f_X5_look zg_kind zg_state zg_look zg_size a_c a_l = ((-2 : Int32), zg_look) := (by rw [f_X5_look, if_neg c_3, if_neg c_9, if_pos c_10, if_neg c_11])
          exact W.iret (v := (-2 : Int32)) hx hb hr (fun t ht hW => ⟨⟨(-2 : Int32), (zg_look), rfl, ⟨by rw [hE], by rw [hE]⟩, ⟨by rw [ht]; exact hP, hD⟩⟩, hS.F ht⟩) hS.2.2 dX5_look_50
      · refine lv_bipush (v := (-13 : Int32)) hx hb dX5_look_33 (by decide) ?_
        have hE : f_X5_look zg_kind zg_state zg_look zg_size a_c a_l = ((-13 : Int32), zg_look) := (by rw [f_X5_look, if_neg c_3, if_neg c_9, if_neg c_10])
        exact W.iret (v := (-13 : Int32)) hx hb hr (fun t ht hW => ⟨⟨(-13 : Int32), (zg_look), rfl, ⟨by rw [hE], by rw [hE]⟩, ⟨by rw [ht]; exact hP, hD⟩⟩, hS.F ht⟩) hS.2.2 dX5_look_35
    · have tc_9 : z_8.toInt = (0 : Int) := by rw [hz_8]; exact q_eq c_9
      refine lv_iconst (v := (-1 : Int32)) hx hb dX5_look_18 (by decide) ?_
      have hE : f_X5_look zg_kind zg_state zg_look zg_size a_c a_l = ((-1 : Int32), zg_look) := (by rw [f_X5_look, if_neg c_3, if_pos c_9])
      exact W.iret (v := (-1 : Int32)) hx hb hr (fun t ht hW => ⟨⟨(-1 : Int32), (zg_look), rfl, ⟨by rw [hE], by rw [hE]⟩, ⟨by rw [ht]; exact hP, hD⟩⟩, hS.F ht⟩) hS.2.2 dX5_look_19
theorem dX5_clashRule_0 : decode cX5_clashRule 0 = .ok (.aload_n 0, 1) := by decide +kernel
theorem dX5_clashRule_1 : decode cX5_clashRule 1 = .ok (.getfield 29, 3) := by decide +kernel
theorem in_X5_clashRule_X5 : ∀ w ∈ wsX50, w ∈ wsX5_clashRule := by decide +kernel
theorem m_X5_clashRule_1 : (.fieldLink RX5 29 "RedlineDesk" "ledger" "LRedlineDesk$Ledger;" : Cond) ∈ wsX5_clashRule := List.mem_of_getElem? (i := 1) (by decide +kernel)
theorem dX5_clashRule_4 : decode cX5_clashRule 4 = .ok (.getfield 173, 3) := by decide +kernel
theorem in_X5_clashRule_X1 : ∀ w ∈ wsX10, w ∈ wsX5_clashRule := by decide +kernel
theorem m_X5_clashRule_2 : (.fieldLink RX5 173 "RedlineDesk$Ledger" "kind" "[I" : Cond) ∈ wsX5_clashRule := List.mem_of_getElem? (i := 2) (by decide +kernel)
theorem dX5_clashRule_7 : decode cX5_clashRule 7 = .ok (.iload_n 1, 1) := by decide +kernel
theorem dX5_clashRule_8 : decode cX5_clashRule 8 = .ok (.iaload, 1) := by decide +kernel
theorem dX5_clashRule_9 : decode cX5_clashRule 9 = .ok (.aload_n 0, 1) := by decide +kernel
theorem dX5_clashRule_10 : decode cX5_clashRule 10 = .ok (.getfield 29, 3) := by decide +kernel
theorem dX5_clashRule_13 : decode cX5_clashRule 13 = .ok (.getfield 173, 3) := by decide +kernel
theorem dX5_clashRule_16 : decode cX5_clashRule 16 = .ok (.iload_n 2, 1) := by decide +kernel
theorem dX5_clashRule_17 : decode cX5_clashRule 17 = .ok (.iaload, 1) := by decide +kernel
theorem dX5_clashRule_18 : decode cX5_clashRule 18 = .ok (.invokestatic 245, 3) := by decide +kernel
theorem m_X5_clashRule_3 : (.methodLink RX5 245 Lib.Math.min.name : Cond) ∈ wsX5_clashRule := List.mem_of_getElem? (i := 3) (by decide +kernel)
theorem m_X5_clashRule_4 : (.static Lib.Math.min.name : Cond) ∈ wsX5_clashRule := List.mem_of_getElem? (i := 4) (by decide +kernel)
theorem m_X5_clashRule_5 : (.initialized "java/lang/Math" : Cond) ∈ wsX5_clashRule := List.mem_of_getElem? (i := 5) (by decide +kernel)
theorem m_X5_clashRule_6 : (.code Lib.Math.min.name Lib.Math.min.code 2 (some .int) : Cond) ∈ wsX5_clashRule := List.mem_of_getElem? (i := 6) (by decide +kernel)
theorem dX5_clashRule_21 : decode cX5_clashRule 21 = .ok (.istore_n 3, 1) := by decide +kernel
theorem dX5_clashRule_22 : decode cX5_clashRule 22 = .ok (.aload_n 0, 1) := by decide +kernel
theorem dX5_clashRule_23 : decode cX5_clashRule 23 = .ok (.getfield 29, 3) := by decide +kernel
theorem dX5_clashRule_26 : decode cX5_clashRule 26 = .ok (.getfield 173, 3) := by decide +kernel
theorem dX5_clashRule_29 : decode cX5_clashRule 29 = .ok (.iload_n 1, 1) := by decide +kernel
theorem dX5_clashRule_30 : decode cX5_clashRule 30 = .ok (.iaload, 1) := by decide +kernel
theorem dX5_clashRule_31 : decode cX5_clashRule 31 = .ok (.aload_n 0, 1) := by decide +kernel
theorem dX5_clashRule_32 : decode cX5_clashRule 32 = .ok (.getfield 29, 3) := by decide +kernel
theorem dX5_clashRule_35 : decode cX5_clashRule 35 = .ok (.getfield 173, 3) := by decide +kernel
theorem dX5_clashRule_38 : decode cX5_clashRule 38 = .ok (.iload_n 2, 1) := by decide +kernel
theorem dX5_clashRule_39 : decode cX5_clashRule 39 = .ok (.iaload, 1) := by decide +kernel
theorem dX5_clashRule_40 : decode cX5_clashRule 40 = .ok (.invokestatic 250, 3) := by decide +kernel
theorem m_X5_clashRule_7 : (.methodLink RX5 250 Lib.Math.max.name : Cond) ∈ wsX5_clashRule := List.mem_of_getElem? (i := 7) (by decide +kernel)
theorem m_X5_clashRule_8 : (.static Lib.Math.max.name : Cond) ∈ wsX5_clashRule := List.mem_of_getElem? (i := 8) (by decide +kernel)
theorem m_X5_clashRule_9 : (.code Lib.Math.max.name Lib.Math.max.code 2 (some .int) : Cond) ∈ wsX5_clashRule := List.mem_of_getElem? (i := 9) (by decide +kernel)
theorem dX5_clashRule_43 : decode cX5_clashRule 43 = .ok (.istore 4, 2) := by decide +kernel
theorem dX5_clashRule_45 : decode cX5_clashRule 45 = .ok (.iload_n 3, 1) := by decide +kernel
theorem dX5_clashRule_46 : decode cX5_clashRule 46 = .ok (.ifCond .ne 11, 3) := by decide +kernel
theorem dX5_clashRule_57 : decode cX5_clashRule 57 = .ok (.iload_n 3, 1) := by decide +kernel
theorem dX5_clashRule_58 : decode cX5_clashRule 58 = .ok (.iconst 2, 1) := by decide +kernel
theorem dX5_clashRule_59 : decode cX5_clashRule 59 = .ok (.if_icmp .ne 11, 3) := by decide +kernel
theorem dX5_clashRule_70 : decode cX5_clashRule 70 = .ok (.iload_n 3, 1) := by decide +kernel
theorem dX5_clashRule_71 : decode cX5_clashRule 71 = .ok (.iconst 3, 1) := by decide +kernel
theorem dX5_clashRule_72 : decode cX5_clashRule 72 = .ok (.if_icmp .ne 32, 3) := by decide +kernel
theorem dX5_clashRule_104 : decode cX5_clashRule 104 = .ok (.iload_n 3, 1) := by decide +kernel
theorem dX5_clashRule_105 : decode cX5_clashRule 105 = .ok (.iconst 1, 1) := by decide +kernel
theorem dX5_clashRule_106 : decode cX5_clashRule 106 = .ok (.if_icmp .ne 17, 3) := by decide +kernel
theorem dX5_clashRule_123 : decode cX5_clashRule 123 = .ok (.iconst 0, 1) := by decide +kernel
theorem dX5_clashRule_124 : decode cX5_clashRule 124 = .ok (.ireturn, 1) := by decide +kernel
theorem dX5_clashRule_109 : decode cX5_clashRule 109 = .ok (.iload 4, 2) := by decide +kernel
theorem dX5_clashRule_111 : decode cX5_clashRule 111 = .ok (.iconst 3, 1) := by decide +kernel
theorem dX5_clashRule_112 : decode cX5_clashRule 112 = .ok (.if_icmp .eq 9, 3) := by decide +kernel
theorem dX5_clashRule_121 : decode cX5_clashRule 121 = .ok (.iconst 4, 1) := by decide +kernel
theorem dX5_clashRule_122 : decode cX5_clashRule 122 = .ok (.ireturn, 1) := by decide +kernel
theorem dX5_clashRule_115 : decode cX5_clashRule 115 = .ok (.iload 4, 2) := by decide +kernel
theorem dX5_clashRule_117 : decode cX5_clashRule 117 = .ok (.iconst 4, 1) := by decide +kernel
theorem dX5_clashRule_118 : decode cX5_clashRule 118 = .ok (.if_icmp .ne 5, 3) := by decide +kernel
theorem dX5_clashRule_75 : decode cX5_clashRule 75 = .ok (.iload 4, 2) := by decide +kernel
theorem dX5_clashRule_77 : decode cX5_clashRule 77 = .ok (.iconst 3, 1) := by decide +kernel
theorem dX5_clashRule_78 : decode cX5_clashRule 78 = .ok (.if_icmp .ne 26, 3) := by decide +kernel
theorem dX5_clashRule_81 : decode cX5_clashRule 81 = .ok (.aload_n 0, 1) := by decide +kernel
theorem dX5_clashRule_82 : decode cX5_clashRule 82 = .ok (.getfield 29, 3) := by decide +kernel
theorem dX5_clashRule_85 : decode cX5_clashRule 85 = .ok (.getfield 182, 3) := by decide +kernel
theorem m_X5_clashRule_10 : (.fieldLink RX5 182 "RedlineDesk$Ledger" "look" "[I" : Cond) ∈ wsX5_clashRule := List.mem_of_getElem? (i := 10) (by decide +kernel)
theorem dX5_clashRule_88 : decode cX5_clashRule 88 = .ok (.iload_n 1, 1) := by decide +kernel
theorem dX5_clashRule_89 : decode cX5_clashRule 89 = .ok (.iaload, 1) := by decide +kernel
theorem dX5_clashRule_90 : decode cX5_clashRule 90 = .ok (.aload_n 0, 1) := by decide +kernel
theorem dX5_clashRule_91 : decode cX5_clashRule 91 = .ok (.getfield 29, 3) := by decide +kernel
theorem dX5_clashRule_94 : decode cX5_clashRule 94 = .ok (.getfield 182, 3) := by decide +kernel
theorem dX5_clashRule_97 : decode cX5_clashRule 97 = .ok (.iload_n 2, 1) := by decide +kernel
theorem dX5_clashRule_98 : decode cX5_clashRule 98 = .ok (.iaload, 1) := by decide +kernel
theorem dX5_clashRule_99 : decode cX5_clashRule 99 = .ok (.if_icmp .eq 5, 3) := by decide +kernel
theorem dX5_clashRule_102 : decode cX5_clashRule 102 = .ok (.iconst 3, 1) := by decide +kernel
theorem dX5_clashRule_103 : decode cX5_clashRule 103 = .ok (.ireturn, 1) := by decide +kernel
theorem dX5_clashRule_62 : decode cX5_clashRule 62 = .ok (.iload 4, 2) := by decide +kernel
theorem dX5_clashRule_64 : decode cX5_clashRule 64 = .ok (.iconst 2, 1) := by decide +kernel
theorem dX5_clashRule_65 : decode cX5_clashRule 65 = .ok (.if_icmp .ne 5, 3) := by decide +kernel
theorem dX5_clashRule_68 : decode cX5_clashRule 68 = .ok (.iconst 2, 1) := by decide +kernel
theorem dX5_clashRule_69 : decode cX5_clashRule 69 = .ok (.ireturn, 1) := by decide +kernel
theorem dX5_clashRule_49 : decode cX5_clashRule 49 = .ok (.iload 4, 2) := by decide +kernel
theorem dX5_clashRule_51 : decode cX5_clashRule 51 = .ok (.iconst 1, 1) := by decide +kernel
theorem dX5_clashRule_52 : decode cX5_clashRule 52 = .ok (.if_icmp .ne 5, 3) := by decide +kernel
theorem dX5_clashRule_55 : decode cX5_clashRule 55 = .ok (.iconst 1, 1) := by decide +kernel
theorem dX5_clashRule_56 : decode cX5_clashRule 56 = .ok (.ireturn, 1) := by decide +kernel
def f_X5_clashRule (zg_kind : Nat → Int32) (zg_look : Nat → Int32) (a_a : Int32) (a_b : Int32) : Int32 := if (if (zg_kind (a_b).toNatClampNeg) < (zg_kind (a_a).toNatClampNeg) then (zg_kind (a_b).toNatClampNeg) else (zg_kind (a_a).toNatClampNeg)) = (0 : Int32) then if (if (zg_kind (a_a).toNatClampNeg) < (zg_kind (a_b).toNatClampNeg) then (zg_kind (a_b).toNatClampNeg) else (zg_kind (a_a).toNatClampNeg)) = (1 : Int32) then (1 : Int32) else if (if (zg_kind (a_b).toNatClampNeg) < (zg_kind (a_a).toNatClampNeg) then (zg_kind (a_b).toNatClampNeg) else (zg_kind (a_a).toNatClampNeg)) = (2 : Int32) then if (if (zg_kind (a_a).toNatClampNeg) < (zg_kind (a_b).toNatClampNeg) then (zg_kind (a_b).toNatClampNeg) else (zg_kind (a_a).toNatClampNeg)) = (2 : Int32) then (2 : Int32) else if (if (zg_kind (a_b).toNatClampNeg) < (zg_kind (a_a).toNatClampNeg) then (zg_kind (a_b).toNatClampNeg) else (zg_kind (a_a).toNatClampNeg)) = (3 : Int32) then if (if (zg_kind (a_a).toNatClampNeg) < (zg_kind (a_b).toNatClampNeg) then (zg_kind (a_b).toNatClampNeg) else (zg_kind (a_a).toNatClampNeg)) = (3 : Int32) then if (zg_look (a_a).toNatClampNeg) = (zg_look (a_b).toNatClampNeg) then if (if (zg_kind (a_b).toNatClampNeg) < (zg_kind (a_a).toNatClampNeg) then (zg_kind (a_b).toNatClampNeg) else (zg_kind (a_a).toNatClampNeg)) = (1 : Int32) then if (if (zg_kind (a_a).toNatClampNeg) < (zg_kind (a_b).toNatClampNeg) then (zg_kind (a_b).toNatClampNeg) else (zg_kind (a_a).toNatClampNeg)) = (3 : Int32) then (4 : Int32) else if (if (zg_kind (a_a).toNatClampNeg) < (zg_kind (a_b).toNatClampNeg) then (zg_kind (a_b).toNatClampNeg) else (zg_kind (a_a).toNatClampNeg)) = (4 : Int32) then (4 : Int32) else (0 : Int32) else (0 : Int32) else (3 : Int32) else if (if (zg_kind (a_b).toNatClampNeg) < (zg_kind (a_a).toNatClampNeg) then (zg_kind (a_b).toNatClampNeg) else (zg_kind (a_a).toNatClampNeg)) = (1 : Int32) then if (if (zg_kind (a_a).toNatClampNeg) < (zg_kind (a_b).toNatClampNeg) then (zg_kind (a_b).toNatClampNeg) else (zg_kind (a_a).toNatClampNeg)) = (3 : Int32) then (4 : Int32) else if (if (zg_kind (a_a).toNatClampNeg) < (zg_kind (a_b).toNatClampNeg) then (zg_kind (a_b).toNatClampNeg) else (zg_kind (a_a).toNatClampNeg)) = (4 : Int32) then (4 : Int32) else (0 : Int32) else (0 : Int32) else if (if (zg_kind (a_b).toNatClampNeg) < (zg_kind (a_a).toNatClampNeg) then (zg_kind (a_b).toNatClampNeg) else (zg_kind (a_a).toNatClampNeg)) = (1 : Int32) then if (if (zg_kind (a_a).toNatClampNeg) < (zg_kind (a_b).toNatClampNeg) then (zg_kind (a_b).toNatClampNeg) else (zg_kind (a_a).toNatClampNeg)) = (3 : Int32) then (4 : Int32) else if (if (zg_kind (a_a).toNatClampNeg) < (zg_kind (a_b).toNatClampNeg) then (zg_kind (a_b).toNatClampNeg) else (zg_kind (a_a).toNatClampNeg)) = (4 : Int32) then (4 : Int32) else (0 : Int32) else (0 : Int32) else if (if (zg_kind (a_b).toNatClampNeg) < (zg_kind (a_a).toNatClampNeg) then (zg_kind (a_b).toNatClampNeg) else (zg_kind (a_a).toNatClampNeg)) = (3 : Int32) then if (if (zg_kind (a_a).toNatClampNeg) < (zg_kind (a_b).toNatClampNeg) then (zg_kind (a_b).toNatClampNeg) else (zg_kind (a_a).toNatClampNeg)) = (3 : Int32) then if (zg_look (a_a).toNatClampNeg) = (zg_look (a_b).toNatClampNeg) then if (if (zg_kind (a_b).toNatClampNeg) < (zg_kind (a_a).toNatClampNeg) then (zg_kind (a_b).toNatClampNeg) else (zg_kind (a_a).toNatClampNeg)) = (1 : Int32) then if (if (zg_kind (a_a).toNatClampNeg) < (zg_kind (a_b).toNatClampNeg) then (zg_kind (a_b).toNatClampNeg) else (zg_kind (a_a).toNatClampNeg)) = (3 : Int32) then (4 : Int32) else if (if (zg_kind (a_a).toNatClampNeg) < (zg_kind (a_b).toNatClampNeg) then (zg_kind (a_b).toNatClampNeg) else (zg_kind (a_a).toNatClampNeg)) = (4 : Int32) then (4 : Int32) else (0 : Int32) else (0 : Int32) else (3 : Int32) else if (if (zg_kind (a_b).toNatClampNeg) < (zg_kind (a_a).toNatClampNeg) then (zg_kind (a_b).toNatClampNeg) else (zg_kind (a_a).toNatClampNeg)) = (1 : Int32) then if (if (zg_kind (a_a).toNatClampNeg) < (zg_kind (a_b).toNatClampNeg) then (zg_kind (a_b).toNatClampNeg) else (zg_kind (a_a).toNatClampNeg)) = (3 : Int32) then (4 : Int32) else if (if (zg_kind (a_a).toNatClampNeg) < (zg_kind (a_b).toNatClampNeg) then (zg_kind (a_b).toNatClampNeg) else (zg_kind (a_a).toNatClampNeg)) = (4 : Int32) then (4 : Int32) else (0 : Int32) else (0 : Int32) else if (if (zg_kind (a_b).toNatClampNeg) < (zg_kind (a_a).toNatClampNeg) then (zg_kind (a_b).toNatClampNeg) else (zg_kind (a_a).toNatClampNeg)) = (1 : Int32) then if (if (zg_kind (a_a).toNatClampNeg) < (zg_kind (a_b).toNatClampNeg) then (zg_kind (a_b).toNatClampNeg) else (zg_kind (a_a).toNatClampNeg)) = (3 : Int32) then (4 : Int32) else if (if (zg_kind (a_a).toNatClampNeg) < (zg_kind (a_b).toNatClampNeg) then (zg_kind (a_b).toNatClampNeg) else (zg_kind (a_a).toNatClampNeg)) = (4 : Int32) then (4 : Int32) else (0 : Int32) else (0 : Int32) else if (if (zg_kind (a_b).toNatClampNeg) < (zg_kind (a_a).toNatClampNeg) then (zg_kind (a_b).toNatClampNeg) else (zg_kind (a_a).toNatClampNeg)) = (2 : Int32) then if (if (zg_kind (a_a).toNatClampNeg) < (zg_kind (a_b).toNatClampNeg) then (zg_kind (a_b).toNatClampNeg) else (zg_kind (a_a).toNatClampNeg)) = (2 : Int32) then (2 : Int32) else if (if (zg_kind (a_b).toNatClampNeg) < (zg_kind (a_a).toNatClampNeg) then (zg_kind (a_b).toNatClampNeg) else (zg_kind (a_a).toNatClampNeg)) = (3 : Int32) then if (if (zg_kind (a_a).toNatClampNeg) < (zg_kind (a_b).toNatClampNeg) then (zg_kind (a_b).toNatClampNeg) else (zg_kind (a_a).toNatClampNeg)) = (3 : Int32) then if (zg_look (a_a).toNatClampNeg) = (zg_look (a_b).toNatClampNeg) then if (if (zg_kind (a_b).toNatClampNeg) < (zg_kind (a_a).toNatClampNeg) then (zg_kind (a_b).toNatClampNeg) else (zg_kind (a_a).toNatClampNeg)) = (1 : Int32) then if (if (zg_kind (a_a).toNatClampNeg) < (zg_kind (a_b).toNatClampNeg) then (zg_kind (a_b).toNatClampNeg) else (zg_kind (a_a).toNatClampNeg)) = (3 : Int32) then (4 : Int32) else if (if (zg_kind (a_a).toNatClampNeg) < (zg_kind (a_b).toNatClampNeg) then (zg_kind (a_b).toNatClampNeg) else (zg_kind (a_a).toNatClampNeg)) = (4 : Int32) then (4 : Int32) else (0 : Int32) else (0 : Int32) else (3 : Int32) else if (if (zg_kind (a_b).toNatClampNeg) < (zg_kind (a_a).toNatClampNeg) then (zg_kind (a_b).toNatClampNeg) else (zg_kind (a_a).toNatClampNeg)) = (1 : Int32) then if (if (zg_kind (a_a).toNatClampNeg) < (zg_kind (a_b).toNatClampNeg) then (zg_kind (a_b).toNatClampNeg) else (zg_kind (a_a).toNatClampNeg)) = (3 : Int32) then (4 : Int32) else if (if (zg_kind (a_a).toNatClampNeg) < (zg_kind (a_b).toNatClampNeg) then (zg_kind (a_b).toNatClampNeg) else (zg_kind (a_a).toNatClampNeg)) = (4 : Int32) then (4 : Int32) else (0 : Int32) else (0 : Int32) else if (if (zg_kind (a_b).toNatClampNeg) < (zg_kind (a_a).toNatClampNeg) then (zg_kind (a_b).toNatClampNeg) else (zg_kind (a_a).toNatClampNeg)) = (1 : Int32) then if (if (zg_kind (a_a).toNatClampNeg) < (zg_kind (a_b).toNatClampNeg) then (zg_kind (a_b).toNatClampNeg) else (zg_kind (a_a).toNatClampNeg)) = (3 : Int32) then (4 : Int32) else if (if (zg_kind (a_a).toNatClampNeg) < (zg_kind (a_b).toNatClampNeg) then (zg_kind (a_b).toNatClampNeg) else (zg_kind (a_a).toNatClampNeg)) = (4 : Int32) then (4 : Int32) else (0 : Int32) else (0 : Int32) else if (if (zg_kind (a_b).toNatClampNeg) < (zg_kind (a_a).toNatClampNeg) then (zg_kind (a_b).toNatClampNeg) else (zg_kind (a_a).toNatClampNeg)) = (3 : Int32) then if (if (zg_kind (a_a).toNatClampNeg) < (zg_kind (a_b).toNatClampNeg) then (zg_kind (a_b).toNatClampNeg) else (zg_kind (a_a).toNatClampNeg)) = (3 : Int32) then if (zg_look (a_a).toNatClampNeg) = (zg_look (a_b).toNatClampNeg) then if (if (zg_kind (a_b).toNatClampNeg) < (zg_kind (a_a).toNatClampNeg) then (zg_kind (a_b).toNatClampNeg) else (zg_kind (a_a).toNatClampNeg)) = (1 : Int32) then if (if (zg_kind (a_a).toNatClampNeg) < (zg_kind (a_b).toNatClampNeg) then (zg_kind (a_b).toNatClampNeg) else (zg_kind (a_a).toNatClampNeg)) = (3 : Int32) then (4 : Int32) else if (if (zg_kind (a_a).toNatClampNeg) < (zg_kind (a_b).toNatClampNeg) then (zg_kind (a_b).toNatClampNeg) else (zg_kind (a_a).toNatClampNeg)) = (4 : Int32) then (4 : Int32) else (0 : Int32) else (0 : Int32) else (3 : Int32) else if (if (zg_kind (a_b).toNatClampNeg) < (zg_kind (a_a).toNatClampNeg) then (zg_kind (a_b).toNatClampNeg) else (zg_kind (a_a).toNatClampNeg)) = (1 : Int32) then if (if (zg_kind (a_a).toNatClampNeg) < (zg_kind (a_b).toNatClampNeg) then (zg_kind (a_b).toNatClampNeg) else (zg_kind (a_a).toNatClampNeg)) = (3 : Int32) then (4 : Int32) else if (if (zg_kind (a_a).toNatClampNeg) < (zg_kind (a_b).toNatClampNeg) then (zg_kind (a_b).toNatClampNeg) else (zg_kind (a_a).toNatClampNeg)) = (4 : Int32) then (4 : Int32) else (0 : Int32) else (0 : Int32) else if (if (zg_kind (a_b).toNatClampNeg) < (zg_kind (a_a).toNatClampNeg) then (zg_kind (a_b).toNatClampNeg) else (zg_kind (a_a).toNatClampNeg)) = (1 : Int32) then if (if (zg_kind (a_a).toNatClampNeg) < (zg_kind (a_b).toNatClampNeg) then (zg_kind (a_b).toNatClampNeg) else (zg_kind (a_a).toNatClampNeg)) = (3 : Int32) then (4 : Int32) else if (if (zg_kind (a_a).toNatClampNeg) < (zg_kind (a_b).toNatClampNeg) then (zg_kind (a_b).toNatClampNeg) else (zg_kind (a_a).toNatClampNeg)) = (4 : Int32) then (4 : Int32) else (0 : Int32) else (0 : Int32)
set_option maxHeartbeats 4000000 in
set_option maxRecDepth 100000 in
theorem c_X5_clashRule (l : Launch) (dC : Nat → ClassId) (dI : Nat → Nat → Nat) (cI cJ : ClassId) (sz : Nat) (zd zg azg_kind azg_hand azg_state azg_look zt zr zw zv zk : Nat) (zg_kind zg_hand zg_state zg_look : Nat → Int32) (zg_size : Int32) (a_a : Int32) (a_b : Int32) (h1 : 0 ≤ a_a.toInt) (h2 : a_a.toInt < 25) (h3 : 0 ≤ a_b.toInt) (h4 : a_b.toInt < 25) : Met l yX5_clashRule wsX5_clashRule ({ frames := 1, cells := 0, slots := 0, locals := 21 } : Room) (va_Pc [.ref zd, .int a_a, .int a_b] (PreW dC dI cI cJ sz [(zd, .inr (5, [.ref zt, .ref zr, .ref zw, .ref zg, .ref zv, .ref zk])), (zg, .inr (1, [.ref azg_kind, .ref azg_hand, .ref azg_state, .ref azg_look, .int zg_size])), (azg_kind, .inl (cI, 25, .inl zg_kind)), (azg_hand, .inl (cI, 25, .inl zg_hand)), (azg_state, .inl (cI, 25, .inl zg_state)), (azg_look, .inl (cI, 25, .inl zg_look))])) (va_Qi (fun (r : Int32) (_ : Unit) => r = f_X5_clashRule zg_kind zg_look a_a a_b) (fun (_ : Unit) _ => True) (fun q => sz ≤ q)) 0 0 (fun q => sz ≤ q) := by
  refine Met.ofW (cc := cX5_clashRule) (maxL := 5) (ret := (some .int)) (by decide) rfl ?_
  intro p e s m args below meth c s₁ B hml hv
  obtain ⟨rfl, hsz, hP, hK, hN, hD0⟩ := hv
  have hx := B.exec
  have hb := B.bytes
  have hr := B.returns
  have hts := atoms_spec (ws := wsX5_clashRule) B.pre
  have hown : s.vm.findClass RX5 = some m.cls := findClass_of_methodNamed B.named
  have hlocks := B.notSynchronized
  subst hsz
  have hD := hD0
  generalize hAe : (fun q => s.heap.size ≤ q) = A
  have hA : ∀ q : Nat, s.heap.size ≤ q → A q := fun q h => by rw [← hAe]; exact h
  have hS : va_S A s.heap s.heap [] := va_S.rf
  have hP : va_P (dC, dI) vwCl [(zd, .inr (5, [.ref zt, .ref zr, .ref zw, .ref zg, .ref zv, .ref zk])), (zg, .inr (1, [.ref azg_kind, .ref azg_hand, .ref azg_state, .ref azg_look, .int zg_size])), (azg_kind, .inl (cI, 25, .inl zg_kind)), (azg_hand, .inl (cI, 25, .inl zg_hand)), (azg_state, .inl (cI, 25, .inl zg_state)), (azg_look, .inl (cI, 25, .inl zg_look))] s.heap := hP
  have hl := lv_entry ([.ref zd, .int a_a, .int a_b]) (n := 5) (Nat.le_of_ble_eq_true rfl)
  rw [lg_entry_eq]
  generalize (lg_sl ([.ref zd, .int a_a, .int a_b]) ++ List.replicate (5 - (lg_sl ([.ref zd, .int a_a, .int a_b])).length) Slot.unset).toArray = ls at hl ⊢
  have hl : lv_has ls 5 [(0, .ref zd), (1, .int a_a), (2, .int a_b)] := hl
  refine lv_aload_n hx hb dX5_clashRule_0 rfl (lv_at hl 0 rfl) ?_
  refine va_get (D := (dC, dI)) (ci := 5) (v := .ref zg) (C := RX5) (T := TX5) (N := 6) hx hb hts in_X5_clashRule_X5 hown hK hP 0 rfl rfl 3 (by decide) (hts _ m_X5_clashRule_1) (fun _ h9 => h9) rfl dX5_clashRule_1 ?_
  refine va_get (D := (dC, dI)) (ci := 1) (v := .ref azg_kind) (C := RX1) (T := TX1) (N := 5) hx hb hts in_X5_clashRule_X1 hown hK hP 1 rfl rfl 0 (by decide) (hts _ m_X5_clashRule_2) (fun _ h9 => h9) rfl dX5_clashRule_4 ?_
  refine lv_iload_n hx hb dX5_clashRule_7 rfl (lv_at hl 1 rfl) ?_
  refine va_iald (q0 := 2) (t0 := 0) (n := 25) (f := zg_kind) hx hb hK hP rfl rfl (vp_in_iff.mpr ⟨by omega, by omega⟩) dX5_clashRule_8 ?_
  refine lv_aload_n hx hb dX5_clashRule_9 rfl (lv_at hl 0 rfl) ?_
  refine va_get (D := (dC, dI)) (ci := 5) (v := .ref zg) (C := RX5) (T := TX5) (N := 6) hx hb hts in_X5_clashRule_X5 hown hK hP 0 rfl rfl 3 (by decide) (hts _ m_X5_clashRule_1) (fun _ h9 => h9) rfl dX5_clashRule_10 ?_
  refine va_get (D := (dC, dI)) (ci := 1) (v := .ref azg_kind) (C := RX1) (T := TX1) (N := 5) hx hb hts in_X5_clashRule_X1 hown hK hP 1 rfl rfl 0 (by decide) (hts _ m_X5_clashRule_2) (fun _ h9 => h9) rfl dX5_clashRule_13 ?_
  refine lv_iload_n hx hb dX5_clashRule_16 rfl (lv_at hl 2 rfl) ?_
  refine va_iald (q0 := 2) (t0 := 0) (n := 25) (f := zg_kind) hx hb hK hP rfl rfl (vp_in_iff.mpr ⟨by omega, by omega⟩) dX5_clashRule_17 ?_
  refine va_mmin hx hb (hml.trans hl.1.symm) hown (hts _ m_X5_clashRule_3) (hts _ m_X5_clashRule_4) (hts _ m_X5_clashRule_5) (hts _ m_X5_clashRule_6) (Nat.le_of_ble_eq_true rfl) (Nat.le_of_ble_eq_true rfl) (Nat.le_of_ble_eq_true rfl) (Nat.le_of_ble_eq_true rfl) dX5_clashRule_18 ?_
  refine lv_istore_n (lv' := [(3, .int (if (zg_kind (a_b).toNatClampNeg) < (zg_kind (a_a).toNatClampNeg) then (zg_kind (a_b).toNatClampNeg) else (zg_kind (a_a).toNatClampNeg))), (0, .ref zd), (1, .int a_a), (2, .int a_b)]) hx hb dX5_clashRule_21 rfl hl (by decide) rfl (fun ls hl => ?_)
  refine lv_aload_n hx hb dX5_clashRule_22 rfl (lv_at hl 1 rfl) ?_
  refine va_get (D := (dC, dI)) (ci := 5) (v := .ref zg) (C := RX5) (T := TX5) (N := 6) hx hb hts in_X5_clashRule_X5 hown hK hP 0 rfl rfl 3 (by decide) (hts _ m_X5_clashRule_1) (fun _ h9 => h9) rfl dX5_clashRule_23 ?_
  refine va_get (D := (dC, dI)) (ci := 1) (v := .ref azg_kind) (C := RX1) (T := TX1) (N := 5) hx hb hts in_X5_clashRule_X1 hown hK hP 1 rfl rfl 0 (by decide) (hts _ m_X5_clashRule_2) (fun _ h9 => h9) rfl dX5_clashRule_26 ?_
  refine lv_iload_n hx hb dX5_clashRule_29 rfl (lv_at hl 2 rfl) ?_
  refine va_iald (q0 := 2) (t0 := 0) (n := 25) (f := zg_kind) hx hb hK hP rfl rfl (vp_in_iff.mpr ⟨by omega, by omega⟩) dX5_clashRule_30 ?_
  refine lv_aload_n hx hb dX5_clashRule_31 rfl (lv_at hl 1 rfl) ?_
  refine va_get (D := (dC, dI)) (ci := 5) (v := .ref zg) (C := RX5) (T := TX5) (N := 6) hx hb hts in_X5_clashRule_X5 hown hK hP 0 rfl rfl 3 (by decide) (hts _ m_X5_clashRule_1) (fun _ h9 => h9) rfl dX5_clashRule_32 ?_
  refine va_get (D := (dC, dI)) (ci := 1) (v := .ref azg_kind) (C := RX1) (T := TX1) (N := 5) hx hb hts in_X5_clashRule_X1 hown hK hP 1 rfl rfl 0 (by decide) (hts _ m_X5_clashRule_2) (fun _ h9 => h9) rfl dX5_clashRule_35 ?_
  refine lv_iload_n hx hb dX5_clashRule_38 rfl (lv_at hl 3 rfl) ?_
  refine va_iald (q0 := 2) (t0 := 0) (n := 25) (f := zg_kind) hx hb hK hP rfl rfl (vp_in_iff.mpr ⟨by omega, by omega⟩) dX5_clashRule_39 ?_
  refine va_mmax hx hb (hml.trans hl.1.symm) hown (hts _ m_X5_clashRule_7) (hts _ m_X5_clashRule_8) (hts _ m_X5_clashRule_5) (hts _ m_X5_clashRule_9) (Nat.le_of_ble_eq_true rfl) (Nat.le_of_ble_eq_true rfl) (Nat.le_of_ble_eq_true rfl) (Nat.le_of_ble_eq_true rfl) dX5_clashRule_40 ?_
  refine lv_istore (lv' := [(4, .int (if (zg_kind (a_a).toNatClampNeg) < (zg_kind (a_b).toNatClampNeg) then (zg_kind (a_b).toNatClampNeg) else (zg_kind (a_a).toNatClampNeg))), (3, .int (if (zg_kind (a_b).toNatClampNeg) < (zg_kind (a_a).toNatClampNeg) then (zg_kind (a_b).toNatClampNeg) else (zg_kind (a_a).toNatClampNeg))), (0, .ref zd), (1, .int a_a), (2, .int a_b)]) hx hb dX5_clashRule_43 hl (by decide) rfl (fun ls hl => ?_)
  refine lv_iload_n hx hb dX5_clashRule_45 rfl (lv_at hl 1 rfl) ?_
  refine lv_if_ne (tgt := 57) hx hb dX5_clashRule_46 (by decide) (fun c_1 => ?_) (fun c_1 => ?_)
  · refine lv_iload_n hx hb dX5_clashRule_57 rfl (lv_at hl 1 rfl) ?_
    refine lv_iconst (v := (2 : Int32)) hx hb dX5_clashRule_58 (by decide) ?_
    refine lv_icmp_ne (tgt := 70) hx hb dX5_clashRule_59 (by decide) (fun c_2 => ?_) (fun c_2 => ?_)
    · refine lv_iload_n hx hb dX5_clashRule_70 rfl (lv_at hl 1 rfl) ?_
      refine lv_iconst (v := (3 : Int32)) hx hb dX5_clashRule_71 (by decide) ?_
      refine lv_icmp_ne (tgt := 104) hx hb dX5_clashRule_72 (by decide) (fun c_3 => ?_) (fun c_3 => ?_)
      · refine lv_iload_n hx hb dX5_clashRule_104 rfl (lv_at hl 1 rfl) ?_
        refine lv_iconst (v := (1 : Int32)) hx hb dX5_clashRule_105 (by decide) ?_
        refine lv_icmp_ne (tgt := 123) hx hb dX5_clashRule_106 (by decide) (fun c_4 => ?_) (fun c_4 => ?_)
        · refine lv_iconst (v := (0 : Int32)) hx hb dX5_clashRule_123 (by decide) ?_
          have hE : f_X5_clashRule zg_kind zg_look a_a a_b = (0 : Int32) := (by rw [f_X5_clashRule, if_neg c_1, if_neg c_2, if_neg c_3, if_neg c_4])
          exact W.iret (v := (0 : Int32)) hx hb hr (fun t ht hW => ⟨⟨(0 : Int32), (), rfl, by rw [hE], trivial⟩, hS.F ht⟩) hS.2.2 dX5_clashRule_124
        · refine lv_iload hx hb dX5_clashRule_109 (lv_at hl 0 rfl) ?_
          refine lv_iconst (v := (3 : Int32)) hx hb dX5_clashRule_111 (by decide) ?_
          refine lv_icmp_eq (tgt := 121) hx hb dX5_clashRule_112 (by decide) (fun c_5 => ?_) (fun c_5 => ?_)
          · refine lv_iconst (v := (4 : Int32)) hx hb dX5_clashRule_121 (by decide) ?_
            have hE : f_X5_clashRule zg_kind zg_look a_a a_b = (4 : Int32) := (by rw [f_X5_clashRule, if_neg c_1, if_neg c_2, if_neg c_3, if_pos c_4, if_pos c_5])
            exact W.iret (v := (4 : Int32)) hx hb hr (fun t ht hW => ⟨⟨(4 : Int32), (), rfl, by rw [hE], trivial⟩, hS.F ht⟩) hS.2.2 dX5_clashRule_122
          · refine lv_iload hx hb dX5_clashRule_115 (lv_at hl 0 rfl) ?_
            refine lv_iconst (v := (4 : Int32)) hx hb dX5_clashRule_117 (by decide) ?_
            refine lv_icmp_ne (tgt := 123) hx hb dX5_clashRule_118 (by decide) (fun c_6 => ?_) (fun c_6 => ?_)
            · refine lv_iconst (v := (0 : Int32)) hx hb dX5_clashRule_123 (by decide) ?_
              have hE : f_X5_clashRule zg_kind zg_look a_a a_b = (0 : Int32) := (by rw [f_X5_clashRule, if_neg c_1, if_neg c_2, if_neg c_3, if_pos c_4, if_neg c_5, if_neg c_6])
              exact W.iret (v := (0 : Int32)) hx hb hr (fun t ht hW => ⟨⟨(0 : Int32), (), rfl, by rw [hE], trivial⟩, hS.F ht⟩) hS.2.2 dX5_clashRule_124
            · refine lv_iconst (v := (4 : Int32)) hx hb dX5_clashRule_121 (by decide) ?_
              have hE : f_X5_clashRule zg_kind zg_look a_a a_b = (4 : Int32) := (by rw [f_X5_clashRule, if_neg c_1, if_neg c_2, if_neg c_3, if_pos c_4, if_neg c_5, if_pos c_6])
              exact W.iret (v := (4 : Int32)) hx hb hr (fun t ht hW => ⟨⟨(4 : Int32), (), rfl, by rw [hE], trivial⟩, hS.F ht⟩) hS.2.2 dX5_clashRule_122
      · refine lv_iload hx hb dX5_clashRule_75 (lv_at hl 0 rfl) ?_
        refine lv_iconst (v := (3 : Int32)) hx hb dX5_clashRule_77 (by decide) ?_
        refine lv_icmp_ne (tgt := 104) hx hb dX5_clashRule_78 (by decide) (fun c_7 => ?_) (fun c_7 => ?_)
        · refine lv_iload_n hx hb dX5_clashRule_104 rfl (lv_at hl 1 rfl) ?_
          refine lv_iconst (v := (1 : Int32)) hx hb dX5_clashRule_105 (by decide) ?_
          refine lv_icmp_ne (tgt := 123) hx hb dX5_clashRule_106 (by decide) (fun c_8 => ?_) (fun c_8 => ?_)
          · refine lv_iconst (v := (0 : Int32)) hx hb dX5_clashRule_123 (by decide) ?_
            have hE : f_X5_clashRule zg_kind zg_look a_a a_b = (0 : Int32) := (by rw [f_X5_clashRule, if_neg c_1, if_neg c_2, if_pos c_3, if_neg c_7, if_neg c_8])
            exact W.iret (v := (0 : Int32)) hx hb hr (fun t ht hW => ⟨⟨(0 : Int32), (), rfl, by rw [hE], trivial⟩, hS.F ht⟩) hS.2.2 dX5_clashRule_124
          · refine lv_iload hx hb dX5_clashRule_109 (lv_at hl 0 rfl) ?_
            refine lv_iconst (v := (3 : Int32)) hx hb dX5_clashRule_111 (by decide) ?_
            refine lv_icmp_eq (tgt := 121) hx hb dX5_clashRule_112 (by decide) (fun c_9 => ?_) (fun c_9 => ?_)
            · refine lv_iconst (v := (4 : Int32)) hx hb dX5_clashRule_121 (by decide) ?_
              have hE : f_X5_clashRule zg_kind zg_look a_a a_b = (4 : Int32) := (by rw [f_X5_clashRule, if_neg c_1, if_neg c_2, if_pos c_3, if_neg c_7, if_pos c_8, if_pos c_9])
              exact W.iret (v := (4 : Int32)) hx hb hr (fun t ht hW => ⟨⟨(4 : Int32), (), rfl, by rw [hE], trivial⟩, hS.F ht⟩) hS.2.2 dX5_clashRule_122
            · refine lv_iload hx hb dX5_clashRule_115 (lv_at hl 0 rfl) ?_
              refine lv_iconst (v := (4 : Int32)) hx hb dX5_clashRule_117 (by decide) ?_
              refine lv_icmp_ne (tgt := 123) hx hb dX5_clashRule_118 (by decide) (fun c_10 => ?_) (fun c_10 => ?_)
              · refine lv_iconst (v := (0 : Int32)) hx hb dX5_clashRule_123 (by decide) ?_
                have hE : f_X5_clashRule zg_kind zg_look a_a a_b = (0 : Int32) := (by rw [f_X5_clashRule, if_neg c_1, if_neg c_2, if_pos c_3, if_neg c_7, if_pos c_8, if_neg c_9, if_neg c_10])
                exact W.iret (v := (0 : Int32)) hx hb hr (fun t ht hW => ⟨⟨(0 : Int32), (), rfl, by rw [hE], trivial⟩, hS.F ht⟩) hS.2.2 dX5_clashRule_124
              · refine lv_iconst (v := (4 : Int32)) hx hb dX5_clashRule_121 (by decide) ?_
                have hE : f_X5_clashRule zg_kind zg_look a_a a_b = (4 : Int32) := (by rw [f_X5_clashRule, if_neg c_1, if_neg c_2, if_pos c_3, if_neg c_7, if_pos c_8, if_neg c_9, if_pos c_10])
                exact W.iret (v := (4 : Int32)) hx hb hr (fun t ht hW => ⟨⟨(4 : Int32), (), rfl, by rw [hE], trivial⟩, hS.F ht⟩) hS.2.2 dX5_clashRule_122
        · refine lv_aload_n hx hb dX5_clashRule_81 rfl (lv_at hl 2 rfl) ?_
          refine va_get (D := (dC, dI)) (ci := 5) (v := .ref zg) (C := RX5) (T := TX5) (N := 6) hx hb hts in_X5_clashRule_X5 hown hK hP 0 rfl rfl 3 (by decide) (hts _ m_X5_clashRule_1) (fun _ h9 => h9) rfl dX5_clashRule_82 ?_
          refine va_get (D := (dC, dI)) (ci := 1) (v := .ref azg_look) (C := RX1) (T := TX1) (N := 5) hx hb hts in_X5_clashRule_X1 hown hK hP 1 rfl rfl 3 (by decide) (hts _ m_X5_clashRule_10) (fun _ h9 => h9) rfl dX5_clashRule_85 ?_
          refine lv_iload_n hx hb dX5_clashRule_88 rfl (lv_at hl 3 rfl) ?_
          refine va_iald (q0 := 5) (t0 := 0) (n := 25) (f := zg_look) hx hb hK hP rfl rfl (vp_in_iff.mpr ⟨by omega, by omega⟩) dX5_clashRule_89 ?_
          refine lv_aload_n hx hb dX5_clashRule_90 rfl (lv_at hl 2 rfl) ?_
          refine va_get (D := (dC, dI)) (ci := 5) (v := .ref zg) (C := RX5) (T := TX5) (N := 6) hx hb hts in_X5_clashRule_X5 hown hK hP 0 rfl rfl 3 (by decide) (hts _ m_X5_clashRule_1) (fun _ h9 => h9) rfl dX5_clashRule_91 ?_
          refine va_get (D := (dC, dI)) (ci := 1) (v := .ref azg_look) (C := RX1) (T := TX1) (N := 5) hx hb hts in_X5_clashRule_X1 hown hK hP 1 rfl rfl 3 (by decide) (hts _ m_X5_clashRule_10) (fun _ h9 => h9) rfl dX5_clashRule_94 ?_
          refine lv_iload_n hx hb dX5_clashRule_97 rfl (lv_at hl 4 rfl) ?_
          refine va_iald (q0 := 5) (t0 := 0) (n := 25) (f := zg_look) hx hb hK hP rfl rfl (vp_in_iff.mpr ⟨by omega, by omega⟩) dX5_clashRule_98 ?_
          refine lv_icmp_eq (tgt := 104) hx hb dX5_clashRule_99 (by decide) (fun c_11 => ?_) (fun c_11 => ?_)
          · refine lv_iload_n hx hb dX5_clashRule_104 rfl (lv_at hl 1 rfl) ?_
            refine lv_iconst (v := (1 : Int32)) hx hb dX5_clashRule_105 (by decide) ?_
            refine lv_icmp_ne (tgt := 123) hx hb dX5_clashRule_106 (by decide) (fun c_12 => ?_) (fun c_12 => ?_)
            · refine lv_iconst (v := (0 : Int32)) hx hb dX5_clashRule_123 (by decide) ?_
              have hE : f_X5_clashRule zg_kind zg_look a_a a_b = (0 : Int32) := (by rw [f_X5_clashRule, if_neg c_1, if_neg c_2, if_pos c_3, if_pos c_7, if_pos c_11, if_neg c_12])
              exact W.iret (v := (0 : Int32)) hx hb hr (fun t ht hW => ⟨⟨(0 : Int32), (), rfl, by rw [hE], trivial⟩, hS.F ht⟩) hS.2.2 dX5_clashRule_124
            · refine lv_iload hx hb dX5_clashRule_109 (lv_at hl 0 rfl) ?_
              refine lv_iconst (v := (3 : Int32)) hx hb dX5_clashRule_111 (by decide) ?_
              refine lv_icmp_eq (tgt := 121) hx hb dX5_clashRule_112 (by decide) (fun c_13 => ?_) (fun c_13 => ?_)
              · refine lv_iconst (v := (4 : Int32)) hx hb dX5_clashRule_121 (by decide) ?_
                have hE : f_X5_clashRule zg_kind zg_look a_a a_b = (4 : Int32) := (by rw [f_X5_clashRule, if_neg c_1, if_neg c_2, if_pos c_3, if_pos c_7, if_pos c_11, if_pos c_12, if_pos c_13])
                exact W.iret (v := (4 : Int32)) hx hb hr (fun t ht hW => ⟨⟨(4 : Int32), (), rfl, by rw [hE], trivial⟩, hS.F ht⟩) hS.2.2 dX5_clashRule_122
              · refine lv_iload hx hb dX5_clashRule_115 (lv_at hl 0 rfl) ?_
                refine lv_iconst (v := (4 : Int32)) hx hb dX5_clashRule_117 (by decide) ?_
                refine lv_icmp_ne (tgt := 123) hx hb dX5_clashRule_118 (by decide) (fun c_14 => ?_) (fun c_14 => ?_)
                · refine lv_iconst (v := (0 : Int32)) hx hb dX5_clashRule_123 (by decide) ?_
                  have hE : f_X5_clashRule zg_kind zg_look a_a a_b = (0 : Int32) := (by rw [f_X5_clashRule, if_neg c_1, if_neg c_2, if_pos c_3, if_pos c_7, if_pos c_11, if_pos c_12, if_neg c_13, if_neg c_14])
                  exact W.iret (v := (0 : Int32)) hx hb hr (fun t ht hW => ⟨⟨(0 : Int32), (), rfl, by rw [hE], trivial⟩, hS.F ht⟩) hS.2.2 dX5_clashRule_124
                · refine lv_iconst (v := (4 : Int32)) hx hb dX5_clashRule_121 (by decide) ?_
                  have hE : f_X5_clashRule zg_kind zg_look a_a a_b = (4 : Int32) := (by rw [f_X5_clashRule, if_neg c_1, if_neg c_2, if_pos c_3, if_pos c_7, if_pos c_11, if_pos c_12, if_neg c_13, if_pos c_14])
                  exact W.iret (v := (4 : Int32)) hx hb hr (fun t ht hW => ⟨⟨(4 : Int32), (), rfl, by rw [hE], trivial⟩, hS.F ht⟩) hS.2.2 dX5_clashRule_122
          · refine lv_iconst (v := (3 : Int32)) hx hb dX5_clashRule_102 (by decide) ?_
            have hE : f_X5_clashRule zg_kind zg_look a_a a_b = (3 : Int32) := (by rw [f_X5_clashRule, if_neg c_1, if_neg c_2, if_pos c_3, if_pos c_7, if_neg c_11])
            exact W.iret (v := (3 : Int32)) hx hb hr (fun t ht hW => ⟨⟨(3 : Int32), (), rfl, by rw [hE], trivial⟩, hS.F ht⟩) hS.2.2 dX5_clashRule_103
    · refine lv_iload hx hb dX5_clashRule_62 (lv_at hl 0 rfl) ?_
      refine lv_iconst (v := (2 : Int32)) hx hb dX5_clashRule_64 (by decide) ?_
      refine lv_icmp_ne (tgt := 70) hx hb dX5_clashRule_65 (by decide) (fun c_15 => ?_) (fun c_15 => ?_)
      · refine lv_iload_n hx hb dX5_clashRule_70 rfl (lv_at hl 1 rfl) ?_
        refine lv_iconst (v := (3 : Int32)) hx hb dX5_clashRule_71 (by decide) ?_
        refine lv_icmp_ne (tgt := 104) hx hb dX5_clashRule_72 (by decide) (fun c_16 => ?_) (fun c_16 => ?_)
        · refine lv_iload_n hx hb dX5_clashRule_104 rfl (lv_at hl 1 rfl) ?_
          refine lv_iconst (v := (1 : Int32)) hx hb dX5_clashRule_105 (by decide) ?_
          refine lv_icmp_ne (tgt := 123) hx hb dX5_clashRule_106 (by decide) (fun c_17 => ?_) (fun c_17 => ?_)
          · refine lv_iconst (v := (0 : Int32)) hx hb dX5_clashRule_123 (by decide) ?_
            have hE : f_X5_clashRule zg_kind zg_look a_a a_b = (0 : Int32) := (by rw [f_X5_clashRule, if_neg c_1, if_pos c_2, if_neg c_15, if_neg c_16, if_neg c_17])
            exact W.iret (v := (0 : Int32)) hx hb hr (fun t ht hW => ⟨⟨(0 : Int32), (), rfl, by rw [hE], trivial⟩, hS.F ht⟩) hS.2.2 dX5_clashRule_124
          · refine lv_iload hx hb dX5_clashRule_109 (lv_at hl 0 rfl) ?_
            refine lv_iconst (v := (3 : Int32)) hx hb dX5_clashRule_111 (by decide) ?_
            refine lv_icmp_eq (tgt := 121) hx hb dX5_clashRule_112 (by decide) (fun c_18 => ?_) (fun c_18 => ?_)
            · refine lv_iconst (v := (4 : Int32)) hx hb dX5_clashRule_121 (by decide) ?_
              have hE : f_X5_clashRule zg_kind zg_look a_a a_b = (4 : Int32) := (by rw [f_X5_clashRule, if_neg c_1, if_pos c_2, if_neg c_15, if_neg c_16, if_pos c_17, if_pos c_18])
              exact W.iret (v := (4 : Int32)) hx hb hr (fun t ht hW => ⟨⟨(4 : Int32), (), rfl, by rw [hE], trivial⟩, hS.F ht⟩) hS.2.2 dX5_clashRule_122
            · refine lv_iload hx hb dX5_clashRule_115 (lv_at hl 0 rfl) ?_
              refine lv_iconst (v := (4 : Int32)) hx hb dX5_clashRule_117 (by decide) ?_
              refine lv_icmp_ne (tgt := 123) hx hb dX5_clashRule_118 (by decide) (fun c_19 => ?_) (fun c_19 => ?_)
              · refine lv_iconst (v := (0 : Int32)) hx hb dX5_clashRule_123 (by decide) ?_
                have hE : f_X5_clashRule zg_kind zg_look a_a a_b = (0 : Int32) := (by rw [f_X5_clashRule, if_neg c_1, if_pos c_2, if_neg c_15, if_neg c_16, if_pos c_17, if_neg c_18, if_neg c_19])
                exact W.iret (v := (0 : Int32)) hx hb hr (fun t ht hW => ⟨⟨(0 : Int32), (), rfl, by rw [hE], trivial⟩, hS.F ht⟩) hS.2.2 dX5_clashRule_124
              · refine lv_iconst (v := (4 : Int32)) hx hb dX5_clashRule_121 (by decide) ?_
                have hE : f_X5_clashRule zg_kind zg_look a_a a_b = (4 : Int32) := (by rw [f_X5_clashRule, if_neg c_1, if_pos c_2, if_neg c_15, if_neg c_16, if_pos c_17, if_neg c_18, if_pos c_19])
                exact W.iret (v := (4 : Int32)) hx hb hr (fun t ht hW => ⟨⟨(4 : Int32), (), rfl, by rw [hE], trivial⟩, hS.F ht⟩) hS.2.2 dX5_clashRule_122
        · refine lv_iload hx hb dX5_clashRule_75 (lv_at hl 0 rfl) ?_
          refine lv_iconst (v := (3 : Int32)) hx hb dX5_clashRule_77 (by decide) ?_
          refine lv_icmp_ne (tgt := 104) hx hb dX5_clashRule_78 (by decide) (fun c_20 => ?_) (fun c_20 => ?_)
          · refine lv_iload_n hx hb dX5_clashRule_104 rfl (lv_at hl 1 rfl) ?_
            refine lv_iconst (v := (1 : Int32)) hx hb dX5_clashRule_105 (by decide) ?_
            refine lv_icmp_ne (tgt := 123) hx hb dX5_clashRule_106 (by decide) (fun c_21 => ?_) (fun c_21 => ?_)
            · refine lv_iconst (v := (0 : Int32)) hx hb dX5_clashRule_123 (by decide) ?_
              have hE : f_X5_clashRule zg_kind zg_look a_a a_b = (0 : Int32) := (by rw [f_X5_clashRule, if_neg c_1, if_pos c_2, if_neg c_15, if_pos c_16, if_neg c_20, if_neg c_21])
              exact W.iret (v := (0 : Int32)) hx hb hr (fun t ht hW => ⟨⟨(0 : Int32), (), rfl, by rw [hE], trivial⟩, hS.F ht⟩) hS.2.2 dX5_clashRule_124
            · refine lv_iload hx hb dX5_clashRule_109 (lv_at hl 0 rfl) ?_
              refine lv_iconst (v := (3 : Int32)) hx hb dX5_clashRule_111 (by decide) ?_
              refine lv_icmp_eq (tgt := 121) hx hb dX5_clashRule_112 (by decide) (fun c_22 => ?_) (fun c_22 => ?_)
              · refine lv_iconst (v := (4 : Int32)) hx hb dX5_clashRule_121 (by decide) ?_
                have hE : f_X5_clashRule zg_kind zg_look a_a a_b = (4 : Int32) := (by rw [f_X5_clashRule, if_neg c_1, if_pos c_2, if_neg c_15, if_pos c_16, if_neg c_20, if_pos c_21, if_pos c_22])
                exact W.iret (v := (4 : Int32)) hx hb hr (fun t ht hW => ⟨⟨(4 : Int32), (), rfl, by rw [hE], trivial⟩, hS.F ht⟩) hS.2.2 dX5_clashRule_122
              · refine lv_iload hx hb dX5_clashRule_115 (lv_at hl 0 rfl) ?_
                refine lv_iconst (v := (4 : Int32)) hx hb dX5_clashRule_117 (by decide) ?_
                refine lv_icmp_ne (tgt := 123) hx hb dX5_clashRule_118 (by decide) (fun c_23 => ?_) (fun c_23 => ?_)
                · refine lv_iconst (v := (0 : Int32)) hx hb dX5_clashRule_123 (by decide) ?_
                  have hE : f_X5_clashRule zg_kind zg_look a_a a_b = (0 : Int32) := (by rw [f_X5_clashRule, if_neg c_1, if_pos c_2, if_neg c_15, if_pos c_16, if_neg c_20, if_pos c_21, if_neg c_22, if_neg c_23])
                  exact W.iret (v := (0 : Int32)) hx hb hr (fun t ht hW => ⟨⟨(0 : Int32), (), rfl, by rw [hE], trivial⟩, hS.F ht⟩) hS.2.2 dX5_clashRule_124
                · refine lv_iconst (v := (4 : Int32)) hx hb dX5_clashRule_121 (by decide) ?_
                  have hE : f_X5_clashRule zg_kind zg_look a_a a_b = (4 : Int32) := (by rw [f_X5_clashRule, if_neg c_1, if_pos c_2, if_neg c_15, if_pos c_16, if_neg c_20, if_pos c_21, if_neg c_22, if_pos c_23])
                  exact W.iret (v := (4 : Int32)) hx hb hr (fun t ht hW => ⟨⟨(4 : Int32), (), rfl, by rw [hE], trivial⟩, hS.F ht⟩) hS.2.2 dX5_clashRule_122
          · refine lv_aload_n hx hb dX5_clashRule_81 rfl (lv_at hl 2 rfl) ?_
            refine va_get (D := (dC, dI)) (ci := 5) (v := .ref zg) (C := RX5) (T := TX5) (N := 6) hx hb hts in_X5_clashRule_X5 hown hK hP 0 rfl rfl 3 (by decide) (hts _ m_X5_clashRule_1) (fun _ h9 => h9) rfl dX5_clashRule_82 ?_
            refine va_get (D := (dC, dI)) (ci := 1) (v := .ref azg_look) (C := RX1) (T := TX1) (N := 5) hx hb hts in_X5_clashRule_X1 hown hK hP 1 rfl rfl 3 (by decide) (hts _ m_X5_clashRule_10) (fun _ h9 => h9) rfl dX5_clashRule_85 ?_
            refine lv_iload_n hx hb dX5_clashRule_88 rfl (lv_at hl 3 rfl) ?_
            refine va_iald (q0 := 5) (t0 := 0) (n := 25) (f := zg_look) hx hb hK hP rfl rfl (vp_in_iff.mpr ⟨by omega, by omega⟩) dX5_clashRule_89 ?_
            refine lv_aload_n hx hb dX5_clashRule_90 rfl (lv_at hl 2 rfl) ?_
            refine va_get (D := (dC, dI)) (ci := 5) (v := .ref zg) (C := RX5) (T := TX5) (N := 6) hx hb hts in_X5_clashRule_X5 hown hK hP 0 rfl rfl 3 (by decide) (hts _ m_X5_clashRule_1) (fun _ h9 => h9) rfl dX5_clashRule_91 ?_
            refine va_get (D := (dC, dI)) (ci := 1) (v := .ref azg_look) (C := RX1) (T := TX1) (N := 5) hx hb hts in_X5_clashRule_X1 hown hK hP 1 rfl rfl 3 (by decide) (hts _ m_X5_clashRule_10) (fun _ h9 => h9) rfl dX5_clashRule_94 ?_
            refine lv_iload_n hx hb dX5_clashRule_97 rfl (lv_at hl 4 rfl) ?_
            refine va_iald (q0 := 5) (t0 := 0) (n := 25) (f := zg_look) hx hb hK hP rfl rfl (vp_in_iff.mpr ⟨by omega, by omega⟩) dX5_clashRule_98 ?_
            refine lv_icmp_eq (tgt := 104) hx hb dX5_clashRule_99 (by decide) (fun c_24 => ?_) (fun c_24 => ?_)
            · refine lv_iload_n hx hb dX5_clashRule_104 rfl (lv_at hl 1 rfl) ?_
              refine lv_iconst (v := (1 : Int32)) hx hb dX5_clashRule_105 (by decide) ?_
              refine lv_icmp_ne (tgt := 123) hx hb dX5_clashRule_106 (by decide) (fun c_25 => ?_) (fun c_25 => ?_)
              · refine lv_iconst (v := (0 : Int32)) hx hb dX5_clashRule_123 (by decide) ?_
                have hE : f_X5_clashRule zg_kind zg_look a_a a_b = (0 : Int32) := (by rw [f_X5_clashRule, if_neg c_1, if_pos c_2, if_neg c_15, if_pos c_16, if_pos c_20, if_pos c_24, if_neg c_25])
                exact W.iret (v := (0 : Int32)) hx hb hr (fun t ht hW => ⟨⟨(0 : Int32), (), rfl, by rw [hE], trivial⟩, hS.F ht⟩) hS.2.2 dX5_clashRule_124
              · refine lv_iload hx hb dX5_clashRule_109 (lv_at hl 0 rfl) ?_
                refine lv_iconst (v := (3 : Int32)) hx hb dX5_clashRule_111 (by decide) ?_
                refine lv_icmp_eq (tgt := 121) hx hb dX5_clashRule_112 (by decide) (fun c_26 => ?_) (fun c_26 => ?_)
                · refine lv_iconst (v := (4 : Int32)) hx hb dX5_clashRule_121 (by decide) ?_
                  have hE : f_X5_clashRule zg_kind zg_look a_a a_b = (4 : Int32) := (by rw [f_X5_clashRule, if_neg c_1, if_pos c_2, if_neg c_15, if_pos c_16, if_pos c_20, if_pos c_24, if_pos c_25, if_pos c_26])
                  exact W.iret (v := (4 : Int32)) hx hb hr (fun t ht hW => ⟨⟨(4 : Int32), (), rfl, by rw [hE], trivial⟩, hS.F ht⟩) hS.2.2 dX5_clashRule_122
                · refine lv_iload hx hb dX5_clashRule_115 (lv_at hl 0 rfl) ?_
                  refine lv_iconst (v := (4 : Int32)) hx hb dX5_clashRule_117 (by decide) ?_
                  refine lv_icmp_ne (tgt := 123) hx hb dX5_clashRule_118 (by decide) (fun c_27 => ?_) (fun c_27 => ?_)
                  · refine lv_iconst (v := (0 : Int32)) hx hb dX5_clashRule_123 (by decide) ?_
                    have hE : f_X5_clashRule zg_kind zg_look a_a a_b = (0 : Int32) := (by rw [f_X5_clashRule, if_neg c_1, if_pos c_2, if_neg c_15, if_pos c_16, if_pos c_20, if_pos c_24, if_pos c_25, if_neg c_26, if_neg c_27])
                    exact W.iret (v := (0 : Int32)) hx hb hr (fun t ht hW => ⟨⟨(0 : Int32), (), rfl, by rw [hE], trivial⟩, hS.F ht⟩) hS.2.2 dX5_clashRule_124
                  · refine lv_iconst (v := (4 : Int32)) hx hb dX5_clashRule_121 (by decide) ?_
                    have hE : f_X5_clashRule zg_kind zg_look a_a a_b = (4 : Int32) := (by rw [f_X5_clashRule, if_neg c_1, if_pos c_2, if_neg c_15, if_pos c_16, if_pos c_20, if_pos c_24, if_pos c_25, if_neg c_26, if_pos c_27])
                    exact W.iret (v := (4 : Int32)) hx hb hr (fun t ht hW => ⟨⟨(4 : Int32), (), rfl, by rw [hE], trivial⟩, hS.F ht⟩) hS.2.2 dX5_clashRule_122
            · refine lv_iconst (v := (3 : Int32)) hx hb dX5_clashRule_102 (by decide) ?_
              have hE : f_X5_clashRule zg_kind zg_look a_a a_b = (3 : Int32) := (by rw [f_X5_clashRule, if_neg c_1, if_pos c_2, if_neg c_15, if_pos c_16, if_pos c_20, if_neg c_24])
              exact W.iret (v := (3 : Int32)) hx hb hr (fun t ht hW => ⟨⟨(3 : Int32), (), rfl, by rw [hE], trivial⟩, hS.F ht⟩) hS.2.2 dX5_clashRule_103
      · refine lv_iconst (v := (2 : Int32)) hx hb dX5_clashRule_68 (by decide) ?_
        have hE : f_X5_clashRule zg_kind zg_look a_a a_b = (2 : Int32) := (by rw [f_X5_clashRule, if_neg c_1, if_pos c_2, if_pos c_15])
        exact W.iret (v := (2 : Int32)) hx hb hr (fun t ht hW => ⟨⟨(2 : Int32), (), rfl, by rw [hE], trivial⟩, hS.F ht⟩) hS.2.2 dX5_clashRule_69
  · refine lv_iload hx hb dX5_clashRule_49 (lv_at hl 0 rfl) ?_
    refine lv_iconst (v := (1 : Int32)) hx hb dX5_clashRule_51 (by decide) ?_
    refine lv_icmp_ne (tgt := 57) hx hb dX5_clashRule_52 (by decide) (fun c_28 => ?_) (fun c_28 => ?_)
    · refine lv_iload_n hx hb dX5_clashRule_57 rfl (lv_at hl 1 rfl) ?_
      refine lv_iconst (v := (2 : Int32)) hx hb dX5_clashRule_58 (by decide) ?_
      refine lv_icmp_ne (tgt := 70) hx hb dX5_clashRule_59 (by decide) (fun c_29 => ?_) (fun c_29 => ?_)
      · refine lv_iload_n hx hb dX5_clashRule_70 rfl (lv_at hl 1 rfl) ?_
        refine lv_iconst (v := (3 : Int32)) hx hb dX5_clashRule_71 (by decide) ?_
        refine lv_icmp_ne (tgt := 104) hx hb dX5_clashRule_72 (by decide) (fun c_30 => ?_) (fun c_30 => ?_)
        · refine lv_iload_n hx hb dX5_clashRule_104 rfl (lv_at hl 1 rfl) ?_
          refine lv_iconst (v := (1 : Int32)) hx hb dX5_clashRule_105 (by decide) ?_
          refine lv_icmp_ne (tgt := 123) hx hb dX5_clashRule_106 (by decide) (fun c_31 => ?_) (fun c_31 => ?_)
          · refine lv_iconst (v := (0 : Int32)) hx hb dX5_clashRule_123 (by decide) ?_
            have hE : f_X5_clashRule zg_kind zg_look a_a a_b = (0 : Int32) := (by rw [f_X5_clashRule, if_pos c_1, if_neg c_28, if_neg c_29, if_neg c_30, if_neg c_31])
            exact W.iret (v := (0 : Int32)) hx hb hr (fun t ht hW => ⟨⟨(0 : Int32), (), rfl, by rw [hE], trivial⟩, hS.F ht⟩) hS.2.2 dX5_clashRule_124
          · refine lv_iload hx hb dX5_clashRule_109 (lv_at hl 0 rfl) ?_
            refine lv_iconst (v := (3 : Int32)) hx hb dX5_clashRule_111 (by decide) ?_
            refine lv_icmp_eq (tgt := 121) hx hb dX5_clashRule_112 (by decide) (fun c_32 => ?_) (fun c_32 => ?_)
            · refine lv_iconst (v := (4 : Int32)) hx hb dX5_clashRule_121 (by decide) ?_
              have hE : f_X5_clashRule zg_kind zg_look a_a a_b = (4 : Int32) := (by rw [f_X5_clashRule, if_pos c_1, if_neg c_28, if_neg c_29, if_neg c_30, if_pos c_31, if_pos c_32])
              exact W.iret (v := (4 : Int32)) hx hb hr (fun t ht hW => ⟨⟨(4 : Int32), (), rfl, by rw [hE], trivial⟩, hS.F ht⟩) hS.2.2 dX5_clashRule_122
            · refine lv_iload hx hb dX5_clashRule_115 (lv_at hl 0 rfl) ?_
              refine lv_iconst (v := (4 : Int32)) hx hb dX5_clashRule_117 (by decide) ?_
              refine lv_icmp_ne (tgt := 123) hx hb dX5_clashRule_118 (by decide) (fun c_33 => ?_) (fun c_33 => ?_)
              · refine lv_iconst (v := (0 : Int32)) hx hb dX5_clashRule_123 (by decide) ?_
                have hE : f_X5_clashRule zg_kind zg_look a_a a_b = (0 : Int32) := (by rw [f_X5_clashRule, if_pos c_1, if_neg c_28, if_neg c_29, if_neg c_30, if_pos c_31, if_neg c_32, if_neg c_33])
                exact W.iret (v := (0 : Int32)) hx hb hr (fun t ht hW => ⟨⟨(0 : Int32), (), rfl, by rw [hE], trivial⟩, hS.F ht⟩) hS.2.2 dX5_clashRule_124
              · refine lv_iconst (v := (4 : Int32)) hx hb dX5_clashRule_121 (by decide) ?_
                have hE : f_X5_clashRule zg_kind zg_look a_a a_b = (4 : Int32) := (by rw [f_X5_clashRule, if_pos c_1, if_neg c_28, if_neg c_29, if_neg c_30, if_pos c_31, if_neg c_32, if_pos c_33])
                exact W.iret (v := (4 : Int32)) hx hb hr (fun t ht hW => ⟨⟨(4 : Int32), (), rfl, by rw [hE], trivial⟩, hS.F ht⟩) hS.2.2 dX5_clashRule_122
        · refine lv_iload hx hb dX5_clashRule_75 (lv_at hl 0 rfl) ?_
          refine lv_iconst (v := (3 : Int32)) hx hb dX5_clashRule_77 (by decide) ?_
          refine lv_icmp_ne (tgt := 104) hx hb dX5_clashRule_78 (by decide) (fun c_34 => ?_) (fun c_34 => ?_)
          · refine lv_iload_n hx hb dX5_clashRule_104 rfl (lv_at hl 1 rfl) ?_
            refine lv_iconst (v := (1 : Int32)) hx hb dX5_clashRule_105 (by decide) ?_
            refine lv_icmp_ne (tgt := 123) hx hb dX5_clashRule_106 (by decide) (fun c_35 => ?_) (fun c_35 => ?_)
            · refine lv_iconst (v := (0 : Int32)) hx hb dX5_clashRule_123 (by decide) ?_
              have hE : f_X5_clashRule zg_kind zg_look a_a a_b = (0 : Int32) := (by rw [f_X5_clashRule, if_pos c_1, if_neg c_28, if_neg c_29, if_pos c_30, if_neg c_34, if_neg c_35])
              exact W.iret (v := (0 : Int32)) hx hb hr (fun t ht hW => ⟨⟨(0 : Int32), (), rfl, by rw [hE], trivial⟩, hS.F ht⟩) hS.2.2 dX5_clashRule_124
            · refine lv_iload hx hb dX5_clashRule_109 (lv_at hl 0 rfl) ?_
              refine lv_iconst (v := (3 : Int32)) hx hb dX5_clashRule_111 (by decide) ?_
              refine lv_icmp_eq (tgt := 121) hx hb dX5_clashRule_112 (by decide) (fun c_36 => ?_) (fun c_36 => ?_)
              · refine lv_iconst (v := (4 : Int32)) hx hb dX5_clashRule_121 (by decide) ?_
                have hE : f_X5_clashRule zg_kind zg_look a_a a_b = (4 : Int32) := (by rw [f_X5_clashRule, if_pos c_1, if_neg c_28, if_neg c_29, if_pos c_30, if_neg c_34, if_pos c_35, if_pos c_36])
                exact W.iret (v := (4 : Int32)) hx hb hr (fun t ht hW => ⟨⟨(4 : Int32), (), rfl, by rw [hE], trivial⟩, hS.F ht⟩) hS.2.2 dX5_clashRule_122
              · refine lv_iload hx hb dX5_clashRule_115 (lv_at hl 0 rfl) ?_
                refine lv_iconst (v := (4 : Int32)) hx hb dX5_clashRule_117 (by decide) ?_
                refine lv_icmp_ne (tgt := 123) hx hb dX5_clashRule_118 (by decide) (fun c_37 => ?_) (fun c_37 => ?_)
                · refine lv_iconst (v := (0 : Int32)) hx hb dX5_clashRule_123 (by decide) ?_
                  have hE : f_X5_clashRule zg_kind zg_look a_a a_b = (0 : Int32) := (by rw [f_X5_clashRule, if_pos c_1, if_neg c_28, if_neg c_29, if_pos c_30, if_neg c_34, if_pos c_35, if_neg c_36, if_neg c_37])
                  exact W.iret (v := (0 : Int32)) hx hb hr (fun t ht hW => ⟨⟨(0 : Int32), (), rfl, by rw [hE], trivial⟩, hS.F ht⟩) hS.2.2 dX5_clashRule_124
                · refine lv_iconst (v := (4 : Int32)) hx hb dX5_clashRule_121 (by decide) ?_
                  have hE : f_X5_clashRule zg_kind zg_look a_a a_b = (4 : Int32) := (by rw [f_X5_clashRule, if_pos c_1, if_neg c_28, if_neg c_29, if_pos c_30, if_neg c_34, if_pos c_35, if_neg c_36, if_pos c_37])
                  exact W.iret (v := (4 : Int32)) hx hb hr (fun t ht hW => ⟨⟨(4 : Int32), (), rfl, by rw [hE], trivial⟩, hS.F ht⟩) hS.2.2 dX5_clashRule_122
          · refine lv_aload_n hx hb dX5_clashRule_81 rfl (lv_at hl 2 rfl) ?_
            refine va_get (D := (dC, dI)) (ci := 5) (v := .ref zg) (C := RX5) (T := TX5) (N := 6) hx hb hts in_X5_clashRule_X5 hown hK hP 0 rfl rfl 3 (by decide) (hts _ m_X5_clashRule_1) (fun _ h9 => h9) rfl dX5_clashRule_82 ?_
            refine va_get (D := (dC, dI)) (ci := 1) (v := .ref azg_look) (C := RX1) (T := TX1) (N := 5) hx hb hts in_X5_clashRule_X1 hown hK hP 1 rfl rfl 3 (by decide) (hts _ m_X5_clashRule_10) (fun _ h9 => h9) rfl dX5_clashRule_85 ?_
            refine lv_iload_n hx hb dX5_clashRule_88 rfl (lv_at hl 3 rfl) ?_
            refine va_iald (q0 := 5) (t0 := 0) (n := 25) (f := zg_look) hx hb hK hP rfl rfl (vp_in_iff.mpr ⟨by omega, by omega⟩) dX5_clashRule_89 ?_
            refine lv_aload_n hx hb dX5_clashRule_90 rfl (lv_at hl 2 rfl) ?_
            refine va_get (D := (dC, dI)) (ci := 5) (v := .ref zg) (C := RX5) (T := TX5) (N := 6) hx hb hts in_X5_clashRule_X5 hown hK hP 0 rfl rfl 3 (by decide) (hts _ m_X5_clashRule_1) (fun _ h9 => h9) rfl dX5_clashRule_91 ?_
            refine va_get (D := (dC, dI)) (ci := 1) (v := .ref azg_look) (C := RX1) (T := TX1) (N := 5) hx hb hts in_X5_clashRule_X1 hown hK hP 1 rfl rfl 3 (by decide) (hts _ m_X5_clashRule_10) (fun _ h9 => h9) rfl dX5_clashRule_94 ?_
            refine lv_iload_n hx hb dX5_clashRule_97 rfl (lv_at hl 4 rfl) ?_
            refine va_iald (q0 := 5) (t0 := 0) (n := 25) (f := zg_look) hx hb hK hP rfl rfl (vp_in_iff.mpr ⟨by omega, by omega⟩) dX5_clashRule_98 ?_
            refine lv_icmp_eq (tgt := 104) hx hb dX5_clashRule_99 (by decide) (fun c_38 => ?_) (fun c_38 => ?_)
            · refine lv_iload_n hx hb dX5_clashRule_104 rfl (lv_at hl 1 rfl) ?_
              refine lv_iconst (v := (1 : Int32)) hx hb dX5_clashRule_105 (by decide) ?_
              refine lv_icmp_ne (tgt := 123) hx hb dX5_clashRule_106 (by decide) (fun c_39 => ?_) (fun c_39 => ?_)
              · refine lv_iconst (v := (0 : Int32)) hx hb dX5_clashRule_123 (by decide) ?_
                have hE : f_X5_clashRule zg_kind zg_look a_a a_b = (0 : Int32) := (by rw [f_X5_clashRule, if_pos c_1, if_neg c_28, if_neg c_29, if_pos c_30, if_pos c_34, if_pos c_38, if_neg c_39])
                exact W.iret (v := (0 : Int32)) hx hb hr (fun t ht hW => ⟨⟨(0 : Int32), (), rfl, by rw [hE], trivial⟩, hS.F ht⟩) hS.2.2 dX5_clashRule_124
              · refine lv_iload hx hb dX5_clashRule_109 (lv_at hl 0 rfl) ?_
                refine lv_iconst (v := (3 : Int32)) hx hb dX5_clashRule_111 (by decide) ?_
                refine lv_icmp_eq (tgt := 121) hx hb dX5_clashRule_112 (by decide) (fun c_40 => ?_) (fun c_40 => ?_)
                · refine lv_iconst (v := (4 : Int32)) hx hb dX5_clashRule_121 (by decide) ?_
                  have hE : f_X5_clashRule zg_kind zg_look a_a a_b = (4 : Int32) := (by rw [f_X5_clashRule, if_pos c_1, if_neg c_28, if_neg c_29, if_pos c_30, if_pos c_34, if_pos c_38, if_pos c_39, if_pos c_40])
                  exact W.iret (v := (4 : Int32)) hx hb hr (fun t ht hW => ⟨⟨(4 : Int32), (), rfl, by rw [hE], trivial⟩, hS.F ht⟩) hS.2.2 dX5_clashRule_122
                · refine lv_iload hx hb dX5_clashRule_115 (lv_at hl 0 rfl) ?_
                  refine lv_iconst (v := (4 : Int32)) hx hb dX5_clashRule_117 (by decide) ?_
                  refine lv_icmp_ne (tgt := 123) hx hb dX5_clashRule_118 (by decide) (fun c_41 => ?_) (fun c_41 => ?_)
                  · refine lv_iconst (v := (0 : Int32)) hx hb dX5_clashRule_123 (by decide) ?_
                    have hE : f_X5_clashRule zg_kind zg_look a_a a_b = (0 : Int32) := (by rw [f_X5_clashRule, if_pos c_1, if_neg c_28, if_neg c_29, if_pos c_30, if_pos c_34, if_pos c_38, if_pos c_39, if_neg c_40, if_neg c_41])
                    exact W.iret (v := (0 : Int32)) hx hb hr (fun t ht hW => ⟨⟨(0 : Int32), (), rfl, by rw [hE], trivial⟩, hS.F ht⟩) hS.2.2 dX5_clashRule_124
                  · refine lv_iconst (v := (4 : Int32)) hx hb dX5_clashRule_121 (by decide) ?_
                    have hE : f_X5_clashRule zg_kind zg_look a_a a_b = (4 : Int32) := (by rw [f_X5_clashRule, if_pos c_1, if_neg c_28, if_neg c_29, if_pos c_30, if_pos c_34, if_pos c_38, if_pos c_39, if_neg c_40, if_pos c_41])
                    exact W.iret (v := (4 : Int32)) hx hb hr (fun t ht hW => ⟨⟨(4 : Int32), (), rfl, by rw [hE], trivial⟩, hS.F ht⟩) hS.2.2 dX5_clashRule_122
            · refine lv_iconst (v := (3 : Int32)) hx hb dX5_clashRule_102 (by decide) ?_
              have hE : f_X5_clashRule zg_kind zg_look a_a a_b = (3 : Int32) := (by rw [f_X5_clashRule, if_pos c_1, if_neg c_28, if_neg c_29, if_pos c_30, if_pos c_34, if_neg c_38])
              exact W.iret (v := (3 : Int32)) hx hb hr (fun t ht hW => ⟨⟨(3 : Int32), (), rfl, by rw [hE], trivial⟩, hS.F ht⟩) hS.2.2 dX5_clashRule_103
      · refine lv_iload hx hb dX5_clashRule_62 (lv_at hl 0 rfl) ?_
        refine lv_iconst (v := (2 : Int32)) hx hb dX5_clashRule_64 (by decide) ?_
        refine lv_icmp_ne (tgt := 70) hx hb dX5_clashRule_65 (by decide) (fun c_42 => ?_) (fun c_42 => ?_)
        · refine lv_iload_n hx hb dX5_clashRule_70 rfl (lv_at hl 1 rfl) ?_
          refine lv_iconst (v := (3 : Int32)) hx hb dX5_clashRule_71 (by decide) ?_
          refine lv_icmp_ne (tgt := 104) hx hb dX5_clashRule_72 (by decide) (fun c_43 => ?_) (fun c_43 => ?_)
          · refine lv_iload_n hx hb dX5_clashRule_104 rfl (lv_at hl 1 rfl) ?_
            refine lv_iconst (v := (1 : Int32)) hx hb dX5_clashRule_105 (by decide) ?_
            refine lv_icmp_ne (tgt := 123) hx hb dX5_clashRule_106 (by decide) (fun c_44 => ?_) (fun c_44 => ?_)
            · refine lv_iconst (v := (0 : Int32)) hx hb dX5_clashRule_123 (by decide) ?_
              have hE : f_X5_clashRule zg_kind zg_look a_a a_b = (0 : Int32) := (by rw [f_X5_clashRule, if_pos c_1, if_neg c_28, if_pos c_29, if_neg c_42, if_neg c_43, if_neg c_44])
              exact W.iret (v := (0 : Int32)) hx hb hr (fun t ht hW => ⟨⟨(0 : Int32), (), rfl, by rw [hE], trivial⟩, hS.F ht⟩) hS.2.2 dX5_clashRule_124
            · refine lv_iload hx hb dX5_clashRule_109 (lv_at hl 0 rfl) ?_
              refine lv_iconst (v := (3 : Int32)) hx hb dX5_clashRule_111 (by decide) ?_
              refine lv_icmp_eq (tgt := 121) hx hb dX5_clashRule_112 (by decide) (fun c_45 => ?_) (fun c_45 => ?_)
              · refine lv_iconst (v := (4 : Int32)) hx hb dX5_clashRule_121 (by decide) ?_
                have hE : f_X5_clashRule zg_kind zg_look a_a a_b = (4 : Int32) := (by rw [f_X5_clashRule, if_pos c_1, if_neg c_28, if_pos c_29, if_neg c_42, if_neg c_43, if_pos c_44, if_pos c_45])
                exact W.iret (v := (4 : Int32)) hx hb hr (fun t ht hW => ⟨⟨(4 : Int32), (), rfl, by rw [hE], trivial⟩, hS.F ht⟩) hS.2.2 dX5_clashRule_122
              · refine lv_iload hx hb dX5_clashRule_115 (lv_at hl 0 rfl) ?_
                refine lv_iconst (v := (4 : Int32)) hx hb dX5_clashRule_117 (by decide) ?_
                refine lv_icmp_ne (tgt := 123) hx hb dX5_clashRule_118 (by decide) (fun c_46 => ?_) (fun c_46 => ?_)
                · refine lv_iconst (v := (0 : Int32)) hx hb dX5_clashRule_123 (by decide) ?_
                  have hE : f_X5_clashRule zg_kind zg_look a_a a_b = (0 : Int32) := (by rw [f_X5_clashRule, if_pos c_1, if_neg c_28, if_pos c_29, if_neg c_42, if_neg c_43, if_pos c_44, if_neg c_45, if_neg c_46])
                  exact W.iret (v := (0 : Int32)) hx hb hr (fun t ht hW => ⟨⟨(0 : Int32), (), rfl, by rw [hE], trivial⟩, hS.F ht⟩) hS.2.2 dX5_clashRule_124
                · refine lv_iconst (v := (4 : Int32)) hx hb dX5_clashRule_121 (by decide) ?_
                  have hE : f_X5_clashRule zg_kind zg_look a_a a_b = (4 : Int32) := (by rw [f_X5_clashRule, if_pos c_1, if_neg c_28, if_pos c_29, if_neg c_42, if_neg c_43, if_pos c_44, if_neg c_45, if_pos c_46])
                  exact W.iret (v := (4 : Int32)) hx hb hr (fun t ht hW => ⟨⟨(4 : Int32), (), rfl, by rw [hE], trivial⟩, hS.F ht⟩) hS.2.2 dX5_clashRule_122
          · refine lv_iload hx hb dX5_clashRule_75 (lv_at hl 0 rfl) ?_
            refine lv_iconst (v := (3 : Int32)) hx hb dX5_clashRule_77 (by decide) ?_
            refine lv_icmp_ne (tgt := 104) hx hb dX5_clashRule_78 (by decide) (fun c_47 => ?_) (fun c_47 => ?_)
            · refine lv_iload_n hx hb dX5_clashRule_104 rfl (lv_at hl 1 rfl) ?_
              refine lv_iconst (v := (1 : Int32)) hx hb dX5_clashRule_105 (by decide) ?_
              refine lv_icmp_ne (tgt := 123) hx hb dX5_clashRule_106 (by decide) (fun c_48 => ?_) (fun c_48 => ?_)
              · refine lv_iconst (v := (0 : Int32)) hx hb dX5_clashRule_123 (by decide) ?_
                have hE : f_X5_clashRule zg_kind zg_look a_a a_b = (0 : Int32) := (by rw [f_X5_clashRule, if_pos c_1, if_neg c_28, if_pos c_29, if_neg c_42, if_pos c_43, if_neg c_47, if_neg c_48])
                exact W.iret (v := (0 : Int32)) hx hb hr (fun t ht hW => ⟨⟨(0 : Int32), (), rfl, by rw [hE], trivial⟩, hS.F ht⟩) hS.2.2 dX5_clashRule_124
              · refine lv_iload hx hb dX5_clashRule_109 (lv_at hl 0 rfl) ?_
                refine lv_iconst (v := (3 : Int32)) hx hb dX5_clashRule_111 (by decide) ?_
                refine lv_icmp_eq (tgt := 121) hx hb dX5_clashRule_112 (by decide) (fun c_49 => ?_) (fun c_49 => ?_)
                · refine lv_iconst (v := (4 : Int32)) hx hb dX5_clashRule_121 (by decide) ?_
                  have hE : f_X5_clashRule zg_kind zg_look a_a a_b = (4 : Int32) := (by rw [f_X5_clashRule, if_pos c_1, if_neg c_28, if_pos c_29, if_neg c_42, if_pos c_43, if_neg c_47, if_pos c_48, if_pos c_49])
                  exact W.iret (v := (4 : Int32)) hx hb hr (fun t ht hW => ⟨⟨(4 : Int32), (), rfl, by rw [hE], trivial⟩, hS.F ht⟩) hS.2.2 dX5_clashRule_122
                · refine lv_iload hx hb dX5_clashRule_115 (lv_at hl 0 rfl) ?_
                  refine lv_iconst (v := (4 : Int32)) hx hb dX5_clashRule_117 (by decide) ?_
                  refine lv_icmp_ne (tgt := 123) hx hb dX5_clashRule_118 (by decide) (fun c_50 => ?_) (fun c_50 => ?_)
                  · refine lv_iconst (v := (0 : Int32)) hx hb dX5_clashRule_123 (by decide) ?_
                    have hE : f_X5_clashRule zg_kind zg_look a_a a_b = (0 : Int32) := (by rw [f_X5_clashRule, if_pos c_1, if_neg c_28, if_pos c_29, if_neg c_42, if_pos c_43, if_neg c_47, if_pos c_48, if_neg c_49, if_neg c_50])
                    exact W.iret (v := (0 : Int32)) hx hb hr (fun t ht hW => ⟨⟨(0 : Int32), (), rfl, by rw [hE], trivial⟩, hS.F ht⟩) hS.2.2 dX5_clashRule_124
                  · refine lv_iconst (v := (4 : Int32)) hx hb dX5_clashRule_121 (by decide) ?_
                    have hE : f_X5_clashRule zg_kind zg_look a_a a_b = (4 : Int32) := (by rw [f_X5_clashRule, if_pos c_1, if_neg c_28, if_pos c_29, if_neg c_42, if_pos c_43, if_neg c_47, if_pos c_48, if_neg c_49, if_pos c_50])
                    exact W.iret (v := (4 : Int32)) hx hb hr (fun t ht hW => ⟨⟨(4 : Int32), (), rfl, by rw [hE], trivial⟩, hS.F ht⟩) hS.2.2 dX5_clashRule_122
            · refine lv_aload_n hx hb dX5_clashRule_81 rfl (lv_at hl 2 rfl) ?_
              refine va_get (D := (dC, dI)) (ci := 5) (v := .ref zg) (C := RX5) (T := TX5) (N := 6) hx hb hts in_X5_clashRule_X5 hown hK hP 0 rfl rfl 3 (by decide) (hts _ m_X5_clashRule_1) (fun _ h9 => h9) rfl dX5_clashRule_82 ?_
              refine va_get (D := (dC, dI)) (ci := 1) (v := .ref azg_look) (C := RX1) (T := TX1) (N := 5) hx hb hts in_X5_clashRule_X1 hown hK hP 1 rfl rfl 3 (by decide) (hts _ m_X5_clashRule_10) (fun _ h9 => h9) rfl dX5_clashRule_85 ?_
              refine lv_iload_n hx hb dX5_clashRule_88 rfl (lv_at hl 3 rfl) ?_
              refine va_iald (q0 := 5) (t0 := 0) (n := 25) (f := zg_look) hx hb hK hP rfl rfl (vp_in_iff.mpr ⟨by omega, by omega⟩) dX5_clashRule_89 ?_
              refine lv_aload_n hx hb dX5_clashRule_90 rfl (lv_at hl 2 rfl) ?_
              refine va_get (D := (dC, dI)) (ci := 5) (v := .ref zg) (C := RX5) (T := TX5) (N := 6) hx hb hts in_X5_clashRule_X5 hown hK hP 0 rfl rfl 3 (by decide) (hts _ m_X5_clashRule_1) (fun _ h9 => h9) rfl dX5_clashRule_91 ?_
              refine va_get (D := (dC, dI)) (ci := 1) (v := .ref azg_look) (C := RX1) (T := TX1) (N := 5) hx hb hts in_X5_clashRule_X1 hown hK hP 1 rfl rfl 3 (by decide) (hts _ m_X5_clashRule_10) (fun _ h9 => h9) rfl dX5_clashRule_94 ?_
              refine lv_iload_n hx hb dX5_clashRule_97 rfl (lv_at hl 4 rfl) ?_
              refine va_iald (q0 := 5) (t0 := 0) (n := 25) (f := zg_look) hx hb hK hP rfl rfl (vp_in_iff.mpr ⟨by omega, by omega⟩) dX5_clashRule_98 ?_
              refine lv_icmp_eq (tgt := 104) hx hb dX5_clashRule_99 (by decide) (fun c_51 => ?_) (fun c_51 => ?_)
              · refine lv_iload_n hx hb dX5_clashRule_104 rfl (lv_at hl 1 rfl) ?_
                refine lv_iconst (v := (1 : Int32)) hx hb dX5_clashRule_105 (by decide) ?_
                refine lv_icmp_ne (tgt := 123) hx hb dX5_clashRule_106 (by decide) (fun c_52 => ?_) (fun c_52 => ?_)
                · refine lv_iconst (v := (0 : Int32)) hx hb dX5_clashRule_123 (by decide) ?_
                  have hE : f_X5_clashRule zg_kind zg_look a_a a_b = (0 : Int32) := (by rw [f_X5_clashRule, if_pos c_1, if_neg c_28, if_pos c_29, if_neg c_42, if_pos c_43, if_pos c_47, if_pos c_51, if_neg c_52])
                  exact W.iret (v := (0 : Int32)) hx hb hr (fun t ht hW => ⟨⟨(0 : Int32), (), rfl, by rw [hE], trivial⟩, hS.F ht⟩) hS.2.2 dX5_clashRule_124
                · refine lv_iload hx hb dX5_clashRule_109 (lv_at hl 0 rfl) ?_
                  refine lv_iconst (v := (3 : Int32)) hx hb dX5_clashRule_111 (by decide) ?_
                  refine lv_icmp_eq (tgt := 121) hx hb dX5_clashRule_112 (by decide) (fun c_53 => ?_) (fun c_53 => ?_)
                  · refine lv_iconst (v := (4 : Int32)) hx hb dX5_clashRule_121 (by decide) ?_
                    have hE : f_X5_clashRule zg_kind zg_look a_a a_b = (4 : Int32) := (by rw [f_X5_clashRule, if_pos c_1, if_neg c_28, if_pos c_29, if_neg c_42, if_pos c_43, if_pos c_47, if_pos c_51, if_pos c_52, if_pos c_53])
                    exact W.iret (v := (4 : Int32)) hx hb hr (fun t ht hW => ⟨⟨(4 : Int32), (), rfl, by rw [hE], trivial⟩, hS.F ht⟩) hS.2.2 dX5_clashRule_122
                  · refine lv_iload hx hb dX5_clashRule_115 (lv_at hl 0 rfl) ?_
                    refine lv_iconst (v := (4 : Int32)) hx hb dX5_clashRule_117 (by decide) ?_
                    refine lv_icmp_ne (tgt := 123) hx hb dX5_clashRule_118 (by decide) (fun c_54 => ?_) (fun c_54 => ?_)
                    · refine lv_iconst (v := (0 : Int32)) hx hb dX5_clashRule_123 (by decide) ?_
                      have hE : f_X5_clashRule zg_kind zg_look a_a a_b = (0 : Int32) := (by rw [f_X5_clashRule, if_pos c_1, if_neg c_28, if_pos c_29, if_neg c_42, if_pos c_43, if_pos c_47, if_pos c_51, if_pos c_52, if_neg c_53, if_neg c_54])
                      exact W.iret (v := (0 : Int32)) hx hb hr (fun t ht hW => ⟨⟨(0 : Int32), (), rfl, by rw [hE], trivial⟩, hS.F ht⟩) hS.2.2 dX5_clashRule_124
                    · refine lv_iconst (v := (4 : Int32)) hx hb dX5_clashRule_121 (by decide) ?_
                      have hE : f_X5_clashRule zg_kind zg_look a_a a_b = (4 : Int32) := (by rw [f_X5_clashRule, if_pos c_1, if_neg c_28, if_pos c_29, if_neg c_42, if_pos c_43, if_pos c_47, if_pos c_51, if_pos c_52, if_neg c_53, if_pos c_54])
                      exact W.iret (v := (4 : Int32)) hx hb hr (fun t ht hW => ⟨⟨(4 : Int32), (), rfl, by rw [hE], trivial⟩, hS.F ht⟩) hS.2.2 dX5_clashRule_122
              · refine lv_iconst (v := (3 : Int32)) hx hb dX5_clashRule_102 (by decide) ?_
                have hE : f_X5_clashRule zg_kind zg_look a_a a_b = (3 : Int32) := (by rw [f_X5_clashRule, if_pos c_1, if_neg c_28, if_pos c_29, if_neg c_42, if_pos c_43, if_pos c_47, if_neg c_51])
                exact W.iret (v := (3 : Int32)) hx hb hr (fun t ht hW => ⟨⟨(3 : Int32), (), rfl, by rw [hE], trivial⟩, hS.F ht⟩) hS.2.2 dX5_clashRule_103
        · refine lv_iconst (v := (2 : Int32)) hx hb dX5_clashRule_68 (by decide) ?_
          have hE : f_X5_clashRule zg_kind zg_look a_a a_b = (2 : Int32) := (by rw [f_X5_clashRule, if_pos c_1, if_neg c_28, if_pos c_29, if_pos c_42])
          exact W.iret (v := (2 : Int32)) hx hb hr (fun t ht hW => ⟨⟨(2 : Int32), (), rfl, by rw [hE], trivial⟩, hS.F ht⟩) hS.2.2 dX5_clashRule_69
    · refine lv_iconst (v := (1 : Int32)) hx hb dX5_clashRule_55 (by decide) ?_
      have hE : f_X5_clashRule zg_kind zg_look a_a a_b = (1 : Int32) := (by rw [f_X5_clashRule, if_pos c_1, if_pos c_28])
      exact W.iret (v := (1 : Int32)) hx hb hr (fun t ht hW => ⟨⟨(1 : Int32), (), rfl, by rw [hE], trivial⟩, hS.F ht⟩) hS.2.2 dX5_clashRule_56
theorem dX5_clashOf_0 : decode cX5_clashOf 0 = .ok (.aload_n 0, 1) := by decide +kernel
theorem dX5_clashOf_1 : decode cX5_clashOf 1 = .ok (.getfield 29, 3) := by decide +kernel
theorem in_X5_clashOf_X5 : ∀ w ∈ wsX50, w ∈ wsX5_clashOf := by decide +kernel
theorem m_X5_clashOf_1 : (.fieldLink RX5 29 "RedlineDesk" "ledger" "LRedlineDesk$Ledger;" : Cond) ∈ wsX5_clashOf := List.mem_of_getElem? (i := 1) (by decide +kernel)
theorem dX5_clashOf_4 : decode cX5_clashOf 4 = .ok (.getfield 170, 3) := by decide +kernel
theorem in_X5_clashOf_X1 : ∀ w ∈ wsX10, w ∈ wsX5_clashOf := by decide +kernel
theorem m_X5_clashOf_2 : (.fieldLink RX5 170 "RedlineDesk$Ledger" "state" "[I" : Cond) ∈ wsX5_clashOf := List.mem_of_getElem? (i := 2) (by decide +kernel)
theorem dX5_clashOf_7 : decode cX5_clashOf 7 = .ok (.iload_n 1, 1) := by decide +kernel
theorem dX5_clashOf_8 : decode cX5_clashOf 8 = .ok (.iaload, 1) := by decide +kernel
theorem dX5_clashOf_9 : decode cX5_clashOf 9 = .ok (.ifCond .ne 36, 3) := by decide +kernel
theorem dX5_clashOf_45 : decode cX5_clashOf 45 = .ok (.iconst 0, 1) := by decide +kernel
theorem dX5_clashOf_46 : decode cX5_clashOf 46 = .ok (.ireturn, 1) := by decide +kernel
theorem dX5_clashOf_12 : decode cX5_clashOf 12 = .ok (.aload_n 0, 1) := by decide +kernel
theorem dX5_clashOf_13 : decode cX5_clashOf 13 = .ok (.getfield 29, 3) := by decide +kernel
theorem dX5_clashOf_16 : decode cX5_clashOf 16 = .ok (.getfield 170, 3) := by decide +kernel
theorem dX5_clashOf_19 : decode cX5_clashOf 19 = .ok (.iload_n 2, 1) := by decide +kernel
theorem dX5_clashOf_20 : decode cX5_clashOf 20 = .ok (.iaload, 1) := by decide +kernel
theorem dX5_clashOf_21 : decode cX5_clashOf 21 = .ok (.ifCond .ne 24, 3) := by decide +kernel
theorem dX5_clashOf_24 : decode cX5_clashOf 24 = .ok (.aload_n 0, 1) := by decide +kernel
theorem dX5_clashOf_25 : decode cX5_clashOf 25 = .ok (.getfield 29, 3) := by decide +kernel
theorem dX5_clashOf_28 : decode cX5_clashOf 28 = .ok (.getfield 179, 3) := by decide +kernel
theorem m_X5_clashOf_3 : (.fieldLink RX5 179 "RedlineDesk$Ledger" "hand" "[I" : Cond) ∈ wsX5_clashOf := List.mem_of_getElem? (i := 3) (by decide +kernel)
theorem dX5_clashOf_31 : decode cX5_clashOf 31 = .ok (.iload_n 1, 1) := by decide +kernel
theorem dX5_clashOf_32 : decode cX5_clashOf 32 = .ok (.iaload, 1) := by decide +kernel
theorem dX5_clashOf_33 : decode cX5_clashOf 33 = .ok (.aload_n 0, 1) := by decide +kernel
theorem dX5_clashOf_34 : decode cX5_clashOf 34 = .ok (.getfield 29, 3) := by decide +kernel
theorem dX5_clashOf_37 : decode cX5_clashOf 37 = .ok (.getfield 179, 3) := by decide +kernel
theorem dX5_clashOf_40 : decode cX5_clashOf 40 = .ok (.iload_n 2, 1) := by decide +kernel
theorem dX5_clashOf_41 : decode cX5_clashOf 41 = .ok (.iaload, 1) := by decide +kernel
theorem dX5_clashOf_42 : decode cX5_clashOf 42 = .ok (.if_icmp .ne 5, 3) := by decide +kernel
theorem dX5_clashOf_47 : decode cX5_clashOf 47 = .ok (.aload_n 0, 1) := by decide +kernel
theorem dX5_clashOf_48 : decode cX5_clashOf 48 = .ok (.iload_n 1, 1) := by decide +kernel
theorem dX5_clashOf_49 : decode cX5_clashOf 49 = .ok (.iload_n 2, 1) := by decide +kernel
theorem dX5_clashOf_50 : decode cX5_clashOf 50 = .ok (.invokevirtual 265, 3) := by decide +kernel
set_option maxRecDepth 20000 in
theorem ggX5_clashOf_X5_clashRule : GoodIn wsX5_clashOf wsX5_clashRule := goodIn_r _ [9, 1, 10, 11, 12, 13, 14, 15, 16, 17, 18, 34, 35, 36, 37, 38, 39, 40, 41, 42, 43, 44] (by decide +kernel) (by decide +kernel)
set_option maxRecDepth 20000 in
theorem gX5_clashOf_X5_clashRule : GoodIn wsX5_clashOf (wsV RX5 265 RX5 yX5_clashRule wsX5_clashRule) := goodIn_app (goodIn_of _ (by decide +kernel)) ggX5_clashOf_X5_clashRule
theorem dX5_clashOf_53 : decode cX5_clashOf 53 = .ok (.istore_n 3, 1) := by decide +kernel
theorem dX5_clashOf_54 : decode cX5_clashOf 54 = .ok (.iload_n 3, 1) := by decide +kernel
theorem dX5_clashOf_55 : decode cX5_clashOf 55 = .ok (.ifCond .eq 26, 3) := by decide +kernel
theorem dX5_clashOf_81 : decode cX5_clashOf 81 = .ok (.iconst 0, 1) := by decide +kernel
theorem dX5_clashOf_82 : decode cX5_clashOf 82 = .ok (.ireturn, 1) := by decide +kernel
theorem dX5_clashOf_58 : decode cX5_clashOf 58 = .ok (.aload_n 0, 1) := by decide +kernel
theorem dX5_clashOf_59 : decode cX5_clashOf 59 = .ok (.getfield 19, 3) := by decide +kernel
theorem m_X5_clashOf_4 : (.fieldLink RX5 19 "RedlineDesk" "row" "LRedlineDesk$Row;" : Cond) ∈ wsX5_clashOf := List.mem_of_getElem? (i := 4) (by decide +kernel)
theorem dX5_clashOf_62 : decode cX5_clashOf 62 = .ok (.iload_n 1, 1) := by decide +kernel
theorem dX5_clashOf_63 : decode cX5_clashOf 63 = .ok (.invokestatic 154, 3) := by decide +kernel
set_option maxRecDepth 20000 in
theorem ggX5_clashOf_X5_bit : GoodIn wsX5_clashOf wsX5_bit := goodIn_r _ [21] (by decide +kernel) (by decide +kernel)
set_option maxRecDepth 20000 in
theorem gX5_clashOf_X5_bit : GoodIn wsX5_clashOf (va_wsS RX5 154 yX5_bit wsX5_bit) := goodIn_app (goodIn_of _ (by decide +kernel)) ggX5_clashOf_X5_bit
theorem dX5_clashOf_66 : decode cX5_clashOf 66 = .ok (.iload_n 2, 1) := by decide +kernel
theorem dX5_clashOf_67 : decode cX5_clashOf 67 = .ok (.invokestatic 154, 3) := by decide +kernel
theorem dX5_clashOf_70 : decode cX5_clashOf 70 = .ok (.ior, 1) := by decide +kernel
theorem dX5_clashOf_71 : decode cX5_clashOf 71 = .ok (.invokevirtual 268, 3) := by decide +kernel
set_option maxRecDepth 20000 in
theorem ggX5_clashOf_X2_anyLetterIn : GoodIn wsX5_clashOf wsX2_anyLetterIn := goodIn_r _ [26, 27, 28, 29, 30, 31, 25, 32, 33, 45, 46, 47, 48, 49, 50] (by decide +kernel) (by decide +kernel)
set_option maxRecDepth 20000 in
theorem gX5_clashOf_X2_anyLetterIn : GoodIn wsX5_clashOf (wsV RX5 268 RX2 yX2_anyLetterIn wsX2_anyLetterIn) := goodIn_app (goodIn_of _ (by decide +kernel)) ggX5_clashOf_X2_anyLetterIn
theorem dX5_clashOf_74 : decode cX5_clashOf 74 = .ok (.ifCond .eq 7, 3) := by decide +kernel
theorem dX5_clashOf_77 : decode cX5_clashOf 77 = .ok (.iload_n 3, 1) := by decide +kernel
theorem dX5_clashOf_78 : decode cX5_clashOf 78 = .ok (.goto 4, 3) := by decide +kernel
def f_X5_clashOf (zg_kind : Nat → Int32) (zg_hand : Nat → Int32) (zg_state : Nat → Int32) (zg_look : Nat → Int32) (zr_token : Nat → Int32) (zr_in : Nat → Int32) (zr_size : Int32) (a_a : Int32) (a_b : Int32) : Int32 := if (zg_state (a_a).toNatClampNeg) = (0 : Int32) then if (zg_state (a_b).toNatClampNeg) = (0 : Int32) then if (zg_hand (a_a).toNatClampNeg) = (zg_hand (a_b).toNatClampNeg) then (0 : Int32) else if (f_X5_clashRule zg_kind zg_look a_a a_b) = (0 : Int32) then (0 : Int32) else if (f_X2_anyLetterIn zr_token zr_in zr_size ((f_X5_bit a_a) ||| (f_X5_bit a_b))) = (0 : Int32) then (0 : Int32) else (f_X5_clashRule zg_kind zg_look a_a a_b) else (0 : Int32) else (0 : Int32)
set_option maxHeartbeats 4000000 in
set_option maxRecDepth 100000 in
theorem c_X5_clashOf (l : Launch) (dC : Nat → ClassId) (dI : Nat → Nat → Nat) (cI cJ : ClassId) (sz : Nat) (zd zg azg_kind azg_hand azg_state azg_look zr azr_sign azr_token azr_in azr_own azr_since zt zw zv zk : Nat) (zg_kind zg_hand zg_state zg_look zr_sign zr_token zr_in zr_own zr_since : Nat → Int32) (zg_size zr_size : Int32) (a_a : Int32) (a_b : Int32) (h1 : 0 ≤ a_a.toInt) (h2 : a_a.toInt < 25) (h3 : 0 ≤ a_b.toInt) (h4 : a_b.toInt < 25) : Met l yX5_clashOf wsX5_clashOf ({ frames := 2, cells := 0, slots := 0, locals := 45 } : Room) (va_Pc [.ref zd, .int a_a, .int a_b] (PreW dC dI cI cJ sz [(zd, .inr (5, [.ref zt, .ref zr, .ref zw, .ref zg, .ref zv, .ref zk])), (zg, .inr (1, [.ref azg_kind, .ref azg_hand, .ref azg_state, .ref azg_look, .int zg_size])), (azg_kind, .inl (cI, 25, .inl zg_kind)), (azg_hand, .inl (cI, 25, .inl zg_hand)), (azg_state, .inl (cI, 25, .inl zg_state)), (azg_look, .inl (cI, 25, .inl zg_look)), (zr, .inr (2, [.ref azr_sign, .ref azr_token, .ref azr_in, .ref azr_own, .ref azr_since, .int zr_size])), (azr_sign, .inl (cI, 240, .inl zr_sign)), (azr_token, .inl (cI, 240, .inl zr_token)), (azr_in, .inl (cI, 240, .inl zr_in)), (azr_own, .inl (cI, 240, .inl zr_own)), (azr_since, .inl (cI, 240, .inl zr_since))])) (va_Qi (fun (r : Int32) (_ : Unit) => r = f_X5_clashOf zg_kind zg_hand zg_state zg_look zr_token zr_in zr_size a_a a_b) (fun (_ : Unit) _ => True) (fun q => sz ≤ q)) 0 0 (fun q => sz ≤ q) := by
  refine Met.ofW (cc := cX5_clashOf) (maxL := 4) (ret := (some .int)) (by decide) rfl ?_
  intro p e s m args below meth c s₁ B hml hv
  obtain ⟨rfl, hsz, hP, hK, hN, hD0⟩ := hv
  have hx := B.exec
  have hb := B.bytes
  have hr := B.returns
  have hts := atoms_spec (ws := wsX5_clashOf) B.pre
  have hown : s.vm.findClass RX5 = some m.cls := findClass_of_methodNamed B.named
  have hlocks := B.notSynchronized
  subst hsz
  have hD := hD0
  generalize hAe : (fun q => s.heap.size ≤ q) = A
  have hA : ∀ q : Nat, s.heap.size ≤ q → A q := fun q h => by rw [← hAe]; exact h
  have hS : va_S A s.heap s.heap [] := va_S.rf
  have hP : va_P (dC, dI) vwCl [(zd, .inr (5, [.ref zt, .ref zr, .ref zw, .ref zg, .ref zv, .ref zk])), (zg, .inr (1, [.ref azg_kind, .ref azg_hand, .ref azg_state, .ref azg_look, .int zg_size])), (azg_kind, .inl (cI, 25, .inl zg_kind)), (azg_hand, .inl (cI, 25, .inl zg_hand)), (azg_state, .inl (cI, 25, .inl zg_state)), (azg_look, .inl (cI, 25, .inl zg_look)), (zr, .inr (2, [.ref azr_sign, .ref azr_token, .ref azr_in, .ref azr_own, .ref azr_since, .int zr_size])), (azr_sign, .inl (cI, 240, .inl zr_sign)), (azr_token, .inl (cI, 240, .inl zr_token)), (azr_in, .inl (cI, 240, .inl zr_in)), (azr_own, .inl (cI, 240, .inl zr_own)), (azr_since, .inl (cI, 240, .inl zr_since))] s.heap := hP
  have hl := lv_entry ([.ref zd, .int a_a, .int a_b]) (n := 4) (Nat.le_of_ble_eq_true rfl)
  rw [lg_entry_eq]
  generalize (lg_sl ([.ref zd, .int a_a, .int a_b]) ++ List.replicate (4 - (lg_sl ([.ref zd, .int a_a, .int a_b])).length) Slot.unset).toArray = ls at hl ⊢
  have hl : lv_has ls 4 [(0, .ref zd), (1, .int a_a), (2, .int a_b)] := hl
  refine lv_aload_n hx hb dX5_clashOf_0 rfl (lv_at hl 0 rfl) ?_
  refine va_get (D := (dC, dI)) (ci := 5) (v := .ref zg) (C := RX5) (T := TX5) (N := 6) hx hb hts in_X5_clashOf_X5 hown hK hP 0 rfl rfl 3 (by decide) (hts _ m_X5_clashOf_1) (fun _ h9 => h9) rfl dX5_clashOf_1 ?_
  refine va_get (D := (dC, dI)) (ci := 1) (v := .ref azg_state) (C := RX1) (T := TX1) (N := 5) hx hb hts in_X5_clashOf_X1 hown hK hP 1 rfl rfl 2 (by decide) (hts _ m_X5_clashOf_2) (fun _ h9 => h9) rfl dX5_clashOf_4 ?_
  refine lv_iload_n hx hb dX5_clashOf_7 rfl (lv_at hl 1 rfl) ?_
  refine va_iald (q0 := 4) (t0 := 0) (n := 25) (f := zg_state) hx hb hK hP rfl rfl (vp_in_iff.mpr ⟨by omega, by omega⟩) dX5_clashOf_8 ?_
  refine lv_if_ne (tgt := 45) hx hb dX5_clashOf_9 (by decide) (fun c_1 => ?_) (fun c_1 => ?_)
  · refine lv_iconst (v := (0 : Int32)) hx hb dX5_clashOf_45 (by decide) ?_
    have hE : f_X5_clashOf zg_kind zg_hand zg_state zg_look zr_token zr_in zr_size a_a a_b = (0 : Int32) := (by rw [f_X5_clashOf, if_neg c_1])
    exact W.iret (v := (0 : Int32)) hx hb hr (fun t ht hW => ⟨⟨(0 : Int32), (), rfl, by rw [hE], trivial⟩, hS.F ht⟩) hS.2.2 dX5_clashOf_46
  · refine lv_aload_n hx hb dX5_clashOf_12 rfl (lv_at hl 0 rfl) ?_
    refine va_get (D := (dC, dI)) (ci := 5) (v := .ref zg) (C := RX5) (T := TX5) (N := 6) hx hb hts in_X5_clashOf_X5 hown hK hP 0 rfl rfl 3 (by decide) (hts _ m_X5_clashOf_1) (fun _ h9 => h9) rfl dX5_clashOf_13 ?_
    refine va_get (D := (dC, dI)) (ci := 1) (v := .ref azg_state) (C := RX1) (T := TX1) (N := 5) hx hb hts in_X5_clashOf_X1 hown hK hP 1 rfl rfl 2 (by decide) (hts _ m_X5_clashOf_2) (fun _ h9 => h9) rfl dX5_clashOf_16 ?_
    refine lv_iload_n hx hb dX5_clashOf_19 rfl (lv_at hl 2 rfl) ?_
    refine va_iald (q0 := 4) (t0 := 0) (n := 25) (f := zg_state) hx hb hK hP rfl rfl (vp_in_iff.mpr ⟨by omega, by omega⟩) dX5_clashOf_20 ?_
    refine lv_if_ne (tgt := 45) hx hb dX5_clashOf_21 (by decide) (fun c_2 => ?_) (fun c_2 => ?_)
    · refine lv_iconst (v := (0 : Int32)) hx hb dX5_clashOf_45 (by decide) ?_
      have hE : f_X5_clashOf zg_kind zg_hand zg_state zg_look zr_token zr_in zr_size a_a a_b = (0 : Int32) := (by rw [f_X5_clashOf, if_pos c_1, if_neg c_2])
      exact W.iret (v := (0 : Int32)) hx hb hr (fun t ht hW => ⟨⟨(0 : Int32), (), rfl, by rw [hE], trivial⟩, hS.F ht⟩) hS.2.2 dX5_clashOf_46
    · refine lv_aload_n hx hb dX5_clashOf_24 rfl (lv_at hl 0 rfl) ?_
      refine va_get (D := (dC, dI)) (ci := 5) (v := .ref zg) (C := RX5) (T := TX5) (N := 6) hx hb hts in_X5_clashOf_X5 hown hK hP 0 rfl rfl 3 (by decide) (hts _ m_X5_clashOf_1) (fun _ h9 => h9) rfl dX5_clashOf_25 ?_
      refine va_get (D := (dC, dI)) (ci := 1) (v := .ref azg_hand) (C := RX1) (T := TX1) (N := 5) hx hb hts in_X5_clashOf_X1 hown hK hP 1 rfl rfl 1 (by decide) (hts _ m_X5_clashOf_3) (fun _ h9 => h9) rfl dX5_clashOf_28 ?_
      refine lv_iload_n hx hb dX5_clashOf_31 rfl (lv_at hl 1 rfl) ?_
      refine va_iald (q0 := 3) (t0 := 0) (n := 25) (f := zg_hand) hx hb hK hP rfl rfl (vp_in_iff.mpr ⟨by omega, by omega⟩) dX5_clashOf_32 ?_
      refine lv_aload_n hx hb dX5_clashOf_33 rfl (lv_at hl 0 rfl) ?_
      refine va_get (D := (dC, dI)) (ci := 5) (v := .ref zg) (C := RX5) (T := TX5) (N := 6) hx hb hts in_X5_clashOf_X5 hown hK hP 0 rfl rfl 3 (by decide) (hts _ m_X5_clashOf_1) (fun _ h9 => h9) rfl dX5_clashOf_34 ?_
      refine va_get (D := (dC, dI)) (ci := 1) (v := .ref azg_hand) (C := RX1) (T := TX1) (N := 5) hx hb hts in_X5_clashOf_X1 hown hK hP 1 rfl rfl 1 (by decide) (hts _ m_X5_clashOf_3) (fun _ h9 => h9) rfl dX5_clashOf_37 ?_
      refine lv_iload_n hx hb dX5_clashOf_40 rfl (lv_at hl 2 rfl) ?_
      refine va_iald (q0 := 3) (t0 := 0) (n := 25) (f := zg_hand) hx hb hK hP rfl rfl (vp_in_iff.mpr ⟨by omega, by omega⟩) dX5_clashOf_41 ?_
      refine lv_icmp_ne (tgt := 47) hx hb dX5_clashOf_42 (by decide) (fun c_3 => ?_) (fun c_3 => ?_)
      · refine lv_aload_n hx hb dX5_clashOf_47 rfl (lv_at hl 0 rfl) ?_
        refine lv_iload_n hx hb dX5_clashOf_48 rfl (lv_at hl 1 rfl) ?_
        refine lv_iload_n hx hb dX5_clashOf_49 rfl (lv_at hl 2 rfl) ?_
        have hPc := hP.sub (ws' := [(zd, .inr (5, [.ref zt, .ref zr, .ref zw, .ref zg, .ref zv, .ref zk])), (zg, .inr (1, [.ref azg_kind, .ref azg_hand, .ref azg_state, .ref azg_look, .int zg_size])), (azg_kind, .inl (cI, 25, .inl zg_kind)), (azg_hand, .inl (cI, 25, .inl zg_hand)), (azg_state, .inl (cI, 25, .inl zg_state)), (azg_look, .inl (cI, 25, .inl zg_look))]) [0, 1, 2, 3, 4, 5] rfl
        have hDc := hD.sub (ws' := [(zd, .inr (5, [.ref zt, .ref zr, .ref zw, .ref zg, .ref zv, .ref zk])), (zg, .inr (1, [.ref azg_kind, .ref azg_hand, .ref azg_state, .ref azg_look, .int zg_size])), (azg_kind, .inl (cI, 25, .inl zg_kind)), (azg_hand, .inl (cI, 25, .inl zg_hand)), (azg_state, .inl (cI, 25, .inl zg_state)), (azg_look, .inl (cI, 25, .inl zg_look))]) [0, 1, 2, 3, 4, 5] (by decide) rfl
        refine va_calli (va_runV (As := [.int a_a, .int a_b]) (rest := []) ⟨hx, hb, hml, hown, hts⟩ (c_X5_clashRule l dC dI cI cJ s.heap.size zd zg azg_kind azg_hand azg_state azg_look zt zr zw zv zk zg_kind zg_hand zg_state zg_look zg_size a_a a_b (by first | omega | decide | assumption) (by first | omega | decide | assumption) (by first | omega | decide | assumption) (by first | omega | decide | assumption)) (cwV 2 hts gX5_clashOf_X5_clashRule rfl rfl rfl (by decide +kernel) ⟨Nat.le_of_ble_eq_true rfl, Nat.le_of_ble_eq_true rfl⟩) ⟨fun a U g mk q => ⟨q.1, PreW.call g mk a q.2⟩, va_recv hK hP (ci := 5) (q0 := 0) rfl rfl, fun U hU hW => ⟨rfl, PreW.mk2 hU hW hPc hK hN (hDc.weaken (fun _ _ _ _ => trivial))⟩⟩ rfl rfl hl.1 rfl (lv_room (Nat.le_of_ble_eq_true rfl)) dX5_clashOf_50 ⟨Nat.le_of_ble_eq_true rfl, Nat.le_of_ble_eq_true rfl⟩) hS (fun q hq h => absurd hq (Nat.not_lt.mpr h)) (fun q h => hA q (Nat.le_trans hS.1 h)) (fun r_4 _u t H1 locs ht hvm hw hB hz1 hk1 hS => ?_)
        have hP := va_ro hP hk1
        generalize H1 = H at hP hS ⊢
        have hw : r_4 = f_X5_clashRule zg_kind zg_look a_a a_b := hw
        subst hw
        obtain ⟨z_5, hz_5⟩ : ∃ z : Int32, z = f_X5_clashRule zg_kind zg_look a_a a_b := ⟨_, rfl⟩
        refine lv_istore_n (lv' := [(3, .int (f_X5_clashRule zg_kind zg_look a_a a_b)), (0, .ref zd), (1, .int a_a), (2, .int a_b)]) hx hb dX5_clashOf_53 rfl hl (by decide) rfl (fun ls hl => ?_)
        refine lv_iload_n hx hb dX5_clashOf_54 rfl (lv_at hl 0 rfl) ?_
        refine lv_if_eq (tgt := 81) hx hb dX5_clashOf_55 (by decide) (fun c_6 => ?_) (fun c_6 => ?_)
        · have tc_6 : z_5.toInt = (0 : Int) := by rw [hz_5]; exact q_eq c_6
          refine lv_iconst (v := (0 : Int32)) hx hb dX5_clashOf_81 (by decide) ?_
          have hE : f_X5_clashOf zg_kind zg_hand zg_state zg_look zr_token zr_in zr_size a_a a_b = (0 : Int32) := (by rw [f_X5_clashOf, if_pos c_1, if_pos c_2, if_neg c_3, if_pos c_6])
          exact W.iret (v := (0 : Int32)) hx hb hr (fun t ht hW => ⟨⟨(0 : Int32), (), rfl, by rw [hE], trivial⟩, hS.F ht⟩) hS.2.2 dX5_clashOf_82
        · have tc_6 : ¬ z_5.toInt = (0 : Int) := by rw [hz_5]; exact q_ne c_6
          refine lv_aload_n hx hb dX5_clashOf_58 rfl (lv_at hl 1 rfl) ?_
          refine va_get (D := (dC, dI)) (ci := 5) (v := .ref zr) (C := RX5) (T := TX5) (N := 6) hx hb hts in_X5_clashOf_X5 hown hK hP 0 rfl rfl 1 (by decide) (hts _ m_X5_clashOf_4) (fun _ h9 => h9) rfl dX5_clashOf_59 ?_
          refine lv_iload_n hx hb dX5_clashOf_62 rfl (lv_at hl 2 rfl) ?_
          have hPc := hP.sub (ws' := []) [] rfl
          have hDc := hD.sub (ws' := []) [] (by decide) rfl
          refine va_calli (va_runS (As := [.int a_a]) (rest := [.ref zr]) ⟨hx, hb, hml, hown, hts⟩ (c_X5_bit l dC dI cI cJ H.size a_a) (va_cwS 1 hts gX5_clashOf_X5_bit rfl rfl rfl (by decide +kernel) ⟨Nat.le_of_ble_eq_true rfl, Nat.le_of_ble_eq_true rfl⟩) ⟨fun a U g mk q => ⟨q.1, PreW.call g mk a q.2⟩, fun U hU hW => ⟨rfl, PreW.mk2 hU hW hPc hK hN (hDc.weaken (fun _ _ _ _ => trivial))⟩⟩ rfl rfl hl.1 rfl (lv_room (Nat.le_of_ble_eq_true rfl)) dX5_clashOf_63 ⟨Nat.le_of_ble_eq_true rfl, Nat.le_of_ble_eq_true rfl⟩) hS (fun q hq h => absurd hq (Nat.not_lt.mpr h)) (fun q h => hA q (Nat.le_trans hS.1 h)) (fun r_7 _u t H1 locs ht hvm hw hB hz1 hk1 hS => ?_)
          have hP := va_ro hP hk1
          generalize H1 = H at hP hS ⊢
          have hw : r_7 = f_X5_bit a_a := hw
          subst hw
          obtain ⟨z_8, hz_8⟩ : ∃ z : Int32, z = f_X5_bit a_a := ⟨_, rfl⟩
          refine lv_iload_n hx hb dX5_clashOf_66 rfl (lv_at hl 3 rfl) ?_
          have hPc := hP.sub (ws' := []) [] rfl
          have hDc := hD.sub (ws' := []) [] (by decide) rfl
          refine va_calli (va_runS (As := [.int a_b]) (rest := [.int (f_X5_bit a_a), .ref zr]) ⟨hx, hb, hml, hown, hts⟩ (c_X5_bit l dC dI cI cJ H.size a_b) (va_cwS 1 hts gX5_clashOf_X5_bit rfl rfl rfl (by decide +kernel) ⟨Nat.le_of_ble_eq_true rfl, Nat.le_of_ble_eq_true rfl⟩) ⟨fun a U g mk q => ⟨q.1, PreW.call g mk a q.2⟩, fun U hU hW => ⟨rfl, PreW.mk2 hU hW hPc hK hN (hDc.weaken (fun _ _ _ _ => trivial))⟩⟩ rfl rfl hl.1 rfl (lv_room (Nat.le_of_ble_eq_true rfl)) dX5_clashOf_67 ⟨Nat.le_of_ble_eq_true rfl, Nat.le_of_ble_eq_true rfl⟩) hS (fun q hq h => absurd hq (Nat.not_lt.mpr h)) (fun q h => hA q (Nat.le_trans hS.1 h)) (fun r_9 _u t H1 locs ht hvm hw hB hz1 hk1 hS => ?_)
          have hP := va_ro hP hk1
          generalize H1 = H at hP hS ⊢
          have hw : r_9 = f_X5_bit a_b := hw
          subst hw
          obtain ⟨z_10, hz_10⟩ : ∃ z : Int32, z = f_X5_bit a_b := ⟨_, rfl⟩
          refine lv_ior hx hb dX5_clashOf_70 ?_
          have hPc := hP.sub (ws' := [(zr, .inr (2, [.ref azr_sign, .ref azr_token, .ref azr_in, .ref azr_own, .ref azr_since, .int zr_size])), (azr_sign, .inl (cI, 240, .inl zr_sign)), (azr_token, .inl (cI, 240, .inl zr_token)), (azr_in, .inl (cI, 240, .inl zr_in)), (azr_own, .inl (cI, 240, .inl zr_own)), (azr_since, .inl (cI, 240, .inl zr_since))]) [6, 7, 8, 9, 10, 11] rfl
          have hDc := hD.sub (ws' := [(zr, .inr (2, [.ref azr_sign, .ref azr_token, .ref azr_in, .ref azr_own, .ref azr_since, .int zr_size])), (azr_sign, .inl (cI, 240, .inl zr_sign)), (azr_token, .inl (cI, 240, .inl zr_token)), (azr_in, .inl (cI, 240, .inl zr_in)), (azr_own, .inl (cI, 240, .inl zr_own)), (azr_since, .inl (cI, 240, .inl zr_since))]) [6, 7, 8, 9, 10, 11] (by decide) rfl
          refine va_calli (va_runV (As := [.int ((f_X5_bit a_a) ||| (f_X5_bit a_b))]) (rest := []) ⟨hx, hb, hml, hown, hts⟩ (c_X2_anyLetterIn l dC dI cI cJ H.size zr azr_sign azr_token azr_in azr_own azr_since zr_sign zr_token zr_in zr_own zr_since zr_size ((f_X5_bit a_a) ||| (f_X5_bit a_b))) (cwV 1 hts gX5_clashOf_X2_anyLetterIn rfl rfl rfl (by decide +kernel) ⟨Nat.le_of_ble_eq_true rfl, Nat.le_of_ble_eq_true rfl⟩) ⟨fun a U g mk q => ⟨q.1, PreW.call g mk a q.2⟩, va_recv hK hP (ci := 2) (q0 := 6) rfl rfl, fun U hU hW => ⟨rfl, PreW.mk2 hU hW hPc hK hN (hDc.weaken (fun _ _ _ _ => trivial))⟩⟩ rfl rfl hl.1 rfl (lv_room (Nat.le_of_ble_eq_true rfl)) dX5_clashOf_71 ⟨Nat.le_of_ble_eq_true rfl, Nat.le_of_ble_eq_true rfl⟩) hS (fun q hq h => absurd hq (Nat.not_lt.mpr h)) (fun q h => hA q (Nat.le_trans hS.1 h)) (fun r_11 _u t H1 locs ht hvm hw hB hz1 hk1 hS => ?_)
          have hP := va_ro hP hk1
          generalize H1 = H at hP hS ⊢
          have hw : r_11 = f_X2_anyLetterIn zr_token zr_in zr_size ((f_X5_bit a_a) ||| (f_X5_bit a_b)) := hw
          subst hw
          obtain ⟨z_12, hz_12⟩ : ∃ z : Int32, z = f_X2_anyLetterIn zr_token zr_in zr_size ((f_X5_bit a_a) ||| (f_X5_bit a_b)) := ⟨_, rfl⟩
          refine lv_if_eq (tgt := 81) hx hb dX5_clashOf_74 (by decide) (fun c_13 => ?_) (fun c_13 => ?_)
          · have tc_13 : z_12.toInt = (0 : Int) := by rw [hz_12]; exact q_eq c_13
            refine lv_iconst (v := (0 : Int32)) hx hb dX5_clashOf_81 (by decide) ?_
            have hE : f_X5_clashOf zg_kind zg_hand zg_state zg_look zr_token zr_in zr_size a_a a_b = (0 : Int32) := (by rw [f_X5_clashOf, if_pos c_1, if_pos c_2, if_neg c_3, if_neg c_6, if_pos c_13])
            exact W.iret (v := (0 : Int32)) hx hb hr (fun t ht hW => ⟨⟨(0 : Int32), (), rfl, by rw [hE], trivial⟩, hS.F ht⟩) hS.2.2 dX5_clashOf_82
          · have tc_13 : ¬ z_12.toInt = (0 : Int) := by rw [hz_12]; exact q_ne c_13
            refine lv_iload_n hx hb dX5_clashOf_77 rfl (lv_at hl 0 rfl) ?_
            refine lv_goto (tgt := 82) hx hb dX5_clashOf_78 (by decide) ?_
            have hE : f_X5_clashOf zg_kind zg_hand zg_state zg_look zr_token zr_in zr_size a_a a_b = (f_X5_clashRule zg_kind zg_look a_a a_b) := (by rw [f_X5_clashOf, if_pos c_1, if_pos c_2, if_neg c_3, if_neg c_6, if_neg c_13])
            exact W.iret (v := (f_X5_clashRule zg_kind zg_look a_a a_b)) hx hb hr (fun t ht hW => ⟨⟨(f_X5_clashRule zg_kind zg_look a_a a_b), (), rfl, by rw [hE], trivial⟩, hS.F ht⟩) hS.2.2 dX5_clashOf_82
      · refine lv_iconst (v := (0 : Int32)) hx hb dX5_clashOf_45 (by decide) ?_
        have hE : f_X5_clashOf zg_kind zg_hand zg_state zg_look zr_token zr_in zr_size a_a a_b = (0 : Int32) := (by rw [f_X5_clashOf, if_pos c_1, if_pos c_2, if_pos c_3])
        exact W.iret (v := (0 : Int32)) hx hb hr (fun t ht hW => ⟨⟨(0 : Int32), (), rfl, by rw [hE], trivial⟩, hS.F ht⟩) hS.2.2 dX5_clashOf_46
theorem dX5_clash_0 : decode cX5_clash 0 = .ok (.aload_n 0, 1) := by decide +kernel
theorem dX5_clash_1 : decode cX5_clash 1 = .ok (.getfield 29, 3) := by decide +kernel
theorem in_X5_clash_X5 : ∀ w ∈ wsX50, w ∈ wsX5_clash := by decide +kernel
theorem m_X5_clash_1 : (.fieldLink RX5 29 "RedlineDesk" "ledger" "LRedlineDesk$Ledger;" : Cond) ∈ wsX5_clash := List.mem_of_getElem? (i := 1) (by decide +kernel)
theorem dX5_clash_4 : decode cX5_clash 4 = .ok (.iload_n 1, 1) := by decide +kernel
theorem dX5_clash_5 : decode cX5_clash 5 = .ok (.invokevirtual 167, 3) := by decide +kernel
set_option maxRecDepth 20000 in
theorem ggX5_clash_X1_names : GoodIn wsX5_clash wsX1_names := goodIn_r _ [6, 7, 50, 51, 52, 53, 54] (by decide +kernel) (by decide +kernel)
set_option maxRecDepth 20000 in
theorem gX5_clash_X1_names : GoodIn wsX5_clash (wsV RX5 167 RX1 yX1_names wsX1_names) := goodIn_app (goodIn_of _ (by decide +kernel)) ggX5_clash_X1_names
theorem dX5_clash_8 : decode cX5_clash 8 = .ok (.ifCond .eq 19, 3) := by decide +kernel
theorem dX5_clash_27 : decode cX5_clash 27 = .ok (.iconst (-1), 1) := by decide +kernel
theorem dX5_clash_28 : decode cX5_clash 28 = .ok (.ireturn, 1) := by decide +kernel
theorem dX5_clash_11 : decode cX5_clash 11 = .ok (.aload_n 0, 1) := by decide +kernel
theorem dX5_clash_12 : decode cX5_clash 12 = .ok (.getfield 29, 3) := by decide +kernel
theorem dX5_clash_15 : decode cX5_clash 15 = .ok (.iload_n 2, 1) := by decide +kernel
theorem dX5_clash_16 : decode cX5_clash 16 = .ok (.invokevirtual 167, 3) := by decide +kernel
theorem dX5_clash_19 : decode cX5_clash 19 = .ok (.ifCond .eq 8, 3) := by decide +kernel
theorem dX5_clash_22 : decode cX5_clash 22 = .ok (.iload_n 1, 1) := by decide +kernel
theorem dX5_clash_23 : decode cX5_clash 23 = .ok (.iload_n 2, 1) := by decide +kernel
theorem dX5_clash_24 : decode cX5_clash 24 = .ok (.if_icmp .ne 5, 3) := by decide +kernel
theorem dX5_clash_29 : decode cX5_clash 29 = .ok (.aload_n 0, 1) := by decide +kernel
theorem dX5_clash_30 : decode cX5_clash 30 = .ok (.iload_n 1, 1) := by decide +kernel
theorem dX5_clash_31 : decode cX5_clash 31 = .ok (.iload_n 2, 1) := by decide +kernel
theorem dX5_clash_32 : decode cX5_clash 32 = .ok (.invokevirtual 188, 3) := by decide +kernel
set_option maxRecDepth 20000 in
theorem ggX5_clash_X5_clashOf : GoodIn wsX5_clash wsX5_clashOf := goodIn_r _ [12, 1, 13, 14, 15, 16, 17, 18, 11, 19, 20, 21, 22, 23, 24, 25, 26, 27, 28, 29, 30, 31, 32, 33, 34, 35, 36, 37, 38, 39, 40, 41, 42, 43, 44, 45, 46, 47, 48, 49, 50, 51, 52, 53, 54, 55, 56, 57, 58, 59, 60] (by decide +kernel) (by decide +kernel)
set_option maxRecDepth 20000 in
theorem gX5_clash_X5_clashOf : GoodIn wsX5_clash (wsV RX5 188 RX5 yX5_clashOf wsX5_clashOf) := goodIn_app (goodIn_of _ (by decide +kernel)) ggX5_clash_X5_clashOf
theorem dX5_clash_35 : decode cX5_clash 35 = .ok (.ireturn, 1) := by decide +kernel
def f_X5_clash (zg_kind : Nat → Int32) (zg_hand : Nat → Int32) (zg_state : Nat → Int32) (zg_look : Nat → Int32) (zg_size : Int32) (zr_token : Nat → Int32) (zr_in : Nat → Int32) (zr_size : Int32) (a_a : Int32) (a_b : Int32) : Int32 := if (f_X1_names zg_size a_a) = (0 : Int32) then (-1 : Int32) else if (f_X1_names zg_size a_b) = (0 : Int32) then (-1 : Int32) else if a_a = a_b then (-1 : Int32) else (f_X5_clashOf zg_kind zg_hand zg_state zg_look zr_token zr_in zr_size a_a a_b)
set_option maxHeartbeats 4000000 in
set_option maxRecDepth 100000 in
theorem c_X5_clash (l : Launch) (dC : Nat → ClassId) (dI : Nat → Nat → Nat) (cI cJ : ClassId) (sz : Nat) (zd zg azg_kind azg_hand azg_state azg_look zr azr_sign azr_token azr_in azr_own azr_since zt zw zv zk : Nat) (zg_kind zg_hand zg_state zg_look zr_sign zr_token zr_in zr_own zr_since : Nat → Int32) (zg_size zr_size : Int32) (a_a : Int32) (a_b : Int32) : Met l yX5_clash wsX5_clash ({ frames := 3, cells := 0, slots := 0, locals := 68 } : Room) (va_Pc [.ref zd, .int a_a, .int a_b] (PreW dC dI cI cJ sz [(zd, .inr (5, [.ref zt, .ref zr, .ref zw, .ref zg, .ref zv, .ref zk])), (zg, .inr (1, [.ref azg_kind, .ref azg_hand, .ref azg_state, .ref azg_look, .int zg_size])), (azg_kind, .inl (cI, 25, .inl zg_kind)), (azg_hand, .inl (cI, 25, .inl zg_hand)), (azg_state, .inl (cI, 25, .inl zg_state)), (azg_look, .inl (cI, 25, .inl zg_look)), (zr, .inr (2, [.ref azr_sign, .ref azr_token, .ref azr_in, .ref azr_own, .ref azr_since, .int zr_size])), (azr_sign, .inl (cI, 240, .inl zr_sign)), (azr_token, .inl (cI, 240, .inl zr_token)), (azr_in, .inl (cI, 240, .inl zr_in)), (azr_own, .inl (cI, 240, .inl zr_own)), (azr_since, .inl (cI, 240, .inl zr_since))])) (va_Qi (fun (r : Int32) (_ : Unit) => r = f_X5_clash zg_kind zg_hand zg_state zg_look zg_size zr_token zr_in zr_size a_a a_b) (fun (_ : Unit) _ => True) (fun q => sz ≤ q)) 0 0 (fun q => sz ≤ q) := by
  refine Met.ofW (cc := cX5_clash) (maxL := 3) (ret := (some .int)) (by decide) rfl ?_
  intro p e s m args below meth c s₁ B hml hv
  obtain ⟨rfl, hsz, hP, hK, hN, hD0⟩ := hv
  have hx := B.exec
  have hb := B.bytes
  have hr := B.returns
  have hts := atoms_spec (ws := wsX5_clash) B.pre
  have hown : s.vm.findClass RX5 = some m.cls := findClass_of_methodNamed B.named
  have hlocks := B.notSynchronized
  subst hsz
  have hD := hD0
  generalize hAe : (fun q => s.heap.size ≤ q) = A
  have hA : ∀ q : Nat, s.heap.size ≤ q → A q := fun q h => by rw [← hAe]; exact h
  have hS : va_S A s.heap s.heap [] := va_S.rf
  have hP : va_P (dC, dI) vwCl [(zd, .inr (5, [.ref zt, .ref zr, .ref zw, .ref zg, .ref zv, .ref zk])), (zg, .inr (1, [.ref azg_kind, .ref azg_hand, .ref azg_state, .ref azg_look, .int zg_size])), (azg_kind, .inl (cI, 25, .inl zg_kind)), (azg_hand, .inl (cI, 25, .inl zg_hand)), (azg_state, .inl (cI, 25, .inl zg_state)), (azg_look, .inl (cI, 25, .inl zg_look)), (zr, .inr (2, [.ref azr_sign, .ref azr_token, .ref azr_in, .ref azr_own, .ref azr_since, .int zr_size])), (azr_sign, .inl (cI, 240, .inl zr_sign)), (azr_token, .inl (cI, 240, .inl zr_token)), (azr_in, .inl (cI, 240, .inl zr_in)), (azr_own, .inl (cI, 240, .inl zr_own)), (azr_since, .inl (cI, 240, .inl zr_since))] s.heap := hP
  have hl := lv_entry ([.ref zd, .int a_a, .int a_b]) (n := 3) (Nat.le_of_ble_eq_true rfl)
  rw [lg_entry_eq]
  generalize (lg_sl ([.ref zd, .int a_a, .int a_b]) ++ List.replicate (3 - (lg_sl ([.ref zd, .int a_a, .int a_b])).length) Slot.unset).toArray = ls at hl ⊢
  have hl : lv_has ls 3 [(0, .ref zd), (1, .int a_a), (2, .int a_b)] := hl
  refine lv_aload_n hx hb dX5_clash_0 rfl (lv_at hl 0 rfl) ?_
  refine va_get (D := (dC, dI)) (ci := 5) (v := .ref zg) (C := RX5) (T := TX5) (N := 6) hx hb hts in_X5_clash_X5 hown hK hP 0 rfl rfl 3 (by decide) (hts _ m_X5_clash_1) (fun _ h9 => h9) rfl dX5_clash_1 ?_
  refine lv_iload_n hx hb dX5_clash_4 rfl (lv_at hl 1 rfl) ?_
  have hPc := hP.sub (ws' := [(zg, .inr (1, [.ref azg_kind, .ref azg_hand, .ref azg_state, .ref azg_look, .int zg_size])), (azg_kind, .inl (cI, 25, .inl zg_kind)), (azg_hand, .inl (cI, 25, .inl zg_hand)), (azg_state, .inl (cI, 25, .inl zg_state)), (azg_look, .inl (cI, 25, .inl zg_look))]) [1, 2, 3, 4, 5] rfl
  have hDc := hD.sub (ws' := [(zg, .inr (1, [.ref azg_kind, .ref azg_hand, .ref azg_state, .ref azg_look, .int zg_size])), (azg_kind, .inl (cI, 25, .inl zg_kind)), (azg_hand, .inl (cI, 25, .inl zg_hand)), (azg_state, .inl (cI, 25, .inl zg_state)), (azg_look, .inl (cI, 25, .inl zg_look))]) [1, 2, 3, 4, 5] (by decide) rfl
  refine va_calli (va_runV (As := [.int a_a]) (rest := []) ⟨hx, hb, hml, hown, hts⟩ (c_X1_names l dC dI cI cJ s.heap.size zg azg_kind azg_hand azg_state azg_look zg_kind zg_hand zg_state zg_look zg_size a_a) (cwV 1 hts gX5_clash_X1_names rfl rfl rfl (by decide +kernel) ⟨Nat.le_of_ble_eq_true rfl, Nat.le_of_ble_eq_true rfl⟩) ⟨fun a U g mk q => ⟨q.1, PreW.call g mk a q.2⟩, va_recv hK hP (ci := 1) (q0 := 1) rfl rfl, fun U hU hW => ⟨rfl, PreW.mk2 hU hW hPc hK hN (hDc.weaken (fun _ _ _ _ => trivial))⟩⟩ rfl rfl hl.1 rfl (lv_room (Nat.le_of_ble_eq_true rfl)) dX5_clash_5 ⟨Nat.le_of_ble_eq_true rfl, Nat.le_of_ble_eq_true rfl⟩) hS (fun q hq h => absurd hq (Nat.not_lt.mpr h)) (fun q h => hA q (Nat.le_trans hS.1 h)) (fun r_1 _u t H1 locs ht hvm hw hB hz1 hk1 hS => ?_)
  have hP := va_ro hP hk1
  generalize H1 = H at hP hS ⊢
  have hw : r_1 = f_X1_names zg_size a_a := hw
  subst hw
  obtain ⟨z_2, hz_2⟩ : ∃ z : Int32, z = f_X1_names zg_size a_a := ⟨_, rfl⟩
  refine lv_if_eq (tgt := 27) hx hb dX5_clash_8 (by decide) (fun c_3 => ?_) (fun c_3 => ?_)
  · have tc_3 : z_2.toInt = (0 : Int) := by rw [hz_2]; exact q_eq c_3
    refine lv_iconst (v := (-1 : Int32)) hx hb dX5_clash_27 (by decide) ?_
    have hE : f_X5_clash zg_kind zg_hand zg_state zg_look zg_size zr_token zr_in zr_size a_a a_b = (-1 : Int32) := (by rw [f_X5_clash, if_pos c_3])
    exact W.iret (v := (-1 : Int32)) hx hb hr (fun t ht hW => ⟨⟨(-1 : Int32), (), rfl, by rw [hE], trivial⟩, hS.F ht⟩) hS.2.2 dX5_clash_28
  · have tc_3 : ¬ z_2.toInt = (0 : Int) := by rw [hz_2]; exact q_ne c_3
    obtain ⟨b_4, b_5, b_6⟩ := names_in c_3
    refine lv_aload_n hx hb dX5_clash_11 rfl (lv_at hl 0 rfl) ?_
    refine va_get (D := (dC, dI)) (ci := 5) (v := .ref zg) (C := RX5) (T := TX5) (N := 6) hx hb hts in_X5_clash_X5 hown hK hP 0 rfl rfl 3 (by decide) (hts _ m_X5_clash_1) (fun _ h9 => h9) rfl dX5_clash_12 ?_
    refine lv_iload_n hx hb dX5_clash_15 rfl (lv_at hl 2 rfl) ?_
    have hPc := hP.sub (ws' := [(zg, .inr (1, [.ref azg_kind, .ref azg_hand, .ref azg_state, .ref azg_look, .int zg_size])), (azg_kind, .inl (cI, 25, .inl zg_kind)), (azg_hand, .inl (cI, 25, .inl zg_hand)), (azg_state, .inl (cI, 25, .inl zg_state)), (azg_look, .inl (cI, 25, .inl zg_look))]) [1, 2, 3, 4, 5] rfl
    have hDc := hD.sub (ws' := [(zg, .inr (1, [.ref azg_kind, .ref azg_hand, .ref azg_state, .ref azg_look, .int zg_size])), (azg_kind, .inl (cI, 25, .inl zg_kind)), (azg_hand, .inl (cI, 25, .inl zg_hand)), (azg_state, .inl (cI, 25, .inl zg_state)), (azg_look, .inl (cI, 25, .inl zg_look))]) [1, 2, 3, 4, 5] (by decide) rfl
    refine va_calli (va_runV (As := [.int a_b]) (rest := []) ⟨hx, hb, hml, hown, hts⟩ (c_X1_names l dC dI cI cJ H.size zg azg_kind azg_hand azg_state azg_look zg_kind zg_hand zg_state zg_look zg_size a_b) (cwV 1 hts gX5_clash_X1_names rfl rfl rfl (by decide +kernel) ⟨Nat.le_of_ble_eq_true rfl, Nat.le_of_ble_eq_true rfl⟩) ⟨fun a U g mk q => ⟨q.1, PreW.call g mk a q.2⟩, va_recv hK hP (ci := 1) (q0 := 1) rfl rfl, fun U hU hW => ⟨rfl, PreW.mk2 hU hW hPc hK hN (hDc.weaken (fun _ _ _ _ => trivial))⟩⟩ rfl rfl hl.1 rfl (lv_room (Nat.le_of_ble_eq_true rfl)) dX5_clash_16 ⟨Nat.le_of_ble_eq_true rfl, Nat.le_of_ble_eq_true rfl⟩) hS (fun q hq h => absurd hq (Nat.not_lt.mpr h)) (fun q h => hA q (Nat.le_trans hS.1 h)) (fun r_7 _u t H1 locs ht hvm hw hB hz1 hk1 hS => ?_)
    have hP := va_ro hP hk1
    generalize H1 = H at hP hS ⊢
    have hw : r_7 = f_X1_names zg_size a_b := hw
    subst hw
    obtain ⟨z_8, hz_8⟩ : ∃ z : Int32, z = f_X1_names zg_size a_b := ⟨_, rfl⟩
    refine lv_if_eq (tgt := 27) hx hb dX5_clash_19 (by decide) (fun c_9 => ?_) (fun c_9 => ?_)
    · have tc_9 : z_8.toInt = (0 : Int) := by rw [hz_8]; exact q_eq c_9
      refine lv_iconst (v := (-1 : Int32)) hx hb dX5_clash_27 (by decide) ?_
      have hE : f_X5_clash zg_kind zg_hand zg_state zg_look zg_size zr_token zr_in zr_size a_a a_b = (-1 : Int32) := (by rw [f_X5_clash, if_neg c_3, if_pos c_9])
      exact W.iret (v := (-1 : Int32)) hx hb hr (fun t ht hW => ⟨⟨(-1 : Int32), (), rfl, by rw [hE], trivial⟩, hS.F ht⟩) hS.2.2 dX5_clash_28
    · have tc_9 : ¬ z_8.toInt = (0 : Int) := by rw [hz_8]; exact q_ne c_9
      obtain ⟨b_10, b_11, b_12⟩ := names_in c_9
      refine lv_iload_n hx hb dX5_clash_22 rfl (lv_at hl 1 rfl) ?_
      refine lv_iload_n hx hb dX5_clash_23 rfl (lv_at hl 2 rfl) ?_
      refine lv_icmp_ne (tgt := 29) hx hb dX5_clash_24 (by decide) (fun c_13 => ?_) (fun c_13 => ?_)
      · have tc_13 : ¬ a_a.toInt = a_b.toInt := q_ne c_13
        refine lv_aload_n hx hb dX5_clash_29 rfl (lv_at hl 0 rfl) ?_
        refine lv_iload_n hx hb dX5_clash_30 rfl (lv_at hl 1 rfl) ?_
        refine lv_iload_n hx hb dX5_clash_31 rfl (lv_at hl 2 rfl) ?_
        have hPc := hP.sub (ws' := [(zd, .inr (5, [.ref zt, .ref zr, .ref zw, .ref zg, .ref zv, .ref zk])), (zg, .inr (1, [.ref azg_kind, .ref azg_hand, .ref azg_state, .ref azg_look, .int zg_size])), (azg_kind, .inl (cI, 25, .inl zg_kind)), (azg_hand, .inl (cI, 25, .inl zg_hand)), (azg_state, .inl (cI, 25, .inl zg_state)), (azg_look, .inl (cI, 25, .inl zg_look)), (zr, .inr (2, [.ref azr_sign, .ref azr_token, .ref azr_in, .ref azr_own, .ref azr_since, .int zr_size])), (azr_sign, .inl (cI, 240, .inl zr_sign)), (azr_token, .inl (cI, 240, .inl zr_token)), (azr_in, .inl (cI, 240, .inl zr_in)), (azr_own, .inl (cI, 240, .inl zr_own)), (azr_since, .inl (cI, 240, .inl zr_since))]) [0, 1, 2, 3, 4, 5, 6, 7, 8, 9, 10, 11] rfl
        have hDc := hD.sub (ws' := [(zd, .inr (5, [.ref zt, .ref zr, .ref zw, .ref zg, .ref zv, .ref zk])), (zg, .inr (1, [.ref azg_kind, .ref azg_hand, .ref azg_state, .ref azg_look, .int zg_size])), (azg_kind, .inl (cI, 25, .inl zg_kind)), (azg_hand, .inl (cI, 25, .inl zg_hand)), (azg_state, .inl (cI, 25, .inl zg_state)), (azg_look, .inl (cI, 25, .inl zg_look)), (zr, .inr (2, [.ref azr_sign, .ref azr_token, .ref azr_in, .ref azr_own, .ref azr_since, .int zr_size])), (azr_sign, .inl (cI, 240, .inl zr_sign)), (azr_token, .inl (cI, 240, .inl zr_token)), (azr_in, .inl (cI, 240, .inl zr_in)), (azr_own, .inl (cI, 240, .inl zr_own)), (azr_since, .inl (cI, 240, .inl zr_since))]) [0, 1, 2, 3, 4, 5, 6, 7, 8, 9, 10, 11] (by decide) rfl
        refine va_calli (va_runV (As := [.int a_a, .int a_b]) (rest := []) ⟨hx, hb, hml, hown, hts⟩ (c_X5_clashOf l dC dI cI cJ H.size zd zg azg_kind azg_hand azg_state azg_look zr azr_sign azr_token azr_in azr_own azr_since zt zw zv zk zg_kind zg_hand zg_state zg_look zr_sign zr_token zr_in zr_own zr_since zg_size zr_size a_a a_b (by first | omega | decide | assumption) (by first | omega | decide | assumption) (by first | omega | decide | assumption) (by first | omega | decide | assumption)) (cwV 2 hts gX5_clash_X5_clashOf rfl rfl rfl (by decide +kernel) ⟨Nat.le_of_ble_eq_true rfl, Nat.le_of_ble_eq_true rfl⟩) ⟨fun a U g mk q => ⟨q.1, PreW.call g mk a q.2⟩, va_recv hK hP (ci := 5) (q0 := 0) rfl rfl, fun U hU hW => ⟨rfl, PreW.mk2 hU hW hPc hK hN (hDc.weaken (fun _ _ _ _ => trivial))⟩⟩ rfl rfl hl.1 rfl (lv_room (Nat.le_of_ble_eq_true rfl)) dX5_clash_32 ⟨Nat.le_of_ble_eq_true rfl, Nat.le_of_ble_eq_true rfl⟩) hS (fun q hq h => absurd hq (Nat.not_lt.mpr h)) (fun q h => hA q (Nat.le_trans hS.1 h)) (fun r_14 _u t H1 locs ht hvm hw hB hz1 hk1 hS => ?_)
        have hP := va_ro hP hk1
        generalize H1 = H at hP hS ⊢
        have hw : r_14 = f_X5_clashOf zg_kind zg_hand zg_state zg_look zr_token zr_in zr_size a_a a_b := hw
        subst hw
        obtain ⟨z_15, hz_15⟩ : ∃ z : Int32, z = f_X5_clashOf zg_kind zg_hand zg_state zg_look zr_token zr_in zr_size a_a a_b := ⟨_, rfl⟩
        have hE : f_X5_clash zg_kind zg_hand zg_state zg_look zg_size zr_token zr_in zr_size a_a a_b = (f_X5_clashOf zg_kind zg_hand zg_state zg_look zr_token zr_in zr_size a_a a_b) := (by rw [f_X5_clash, if_neg c_3, if_neg c_9, if_neg c_13])
        exact W.iret (v := (f_X5_clashOf zg_kind zg_hand zg_state zg_look zr_token zr_in zr_size a_a a_b)) hx hb hr (fun t ht hW => ⟨⟨(f_X5_clashOf zg_kind zg_hand zg_state zg_look zr_token zr_in zr_size a_a a_b), (), rfl, by rw [hE], trivial⟩, hS.F ht⟩) hS.2.2 dX5_clash_35
      · have tc_13 : a_a.toInt = a_b.toInt := q_eq c_13
        refine lv_iconst (v := (-1 : Int32)) hx hb dX5_clash_27 (by decide) ?_
        have hE : f_X5_clash zg_kind zg_hand zg_state zg_look zg_size zr_token zr_in zr_size a_a a_b = (-1 : Int32) := (by rw [f_X5_clash, if_neg c_3, if_neg c_9, if_pos c_13])
        exact W.iret (v := (-1 : Int32)) hx hb hr (fun t ht hW => ⟨⟨(-1 : Int32), (), rfl, by rw [hE], trivial⟩, hS.F ht⟩) hS.2.2 dX5_clash_28
theorem dX5_clashes_0 : decode cX5_clashes 0 = .ok (.iconst 0, 1) := by decide +kernel
theorem dX5_clashes_1 : decode cX5_clashes 1 = .ok (.istore_n 1, 1) := by decide +kernel
theorem dX5_clashes_2 : decode cX5_clashes 2 = .ok (.iconst 1, 1) := by decide +kernel
theorem dX5_clashes_3 : decode cX5_clashes 3 = .ok (.istore_n 2, 1) := by decide +kernel
theorem dX5_clashes_4 : decode cX5_clashes 4 = .ok (.iload_n 2, 1) := by decide +kernel
theorem dX5_clashes_5 : decode cX5_clashes 5 = .ok (.bipush 24, 2) := by decide +kernel
theorem dX5_clashes_7 : decode cX5_clashes 7 = .ok (.if_icmp .gt 59, 3) := by decide +kernel
theorem dX5_clashes_66 : decode cX5_clashes 66 = .ok (.iload_n 1, 1) := by decide +kernel
theorem dX5_clashes_67 : decode cX5_clashes 67 = .ok (.ireturn, 1) := by decide +kernel
theorem dX5_clashes_10 : decode cX5_clashes 10 = .ok (.aload_n 0, 1) := by decide +kernel
theorem dX5_clashes_11 : decode cX5_clashes 11 = .ok (.getfield 29, 3) := by decide +kernel
theorem in_X5_clashes_X5 : ∀ w ∈ wsX50, w ∈ wsX5_clashes := by decide +kernel
theorem m_X5_clashes_1 : (.fieldLink RX5 29 "RedlineDesk" "ledger" "LRedlineDesk$Ledger;" : Cond) ∈ wsX5_clashes := List.mem_of_getElem? (i := 1) (by decide +kernel)
theorem dX5_clashes_14 : decode cX5_clashes 14 = .ok (.iload_n 2, 1) := by decide +kernel
theorem dX5_clashes_15 : decode cX5_clashes 15 = .ok (.invokevirtual 167, 3) := by decide +kernel
set_option maxRecDepth 20000 in
theorem ggX5_clashes_X1_names : GoodIn wsX5_clashes wsX1_names := goodIn_r _ [6, 7, 50, 51, 52, 53, 54] (by decide +kernel) (by decide +kernel)
set_option maxRecDepth 20000 in
theorem gX5_clashes_X1_names : GoodIn wsX5_clashes (wsV RX5 167 RX1 yX1_names wsX1_names) := goodIn_app (goodIn_of _ (by decide +kernel)) ggX5_clashes_X1_names
theorem dX5_clashes_18 : decode cX5_clashes 18 = .ok (.ifCond .eq 48, 3) := by decide +kernel
theorem dX5_clashes_21 : decode cX5_clashes 21 = .ok (.iload_n 2, 1) := by decide +kernel
theorem dX5_clashes_22 : decode cX5_clashes 22 = .ok (.iconst 1, 1) := by decide +kernel
theorem dX5_clashes_23 : decode cX5_clashes 23 = .ok (.iadd, 1) := by decide +kernel
theorem dX5_clashes_24 : decode cX5_clashes 24 = .ok (.istore_n 3, 1) := by decide +kernel
theorem dX5_clashes_25 : decode cX5_clashes 25 = .ok (.iload_n 3, 1) := by decide +kernel
theorem dX5_clashes_26 : decode cX5_clashes 26 = .ok (.bipush 24, 2) := by decide +kernel
theorem dX5_clashes_28 : decode cX5_clashes 28 = .ok (.if_icmp .gt 32, 3) := by decide +kernel
theorem dX5_clashes_60 : decode cX5_clashes 60 = .ok (.iinc 2 1, 3) := by decide +kernel
theorem dX5_clashes_63 : decode cX5_clashes 63 = .ok (.goto (-59), 3) := by decide +kernel
theorem dX5_clashes_31 : decode cX5_clashes 31 = .ok (.aload_n 0, 1) := by decide +kernel
theorem dX5_clashes_32 : decode cX5_clashes 32 = .ok (.getfield 29, 3) := by decide +kernel
theorem dX5_clashes_35 : decode cX5_clashes 35 = .ok (.iload_n 3, 1) := by decide +kernel
theorem dX5_clashes_36 : decode cX5_clashes 36 = .ok (.invokevirtual 167, 3) := by decide +kernel
theorem dX5_clashes_39 : decode cX5_clashes 39 = .ok (.ifCond .eq 21, 3) := by decide +kernel
theorem dX5_clashes_42 : decode cX5_clashes 42 = .ok (.aload_n 0, 1) := by decide +kernel
theorem dX5_clashes_43 : decode cX5_clashes 43 = .ok (.iload_n 2, 1) := by decide +kernel
theorem dX5_clashes_44 : decode cX5_clashes 44 = .ok (.iload_n 3, 1) := by decide +kernel
theorem dX5_clashes_45 : decode cX5_clashes 45 = .ok (.invokevirtual 188, 3) := by decide +kernel
set_option maxRecDepth 20000 in
theorem ggX5_clashes_X5_clashOf : GoodIn wsX5_clashes wsX5_clashOf := goodIn_r _ [12, 1, 13, 14, 15, 16, 17, 18, 11, 19, 20, 21, 22, 23, 24, 25, 26, 27, 28, 29, 30, 31, 32, 33, 34, 35, 36, 37, 38, 39, 40, 41, 42, 43, 44, 45, 46, 47, 48, 49, 50, 51, 52, 53, 54, 55, 56, 57, 58, 59, 60] (by decide +kernel) (by decide +kernel)
set_option maxRecDepth 20000 in
theorem gX5_clashes_X5_clashOf : GoodIn wsX5_clashes (wsV RX5 188 RX5 yX5_clashOf wsX5_clashOf) := goodIn_app (goodIn_of _ (by decide +kernel)) ggX5_clashes_X5_clashOf
theorem dX5_clashes_48 : decode cX5_clashes 48 = .ok (.ifCond .eq 6, 3) := by decide +kernel
theorem dX5_clashes_54 : decode cX5_clashes 54 = .ok (.iinc 3 1, 3) := by decide +kernel
theorem dX5_clashes_57 : decode cX5_clashes 57 = .ok (.goto (-32), 3) := by decide +kernel
theorem dX5_clashes_51 : decode cX5_clashes 51 = .ok (.iinc 1 1, 3) := by decide +kernel
def f_X5_clashes_L25 (zg_kind : Nat → Int32) (zg_hand : Nat → Int32) (zg_state : Nat → Int32) (zg_look : Nat → Int32) (zg_size : Int32) (zr_token : Nat → Int32) (zr_in : Nat → Int32) (zr_size : Int32) (v2_1 : Int32) (K_f_X5_clashes_L4 : Int32 → Int32 → Int32) : Nat → Int32 → Int32 → Int32
  | 0, _, _ => 0
  | n_10 + 1, v1_10, v3_10 => if (24 : Int32) < v3_10 then K_f_X5_clashes_L4 v1_10 (v2_1 + (1 : Int32)) else if (f_X1_names zg_size v3_10) = (0 : Int32) then K_f_X5_clashes_L4 v1_10 (v2_1 + (1 : Int32)) else if (f_X5_clashOf zg_kind zg_hand zg_state zg_look zr_token zr_in zr_size v2_1 v3_10) = (0 : Int32) then (f_X5_clashes_L25 zg_kind zg_hand zg_state zg_look zg_size zr_token zr_in zr_size v2_1 K_f_X5_clashes_L4 n_10) v1_10 (v3_10 + (1 : Int32)) else (f_X5_clashes_L25 zg_kind zg_hand zg_state zg_look zg_size zr_token zr_in zr_size v2_1 K_f_X5_clashes_L4 n_10) (v1_10 + (1 : Int32)) (v3_10 + (1 : Int32))
def f_X5_clashes_L4 (zg_kind : Nat → Int32) (zg_hand : Nat → Int32) (zg_state : Nat → Int32) (zg_look : Nat → Int32) (zg_size : Int32) (zr_token : Nat → Int32) (zr_in : Nat → Int32) (zr_size : Int32) : Nat → Int32 → Int32 → Int32
  | 0, _, _ => 0
  | n_1 + 1, v1_1, v2_1 => if (24 : Int32) < v2_1 then v1_1 else if (f_X1_names zg_size v2_1) = (0 : Int32) then v1_1 else f_X5_clashes_L25 zg_kind zg_hand zg_state zg_look zg_size zr_token zr_in zr_size v2_1 (f_X5_clashes_L4 zg_kind zg_hand zg_state zg_look zg_size zr_token zr_in zr_size n_1) 26 v1_1 (v2_1 + (1 : Int32))
def f_X5_clashes (zg_kind : Nat → Int32) (zg_hand : Nat → Int32) (zg_state : Nat → Int32) (zg_look : Nat → Int32) (zg_size : Int32) (zr_token : Nat → Int32) (zr_in : Nat → Int32) (zr_size : Int32) : Int32 := f_X5_clashes_L4 zg_kind zg_hand zg_state zg_look zg_size zr_token zr_in zr_size 26 (0 : Int32) (1 : Int32)
set_option maxHeartbeats 4000000 in
set_option maxRecDepth 100000 in
theorem c_X5_clashes (l : Launch) (dC : Nat → ClassId) (dI : Nat → Nat → Nat) (cI cJ : ClassId) (sz : Nat) (zd zg azg_kind azg_hand azg_state azg_look zr azr_sign azr_token azr_in azr_own azr_since zt zw zv zk : Nat) (zg_kind zg_hand zg_state zg_look zr_sign zr_token zr_in zr_own zr_since : Nat → Int32) (zg_size zr_size : Int32) : Met l yX5_clashes wsX5_clashes ({ frames := 3, cells := 0, slots := 0, locals := 68 } : Room) (va_Pc [.ref zd] (PreW dC dI cI cJ sz [(zd, .inr (5, [.ref zt, .ref zr, .ref zw, .ref zg, .ref zv, .ref zk])), (zg, .inr (1, [.ref azg_kind, .ref azg_hand, .ref azg_state, .ref azg_look, .int zg_size])), (azg_kind, .inl (cI, 25, .inl zg_kind)), (azg_hand, .inl (cI, 25, .inl zg_hand)), (azg_state, .inl (cI, 25, .inl zg_state)), (azg_look, .inl (cI, 25, .inl zg_look)), (zr, .inr (2, [.ref azr_sign, .ref azr_token, .ref azr_in, .ref azr_own, .ref azr_since, .int zr_size])), (azr_sign, .inl (cI, 240, .inl zr_sign)), (azr_token, .inl (cI, 240, .inl zr_token)), (azr_in, .inl (cI, 240, .inl zr_in)), (azr_own, .inl (cI, 240, .inl zr_own)), (azr_since, .inl (cI, 240, .inl zr_since))])) (va_Qi (fun (r : Int32) (_ : Unit) => r = f_X5_clashes zg_kind zg_hand zg_state zg_look zg_size zr_token zr_in zr_size) (fun (_ : Unit) _ => True) (fun q => sz ≤ q)) 0 0 (fun q => sz ≤ q) := by
  refine Met.ofW (cc := cX5_clashes) (maxL := 4) (ret := (some .int)) (by decide) rfl ?_
  intro p e s m args below meth c s₁ B hml hv
  obtain ⟨rfl, hsz, hP, hK, hN, hD0⟩ := hv
  have hx := B.exec
  have hb := B.bytes
  have hr := B.returns
  have hts := atoms_spec (ws := wsX5_clashes) B.pre
  have hown : s.vm.findClass RX5 = some m.cls := findClass_of_methodNamed B.named
  have hlocks := B.notSynchronized
  subst hsz
  have hD := hD0
  generalize hAe : (fun q => s.heap.size ≤ q) = A
  have hA : ∀ q : Nat, s.heap.size ≤ q → A q := fun q h => by rw [← hAe]; exact h
  have hS : va_S A s.heap s.heap [] := va_S.rf
  have hP : va_P (dC, dI) vwCl [(zd, .inr (5, [.ref zt, .ref zr, .ref zw, .ref zg, .ref zv, .ref zk])), (zg, .inr (1, [.ref azg_kind, .ref azg_hand, .ref azg_state, .ref azg_look, .int zg_size])), (azg_kind, .inl (cI, 25, .inl zg_kind)), (azg_hand, .inl (cI, 25, .inl zg_hand)), (azg_state, .inl (cI, 25, .inl zg_state)), (azg_look, .inl (cI, 25, .inl zg_look)), (zr, .inr (2, [.ref azr_sign, .ref azr_token, .ref azr_in, .ref azr_own, .ref azr_since, .int zr_size])), (azr_sign, .inl (cI, 240, .inl zr_sign)), (azr_token, .inl (cI, 240, .inl zr_token)), (azr_in, .inl (cI, 240, .inl zr_in)), (azr_own, .inl (cI, 240, .inl zr_own)), (azr_since, .inl (cI, 240, .inl zr_since))] s.heap := hP
  have hl := lv_entry ([.ref zd]) (n := 4) (Nat.le_of_ble_eq_true rfl)
  rw [lg_entry_eq]
  generalize (lg_sl ([.ref zd]) ++ List.replicate (4 - (lg_sl ([.ref zd])).length) Slot.unset).toArray = ls at hl ⊢
  have hl : lv_has ls 4 [(0, .ref zd)] := hl
  refine W_nm (fun QQ hQQ => ?_)
  refine lv_iconst (v := (0 : Int32)) hx hb dX5_clashes_0 (by decide) ?_
  refine lv_istore_n (lv' := [(1, .int (0 : Int32)), (0, .ref zd)]) hx hb dX5_clashes_1 rfl hl (by decide) rfl (fun ls hl => ?_)
  refine lv_iconst (v := (1 : Int32)) hx hb dX5_clashes_2 (by decide) ?_
  refine lv_istore_n (lv' := [(2, .int (1 : Int32)), (1, .int (0 : Int32)), (0, .ref zd)]) hx hb dX5_clashes_3 rfl hl (by decide) rfl (fun ls hl => ?_)
  have hloop_1 : ∀ (n_1 : Nat) (v1_1 : Int32) (v2_1 : Int32) , (0 ≤ v2_1.toInt) → (v2_1.toInt ≤ 25) → (25 - v2_1.toInt).toNat < n_1 → f_X5_clashes zg_kind zg_hand zg_state zg_look zg_size zr_token zr_in zr_size = f_X5_clashes_L4 zg_kind zg_hand zg_state zg_look zg_size zr_token zr_in zr_size n_1 v1_1 v2_1 → ∀ (H : Heap) (locs : List Loc), va_P (dC, dI) vwCl [(zd, .inr (5, [.ref zt, .ref zr, .ref zw, .ref zg, .ref zv, .ref zk])), (zg, .inr (1, [.ref azg_kind, .ref azg_hand, .ref azg_state, .ref azg_look, .int zg_size])), (azg_kind, .inl (cI, 25, .inl zg_kind)), (azg_hand, .inl (cI, 25, .inl zg_hand)), (azg_state, .inl (cI, 25, .inl zg_state)), (azg_look, .inl (cI, 25, .inl zg_look)), (zr, .inr (2, [.ref azr_sign, .ref azr_token, .ref azr_in, .ref azr_own, .ref azr_since, .int zr_size])), (azr_sign, .inl (cI, 240, .inl zr_sign)), (azr_token, .inl (cI, 240, .inl zr_token)), (azr_in, .inl (cI, 240, .inl zr_in)), (azr_own, .inl (cI, 240, .inl zr_own)), (azr_since, .inl (cI, 240, .inl zr_since))] H → va_D (fun _ => True) [(zd, .inr (5, [.ref zt, .ref zr, .ref zw, .ref zg, .ref zv, .ref zk])), (zg, .inr (1, [.ref azg_kind, .ref azg_hand, .ref azg_state, .ref azg_look, .int zg_size])), (azg_kind, .inl (cI, 25, .inl zg_kind)), (azg_hand, .inl (cI, 25, .inl zg_hand)), (azg_state, .inl (cI, 25, .inl zg_state)), (azg_look, .inl (cI, 25, .inl zg_look)), (zr, .inr (2, [.ref azr_sign, .ref azr_token, .ref azr_in, .ref azr_own, .ref azr_since, .int zr_size])), (azr_sign, .inl (cI, 240, .inl zr_sign)), (azr_token, .inl (cI, 240, .inl zr_token)), (azr_in, .inl (cI, 240, .inl zr_in)), (azr_own, .inl (cI, 240, .inl zr_own)), (azr_since, .inl (cI, 240, .inl zr_since))] → va_S A s.heap H locs → ∀ ls : Array Slot, lv_has ls 4 [(0, .ref zd), (1, .int v1_1), (2, .int v2_1)] → W p l e (headSpec wsX5_clashes ({ frames := 3, cells := 0, slots := 0, locals := 68 } : Room)).room s m ([.ref zd] : List Value).toArray below meth c H locs 0 0 QQ (F0 m 4 ls []) := by
    intro n_1
    induction n_1 with
    | zero => intro v1_1 v2_1 hi0_1 hi1_1 hmu; exact absurd hmu (Nat.not_lt_zero _)
    | succ n_1 ih_1 =>
      intro v1_1 v2_1 hi0_1 hi1_1 hmu_1 hI_1 H locs hP hD hS ls hl
      refine lv_iload_n hx hb dX5_clashes_4 rfl (lv_at hl 2 rfl) ?_
      refine lv_bipush (v := (24 : Int32)) hx hb dX5_clashes_5 (by decide) ?_
      refine lv_icmp_gt (tgt := 66) hx hb dX5_clashes_7 (by decide) (fun c_2 => ?_) (fun c_2 => ?_)
      · have tc_2 : (24 : Int) < v2_1.toInt := q_lt c_2
        refine lv_iload_n hx hb dX5_clashes_66 rfl (lv_at hl 1 rfl) ?_
        rw [hQQ]
        have hE : f_X5_clashes zg_kind zg_hand zg_state zg_look zg_size zr_token zr_in zr_size = v1_1 := (hI_1.trans (by rw [f_X5_clashes_L4, if_pos c_2]))
        exact W.iret (v := v1_1) hx hb hr (fun t ht hW => ⟨⟨v1_1, (), rfl, by rw [hE], trivial⟩, hS.F ht⟩) hS.2.2 dX5_clashes_67
      · have tc_2 : v2_1.toInt ≤ (24 : Int) := q_nlt c_2
        refine lv_aload_n hx hb dX5_clashes_10 rfl (lv_at hl 0 rfl) ?_
        refine va_get (D := (dC, dI)) (ci := 5) (v := .ref zg) (C := RX5) (T := TX5) (N := 6) hx hb hts in_X5_clashes_X5 hown hK hP 0 rfl rfl 3 (by decide) (hts _ m_X5_clashes_1) (fun _ h9 => h9) rfl dX5_clashes_11 ?_
        refine lv_iload_n hx hb dX5_clashes_14 rfl (lv_at hl 2 rfl) ?_
        have hPc := hP.sub (ws' := [(zg, .inr (1, [.ref azg_kind, .ref azg_hand, .ref azg_state, .ref azg_look, .int zg_size])), (azg_kind, .inl (cI, 25, .inl zg_kind)), (azg_hand, .inl (cI, 25, .inl zg_hand)), (azg_state, .inl (cI, 25, .inl zg_state)), (azg_look, .inl (cI, 25, .inl zg_look))]) [1, 2, 3, 4, 5] rfl
        have hDc := hD.sub (ws' := [(zg, .inr (1, [.ref azg_kind, .ref azg_hand, .ref azg_state, .ref azg_look, .int zg_size])), (azg_kind, .inl (cI, 25, .inl zg_kind)), (azg_hand, .inl (cI, 25, .inl zg_hand)), (azg_state, .inl (cI, 25, .inl zg_state)), (azg_look, .inl (cI, 25, .inl zg_look))]) [1, 2, 3, 4, 5] (by decide) rfl
        refine va_calli (va_runV (As := [.int v2_1]) (rest := []) ⟨hx, hb, hml, hown, hts⟩ (c_X1_names l dC dI cI cJ H.size zg azg_kind azg_hand azg_state azg_look zg_kind zg_hand zg_state zg_look zg_size v2_1) (cwV 1 hts gX5_clashes_X1_names rfl rfl rfl (by decide +kernel) ⟨Nat.le_of_ble_eq_true rfl, Nat.le_of_ble_eq_true rfl⟩) ⟨fun a U g mk q => ⟨q.1, PreW.call g mk a q.2⟩, va_recv hK hP (ci := 1) (q0 := 1) rfl rfl, fun U hU hW => ⟨rfl, PreW.mk2 hU hW hPc hK hN (hDc.weaken (fun _ _ _ _ => trivial))⟩⟩ rfl rfl hl.1 rfl (lv_room (Nat.le_of_ble_eq_true rfl)) dX5_clashes_15 ⟨Nat.le_of_ble_eq_true rfl, Nat.le_of_ble_eq_true rfl⟩) hS (fun q hq h => absurd hq (Nat.not_lt.mpr h)) (fun q h => hA q (Nat.le_trans hS.1 h)) (fun r_3 _u t H1 locs ht hvm hw hB hz1 hk1 hS => ?_)
        have hP := va_ro hP hk1
        generalize H1 = H at hP hS ⊢
        have hw : r_3 = f_X1_names zg_size v2_1 := hw
        subst hw
        obtain ⟨z_4, hz_4⟩ : ∃ z : Int32, z = f_X1_names zg_size v2_1 := ⟨_, rfl⟩
        refine lv_if_eq (tgt := 66) hx hb dX5_clashes_18 (by decide) (fun c_5 => ?_) (fun c_5 => ?_)
        · have tc_5 : z_4.toInt = (0 : Int) := by rw [hz_4]; exact q_eq c_5
          refine lv_iload_n hx hb dX5_clashes_66 rfl (lv_at hl 1 rfl) ?_
          rw [hQQ]
          have hE : f_X5_clashes zg_kind zg_hand zg_state zg_look zg_size zr_token zr_in zr_size = v1_1 := (hI_1.trans (by rw [f_X5_clashes_L4, if_neg c_2, if_pos c_5]))
          exact W.iret (v := v1_1) hx hb hr (fun t ht hW => ⟨⟨v1_1, (), rfl, by rw [hE], trivial⟩, hS.F ht⟩) hS.2.2 dX5_clashes_67
        · have tc_5 : ¬ z_4.toInt = (0 : Int) := by rw [hz_4]; exact q_ne c_5
          obtain ⟨b_6, b_7, b_8⟩ := names_in c_5
          refine lv_iload_n hx hb dX5_clashes_21 rfl (lv_at hl 2 rfl) ?_
          refine lv_iconst (v := (1 : Int32)) hx hb dX5_clashes_22 (by decide) ?_
          refine lv_iadd hx hb dX5_clashes_23 ?_
          obtain ⟨z_9, hz_9⟩ : ∃ z : Int32, z = (v2_1 + (1 : Int32)) := ⟨_, rfl⟩
          try have gz_9 : z_9.toInt = v2_1.toInt + (1 : Int) := by rw [hz_9]; exact ti_add2 rfl rfl (by omega) (by omega)
          refine lv_istore_n (lv' := [(3, .int (v2_1 + (1 : Int32))), (0, .ref zd), (1, .int v1_1), (2, .int v2_1)]) hx hb dX5_clashes_24 rfl hl (by decide) rfl (fun ls hl => ?_)
          have hloop_10 : ∀ (n_10 : Nat) (v1_10 : Int32) (v3_10 : Int32) , (0 ≤ v3_10.toInt) → (v3_10.toInt ≤ 25) → (25 - v3_10.toInt).toNat < n_10 → f_X5_clashes zg_kind zg_hand zg_state zg_look zg_size zr_token zr_in zr_size = f_X5_clashes_L25 zg_kind zg_hand zg_state zg_look zg_size zr_token zr_in zr_size v2_1 (f_X5_clashes_L4 zg_kind zg_hand zg_state zg_look zg_size zr_token zr_in zr_size n_1) n_10 v1_10 v3_10 → ∀ (H : Heap) (locs : List Loc), va_P (dC, dI) vwCl [(zd, .inr (5, [.ref zt, .ref zr, .ref zw, .ref zg, .ref zv, .ref zk])), (zg, .inr (1, [.ref azg_kind, .ref azg_hand, .ref azg_state, .ref azg_look, .int zg_size])), (azg_kind, .inl (cI, 25, .inl zg_kind)), (azg_hand, .inl (cI, 25, .inl zg_hand)), (azg_state, .inl (cI, 25, .inl zg_state)), (azg_look, .inl (cI, 25, .inl zg_look)), (zr, .inr (2, [.ref azr_sign, .ref azr_token, .ref azr_in, .ref azr_own, .ref azr_since, .int zr_size])), (azr_sign, .inl (cI, 240, .inl zr_sign)), (azr_token, .inl (cI, 240, .inl zr_token)), (azr_in, .inl (cI, 240, .inl zr_in)), (azr_own, .inl (cI, 240, .inl zr_own)), (azr_since, .inl (cI, 240, .inl zr_since))] H → va_D (fun _ => True) [(zd, .inr (5, [.ref zt, .ref zr, .ref zw, .ref zg, .ref zv, .ref zk])), (zg, .inr (1, [.ref azg_kind, .ref azg_hand, .ref azg_state, .ref azg_look, .int zg_size])), (azg_kind, .inl (cI, 25, .inl zg_kind)), (azg_hand, .inl (cI, 25, .inl zg_hand)), (azg_state, .inl (cI, 25, .inl zg_state)), (azg_look, .inl (cI, 25, .inl zg_look)), (zr, .inr (2, [.ref azr_sign, .ref azr_token, .ref azr_in, .ref azr_own, .ref azr_since, .int zr_size])), (azr_sign, .inl (cI, 240, .inl zr_sign)), (azr_token, .inl (cI, 240, .inl zr_token)), (azr_in, .inl (cI, 240, .inl zr_in)), (azr_own, .inl (cI, 240, .inl zr_own)), (azr_since, .inl (cI, 240, .inl zr_since))] → va_S A s.heap H locs → ∀ ls : Array Slot, lv_has ls 4 [(0, .ref zd), (1, .int v1_10), (2, .int v2_1), (3, .int v3_10)] → W p l e (headSpec wsX5_clashes ({ frames := 3, cells := 0, slots := 0, locals := 68 } : Room)).room s m ([.ref zd] : List Value).toArray below meth c H locs 0 0 QQ (F0 m 25 ls []) := by
            intro n_10
            induction n_10 with
            | zero => intro v1_10 v3_10 hi0_10 hi1_10 hmu; exact absurd hmu (Nat.not_lt_zero _)
            | succ n_10 ih_10 =>
              intro v1_10 v3_10 hi0_10 hi1_10 hmu_10 hI_10 H locs hP hD hS ls hl
              refine lv_iload_n hx hb dX5_clashes_25 rfl (lv_at hl 3 rfl) ?_
              refine lv_bipush (v := (24 : Int32)) hx hb dX5_clashes_26 (by decide) ?_
              refine lv_icmp_gt (tgt := 60) hx hb dX5_clashes_28 (by decide) (fun c_11 => ?_) (fun c_11 => ?_)
              · have tc_11 : (24 : Int) < v3_10.toInt := q_lt c_11
                refine lv_iinc (v := (v2_1 + (1 : Int32))) (lv' := [(2, .int (v2_1 + (1 : Int32))), (0, .ref zd), (1, .int v1_10), (3, .int v3_10)]) hx hb dX5_clashes_60 hl (k := 2) rfl rfl (by decide) rfl (fun ls hl => ?_)
                obtain ⟨z_12, hz_12⟩ : ∃ z : Int32, z = (v2_1 + (1 : Int32)) := ⟨_, rfl⟩
                try have gz_12 : z_12.toInt = v2_1.toInt + (1 : Int) := by rw [hz_12]; exact ti_add2 rfl rfl (by omega) (by omega)
                refine lv_goto (tgt := 4) hx hb dX5_clashes_63 (by decide) ?_
                exact ih_1 v1_10 (v2_1 + (1 : Int32)) (by rw [← hz_12]; omega) (by rw [← hz_12]; omega) (by rw [← hz_12]; omega) (hI_10.trans (by rw [f_X5_clashes_L25, if_pos c_11])) _ _ hP hD hS ls (lv_sub hl [1, 2, 0] rfl)
              · have tc_11 : v3_10.toInt ≤ (24 : Int) := q_nlt c_11
                refine lv_aload_n hx hb dX5_clashes_31 rfl (lv_at hl 0 rfl) ?_
                refine va_get (D := (dC, dI)) (ci := 5) (v := .ref zg) (C := RX5) (T := TX5) (N := 6) hx hb hts in_X5_clashes_X5 hown hK hP 0 rfl rfl 3 (by decide) (hts _ m_X5_clashes_1) (fun _ h9 => h9) rfl dX5_clashes_32 ?_
                refine lv_iload_n hx hb dX5_clashes_35 rfl (lv_at hl 3 rfl) ?_
                have hPc := hP.sub (ws' := [(zg, .inr (1, [.ref azg_kind, .ref azg_hand, .ref azg_state, .ref azg_look, .int zg_size])), (azg_kind, .inl (cI, 25, .inl zg_kind)), (azg_hand, .inl (cI, 25, .inl zg_hand)), (azg_state, .inl (cI, 25, .inl zg_state)), (azg_look, .inl (cI, 25, .inl zg_look))]) [1, 2, 3, 4, 5] rfl
                have hDc := hD.sub (ws' := [(zg, .inr (1, [.ref azg_kind, .ref azg_hand, .ref azg_state, .ref azg_look, .int zg_size])), (azg_kind, .inl (cI, 25, .inl zg_kind)), (azg_hand, .inl (cI, 25, .inl zg_hand)), (azg_state, .inl (cI, 25, .inl zg_state)), (azg_look, .inl (cI, 25, .inl zg_look))]) [1, 2, 3, 4, 5] (by decide) rfl
                refine va_calli (va_runV (As := [.int v3_10]) (rest := []) ⟨hx, hb, hml, hown, hts⟩ (c_X1_names l dC dI cI cJ H.size zg azg_kind azg_hand azg_state azg_look zg_kind zg_hand zg_state zg_look zg_size v3_10) (cwV 1 hts gX5_clashes_X1_names rfl rfl rfl (by decide +kernel) ⟨Nat.le_of_ble_eq_true rfl, Nat.le_of_ble_eq_true rfl⟩) ⟨fun a U g mk q => ⟨q.1, PreW.call g mk a q.2⟩, va_recv hK hP (ci := 1) (q0 := 1) rfl rfl, fun U hU hW => ⟨rfl, PreW.mk2 hU hW hPc hK hN (hDc.weaken (fun _ _ _ _ => trivial))⟩⟩ rfl rfl hl.1 rfl (lv_room (Nat.le_of_ble_eq_true rfl)) dX5_clashes_36 ⟨Nat.le_of_ble_eq_true rfl, Nat.le_of_ble_eq_true rfl⟩) hS (fun q hq h => absurd hq (Nat.not_lt.mpr h)) (fun q h => hA q (Nat.le_trans hS.1 h)) (fun r_13 _u t H1 locs ht hvm hw hB hz1 hk1 hS => ?_)
                have hP := va_ro hP hk1
                generalize H1 = H at hP hS ⊢
                have hw : r_13 = f_X1_names zg_size v3_10 := hw
                subst hw
                obtain ⟨z_14, hz_14⟩ : ∃ z : Int32, z = f_X1_names zg_size v3_10 := ⟨_, rfl⟩
                refine lv_if_eq (tgt := 60) hx hb dX5_clashes_39 (by decide) (fun c_15 => ?_) (fun c_15 => ?_)
                · have tc_15 : z_14.toInt = (0 : Int) := by rw [hz_14]; exact q_eq c_15
                  refine lv_iinc (v := (v2_1 + (1 : Int32))) (lv' := [(2, .int (v2_1 + (1 : Int32))), (0, .ref zd), (1, .int v1_10), (3, .int v3_10)]) hx hb dX5_clashes_60 hl (k := 2) rfl rfl (by decide) rfl (fun ls hl => ?_)
                  obtain ⟨z_16, hz_16⟩ : ∃ z : Int32, z = (v2_1 + (1 : Int32)) := ⟨_, rfl⟩
                  try have gz_16 : z_16.toInt = v2_1.toInt + (1 : Int) := by rw [hz_16]; exact ti_add2 rfl rfl (by omega) (by omega)
                  refine lv_goto (tgt := 4) hx hb dX5_clashes_63 (by decide) ?_
                  exact ih_1 v1_10 (v2_1 + (1 : Int32)) (by rw [← hz_16]; omega) (by rw [← hz_16]; omega) (by rw [← hz_16]; omega) (hI_10.trans (by rw [f_X5_clashes_L25, if_neg c_11, if_pos c_15])) _ _ hP hD hS ls (lv_sub hl [1, 2, 0] rfl)
                · have tc_15 : ¬ z_14.toInt = (0 : Int) := by rw [hz_14]; exact q_ne c_15
                  obtain ⟨b_17, b_18, b_19⟩ := names_in c_15
                  refine lv_aload_n hx hb dX5_clashes_42 rfl (lv_at hl 0 rfl) ?_
                  refine lv_iload_n hx hb dX5_clashes_43 rfl (lv_at hl 2 rfl) ?_
                  refine lv_iload_n hx hb dX5_clashes_44 rfl (lv_at hl 3 rfl) ?_
                  have hPc := hP.sub (ws' := [(zd, .inr (5, [.ref zt, .ref zr, .ref zw, .ref zg, .ref zv, .ref zk])), (zg, .inr (1, [.ref azg_kind, .ref azg_hand, .ref azg_state, .ref azg_look, .int zg_size])), (azg_kind, .inl (cI, 25, .inl zg_kind)), (azg_hand, .inl (cI, 25, .inl zg_hand)), (azg_state, .inl (cI, 25, .inl zg_state)), (azg_look, .inl (cI, 25, .inl zg_look)), (zr, .inr (2, [.ref azr_sign, .ref azr_token, .ref azr_in, .ref azr_own, .ref azr_since, .int zr_size])), (azr_sign, .inl (cI, 240, .inl zr_sign)), (azr_token, .inl (cI, 240, .inl zr_token)), (azr_in, .inl (cI, 240, .inl zr_in)), (azr_own, .inl (cI, 240, .inl zr_own)), (azr_since, .inl (cI, 240, .inl zr_since))]) [0, 1, 2, 3, 4, 5, 6, 7, 8, 9, 10, 11] rfl
                  have hDc := hD.sub (ws' := [(zd, .inr (5, [.ref zt, .ref zr, .ref zw, .ref zg, .ref zv, .ref zk])), (zg, .inr (1, [.ref azg_kind, .ref azg_hand, .ref azg_state, .ref azg_look, .int zg_size])), (azg_kind, .inl (cI, 25, .inl zg_kind)), (azg_hand, .inl (cI, 25, .inl zg_hand)), (azg_state, .inl (cI, 25, .inl zg_state)), (azg_look, .inl (cI, 25, .inl zg_look)), (zr, .inr (2, [.ref azr_sign, .ref azr_token, .ref azr_in, .ref azr_own, .ref azr_since, .int zr_size])), (azr_sign, .inl (cI, 240, .inl zr_sign)), (azr_token, .inl (cI, 240, .inl zr_token)), (azr_in, .inl (cI, 240, .inl zr_in)), (azr_own, .inl (cI, 240, .inl zr_own)), (azr_since, .inl (cI, 240, .inl zr_since))]) [0, 1, 2, 3, 4, 5, 6, 7, 8, 9, 10, 11] (by decide) rfl
                  refine va_calli (va_runV (As := [.int v2_1, .int v3_10]) (rest := []) ⟨hx, hb, hml, hown, hts⟩ (c_X5_clashOf l dC dI cI cJ H.size zd zg azg_kind azg_hand azg_state azg_look zr azr_sign azr_token azr_in azr_own azr_since zt zw zv zk zg_kind zg_hand zg_state zg_look zr_sign zr_token zr_in zr_own zr_since zg_size zr_size v2_1 v3_10 (by first | omega | decide | assumption) (by first | omega | decide | assumption) (by first | omega | decide | assumption) (by first | omega | decide | assumption)) (cwV 2 hts gX5_clashes_X5_clashOf rfl rfl rfl (by decide +kernel) ⟨Nat.le_of_ble_eq_true rfl, Nat.le_of_ble_eq_true rfl⟩) ⟨fun a U g mk q => ⟨q.1, PreW.call g mk a q.2⟩, va_recv hK hP (ci := 5) (q0 := 0) rfl rfl, fun U hU hW => ⟨rfl, PreW.mk2 hU hW hPc hK hN (hDc.weaken (fun _ _ _ _ => trivial))⟩⟩ rfl rfl hl.1 rfl (lv_room (Nat.le_of_ble_eq_true rfl)) dX5_clashes_45 ⟨Nat.le_of_ble_eq_true rfl, Nat.le_of_ble_eq_true rfl⟩) hS (fun q hq h => absurd hq (Nat.not_lt.mpr h)) (fun q h => hA q (Nat.le_trans hS.1 h)) (fun r_20 _u t H1 locs ht hvm hw hB hz1 hk1 hS => ?_)
                  have hP := va_ro hP hk1
                  generalize H1 = H at hP hS ⊢
                  have hw : r_20 = f_X5_clashOf zg_kind zg_hand zg_state zg_look zr_token zr_in zr_size v2_1 v3_10 := hw
                  subst hw
                  obtain ⟨z_21, hz_21⟩ : ∃ z : Int32, z = f_X5_clashOf zg_kind zg_hand zg_state zg_look zr_token zr_in zr_size v2_1 v3_10 := ⟨_, rfl⟩
                  refine lv_if_eq (tgt := 54) hx hb dX5_clashes_48 (by decide) (fun c_22 => ?_) (fun c_22 => ?_)
                  · have tc_22 : z_21.toInt = (0 : Int) := by rw [hz_21]; exact q_eq c_22
                    refine lv_iinc (v := (v3_10 + (1 : Int32))) (lv' := [(3, .int (v3_10 + (1 : Int32))), (0, .ref zd), (1, .int v1_10), (2, .int v2_1)]) hx hb dX5_clashes_54 hl (k := 3) rfl rfl (by decide) rfl (fun ls hl => ?_)
                    obtain ⟨z_23, hz_23⟩ : ∃ z : Int32, z = (v3_10 + (1 : Int32)) := ⟨_, rfl⟩
                    try have gz_23 : z_23.toInt = v3_10.toInt + (1 : Int) := by rw [hz_23]; exact ti_add2 rfl rfl (by omega) (by omega)
                    refine lv_goto (tgt := 25) hx hb dX5_clashes_57 (by decide) ?_
                    exact ih_10 v1_10 (v3_10 + (1 : Int32)) (by rw [← hz_23]; omega) (by rw [← hz_23]; omega) (by rw [← hz_23]; omega) (hI_10.trans (by rw [f_X5_clashes_L25, if_neg c_11, if_neg c_15, if_pos c_22])) _ _ hP hD hS ls (lv_sub hl [1, 2, 3, 0] rfl)
                  · have tc_22 : ¬ z_21.toInt = (0 : Int) := by rw [hz_21]; exact q_ne c_22
                    refine lv_iinc (v := (v1_10 + (1 : Int32))) (lv' := [(1, .int (v1_10 + (1 : Int32))), (0, .ref zd), (2, .int v2_1), (3, .int v3_10)]) hx hb dX5_clashes_51 hl (k := 1) rfl rfl (by decide) rfl (fun ls hl => ?_)
                    obtain ⟨z_24, hz_24⟩ : ∃ z : Int32, z = (v1_10 + (1 : Int32)) := ⟨_, rfl⟩
                    try have gz_24 : z_24.toInt = v1_10.toInt + (1 : Int) := by rw [hz_24]; exact ti_add2 rfl rfl (by omega) (by omega)
                    refine lv_iinc (v := (v3_10 + (1 : Int32))) (lv' := [(3, .int (v3_10 + (1 : Int32))), (1, .int (v1_10 + (1 : Int32))), (0, .ref zd), (2, .int v2_1)]) hx hb dX5_clashes_54 hl (k := 3) rfl rfl (by decide) rfl (fun ls hl => ?_)
                    obtain ⟨z_25, hz_25⟩ : ∃ z : Int32, z = (v3_10 + (1 : Int32)) := ⟨_, rfl⟩
                    try have gz_25 : z_25.toInt = v3_10.toInt + (1 : Int) := by rw [hz_25]; exact ti_add2 rfl rfl (by omega) (by omega)
                    refine lv_goto (tgt := 25) hx hb dX5_clashes_57 (by decide) ?_
                    exact ih_10 (v1_10 + (1 : Int32)) (v3_10 + (1 : Int32)) (by rw [← hz_25]; omega) (by rw [← hz_25]; omega) (by rw [← hz_25]; omega) (hI_10.trans (by rw [f_X5_clashes_L25, if_neg c_11, if_neg c_15, if_neg c_22])) _ _ hP hD hS ls (lv_sub hl [2, 1, 3, 0] rfl)
          exact hloop_10 26 v1_1 (v2_1 + (1 : Int32)) (by rw [← hz_9]; omega) (by rw [← hz_9]; omega) (by rw [← hz_9]; omega) (hI_1.trans (by rw [f_X5_clashes_L4, if_neg c_2, if_neg c_5])) _ _ hP hD hS ls (lv_sub hl [1, 2, 3, 0] rfl)
  exact hloop_1 26 (0 : Int32) (1 : Int32) (by first | omega | exact (show 0 ≤ (1 : Int) by omega) | assumption | trivial) (by first | omega | exact (show (1 : Int) ≤ 25 by omega) | assumption | trivial) (by first | omega | exact (show (25 - (1 : Int)).toNat < 26 by omega)) (by rw [f_X5_clashes]) _ _ hP hD hS ls (lv_sub hl [2, 1, 0] rfl)
