theorem dX5_settle_0 : decode cX5_settle 0 = .ok (.aload_n 0, 1) := by decide +kernel
theorem dX5_settle_1 : decode cX5_settle 1 = .ok (.getfield 29, 3) := by decide +kernel
theorem in_X5_settle_X5 : ∀ w ∈ wsX50, w ∈ wsX5_settle := by decide +kernel
theorem m_X5_settle_1 : (.fieldLink RX5 29 "RedlineDesk" "ledger" "LRedlineDesk$Ledger;" : Cond) ∈ wsX5_settle := List.mem_of_getElem? (i := 1) (by decide +kernel)
theorem dX5_settle_4 : decode cX5_settle 4 = .ok (.iload_n 1, 1) := by decide +kernel
theorem dX5_settle_5 : decode cX5_settle 5 = .ok (.invokevirtual 167, 3) := by decide +kernel
set_option maxRecDepth 20000 in
theorem ggX5_settle_X1_names : GoodIn wsX5_settle wsX1_names := goodIn_r _ [7, 8, 15, 16, 17, 18, 19] (by decide +kernel) (by decide +kernel)
set_option maxRecDepth 20000 in
theorem gX5_settle_X1_names : GoodIn wsX5_settle (wsV RX5 167 RX1 yX1_names wsX1_names) := goodIn_app (goodIn_of _ (by decide +kernel)) ggX5_settle_X1_names
theorem dX5_settle_8 : decode cX5_settle 8 = .ok (.ifCond .ne 5, 3) := by decide +kernel
theorem dX5_settle_13 : decode cX5_settle 13 = .ok (.aload_n 0, 1) := by decide +kernel
theorem dX5_settle_14 : decode cX5_settle 14 = .ok (.getfield 29, 3) := by decide +kernel
theorem dX5_settle_17 : decode cX5_settle 17 = .ok (.getfield 170, 3) := by decide +kernel
theorem in_X5_settle_X1 : ∀ w ∈ wsX10, w ∈ wsX5_settle := by decide +kernel
theorem m_X5_settle_2 : (.fieldLink RX5 170 "RedlineDesk$Ledger" "state" "[I" : Cond) ∈ wsX5_settle := List.mem_of_getElem? (i := 2) (by decide +kernel)
theorem dX5_settle_20 : decode cX5_settle 20 = .ok (.iload_n 1, 1) := by decide +kernel
theorem dX5_settle_21 : decode cX5_settle 21 = .ok (.iaload, 1) := by decide +kernel
theorem dX5_settle_22 : decode cX5_settle 22 = .ok (.ifCond .eq 6, 3) := by decide +kernel
theorem dX5_settle_28 : decode cX5_settle 28 = .ok (.aload_n 0, 1) := by decide +kernel
theorem dX5_settle_29 : decode cX5_settle 29 = .ok (.getfield 29, 3) := by decide +kernel
theorem dX5_settle_32 : decode cX5_settle 32 = .ok (.getfield 170, 3) := by decide +kernel
theorem dX5_settle_35 : decode cX5_settle 35 = .ok (.iload_n 1, 1) := by decide +kernel
theorem dX5_settle_36 : decode cX5_settle 36 = .ok (.iload_n 2, 1) := by decide +kernel
theorem dX5_settle_37 : decode cX5_settle 37 = .ok (.ifCond .eq 7, 3) := by decide +kernel
theorem dX5_settle_44 : decode cX5_settle 44 = .ok (.iconst 2, 1) := by decide +kernel
theorem dX5_settle_45 : decode cX5_settle 45 = .ok (.iastore, 1) := by decide +kernel
theorem dX5_settle_46 : decode cX5_settle 46 = .ok (.iconst 1, 1) := by decide +kernel
theorem dX5_settle_47 : decode cX5_settle 47 = .ok (.ireturn, 1) := by decide +kernel
theorem dX5_settle_40 : decode cX5_settle 40 = .ok (.iconst 1, 1) := by decide +kernel
theorem dX5_settle_41 : decode cX5_settle 41 = .ok (.goto 4, 3) := by decide +kernel
theorem dX5_settle_25 : decode cX5_settle 25 = .ok (.bipush (-2), 2) := by decide +kernel
theorem dX5_settle_27 : decode cX5_settle 27 = .ok (.ireturn, 1) := by decide +kernel
theorem dX5_settle_11 : decode cX5_settle 11 = .ok (.iconst (-1), 1) := by decide +kernel
theorem dX5_settle_12 : decode cX5_settle 12 = .ok (.ireturn, 1) := by decide +kernel
def f_X5_settle (zg_state : Nat → Int32) (zg_size : Int32) (a_c : Int32) (a_b : Int32) : Int32 × (Nat → Int32) := if (f_X1_names zg_size a_c) = (0 : Int32) then ((-1 : Int32), zg_state) else if (zg_state (a_c).toNatClampNeg) = (0 : Int32) then if a_b = (0 : Int32) then ((1 : Int32), (upd zg_state (a_c).toNatClampNeg (2 : Int32))) else ((1 : Int32), (upd zg_state (a_c).toNatClampNeg (1 : Int32))) else ((-2 : Int32), zg_state)
set_option maxHeartbeats 4000000 in
set_option maxRecDepth 100000 in
theorem c_X5_settle (l : Launch) (dC : Nat → ClassId) (dI : Nat → Nat → Nat) (cI cJ : ClassId) (sz : Nat) (zd zg azg_kind azg_hand azg_state azg_look zt zr zw zv zk : Nat) (zg_kind zg_hand zg_state zg_look : Nat → Int32) (zg_size : Int32) (a_c : Int32) (a_b : Int32) : Met l yX5_settle wsX5_settle ({ frames := 1, cells := 0, slots := 0, locals := 21 } : Room) (va_Pc [.ref zd, .int a_c, .int a_b] (PreW dC dI cI cJ sz [(zd, .inr (5, [.ref zt, .ref zr, .ref zw, .ref zg, .ref zv, .ref zk])), (zg, .inr (1, [.ref azg_kind, .ref azg_hand, .ref azg_state, .ref azg_look, .int zg_size])), (azg_kind, .inl (cI, 25, .inl zg_kind)), (azg_hand, .inl (cI, 25, .inl zg_hand)), (azg_state, .inl (cI, 25, .inl zg_state)), (azg_look, .inl (cI, 25, .inl zg_look))])) (va_Qi (fun (r : Int32) (u : (Nat → Int32)) => r = (f_X5_settle zg_state zg_size a_c a_b).1 ∧ u = (f_X5_settle zg_state zg_size a_c a_b).2) (fun (u : (Nat → Int32)) t => PostW dC dI [(zd, .inr (5, [.ref zt, .ref zr, .ref zw, .ref zg, .ref zv, .ref zk])), (zg, .inr (1, [.ref azg_kind, .ref azg_hand, .ref azg_state, .ref azg_look, .int zg_size])), (azg_kind, .inl (cI, 25, .inl zg_kind)), (azg_hand, .inl (cI, 25, .inl zg_hand)), (azg_state, .inl (cI, 25, .inl u)), (azg_look, .inl (cI, 25, .inl zg_look))] t (va_A [(zd, .inr (5, [.ref zt, .ref zr, .ref zw, .ref zg, .ref zv, .ref zk])), (zg, .inr (1, [.ref azg_kind, .ref azg_hand, .ref azg_state, .ref azg_look, .int zg_size])), (azg_kind, .inl (cI, 25, .inl zg_kind)), (azg_hand, .inl (cI, 25, .inl zg_hand)), (azg_state, .inl (cI, 25, .inl zg_state)), (azg_look, .inl (cI, 25, .inl zg_look))] sz)) (va_A [(zd, .inr (5, [.ref zt, .ref zr, .ref zw, .ref zg, .ref zv, .ref zk])), (zg, .inr (1, [.ref azg_kind, .ref azg_hand, .ref azg_state, .ref azg_look, .int zg_size])), (azg_kind, .inl (cI, 25, .inl zg_kind)), (azg_hand, .inl (cI, 25, .inl zg_hand)), (azg_state, .inl (cI, 25, .inl zg_state)), (azg_look, .inl (cI, 25, .inl zg_look))] sz)) 0 0 (va_A [(zd, .inr (5, [.ref zt, .ref zr, .ref zw, .ref zg, .ref zv, .ref zk])), (zg, .inr (1, [.ref azg_kind, .ref azg_hand, .ref azg_state, .ref azg_look, .int zg_size])), (azg_kind, .inl (cI, 25, .inl zg_kind)), (azg_hand, .inl (cI, 25, .inl zg_hand)), (azg_state, .inl (cI, 25, .inl zg_state)), (azg_look, .inl (cI, 25, .inl zg_look))] sz) := by
  refine Met.ofW (cc := cX5_settle) (maxL := 3) (ret := (some .int)) (by decide) rfl ?_
  intro p e s m args below meth c s₁ B hml hv
  obtain ⟨rfl, hsz, hP, hK, hN, hD0⟩ := hv
  have hx := B.exec
  have hb := B.bytes
  have hr := B.returns
  have hts := atoms_spec (ws := wsX5_settle) B.pre
  have hown : s.vm.findClass RX5 = some m.cls := findClass_of_methodNamed B.named
  have hlocks := B.notSynchronized
  subst hsz
  have hD := hD0.self (sz := s.heap.size)
  generalize hAe : va_A [(zd, .inr (5, [.ref zt, .ref zr, .ref zw, .ref zg, .ref zv, .ref zk])), (zg, .inr (1, [.ref azg_kind, .ref azg_hand, .ref azg_state, .ref azg_look, .int zg_size])), (azg_kind, .inl (cI, 25, .inl zg_kind)), (azg_hand, .inl (cI, 25, .inl zg_hand)), (azg_state, .inl (cI, 25, .inl zg_state)), (azg_look, .inl (cI, 25, .inl zg_look))] s.heap.size = A at hD ⊢
  have hA : ∀ q : Nat, s.heap.size ≤ q → A q := fun q h => by rw [← hAe]; exact Or.inr h
  have hS : va_S A s.heap s.heap [] := va_S.rf
  have hP : va_P (dC, dI) vwCl [(zd, .inr (5, [.ref zt, .ref zr, .ref zw, .ref zg, .ref zv, .ref zk])), (zg, .inr (1, [.ref azg_kind, .ref azg_hand, .ref azg_state, .ref azg_look, .int zg_size])), (azg_kind, .inl (cI, 25, .inl zg_kind)), (azg_hand, .inl (cI, 25, .inl zg_hand)), (azg_state, .inl (cI, 25, .inl zg_state)), (azg_look, .inl (cI, 25, .inl zg_look))] s.heap := hP
  have hl := lv_entry ([.ref zd, .int a_c, .int a_b]) (n := 3) (Nat.le_of_ble_eq_true rfl)
  rw [lg_entry_eq]
  generalize (lg_sl ([.ref zd, .int a_c, .int a_b]) ++ List.replicate (3 - (lg_sl ([.ref zd, .int a_c, .int a_b])).length) Slot.unset).toArray = ls at hl ⊢
  have hl : lv_has ls 3 [(0, .ref zd), (1, .int a_c), (2, .int a_b)] := hl
  refine lv_aload_n hx hb dX5_settle_0 rfl (lv_at hl 0 rfl) ?_
  refine va_get (D := (dC, dI)) (ci := 5) (v := .ref zg) (C := RX5) (T := TX5) (N := 6) hx hb hts in_X5_settle_X5 hown hK hP 0 rfl rfl 3 (by decide) (hts _ m_X5_settle_1) (fun _ h9 => h9) rfl dX5_settle_1 ?_
  refine lv_iload_n hx hb dX5_settle_4 rfl (lv_at hl 1 rfl) ?_
  have hPc := hP.sub (ws' := [(zg, .inr (1, [.ref azg_kind, .ref azg_hand, .ref azg_state, .ref azg_look, .int zg_size])), (azg_kind, .inl (cI, 25, .inl zg_kind)), (azg_hand, .inl (cI, 25, .inl zg_hand)), (azg_state, .inl (cI, 25, .inl zg_state)), (azg_look, .inl (cI, 25, .inl zg_look))]) [1, 2, 3, 4, 5] rfl
  have hDc := hD.sub (ws' := [(zg, .inr (1, [.ref azg_kind, .ref azg_hand, .ref azg_state, .ref azg_look, .int zg_size])), (azg_kind, .inl (cI, 25, .inl zg_kind)), (azg_hand, .inl (cI, 25, .inl zg_hand)), (azg_state, .inl (cI, 25, .inl zg_state)), (azg_look, .inl (cI, 25, .inl zg_look))]) [1, 2, 3, 4, 5] (by decide) rfl
  refine va_calli (va_runV (As := [.int a_c]) (rest := []) ⟨hx, hb, hml, hown, hts⟩ (c_X1_names l dC dI cI cJ s.heap.size zg azg_kind azg_hand azg_state azg_look zg_kind zg_hand zg_state zg_look zg_size a_c) (cwV 1 hts gX5_settle_X1_names rfl rfl rfl (by decide +kernel) ⟨Nat.le_of_ble_eq_true rfl, Nat.le_of_ble_eq_true rfl⟩) ⟨fun a U g mk q => ⟨q.1, PreW.call g mk a q.2⟩, va_recv hK hP (ci := 1) (q0 := 1) rfl rfl, fun U hU hW => ⟨rfl, PreW.mk2 hU hW hPc hK hN (hDc.weaken (fun _ _ _ _ => trivial))⟩⟩ rfl rfl hl.1 rfl (lv_room (Nat.le_of_ble_eq_true rfl)) dX5_settle_5 ⟨Nat.le_of_ble_eq_true rfl, Nat.le_of_ble_eq_true rfl⟩) hS (fun q hq h => absurd hq (Nat.not_lt.mpr h)) (fun q h => hA q (Nat.le_trans hS.1 h)) (fun r_1 _u t H1 locs ht hvm hw hB hz1 hk1 hS => ?_)
  have hP := va_ro hP hk1
  generalize H1 = H at hP hS ⊢
  have hw : r_1 = f_X1_names zg_size a_c := hw
  subst hw
  obtain ⟨z_2, hz_2⟩ : ∃ z : Int32, z = f_X1_names zg_size a_c := ⟨_, rfl⟩
  refine lv_if_ne (tgt := 13) hx hb dX5_settle_8 (by decide) (fun c_3 => ?_) (fun c_3 => ?_)
  · have tc_3 : ¬ z_2.toInt = (0 : Int) := by rw [hz_2]; exact q_ne c_3
    obtain ⟨b_4, b_5, b_6⟩ := names_in c_3
    refine lv_aload_n hx hb dX5_settle_13 rfl (lv_at hl 0 rfl) ?_
    refine va_get (D := (dC, dI)) (ci := 5) (v := .ref zg) (C := RX5) (T := TX5) (N := 6) hx hb hts in_X5_settle_X5 hown hK hP 0 rfl rfl 3 (by decide) (hts _ m_X5_settle_1) (fun _ h9 => h9) rfl dX5_settle_14 ?_
    refine va_get (D := (dC, dI)) (ci := 1) (v := .ref azg_state) (C := RX1) (T := TX1) (N := 5) hx hb hts in_X5_settle_X1 hown hK hP 1 rfl rfl 2 (by decide) (hts _ m_X5_settle_2) (fun _ h9 => h9) rfl dX5_settle_17 ?_
    refine lv_iload_n hx hb dX5_settle_20 rfl (lv_at hl 1 rfl) ?_
    refine va_iald (q0 := 4) (t0 := 0) (n := 25) (f := zg_state) hx hb hK hP rfl rfl (vp_in_iff.mpr ⟨by omega, by omega⟩) dX5_settle_21 ?_
    refine lv_if_eq (tgt := 28) hx hb dX5_settle_22 (by decide) (fun c_7 => ?_) (fun c_7 => ?_)
    · refine lv_aload_n hx hb dX5_settle_28 rfl (lv_at hl 0 rfl) ?_
      refine va_get (D := (dC, dI)) (ci := 5) (v := .ref zg) (C := RX5) (T := TX5) (N := 6) hx hb hts in_X5_settle_X5 hown hK hP 0 rfl rfl 3 (by decide) (hts _ m_X5_settle_1) (fun _ h9 => h9) rfl dX5_settle_29 ?_
      refine va_get (D := (dC, dI)) (ci := 1) (v := .ref azg_state) (C := RX1) (T := TX1) (N := 5) hx hb hts in_X5_settle_X1 hown hK hP 1 rfl rfl 2 (by decide) (hts _ m_X5_settle_2) (fun _ h9 => h9) rfl dX5_settle_32 ?_
      refine lv_iload_n hx hb dX5_settle_35 rfl (lv_at hl 1 rfl) ?_
      refine lv_iload_n hx hb dX5_settle_36 rfl (lv_at hl 2 rfl) ?_
      refine lv_if_eq (tgt := 44) hx hb dX5_settle_37 (by decide) (fun c_8 => ?_) (fun c_8 => ?_)
      · have tc_8 : a_b.toInt = (0 : Int) := q_eq c_8
        refine lv_iconst (v := (2 : Int32)) hx hb dX5_settle_44 (by decide) ?_
        refine va_iast (q0 := 4) (t0 := 0) (n := 25) (f := zg_state) hx hb hK hP hD hS rfl rfl (vp_in_iff.mpr ⟨by omega, by omega⟩) dX5_settle_45 (fun H locs hP hD hS => ?_)
        have hP : va_P (dC, dI) vwCl [(zd, .inr (5, [.ref zt, .ref zr, .ref zw, .ref zg, .ref zv, .ref zk])), (zg, .inr (1, [.ref azg_kind, .ref azg_hand, .ref azg_state, .ref azg_look, .int zg_size])), (azg_kind, .inl (cI, 25, .inl zg_kind)), (azg_hand, .inl (cI, 25, .inl zg_hand)), (azg_state, .inl (cI, 25, .inl (upd zg_state (a_c).toNatClampNeg (2 : Int32)))), (azg_look, .inl (cI, 25, .inl zg_look))] H := hP
        have hD : va_D A [(zd, .inr (5, [.ref zt, .ref zr, .ref zw, .ref zg, .ref zv, .ref zk])), (zg, .inr (1, [.ref azg_kind, .ref azg_hand, .ref azg_state, .ref azg_look, .int zg_size])), (azg_kind, .inl (cI, 25, .inl zg_kind)), (azg_hand, .inl (cI, 25, .inl zg_hand)), (azg_state, .inl (cI, 25, .inl (upd zg_state (a_c).toNatClampNeg (2 : Int32)))), (azg_look, .inl (cI, 25, .inl zg_look))] := hD
        refine lv_iconst (v := (1 : Int32)) hx hb dX5_settle_46 (by decide) ?_
        have hE : f_X5_settle zg_state zg_size a_c a_b = ((1 : Int32), (upd zg_state (a_c).toNatClampNeg (2 : Int32))) := (by rw [f_X5_settle, if_neg c_3, if_pos c_7, if_pos c_8])
        exact W.iret (v := (1 : Int32)) hx hb hr (fun t ht hW => ⟨⟨(1 : Int32), ((upd zg_state (a_c).toNatClampNeg (2 : Int32))), rfl, ⟨by rw [hE], by rw [hE]⟩, ⟨by rw [ht]; exact hP, hD⟩⟩, hS.F ht⟩) hS.2.2 dX5_settle_47
      · have tc_8 : ¬ a_b.toInt = (0 : Int) := q_ne c_8
        refine lv_iconst (v := (1 : Int32)) hx hb dX5_settle_40 (by decide) ?_
        refine lv_goto (tgt := 45) hx hb dX5_settle_41 (by decide) ?_
        refine va_iast (q0 := 4) (t0 := 0) (n := 25) (f := zg_state) hx hb hK hP hD hS rfl rfl (vp_in_iff.mpr ⟨by omega, by omega⟩) dX5_settle_45 (fun H locs hP hD hS => ?_)
        have hP : va_P (dC, dI) vwCl [(zd, .inr (5, [.ref zt, .ref zr, .ref zw, .ref zg, .ref zv, .ref zk])), (zg, .inr (1, [.ref azg_kind, .ref azg_hand, .ref azg_state, .ref azg_look, .int zg_size])), (azg_kind, .inl (cI, 25, .inl zg_kind)), (azg_hand, .inl (cI, 25, .inl zg_hand)), (azg_state, .inl (cI, 25, .inl (upd zg_state (a_c).toNatClampNeg (1 : Int32)))), (azg_look, .inl (cI, 25, .inl zg_look))] H := hP
        have hD : va_D A [(zd, .inr (5, [.ref zt, .ref zr, .ref zw, .ref zg, .ref zv, .ref zk])), (zg, .inr (1, [.ref azg_kind, .ref azg_hand, .ref azg_state, .ref azg_look, .int zg_size])), (azg_kind, .inl (cI, 25, .inl zg_kind)), (azg_hand, .inl (cI, 25, .inl zg_hand)), (azg_state, .inl (cI, 25, .inl (upd zg_state (a_c).toNatClampNeg (1 : Int32)))), (azg_look, .inl (cI, 25, .inl zg_look))] := hD
        refine lv_iconst (v := (1 : Int32)) hx hb dX5_settle_46 (by decide) ?_
        have hE : f_X5_settle zg_state zg_size a_c a_b = ((1 : Int32), (upd zg_state (a_c).toNatClampNeg (1 : Int32))) := (by rw [f_X5_settle, if_neg c_3, if_pos c_7, if_neg c_8])
        exact W.iret (v := (1 : Int32)) hx hb hr (fun t ht hW => ⟨⟨(1 : Int32), ((upd zg_state (a_c).toNatClampNeg (1 : Int32))), rfl, ⟨by rw [hE], by rw [hE]⟩, ⟨by rw [ht]; exact hP, hD⟩⟩, hS.F ht⟩) hS.2.2 dX5_settle_47
    · refine lv_bipush (v := (-2 : Int32)) hx hb dX5_settle_25 (by decide) ?_
      have hE : f_X5_settle zg_state zg_size a_c a_b = ((-2 : Int32), zg_state) := (by rw [f_X5_settle, if_neg c_3, if_neg c_7])
      exact W.iret (v := (-2 : Int32)) hx hb hr (fun t ht hW => ⟨⟨(-2 : Int32), (zg_state), rfl, ⟨by rw [hE], by rw [hE]⟩, ⟨by rw [ht]; exact hP, hD⟩⟩, hS.F ht⟩) hS.2.2 dX5_settle_27
  · have tc_3 : z_2.toInt = (0 : Int) := by rw [hz_2]; exact q_eq c_3
    refine lv_iconst (v := (-1 : Int32)) hx hb dX5_settle_11 (by decide) ?_
    have hE : f_X5_settle zg_state zg_size a_c a_b = ((-1 : Int32), zg_state) := (by rw [f_X5_settle, if_pos c_3])
    exact W.iret (v := (-1 : Int32)) hx hb hr (fun t ht hW => ⟨⟨(-1 : Int32), (zg_state), rfl, ⟨by rw [hE], by rw [hE]⟩, ⟨by rw [ht]; exact hP, hD⟩⟩, hS.F ht⟩) hS.2.2 dX5_settle_12
theorem dX5_clashRule_0 : decode cX5_clashRule 0 = .ok (.aload_n 0, 1) := by decide +kernel
theorem dX5_clashRule_1 : decode cX5_clashRule 1 = .ok (.getfield 29, 3) := by decide +kernel
theorem in_X5_clashRule_X5 : ∀ w ∈ wsX50, w ∈ wsX5_clashRule := by decide +kernel
theorem m_X5_clashRule_1 : (.fieldLink RX5 29 "RedlineDesk" "ledger" "LRedlineDesk$Ledger;" : Cond) ∈ wsX5_clashRule := List.mem_of_getElem? (i := 1) (by decide +kernel)
theorem dX5_clashRule_4 : decode cX5_clashRule 4 = .ok (.getfield 173, 3) := by decide +kernel
theorem in_X5_clashRule_X1 : ∀ w ∈ wsX10, w ∈ wsX5_clashRule := by decide +kernel
theorem m_X5_clashRule_2 : (.fieldLink RX5 173 "RedlineDesk$Ledger" "kind" "[I" : Cond) ∈ wsX5_clashRule := List.mem_of_getElem? (i := 2) (by decide +kernel)
theorem dX5_clashRule_7 : decode cX5_clashRule 7 = .ok (.iload_n 1, 1) := by decide +kernel
theorem dX5_clashRule_8 : decode cX5_clashRule 8 = .ok (.iaload, 1) := by decide +kernel
theorem dX5_clashRule_9 : decode cX5_clashRule 9 = .ok (.aload_n 0, 1) := by decide +kernel
theorem dX5_clashRule_10 : decode cX5_clashRule 10 = .ok (.getfield 29, 3) := by decide +kernel
theorem dX5_clashRule_13 : decode cX5_clashRule 13 = .ok (.getfield 173, 3) := by decide +kernel
theorem dX5_clashRule_16 : decode cX5_clashRule 16 = .ok (.iload_n 2, 1) := by decide +kernel
theorem dX5_clashRule_17 : decode cX5_clashRule 17 = .ok (.iaload, 1) := by decide +kernel
theorem dX5_clashRule_18 : decode cX5_clashRule 18 = .ok (.invokestatic 245, 3) := by decide +kernel
theorem m_X5_clashRule_3 : (.methodLink RX5 245 Lib.Math.min.name : Cond) ∈ wsX5_clashRule := List.mem_of_getElem? (i := 3) (by decide +kernel)
theorem m_X5_clashRule_4 : (.static Lib.Math.min.name : Cond) ∈ wsX5_clashRule := List.mem_of_getElem? (i := 4) (by decide +kernel)
theorem m_X5_clashRule_5 : (.initialized "java/lang/Math" : Cond) ∈ wsX5_clashRule := List.mem_of_getElem? (i := 5) (by decide +kernel)
theorem m_X5_clashRule_6 : (.code Lib.Math.min.name Lib.Math.min.code 2 (some .int) : Cond) ∈ wsX5_clashRule := List.mem_of_getElem? (i := 6) (by decide +kernel)
theorem dX5_clashRule_21 : decode cX5_clashRule 21 = .ok (.istore_n 3, 1) := by decide +kernel
theorem dX5_clashRule_22 : decode cX5_clashRule 22 = .ok (.aload_n 0, 1) := by decide +kernel
theorem dX5_clashRule_23 : decode cX5_clashRule 23 = .ok (.getfield 29, 3) := by decide +kernel
theorem dX5_clashRule_26 : decode cX5_clashRule 26 = .ok (.getfield 173, 3) := by decide +kernel
theorem dX5_clashRule_29 : decode cX5_clashRule 29 = .ok (.iload_n 1, 1) := by decide +kernel
theorem dX5_clashRule_30 : decode cX5_clashRule 30 = .ok (.iaload, 1) := by decide +kernel
theorem dX5_clashRule_31 : decode cX5_clashRule 31 = .ok (.aload_n 0, 1) := by decide +kernel
theorem dX5_clashRule_32 : decode cX5_clashRule 32 = .ok (.getfield 29, 3) := by decide +kernel
theorem dX5_clashRule_35 : decode cX5_clashRule 35 = .ok (.getfield 173, 3) := by decide +kernel
theorem dX5_clashRule_38 : decode cX5_clashRule 38 = .ok (.iload_n 2, 1) := by decide +kernel
theorem dX5_clashRule_39 : decode cX5_clashRule 39 = .ok (.iaload, 1) := by decide +kernel
theorem dX5_clashRule_40 : decode cX5_clashRule 40 = .ok (.invokestatic 250, 3) := by decide +kernel
theorem m_X5_clashRule_7 : (.methodLink RX5 250 Lib.Math.max.name : Cond) ∈ wsX5_clashRule := List.mem_of_getElem? (i := 7) (by decide +kernel)
theorem m_X5_clashRule_8 : (.static Lib.Math.max.name : Cond) ∈ wsX5_clashRule := List.mem_of_getElem? (i := 8) (by decide +kernel)
theorem m_X5_clashRule_9 : (.code Lib.Math.max.name Lib.Math.max.code 2 (some .int) : Cond) ∈ wsX5_clashRule := List.mem_of_getElem? (i := 9) (by decide +kernel)
theorem dX5_clashRule_43 : decode cX5_clashRule 43 = .ok (.istore 4, 2) := by decide +kernel
theorem dX5_clashRule_45 : decode cX5_clashRule 45 = .ok (.iload_n 3, 1) := by decide +kernel
theorem dX5_clashRule_46 : decode cX5_clashRule 46 = .ok (.ifCond .ne 11, 3) := by decide +kernel
theorem dX5_clashRule_57 : decode cX5_clashRule 57 = .ok (.iload_n 3, 1) := by decide +kernel
theorem dX5_clashRule_58 : decode cX5_clashRule 58 = .ok (.iconst 2, 1) := by decide +kernel
theorem dX5_clashRule_59 : decode cX5_clashRule 59 = .ok (.if_icmp .ne 11, 3) := by decide +kernel
theorem dX5_clashRule_70 : decode cX5_clashRule 70 = .ok (.iload_n 3, 1) := by decide +kernel
theorem dX5_clashRule_71 : decode cX5_clashRule 71 = .ok (.iconst 3, 1) := by decide +kernel
theorem dX5_clashRule_72 : decode cX5_clashRule 72 = .ok (.if_icmp .ne 32, 3) := by decide +kernel
theorem dX5_clashRule_104 : decode cX5_clashRule 104 = .ok (.iload_n 3, 1) := by decide +kernel
theorem dX5_clashRule_105 : decode cX5_clashRule 105 = .ok (.iconst 1, 1) := by decide +kernel
theorem dX5_clashRule_106 : decode cX5_clashRule 106 = .ok (.if_icmp .ne 17, 3) := by decide +kernel
theorem dX5_clashRule_123 : decode cX5_clashRule 123 = .ok (.iconst 0, 1) := by decide +kernel
theorem dX5_clashRule_124 : decode cX5_clashRule 124 = .ok (.ireturn, 1) := by decide +kernel
theorem dX5_clashRule_109 : decode cX5_clashRule 109 = .ok (.iload 4, 2) := by decide +kernel
theorem dX5_clashRule_111 : decode cX5_clashRule 111 = .ok (.iconst 3, 1) := by decide +kernel
theorem dX5_clashRule_112 : decode cX5_clashRule 112 = .ok (.if_icmp .eq 9, 3) := by decide +kernel
theorem dX5_clashRule_121 : decode cX5_clashRule 121 = .ok (.iconst 4, 1) := by decide +kernel
theorem dX5_clashRule_122 : decode cX5_clashRule 122 = .ok (.ireturn, 1) := by decide +kernel
theorem dX5_clashRule_115 : decode cX5_clashRule 115 = .ok (.iload 4, 2) := by decide +kernel
theorem dX5_clashRule_117 : decode cX5_clashRule 117 = .ok (.iconst 4, 1) := by decide +kernel
theorem dX5_clashRule_118 : decode cX5_clashRule 118 = .ok (.if_icmp .ne 5, 3) := by decide +kernel
theorem dX5_clashRule_75 : decode cX5_clashRule 75 = .ok (.iload 4, 2) := by decide +kernel
theorem dX5_clashRule_77 : decode cX5_clashRule 77 = .ok (.iconst 3, 1) := by decide +kernel
theorem dX5_clashRule_78 : decode cX5_clashRule 78 = .ok (.if_icmp .ne 26, 3) := by decide +kernel
theorem dX5_clashRule_81 : decode cX5_clashRule 81 = .ok (.aload_n 0, 1) := by decide +kernel
theorem dX5_clashRule_82 : decode cX5_clashRule 82 = .ok (.getfield 29, 3) := by decide +kernel
theorem dX5_clashRule_85 : decode cX5_clashRule 85 = .ok (.getfield 182, 3) := by decide +kernel
theorem m_X5_clashRule_10 : (.fieldLink RX5 182 "RedlineDesk$Ledger" "look" "[I" : Cond) ∈ wsX5_clashRule := List.mem_of_getElem? (i := 10) (by decide +kernel)
theorem dX5_clashRule_88 : decode cX5_clashRule 88 = .ok (.iload_n 1, 1) := by decide +kernel
theorem dX5_clashRule_89 : decode cX5_clashRule 89 = .ok (.iaload, 1) := by decide +kernel
theorem dX5_clashRule_90 : decode cX5_clashRule 90 = .ok (.aload_n 0, 1) := by decide +kernel
theorem dX5_clashRule_91 : decode cX5_clashRule 91 = .ok (.getfield 29, 3) := by decide +kernel
theorem dX5_clashRule_94 : decode cX5_clashRule 94 = .ok (.getfield 182, 3) := by decide +kernel
theorem dX5_clashRule_97 : decode cX5_clashRule 97 = .ok (.iload_n 2, 1) := by decide +kernel
theorem dX5_clashRule_98 : decode cX5_clashRule 98 = .ok (.iaload, 1) := by decide +kernel
theorem dX5_clashRule_99 : decode cX5_clashRule 99 = .ok (.if_icmp .eq 5, 3) := by decide +kernel
theorem dX5_clashRule_102 : decode cX5_clashRule 102 = .ok (.iconst 3, 1) := by decide +kernel
theorem dX5_clashRule_103 : decode cX5_clashRule 103 = .ok (.ireturn, 1) := by decide +kernel
theorem dX5_clashRule_62 : decode cX5_clashRule 62 = .ok (.iload 4, 2) := by decide +kernel
theorem dX5_clashRule_64 : decode cX5_clashRule 64 = .ok (.iconst 2, 1) := by decide +kernel
theorem dX5_clashRule_65 : decode cX5_clashRule 65 = .ok (.if_icmp .ne 5, 3) := by decide +kernel
theorem dX5_clashRule_68 : decode cX5_clashRule 68 = .ok (.iconst 2, 1) := by decide +kernel
theorem dX5_clashRule_69 : decode cX5_clashRule 69 = .ok (.ireturn, 1) := by decide +kernel
theorem dX5_clashRule_49 : decode cX5_clashRule 49 = .ok (.iload 4, 2) := by decide +kernel
theorem dX5_clashRule_51 : decode cX5_clashRule 51 = .ok (.iconst 1, 1) := by decide +kernel
theorem dX5_clashRule_52 : decode cX5_clashRule 52 = .ok (.if_icmp .ne 5, 3) := by decide +kernel
theorem dX5_clashRule_55 : decode cX5_clashRule 55 = .ok (.iconst 1, 1) := by decide +kernel
theorem dX5_clashRule_56 : decode cX5_clashRule 56 = .ok (.ireturn, 1) := by decide +kernel
def f_X5_clashRule (zg_kind : Nat → Int32) (zg_look : Nat → Int32) (a_a : Int32) (a_b : Int32) : Int32 := if (if (zg_kind (a_b).toNatClampNeg) < (zg_kind (a_a).toNatClampNeg) then (zg_kind (a_b).toNatClampNeg) else (zg_kind (a_a).toNatClampNeg)) = (0 : Int32) then if (if (zg_kind (a_a).toNatClampNeg) < (zg_kind (a_b).toNatClampNeg) then (zg_kind (a_b).toNatClampNeg) else (zg_kind (a_a).toNatClampNeg)) = (1 : Int32) then (1 : Int32) else if (if (zg_kind (a_b).toNatClampNeg) < (zg_kind (a_a).toNatClampNeg) then (zg_kind (a_b).toNatClampNeg) else (zg_kind (a_a).toNatClampNeg)) = (2 : Int32) then if (if (zg_kind (a_a).toNatClampNeg) < (zg_kind (a_b).toNatClampNeg) then (zg_kind (a_b).toNatClampNeg) else (zg_kind (a_a).toNatClampNeg)) = (2 : Int32) then (2 : Int32) else if (if (zg_kind (a_b).toNatClampNeg) < (zg_kind (a_a).toNatClampNeg) then (zg_kind (a_b).toNatClampNeg) else (zg_kind (a_a).toNatClampNeg)) = (3 : Int32) then if (if (zg_kind (a_a).toNatClampNeg) < (zg_kind (a_b).toNatClampNeg) then (zg_kind (a_b).toNatClampNeg) else (zg_kind (a_a).toNatClampNeg)) = (3 : Int32) then if (zg_look (a_a).toNatClampNeg) = (zg_look (a_b).toNatClampNeg) then if (if (zg_kind (a_b).toNatClampNeg) < (zg_kind (a_a).toNatClampNeg) then (zg_kind (a_b).toNatClampNeg) else (zg_kind (a_a).toNatClampNeg)) = (1 : Int32) then if (if (zg_kind (a_a).toNatClampNeg) < (zg_kind (a_b).toNatClampNeg) then (zg_kind (a_b).toNatClampNeg) else (zg_kind (a_a).toNatClampNeg)) = (3 : Int32) then (4 : Int32) else if (if (zg_kind (a_a).toNatClampNeg) < (zg_kind (a_b).toNatClampNeg) then (zg_kind (a_b).toNatClampNeg) else (zg_kind (a_a).toNatClampNeg)) = (4 : Int32) then (4 : Int32) else (0 : Int32) else (0 : Int32) else (3 : Int32) else if (if (zg_kind (a_b).toNatClampNeg) < (zg_kind (a_a).toNatClampNeg) then (zg_kind (a_b).toNatClampNeg) else (zg_kind (a_a).toNatClampNeg)) = (1 : Int32) then if (if (zg_kind (a_a).toNatClampNeg) < (zg_kind (a_b).toNatClampNeg) then (zg_kind (a_b).toNatClampNeg) else (zg_kind (a_a).toNatClampNeg)) = (3 : Int32) then (4 : Int32) else if (if (zg_kind (a_a).toNatClampNeg) < (zg_kind (a_b).toNatClampNeg) then (zg_kind (a_b).toNatClampNeg) else (zg_kind (a_a).toNatClampNeg)) = (4 : Int32) then (4 : Int32) else (0 : Int32) else (0 : Int32) else if (if (zg_kind (a_b).toNatClampNeg) < (zg_kind (a_a).toNatClampNeg) then (zg_kind (a_b).toNatClampNeg) else (zg_kind (a_a).toNatClampNeg)) = (1 : Int32) then if (if (zg_kind (a_a).toNatClampNeg) < (zg_kind (a_b).toNatClampNeg) then (zg_kind (a_b).toNatClampNeg) else (zg_kind (a_a).toNatClampNeg)) = (3 : Int32) then (4 : Int32) else if (if (zg_kind (a_a).toNatClampNeg) < (zg_kind (a_b).toNatClampNeg) then (zg_kind (a_b).toNatClampNeg) else (zg_kind (a_a).toNatClampNeg)) = (4 : Int32) then (4 : Int32) else (0 : Int32) else (0 : Int32) else if (if (zg_kind (a_b).toNatClampNeg) < (zg_kind (a_a).toNatClampNeg) then (zg_kind (a_b).toNatClampNeg) else (zg_kind (a_a).toNatClampNeg)) = (3 : Int32) then if (if (zg_kind (a_a).toNatClampNeg) < (zg_kind (a_b).toNatClampNeg) then (zg_kind (a_b).toNatClampNeg) else (zg_kind (a_a).toNatClampNeg)) = (3 : Int32) then if (zg_look (a_a).toNatClampNeg) = (zg_look (a_b).toNatClampNeg) then if (if (zg_kind (a_b).toNatClampNeg) < (zg_kind (a_a).toNatClampNeg) then (zg_kind (a_b).toNatClampNeg) else (zg_kind (a_a).toNatClampNeg)) = (1 : Int32) then if (if (zg_kind (a_a).toNatClampNeg) < (zg_kind (a_b).toNatClampNeg) then (zg_kind (a_b).toNatClampNeg) else (zg_kind (a_a).toNatClampNeg)) = (3 : Int32) then (4 : Int32) else if (if (zg_kind (a_a).toNatClampNeg) < (zg_kind (a_b).toNatClampNeg) then (zg_kind (a_b).toNatClampNeg) else (zg_kind (a_a).toNatClampNeg)) = (4 : Int32) then (4 : Int32) else (0 : Int32) else (0 : Int32) else (3 : Int32) else if (if (zg_kind (a_b).toNatClampNeg) < (zg_kind (a_a).toNatClampNeg) then (zg_kind (a_b).toNatClampNeg) else (zg_kind (a_a).toNatClampNeg)) = (1 : Int32) then if (if (zg_kind (a_a).toNatClampNeg) < (zg_kind (a_b).toNatClampNeg) then (zg_kind (a_b).toNatClampNeg) else (zg_kind (a_a).toNatClampNeg)) = (3 : Int32) then (4 : Int32) else if (if (zg_kind (a_a).toNatClampNeg) < (zg_kind (a_b).toNatClampNeg) then (zg_kind (a_b).toNatClampNeg) else (zg_kind (a_a).toNatClampNeg)) = (4 : Int32) then (4 : Int32) else (0 : Int32) else (0 : Int32) else if (if (zg_kind (a_b).toNatClampNeg) < (zg_kind (a_a).toNatClampNeg) then (zg_kind (a_b).toNatClampNeg) else (zg_kind (a_a).toNatClampNeg)) = (1 : Int32) then if (if (zg_kind (a_a).toNatClampNeg) < (zg_kind (a_b).toNatClampNeg) then (zg_kind (a_b).toNatClampNeg) else (zg_kind (a_a).toNatClampNeg)) = (3 : Int32) then (4 : Int32) else if (if (zg_kind (a_a).toNatClampNeg) < (zg_kind (a_b).toNatClampNeg) then (zg_kind (a_b).toNatClampNeg) else (zg_kind (a_a).toNatClampNeg)) = (4 : Int32) then (4 : Int32) else (0 : Int32) else (0 : Int32) else if (if (zg_kind (a_b).toNatClampNeg) < (zg_kind (a_a).toNatClampNeg) then (zg_kind (a_b).toNatClampNeg) else (zg_kind (a_a).toNatClampNeg)) = (2 : Int32) then if (if (zg_kind (a_a).toNatClampNeg) < (zg_kind (a_b).toNatClampNeg) then (zg_kind (a_b).toNatClampNeg) else (zg_kind (a_a).toNatClampNeg)) = (2 : Int32) then (2 : Int32) else if (if (zg_kind (a_b).toNatClampNeg) < (zg_kind (a_a).toNatClampNeg) then (zg_kind (a_b).toNatClampNeg) else (zg_kind (a_a).toNatClampNeg)) = (3 : Int32) then if (if (zg_kind (a_a).toNatClampNeg) < (zg_kind (a_b).toNatClampNeg) then (zg_kind (a_b).toNatClampNeg) else (zg_kind (a_a).toNatClampNeg)) = (3 : Int32) then if (zg_look (a_a).toNatClampNeg) = (zg_look (a_b).toNatClampNeg) then if (if (zg_kind (a_b).toNatClampNeg) < (zg_kind (a_a).toNatClampNeg) then (zg_kind (a_b).toNatClampNeg) else (zg_kind (a_a).toNatClampNeg)) = (1 : Int32) then if (if (zg_kind (a_a).toNatClampNeg) < (zg_kind (a_b).toNatClampNeg) then (zg_kind (a_b).toNatClampNeg) else (zg_kind (a_a).toNatClampNeg)) = (3 : Int32) then (4 : Int32) else if (if (zg_kind (a_a).toNatClampNeg) < (zg_kind (a_b).toNatClampNeg) then (zg_kind (a_b).toNatClampNeg) else (zg_kind (a_a).toNatClampNeg)) = (4 : Int32) then (4 : Int32) else (0 : Int32) else (0 : Int32) else (3 : Int32) else if (if (zg_kind (a_b).toNatClampNeg) < (zg_kind (a_a).toNatClampNeg) then (zg_kind (a_b).toNatClampNeg) else (zg_kind (a_a).toNatClampNeg)) = (1 : Int32) then if (if (zg_kind (a_a).toNatClampNeg) < (zg_kind (a_b).toNatClampNeg) then (zg_kind (a_b).toNatClampNeg) else (zg_kind (a_a).toNatClampNeg)) = (3 : Int32) then (4 : Int32) else if (if (zg_kind (a_a).toNatClampNeg) < (zg_kind (a_b).toNatClampNeg) then (zg_kind (a_b).toNatClampNeg) else (zg_kind (a_a).toNatClampNeg)) = (4 : Int32) then (4 : Int32) else (0 : Int32) else (0 : Int32) else if (if (zg_kind (a_b).toNatClampNeg) < (zg_kind (a_a).toNatClampNeg) then (zg_kind (a_b).toNatClampNeg) else (zg_kind (a_a).toNatClampNeg)) = (1 : Int32) then if (if (zg_kind (a_a).toNatClampNeg) < (zg_kind (a_b).toNatClampNeg) then (zg_kind (a_b).toNatClampNeg) else (zg_kind (a_a).toNatClampNeg)) = (3 : Int32) then (4 : Int32) else if (if (zg_kind (a_a).toNatClampNeg) < (zg_kind (a_b).toNatClampNeg) then (zg_kind (a_b).toNatClampNeg) else (zg_kind (a_a).toNatClampNeg)) = (4 : Int32) then (4 : Int32) else (0 : Int32) else (0 : Int32) else if (if (zg_kind (a_b).toNatClampNeg) < (zg_kind (a_a).toNatClampNeg) then (zg_kind (a_b).toNatClampNeg) else (zg_kind (a_a).toNatClampNeg)) = (3 : Int32) then if (if (zg_kind (a_a).toNatClampNeg) < (zg_kind (a_b).toNatClampNeg) then (zg_kind (a_b).toNatClampNeg) else (zg_kind (a_a).toNatClampNeg)) = (3 : Int32) then if (zg_look (a_a).toNatClampNeg) = (zg_look (a_b).toNatClampNeg) then if (if (zg_kind (a_b).toNatClampNeg) < (zg_kind (a_a).toNatClampNeg) then (zg_kind (a_b).toNatClampNeg) else (zg_kind (a_a).toNatClampNeg)) = (1 : Int32) then if (if (zg_kind (a_a).toNatClampNeg) < (zg_kind (a_b).toNatClampNeg) then (zg_kind (a_b).toNatClampNeg) else (zg_kind (a_a).toNatClampNeg)) = (3 : Int32) then (4 : Int32) else if (if (zg_kind (a_a).toNatClampNeg) < (zg_kind (a_b).toNatClampNeg) then (zg_kind (a_b).toNatClampNeg) else (zg_kind (a_a).toNatClampNeg)) = (4 : Int32) then (4 : Int32) else (0 : Int32) else (0 : Int32) else (3 : Int32) else if (if (zg_kind (a_b).toNatClampNeg) < (zg_kind (a_a).toNatClampNeg) then (zg_kind (a_b).toNatClampNeg) else (zg_kind (a_a).toNatClampNeg)) = (1 : Int32) then if (if (zg_kind (a_a).toNatClampNeg) < (zg_kind (a_b).toNatClampNeg) then (zg_kind (a_b).toNatClampNeg) else (zg_kind (a_a).toNatClampNeg)) = (3 : Int32) then (4 : Int32) else if (if (zg_kind (a_a).toNatClampNeg) < (zg_kind (a_b).toNatClampNeg) then (zg_kind (a_b).toNatClampNeg) else (zg_kind (a_a).toNatClampNeg)) = (4 : Int32) then (4 : Int32) else (0 : Int32) else (0 : Int32) else if (if (zg_kind (a_b).toNatClampNeg) < (zg_kind (a_a).toNatClampNeg) then (zg_kind (a_b).toNatClampNeg) else (zg_kind (a_a).toNatClampNeg)) = (1 : Int32) then if (if (zg_kind (a_a).toNatClampNeg) < (zg_kind (a_b).toNatClampNeg) then (zg_kind (a_b).toNatClampNeg) else (zg_kind (a_a).toNatClampNeg)) = (3 : Int32) then (4 : Int32) else if (if (zg_kind (a_a).toNatClampNeg) < (zg_kind (a_b).toNatClampNeg) then (zg_kind (a_b).toNatClampNeg) else (zg_kind (a_a).toNatClampNeg)) = (4 : Int32) then (4 : Int32) else (0 : Int32) else (0 : Int32)
set_option maxHeartbeats 4000000 in
set_option maxRecDepth 100000 in
theorem c_X5_clashRule (l : Launch) (dC : Nat → ClassId) (dI : Nat → Nat → Nat) (cI cJ : ClassId) (sz : Nat) (zd zg azg_kind azg_hand azg_state azg_look zt zr zw zv zk : Nat) (zg_kind zg_hand zg_state zg_look : Nat → Int32) (zg_size : Int32) (a_a : Int32) (a_b : Int32) (h1 : 0 ≤ a_a.toInt) (h2 : a_a.toInt < 25) (h3 : 0 ≤ a_b.toInt) (h4 : a_b.toInt < 25) : Met l yX5_clashRule wsX5_clashRule ({ frames := 1, cells := 0, slots := 0, locals := 21 } : Room) (va_Pc [.ref zd, .int a_a, .int a_b] (PreW dC dI cI cJ sz [(zd, .inr (5, [.ref zt, .ref zr, .ref zw, .ref zg, .ref zv, .ref zk])), (zg, .inr (1, [.ref azg_kind, .ref azg_hand, .ref azg_state, .ref azg_look, .int zg_size])), (azg_kind, .inl (cI, 25, .inl zg_kind)), (azg_hand, .inl (cI, 25, .inl zg_hand)), (azg_state, .inl (cI, 25, .inl zg_state)), (azg_look, .inl (cI, 25, .inl zg_look))])) (va_Qi (fun (r : Int32) (_ : Unit) => r = f_X5_clashRule zg_kind zg_look a_a a_b) (fun (_ : Unit) _ => True) (fun q => sz ≤ q)) 0 0 (fun q => sz ≤ q) := by
  refine Met.ofW (cc := cX5_clashRule) (maxL := 5) (ret := (some .int)) (by decide) rfl ?_
  intro p e s m args below meth c s₁ B hml hv
  obtain ⟨rfl, hsz, hP, hK, hN, hD0⟩ := hv
  have hx := B.exec
  have hb := B.bytes
  have hr := B.returns
  have hts := atoms_spec (ws := wsX5_clashRule) B.pre
  have hown : s.vm.findClass RX5 = some m.cls := findClass_of_methodNamed B.named
  have hlocks := B.notSynchronized
  subst hsz
  have hD := hD0
  generalize hAe : (fun q => s.heap.size ≤ q) = A
  have hA : ∀ q : Nat, s.heap.size ≤ q → A q := fun q h => by rw [← hAe]; exact h
  have hS : va_S A s.heap s.heap [] := va_S.rf
  have hP : va_P (dC, dI) vwCl [(zd, .inr (5, [.ref zt, .ref zr, .ref zw, .ref zg, .ref zv, .ref zk])), (zg, .inr (1, [.ref azg_kind, .ref azg_hand, .ref azg_state, .ref azg_look, .int zg_size])), (azg_kind, .inl (cI, 25, .inl zg_kind)), (azg_hand, .inl (cI, 25, .inl zg_hand)), (azg_state, .inl (cI, 25, .inl zg_state)), (azg_look, .inl (cI, 25, .inl zg_look))] s.heap := hP
  have hl := lv_entry ([.ref zd, .int a_a, .int a_b]) (n := 5) (Nat.le_of_ble_eq_true rfl)
  rw [lg_entry_eq]
  generalize (lg_sl ([.ref zd, .int a_a, .int a_b]) ++ List.replicate (5 - (lg_sl ([.ref zd, .int a_a, .int a_b])).length) Slot.unset).toArray = ls at hl ⊢
  have hl : lv_has ls 5 [(0, .ref zd), (1, .int a_a), (2, .int a_b)] := hl
  refine lv_aload_n hx hb dX5_clashRule_0 rfl (lv_at hl 0 rfl) ?_
  refine va_get (D := (dC, dI)) (ci := 5) (v := .ref zg) (C := RX5) (T := TX5) (N := 6) hx hb hts in_X5_clashRule_X5 hown hK hP 0 rfl rfl 3 (by decide) (hts _ m_X5_clashRule_1) (fun _ h9 => h9) rfl dX5_clashRule_1 ?_
  refine va_get (D := (dC, dI)) (ci := 1) (v := .ref azg_kind) (C := RX1) (T := TX1) (N := 5) hx hb hts in_X5_clashRule_X1 hown hK hP 1 rfl rfl 0 (by decide) (hts _ m_X5_clashRule_2) (fun _ h9 => h9) rfl dX5_clashRule_4 ?_
  refine lv_iload_n hx hb dX5_clashRule_7 rfl (lv_at hl 1 rfl) ?_
  refine va_iald (q0 := 2) (t0 := 0) (n := 25) (f := zg_kind) hx hb hK hP rfl rfl (vp_in_iff.mpr ⟨by omega, by omega⟩) dX5_clashRule_8 ?_
  refine lv_aload_n hx hb dX5_clashRule_9 rfl (lv_at hl 0 rfl) ?_
  refine va_get (D := (dC, dI)) (ci := 5) (v := .ref zg) (C := RX5) (T := TX5) (N := 6) hx hb hts in_X5_clashRule_X5 hown hK hP 0 rfl rfl 3 (by decide) (hts _ m_X5_clashRule_1) (fun _ h9 => h9) rfl dX5_clashRule_10 ?_
  refine va_get (D := (dC, dI)) (ci := 1) (v := .ref azg_kind) (C := RX1) (T := TX1) (N := 5) hx hb hts in_X5_clashRule_X1 hown hK hP 1 rfl rfl 0 (by decide) (hts _ m_X5_clashRule_2) (fun _ h9 => h9) rfl dX5_clashRule_13 ?_
  refine lv_iload_n hx hb dX5_clashRule_16 rfl (lv_at hl 2 rfl) ?_
  refine va_iald (q0 := 2) (t0 := 0) (n := 25) (f := zg_kind) hx hb hK hP rfl rfl (vp_in_iff.mpr ⟨by omega, by omega⟩) dX5_clashRule_17 ?_
  refine va_mmin hx hb (hml.trans hl.1.symm) hown (hts _ m_X5_clashRule_3) (hts _ m_X5_clashRule_4) (hts _ m_X5_clashRule_5) (hts _ m_X5_clashRule_6) (Nat.le_of_ble_eq_true rfl) (Nat.le_of_ble_eq_true rfl) (Nat.le_of_ble_eq_true rfl) (Nat.le_of_ble_eq_true rfl) dX5_clashRule_18 ?_
  refine lv_istore_n (lv' := [(3, .int (if (zg_kind (a_b).toNatClampNeg) < (zg_kind (a_a).toNatClampNeg) then (zg_kind (a_b).toNatClampNeg) else (zg_kind (a_a).toNatClampNeg))), (0, .ref zd), (1, .int a_a), (2, .int a_b)]) hx hb dX5_clashRule_21 rfl hl (by decide) rfl (fun ls hl => ?_)
  refine lv_aload_n hx hb dX5_clashRule_22 rfl (lv_at hl 1 rfl) ?_
  refine va_get (D := (dC, dI)) (ci := 5) (v := .ref zg) (C := RX5) (T := TX5) (N := 6) hx hb hts in_X5_clashRule_X5 hown hK hP 0 rfl rfl 3 (by decide) (hts _ m_X5_clashRule_1) (fun _ h9 => h9) rfl dX5_clashRule_23 ?_
  refine va_get (D := (dC, dI)) (ci := 1) (v := .ref azg_kind) (C := RX1) (T := TX1) (N := 5) hx hb hts in_X5_clashRule_X1 hown hK hP 1 rfl rfl 0 (by decide) (hts _ m_X5_clashRule_2) (fun _ h9 => h9) rfl dX5_clashRule_26 ?_
  refine lv_iload_n hx hb dX5_clashRule_29 rfl (lv_at hl 2 rfl) ?_
  refine va_iald (q0 := 2) (t0 := 0) (n := 25) (f := zg_kind) hx hb hK hP rfl rfl (vp_in_iff.mpr ⟨by omega, by omega⟩) dX5_clashRule_30 ?_
  refine lv_aload_n hx hb dX5_clashRule_31 rfl (lv_at hl 1 rfl) ?_
  refine va_get (D := (dC, dI)) (ci := 5) (v := .ref zg) (C := RX5) (T := TX5) (N := 6) hx hb hts in_X5_clashRule_X5 hown hK hP 0 rfl rfl 3 (by decide) (hts _ m_X5_clashRule_1) (fun _ h9 => h9) rfl dX5_clashRule_32 ?_
  refine va_get (D := (dC, dI)) (ci := 1) (v := .ref azg_kind) (C := RX1) (T := TX1) (N := 5) hx hb hts in_X5_clashRule_X1 hown hK hP 1 rfl rfl 0 (by decide) (hts _ m_X5_clashRule_2) (fun _ h9 => h9) rfl dX5_clashRule_35 ?_
  refine lv_iload_n hx hb dX5_clashRule_38 rfl (lv_at hl 3 rfl) ?_
  refine va_iald (q0 := 2) (t0 := 0) (n := 25) (f := zg_kind) hx hb hK hP rfl rfl (vp_in_iff.mpr ⟨by omega, by omega⟩) dX5_clashRule_39 ?_
  refine va_mmax hx hb (hml.trans hl.1.symm) hown (hts _ m_X5_clashRule_7) (hts _ m_X5_clashRule_8) (hts _ m_X5_clashRule_5) (hts _ m_X5_clashRule_9) (Nat.le_of_ble_eq_true rfl) (Nat.le_of_ble_eq_true rfl) (Nat.le_of_ble_eq_true rfl) (Nat.le_of_ble_eq_true rfl) dX5_clashRule_40 ?_
  refine lv_istore (lv' := [(4, .int (if (zg_kind (a_a).toNatClampNeg) < (zg_kind (a_b).toNatClampNeg) then (zg_kind (a_b).toNatClampNeg) else (zg_kind (a_a).toNatClampNeg))), (3, .int (if (zg_kind (a_b).toNatClampNeg) < (zg_kind (a_a).toNatClampNeg) then (zg_kind (a_b).toNatClampNeg) else (zg_kind (a_a).toNatClampNeg))), (0, .ref zd), (1, .int a_a), (2, .int a_b)]) hx hb dX5_clashRule_43 hl (by decide) rfl (fun ls hl => ?_)
  refine lv_iload_n hx hb dX5_clashRule_45 rfl (lv_at hl 1 rfl) ?_
  refine lv_if_ne (tgt := 57) hx hb dX5_clashRule_46 (by decide) (fun c_1 => ?_) (fun c_1 => ?_)
  · refine lv_iload_n hx hb dX5_clashRule_57 rfl (lv_at hl 1 rfl) ?_
    refine lv_iconst (v := (2 : Int32)) hx hb dX5_clashRule_58 (by decide) ?_
    refine lv_icmp_ne (tgt := 70) hx hb dX5_clashRule_59 (by decide) (fun c_2 => ?_) (fun c_2 => ?_)
    · refine lv_iload_n hx hb dX5_clashRule_70 rfl (lv_at hl 1 rfl) ?_
      refine lv_iconst (v := (3 : Int32)) hx hb dX5_clashRule_71 (by decide) ?_
      refine lv_icmp_ne (tgt := 104) hx hb dX5_clashRule_72 (by decide) (fun c_3 => ?_) (fun c_3 => ?_)
      · refine lv_iload_n hx hb dX5_clashRule_104 rfl (lv_at hl 1 rfl) ?_
        refine lv_iconst (v := (1 : Int32)) hx hb dX5_clashRule_105 (by decide) ?_
        refine lv_icmp_ne (tgt := 123) hx hb dX5_clashRule_106 (by decide) (fun c_4 => ?_) (fun c_4 => ?_)
        · refine lv_iconst (v := (0 : Int32)) hx hb dX5_clashRule_123 (by decide) ?_
          have hE : f_X5_clashRule zg_kind zg_look a_a a_b = (0 : Int32) := (by rw [f_X5_clashRule, if_neg c_1, if_neg c_2, if_neg c_3, if_neg c_4])
          exact W.iret (v := (0 : Int32)) hx hb hr (fun t ht hW => ⟨⟨(0 : Int32), (), rfl, by rw [hE], trivial⟩, hS.F ht⟩) hS.2.2 dX5_clashRule_124
        · refine lv_iload hx hb dX5_clashRule_109 (lv_at hl 0 rfl) ?_
          refine lv_iconst (v := (3 : Int32)) hx hb dX5_clashRule_111 (by decide) ?_
          refine lv_icmp_eq (tgt := 121) hx hb dX5_clashRule_112 (by decide) (fun c_5 => ?_) (fun c_5 => ?_)
          · refine lv_iconst (v := (4 : Int32)) hx hb dX5_clashRule_121 (by decide) ?_
            have hE : f_X5_clashRule zg_kind zg_look a_a a_b = (4 : Int32) := (by rw [f_X5_clashRule, if_neg c_1, if_neg c_2, if_neg c_3, if_pos c_4, if_pos c_5])
            exact W.iret (v := (4 : Int32)) hx hb hr (fun t ht hW => ⟨⟨(4 : Int32), (), rfl, by rw [hE], trivial⟩, hS.F ht⟩) hS.2.2 dX5_clashRule_122
          · refine lv_iload hx hb dX5_clashRule_115 (lv_at hl 0 rfl) ?_
            refine lv_iconst (v := (4 : Int32)) hx hb dX5_clashRule_117 (by decide) ?_
            refine lv_icmp_ne (tgt := 123) hx hb dX5_clashRule_118 (by decide) (fun c_6 => ?_) (fun c_6 => ?_)
            · refine lv_iconst (v := (0 : Int32)) hx hb dX5_clashRule_123 (by decide) ?_
              have hE : f_X5_clashRule zg_kind zg_look a_a a_b = (0 : Int32) := (by rw [f_X5_clashRule, if_neg c_1, if_neg c_2, if_neg c_3, if_pos c_4, if_neg c_5, if_neg c_6])
              exact W.iret (v := (0 : Int32)) hx hb hr (fun t ht hW => ⟨⟨(0 : Int32), (), rfl, by rw [hE], trivial⟩, hS.F ht⟩) hS.2.2 dX5_clashRule_124
            · refine lv_iconst (v := (4 : Int32)) hx hb dX5_clashRule_121 (by decide) ?_
              have hE : f_X5_clashRule zg_kind zg_look a_a a_b = (4 : Int32) := (by rw [f_X5_clashRule, if_neg c_1, if_neg c_2, if_neg c_3, if_pos c_4, if_neg c_5, if_pos c_6])
              exact W.iret (v := (4 : Int32)) hx hb hr (fun t ht hW => ⟨⟨(4 : Int32), (), rfl, by rw [hE], trivial⟩, hS.F ht⟩) hS.2.2 dX5_clashRule_122
      · refine lv_iload hx hb dX5_clashRule_75 (lv_at hl 0 rfl) ?_
        refine lv_iconst (v := (3 : Int32)) hx hb dX5_clashRule_77 (by decide) ?_
        refine lv_icmp_ne (tgt := 104) hx hb dX5_clashRule_78 (by decide) (fun c_7 => ?_) (fun c_7 => ?_)
        · refine lv_iload_n hx hb dX5_clashRule_104 rfl (lv_at hl 1 rfl) ?_
          refine lv_iconst (v := (1 : Int32)) hx hb dX5_clashRule_105 (by decide) ?_
          refine lv_icmp_ne (tgt := 123) hx hb dX5_clashRule_106 (by decide) (fun c_8 => ?_) (fun c_8 => ?_)
          · refine lv_iconst (v := (0 : Int32)) hx hb dX5_clashRule_123 (by decide) ?_
            have hE : f_X5_clashRule zg_kind zg_look a_a a_b = (0 : Int32) := (by rw [f_X5_clashRule, if_neg c_1, if_neg c_2, if_pos c_3, if_neg c_7, if_neg c_8])
            exact W.iret (v := (0 : Int32)) hx hb hr (fun t ht hW => ⟨⟨(0 : Int32), (), rfl, by rw [hE], trivial⟩, hS.F ht⟩) hS.2.2 dX5_clashRule_124
          · refine lv_iload hx hb dX5_clashRule_109 (lv_at hl 0 rfl) ?_
            refine lv_iconst (v := (3 : Int32)) hx hb dX5_clashRule_111 (by decide) ?_
            refine lv_icmp_eq (tgt := 121) hx hb dX5_clashRule_112 (by decide) (fun c_9 => ?_) (fun c_9 => ?_)
            · refine lv_iconst (v := (4 : Int32)) hx hb dX5_clashRule_121 (by decide) ?_
              have hE : f_X5_clashRule zg_kind zg_look a_a a_b = (4 : Int32) := (by rw [f_X5_clashRule, if_neg c_1, if_neg c_2, if_pos c_3, if_neg c_7, if_pos c_8, if_pos c_9])
              exact W.iret (v := (4 : Int32)) hx hb hr (fun t ht hW => ⟨⟨(4 : Int32), (), rfl, by rw [hE], trivial⟩, hS.F ht⟩) hS.2.2 dX5_clashRule_122
            · refine lv_iload hx hb dX5_clashRule_115 (lv_at hl 0 rfl) ?_
              refine lv_iconst (v := (4 : Int32)) hx hb dX5_clashRule_117 (by decide) ?_
              refine lv_icmp_ne (tgt := 123) hx hb dX5_clashRule_118 (by decide) (fun c_10 => ?_) (fun c_10 => ?_)
              · refine lv_iconst (v := (0 : Int32)) hx hb dX5_clashRule_123 (by decide) ?_
                have hE : f_X5_clashRule zg_kind zg_look a_a a_b = (0 : Int32) := (by rw [f_X5_clashRule, if_neg c_1, if_neg c_2, if_pos c_3, if_neg c_7, if_pos c_8, if_neg c_9, if_neg c_10])
                exact W.iret (v := (0 : Int32)) hx hb hr (fun t ht hW => ⟨⟨(0 : Int32), (), rfl, by rw [hE], trivial⟩, hS.F ht⟩) hS.2.2 dX5_clashRule_124
              · refine lv_iconst (v := (4 : Int32)) hx hb dX5_clashRule_121 (by decide) ?_
                have hE : f_X5_clashRule zg_kind zg_look a_a a_b = (4 : Int32) := (by rw [f_X5_clashRule, if_neg c_1, if_neg c_2, if_pos c_3, if_neg c_7, if_pos c_8, if_neg c_9, if_pos c_10])
                exact W.iret (v := (4 : Int32)) hx hb hr (fun t ht hW => ⟨⟨(4 : Int32), (), rfl, by rw [hE], trivial⟩, hS.F ht⟩) hS.2.2 dX5_clashRule_122
        · refine lv_aload_n hx hb dX5_clashRule_81 rfl (lv_at hl 2 rfl) ?_
          refine va_get (D := (dC, dI)) (ci := 5) (v := .ref zg) (C := RX5) (T := TX5) (N := 6) hx hb hts in_X5_clashRule_X5 hown hK hP 0 rfl rfl 3 (by decide) (hts _ m_X5_clashRule_1) (fun _ h9 => h9) rfl dX5_clashRule_82 ?_
          refine va_get (D := (dC, dI)) (ci := 1) (v := .ref azg_look) (C := RX1) (T := TX1) (N := 5) hx hb hts in_X5_clashRule_X1 hown hK hP 1 rfl rfl 3 (by decide) (hts _ m_X5_clashRule_10) (fun _ h9 => h9) rfl dX5_clashRule_85 ?_
          refine lv_iload_n hx hb dX5_clashRule_88 rfl (lv_at hl 3 rfl) ?_
          refine va_iald (q0 := 5) (t0 := 0) (n := 25) (f := zg_look) hx hb hK hP rfl rfl (vp_in_iff.mpr ⟨by omega, by omega⟩) dX5_clashRule_89 ?_
          refine lv_aload_n hx hb dX5_clashRule_90 rfl (lv_at hl 2 rfl) ?_
          refine va_get (D := (dC, dI)) (ci := 5) (v := .ref zg) (C := RX5) (T := TX5) (N := 6) hx hb hts in_X5_clashRule_X5 hown hK hP 0 rfl rfl 3 (by decide) (hts _ m_X5_clashRule_1) (fun _ h9 => h9) rfl dX5_clashRule_91 ?_
          refine va_get (D := (dC, dI)) (ci := 1) (v := .ref azg_look) (C := RX1) (T := TX1) (N := 5) hx hb hts in_X5_clashRule_X1 hown hK hP 1 rfl rfl 3 (by decide) (hts _ m_X5_clashRule_10) (fun _ h9 => h9) rfl dX5_clashRule_94 ?_
          refine lv_iload_n hx hb dX5_clashRule_97 rfl (lv_at hl 4 rfl) ?_
          refine va_iald (q0 := 5) (t0 := 0) (n := 25) (f := zg_look) hx hb hK hP rfl rfl (vp_in_iff.mpr ⟨by omega, by omega⟩) dX5_clashRule_98 ?_
          refine lv_icmp_eq (tgt := 104) hx hb dX5_clashRule_99 (by decide) (fun c_11 => ?_) (fun c_11 => ?_)
          · refine lv_iload_n hx hb dX5_clashRule_104 rfl (lv_at hl 1 rfl) ?_
            refine lv_iconst (v := (1 : Int32)) hx hb dX5_clashRule_105 (by decide) ?_
            refine lv_icmp_ne (tgt := 123) hx hb dX5_clashRule_106 (by decide) (fun c_12 => ?_) (fun c_12 => ?_)
            · refine lv_iconst (v := (0 : Int32)) hx hb dX5_clashRule_123 (by decide) ?_
              have hE : f_X5_clashRule zg_kind zg_look a_a a_b = (0 : Int32) := (by rw [f_X5_clashRule, if_neg c_1, if_neg c_2, if_pos c_3, if_pos c_7, if_pos c_11, if_neg c_12])
              exact W.iret (v := (0 : Int32)) hx hb hr (fun t ht hW => ⟨⟨(0 : Int32), (), rfl, by rw [hE], trivial⟩, hS.F ht⟩) hS.2.2 dX5_clashRule_124
            · refine lv_iload hx hb dX5_clashRule_109 (lv_at hl 0 rfl) ?_
              refine lv_iconst (v := (3 : Int32)) hx hb dX5_clashRule_111 (by decide) ?_
              refine lv_icmp_eq (tgt := 121) hx hb dX5_clashRule_112 (by decide) (fun c_13 => ?_) (fun c_13 => ?_)
              · refine lv_iconst (v := (4 : Int32)) hx hb dX5_clashRule_121 (by decide) ?_
                have hE : f_X5_clashRule zg_kind zg_look a_a a_b = (4 : Int32) := (by rw [f_X5_clashRule, if_neg c_1, if_neg c_2, if_pos c_3, if_pos c_7, if_pos c_11, if_pos c_12, if_pos c_13])
                exact W.iret (v := (4 : Int32)) hx hb hr (fun t ht hW => ⟨⟨(4 : Int32), (), rfl, by rw [hE], trivial⟩, hS.F ht⟩) hS.2.2 dX5_clashRule_122
              · refine lv_iload hx hb dX5_clashRule_115 (lv_at hl 0 rfl) ?_
                refine lv_iconst (v := (4 : Int32)) hx hb dX5_clashRule_117 (by decide) ?_
                refine lv_icmp_ne (tgt := 123) hx hb dX5_clashRule_118 (by decide) (fun c_14 => ?_) (fun c_14 => ?_)
                · refine lv_iconst (v := (0 : Int32)) hx hb dX5_clashRule_123 (by decide) ?_
                  have hE : f_X5_clashRule zg_kind zg_look a_a a_b = (0 : Int32) := (by rw [f_X5_clashRule, if_neg c_1, if_neg c_2, if_pos c_3, if_pos c_7, if_pos c_11, if_pos c_12, if_neg c_13, if_neg c_14])
                  exact W.iret (v := (0 : Int32)) hx hb hr (fun t ht hW => ⟨⟨(0 : Int32), (), rfl, by rw [hE], trivial⟩, hS.F ht⟩) hS.2.2 dX5_clashRule_124
                · refine lv_iconst (v := (4 : Int32)) hx hb dX5_clashRule_121 (by decide) ?_
                  have hE : f_X5_clashRule zg_kind zg_look a_a a_b = (4 : Int32) := (by rw [f_X5_clashRule, if_neg c_1, if_neg c_2, if_pos c_3, if_pos c_7, if_pos c_11, if_pos c_12, if_neg c_13, if_pos c_14])
                  exact W.iret (v := (4 : Int32)) hx hb hr (fun t ht hW => ⟨⟨(4 : Int32), (), rfl, by rw [hE], trivial⟩, hS.F ht⟩) hS.2.2 dX5_clashRule_122
          · refine lv_iconst (v := (3 : Int32)) hx hb dX5_clashRule_102 (by decide) ?_
            have hE : f_X5_clashRule zg_kind zg_look a_a a_b = (3 : Int32) := (by rw [f_X5_clashRule, if_neg c_1, if_neg c_2, if_pos c_3, if_pos c_7, if_neg c_11])
            exact W.iret (v := (3 : Int32)) hx hb hr (fun t ht hW => ⟨⟨(3 : Int32), (), rfl, by rw [hE], trivial⟩, hS.F ht⟩) hS.2.2 dX5_clashRule_103
    · refine lv_iload hx hb dX5_clashRule_62 (lv_at hl 0 rfl) ?_
      refine lv_iconst (v := (2 : Int32)) hx hb dX5_clashRule_64 (by decide) ?_
      refine lv_icmp_ne (tgt := 70) hx hb dX5_clashRule_65 (by decide) (fun c_15 => ?_) (fun c_15 => ?_)
      · refine lv_iload_n hx hb dX5_clashRule_70 rfl (lv_at hl 1 rfl) ?_
        refine lv_iconst (v := (3 : Int32)) hx hb dX5_clashRule_71 (by decide) ?_
        refine lv_icmp_ne (tgt := 104) hx hb dX5_clashRule_72 (by decide) (fun c_16 => ?_) (fun c_16 => ?_)
        · refine lv_iload_n hx hb dX5_clashRule_104 rfl (lv_at hl 1 rfl) ?_
          refine lv_iconst (v := (1 : Int32)) hx hb dX5_clashRule_105 (by decide) ?_
          refine lv_icmp_ne (tgt := 123) hx hb dX5_clashRule_106 (by decide) (fun c_17 => ?_) (fun c_17 => ?_)
          · refine lv_iconst (v := (0 : Int32)) hx hb dX5_clashRule_123 (by decide) ?_
            have hE : f_X5_clashRule zg_kind zg_look a_a a_b = (0 : Int32) := (by rw [f_X5_clashRule, if_neg c_1, if_pos c_2, if_neg c_15, if_neg c_16, if_neg c_17])
            exact W.iret (v := (0 : Int32)) hx hb hr (fun t ht hW => ⟨⟨(0 : Int32), (), rfl, by rw [hE], trivial⟩, hS.F ht⟩) hS.2.2 dX5_clashRule_124
          · refine lv_iload hx hb dX5_clashRule_109 (lv_at hl 0 rfl) ?_
            refine lv_iconst (v := (3 : Int32)) hx hb dX5_clashRule_111 (by decide) ?_
            refine lv_icmp_eq (tgt := 121) hx hb dX5_clashRule_112 (by decide) (fun c_18 => ?_) (fun c_18 => ?_)
            · refine lv_iconst (v := (4 : Int32)) hx hb dX5_clashRule_121 (by decide) ?_
              have hE : f_X5_clashRule zg_kind zg_look a_a a_b = (4 : Int32) := (by rw [f_X5_clashRule, if_neg c_1, if_pos c_2, if_neg c_15, if_neg c_16, if_pos c_17, if_pos c_18])
              exact W.iret (v := (4 : Int32)) hx hb hr (fun t ht hW => ⟨⟨(4 : Int32), (), rfl, by rw [hE], trivial⟩, hS.F ht⟩) hS.2.2 dX5_clashRule_122
            · refine lv_iload hx hb dX5_clashRule_115 (lv_at hl 0 rfl) ?_
              refine lv_iconst (v := (4 : Int32)) hx hb dX5_clashRule_117 (by decide) ?_
              refine lv_icmp_ne (tgt := 123) hx hb dX5_clashRule_118 (by decide) (fun c_19 => ?_) (fun c_19 => ?_)
              · refine lv_iconst (v := (0 : Int32)) hx hb dX5_clashRule_123 (by decide) ?_
                have hE : f_X5_clashRule zg_kind zg_look a_a a_b = (0 : Int32) := (by rw [f_X5_clashRule, if_neg c_1, if_pos c_2, if_neg c_15, if_neg c_16, if_pos c_17, if_neg c_18, if_neg c_19])
                exact W.iret (v := (0 : Int32)) hx hb hr (fun t ht hW => ⟨⟨(0 : Int32), (), rfl, by rw [hE], trivial⟩, hS.F ht⟩) hS.2.2 dX5_clashRule_124
              · refine lv_iconst (v := (4 : Int32)) hx hb dX5_clashRule_121 (by decide) ?_
                have hE : f_X5_clashRule zg_kind zg_look a_a a_b = (4 : Int32) := (by rw [f_X5_clashRule, if_neg c_1, if_pos c_2, if_neg c_15, if_neg c_16, if_pos c_17, if_neg c_18, if_pos c_19])
                exact W.iret (v := (4 : Int32)) hx hb hr (fun t ht hW => ⟨⟨(4 : Int32), (), rfl, by rw [hE], trivial⟩, hS.F ht⟩) hS.2.2 dX5_clashRule_122
        · refine lv_iload hx hb dX5_clashRule_75 (lv_at hl 0 rfl) ?_
          refine lv_iconst (v := (3 : Int32)) hx hb dX5_clashRule_77 (by decide) ?_
          refine lv_icmp_ne (tgt := 104) hx hb dX5_clashRule_78 (by decide) (fun c_20 => ?_) (fun c_20 => ?_)
          · refine lv_iload_n hx hb dX5_clashRule_104 rfl (lv_at hl 1 rfl) ?_
            refine lv_iconst (v := (1 : Int32)) hx hb dX5_clashRule_105 (by decide) ?_
            refine lv_icmp_ne (tgt := 123) hx hb dX5_clashRule_106 (by decide) (fun c_21 => ?_) (fun c_21 => ?_)
            · refine lv_iconst (v := (0 : Int32)) hx hb dX5_clashRule_123 (by decide) ?_
              have hE : f_X5_clashRule zg_kind zg_look a_a a_b = (0 : Int32) := (by rw [f_X5_clashRule, if_neg c_1, if_pos c_2, if_neg c_15, if_pos c_16, if_neg c_20, if_neg c_21])
              exact W.iret (v := (0 : Int32)) hx hb hr (fun t ht hW => ⟨⟨(0 : Int32), (), rfl, by rw [hE], trivial⟩, hS.F ht⟩) hS.2.2 dX5_clashRule_124
            · refine lv_iload hx hb dX5_clashRule_109 (lv_at hl 0 rfl) ?_
              refine lv_iconst (v := (3 : Int32)) hx hb dX5_clashRule_111 (by decide) ?_
              refine lv_icmp_eq (tgt := 121) hx hb dX5_clashRule_112 (by decide) (fun c_22 => ?_) (fun c_22 => ?_)
              · refine lv_iconst (v := (4 : Int32)) hx hb dX5_clashRule_121 (by decide) ?_
                have hE : f_X5_clashRule zg_kind zg_look a_a a_b = (4 : Int32) := (by rw [f_X5_clashRule, if_neg c_1, if_pos c_2, if_neg c_15, if_pos c_16, if_neg c_20, if_pos c_21, if_pos c_22])
                exact W.iret (v := (4 : Int32)) hx hb hr (fun t ht hW => ⟨⟨(4 : Int32), (), rfl, by rw [hE], trivial⟩, hS.F ht⟩) hS.2.2 dX5_clashRule_122
              · refine lv_iload hx hb dX5_clashRule_115 (lv_at hl 0 rfl) ?_
                refine lv_iconst (v := (4 : Int32)) hx hb dX5_clashRule_117 (by decide) ?_
                refine lv_icmp_ne (tgt := 123) hx hb dX5_clashRule_118 (by decide) (fun c_23 => ?_) (fun c_23 => ?_)
                · refine lv_iconst (v := (0 : Int32)) hx hb dX5_clashRule_123 (by decide) ?_
                  have hE : f_X5_clashRule zg_kind zg_look a_a a_b = (0 : Int32) := (by rw [f_X5_clashRule, if_neg c_1, if_pos c_2, if_neg c_15, if_pos c_16, if_neg c_20, if_pos c_21, if_neg c_22, if_neg c_23])
                  exact W.iret (v := (0 : Int32)) hx hb hr (fun t ht hW => ⟨⟨(0 : Int32), (), rfl, by rw [hE], trivial⟩, hS.F ht⟩) hS.2.2 dX5_clashRule_124
                · refine lv_iconst (v := (4 : Int32)) hx hb dX5_clashRule_121 (by decide) ?_
                  have hE : f_X5_clashRule zg_kind zg_look a_a a_b = (4 : Int32) := (by rw [f_X5_clashRule, if_neg c_1, if_pos c_2, if_neg c_15, if_pos c_16, if_neg c_20, if_pos c_21, if_neg c_22, if_pos c_23])
                  exact W.iret (v := (4 : Int32)) hx hb hr (fun t ht hW => ⟨⟨(4 : Int32), (), rfl, by rw [hE], trivial⟩, hS.F ht⟩) hS.2.2 dX5_clashRule_122
          · refine lv_aload_n hx hb dX5_clashRule_81 rfl (lv_at hl 2 rfl) ?_
            refine va_get (D := (dC, dI)) (ci := 5) (v := .ref zg) (C := RX5) (T := TX5) (N := 6) hx hb hts in_X5_clashRule_X5 hown hK hP 0 rfl rfl 3 (by decide) (hts _ m_X5_clashRule_1) (fun _ h9 => h9) rfl dX5_clashRule_82 ?_
            refine va_get (D := (dC, dI)) (ci := 1) (v := .ref azg_look) (C := RX1) (T := TX1) (N := 5) hx hb hts in_X5_clashRule_X1 hown hK hP 1 rfl rfl 3 (by decide) (hts _ m_X5_clashRule_10) (fun _ h9 => h9) rfl dX5_clashRule_85 ?_
            refine lv_iload_n hx hb dX5_clashRule_88 rfl (lv_at hl 3 rfl) ?_
            refine va_iald (q0 := 5) (t0 := 0) (n := 25) (f := zg_look) hx hb hK hP rfl rfl (vp_in_iff.mpr ⟨by omega, by omega⟩) dX5_clashRule_89 ?_
            refine lv_aload_n hx hb dX5_clashRule_90 rfl (lv_at hl 2 rfl) ?_
            refine va_get (D := (dC, dI)) (ci := 5) (v := .ref zg) (C := RX5) (T := TX5) (N := 6) hx hb hts in_X5_clashRule_X5 hown hK hP 0 rfl rfl 3 (by decide) (hts _ m_X5_clashRule_1) (fun _ h9 => h9) rfl dX5_clashRule_91 ?_
            refine va_get (D := (dC, dI)) (ci := 1) (v := .ref azg_look) (C := RX1) (T := TX1) (N := 5) hx hb hts in_X5_clashRule_X1 hown hK hP 1 rfl rfl 3 (by decide) (hts _ m_X5_clashRule_10) (fun _ h9 => h9) rfl dX5_clashRule_94 ?_
            refine lv_iload_n hx hb dX5_clashRule_97 rfl (lv_at hl 4 rfl) ?_
            refine va_iald (q0 := 5) (t0 := 0) (n := 25) (f := zg_look) hx hb hK hP rfl rfl (vp_in_iff.mpr ⟨by omega, by omega⟩) dX5_clashRule_98 ?_
            refine lv_icmp_eq (tgt := 104) hx hb dX5_clashRule_99 (by decide) (fun c_24 => ?_) (fun c_24 => ?_)
            · refine lv_iload_n hx hb dX5_clashRule_104 rfl (lv_at hl 1 rfl) ?_
              refine lv_iconst (v := (1 : Int32)) hx hb dX5_clashRule_105 (by decide) ?_
              refine lv_icmp_ne (tgt := 123) hx hb dX5_clashRule_106 (by decide) (fun c_25 => ?_) (fun c_25 => ?_)
              · refine lv_iconst (v := (0 : Int32)) hx hb dX5_clashRule_123 (by decide) ?_
                have hE : f_X5_clashRule zg_kind zg_look a_a a_b = (0 : Int32) := (by rw [f_X5_clashRule, if_neg c_1, if_pos c_2, if_neg c_15, if_pos c_16, if_pos c_20, if_pos c_24, if_neg c_25])
                exact W.iret (v := (0 : Int32)) hx hb hr (fun t ht hW => ⟨⟨(0 : Int32), (), rfl, by rw [hE], trivial⟩, hS.F ht⟩) hS.2.2 dX5_clashRule_124
              · refine lv_iload hx hb dX5_clashRule_109 (lv_at hl 0 rfl) ?_
                refine lv_iconst (v := (3 : Int32)) hx hb dX5_clashRule_111 (by decide) ?_
                refine lv_icmp_eq (tgt := 121) hx hb dX5_clashRule_112 (by decide) (fun c_26 => ?_) (fun c_26 => ?_)
                · refine lv_iconst (v := (4 : Int32)) hx hb dX5_clashRule_121 (by decide) ?_
                  have hE : f_X5_clashRule zg_kind zg_look a_a a_b = (4 : Int32) := (by rw [f_X5_clashRule, if_neg c_1, if_pos c_2, if_neg c_15, if_pos c_16, if_pos c_20, if_pos c_24, if_pos c_25, if_pos c_26])
                  exact W.iret (v := (4 : Int32)) hx hb hr (fun t ht hW => ⟨⟨(4 : Int32), (), rfl, by rw [hE], trivial⟩, hS.F ht⟩) hS.2.2 dX5_clashRule_122
                · refine lv_iload hx hb dX5_clashRule_115 (lv_at hl 0 rfl) ?_
                  refine lv_iconst (v := (4 : Int32)) hx hb dX5_clashRule_117 (by decide) ?_
                  refine lv_icmp_ne (tgt := 123) hx hb dX5_clashRule_118 (by decide) (fun c_27 => ?_) (fun c_27 => ?_)
                  · refine lv_iconst (v := (0 : Int32)) hx hb dX5_clashRule_123 (by decide) ?_
                    have hE : f_X5_clashRule zg_kind zg_look a_a a_b = (0 : Int32) := (by rw [f_X5_clashRule, if_neg c_1, if_pos c_2, if_neg c_15, if_pos c_16, if_pos c_20, if_pos c_24, if_pos c_25, if_neg c_26, if_neg c_27])
                    exact W.iret (v := (0 : Int32)) hx hb hr (fun t ht hW => ⟨⟨(0 : Int32), (), rfl, by rw [hE], trivial⟩, hS.F ht⟩) hS.2.2 dX5_clashRule_124
                  · refine lv_iconst (v := (4 : Int32)) hx hb dX5_clashRule_121 (by decide) ?_
                    have hE : f_X5_clashRule zg_kind zg_look a_a a_b = (4 : Int32) := (by rw [f_X5_clashRule, if_neg c_1, if_pos c_2, if_neg c_15, if_pos c_16, if_pos c_20, if_pos c_24, if_pos c_25, if_neg c_26, if_pos c_27])
                    exact W.iret (v := (4 : Int32)) hx hb hr (fun t ht hW => ⟨⟨(4 : Int32), (), rfl, by rw [hE], trivial⟩, hS.F ht⟩) hS.2.2 dX5_clashRule_122
            · refine lv_iconst (v := (3 : Int32)) hx hb dX5_clashRule_102 (by decide) ?_
              have hE : f_X5_clashRule zg_kind zg_look a_a a_b = (3 : Int32) := (by rw [f_X5_clashRule, if_neg c_1, if_pos c_2, if_neg c_15, if_pos c_16, if_pos c_20, if_neg c_24])
              exact W.iret (v := (3 : Int32)) hx hb hr (fun t ht hW => ⟨⟨(3 : Int32), (), rfl, by rw [hE], trivial⟩, hS.F ht⟩) hS.2.2 dX5_clashRule_103
      · refine lv_iconst (v := (2 : Int32)) hx hb dX5_clashRule_68 (by decide) ?_
        have hE : f_X5_clashRule zg_kind zg_look a_a a_b = (2 : Int32) := (by rw [f_X5_clashRule, if_neg c_1, if_pos c_2, if_pos c_15])
        exact W.iret (v := (2 : Int32)) hx hb hr (fun t ht hW => ⟨⟨(2 : Int32), (), rfl, by rw [hE], trivial⟩, hS.F ht⟩) hS.2.2 dX5_clashRule_69
  · refine lv_iload hx hb dX5_clashRule_49 (lv_at hl 0 rfl) ?_
    refine lv_iconst (v := (1 : Int32)) hx hb dX5_clashRule_51 (by decide) ?_
    refine lv_icmp_ne (tgt := 57) hx hb dX5_clashRule_52 (by decide) (fun c_28 => ?_) (fun c_28 => ?_)
    · refine lv_iload_n hx hb dX5_clashRule_57 rfl (lv_at hl 1 rfl) ?_
      refine lv_iconst (v := (2 : Int32)) hx hb dX5_clashRule_58 (by decide) ?_
      refine lv_icmp_ne (tgt := 70) hx hb dX5_clashRule_59 (by decide) (fun c_29 => ?_) (fun c_29 => ?_)
      · refine lv_iload_n hx hb dX5_clashRule_70 rfl (lv_at hl 1 rfl) ?_
        refine lv_iconst (v := (3 : Int32)) hx hb dX5_clashRule_71 (by decide) ?_
        refine lv_icmp_ne (tgt := 104) hx hb dX5_clashRule_72 (by decide) (fun c_30 => ?_) (fun c_30 => ?_)
        · refine lv_iload_n hx hb dX5_clashRule_104 rfl (lv_at hl 1 rfl) ?_
          refine lv_iconst (v := (1 : Int32)) hx hb dX5_clashRule_105 (by decide) ?_
          refine lv_icmp_ne (tgt := 123) hx hb dX5_clashRule_106 (by decide) (fun c_31 => ?_) (fun c_31 => ?_)
          · refine lv_iconst (v := (0 : Int32)) hx hb dX5_clashRule_123 (by decide) ?_
            have hE : f_X5_clashRule zg_kind zg_look a_a a_b = (0 : Int32) := (by rw [f_X5_clashRule, if_pos c_1, if_neg c_28, if_neg c_29, if_neg c_30, if_neg c_31])
            exact W.iret (v := (0 : Int32)) hx hb hr (fun t ht hW => ⟨⟨(0 : Int32), (), rfl, by rw [hE], trivial⟩, hS.F ht⟩) hS.2.2 dX5_clashRule_124
          · refine lv_iload hx hb dX5_clashRule_109 (lv_at hl 0 rfl) ?_
            refine lv_iconst (v := (3 : Int32)) hx hb dX5_clashRule_111 (by decide) ?_
            refine lv_icmp_eq (tgt := 121) hx hb dX5_clashRule_112 (by decide) (fun c_32 => ?_) (fun c_32 => ?_)
            · refine lv_iconst (v := (4 : Int32)) hx hb dX5_clashRule_121 (by decide) ?_
              have hE : f_X5_clashRule zg_kind zg_look a_a a_b = (4 : Int32) := (by rw [f_X5_clashRule, if_pos c_1, if_neg c_28, if_neg c_29, if_neg c_30, if_pos c_31, if_pos c_32])
              exact W.iret (v := (4 : Int32)) hx hb hr (fun t ht hW => ⟨⟨(4 : Int32), (), rfl, by rw [hE], trivial⟩, hS.F ht⟩) hS.2.2 dX5_clashRule_122
            · refine lv_iload hx hb dX5_clashRule_115 (lv_at hl 0 rfl) ?_
              refine lv_iconst (v := (4 : Int32)) hx hb dX5_clashRule_117 (by decide) ?_
              refine lv_icmp_ne (tgt := 123) hx hb dX5_clashRule_118 (by decide) (fun c_33 => ?_) (fun c_33 => ?_)
              · refine lv_iconst (v := (0 : Int32)) hx hb dX5_clashRule_123 (by decide) ?_
                have hE : f_X5_clashRule zg_kind zg_look a_a a_b = (0 : Int32) := (by rw [f_X5_clashRule, if_pos c_1, if_neg c_28, if_neg c_29, if_neg c_30, if_pos c_31, if_neg c_32, if_neg c_33])
                exact W.iret (v := (0 : Int32)) hx hb hr (fun t ht hW => ⟨⟨(0 : Int32), (), rfl, by rw [hE], trivial⟩, hS.F ht⟩) hS.2.2 dX5_clashRule_124
              · refine lv_iconst (v := (4 : Int32)) hx hb dX5_clashRule_121 (by decide) ?_
                have hE : f_X5_clashRule zg_kind zg_look a_a a_b = (4 : Int32) := (by rw [f_X5_clashRule, if_pos c_1, if_neg c_28, if_neg c_29, if_neg c_30, if_pos c_31, if_neg c_32, if_pos c_33])
                exact W.iret (v := (4 : Int32)) hx hb hr (fun t ht hW => ⟨⟨(4 : Int32), (), rfl, by rw [hE], trivial⟩, hS.F ht⟩) hS.2.2 dX5_clashRule_122
        · refine lv_iload hx hb dX5_clashRule_75 (lv_at hl 0 rfl) ?_
          refine lv_iconst (v := (3 : Int32)) hx hb dX5_clashRule_77 (by decide) ?_
          refine lv_icmp_ne (tgt := 104) hx hb dX5_clashRule_78 (by decide) (fun c_34 => ?_) (fun c_34 => ?_)
          · refine lv_iload_n hx hb dX5_clashRule_104 rfl (lv_at hl 1 rfl) ?_
            refine lv_iconst (v := (1 : Int32)) hx hb dX5_clashRule_105 (by decide) ?_
            refine lv_icmp_ne (tgt := 123) hx hb dX5_clashRule_106 (by decide) (fun c_35 => ?_) (fun c_35 => ?_)
            · refine lv_iconst (v := (0 : Int32)) hx hb dX5_clashRule_123 (by decide) ?_
              have hE : f_X5_clashRule zg_kind zg_look a_a a_b = (0 : Int32) := (by rw [f_X5_clashRule, if_pos c_1, if_neg c_28, if_neg c_29, if_pos c_30, if_neg c_34, if_neg c_35])
              exact W.iret (v := (0 : Int32)) hx hb hr (fun t ht hW => ⟨⟨(0 : Int32), (), rfl, by rw [hE], trivial⟩, hS.F ht⟩) hS.2.2 dX5_clashRule_124
            · refine lv_iload hx hb dX5_clashRule_109 (lv_at hl 0 rfl) ?_
              refine lv_iconst (v := (3 : Int32)) hx hb dX5_clashRule_111 (by decide) ?_
              refine lv_icmp_eq (tgt := 121) hx hb dX5_clashRule_112 (by decide) (fun c_36 => ?_) (fun c_36 => ?_)
              · refine lv_iconst (v := (4 : Int32)) hx hb dX5_clashRule_121 (by decide) ?_
                have hE : f_X5_clashRule zg_kind zg_look a_a a_b = (4 : Int32) := (by rw [f_X5_clashRule, if_pos c_1, if_neg c_28, if_neg c_29, if_pos c_30, if_neg c_34, if_pos c_35, if_pos c_36])
                exact W.iret (v := (4 : Int32)) hx hb hr (fun t ht hW => ⟨⟨(4 : Int32), (), rfl, by rw [hE], trivial⟩, hS.F ht⟩) hS.2.2 dX5_clashRule_122
              · refine lv_iload hx hb dX5_clashRule_115 (lv_at hl 0 rfl) ?_
                refine lv_iconst (v := (4 : Int32)) hx hb dX5_clashRule_117 (by decide) ?_
                refine lv_icmp_ne (tgt := 123) hx hb dX5_clashRule_118 (by decide) (fun c_37 => ?_) (fun c_37 => ?_)
                · refine lv_iconst (v := (0 : Int32)) hx hb dX5_clashRule_123 (by decide) ?_
                  have hE : f_X5_clashRule zg_kind zg_look a_a a_b = (0 : Int32) := (by rw [f_X5_clashRule, if_pos c_1, if_neg c_28, if_neg c_29, if_pos c_30, if_neg c_34, if_pos c_35, if_neg c_36, if_neg c_37])
                  exact W.iret (v := (0 : Int32)) hx hb hr (fun t ht hW => ⟨⟨(0 : Int32), (), rfl, by rw [hE], trivial⟩, hS.F ht⟩) hS.2.2 dX5_clashRule_124
                · refine lv_iconst (v := (4 : Int32)) hx hb dX5_clashRule_121 (by decide) ?_
                  have hE : f_X5_clashRule zg_kind zg_look a_a a_b = (4 : Int32) := (by rw [f_X5_clashRule, if_pos c_1, if_neg c_28, if_neg c_29, if_pos c_30, if_neg c_34, if_pos c_35, if_neg c_36, if_pos c_37])
                  exact W.iret (v := (4 : Int32)) hx hb hr (fun t ht hW => ⟨⟨(4 : Int32), (), rfl, by rw [hE], trivial⟩, hS.F ht⟩) hS.2.2 dX5_clashRule_122
          · refine lv_aload_n hx hb dX5_clashRule_81 rfl (lv_at hl 2 rfl) ?_
            refine va_get (D := (dC, dI)) (ci := 5) (v := .ref zg) (C := RX5) (T := TX5) (N := 6) hx hb hts in_X5_clashRule_X5 hown hK hP 0 rfl rfl 3 (by decide) (hts _ m_X5_clashRule_1) (fun _ h9 => h9) rfl dX5_clashRule_82 ?_
            refine va_get (D := (dC, dI)) (ci := 1) (v := .ref azg_look) (C := RX1) (T := TX1) (N := 5) hx hb hts in_X5_clashRule_X1 hown hK hP 1 rfl rfl 3 (by decide) (hts _ m_X5_clashRule_10) (fun _ h9 => h9) rfl dX5_clashRule_85 ?_
            refine lv_iload_n hx hb dX5_clashRule_88 rfl (lv_at hl 3 rfl) ?_
            refine va_iald (q0 := 5) (t0 := 0) (n := 25) (f := zg_look) hx hb hK hP rfl rfl (vp_in_iff.mpr ⟨by omega, by omega⟩) dX5_clashRule_89 ?_
            refine lv_aload_n hx hb dX5_clashRule_90 rfl (lv_at hl 2 rfl) ?_
            refine va_get (D := (dC, dI)) (ci := 5) (v := .ref zg) (C := RX5) (T := TX5) (N := 6) hx hb hts in_X5_clashRule_X5 hown hK hP 0 rfl rfl 3 (by decide) (hts _ m_X5_clashRule_1) (fun _ h9 => h9) rfl dX5_clashRule_91 ?_
            refine va_get (D := (dC, dI)) (ci := 1) (v := .ref azg_look) (C := RX1) (T := TX1) (N := 5) hx hb hts in_X5_clashRule_X1 hown hK hP 1 rfl rfl 3 (by decide) (hts _ m_X5_clashRule_10) (fun _ h9 => h9) rfl dX5_clashRule_94 ?_
            refine lv_iload_n hx hb dX5_clashRule_97 rfl (lv_at hl 4 rfl) ?_
            refine va_iald (q0 := 5) (t0 := 0) (n := 25) (f := zg_look) hx hb hK hP rfl rfl (vp_in_iff.mpr ⟨by omega, by omega⟩) dX5_clashRule_98 ?_
            refine lv_icmp_eq (tgt := 104) hx hb dX5_clashRule_99 (by decide) (fun c_38 => ?_) (fun c_38 => ?_)
            · refine lv_iload_n hx hb dX5_clashRule_104 rfl (lv_at hl 1 rfl) ?_
              refine lv_iconst (v := (1 : Int32)) hx hb dX5_clashRule_105 (by decide) ?_
              refine lv_icmp_ne (tgt := 123) hx hb dX5_clashRule_106 (by decide) (fun c_39 => ?_) (fun c_39 => ?_)
              · refine lv_iconst (v := (0 : Int32)) hx hb dX5_clashRule_123 (by decide) ?_
                have hE : f_X5_clashRule zg_kind zg_look a_a a_b = (0 : Int32) := (by rw [f_X5_clashRule, if_pos c_1, if_neg c_28, if_neg c_29, if_pos c_30, if_pos c_34, if_pos c_38, if_neg c_39])
                exact W.iret (v := (0 : Int32)) hx hb hr (fun t ht hW => ⟨⟨(0 : Int32), (), rfl, by rw [hE], trivial⟩, hS.F ht⟩) hS.2.2 dX5_clashRule_124
              · refine lv_iload hx hb dX5_clashRule_109 (lv_at hl 0 rfl) ?_
                refine lv_iconst (v := (3 : Int32)) hx hb dX5_clashRule_111 (by decide) ?_
                refine lv_icmp_eq (tgt := 121) hx hb dX5_clashRule_112 (by decide) (fun c_40 => ?_) (fun c_40 => ?_)
                · refine lv_iconst (v := (4 : Int32)) hx hb dX5_clashRule_121 (by decide) ?_
                  have hE : f_X5_clashRule zg_kind zg_look a_a a_b = (4 : Int32) := (by rw [f_X5_clashRule, if_pos c_1, if_neg c_28, if_neg c_29, if_pos c_30, if_pos c_34, if_pos c_38, if_pos c_39, if_pos c_40])
                  exact W.iret (v := (4 : Int32)) hx hb hr (fun t ht hW => ⟨⟨(4 : Int32), (), rfl, by rw [hE], trivial⟩, hS.F ht⟩) hS.2.2 dX5_clashRule_122
                · refine lv_iload hx hb dX5_clashRule_115 (lv_at hl 0 rfl) ?_
                  refine lv_iconst (v := (4 : Int32)) hx hb dX5_clashRule_117 (by decide) ?_
                  refine lv_icmp_ne (tgt := 123) hx hb dX5_clashRule_118 (by decide) (fun c_41 => ?_) (fun c_41 => ?_)
                  · refine lv_iconst (v := (0 : Int32)) hx hb dX5_clashRule_123 (by decide) ?_
                    have hE : f_X5_clashRule zg_kind zg_look a_a a_b = (0 : Int32) := (by rw [f_X5_clashRule, if_pos c_1, if_neg c_28, if_neg c_29, if_pos c_30, if_pos c_34, if_pos c_38, if_pos c_39, if_neg c_40, if_neg c_41])
                    exact W.iret (v := (0 : Int32)) hx hb hr (fun t ht hW => ⟨⟨(0 : Int32), (), rfl, by rw [hE], trivial⟩, hS.F ht⟩) hS.2.2 dX5_clashRule_124
                  · refine lv_iconst (v := (4 : Int32)) hx hb dX5_clashRule_121 (by decide) ?_
                    have hE : f_X5_clashRule zg_kind zg_look a_a a_b = (4 : Int32) := (by rw [f_X5_clashRule, if_pos c_1, if_neg c_28, if_neg c_29, if_pos c_30, if_pos c_34, if_pos c_38, if_pos c_39, if_neg c_40, if_pos c_41])
                    exact W.iret (v := (4 : Int32)) hx hb hr (fun t ht hW => ⟨⟨(4 : Int32), (), rfl, by rw [hE], trivial⟩, hS.F ht⟩) hS.2.2 dX5_clashRule_122
            · refine lv_iconst (v := (3 : Int32)) hx hb dX5_clashRule_102 (by decide) ?_
              have hE : f_X5_clashRule zg_kind zg_look a_a a_b = (3 : Int32) := (by rw [f_X5_clashRule, if_pos c_1, if_neg c_28, if_neg c_29, if_pos c_30, if_pos c_34, if_neg c_38])
              exact W.iret (v := (3 : Int32)) hx hb hr (fun t ht hW => ⟨⟨(3 : Int32), (), rfl, by rw [hE], trivial⟩, hS.F ht⟩) hS.2.2 dX5_clashRule_103
      · refine lv_iload hx hb dX5_clashRule_62 (lv_at hl 0 rfl) ?_
        refine lv_iconst (v := (2 : Int32)) hx hb dX5_clashRule_64 (by decide) ?_
        refine lv_icmp_ne (tgt := 70) hx hb dX5_clashRule_65 (by decide) (fun c_42 => ?_) (fun c_42 => ?_)
        · refine lv_iload_n hx hb dX5_clashRule_70 rfl (lv_at hl 1 rfl) ?_
          refine lv_iconst (v := (3 : Int32)) hx hb dX5_clashRule_71 (by decide) ?_
          refine lv_icmp_ne (tgt := 104) hx hb dX5_clashRule_72 (by decide) (fun c_43 => ?_) (fun c_43 => ?_)
          · refine lv_iload_n hx hb dX5_clashRule_104 rfl (lv_at hl 1 rfl) ?_
            refine lv_iconst (v := (1 : Int32)) hx hb dX5_clashRule_105 (by decide) ?_
            refine lv_icmp_ne (tgt := 123) hx hb dX5_clashRule_106 (by decide) (fun c_44 => ?_) (fun c_44 => ?_)
            · refine lv_iconst (v := (0 : Int32)) hx hb dX5_clashRule_123 (by decide) ?_
              have hE : f_X5_clashRule zg_kind zg_look a_a a_b = (0 : Int32) := (by rw [f_X5_clashRule, if_pos c_1, if_neg c_28, if_pos c_29, if_neg c_42, if_neg c_43, if_neg c_44])
              exact W.iret (v := (0 : Int32)) hx hb hr (fun t ht hW => ⟨⟨(0 : Int32), (), rfl, by rw [hE], trivial⟩, hS.F ht⟩) hS.2.2 dX5_clashRule_124
            · refine lv_iload hx hb dX5_clashRule_109 (lv_at hl 0 rfl) ?_
              refine lv_iconst (v := (3 : Int32)) hx hb dX5_clashRule_111 (by decide) ?_
              refine lv_icmp_eq (tgt := 121) hx hb dX5_clashRule_112 (by decide) (fun c_45 => ?_) (fun c_45 => ?_)
              · refine lv_iconst (v := (4 : Int32)) hx hb dX5_clashRule_121 (by decide) ?_
                have hE : f_X5_clashRule zg_kind zg_look a_a a_b = (4 : Int32) := (by rw [f_X5_clashRule, if_pos c_1, if_neg c_28, if_pos c_29, if_neg c_42, if_neg c_43, if_pos c_44, if_pos c_45])
                exact W.iret (v := (4 : Int32)) hx hb hr (fun t ht hW => ⟨⟨(4 : Int32), (), rfl, by rw [hE], trivial⟩, hS.F ht⟩) hS.2.2 dX5_clashRule_122
              · refine lv_iload hx hb dX5_clashRule_115 (lv_at hl 0 rfl) ?_
                refine lv_iconst (v := (4 : Int32)) hx hb dX5_clashRule_117 (by decide) ?_
                refine lv_icmp_ne (tgt := 123) hx hb dX5_clashRule_118 (by decide) (fun c_46 => ?_) (fun c_46 => ?_)
                · refine lv_iconst (v := (0 : Int32)) hx hb dX5_clashRule_123 (by decide) ?_
                  have hE : f_X5_clashRule zg_kind zg_look a_a a_b = (0 : Int32) := (by rw [f_X5_clashRule, if_pos c_1, if_neg c_28, if_pos c_29, if_neg c_42, if_neg c_43, if_pos c_44, if_neg c_45, if_neg c_46])
                  exact W.iret (v := (0 : Int32)) hx hb hr (fun t ht hW => ⟨⟨(0 : Int32), (), rfl, by rw [hE], trivial⟩, hS.F ht⟩) hS.2.2 dX5_clashRule_124
                · refine lv_iconst (v := (4 : Int32)) hx hb dX5_clashRule_121 (by decide) ?_
                  have hE : f_X5_clashRule zg_kind zg_look a_a a_b = (4 : Int32) := (by rw [f_X5_clashRule, if_pos c_1, if_neg c_28, if_pos c_29, if_neg c_42, if_neg c_43, if_pos c_44, if_neg c_45, if_pos c_46])
                  exact W.iret (v := (4 : Int32)) hx hb hr (fun t ht hW => ⟨⟨(4 : Int32), (), rfl, by rw [hE], trivial⟩, hS.F ht⟩) hS.2.2 dX5_clashRule_122
          · refine lv_iload hx hb dX5_clashRule_75 (lv_at hl 0 rfl) ?_
            refine lv_iconst (v := (3 : Int32)) hx hb dX5_clashRule_77 (by decide) ?_
            refine lv_icmp_ne (tgt := 104) hx hb dX5_clashRule_78 (by decide) (fun c_47 => ?_) (fun c_47 => ?_)
            · refine lv_iload_n hx hb dX5_clashRule_104 rfl (lv_at hl 1 rfl) ?_
              refine lv_iconst (v := (1 : Int32)) hx hb dX5_clashRule_105 (by decide) ?_
              refine lv_icmp_ne (tgt := 123) hx hb dX5_clashRule_106 (by decide) (fun c_48 => ?_) (fun c_48 => ?_)
              · refine lv_iconst (v := (0 : Int32)) hx hb dX5_clashRule_123 (by decide) ?_
                have hE : f_X5_clashRule zg_kind zg_look a_a a_b = (0 : Int32) := (by rw [f_X5_clashRule, if_pos c_1, if_neg c_28, if_pos c_29, if_neg c_42, if_pos c_43, if_neg c_47, if_neg c_48])
                exact W.iret (v := (0 : Int32)) hx hb hr (fun t ht hW => ⟨⟨(0 : Int32), (), rfl, by rw [hE], trivial⟩, hS.F ht⟩) hS.2.2 dX5_clashRule_124
              · refine lv_iload hx hb dX5_clashRule_109 (lv_at hl 0 rfl) ?_
                refine lv_iconst (v := (3 : Int32)) hx hb dX5_clashRule_111 (by decide) ?_
                refine lv_icmp_eq (tgt := 121) hx hb dX5_clashRule_112 (by decide) (fun c_49 => ?_) (fun c_49 => ?_)
                · refine lv_iconst (v := (4 : Int32)) hx hb dX5_clashRule_121 (by decide) ?_
                  have hE : f_X5_clashRule zg_kind zg_look a_a a_b = (4 : Int32) := (by rw [f_X5_clashRule, if_pos c_1, if_neg c_28, if_pos c_29, if_neg c_42, if_pos c_43, if_neg c_47, if_pos c_48, if_pos c_49])
                  exact W.iret (v := (4 : Int32)) hx hb hr (fun t ht hW => ⟨⟨(4 : Int32), (), rfl, by rw [hE], trivial⟩, hS.F ht⟩) hS.2.2 dX5_clashRule_122
                · refine lv_iload hx hb dX5_clashRule_115 (lv_at hl 0 rfl) ?_
                  refine lv_iconst (v := (4 : Int32)) hx hb dX5_clashRule_117 (by decide) ?_
                  refine lv_icmp_ne (tgt := 123) hx hb dX5_clashRule_118 (by decide) (fun c_50 => ?_) (fun c_50 => ?_)
                  · refine lv_iconst (v := (0 : Int32)) hx hb dX5_clashRule_123 (by decide) ?_
                    have hE : f_X5_clashRule zg_kind zg_look a_a a_b = (0 : Int32) := (by rw [f_X5_clashRule, if_pos c_1, if_neg c_28, if_pos c_29, if_neg c_42, if_pos c_43, if_neg c_47, if_pos c_48, if_neg c_49, if_neg c_50])
                    exact W.iret (v := (0 : Int32)) hx hb hr (fun t ht hW => ⟨⟨(0 : Int32), (), rfl, by rw [hE], trivial⟩, hS.F ht⟩) hS.2.2 dX5_clashRule_124
                  · refine lv_iconst (v := (4 : Int32)) hx hb dX5_clashRule_121 (by decide) ?_
                    have hE : f_X5_clashRule zg_kind zg_look a_a a_b = (4 : Int32) := (by rw [f_X5_clashRule, if_pos c_1, if_neg c_28, if_pos c_29, if_neg c_42, if_pos c_43, if_neg c_47, if_pos c_48, if_neg c_49, if_pos c_50])
                    exact W.iret (v := (4 : Int32)) hx hb hr (fun t ht hW => ⟨⟨(4 : Int32), (), rfl, by rw [hE], trivial⟩, hS.F ht⟩) hS.2.2 dX5_clashRule_122
            · refine lv_aload_n hx hb dX5_clashRule_81 rfl (lv_at hl 2 rfl) ?_
              refine va_get (D := (dC, dI)) (ci := 5) (v := .ref zg) (C := RX5) (T := TX5) (N := 6) hx hb hts in_X5_clashRule_X5 hown hK hP 0 rfl rfl 3 (by decide) (hts _ m_X5_clashRule_1) (fun _ h9 => h9) rfl dX5_clashRule_82 ?_
              refine va_get (D := (dC, dI)) (ci := 1) (v := .ref azg_look) (C := RX1) (T := TX1) (N := 5) hx hb hts in_X5_clashRule_X1 hown hK hP 1 rfl rfl 3 (by decide) (hts _ m_X5_clashRule_10) (fun _ h9 => h9) rfl dX5_clashRule_85 ?_
              refine lv_iload_n hx hb dX5_clashRule_88 rfl (lv_at hl 3 rfl) ?_
              refine va_iald (q0 := 5) (t0 := 0) (n := 25) (f := zg_look) hx hb hK hP rfl rfl (vp_in_iff.mpr ⟨by omega, by omega⟩) dX5_clashRule_89 ?_
              refine lv_aload_n hx hb dX5_clashRule_90 rfl (lv_at hl 2 rfl) ?_
              refine va_get (D := (dC, dI)) (ci := 5) (v := .ref zg) (C := RX5) (T := TX5) (N := 6) hx hb hts in_X5_clashRule_X5 hown hK hP 0 rfl rfl 3 (by decide) (hts _ m_X5_clashRule_1) (fun _ h9 => h9) rfl dX5_clashRule_91 ?_
              refine va_get (D := (dC, dI)) (ci := 1) (v := .ref azg_look) (C := RX1) (T := TX1) (N := 5) hx hb hts in_X5_clashRule_X1 hown hK hP 1 rfl rfl 3 (by decide) (hts _ m_X5_clashRule_10) (fun _ h9 => h9) rfl dX5_clashRule_94 ?_
              refine lv_iload_n hx hb dX5_clashRule_97 rfl (lv_at hl 4 rfl) ?_
              refine va_iald (q0 := 5) (t0 := 0) (n := 25) (f := zg_look) hx hb hK hP rfl rfl (vp_in_iff.mpr ⟨by omega, by omega⟩) dX5_clashRule_98 ?_
              refine lv_icmp_eq (tgt := 104) hx hb dX5_clashRule_99 (by decide) (fun c_51 => ?_) (fun c_51 => ?_)
              · refine lv_iload_n hx hb dX5_clashRule_104 rfl (lv_at hl 1 rfl) ?_
                refine lv_iconst (v := (1 : Int32)) hx hb dX5_clashRule_105 (by decide) ?_
                refine lv_icmp_ne (tgt := 123) hx hb dX5_clashRule_106 (by decide) (fun c_52 => ?_) (fun c_52 => ?_)
                · refine lv_iconst (v := (0 : Int32)) hx hb dX5_clashRule_123 (by decide) ?_
                  have hE : f_X5_clashRule zg_kind zg_look a_a a_b = (0 : Int32) := (by rw [f_X5_clashRule, if_pos c_1, if_neg c_28, if_pos c_29, if_neg c_42, if_pos c_43, if_pos c_47, if_pos c_51, if_neg c_52])
                  exact W.iret (v := (0 : Int32)) hx hb hr (fun t ht hW => ⟨⟨(0 : Int32), (), rfl, by rw [hE], trivial⟩, hS.F ht⟩) hS.2.2 dX5_clashRule_124
                · refine lv_iload hx hb dX5_clashRule_109 (lv_at hl 0 rfl) ?_
                  refine lv_iconst (v := (3 : Int32)) hx hb dX5_clashRule_111 (by decide) ?_
                  refine lv_icmp_eq (tgt := 121) hx hb dX5_clashRule_112 (by decide) (fun c_53 => ?_) (fun c_53 => ?_)
                  · refine lv_iconst (v := (4 : Int32)) hx hb dX5_clashRule_121 (by decide) ?_
                    have hE : f_X5_clashRule zg_kind zg_look a_a a_b = (4 : Int32) := (by rw [f_X5_clashRule, if_pos c_1, if_neg c_28, if_pos c_29, if_neg c_42, if_pos c_43, if_pos c_47, if_pos c_51, if_pos c_52, if_pos c_53])
                    exact W.iret (v := (4 : Int32)) hx hb hr (fun t ht hW => ⟨⟨(4 : Int32), (), rfl, by rw [hE], trivial⟩, hS.F ht⟩) hS.2.2 dX5_clashRule_122
                  · refine lv_iload hx hb dX5_clashRule_115 (lv_at hl 0 rfl) ?_
                    refine lv_iconst (v := (4 : Int32)) hx hb dX5_clashRule_117 (by decide) ?_
                    refine lv_icmp_ne (tgt := 123) hx hb dX5_clashRule_118 (by decide) (fun c_54 => ?_) (fun c_54 => ?_)
                    · refine lv_iconst (v := (0 : Int32)) hx hb dX5_clashRule_123 (by decide) ?_
                      have hE : f_X5_clashRule zg_kind zg_look a_a a_b = (0 : Int32) := (by rw [f_X5_clashRule, if_pos c_1, if_neg c_28, if_pos c_29, if_neg c_42, if_pos c_43, if_pos c_47, if_pos c_51, if_pos c_52, if_neg c_53, if_neg c_54])
                      exact W.iret (v := (0 : Int32)) hx hb hr (fun t ht hW => ⟨⟨(0 : Int32), (), rfl, by rw [hE], trivial⟩, hS.F ht⟩) hS.2.2 dX5_clashRule_124
                    · refine lv_iconst (v := (4 : Int32)) hx hb dX5_clashRule_121 (by decide) ?_
                      have hE : f_X5_clashRule zg_kind zg_look a_a a_b = (4 : Int32) := (by rw [f_X5_clashRule, if_pos c_1, if_neg c_28, if_pos c_29, if_neg c_42, if_pos c_43, if_pos c_47, if_pos c_51, if_pos c_52, if_neg c_53, if_pos c_54])
                      exact W.iret (v := (4 : Int32)) hx hb hr (fun t ht hW => ⟨⟨(4 : Int32), (), rfl, by rw [hE], trivial⟩, hS.F ht⟩) hS.2.2 dX5_clashRule_122
              · refine lv_iconst (v := (3 : Int32)) hx hb dX5_clashRule_102 (by decide) ?_
                have hE : f_X5_clashRule zg_kind zg_look a_a a_b = (3 : Int32) := (by rw [f_X5_clashRule, if_pos c_1, if_neg c_28, if_pos c_29, if_neg c_42, if_pos c_43, if_pos c_47, if_neg c_51])
                exact W.iret (v := (3 : Int32)) hx hb hr (fun t ht hW => ⟨⟨(3 : Int32), (), rfl, by rw [hE], trivial⟩, hS.F ht⟩) hS.2.2 dX5_clashRule_103
        · refine lv_iconst (v := (2 : Int32)) hx hb dX5_clashRule_68 (by decide) ?_
          have hE : f_X5_clashRule zg_kind zg_look a_a a_b = (2 : Int32) := (by rw [f_X5_clashRule, if_pos c_1, if_neg c_28, if_pos c_29, if_pos c_42])
          exact W.iret (v := (2 : Int32)) hx hb hr (fun t ht hW => ⟨⟨(2 : Int32), (), rfl, by rw [hE], trivial⟩, hS.F ht⟩) hS.2.2 dX5_clashRule_69
    · refine lv_iconst (v := (1 : Int32)) hx hb dX5_clashRule_55 (by decide) ?_
      have hE : f_X5_clashRule zg_kind zg_look a_a a_b = (1 : Int32) := (by rw [f_X5_clashRule, if_pos c_1, if_pos c_28])
      exact W.iret (v := (1 : Int32)) hx hb hr (fun t ht hW => ⟨⟨(1 : Int32), (), rfl, by rw [hE], trivial⟩, hS.F ht⟩) hS.2.2 dX5_clashRule_56
theorem dX5_clashOf_0 : decode cX5_clashOf 0 = .ok (.aload_n 0, 1) := by decide +kernel
theorem dX5_clashOf_1 : decode cX5_clashOf 1 = .ok (.getfield 29, 3) := by decide +kernel
theorem in_X5_clashOf_X5 : ∀ w ∈ wsX50, w ∈ wsX5_clashOf := by decide +kernel
theorem m_X5_clashOf_1 : (.fieldLink RX5 29 "RedlineDesk" "ledger" "LRedlineDesk$Ledger;" : Cond) ∈ wsX5_clashOf := List.mem_of_getElem? (i := 1) (by decide +kernel)
theorem dX5_clashOf_4 : decode cX5_clashOf 4 = .ok (.getfield 170, 3) := by decide +kernel
theorem in_X5_clashOf_X1 : ∀ w ∈ wsX10, w ∈ wsX5_clashOf := by decide +kernel
theorem m_X5_clashOf_2 : (.fieldLink RX5 170 "RedlineDesk$Ledger" "state" "[I" : Cond) ∈ wsX5_clashOf := List.mem_of_getElem? (i := 2) (by decide +kernel)
theorem dX5_clashOf_7 : decode cX5_clashOf 7 = .ok (.iload_n 1, 1) := by decide +kernel
theorem dX5_clashOf_8 : decode cX5_clashOf 8 = .ok (.iaload, 1) := by decide +kernel
theorem dX5_clashOf_9 : decode cX5_clashOf 9 = .ok (.ifCond .ne 36, 3) := by decide +kernel
theorem dX5_clashOf_45 : decode cX5_clashOf 45 = .ok (.iconst 0, 1) := by decide +kernel
theorem dX5_clashOf_46 : decode cX5_clashOf 46 = .ok (.ireturn, 1) := by decide +kernel
theorem dX5_clashOf_12 : decode cX5_clashOf 12 = .ok (.aload_n 0, 1) := by decide +kernel
theorem dX5_clashOf_13 : decode cX5_clashOf 13 = .ok (.getfield 29, 3) := by decide +kernel
theorem dX5_clashOf_16 : decode cX5_clashOf 16 = .ok (.getfield 170, 3) := by decide +kernel
theorem dX5_clashOf_19 : decode cX5_clashOf 19 = .ok (.iload_n 2, 1) := by decide +kernel
theorem dX5_clashOf_20 : decode cX5_clashOf 20 = .ok (.iaload, 1) := by decide +kernel
theorem dX5_clashOf_21 : decode cX5_clashOf 21 = .ok (.ifCond .ne 24, 3) := by decide +kernel
theorem dX5_clashOf_24 : decode cX5_clashOf 24 = .ok (.aload_n 0, 1) := by decide +kernel
theorem dX5_clashOf_25 : decode cX5_clashOf 25 = .ok (.getfield 29, 3) := by decide +kernel
theorem dX5_clashOf_28 : decode cX5_clashOf 28 = .ok (.getfield 179, 3) := by decide +kernel
theorem m_X5_clashOf_3 : (.fieldLink RX5 179 "RedlineDesk$Ledger" "hand" "[I" : Cond) ∈ wsX5_clashOf := List.mem_of_getElem? (i := 3) (by decide +kernel)
theorem dX5_clashOf_31 : decode cX5_clashOf 31 = .ok (.iload_n 1, 1) := by decide +kernel
theorem dX5_clashOf_32 : decode cX5_clashOf 32 = .ok (.iaload, 1) := by decide +kernel
theorem dX5_clashOf_33 : decode cX5_clashOf 33 = .ok (.aload_n 0, 1) := by decide +kernel
theorem dX5_clashOf_34 : decode cX5_clashOf 34 = .ok (.getfield 29, 3) := by decide +kernel
theorem dX5_clashOf_37 : decode cX5_clashOf 37 = .ok (.getfield 179, 3) := by decide +kernel
theorem dX5_clashOf_40 : decode cX5_clashOf 40 = .ok (.iload_n 2, 1) := by decide +kernel
theorem dX5_clashOf_41 : decode cX5_clashOf 41 = .ok (.iaload, 1) := by decide +kernel
theorem dX5_clashOf_42 : decode cX5_clashOf 42 = .ok (.if_icmp .ne 5, 3) := by decide +kernel
theorem dX5_clashOf_47 : decode cX5_clashOf 47 = .ok (.aload_n 0, 1) := by decide +kernel
theorem dX5_clashOf_48 : decode cX5_clashOf 48 = .ok (.iload_n 1, 1) := by decide +kernel
theorem dX5_clashOf_49 : decode cX5_clashOf 49 = .ok (.iload_n 2, 1) := by decide +kernel
theorem dX5_clashOf_50 : decode cX5_clashOf 50 = .ok (.invokevirtual 265, 3) := by decide +kernel
set_option maxRecDepth 20000 in
theorem ggX5_clashOf_X5_clashRule : GoodIn wsX5_clashOf wsX5_clashRule := goodIn_r _ [9, 1, 10, 11, 12, 13, 14, 15, 16, 17, 18, 34, 35, 36, 37, 38, 39, 40, 41, 42, 43, 44] (by decide +kernel) (by decide +kernel)
set_option maxRecDepth 20000 in
theorem gX5_clashOf_X5_clashRule : GoodIn wsX5_clashOf (wsV RX5 265 RX5 yX5_clashRule wsX5_clashRule) := goodIn_app (goodIn_of _ (by decide +kernel)) ggX5_clashOf_X5_clashRule
theorem dX5_clashOf_53 : decode cX5_clashOf 53 = .ok (.istore_n 3, 1) := by decide +kernel
theorem dX5_clashOf_54 : decode cX5_clashOf 54 = .ok (.iload_n 3, 1) := by decide +kernel
theorem dX5_clashOf_55 : decode cX5_clashOf 55 = .ok (.ifCond .eq 26, 3) := by decide +kernel
theorem dX5_clashOf_81 : decode cX5_clashOf 81 = .ok (.iconst 0, 1) := by decide +kernel
theorem dX5_clashOf_82 : decode cX5_clashOf 82 = .ok (.ireturn, 1) := by decide +kernel
theorem dX5_clashOf_58 : decode cX5_clashOf 58 = .ok (.aload_n 0, 1) := by decide +kernel
theorem dX5_clashOf_59 : decode cX5_clashOf 59 = .ok (.getfield 19, 3) := by decide +kernel
theorem m_X5_clashOf_4 : (.fieldLink RX5 19 "RedlineDesk" "row" "LRedlineDesk$Row;" : Cond) ∈ wsX5_clashOf := List.mem_of_getElem? (i := 4) (by decide +kernel)
theorem dX5_clashOf_62 : decode cX5_clashOf 62 = .ok (.iload_n 1, 1) := by decide +kernel
theorem dX5_clashOf_63 : decode cX5_clashOf 63 = .ok (.invokestatic 154, 3) := by decide +kernel
set_option maxRecDepth 20000 in
theorem ggX5_clashOf_X5_bit : GoodIn wsX5_clashOf wsX5_bit := goodIn_r _ [21] (by decide +kernel) (by decide +kernel)
set_option maxRecDepth 20000 in
theorem gX5_clashOf_X5_bit : GoodIn wsX5_clashOf (va_wsS RX5 154 yX5_bit wsX5_bit) := goodIn_app (goodIn_of _ (by decide +kernel)) ggX5_clashOf_X5_bit
theorem dX5_clashOf_66 : decode cX5_clashOf 66 = .ok (.iload_n 2, 1) := by decide +kernel
theorem dX5_clashOf_67 : decode cX5_clashOf 67 = .ok (.invokestatic 154, 3) := by decide +kernel
theorem dX5_clashOf_70 : decode cX5_clashOf 70 = .ok (.ior, 1) := by decide +kernel
theorem dX5_clashOf_71 : decode cX5_clashOf 71 = .ok (.invokevirtual 268, 3) := by decide +kernel
set_option maxRecDepth 20000 in
theorem ggX5_clashOf_X2_anyLetterIn : GoodIn wsX5_clashOf wsX2_anyLetterIn := goodIn_r _ [26, 27, 28, 29, 30, 31, 25, 32, 33, 45, 46, 47, 48, 49, 50] (by decide +kernel) (by decide +kernel)
set_option maxRecDepth 20000 in
theorem gX5_clashOf_X2_anyLetterIn : GoodIn wsX5_clashOf (wsV RX5 268 RX2 yX2_anyLetterIn wsX2_anyLetterIn) := goodIn_app (goodIn_of _ (by decide +kernel)) ggX5_clashOf_X2_anyLetterIn
theorem dX5_clashOf_74 : decode cX5_clashOf 74 = .ok (.ifCond .eq 7, 3) := by decide +kernel
theorem dX5_clashOf_77 : decode cX5_clashOf 77 = .ok (.iload_n 3, 1) := by decide +kernel
theorem dX5_clashOf_78 : decode cX5_clashOf 78 = .ok (.goto 4, 3) := by decide +kernel
def f_X5_clashOf (zg_kind : Nat → Int32) (zg_hand : Nat → Int32) (zg_state : Nat → Int32) (zg_look : Nat → Int32) (zr_token : Nat → Int32) (zr_in : Nat → Int32) (zr_size : Int32) (a_a : Int32) (a_b : Int32) : Int32 := if (zg_state (a_a).toNatClampNeg) = (0 : Int32) then if (zg_state (a_b).toNatClampNeg) = (0 : Int32) then if (zg_hand (a_a).toNatClampNeg) = (zg_hand (a_b).toNatClampNeg) then (0 : Int32) else if (f_X5_clashRule zg_kind zg_look a_a a_b) = (0 : Int32) then (0 : Int32) else if (f_X2_anyLetterIn zr_token zr_in zr_size ((f_X5_bit a_a) ||| (f_X5_bit a_b))) = (0 : Int32) then (0 : Int32) else (f_X5_clashRule zg_kind zg_look a_a a_b) else (0 : Int32) else (0 : Int32)
set_option maxHeartbeats 4000000 in
set_option maxRecDepth 100000 in
theorem c_X5_clashOf (l : Launch) (dC : Nat → ClassId) (dI : Nat → Nat → Nat) (cI cJ : ClassId) (sz : Nat) (zd zg azg_kind azg_hand azg_state azg_look zr azr_sign azr_token azr_in azr_own azr_since zt zw zv zk : Nat) (zg_kind zg_hand zg_state zg_look zr_sign zr_token zr_in zr_own zr_since : Nat → Int32) (zg_size zr_size : Int32) (a_a : Int32) (a_b : Int32) (h1 : 0 ≤ a_a.toInt) (h2 : a_a.toInt < 25) (h3 : 0 ≤ a_b.toInt) (h4 : a_b.toInt < 25) : Met l yX5_clashOf wsX5_clashOf ({ frames := 2, cells := 0, slots := 0, locals := 45 } : Room) (va_Pc [.ref zd, .int a_a, .int a_b] (PreW dC dI cI cJ sz [(zd, .inr (5, [.ref zt, .ref zr, .ref zw, .ref zg, .ref zv, .ref zk])), (zg, .inr (1, [.ref azg_kind, .ref azg_hand, .ref azg_state, .ref azg_look, .int zg_size])), (azg_kind, .inl (cI, 25, .inl zg_kind)), (azg_hand, .inl (cI, 25, .inl zg_hand)), (azg_state, .inl (cI, 25, .inl zg_state)), (azg_look, .inl (cI, 25, .inl zg_look)), (zr, .inr (2, [.ref azr_sign, .ref azr_token, .ref azr_in, .ref azr_own, .ref azr_since, .int zr_size])), (azr_sign, .inl (cI, 240, .inl zr_sign)), (azr_token, .inl (cI, 240, .inl zr_token)), (azr_in, .inl (cI, 240, .inl zr_in)), (azr_own, .inl (cI, 240, .inl zr_own)), (azr_since, .inl (cI, 240, .inl zr_since))])) (va_Qi (fun (r : Int32) (_ : Unit) => r = f_X5_clashOf zg_kind zg_hand zg_state zg_look zr_token zr_in zr_size a_a a_b) (fun (_ : Unit) _ => True) (fun q => sz ≤ q)) 0 0 (fun q => sz ≤ q) := by
  refine Met.ofW (cc := cX5_clashOf) (maxL := 4) (ret := (some .int)) (by decide) rfl ?_
  intro p e s m args below meth c s₁ B hml hv
  obtain ⟨rfl, hsz, hP, hK, hN, hD0⟩ := hv
  have hx := B.exec
  have hb := B.bytes
  have hr := B.returns
  have hts := atoms_spec (ws := wsX5_clashOf) B.pre
  have hown : s.vm.findClass RX5 = some m.cls := findClass_of_methodNamed B.named
  have hlocks := B.notSynchronized
  subst hsz
  have hD := hD0
  generalize hAe : (fun q => s.heap.size ≤ q) = A
  have hA : ∀ q : Nat, s.heap.size ≤ q → A q := fun q h => by rw [← hAe]; exact h
  have hS : va_S A s.heap s.heap [] := va_S.rf
  have hP : va_P (dC, dI) vwCl [(zd, .inr (5, [.ref zt, .ref zr, .ref zw, .ref zg, .ref zv, .ref zk])), (zg, .inr (1, [.ref azg_kind, .ref azg_hand, .ref azg_state, .ref azg_look, .int zg_size])), (azg_kind, .inl (cI, 25, .inl zg_kind)), (azg_hand, .inl (cI, 25, .inl zg_hand)), (azg_state, .inl (cI, 25, .inl zg_state)), (azg_look, .inl (cI, 25, .inl zg_look)), (zr, .inr (2, [.ref azr_sign, .ref azr_token, .ref azr_in, .ref azr_own, .ref azr_since, .int zr_size])), (azr_sign, .inl (cI, 240, .inl zr_sign)), (azr_token, .inl (cI, 240, .inl zr_token)), (azr_in, .inl (cI, 240, .inl zr_in)), (azr_own, .inl (cI, 240, .inl zr_own)), (azr_since, .inl (cI, 240, .inl zr_since))] s.heap := hP
  have hl := lv_entry ([.ref zd, .int a_a, .int a_b]) (n := 4) (Nat.le_of_ble_eq_true rfl)
  rw [lg_entry_eq]
  generalize (lg_sl ([.ref zd, .int a_a, .int a_b]) ++ List.replicate (4 - (lg_sl ([.ref zd, .int a_a, .int a_b])).length) Slot.unset).toArray = ls at hl ⊢
  have hl : lv_has ls 4 [(0, .ref zd), (1, .int a_a), (2, .int a_b)] := hl
  refine lv_aload_n hx hb dX5_clashOf_0 rfl (lv_at hl 0 rfl) ?_
  refine va_get (D := (dC, dI)) (ci := 5) (v := .ref zg) (C := RX5) (T := TX5) (N := 6) hx hb hts in_X5_clashOf_X5 hown hK hP 0 rfl rfl 3 (by decide) (hts _ m_X5_clashOf_1) (fun _ h9 => h9) rfl dX5_clashOf_1 ?_
  refine va_get (D := (dC, dI)) (ci := 1) (v := .ref azg_state) (C := RX1) (T := TX1) (N := 5) hx hb hts in_X5_clashOf_X1 hown hK hP 1 rfl rfl 2 (by decide) (hts _ m_X5_clashOf_2) (fun _ h9 => h9) rfl dX5_clashOf_4 ?_
  refine lv_iload_n hx hb dX5_clashOf_7 rfl (lv_at hl 1 rfl) ?_
  refine va_iald (q0 := 4) (t0 := 0) (n := 25) (f := zg_state) hx hb hK hP rfl rfl (vp_in_iff.mpr ⟨by omega, by omega⟩) dX5_clashOf_8 ?_
  refine lv_if_ne (tgt := 45) hx hb dX5_clashOf_9 (by decide) (fun c_1 => ?_) (fun c_1 => ?_)
  · refine lv_iconst (v := (0 : Int32)) hx hb dX5_clashOf_45 (by decide) ?_
    have hE : f_X5_clashOf zg_kind zg_hand zg_state zg_look zr_token zr_in zr_size a_a a_b = (0 : Int32) := (by rw [f_X5_clashOf, if_neg c_1])
    exact W.iret (v := (0 : Int32)) hx hb hr (fun t ht hW => ⟨⟨(0 : Int32), (), rfl, by rw [hE], trivial⟩, hS.F ht⟩) hS.2.2 dX5_clashOf_46
  · refine lv_aload_n hx hb dX5_clashOf_12 rfl (lv_at hl 0 rfl) ?_
    refine va_get (D := (dC, dI)) (ci := 5) (v := .ref zg) (C := RX5) (T := TX5) (N := 6) hx hb hts in_X5_clashOf_X5 hown hK hP 0 rfl rfl 3 (by decide) (hts _ m_X5_clashOf_1) (fun _ h9 => h9) rfl dX5_clashOf_13 ?_
    refine va_get (D := (dC, dI)) (ci := 1) (v := .ref azg_state) (C := RX1) (T := TX1) (N := 5) hx hb hts in_X5_clashOf_X1 hown hK hP 1 rfl rfl 2 (by decide) (hts _ m_X5_clashOf_2) (fun _ h9 => h9) rfl dX5_clashOf_16 ?_
    refine lv_iload_n hx hb dX5_clashOf_19 rfl (lv_at hl 2 rfl) ?_
    refine va_iald (q0 := 4) (t0 := 0) (n := 25) (f := zg_state) hx hb hK hP rfl rfl (vp_in_iff.mpr ⟨by omega, by omega⟩) dX5_clashOf_20 ?_
    refine lv_if_ne (tgt := 45) hx hb dX5_clashOf_21 (by decide) (fun c_2 => ?_) (fun c_2 => ?_)
    · refine lv_iconst (v := (0 : Int32)) hx hb dX5_clashOf_45 (by decide) ?_
      have hE : f_X5_clashOf zg_kind zg_hand zg_state zg_look zr_token zr_in zr_size a_a a_b = (0 : Int32) := (by rw [f_X5_clashOf, if_pos c_1, if_neg c_2])
      exact W.iret (v := (0 : Int32)) hx hb hr (fun t ht hW => ⟨⟨(0 : Int32), (), rfl, by rw [hE], trivial⟩, hS.F ht⟩) hS.2.2 dX5_clashOf_46
    · refine lv_aload_n hx hb dX5_clashOf_24 rfl (lv_at hl 0 rfl) ?_
      refine va_get (D := (dC, dI)) (ci := 5) (v := .ref zg) (C := RX5) (T := TX5) (N := 6) hx hb hts in_X5_clashOf_X5 hown hK hP 0 rfl rfl 3 (by decide) (hts _ m_X5_clashOf_1) (fun _ h9 => h9) rfl dX5_clashOf_25 ?_
      refine va_get (D := (dC, dI)) (ci := 1) (v := .ref azg_hand) (C := RX1) (T := TX1) (N := 5) hx hb hts in_X5_clashOf_X1 hown hK hP 1 rfl rfl 1 (by decide) (hts _ m_X5_clashOf_3) (fun _ h9 => h9) rfl dX5_clashOf_28 ?_
      refine lv_iload_n hx hb dX5_clashOf_31 rfl (lv_at hl 1 rfl) ?_
      refine va_iald (q0 := 3) (t0 := 0) (n := 25) (f := zg_hand) hx hb hK hP rfl rfl (vp_in_iff.mpr ⟨by omega, by omega⟩) dX5_clashOf_32 ?_
      refine lv_aload_n hx hb dX5_clashOf_33 rfl (lv_at hl 0 rfl) ?_
      refine va_get (D := (dC, dI)) (ci := 5) (v := .ref zg) (C := RX5) (T := TX5) (N := 6) hx hb hts in_X5_clashOf_X5 hown hK hP 0 rfl rfl 3 (by decide) (hts _ m_X5_clashOf_1) (fun _ h9 => h9) rfl dX5_clashOf_34 ?_
      refine va_get (D := (dC, dI)) (ci := 1) (v := .ref azg_hand) (C := RX1) (T := TX1) (N := 5) hx hb hts in_X5_clashOf_X1 hown hK hP 1 rfl rfl 1 (by decide) (hts _ m_X5_clashOf_3) (fun _ h9 => h9) rfl dX5_clashOf_37 ?_
      refine lv_iload_n hx hb dX5_clashOf_40 rfl (lv_at hl 2 rfl) ?_
      refine va_iald (q0 := 3) (t0 := 0) (n := 25) (f := zg_hand) hx hb hK hP rfl rfl (vp_in_iff.mpr ⟨by omega, by omega⟩) dX5_clashOf_41 ?_
      refine lv_icmp_ne (tgt := 47) hx hb dX5_clashOf_42 (by decide) (fun c_3 => ?_) (fun c_3 => ?_)
      · refine lv_aload_n hx hb dX5_clashOf_47 rfl (lv_at hl 0 rfl) ?_
        refine lv_iload_n hx hb dX5_clashOf_48 rfl (lv_at hl 1 rfl) ?_
        refine lv_iload_n hx hb dX5_clashOf_49 rfl (lv_at hl 2 rfl) ?_
        have hPc := hP.sub (ws' := [(zd, .inr (5, [.ref zt, .ref zr, .ref zw, .ref zg, .ref zv, .ref zk])), (zg, .inr (1, [.ref azg_kind, .ref azg_hand, .ref azg_state, .ref azg_look, .int zg_size])), (azg_kind, .inl (cI, 25, .inl zg_kind)), (azg_hand, .inl (cI, 25, .inl zg_hand)), (azg_state, .inl (cI, 25, .inl zg_state)), (azg_look, .inl (cI, 25, .inl zg_look))]) [0, 1, 2, 3, 4, 5] rfl
        have hDc := hD.sub (ws' := [(zd, .inr (5, [.ref zt, .ref zr, .ref zw, .ref zg, .ref zv, .ref zk])), (zg, .inr (1, [.ref azg_kind, .ref azg_hand, .ref azg_state, .ref azg_look, .int zg_size])), (azg_kind, .inl (cI, 25, .inl zg_kind)), (azg_hand, .inl (cI, 25, .inl zg_hand)), (azg_state, .inl (cI, 25, .inl zg_state)), (azg_look, .inl (cI, 25, .inl zg_look))]) [0, 1, 2, 3, 4, 5] (by decide) rfl
        refine va_calli (va_runV (As := [.int a_a, .int a_b]) (rest := []) ⟨hx, hb, hml, hown, hts⟩ (c_X5_clashRule l dC dI cI cJ s.heap.size zd zg azg_kind azg_hand azg_state azg_look zt zr zw zv zk zg_kind zg_hand zg_state zg_look zg_size a_a a_b (by first | omega | decide | assumption) (by first | omega | decide | assumption) (by first | omega | decide | assumption) (by first | omega | decide | assumption)) (cwV 2 hts gX5_clashOf_X5_clashRule rfl rfl rfl (by decide +kernel) ⟨Nat.le_of_ble_eq_true rfl, Nat.le_of_ble_eq_true rfl⟩) ⟨fun a U g mk q => ⟨q.1, PreW.call g mk a q.2⟩, va_recv hK hP (ci := 5) (q0 := 0) rfl rfl, fun U hU hW => ⟨rfl, PreW.mk2 hU hW hPc hK hN (hDc.weaken (fun _ _ _ _ => trivial))⟩⟩ rfl rfl hl.1 rfl (lv_room (Nat.le_of_ble_eq_true rfl)) dX5_clashOf_50 ⟨Nat.le_of_ble_eq_true rfl, Nat.le_of_ble_eq_true rfl⟩) hS (fun q hq h => absurd hq (Nat.not_lt.mpr h)) (fun q h => hA q (Nat.le_trans hS.1 h)) (fun r_4 _u t H1 locs ht hvm hw hB hz1 hk1 hS => ?_)
        have hP := va_ro hP hk1
        generalize H1 = H at hP hS ⊢
        have hw : r_4 = f_X5_clashRule zg_kind zg_look a_a a_b := hw
        subst hw
        obtain ⟨z_5, hz_5⟩ : ∃ z : Int32, z = f_X5_clashRule zg_kind zg_look a_a a_b := ⟨_, rfl⟩
        refine lv_istore_n (lv' := [(3, .int (f_X5_clashRule zg_kind zg_look a_a a_b)), (0, .ref zd), (1, .int a_a), (2, .int a_b)]) hx hb dX5_clashOf_53 rfl hl (by decide) rfl (fun ls hl => ?_)
        refine lv_iload_n hx hb dX5_clashOf_54 rfl (lv_at hl 0 rfl) ?_
        refine lv_if_eq (tgt := 81) hx hb dX5_clashOf_55 (by decide) (fun c_6 => ?_) (fun c_6 => ?_)
        · have tc_6 : z_5.toInt = (0 : Int) := by rw [hz_5]; exact q_eq c_6
          refine lv_iconst (v := (0 : Int32)) hx hb dX5_clashOf_81 (by decide) ?_
          have hE : f_X5_clashOf zg_kind zg_hand zg_state zg_look zr_token zr_in zr_size a_a a_b = (0 : Int32) := (by rw [f_X5_clashOf, if_pos c_1, if_pos c_2, if_neg c_3, if_pos c_6])
          exact W.iret (v := (0 : Int32)) hx hb hr (fun t ht hW => ⟨⟨(0 : Int32), (), rfl, by rw [hE], trivial⟩, hS.F ht⟩) hS.2.2 dX5_clashOf_82
        · have tc_6 : ¬ z_5.toInt = (0 : Int) := by rw [hz_5]; exact q_ne c_6
          refine lv_aload_n hx hb dX5_clashOf_58 rfl (lv_at hl 1 rfl) ?_
          refine va_get (D := (dC, dI)) (ci := 5) (v := .ref zr) (C := RX5) (T := TX5) (N := 6) hx hb hts in_X5_clashOf_X5 hown hK hP 0 rfl rfl 1 (by decide) (hts _ m_X5_clashOf_4) (fun _ h9 => h9) rfl dX5_clashOf_59 ?_
          refine lv_iload_n hx hb dX5_clashOf_62 rfl (lv_at hl 2 rfl) ?_
          have hPc := hP.sub (ws' := []) [] rfl
          have hDc := hD.sub (ws' := []) [] (by decide) rfl
          refine va_calli (va_runS (As := [.int a_a]) (rest := [.ref zr]) ⟨hx, hb, hml, hown, hts⟩ (c_X5_bit l dC dI cI cJ H.size a_a) (va_cwS 1 hts gX5_clashOf_X5_bit rfl rfl rfl (by decide +kernel) ⟨Nat.le_of_ble_eq_true rfl, Nat.le_of_ble_eq_true rfl⟩) ⟨fun a U g mk q => ⟨q.1, PreW.call g mk a q.2⟩, fun U hU hW => ⟨rfl, PreW.mk2 hU hW hPc hK hN (hDc.weaken (fun _ _ _ _ => trivial))⟩⟩ rfl rfl hl.1 rfl (lv_room (Nat.le_of_ble_eq_true rfl)) dX5_clashOf_63 ⟨Nat.le_of_ble_eq_true rfl, Nat.le_of_ble_eq_true rfl⟩) hS (fun q hq h => absurd hq (Nat.not_lt.mpr h)) (fun q h => hA q (Nat.le_trans hS.1 h)) (fun r_7 _u t H1 locs ht hvm hw hB hz1 hk1 hS => ?_)
          have hP := va_ro hP hk1
          generalize H1 = H at hP hS ⊢
          have hw : r_7 = f_X5_bit a_a := hw
          subst hw
          obtain ⟨z_8, hz_8⟩ : ∃ z : Int32, z = f_X5_bit a_a := ⟨_, rfl⟩
          refine lv_iload_n hx hb dX5_clashOf_66 rfl (lv_at hl 3 rfl) ?_
          have hPc := hP.sub (ws' := []) [] rfl
          have hDc := hD.sub (ws' := []) [] (by decide) rfl
          refine va_calli (va_runS (As := [.int a_b]) (rest := [.int (f_X5_bit a_a), .ref zr]) ⟨hx, hb, hml, hown, hts⟩ (c_X5_bit l dC dI cI cJ H.size a_b) (va_cwS 1 hts gX5_clashOf_X5_bit rfl rfl rfl (by decide +kernel) ⟨Nat.le_of_ble_eq_true rfl, Nat.le_of_ble_eq_true rfl⟩) ⟨fun a U g mk q => ⟨q.1, PreW.call g mk a q.2⟩, fun U hU hW => ⟨rfl, PreW.mk2 hU hW hPc hK hN (hDc.weaken (fun _ _ _ _ => trivial))⟩⟩ rfl rfl hl.1 rfl (lv_room (Nat.le_of_ble_eq_true rfl)) dX5_clashOf_67 ⟨Nat.le_of_ble_eq_true rfl, Nat.le_of_ble_eq_true rfl⟩) hS (fun q hq h => absurd hq (Nat.not_lt.mpr h)) (fun q h => hA q (Nat.le_trans hS.1 h)) (fun r_9 _u t H1 locs ht hvm hw hB hz1 hk1 hS => ?_)
          have hP := va_ro hP hk1
          generalize H1 = H at hP hS ⊢
          have hw : r_9 = f_X5_bit a_b := hw
          subst hw
          obtain ⟨z_10, hz_10⟩ : ∃ z : Int32, z = f_X5_bit a_b := ⟨_, rfl⟩
          refine lv_ior hx hb dX5_clashOf_70 ?_
          have hPc := hP.sub (ws' := [(zr, .inr (2, [.ref azr_sign, .ref azr_token, .ref azr_in, .ref azr_own, .ref azr_since, .int zr_size])), (azr_sign, .inl (cI, 240, .inl zr_sign)), (azr_token, .inl (cI, 240, .inl zr_token)), (azr_in, .inl (cI, 240, .inl zr_in)), (azr_own, .inl (cI, 240, .inl zr_own)), (azr_since, .inl (cI, 240, .inl zr_since))]) [6, 7, 8, 9, 10, 11] rfl
          have hDc := hD.sub (ws' := [(zr, .inr (2, [.ref azr_sign, .ref azr_token, .ref azr_in, .ref azr_own, .ref azr_since, .int zr_size])), (azr_sign, .inl (cI, 240, .inl zr_sign)), (azr_token, .inl (cI, 240, .inl zr_token)), (azr_in, .inl (cI, 240, .inl zr_in)), (azr_own, .inl (cI, 240, .inl zr_own)), (azr_since, .inl (cI, 240, .inl zr_since))]) [6, 7, 8, 9, 10, 11] (by decide) rfl
          refine va_calli (va_runV (As := [.int ((f_X5_bit a_a) ||| (f_X5_bit a_b))]) (rest := []) ⟨hx, hb, hml, hown, hts⟩ (c_X2_anyLetterIn l dC dI cI cJ H.size zr azr_sign azr_token azr_in azr_own azr_since zr_sign zr_token zr_in zr_own zr_since zr_size ((f_X5_bit a_a) ||| (f_X5_bit a_b))) (cwV 1 hts gX5_clashOf_X2_anyLetterIn rfl rfl rfl (by decide +kernel) ⟨Nat.le_of_ble_eq_true rfl, Nat.le_of_ble_eq_true rfl⟩) ⟨fun a U g mk q => ⟨q.1, PreW.call g mk a q.2⟩, va_recv hK hP (ci := 2) (q0 := 6) rfl rfl, fun U hU hW => ⟨rfl, PreW.mk2 hU hW hPc hK hN (hDc.weaken (fun _ _ _ _ => trivial))⟩⟩ rfl rfl hl.1 rfl (lv_room (Nat.le_of_ble_eq_true rfl)) dX5_clashOf_71 ⟨Nat.le_of_ble_eq_true rfl, Nat.le_of_ble_eq_true rfl⟩) hS (fun q hq h => absurd hq (Nat.not_lt.mpr h)) (fun q h => hA q (Nat.le_trans hS.1 h)) (fun r_11 _u t H1 locs ht hvm hw hB hz1 hk1 hS => ?_)
          have hP := va_ro hP hk1
          generalize H1 = H at hP hS ⊢
          have hw : r_11 = f_X2_anyLetterIn zr_token zr_in zr_size ((f_X5_bit a_a) ||| (f_X5_bit a_b)) := hw
          subst hw
          obtain ⟨z_12, hz_12⟩ : ∃ z : Int32, z = f_X2_anyLetterIn zr_token zr_in zr_size ((f_X5_bit a_a) ||| (f_X5_bit a_b)) := ⟨_, rfl⟩
          refine lv_if_eq (tgt := 81) hx hb dX5_clashOf_74 (by decide) (fun c_13 => ?_) (fun c_13 => ?_)
          · have tc_13 : z_12.toInt = (0 : Int) := by rw [hz_12]; exact q_eq c_13
            refine lv_iconst (v := (0 : Int32)) hx hb dX5_clashOf_81 (by decide) ?_
            have hE : f_X5_clashOf zg_kind zg_hand zg_state zg_look zr_token zr_in zr_size a_a a_b = (0 : Int32) := (by rw [f_X5_clashOf, if_pos c_1, if_pos c_2, if_neg c_3, if_neg c_6, if_pos c_13])
            exact W.iret (v := (0 : Int32)) hx hb hr (fun t ht hW => ⟨⟨(0 : Int32), (), rfl, by rw [hE], trivial⟩, hS.F ht⟩) hS.2.2 dX5_clashOf_82
          · have tc_13 : ¬ z_12.toInt = (0 : Int) := by rw [hz_12]; exact q_ne c_13
            refine lv_iload_n hx hb dX5_clashOf_77 rfl (lv_at hl 0 rfl) ?_
            refine lv_goto (tgt := 82) hx hb dX5_clashOf_78 (by decide) ?_
            have hE : f_X5_clashOf zg_kind zg_hand zg_state zg_look zr_token zr_in zr_size a_a a_b = (f_X5_clashRule zg_kind zg_look a_a a_b) := (by rw [f_X5_clashOf, if_pos c_1, if_pos c_2, if_neg c_3, if_neg c_6, if_neg c_13])
            exact W.iret (v := (f_X5_clashRule zg_kind zg_look a_a a_b)) hx hb hr (fun t ht hW => ⟨⟨(f_X5_clashRule zg_kind zg_look a_a a_b), (), rfl, by rw [hE], trivial⟩, hS.F ht⟩) hS.2.2 dX5_clashOf_82
      · refine lv_iconst (v := (0 : Int32)) hx hb dX5_clashOf_45 (by decide) ?_
        have hE : f_X5_clashOf zg_kind zg_hand zg_state zg_look zr_token zr_in zr_size a_a a_b = (0 : Int32) := (by rw [f_X5_clashOf, if_pos c_1, if_pos c_2, if_pos c_3])
        exact W.iret (v := (0 : Int32)) hx hb hr (fun t ht hW => ⟨⟨(0 : Int32), (), rfl, by rw [hE], trivial⟩, hS.F ht⟩) hS.2.2 dX5_clashOf_46
theorem dX5_clashes_0 : decode cX5_clashes 0 = .ok (.iconst 0, 1) := by decide +kernel
theorem dX5_clashes_1 : decode cX5_clashes 1 = .ok (.istore_n 1, 1) := by decide +kernel
theorem dX5_clashes_2 : decode cX5_clashes 2 = .ok (.iconst 1, 1) := by decide +kernel
theorem dX5_clashes_3 : decode cX5_clashes 3 = .ok (.istore_n 2, 1) := by decide +kernel
theorem dX5_clashes_4 : decode cX5_clashes 4 = .ok (.iload_n 2, 1) := by decide +kernel
theorem dX5_clashes_5 : decode cX5_clashes 5 = .ok (.bipush 24, 2) := by decide +kernel
theorem dX5_clashes_7 : decode cX5_clashes 7 = .ok (.if_icmp .gt 59, 3) := by decide +kernel
theorem dX5_clashes_66 : decode cX5_clashes 66 = .ok (.iload_n 1, 1) := by decide +kernel
theorem dX5_clashes_67 : decode cX5_clashes 67 = .ok (.ireturn, 1) := by decide +kernel
theorem dX5_clashes_10 : decode cX5_clashes 10 = .ok (.aload_n 0, 1) := by decide +kernel
theorem dX5_clashes_11 : decode cX5_clashes 11 = .ok (.getfield 29, 3) := by decide +kernel
theorem in_X5_clashes_X5 : ∀ w ∈ wsX50, w ∈ wsX5_clashes := by decide +kernel
theorem m_X5_clashes_1 : (.fieldLink RX5 29 "RedlineDesk" "ledger" "LRedlineDesk$Ledger;" : Cond) ∈ wsX5_clashes := List.mem_of_getElem? (i := 1) (by decide +kernel)
theorem dX5_clashes_14 : decode cX5_clashes 14 = .ok (.iload_n 2, 1) := by decide +kernel
theorem dX5_clashes_15 : decode cX5_clashes 15 = .ok (.invokevirtual 167, 3) := by decide +kernel
set_option maxRecDepth 20000 in
theorem ggX5_clashes_X1_names : GoodIn wsX5_clashes wsX1_names := goodIn_r _ [6, 7, 50, 51, 52, 53, 54] (by decide +kernel) (by decide +kernel)
set_option maxRecDepth 20000 in
theorem gX5_clashes_X1_names : GoodIn wsX5_clashes (wsV RX5 167 RX1 yX1_names wsX1_names) := goodIn_app (goodIn_of _ (by decide +kernel)) ggX5_clashes_X1_names
theorem dX5_clashes_18 : decode cX5_clashes 18 = .ok (.ifCond .eq 48, 3) := by decide +kernel
theorem dX5_clashes_21 : decode cX5_clashes 21 = .ok (.iload_n 2, 1) := by decide +kernel
theorem dX5_clashes_22 : decode cX5_clashes 22 = .ok (.iconst 1, 1) := by decide +kernel
theorem dX5_clashes_23 : decode cX5_clashes 23 = .ok (.iadd, 1) := by decide +kernel
theorem dX5_clashes_24 : decode cX5_clashes 24 = .ok (.istore_n 3, 1) := by decide +kernel
theorem dX5_clashes_25 : decode cX5_clashes 25 = .ok (.iload_n 3, 1) := by decide +kernel
theorem dX5_clashes_26 : decode cX5_clashes 26 = .ok (.bipush 24, 2) := by decide +kernel
theorem dX5_clashes_28 : decode cX5_clashes 28 = .ok (.if_icmp .gt 32, 3) := by decide +kernel
theorem dX5_clashes_60 : decode cX5_clashes 60 = .ok (.iinc 2 1, 3) := by decide +kernel
theorem dX5_clashes_63 : decode cX5_clashes 63 = .ok (.goto (-59), 3) := by decide +kernel
theorem dX5_clashes_31 : decode cX5_clashes 31 = .ok (.aload_n 0, 1) := by decide +kernel
theorem dX5_clashes_32 : decode cX5_clashes 32 = .ok (.getfield 29, 3) := by decide +kernel
theorem dX5_clashes_35 : decode cX5_clashes 35 = .ok (.iload_n 3, 1) := by decide +kernel
theorem dX5_clashes_36 : decode cX5_clashes 36 = .ok (.invokevirtual 167, 3) := by decide +kernel
theorem dX5_clashes_39 : decode cX5_clashes 39 = .ok (.ifCond .eq 21, 3) := by decide +kernel
theorem dX5_clashes_42 : decode cX5_clashes 42 = .ok (.aload_n 0, 1) := by decide +kernel
theorem dX5_clashes_43 : decode cX5_clashes 43 = .ok (.iload_n 2, 1) := by decide +kernel
theorem dX5_clashes_44 : decode cX5_clashes 44 = .ok (.iload_n 3, 1) := by decide +kernel
theorem dX5_clashes_45 : decode cX5_clashes 45 = .ok (.invokevirtual 188, 3) := by decide +kernel
set_option maxRecDepth 20000 in
theorem ggX5_clashes_X5_clashOf : GoodIn wsX5_clashes wsX5_clashOf := goodIn_r _ [12, 1, 13, 14, 15, 16, 17, 18, 11, 19, 20, 21, 22, 23, 24, 25, 26, 27, 28, 29, 30, 31, 32, 33, 34, 35, 36, 37, 38, 39, 40, 41, 42, 43, 44, 45, 46, 47, 48, 49, 50, 51, 52, 53, 54, 55, 56, 57, 58, 59, 60] (by decide +kernel) (by decide +kernel)
set_option maxRecDepth 20000 in
theorem gX5_clashes_X5_clashOf : GoodIn wsX5_clashes (wsV RX5 188 RX5 yX5_clashOf wsX5_clashOf) := goodIn_app (goodIn_of _ (by decide +kernel)) ggX5_clashes_X5_clashOf
theorem dX5_clashes_48 : decode cX5_clashes 48 = .ok (.ifCond .eq 6, 3) := by decide +kernel
theorem dX5_clashes_54 : decode cX5_clashes 54 = .ok (.iinc 3 1, 3) := by decide +kernel
theorem dX5_clashes_57 : decode cX5_clashes 57 = .ok (.goto (-32), 3) := by decide +kernel
theorem dX5_clashes_51 : decode cX5_clashes 51 = .ok (.iinc 1 1, 3) := by decide +kernel
def f_X5_clashes_L25 (zg_kind : Nat → Int32) (zg_hand : Nat → Int32) (zg_state : Nat → Int32) (zg_look : Nat → Int32) (zg_size : Int32) (zr_token : Nat → Int32) (zr_in : Nat → Int32) (zr_size : Int32) (v2_1 : Int32) (K_f_X5_clashes_L4 : Int32 → Int32 → Int32) : Nat → Int32 → Int32 → Int32
  | 0, _, _ => 0
  | n_10 + 1, v1_10, v3_10 => if (24 : Int32) < v3_10 then K_f_X5_clashes_L4 v1_10 (v2_1 + (1 : Int32)) else if (f_X1_names zg_size v3_10) = (0 : Int32) then K_f_X5_clashes_L4 v1_10 (v2_1 + (1 : Int32)) else if (f_X5_clashOf zg_kind zg_hand zg_state zg_look zr_token zr_in zr_size v2_1 v3_10) = (0 : Int32) then (f_X5_clashes_L25 zg_kind zg_hand zg_state zg_look zg_size zr_token zr_in zr_size v2_1 K_f_X5_clashes_L4 n_10) v1_10 (v3_10 + (1 : Int32)) else (f_X5_clashes_L25 zg_kind zg_hand zg_state zg_look zg_size zr_token zr_in zr_size v2_1 K_f_X5_clashes_L4 n_10) (v1_10 + (1 : Int32)) (v3_10 + (1 : Int32))
def f_X5_clashes_L4 (zg_kind : Nat → Int32) (zg_hand : Nat → Int32) (zg_state : Nat → Int32) (zg_look : Nat → Int32) (zg_size : Int32) (zr_token : Nat → Int32) (zr_in : Nat → Int32) (zr_size : Int32) : Nat → Int32 → Int32 → Int32
  | 0, _, _ => 0
  | n_1 + 1, v1_1, v2_1 => if (24 : Int32) < v2_1 then v1_1 else if (f_X1_names zg_size v2_1) = (0 : Int32) then v1_1 else f_X5_clashes_L25 zg_kind zg_hand zg_state zg_look zg_size zr_token zr_in zr_size v2_1 (f_X5_clashes_L4 zg_kind zg_hand zg_state zg_look zg_size zr_token zr_in zr_size n_1) 26 v1_1 (v2_1 + (1 : Int32))
def f_X5_clashes (zg_kind : Nat → Int32) (zg_hand : Nat → Int32) (zg_state : Nat → Int32) (zg_look : Nat → Int32) (zg_size : Int32) (zr_token : Nat → Int32) (zr_in : Nat → Int32) (zr_size : Int32) : Int32 := f_X5_clashes_L4 zg_kind zg_hand zg_state zg_look zg_size zr_token zr_in zr_size 26 (0 : Int32) (1 : Int32)
set_option maxHeartbeats 4000000 in
set_option maxRecDepth 100000 in
theorem c_X5_clashes (l : Launch) (dC : Nat → ClassId) (dI : Nat → Nat → Nat) (cI cJ : ClassId) (sz : Nat) (zd zg azg_kind azg_hand azg_state azg_look zr azr_sign azr_token azr_in azr_own azr_since zt zw zv zk : Nat) (zg_kind zg_hand zg_state zg_look zr_sign zr_token zr_in zr_own zr_since : Nat → Int32) (zg_size zr_size : Int32) : Met l yX5_clashes wsX5_clashes ({ frames := 3, cells := 0, slots := 0, locals := 68 } : Room) (va_Pc [.ref zd] (PreW dC dI cI cJ sz [(zd, .inr (5, [.ref zt, .ref zr, .ref zw, .ref zg, .ref zv, .ref zk])), (zg, .inr (1, [.ref azg_kind, .ref azg_hand, .ref azg_state, .ref azg_look, .int zg_size])), (azg_kind, .inl (cI, 25, .inl zg_kind)), (azg_hand, .inl (cI, 25, .inl zg_hand)), (azg_state, .inl (cI, 25, .inl zg_state)), (azg_look, .inl (cI, 25, .inl zg_look)), (zr, .inr (2, [.ref azr_sign, .ref azr_token, .ref azr_in, .ref azr_own, .ref azr_since, .int zr_size])), (azr_sign, .inl (cI, 240, .inl zr_sign)), (azr_token, .inl (cI, 240, .inl zr_token)), (azr_in, .inl (cI, 240, .inl zr_in)), (azr_own, .inl (cI, 240, .inl zr_own)), (azr_since, .inl (cI, 240, .inl zr_since))])) (va_Qi (fun (r : Int32) (_ : Unit) => r = f_X5_clashes zg_kind zg_hand zg_state zg_look zg_size zr_token zr_in zr_size) (fun (_ : Unit) _ => True) (fun q => sz ≤ q)) 0 0 (fun q => sz ≤ q) := by
  refine Met.ofW (cc := cX5_clashes) (maxL := 4) (ret := (some .int)) (by decide) rfl ?_
  intro p e s m args below meth c s₁ B hml hv
  obtain ⟨rfl, hsz, hP, hK, hN, hD0⟩ := hv
  have hx := B.exec
  have hb := B.bytes
  have hr := B.returns
  have hts := atoms_spec (ws := wsX5_clashes) B.pre
  have hown : s.vm.findClass RX5 = some m.cls := findClass_of_methodNamed B.named
  have hlocks := B.notSynchronized
  subst hsz
  have hD := hD0
  generalize hAe : (fun q => s.heap.size ≤ q) = A
  have hA : ∀ q : Nat, s.heap.size ≤ q → A q := fun q h => by rw [← hAe]; exact h
  have hS : va_S A s.heap s.heap [] := va_S.rf
  have hP : va_P (dC, dI) vwCl [(zd, .inr (5, [.ref zt, .ref zr, .ref zw, .ref zg, .ref zv, .ref zk])), (zg, .inr (1, [.ref azg_kind, .ref azg_hand, .ref azg_state, .ref azg_look, .int zg_size])), (azg_kind, .inl (cI, 25, .inl zg_kind)), (azg_hand, .inl (cI, 25, .inl zg_hand)), (azg_state, .inl (cI, 25, .inl zg_state)), (azg_look, .inl (cI, 25, .inl zg_look)), (zr, .inr (2, [.ref azr_sign, .ref azr_token, .ref azr_in, .ref azr_own, .ref azr_since, .int zr_size])), (azr_sign, .inl (cI, 240, .inl zr_sign)), (azr_token, .inl (cI, 240, .inl zr_token)), (azr_in, .inl (cI, 240, .inl zr_in)), (azr_own, .inl (cI, 240, .inl zr_own)), (azr_since, .inl (cI, 240, .inl zr_since))] s.heap := hP
  have hl := lv_entry ([.ref zd]) (n := 4) (Nat.le_of_ble_eq_true rfl)
  rw [lg_entry_eq]
  generalize (lg_sl ([.ref zd]) ++ List.replicate (4 - (lg_sl ([.ref zd])).length) Slot.unset).toArray = ls at hl ⊢
  have hl : lv_has ls 4 [(0, .ref zd)] := hl
  refine W_nm (fun QQ hQQ => ?_)
  refine lv_iconst (v := (0 : Int32)) hx hb dX5_clashes_0 (by decide) ?_
  refine lv_istore_n (lv' := [(1, .int (0 : Int32)), (0, .ref zd)]) hx hb dX5_clashes_1 rfl hl (by decide) rfl (fun ls hl => ?_)
  refine lv_iconst (v := (1 : Int32)) hx hb dX5_clashes_2 (by decide) ?_
  refine lv_istore_n (lv' := [(2, .int (1 : Int32)), (1, .int (0 : Int32)), (0, .ref zd)]) hx hb dX5_clashes_3 rfl hl (by decide) rfl (fun ls hl => ?_)
  have hloop_1 : ∀ (n_1 : Nat) (v1_1 : Int32) (v2_1 : Int32) , (0 ≤ v2_1.toInt) → (v2_1.toInt ≤ 25) → (25 - v2_1.toInt).toNat < n_1 → f_X5_clashes zg_kind zg_hand zg_state zg_look zg_size zr_token zr_in zr_size = f_X5_clashes_L4 zg_kind zg_hand zg_state zg_look zg_size zr_token zr_in zr_size n_1 v1_1 v2_1 → ∀ (H : Heap) (locs : List Loc), va_P (dC, dI) vwCl [(zd, .inr (5, [.ref zt, .ref zr, .ref zw, .ref zg, .ref zv, .ref zk])), (zg, .inr (1, [.ref azg_kind, .ref azg_hand, .ref azg_state, .ref azg_look, .int zg_size])), (azg_kind, .inl (cI, 25, .inl zg_kind)), (azg_hand, .inl (cI, 25, .inl zg_hand)), (azg_state, .inl (cI, 25, .inl zg_state)), (azg_look, .inl (cI, 25, .inl zg_look)), (zr, .inr (2, [.ref azr_sign, .ref azr_token, .ref azr_in, .ref azr_own, .ref azr_since, .int zr_size])), (azr_sign, .inl (cI, 240, .inl zr_sign)), (azr_token, .inl (cI, 240, .inl zr_token)), (azr_in, .inl (cI, 240, .inl zr_in)), (azr_own, .inl (cI, 240, .inl zr_own)), (azr_since, .inl (cI, 240, .inl zr_since))] H → va_D (fun _ => True) [(zd, .inr (5, [.ref zt, .ref zr, .ref zw, .ref zg, .ref zv, .ref zk])), (zg, .inr (1, [.ref azg_kind, .ref azg_hand, .ref azg_state, .ref azg_look, .int zg_size])), (azg_kind, .inl (cI, 25, .inl zg_kind)), (azg_hand, .inl (cI, 25, .inl zg_hand)), (azg_state, .inl (cI, 25, .inl zg_state)), (azg_look, .inl (cI, 25, .inl zg_look)), (zr, .inr (2, [.ref azr_sign, .ref azr_token, .ref azr_in, .ref azr_own, .ref azr_since, .int zr_size])), (azr_sign, .inl (cI, 240, .inl zr_sign)), (azr_token, .inl (cI, 240, .inl zr_token)), (azr_in, .inl (cI, 240, .inl zr_in)), (azr_own, .inl (cI, 240, .inl zr_own)), (azr_since, .inl (cI, 240, .inl zr_since))] → va_S A s.heap H locs → ∀ ls : Array Slot, lv_has ls 4 [(0, .ref zd), (1, .int v1_1), (2, .int v2_1)] → W p l e (headSpec wsX5_clashes ({ frames := 3, cells := 0, slots := 0, locals := 68 } : Room)).room s m ([.ref zd] : List Value).toArray below meth c H locs 0 0 QQ (F0 m 4 ls []) := by
    intro n_1
    induction n_1 with
    | zero => intro v1_1 v2_1 hi0_1 hi1_1 hmu; exact absurd hmu (Nat.not_lt_zero _)
    | succ n_1 ih_1 =>
      intro v1_1 v2_1 hi0_1 hi1_1 hmu_1 hI_1 H locs hP hD hS ls hl
      refine lv_iload_n hx hb dX5_clashes_4 rfl (lv_at hl 2 rfl) ?_
      refine lv_bipush (v := (24 : Int32)) hx hb dX5_clashes_5 (by decide) ?_
      refine lv_icmp_gt (tgt := 66) hx hb dX5_clashes_7 (by decide) (fun c_2 => ?_) (fun c_2 => ?_)
      · have tc_2 : (24 : Int) < v2_1.toInt := q_lt c_2
        refine lv_iload_n hx hb dX5_clashes_66 rfl (lv_at hl 1 rfl) ?_
        rw [hQQ]
        have hE : f_X5_clashes zg_kind zg_hand zg_state zg_look zg_size zr_token zr_in zr_size = v1_1 := (hI_1.trans (by rw [f_X5_clashes_L4, if_pos c_2]))
        exact W.iret (v := v1_1) hx hb hr (fun t ht hW => ⟨⟨v1_1, (), rfl, by rw [hE], trivial⟩, hS.F ht⟩) hS.2.2 dX5_clashes_67
      · have tc_2 : v2_1.toInt ≤ (24 : Int) := q_nlt c_2
        refine lv_aload_n hx hb dX5_clashes_10 rfl (lv_at hl 0 rfl) ?_
        refine va_get (D := (dC, dI)) (ci := 5) (v := .ref zg) (C := RX5) (T := TX5) (N := 6) hx hb hts in_X5_clashes_X5 hown hK hP 0 rfl rfl 3 (by decide) (hts _ m_X5_clashes_1) (fun _ h9 => h9) rfl dX5_clashes_11 ?_
        refine lv_iload_n hx hb dX5_clashes_14 rfl (lv_at hl 2 rfl) ?_
        have hPc := hP.sub (ws' := [(zg, .inr (1, [.ref azg_kind, .ref azg_hand, .ref azg_state, .ref azg_look, .int zg_size])), (azg_kind, .inl (cI, 25, .inl zg_kind)), (azg_hand, .inl (cI, 25, .inl zg_hand)), (azg_state, .inl (cI, 25, .inl zg_state)), (azg_look, .inl (cI, 25, .inl zg_look))]) [1, 2, 3, 4, 5] rfl
        have hDc := hD.sub (ws' := [(zg, .inr (1, [.ref azg_kind, .ref azg_hand, .ref azg_state, .ref azg_look, .int zg_size])), (azg_kind, .inl (cI, 25, .inl zg_kind)), (azg_hand, .inl (cI, 25, .inl zg_hand)), (azg_state, .inl (cI, 25, .inl zg_state)), (azg_look, .inl (cI, 25, .inl zg_look))]) [1, 2, 3, 4, 5] (by decide) rfl
        refine va_calli (va_runV (As := [.int v2_1]) (rest := []) ⟨hx, hb, hml, hown, hts⟩ (c_X1_names l dC dI cI cJ H.size zg azg_kind azg_hand azg_state azg_look zg_kind zg_hand zg_state zg_look zg_size v2_1) (cwV 1 hts gX5_clashes_X1_names rfl rfl rfl (by decide +kernel) ⟨Nat.le_of_ble_eq_true rfl, Nat.le_of_ble_eq_true rfl⟩) ⟨fun a U g mk q => ⟨q.1, PreW.call g mk a q.2⟩, va_recv hK hP (ci := 1) (q0 := 1) rfl rfl, fun U hU hW => ⟨rfl, PreW.mk2 hU hW hPc hK hN (hDc.weaken (fun _ _ _ _ => trivial))⟩⟩ rfl rfl hl.1 rfl (lv_room (Nat.le_of_ble_eq_true rfl)) dX5_clashes_15 ⟨Nat.le_of_ble_eq_true rfl, Nat.le_of_ble_eq_true rfl⟩) hS (fun q hq h => absurd hq (Nat.not_lt.mpr h)) (fun q h => hA q (Nat.le_trans hS.1 h)) (fun r_3 _u t H1 locs ht hvm hw hB hz1 hk1 hS => ?_)
        have hP := va_ro hP hk1
        generalize H1 = H at hP hS ⊢
        have hw : r_3 = f_X1_names zg_size v2_1 := hw
        subst hw
        obtain ⟨z_4, hz_4⟩ : ∃ z : Int32, z = f_X1_names zg_size v2_1 := ⟨_, rfl⟩
        refine lv_if_eq (tgt := 66) hx hb dX5_clashes_18 (by decide) (fun c_5 => ?_) (fun c_5 => ?_)
        · have tc_5 : z_4.toInt = (0 : Int) := by rw [hz_4]; exact q_eq c_5
          refine lv_iload_n hx hb dX5_clashes_66 rfl (lv_at hl 1 rfl) ?_
          rw [hQQ]
          have hE : f_X5_clashes zg_kind zg_hand zg_state zg_look zg_size zr_token zr_in zr_size = v1_1 := (hI_1.trans (by rw [f_X5_clashes_L4, if_neg c_2, if_pos c_5]))
          exact W.iret (v := v1_1) hx hb hr (fun t ht hW => ⟨⟨v1_1, (), rfl, by rw [hE], trivial⟩, hS.F ht⟩) hS.2.2 dX5_clashes_67
        · have tc_5 : ¬ z_4.toInt = (0 : Int) := by rw [hz_4]; exact q_ne c_5
          obtain ⟨b_6, b_7, b_8⟩ := names_in c_5
          refine lv_iload_n hx hb dX5_clashes_21 rfl (lv_at hl 2 rfl) ?_
          refine lv_iconst (v := (1 : Int32)) hx hb dX5_clashes_22 (by decide) ?_
          refine lv_iadd hx hb dX5_clashes_23 ?_
          obtain ⟨z_9, hz_9⟩ : ∃ z : Int32, z = (v2_1 + (1 : Int32)) := ⟨_, rfl⟩
          try have gz_9 : z_9.toInt = v2_1.toInt + (1 : Int) := by rw [hz_9]; exact ti_add2 rfl rfl (by omega) (by omega)
          refine lv_istore_n (lv' := [(3, .int (v2_1 + (1 : Int32))), (0, .ref zd), (1, .int v1_1), (2, .int v2_1)]) hx hb dX5_clashes_24 rfl hl (by decide) rfl (fun ls hl => ?_)
          have hloop_10 : ∀ (n_10 : Nat) (v1_10 : Int32) (v3_10 : Int32) , (0 ≤ v3_10.toInt) → (v3_10.toInt ≤ 25) → (25 - v3_10.toInt).toNat < n_10 → f_X5_clashes zg_kind zg_hand zg_state zg_look zg_size zr_token zr_in zr_size = f_X5_clashes_L25 zg_kind zg_hand zg_state zg_look zg_size zr_token zr_in zr_size v2_1 (f_X5_clashes_L4 zg_kind zg_hand zg_state zg_look zg_size zr_token zr_in zr_size n_1) n_10 v1_10 v3_10 → ∀ (H : Heap) (locs : List Loc), va_P (dC, dI) vwCl [(zd, .inr (5, [.ref zt, .ref zr, .ref zw, .ref zg, .ref zv, .ref zk])), (zg, .inr (1, [.ref azg_kind, .ref azg_hand, .ref azg_state, .ref azg_look, .int zg_size])), (azg_kind, .inl (cI, 25, .inl zg_kind)), (azg_hand, .inl (cI, 25, .inl zg_hand)), (azg_state, .inl (cI, 25, .inl zg_state)), (azg_look, .inl (cI, 25, .inl zg_look)), (zr, .inr (2, [.ref azr_sign, .ref azr_token, .ref azr_in, .ref azr_own, .ref azr_since, .int zr_size])), (azr_sign, .inl (cI, 240, .inl zr_sign)), (azr_token, .inl (cI, 240, .inl zr_token)), (azr_in, .inl (cI, 240, .inl zr_in)), (azr_own, .inl (cI, 240, .inl zr_own)), (azr_since, .inl (cI, 240, .inl zr_since))] H → va_D (fun _ => True) [(zd, .inr (5, [.ref zt, .ref zr, .ref zw, .ref zg, .ref zv, .ref zk])), (zg, .inr (1, [.ref azg_kind, .ref azg_hand, .ref azg_state, .ref azg_look, .int zg_size])), (azg_kind, .inl (cI, 25, .inl zg_kind)), (azg_hand, .inl (cI, 25, .inl zg_hand)), (azg_state, .inl (cI, 25, .inl zg_state)), (azg_look, .inl (cI, 25, .inl zg_look)), (zr, .inr (2, [.ref azr_sign, .ref azr_token, .ref azr_in, .ref azr_own, .ref azr_since, .int zr_size])), (azr_sign, .inl (cI, 240, .inl zr_sign)), (azr_token, .inl (cI, 240, .inl zr_token)), (azr_in, .inl (cI, 240, .inl zr_in)), (azr_own, .inl (cI, 240, .inl zr_own)), (azr_since, .inl (cI, 240, .inl zr_since))] → va_S A s.heap H locs → ∀ ls : Array Slot, lv_has ls 4 [(0, .ref zd), (1, .int v1_10), (2, .int v2_1), (3, .int v3_10)] → W p l e (headSpec wsX5_clashes ({ frames := 3, cells := 0, slots := 0, locals := 68 } : Room)).room s m ([.ref zd] : List Value).toArray below meth c H locs 0 0 QQ (F0 m 25 ls []) := by
            intro n_10
            induction n_10 with
            | zero => intro v1_10 v3_10 hi0_10 hi1_10 hmu; exact absurd hmu (Nat.not_lt_zero _)
            | succ n_10 ih_10 =>
              intro v1_10 v3_10 hi0_10 hi1_10 hmu_10 hI_10 H locs hP hD hS ls hl
              refine lv_iload_n hx hb dX5_clashes_25 rfl (lv_at hl 3 rfl) ?_
              refine lv_bipush (v := (24 : Int32)) hx hb dX5_clashes_26 (by decide) ?_
              refine lv_icmp_gt (tgt := 60) hx hb dX5_clashes_28 (by decide) (fun c_11 => ?_) (fun c_11 => ?_)
              · have tc_11 : (24 : Int) < v3_10.toInt := q_lt c_11
                refine lv_iinc (v := (v2_1 + (1 : Int32))) (lv' := [(2, .int (v2_1 + (1 : Int32))), (0, .ref zd), (1, .int v1_10), (3, .int v3_10)]) hx hb dX5_clashes_60 hl (k := 2) rfl rfl (by decide) rfl (fun ls hl => ?_)
                obtain ⟨z_12, hz_12⟩ : ∃ z : Int32, z = (v2_1 + (1 : Int32)) := ⟨_, rfl⟩
                try have gz_12 : z_12.toInt = v2_1.toInt + (1 : Int) := by rw [hz_12]; exact ti_add2 rfl rfl (by omega) (by omega)
                refine lv_goto (tgt := 4) hx hb dX5_clashes_63 (by decide) ?_
                exact ih_1 v1_10 (v2_1 + (1 : Int32)) (by rw [← hz_12]; omega) (by rw [← hz_12]; omega) (by rw [← hz_12]; omega) (hI_10.trans (by rw [f_X5_clashes_L25, if_pos c_11])) _ _ hP hD hS ls (lv_sub hl [1, 2, 0] rfl)
              · have tc_11 : v3_10.toInt ≤ (24 : Int) := q_nlt c_11
                refine lv_aload_n hx hb dX5_clashes_31 rfl (lv_at hl 0 rfl) ?_
                refine va_get (D := (dC, dI)) (ci := 5) (v := .ref zg) (C := RX5) (T := TX5) (N := 6) hx hb hts in_X5_clashes_X5 hown hK hP 0 rfl rfl 3 (by decide) (hts _ m_X5_clashes_1) (fun _ h9 => h9) rfl dX5_clashes_32 ?_
                refine lv_iload_n hx hb dX5_clashes_35 rfl (lv_at hl 3 rfl) ?_
                have hPc := hP.sub (ws' := [(zg, .inr (1, [.ref azg_kind, .ref azg_hand, .ref azg_state, .ref azg_look, .int zg_size])), (azg_kind, .inl (cI, 25, .inl zg_kind)), (azg_hand, .inl (cI, 25, .inl zg_hand)), (azg_state, .inl (cI, 25, .inl zg_state)), (azg_look, .inl (cI, 25, .inl zg_look))]) [1, 2, 3, 4, 5] rfl
                have hDc := hD.sub (ws' := [(zg, .inr (1, [.ref azg_kind, .ref azg_hand, .ref azg_state, .ref azg_look, .int zg_size])), (azg_kind, .inl (cI, 25, .inl zg_kind)), (azg_hand, .inl (cI, 25, .inl zg_hand)), (azg_state, .inl (cI, 25, .inl zg_state)), (azg_look, .inl (cI, 25, .inl zg_look))]) [1, 2, 3, 4, 5] (by decide) rfl
                refine va_calli (va_runV (As := [.int v3_10]) (rest := []) ⟨hx, hb, hml, hown, hts⟩ (c_X1_names l dC dI cI cJ H.size zg azg_kind azg_hand azg_state azg_look zg_kind zg_hand zg_state zg_look zg_size v3_10) (cwV 1 hts gX5_clashes_X1_names rfl rfl rfl (by decide +kernel) ⟨Nat.le_of_ble_eq_true rfl, Nat.le_of_ble_eq_true rfl⟩) ⟨fun a U g mk q => ⟨q.1, PreW.call g mk a q.2⟩, va_recv hK hP (ci := 1) (q0 := 1) rfl rfl, fun U hU hW => ⟨rfl, PreW.mk2 hU hW hPc hK hN (hDc.weaken (fun _ _ _ _ => trivial))⟩⟩ rfl rfl hl.1 rfl (lv_room (Nat.le_of_ble_eq_true rfl)) dX5_clashes_36 ⟨Nat.le_of_ble_eq_true rfl, Nat.le_of_ble_eq_true rfl⟩) hS (fun q hq h => absurd hq (Nat.not_lt.mpr h)) (fun q h => hA q (Nat.le_trans hS.1 h)) (fun r_13 _u t H1 locs ht hvm hw hB hz1 hk1 hS => ?_)
                have hP := va_ro hP hk1
                generalize H1 = H at hP hS ⊢
                have hw : r_13 = f_X1_names zg_size v3_10 := hw
                subst hw
                obtain ⟨z_14, hz_14⟩ : ∃ z : Int32, z = f_X1_names zg_size v3_10 := ⟨_, rfl⟩
                refine lv_if_eq (tgt := 60) hx hb dX5_clashes_39 (by decide) (fun c_15 => ?_) (fun c_15 => ?_)
                · have tc_15 : z_14.toInt = (0 : Int) := by rw [hz_14]; exact q_eq c_15
                  refine lv_iinc (v := (v2_1 + (1 : Int32))) (lv' := [(2, .int (v2_1 + (1 : Int32))), (0, .ref zd), (1, .int v1_10), (3, .int v3_10)]) hx hb dX5_clashes_60 hl (k := 2) rfl rfl (by decide) rfl (fun ls hl => ?_)
                  obtain ⟨z_16, hz_16⟩ : ∃ z : Int32, z = (v2_1 + (1 : Int32)) := ⟨_, rfl⟩
                  try have gz_16 : z_16.toInt = v2_1.toInt + (1 : Int) := by rw [hz_16]; exact ti_add2 rfl rfl (by omega) (by omega)
                  refine lv_goto (tgt := 4) hx hb dX5_clashes_63 (by decide) ?_
                  exact ih_1 v1_10 (v2_1 + (1 : Int32)) (by rw [← hz_16]; omega) (by rw [← hz_16]; omega) (by rw [← hz_16]; omega) (hI_10.trans (by rw [f_X5_clashes_L25, if_neg c_11, if_pos c_15])) _ _ hP hD hS ls (lv_sub hl [1, 2, 0] rfl)
                · have tc_15 : ¬ z_14.toInt = (0 : Int) := by rw [hz_14]; exact q_ne c_15
                  obtain ⟨b_17, b_18, b_19⟩ := names_in c_15
                  refine lv_aload_n hx hb dX5_clashes_42 rfl (lv_at hl 0 rfl) ?_
                  refine lv_iload_n hx hb dX5_clashes_43 rfl (lv_at hl 2 rfl) ?_
                  refine lv_iload_n hx hb dX5_clashes_44 rfl (lv_at hl 3 rfl) ?_
                  have hPc := hP.sub (ws' := [(zd, .inr (5, [.ref zt, .ref zr, .ref zw, .ref zg, .ref zv, .ref zk])), (zg, .inr (1, [.ref azg_kind, .ref azg_hand, .ref azg_state, .ref azg_look, .int zg_size])), (azg_kind, .inl (cI, 25, .inl zg_kind)), (azg_hand, .inl (cI, 25, .inl zg_hand)), (azg_state, .inl (cI, 25, .inl zg_state)), (azg_look, .inl (cI, 25, .inl zg_look)), (zr, .inr (2, [.ref azr_sign, .ref azr_token, .ref azr_in, .ref azr_own, .ref azr_since, .int zr_size])), (azr_sign, .inl (cI, 240, .inl zr_sign)), (azr_token, .inl (cI, 240, .inl zr_token)), (azr_in, .inl (cI, 240, .inl zr_in)), (azr_own, .inl (cI, 240, .inl zr_own)), (azr_since, .inl (cI, 240, .inl zr_since))]) [0, 1, 2, 3, 4, 5, 6, 7, 8, 9, 10, 11] rfl
                  have hDc := hD.sub (ws' := [(zd, .inr (5, [.ref zt, .ref zr, .ref zw, .ref zg, .ref zv, .ref zk])), (zg, .inr (1, [.ref azg_kind, .ref azg_hand, .ref azg_state, .ref azg_look, .int zg_size])), (azg_kind, .inl (cI, 25, .inl zg_kind)), (azg_hand, .inl (cI, 25, .inl zg_hand)), (azg_state, .inl (cI, 25, .inl zg_state)), (azg_look, .inl (cI, 25, .inl zg_look)), (zr, .inr (2, [.ref azr_sign, .ref azr_token, .ref azr_in, .ref azr_own, .ref azr_since, .int zr_size])), (azr_sign, .inl (cI, 240, .inl zr_sign)), (azr_token, .inl (cI, 240, .inl zr_token)), (azr_in, .inl (cI, 240, .inl zr_in)), (azr_own, .inl (cI, 240, .inl zr_own)), (azr_since, .inl (cI, 240, .inl zr_since))]) [0, 1, 2, 3, 4, 5, 6, 7, 8, 9, 10, 11] (by decide) rfl
                  refine va_calli (va_runV (As := [.int v2_1, .int v3_10]) (rest := []) ⟨hx, hb, hml, hown, hts⟩ (c_X5_clashOf l dC dI cI cJ H.size zd zg azg_kind azg_hand azg_state azg_look zr azr_sign azr_token azr_in azr_own azr_since zt zw zv zk zg_kind zg_hand zg_state zg_look zr_sign zr_token zr_in zr_own zr_since zg_size zr_size v2_1 v3_10 (by first | omega | decide | assumption) (by first | omega | decide | assumption) (by first | omega | decide | assumption) (by first | omega | decide | assumption)) (cwV 2 hts gX5_clashes_X5_clashOf rfl rfl rfl (by decide +kernel) ⟨Nat.le_of_ble_eq_true rfl, Nat.le_of_ble_eq_true rfl⟩) ⟨fun a U g mk q => ⟨q.1, PreW.call g mk a q.2⟩, va_recv hK hP (ci := 5) (q0 := 0) rfl rfl, fun U hU hW => ⟨rfl, PreW.mk2 hU hW hPc hK hN (hDc.weaken (fun _ _ _ _ => trivial))⟩⟩ rfl rfl hl.1 rfl (lv_room (Nat.le_of_ble_eq_true rfl)) dX5_clashes_45 ⟨Nat.le_of_ble_eq_true rfl, Nat.le_of_ble_eq_true rfl⟩) hS (fun q hq h => absurd hq (Nat.not_lt.mpr h)) (fun q h => hA q (Nat.le_trans hS.1 h)) (fun r_20 _u t H1 locs ht hvm hw hB hz1 hk1 hS => ?_)
                  have hP := va_ro hP hk1
                  generalize H1 = H at hP hS ⊢
                  have hw : r_20 = f_X5_clashOf zg_kind zg_hand zg_state zg_look zr_token zr_in zr_size v2_1 v3_10 := hw
                  subst hw
                  obtain ⟨z_21, hz_21⟩ : ∃ z : Int32, z = f_X5_clashOf zg_kind zg_hand zg_state zg_look zr_token zr_in zr_size v2_1 v3_10 := ⟨_, rfl⟩
                  refine lv_if_eq (tgt := 54) hx hb dX5_clashes_48 (by decide) (fun c_22 => ?_) (fun c_22 => ?_)
                  · have tc_22 : z_21.toInt = (0 : Int) := by rw [hz_21]; exact q_eq c_22
                    refine lv_iinc (v := (v3_10 + (1 : Int32))) (lv' := [(3, .int (v3_10 + (1 : Int32))), (0, .ref zd), (1, .int v1_10), (2, .int v2_1)]) hx hb dX5_clashes_54 hl (k := 3) rfl rfl (by decide) rfl (fun ls hl => ?_)
                    obtain ⟨z_23, hz_23⟩ : ∃ z : Int32, z = (v3_10 + (1 : Int32)) := ⟨_, rfl⟩
                    try have gz_23 : z_23.toInt = v3_10.toInt + (1 : Int) := by rw [hz_23]; exact ti_add2 rfl rfl (by omega) (by omega)
                    refine lv_goto (tgt := 25) hx hb dX5_clashes_57 (by decide) ?_
                    exact ih_10 v1_10 (v3_10 + (1 : Int32)) (by rw [← hz_23]; omega) (by rw [← hz_23]; omega) (by rw [← hz_23]; omega) (hI_10.trans (by rw [f_X5_clashes_L25, if_neg c_11, if_neg c_15, if_pos c_22])) _ _ hP hD hS ls (lv_sub hl [1, 2, 3, 0] rfl)
                  · have tc_22 : ¬ z_21.toInt = (0 : Int) := by rw [hz_21]; exact q_ne c_22
                    refine lv_iinc (v := (v1_10 + (1 : Int32))) (lv' := [(1, .int (v1_10 + (1 : Int32))), (0, .ref zd), (2, .int v2_1), (3, .int v3_10)]) hx hb dX5_clashes_51 hl (k := 1) rfl rfl (by decide) rfl (fun ls hl => ?_)
                    obtain ⟨z_24, hz_24⟩ : ∃ z : Int32, z = (v1_10 + (1 : Int32)) := ⟨_, rfl⟩
                    try have gz_24 : z_24.toInt = v1_10.toInt + (1 : Int) := by rw [hz_24]; exact ti_add2 rfl rfl (by omega) (by omega)
                    refine lv_iinc (v := (v3_10 + (1 : Int32))) (lv' := [(3, .int (v3_10 + (1 : Int32))), (1, .int (v1_10 + (1 : Int32))), (0, .ref zd), (2, .int v2_1)]) hx hb dX5_clashes_54 hl (k := 3) rfl rfl (by decide) rfl (fun ls hl => ?_)
                    obtain ⟨z_25, hz_25⟩ : ∃ z : Int32, z = (v3_10 + (1 : Int32)) := ⟨_, rfl⟩
                    try have gz_25 : z_25.toInt = v3_10.toInt + (1 : Int) := by rw [hz_25]; exact ti_add2 rfl rfl (by omega) (by omega)
                    refine lv_goto (tgt := 25) hx hb dX5_clashes_57 (by decide) ?_
                    exact ih_10 (v1_10 + (1 : Int32)) (v3_10 + (1 : Int32)) (by rw [← hz_25]; omega) (by rw [← hz_25]; omega) (by rw [← hz_25]; omega) (hI_10.trans (by rw [f_X5_clashes_L25, if_neg c_11, if_neg c_15, if_neg c_22])) _ _ hP hD hS ls (lv_sub hl [2, 1, 3, 0] rfl)
          exact hloop_10 26 v1_1 (v2_1 + (1 : Int32)) (by rw [← hz_9]; omega) (by rw [← hz_9]; omega) (by rw [← hz_9]; omega) (hI_1.trans (by rw [f_X5_clashes_L4, if_neg c_2, if_neg c_5])) _ _ hP hD hS ls (lv_sub hl [1, 2, 3, 0] rfl)
  exact hloop_1 26 (0 : Int32) (1 : Int32) (by first | omega | exact (show 0 ≤ (1 : Int) by omega) | assumption | trivial) (by first | omega | exact (show (1 : Int) ≤ 25 by omega) | assumption | trivial) (by first | omega | exact (show (25 - (1 : Int)).toNat < 26 by omega)) (by rw [f_X5_clashes]) _ _ hP hD hS ls (lv_sub hl [2, 1, 0] rfl)
