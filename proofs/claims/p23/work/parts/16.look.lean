theorem dX5_lookAt_0 : decode cX5_lookAt 0 = .ok (.aload_n 0, 1) := by decide +kernel
theorem dX5_lookAt_1 : decode cX5_lookAt 1 = .ok (.getfield 29, 3) := by decide +kernel
theorem in_X5_lookAt_X5 : ∀ w ∈ wsX50, w ∈ wsX5_lookAt := by decide +kernel
theorem m_X5_lookAt_1 : (.fieldLink RX5 29 "RedlineDesk" "ledger" "LRedlineDesk$Ledger;" : Cond) ∈ wsX5_lookAt := List.mem_of_getElem? (i := 1) (by decide +kernel)
theorem dX5_lookAt_4 : decode cX5_lookAt 4 = .ok (.iload_n 1, 1) := by decide +kernel
theorem dX5_lookAt_5 : decode cX5_lookAt 5 = .ok (.invokevirtual 228, 3) := by decide +kernel
set_option maxRecDepth 20000 in
theorem ggX5_lookAt_X1_counting : GoodIn wsX5_lookAt wsX1_counting := goodIn_r _ [8, 9, 10, 11, 7, 12, 13, 14, 15, 16, 17, 18, 19, 20, 21, 22, 23, 24, 25, 26, 66, 67, 68, 69, 70] (by decide +kernel) (by decide +kernel)
set_option maxRecDepth 20000 in
theorem gX5_lookAt_X1_counting : GoodIn wsX5_lookAt (wsV RX5 228 RX1 yX1_counting wsX1_counting) := goodIn_app (goodIn_of _ (by decide +kernel)) ggX5_lookAt_X1_counting
theorem dX5_lookAt_8 : decode cX5_lookAt 8 = .ok (.istore_n 2, 1) := by decide +kernel
theorem dX5_lookAt_9 : decode cX5_lookAt 9 = .ok (.aload_n 0, 1) := by decide +kernel
theorem dX5_lookAt_10 : decode cX5_lookAt 10 = .ok (.getfield 29, 3) := by decide +kernel
theorem dX5_lookAt_13 : decode cX5_lookAt 13 = .ok (.iconst 0, 1) := by decide +kernel
theorem dX5_lookAt_14 : decode cX5_lookAt 14 = .ok (.invokevirtual 94, 3) := by decide +kernel
set_option maxRecDepth 20000 in
theorem ggX5_lookAt_X1_ofKind : GoodIn wsX5_lookAt wsX1_ofKind := goodIn_r _ [30, 31, 14, 15, 16, 7, 17, 18, 19, 20, 21, 66, 67, 68, 69, 70] (by decide +kernel) (by decide +kernel)
set_option maxRecDepth 20000 in
theorem gX5_lookAt_X1_ofKind : GoodIn wsX5_lookAt (wsV RX5 94 RX1 yX1_ofKind wsX1_ofKind) := goodIn_app (goodIn_of _ (by decide +kernel)) ggX5_lookAt_X1_ofKind
theorem dX5_lookAt_17 : decode cX5_lookAt 17 = .ok (.iload_n 2, 1) := by decide +kernel
theorem dX5_lookAt_18 : decode cX5_lookAt 18 = .ok (.iconst (-1), 1) := by decide +kernel
theorem dX5_lookAt_19 : decode cX5_lookAt 19 = .ok (.ixor, 1) := by decide +kernel
theorem dX5_lookAt_20 : decode cX5_lookAt 20 = .ok (.iand, 1) := by decide +kernel
theorem dX5_lookAt_21 : decode cX5_lookAt 21 = .ok (.aload_n 0, 1) := by decide +kernel
theorem dX5_lookAt_22 : decode cX5_lookAt 22 = .ok (.getfield 29, 3) := by decide +kernel
theorem dX5_lookAt_25 : decode cX5_lookAt 25 = .ok (.iconst 1, 1) := by decide +kernel
theorem dX5_lookAt_26 : decode cX5_lookAt 26 = .ok (.invokevirtual 94, 3) := by decide +kernel
theorem dX5_lookAt_29 : decode cX5_lookAt 29 = .ok (.iload_n 2, 1) := by decide +kernel
theorem dX5_lookAt_30 : decode cX5_lookAt 30 = .ok (.iand, 1) := by decide +kernel
theorem dX5_lookAt_31 : decode cX5_lookAt 31 = .ok (.ior, 1) := by decide +kernel
theorem dX5_lookAt_32 : decode cX5_lookAt 32 = .ok (.istore_n 3, 1) := by decide +kernel
theorem dX5_lookAt_33 : decode cX5_lookAt 33 = .ok (.aload_n 0, 1) := by decide +kernel
theorem dX5_lookAt_34 : decode cX5_lookAt 34 = .ok (.getfield 36, 3) := by decide +kernel
theorem m_X5_lookAt_2 : (.fieldLink RX5 36 "RedlineDesk" "shown" "LRedlineDesk$View;" : Cond) ∈ wsX5_lookAt := List.mem_of_getElem? (i := 2) (by decide +kernel)
theorem dX5_lookAt_37 : decode cX5_lookAt 37 = .ok (.aload_n 0, 1) := by decide +kernel
theorem dX5_lookAt_38 : decode cX5_lookAt 38 = .ok (.getfield 19, 3) := by decide +kernel
theorem m_X5_lookAt_3 : (.fieldLink RX5 19 "RedlineDesk" "row" "LRedlineDesk$Row;" : Cond) ∈ wsX5_lookAt := List.mem_of_getElem? (i := 3) (by decide +kernel)
theorem dX5_lookAt_41 : decode cX5_lookAt 41 = .ok (.iload_n 2, 1) := by decide +kernel
theorem dX5_lookAt_42 : decode cX5_lookAt 42 = .ok (.aload_n 0, 1) := by decide +kernel
theorem dX5_lookAt_43 : decode cX5_lookAt 43 = .ok (.getfield 29, 3) := by decide +kernel
theorem dX5_lookAt_46 : decode cX5_lookAt 46 = .ok (.iconst 2, 1) := by decide +kernel
theorem dX5_lookAt_47 : decode cX5_lookAt 47 = .ok (.invokevirtual 94, 3) := by decide +kernel
theorem dX5_lookAt_50 : decode cX5_lookAt 50 = .ok (.iload_n 2, 1) := by decide +kernel
theorem dX5_lookAt_51 : decode cX5_lookAt 51 = .ok (.iand, 1) := by decide +kernel
theorem dX5_lookAt_52 : decode cX5_lookAt 52 = .ok (.iload_n 3, 1) := by decide +kernel
theorem dX5_lookAt_53 : decode cX5_lookAt 53 = .ok (.invokevirtual 208, 3) := by decide +kernel
set_option maxRecDepth 20000 in
theorem ggX5_lookAt_X4_gatherAll : GoodIn wsX5_lookAt wsX4_gatherAll := goodIn_r _ [36, 37, 38, 39, 40, 41, 42, 43, 44, 45, 46, 47, 48, 20, 49, 50, 19, 21, 51, 52, 35, 53, 54, 55, 56, 57, 58, 59, 71, 72, 73, 74, 75, 76, 77, 78, 79, 80, 81] (by decide +kernel) (by decide +kernel)
set_option maxRecDepth 20000 in
theorem gX5_lookAt_X4_gatherAll : GoodIn wsX5_lookAt (wsV RX5 208 RX4 yX4_gatherAll wsX4_gatherAll) := goodIn_app (goodIn_of _ (by decide +kernel)) ggX5_lookAt_X4_gatherAll
theorem dX5_lookAt_56 : decode cX5_lookAt 56 = .ok (.return_, 1) := by decide +kernel
def f_X5_lookAt_k56_u_9 (u_9 : (Nat → Int32) × (Nat → Int32) × Int32 × Int32 × Int32) : (Nat → Int32) × (Nat → Int32) × Int32 × Int32 × Int32 := (u_9.1, u_9.2.1, u_9.2.2.1, u_9.2.2.2.1, u_9.2.2.2.2)
def f_X5_lookAt (zg_kind : Nat → Int32) (zg_hand : Nat → Int32) (zg_state : Nat → Int32) (zg_size : Int32) (zv_spots : Nat → Int32) (zv_homes : Nat → Int32) (zr_token : Nat → Int32) (zr_in : Nat → Int32) (zr_size : Int32) (a_v : Int32) : (Nat → Int32) × (Nat → Int32) × Int32 × Int32 × Int32 := f_X5_lookAt_k56_u_9 (f_X4_gatherAll zv_spots zv_homes zr_token zr_in zr_size (f_X1_counting zg_hand zg_state zg_size a_v) ((f_X1_ofKind zg_kind zg_size (2 : Int32)) &&& (f_X1_counting zg_hand zg_state zg_size a_v)) (((f_X1_ofKind zg_kind zg_size (0 : Int32)) &&& ((f_X1_counting zg_hand zg_state zg_size a_v) ^^^ (-1 : Int32))) ||| ((f_X1_ofKind zg_kind zg_size (1 : Int32)) &&& (f_X1_counting zg_hand zg_state zg_size a_v))))
set_option maxHeartbeats 4000000 in
set_option maxRecDepth 100000 in
theorem c_X5_lookAt (l : Launch) (dC : Nat → ClassId) (dI : Nat → Nat → Nat) (cI cJ : ClassId) (sz : Nat) (zd zg azg_kind azg_hand azg_state azg_look zv azv_spots azv_homes zr azr_sign azr_token azr_in azr_own azr_since zt zw zk : Nat) (zg_kind zg_hand zg_state zg_look zv_spots zv_homes zr_sign zr_token zr_in zr_own zr_since : Nat → Int32) (zg_size zv_size zv_counts zv_hides zr_size : Int32) (a_v : Int32) : Met l yX5_lookAt wsX5_lookAt ({ frames := 30, cells := 0, slots := 0, locals := 760 } : Room) (va_Pc [.ref zd, .int a_v] (PreW dC dI cI cJ sz [(zd, .inr (5, [.ref zt, .ref zr, .ref zw, .ref zg, .ref zv, .ref zk])), (zg, .inr (1, [.ref azg_kind, .ref azg_hand, .ref azg_state, .ref azg_look, .int zg_size])), (azg_kind, .inl (cI, 25, .inl zg_kind)), (azg_hand, .inl (cI, 25, .inl zg_hand)), (azg_state, .inl (cI, 25, .inl zg_state)), (azg_look, .inl (cI, 25, .inl zg_look)), (zv, .inr (4, [.ref azv_spots, .ref azv_homes, .int zv_size, .int zv_counts, .int zv_hides])), (azv_spots, .inl (cI, 240, .inl zv_spots)), (azv_homes, .inl (cI, 240, .inl zv_homes)), (zr, .inr (2, [.ref azr_sign, .ref azr_token, .ref azr_in, .ref azr_own, .ref azr_since, .int zr_size])), (azr_sign, .inl (cI, 240, .inl zr_sign)), (azr_token, .inl (cI, 240, .inl zr_token)), (azr_in, .inl (cI, 240, .inl zr_in)), (azr_own, .inl (cI, 240, .inl zr_own)), (azr_since, .inl (cI, 240, .inl zr_since))])) (va_Qv (fun (u : (Nat → Int32) × (Nat → Int32) × Int32 × Int32 × Int32) => u = f_X5_lookAt zg_kind zg_hand zg_state zg_size zv_spots zv_homes zr_token zr_in zr_size a_v) (fun (u : (Nat → Int32) × (Nat → Int32) × Int32 × Int32 × Int32) t => PostW dC dI [(zd, .inr (5, [.ref zt, .ref zr, .ref zw, .ref zg, .ref zv, .ref zk])), (zg, .inr (1, [.ref azg_kind, .ref azg_hand, .ref azg_state, .ref azg_look, .int zg_size])), (azg_kind, .inl (cI, 25, .inl zg_kind)), (azg_hand, .inl (cI, 25, .inl zg_hand)), (azg_state, .inl (cI, 25, .inl zg_state)), (azg_look, .inl (cI, 25, .inl zg_look)), (zv, .inr (4, [.ref azv_spots, .ref azv_homes, .int u.2.2.1, .int u.2.2.2.1, .int u.2.2.2.2])), (azv_spots, .inl (cI, 240, .inl u.1)), (azv_homes, .inl (cI, 240, .inl u.2.1)), (zr, .inr (2, [.ref azr_sign, .ref azr_token, .ref azr_in, .ref azr_own, .ref azr_since, .int zr_size])), (azr_sign, .inl (cI, 240, .inl zr_sign)), (azr_token, .inl (cI, 240, .inl zr_token)), (azr_in, .inl (cI, 240, .inl zr_in)), (azr_own, .inl (cI, 240, .inl zr_own)), (azr_since, .inl (cI, 240, .inl zr_since))] t (va_A [(zd, .inr (5, [.ref zt, .ref zr, .ref zw, .ref zg, .ref zv, .ref zk])), (zg, .inr (1, [.ref azg_kind, .ref azg_hand, .ref azg_state, .ref azg_look, .int zg_size])), (azg_kind, .inl (cI, 25, .inl zg_kind)), (azg_hand, .inl (cI, 25, .inl zg_hand)), (azg_state, .inl (cI, 25, .inl zg_state)), (azg_look, .inl (cI, 25, .inl zg_look)), (zv, .inr (4, [.ref azv_spots, .ref azv_homes, .int zv_size, .int zv_counts, .int zv_hides])), (azv_spots, .inl (cI, 240, .inl zv_spots)), (azv_homes, .inl (cI, 240, .inl zv_homes)), (zr, .inr (2, [.ref azr_sign, .ref azr_token, .ref azr_in, .ref azr_own, .ref azr_since, .int zr_size])), (azr_sign, .inl (cI, 240, .inl zr_sign)), (azr_token, .inl (cI, 240, .inl zr_token)), (azr_in, .inl (cI, 240, .inl zr_in)), (azr_own, .inl (cI, 240, .inl zr_own)), (azr_since, .inl (cI, 240, .inl zr_since))] sz)) (va_A [(zd, .inr (5, [.ref zt, .ref zr, .ref zw, .ref zg, .ref zv, .ref zk])), (zg, .inr (1, [.ref azg_kind, .ref azg_hand, .ref azg_state, .ref azg_look, .int zg_size])), (azg_kind, .inl (cI, 25, .inl zg_kind)), (azg_hand, .inl (cI, 25, .inl zg_hand)), (azg_state, .inl (cI, 25, .inl zg_state)), (azg_look, .inl (cI, 25, .inl zg_look)), (zv, .inr (4, [.ref azv_spots, .ref azv_homes, .int zv_size, .int zv_counts, .int zv_hides])), (azv_spots, .inl (cI, 240, .inl zv_spots)), (azv_homes, .inl (cI, 240, .inl zv_homes)), (zr, .inr (2, [.ref azr_sign, .ref azr_token, .ref azr_in, .ref azr_own, .ref azr_since, .int zr_size])), (azr_sign, .inl (cI, 240, .inl zr_sign)), (azr_token, .inl (cI, 240, .inl zr_token)), (azr_in, .inl (cI, 240, .inl zr_in)), (azr_own, .inl (cI, 240, .inl zr_own)), (azr_since, .inl (cI, 240, .inl zr_since))] sz)) 0 0 (va_A [(zd, .inr (5, [.ref zt, .ref zr, .ref zw, .ref zg, .ref zv, .ref zk])), (zg, .inr (1, [.ref azg_kind, .ref azg_hand, .ref azg_state, .ref azg_look, .int zg_size])), (azg_kind, .inl (cI, 25, .inl zg_kind)), (azg_hand, .inl (cI, 25, .inl zg_hand)), (azg_state, .inl (cI, 25, .inl zg_state)), (azg_look, .inl (cI, 25, .inl zg_look)), (zv, .inr (4, [.ref azv_spots, .ref azv_homes, .int zv_size, .int zv_counts, .int zv_hides])), (azv_spots, .inl (cI, 240, .inl zv_spots)), (azv_homes, .inl (cI, 240, .inl zv_homes)), (zr, .inr (2, [.ref azr_sign, .ref azr_token, .ref azr_in, .ref azr_own, .ref azr_since, .int zr_size])), (azr_sign, .inl (cI, 240, .inl zr_sign)), (azr_token, .inl (cI, 240, .inl zr_token)), (azr_in, .inl (cI, 240, .inl zr_in)), (azr_own, .inl (cI, 240, .inl zr_own)), (azr_since, .inl (cI, 240, .inl zr_since))] sz) := by
  refine Met.ofW (cc := cX5_lookAt) (maxL := 4) (ret := none) (by decide) rfl ?_
  intro p e s m args below meth c s₁ B hml hv
  obtain ⟨rfl, hsz, hP, hK, hN, hD0⟩ := hv
  have hx := B.exec
  have hb := B.bytes
  have hr := B.returns
  have hts := atoms_spec (ws := wsX5_lookAt) B.pre
  have hown : s.vm.findClass RX5 = some m.cls := findClass_of_methodNamed B.named
  have hlocks := B.notSynchronized
  subst hsz
  have hD := hD0.self (sz := s.heap.size)
  generalize hAe : va_A [(zd, .inr (5, [.ref zt, .ref zr, .ref zw, .ref zg, .ref zv, .ref zk])), (zg, .inr (1, [.ref azg_kind, .ref azg_hand, .ref azg_state, .ref azg_look, .int zg_size])), (azg_kind, .inl (cI, 25, .inl zg_kind)), (azg_hand, .inl (cI, 25, .inl zg_hand)), (azg_state, .inl (cI, 25, .inl zg_state)), (azg_look, .inl (cI, 25, .inl zg_look)), (zv, .inr (4, [.ref azv_spots, .ref azv_homes, .int zv_size, .int zv_counts, .int zv_hides])), (azv_spots, .inl (cI, 240, .inl zv_spots)), (azv_homes, .inl (cI, 240, .inl zv_homes)), (zr, .inr (2, [.ref azr_sign, .ref azr_token, .ref azr_in, .ref azr_own, .ref azr_since, .int zr_size])), (azr_sign, .inl (cI, 240, .inl zr_sign)), (azr_token, .inl (cI, 240, .inl zr_token)), (azr_in, .inl (cI, 240, .inl zr_in)), (azr_own, .inl (cI, 240, .inl zr_own)), (azr_since, .inl (cI, 240, .inl zr_since))] s.heap.size = A at hD ⊢
  have hA : ∀ q : Nat, s.heap.size ≤ q → A q := fun q h => by rw [← hAe]; exact Or.inr h
  have hS : va_S A s.heap s.heap [] := va_S.rf
  have hP : va_P (dC, dI) vwCl [(zd, .inr (5, [.ref zt, .ref zr, .ref zw, .ref zg, .ref zv, .ref zk])), (zg, .inr (1, [.ref azg_kind, .ref azg_hand, .ref azg_state, .ref azg_look, .int zg_size])), (azg_kind, .inl (cI, 25, .inl zg_kind)), (azg_hand, .inl (cI, 25, .inl zg_hand)), (azg_state, .inl (cI, 25, .inl zg_state)), (azg_look, .inl (cI, 25, .inl zg_look)), (zv, .inr (4, [.ref azv_spots, .ref azv_homes, .int zv_size, .int zv_counts, .int zv_hides])), (azv_spots, .inl (cI, 240, .inl zv_spots)), (azv_homes, .inl (cI, 240, .inl zv_homes)), (zr, .inr (2, [.ref azr_sign, .ref azr_token, .ref azr_in, .ref azr_own, .ref azr_since, .int zr_size])), (azr_sign, .inl (cI, 240, .inl zr_sign)), (azr_token, .inl (cI, 240, .inl zr_token)), (azr_in, .inl (cI, 240, .inl zr_in)), (azr_own, .inl (cI, 240, .inl zr_own)), (azr_since, .inl (cI, 240, .inl zr_since))] s.heap := hP
  have hl := lv_entry ([.ref zd, .int a_v]) (n := 4) (Nat.le_of_ble_eq_true rfl)
  rw [lg_entry_eq]
  generalize (lg_sl ([.ref zd, .int a_v]) ++ List.replicate (4 - (lg_sl ([.ref zd, .int a_v])).length) Slot.unset).toArray = ls at hl ⊢
  have hl : lv_has ls 4 [(0, .ref zd), (1, .int a_v)] := hl
  refine lv_aload_n hx hb dX5_lookAt_0 rfl (lv_at hl 0 rfl) ?_
  refine va_get (D := (dC, dI)) (ci := 5) (v := .ref zg) (C := RX5) (T := TX5) (N := 6) hx hb hts in_X5_lookAt_X5 hown hK hP 0 rfl rfl 3 (by decide) (hts _ m_X5_lookAt_1) (fun _ h9 => h9) rfl dX5_lookAt_1 ?_
  refine lv_iload_n hx hb dX5_lookAt_4 rfl (lv_at hl 1 rfl) ?_
  have hPc := hP.sub (ws' := [(zg, .inr (1, [.ref azg_kind, .ref azg_hand, .ref azg_state, .ref azg_look, .int zg_size])), (azg_kind, .inl (cI, 25, .inl zg_kind)), (azg_hand, .inl (cI, 25, .inl zg_hand)), (azg_state, .inl (cI, 25, .inl zg_state)), (azg_look, .inl (cI, 25, .inl zg_look))]) [1, 2, 3, 4, 5] rfl
  have hDc := hD.sub (ws' := [(zg, .inr (1, [.ref azg_kind, .ref azg_hand, .ref azg_state, .ref azg_look, .int zg_size])), (azg_kind, .inl (cI, 25, .inl zg_kind)), (azg_hand, .inl (cI, 25, .inl zg_hand)), (azg_state, .inl (cI, 25, .inl zg_state)), (azg_look, .inl (cI, 25, .inl zg_look))]) [1, 2, 3, 4, 5] (by decide) rfl
  refine va_calli (va_runV (As := [.int a_v]) (rest := []) ⟨hx, hb, hml, hown, hts⟩ (c_X1_counting l dC dI cI cJ s.heap.size zg azg_kind azg_hand azg_state azg_look zg_kind zg_hand zg_state zg_look zg_size a_v) (cwV 1 hts gX5_lookAt_X1_counting rfl rfl rfl (by decide +kernel) ⟨Nat.le_of_ble_eq_true rfl, Nat.le_of_ble_eq_true rfl⟩) ⟨fun a U g mk q => ⟨q.1, PreW.call g mk a q.2⟩, va_recv hK hP (ci := 1) (q0 := 1) rfl rfl, fun U hU hW => ⟨rfl, PreW.mk2 hU hW hPc hK hN (hDc.weaken (fun _ _ _ _ => trivial))⟩⟩ rfl rfl hl.1 rfl (lv_room (Nat.le_of_ble_eq_true rfl)) dX5_lookAt_5 ⟨Nat.le_of_ble_eq_true rfl, Nat.le_of_ble_eq_true rfl⟩) hS (fun q hq h => absurd hq (Nat.not_lt.mpr h)) (fun q h => hA q (Nat.le_trans hS.1 h)) (fun r_1 _u t H1 locs ht hvm hw hB hz1 hk1 hS => ?_)
  have hP := va_ro hP hk1
  generalize H1 = H at hP hS ⊢
  have hw : r_1 = f_X1_counting zg_hand zg_state zg_size a_v := hw
  subst hw
  obtain ⟨z_2, hz_2⟩ : ∃ z : Int32, z = f_X1_counting zg_hand zg_state zg_size a_v := ⟨_, rfl⟩
  refine lv_istore_n (lv' := [(2, .int (f_X1_counting zg_hand zg_state zg_size a_v)), (0, .ref zd), (1, .int a_v)]) hx hb dX5_lookAt_8 rfl hl (by decide) rfl (fun ls hl => ?_)
  refine lv_aload_n hx hb dX5_lookAt_9 rfl (lv_at hl 1 rfl) ?_
  refine va_get (D := (dC, dI)) (ci := 5) (v := .ref zg) (C := RX5) (T := TX5) (N := 6) hx hb hts in_X5_lookAt_X5 hown hK hP 0 rfl rfl 3 (by decide) (hts _ m_X5_lookAt_1) (fun _ h9 => h9) rfl dX5_lookAt_10 ?_
  refine lv_iconst (v := (0 : Int32)) hx hb dX5_lookAt_13 (by decide) ?_
  have hPc := hP.sub (ws' := [(zg, .inr (1, [.ref azg_kind, .ref azg_hand, .ref azg_state, .ref azg_look, .int zg_size])), (azg_kind, .inl (cI, 25, .inl zg_kind)), (azg_hand, .inl (cI, 25, .inl zg_hand)), (azg_state, .inl (cI, 25, .inl zg_state)), (azg_look, .inl (cI, 25, .inl zg_look))]) [1, 2, 3, 4, 5] rfl
  have hDc := hD.sub (ws' := [(zg, .inr (1, [.ref azg_kind, .ref azg_hand, .ref azg_state, .ref azg_look, .int zg_size])), (azg_kind, .inl (cI, 25, .inl zg_kind)), (azg_hand, .inl (cI, 25, .inl zg_hand)), (azg_state, .inl (cI, 25, .inl zg_state)), (azg_look, .inl (cI, 25, .inl zg_look))]) [1, 2, 3, 4, 5] (by decide) rfl
  refine va_calli (va_runV (As := [.int (0 : Int32)]) (rest := []) ⟨hx, hb, hml, hown, hts⟩ (c_X1_ofKind l dC dI cI cJ H.size zg azg_kind azg_hand azg_state azg_look zg_kind zg_hand zg_state zg_look zg_size (0 : Int32)) (cwV 1 hts gX5_lookAt_X1_ofKind rfl rfl rfl (by decide +kernel) ⟨Nat.le_of_ble_eq_true rfl, Nat.le_of_ble_eq_true rfl⟩) ⟨fun a U g mk q => ⟨q.1, PreW.call g mk a q.2⟩, va_recv hK hP (ci := 1) (q0 := 1) rfl rfl, fun U hU hW => ⟨rfl, PreW.mk2 hU hW hPc hK hN (hDc.weaken (fun _ _ _ _ => trivial))⟩⟩ rfl rfl hl.1 rfl (lv_room (Nat.le_of_ble_eq_true rfl)) dX5_lookAt_14 ⟨Nat.le_of_ble_eq_true rfl, Nat.le_of_ble_eq_true rfl⟩) hS (fun q hq h => absurd hq (Nat.not_lt.mpr h)) (fun q h => hA q (Nat.le_trans hS.1 h)) (fun r_3 _u t H1 locs ht hvm hw hB hz1 hk1 hS => ?_)
  have hP := va_ro hP hk1
  generalize H1 = H at hP hS ⊢
  have hw : r_3 = f_X1_ofKind zg_kind zg_size (0 : Int32) := hw
  subst hw
  obtain ⟨z_4, hz_4⟩ : ∃ z : Int32, z = f_X1_ofKind zg_kind zg_size (0 : Int32) := ⟨_, rfl⟩
  refine lv_iload_n hx hb dX5_lookAt_17 rfl (lv_at hl 0 rfl) ?_
  refine lv_iconst (v := (-1 : Int32)) hx hb dX5_lookAt_18 (by decide) ?_
  refine lv_ixor hx hb dX5_lookAt_19 ?_
  refine lv_iand hx hb dX5_lookAt_20 ?_
  refine lv_aload_n hx hb dX5_lookAt_21 rfl (lv_at hl 1 rfl) ?_
  refine va_get (D := (dC, dI)) (ci := 5) (v := .ref zg) (C := RX5) (T := TX5) (N := 6) hx hb hts in_X5_lookAt_X5 hown hK hP 0 rfl rfl 3 (by decide) (hts _ m_X5_lookAt_1) (fun _ h9 => h9) rfl dX5_lookAt_22 ?_
  refine lv_iconst (v := (1 : Int32)) hx hb dX5_lookAt_25 (by decide) ?_
  have hPc := hP.sub (ws' := [(zg, .inr (1, [.ref azg_kind, .ref azg_hand, .ref azg_state, .ref azg_look, .int zg_size])), (azg_kind, .inl (cI, 25, .inl zg_kind)), (azg_hand, .inl (cI, 25, .inl zg_hand)), (azg_state, .inl (cI, 25, .inl zg_state)), (azg_look, .inl (cI, 25, .inl zg_look))]) [1, 2, 3, 4, 5] rfl
  have hDc := hD.sub (ws' := [(zg, .inr (1, [.ref azg_kind, .ref azg_hand, .ref azg_state, .ref azg_look, .int zg_size])), (azg_kind, .inl (cI, 25, .inl zg_kind)), (azg_hand, .inl (cI, 25, .inl zg_hand)), (azg_state, .inl (cI, 25, .inl zg_state)), (azg_look, .inl (cI, 25, .inl zg_look))]) [1, 2, 3, 4, 5] (by decide) rfl
  refine va_calli (va_runV (As := [.int (1 : Int32)]) (rest := [.int ((f_X1_ofKind zg_kind zg_size (0 : Int32)) &&& ((f_X1_counting zg_hand zg_state zg_size a_v) ^^^ (-1 : Int32)))]) ⟨hx, hb, hml, hown, hts⟩ (c_X1_ofKind l dC dI cI cJ H.size zg azg_kind azg_hand azg_state azg_look zg_kind zg_hand zg_state zg_look zg_size (1 : Int32)) (cwV 1 hts gX5_lookAt_X1_ofKind rfl rfl rfl (by decide +kernel) ⟨Nat.le_of_ble_eq_true rfl, Nat.le_of_ble_eq_true rfl⟩) ⟨fun a U g mk q => ⟨q.1, PreW.call g mk a q.2⟩, va_recv hK hP (ci := 1) (q0 := 1) rfl rfl, fun U hU hW => ⟨rfl, PreW.mk2 hU hW hPc hK hN (hDc.weaken (fun _ _ _ _ => trivial))⟩⟩ rfl rfl hl.1 rfl (lv_room (Nat.le_of_ble_eq_true rfl)) dX5_lookAt_26 ⟨Nat.le_of_ble_eq_true rfl, Nat.le_of_ble_eq_true rfl⟩) hS (fun q hq h => absurd hq (Nat.not_lt.mpr h)) (fun q h => hA q (Nat.le_trans hS.1 h)) (fun r_5 _u t H1 locs ht hvm hw hB hz1 hk1 hS => ?_)
  have hP := va_ro hP hk1
  generalize H1 = H at hP hS ⊢
  have hw : r_5 = f_X1_ofKind zg_kind zg_size (1 : Int32) := hw
  subst hw
  obtain ⟨z_6, hz_6⟩ : ∃ z : Int32, z = f_X1_ofKind zg_kind zg_size (1 : Int32) := ⟨_, rfl⟩
  refine lv_iload_n hx hb dX5_lookAt_29 rfl (lv_at hl 0 rfl) ?_
  refine lv_iand hx hb dX5_lookAt_30 ?_
  refine lv_ior hx hb dX5_lookAt_31 ?_
  refine lv_istore_n (lv' := [(3, .int (((f_X1_ofKind zg_kind zg_size (0 : Int32)) &&& ((f_X1_counting zg_hand zg_state zg_size a_v) ^^^ (-1 : Int32))) ||| ((f_X1_ofKind zg_kind zg_size (1 : Int32)) &&& (f_X1_counting zg_hand zg_state zg_size a_v)))), (2, .int (f_X1_counting zg_hand zg_state zg_size a_v)), (0, .ref zd), (1, .int a_v)]) hx hb dX5_lookAt_32 rfl hl (by decide) rfl (fun ls hl => ?_)
  refine lv_aload_n hx hb dX5_lookAt_33 rfl (lv_at hl 2 rfl) ?_
  refine va_get (D := (dC, dI)) (ci := 5) (v := .ref zv) (C := RX5) (T := TX5) (N := 6) hx hb hts in_X5_lookAt_X5 hown hK hP 0 rfl rfl 4 (by decide) (hts _ m_X5_lookAt_2) (fun _ h9 => h9) rfl dX5_lookAt_34 ?_
  refine lv_aload_n hx hb dX5_lookAt_37 rfl (lv_at hl 2 rfl) ?_
  refine va_get (D := (dC, dI)) (ci := 5) (v := .ref zr) (C := RX5) (T := TX5) (N := 6) hx hb hts in_X5_lookAt_X5 hown hK hP 0 rfl rfl 1 (by decide) (hts _ m_X5_lookAt_3) (fun _ h9 => h9) rfl dX5_lookAt_38 ?_
  refine lv_iload_n hx hb dX5_lookAt_41 rfl (lv_at hl 1 rfl) ?_
  refine lv_aload_n hx hb dX5_lookAt_42 rfl (lv_at hl 2 rfl) ?_
  refine va_get (D := (dC, dI)) (ci := 5) (v := .ref zg) (C := RX5) (T := TX5) (N := 6) hx hb hts in_X5_lookAt_X5 hown hK hP 0 rfl rfl 3 (by decide) (hts _ m_X5_lookAt_1) (fun _ h9 => h9) rfl dX5_lookAt_43 ?_
  refine lv_iconst (v := (2 : Int32)) hx hb dX5_lookAt_46 (by decide) ?_
  have hPc := hP.sub (ws' := [(zg, .inr (1, [.ref azg_kind, .ref azg_hand, .ref azg_state, .ref azg_look, .int zg_size])), (azg_kind, .inl (cI, 25, .inl zg_kind)), (azg_hand, .inl (cI, 25, .inl zg_hand)), (azg_state, .inl (cI, 25, .inl zg_state)), (azg_look, .inl (cI, 25, .inl zg_look))]) [1, 2, 3, 4, 5] rfl
  have hDc := hD.sub (ws' := [(zg, .inr (1, [.ref azg_kind, .ref azg_hand, .ref azg_state, .ref azg_look, .int zg_size])), (azg_kind, .inl (cI, 25, .inl zg_kind)), (azg_hand, .inl (cI, 25, .inl zg_hand)), (azg_state, .inl (cI, 25, .inl zg_state)), (azg_look, .inl (cI, 25, .inl zg_look))]) [1, 2, 3, 4, 5] (by decide) rfl
  refine va_calli (va_runV (As := [.int (2 : Int32)]) (rest := [.int (f_X1_counting zg_hand zg_state zg_size a_v), .ref zr, .ref zv]) ⟨hx, hb, hml, hown, hts⟩ (c_X1_ofKind l dC dI cI cJ H.size zg azg_kind azg_hand azg_state azg_look zg_kind zg_hand zg_state zg_look zg_size (2 : Int32)) (cwV 1 hts gX5_lookAt_X1_ofKind rfl rfl rfl (by decide +kernel) ⟨Nat.le_of_ble_eq_true rfl, Nat.le_of_ble_eq_true rfl⟩) ⟨fun a U g mk q => ⟨q.1, PreW.call g mk a q.2⟩, va_recv hK hP (ci := 1) (q0 := 1) rfl rfl, fun U hU hW => ⟨rfl, PreW.mk2 hU hW hPc hK hN (hDc.weaken (fun _ _ _ _ => trivial))⟩⟩ rfl rfl hl.1 rfl (lv_room (Nat.le_of_ble_eq_true rfl)) dX5_lookAt_47 ⟨Nat.le_of_ble_eq_true rfl, Nat.le_of_ble_eq_true rfl⟩) hS (fun q hq h => absurd hq (Nat.not_lt.mpr h)) (fun q h => hA q (Nat.le_trans hS.1 h)) (fun r_7 _u t H1 locs ht hvm hw hB hz1 hk1 hS => ?_)
  have hP := va_ro hP hk1
  generalize H1 = H at hP hS ⊢
  have hw : r_7 = f_X1_ofKind zg_kind zg_size (2 : Int32) := hw
  subst hw
  obtain ⟨z_8, hz_8⟩ : ∃ z : Int32, z = f_X1_ofKind zg_kind zg_size (2 : Int32) := ⟨_, rfl⟩
  refine lv_iload_n hx hb dX5_lookAt_50 rfl (lv_at hl 1 rfl) ?_
  refine lv_iand hx hb dX5_lookAt_51 ?_
  refine lv_iload_n hx hb dX5_lookAt_52 rfl (lv_at hl 0 rfl) ?_
  have hPc := hP.sub (ws' := [(zv, .inr (4, [.ref azv_spots, .ref azv_homes, .int zv_size, .int zv_counts, .int zv_hides])), (azv_spots, .inl (cI, 240, .inl zv_spots)), (azv_homes, .inl (cI, 240, .inl zv_homes)), (zr, .inr (2, [.ref azr_sign, .ref azr_token, .ref azr_in, .ref azr_own, .ref azr_since, .int zr_size])), (azr_sign, .inl (cI, 240, .inl zr_sign)), (azr_token, .inl (cI, 240, .inl zr_token)), (azr_in, .inl (cI, 240, .inl zr_in)), (azr_own, .inl (cI, 240, .inl zr_own)), (azr_since, .inl (cI, 240, .inl zr_since))]) [6, 7, 8, 9, 10, 11, 12, 13, 14] rfl
  have hDc := hD.sub (ws' := [(zv, .inr (4, [.ref azv_spots, .ref azv_homes, .int zv_size, .int zv_counts, .int zv_hides])), (azv_spots, .inl (cI, 240, .inl zv_spots)), (azv_homes, .inl (cI, 240, .inl zv_homes)), (zr, .inr (2, [.ref azr_sign, .ref azr_token, .ref azr_in, .ref azr_own, .ref azr_since, .int zr_size])), (azr_sign, .inl (cI, 240, .inl zr_sign)), (azr_token, .inl (cI, 240, .inl zr_token)), (azr_in, .inl (cI, 240, .inl zr_in)), (azr_own, .inl (cI, 240, .inl zr_own)), (azr_since, .inl (cI, 240, .inl zr_since))]) [6, 7, 8, 9, 10, 11, 12, 13, 14] (by decide) rfl
  have hFc := va_free (wc := [(zv, .inr (4, [.ref azv_spots, .ref azv_homes, .int zv_size, .int zv_counts, .int zv_hides])), (azv_spots, .inl (cI, 240, .inl zv_spots)), (azv_homes, .inl (cI, 240, .inl zv_homes)), (zr, .inr (2, [.ref azr_sign, .ref azr_token, .ref azr_in, .ref azr_own, .ref azr_since, .int zr_size])), (azr_sign, .inl (cI, 240, .inl zr_sign)), (azr_token, .inl (cI, 240, .inl zr_token)), (azr_in, .inl (cI, 240, .inl zr_in)), (azr_own, .inl (cI, 240, .inl zr_own)), (azr_since, .inl (cI, 240, .inl zr_since))]) hD hS hA [6, 7, 8, 9, 10, 11, 12, 13, 14] rfl
  refine va_callv (va_runV (As := [.ref zr, .int (f_X1_counting zg_hand zg_state zg_size a_v), .int ((f_X1_ofKind zg_kind zg_size (2 : Int32)) &&& (f_X1_counting zg_hand zg_state zg_size a_v)), .int (((f_X1_ofKind zg_kind zg_size (0 : Int32)) &&& ((f_X1_counting zg_hand zg_state zg_size a_v) ^^^ (-1 : Int32))) ||| ((f_X1_ofKind zg_kind zg_size (1 : Int32)) &&& (f_X1_counting zg_hand zg_state zg_size a_v)))]) (rest := []) ⟨hx, hb, hml, hown, hts⟩ (c_X4_gatherAll l dC dI cI cJ H.size zv azv_spots azv_homes zr azr_sign azr_token azr_in azr_own azr_since zv_spots zv_homes zr_sign zr_token zr_in zr_own zr_since zv_size zv_counts zv_hides zr_size (f_X1_counting zg_hand zg_state zg_size a_v) ((f_X1_ofKind zg_kind zg_size (2 : Int32)) &&& (f_X1_counting zg_hand zg_state zg_size a_v)) (((f_X1_ofKind zg_kind zg_size (0 : Int32)) &&& ((f_X1_counting zg_hand zg_state zg_size a_v) ^^^ (-1 : Int32))) ||| ((f_X1_ofKind zg_kind zg_size (1 : Int32)) &&& (f_X1_counting zg_hand zg_state zg_size a_v)))) (cwV 4 hts gX5_lookAt_X4_gatherAll rfl rfl rfl (by decide +kernel) ⟨Nat.le_of_ble_eq_true rfl, Nat.le_of_ble_eq_true rfl⟩) ⟨fun a U g mk q => ⟨q.1, PreW.call g mk a q.2⟩, va_recv hK hP (ci := 4) (q0 := 6) rfl rfl, fun U hU hW => ⟨rfl, PreW.mk2 hU hW hPc hK hN (hDc.weaken (fun _ _ _ _ => trivial))⟩⟩ rfl rfl hl.1 rfl (lv_room (Nat.le_of_ble_eq_true rfl)) dX5_lookAt_53 ⟨Nat.le_of_ble_eq_true rfl, Nat.le_of_ble_eq_true rfl⟩) hS (fun q _ h => hFc q h) hFc (fun u_9 t H1 locs ht hvm hw hB hz1 hk1 hS => ?_)
  obtain ⟨hB1, hB2⟩ : PostW dC dI [(zv, .inr (4, [.ref azv_spots, .ref azv_homes, .int u_9.2.2.1, .int u_9.2.2.2.1, .int u_9.2.2.2.2])), (azv_spots, .inl (cI, 240, .inl u_9.1)), (azv_homes, .inl (cI, 240, .inl u_9.2.1)), (zr, .inr (2, [.ref azr_sign, .ref azr_token, .ref azr_in, .ref azr_own, .ref azr_since, .int zr_size])), (azr_sign, .inl (cI, 240, .inl zr_sign)), (azr_token, .inl (cI, 240, .inl zr_token)), (azr_in, .inl (cI, 240, .inl zr_in)), (azr_own, .inl (cI, 240, .inl zr_own)), (azr_since, .inl (cI, 240, .inl zr_since))] t _ := hB
  rw [ht] at hB1
  obtain ⟨hP, hD⟩ := va_join (wr := [(zd, .inr (5, [.ref zt, .ref zr, .ref zw, .ref zg, .ref zv, .ref zk])), (zg, .inr (1, [.ref azg_kind, .ref azg_hand, .ref azg_state, .ref azg_look, .int zg_size])), (azg_kind, .inl (cI, 25, .inl zg_kind)), (azg_hand, .inl (cI, 25, .inl zg_hand)), (azg_state, .inl (cI, 25, .inl zg_state)), (azg_look, .inl (cI, 25, .inl zg_look))]) (w1 := [(zv, .inr (4, [.ref azv_spots, .ref azv_homes, .int u_9.2.2.1, .int u_9.2.2.2.1, .int u_9.2.2.2.2])), (azv_spots, .inl (cI, 240, .inl u_9.1)), (azv_homes, .inl (cI, 240, .inl u_9.2.1)), (zr, .inr (2, [.ref azr_sign, .ref azr_token, .ref azr_in, .ref azr_own, .ref azr_since, .int zr_size])), (azr_sign, .inl (cI, 240, .inl zr_sign)), (azr_token, .inl (cI, 240, .inl zr_token)), (azr_in, .inl (cI, 240, .inl zr_in)), (azr_own, .inl (cI, 240, .inl zr_own)), (azr_since, .inl (cI, 240, .inl zr_since))]) hP hD [6, 7, 8, 9, 10, 11, 12, 13, 14] [0, 1, 2, 3, 4, 5] rfl rfl (by decide) (by decide) hk1 hFc hB1 hB2
  generalize H1 = H at hP hS ⊢
  have hP : va_P (dC, dI) vwCl [(zd, .inr (5, [.ref zt, .ref zr, .ref zw, .ref zg, .ref zv, .ref zk])), (zg, .inr (1, [.ref azg_kind, .ref azg_hand, .ref azg_state, .ref azg_look, .int zg_size])), (azg_kind, .inl (cI, 25, .inl zg_kind)), (azg_hand, .inl (cI, 25, .inl zg_hand)), (azg_state, .inl (cI, 25, .inl zg_state)), (azg_look, .inl (cI, 25, .inl zg_look)), (zv, .inr (4, [.ref azv_spots, .ref azv_homes, .int u_9.2.2.1, .int u_9.2.2.2.1, .int u_9.2.2.2.2])), (azv_spots, .inl (cI, 240, .inl u_9.1)), (azv_homes, .inl (cI, 240, .inl u_9.2.1)), (zr, .inr (2, [.ref azr_sign, .ref azr_token, .ref azr_in, .ref azr_own, .ref azr_since, .int zr_size])), (azr_sign, .inl (cI, 240, .inl zr_sign)), (azr_token, .inl (cI, 240, .inl zr_token)), (azr_in, .inl (cI, 240, .inl zr_in)), (azr_own, .inl (cI, 240, .inl zr_own)), (azr_since, .inl (cI, 240, .inl zr_since))] H := hP
  have hD : va_D A [(zd, .inr (5, [.ref zt, .ref zr, .ref zw, .ref zg, .ref zv, .ref zk])), (zg, .inr (1, [.ref azg_kind, .ref azg_hand, .ref azg_state, .ref azg_look, .int zg_size])), (azg_kind, .inl (cI, 25, .inl zg_kind)), (azg_hand, .inl (cI, 25, .inl zg_hand)), (azg_state, .inl (cI, 25, .inl zg_state)), (azg_look, .inl (cI, 25, .inl zg_look)), (zv, .inr (4, [.ref azv_spots, .ref azv_homes, .int u_9.2.2.1, .int u_9.2.2.2.1, .int u_9.2.2.2.2])), (azv_spots, .inl (cI, 240, .inl u_9.1)), (azv_homes, .inl (cI, 240, .inl u_9.2.1)), (zr, .inr (2, [.ref azr_sign, .ref azr_token, .ref azr_in, .ref azr_own, .ref azr_since, .int zr_size])), (azr_sign, .inl (cI, 240, .inl zr_sign)), (azr_token, .inl (cI, 240, .inl zr_token)), (azr_in, .inl (cI, 240, .inl zr_in)), (azr_own, .inl (cI, 240, .inl zr_own)), (azr_since, .inl (cI, 240, .inl zr_since))] := hD
  have hw2 : u_9 = f_X4_gatherAll zv_spots zv_homes zr_token zr_in zr_size (f_X1_counting zg_hand zg_state zg_size a_v) ((f_X1_ofKind zg_kind zg_size (2 : Int32)) &&& (f_X1_counting zg_hand zg_state zg_size a_v)) (((f_X1_ofKind zg_kind zg_size (0 : Int32)) &&& ((f_X1_counting zg_hand zg_state zg_size a_v) ^^^ (-1 : Int32))) ||| ((f_X1_ofKind zg_kind zg_size (1 : Int32)) &&& (f_X1_counting zg_hand zg_state zg_size a_v))) := hw
  have hI10 : f_X5_lookAt zg_kind zg_hand zg_state zg_size zv_spots zv_homes zr_token zr_in zr_size a_v = f_X5_lookAt_k56_u_9 u_9 := (by rw [hw2]; rw [f_X5_lookAt])
  have hE : f_X5_lookAt zg_kind zg_hand zg_state zg_size zv_spots zv_homes zr_token zr_in zr_size a_v = (u_9.1, u_9.2.1, u_9.2.2.1, u_9.2.2.2.1, u_9.2.2.2.2) := (hI10.trans (by rw [f_X5_lookAt_k56_u_9]))
  exact W.vret hx hb hr (fun t ht hW => ⟨⟨(u_9.1, u_9.2.1, u_9.2.2.1, u_9.2.2.2.1, u_9.2.2.2.2), rfl, by rw [hE], ⟨by rw [ht]; exact hP, hD⟩⟩, hS.F ht⟩) hS.2.2 dX5_lookAt_56
theorem dX5_length_0 : decode cX5_length 0 = .ok (.iload_n 1, 1) := by decide +kernel
theorem dX5_length_1 : decode cX5_length 1 = .ok (.invokestatic 69, 3) := by decide +kernel
set_option maxRecDepth 20000 in
theorem ggX5_length_X5_isView : GoodIn wsX5_length wsX5_isView := goodIn_r _ [6] (by decide +kernel) (by decide +kernel)
set_option maxRecDepth 20000 in
theorem gX5_length_X5_isView : GoodIn wsX5_length (va_wsS RX5 69 yX5_isView wsX5_isView) := goodIn_app (goodIn_of _ (by decide +kernel)) ggX5_length_X5_isView
theorem dX5_length_4 : decode cX5_length 4 = .ok (.ifCond .ne 5, 3) := by decide +kernel
theorem dX5_length_9 : decode cX5_length 9 = .ok (.aload_n 0, 1) := by decide +kernel
theorem dX5_length_10 : decode cX5_length 10 = .ok (.iload_n 1, 1) := by decide +kernel
theorem dX5_length_11 : decode cX5_length 11 = .ok (.invokevirtual 73, 3) := by decide +kernel
set_option maxRecDepth 20000 in
theorem ggX5_length_X5_lookAt : GoodIn wsX5_length wsX5_lookAt := goodIn_r _ [10, 11, 1, 12, 13, 14, 15, 16, 17, 18, 19, 20, 21, 22, 23, 24, 25, 26, 27, 28, 5, 29, 30, 31, 32, 33, 34, 35, 36, 37, 38, 39, 40, 41, 42, 43, 44, 45, 46, 47, 48, 49, 50, 51, 52, 53, 54, 55, 56, 57, 58, 59, 60, 61, 62, 63, 64, 65, 66, 67, 68, 69, 70, 71, 72, 73, 79, 80, 81, 82, 83, 74, 75, 76, 77, 78, 84, 85, 86, 87, 88, 89] (by decide +kernel) (by decide +kernel)
set_option maxRecDepth 20000 in
theorem gX5_length_X5_lookAt : GoodIn wsX5_length (wsV RX5 73 RX5 yX5_lookAt wsX5_lookAt) := goodIn_app (goodIn_of _ (by decide +kernel)) ggX5_length_X5_lookAt
theorem dX5_length_14 : decode cX5_length 14 = .ok (.aload_n 0, 1) := by decide +kernel
theorem dX5_length_15 : decode cX5_length 15 = .ok (.getfield 36, 3) := by decide +kernel
theorem in_X5_length_X5 : ∀ w ∈ wsX50, w ∈ wsX5_length := by decide +kernel
theorem m_X5_length_1 : (.fieldLink RX5 36 "RedlineDesk" "shown" "LRedlineDesk$View;" : Cond) ∈ wsX5_length := List.mem_of_getElem? (i := 1) (by decide +kernel)
theorem dX5_length_18 : decode cX5_length 18 = .ok (.getfield 76, 3) := by decide +kernel
theorem in_X5_length_X4 : ∀ w ∈ wsX40, w ∈ wsX5_length := by decide +kernel
theorem m_X5_length_2 : (.fieldLink RX5 76 "RedlineDesk$View" "size" "I" : Cond) ∈ wsX5_length := List.mem_of_getElem? (i := 2) (by decide +kernel)
theorem dX5_length_21 : decode cX5_length 21 = .ok (.ireturn, 1) := by decide +kernel
theorem dX5_length_7 : decode cX5_length 7 = .ok (.iconst (-1), 1) := by decide +kernel
theorem dX5_length_8 : decode cX5_length 8 = .ok (.ireturn, 1) := by decide +kernel
def f_X5_length_k14_u_4 (u_4 : (Nat → Int32) × (Nat → Int32) × Int32 × Int32 × Int32) : Int32 × (Nat → Int32) × (Nat → Int32) × Int32 × Int32 × Int32 := (u_4.2.2.1, u_4.1, u_4.2.1, u_4.2.2.1, u_4.2.2.2.1, u_4.2.2.2.2)
def f_X5_length (zg_kind : Nat → Int32) (zg_hand : Nat → Int32) (zg_state : Nat → Int32) (zg_size : Int32) (zv_spots : Nat → Int32) (zv_homes : Nat → Int32) (zv_size : Int32) (zv_counts : Int32) (zv_hides : Int32) (zr_token : Nat → Int32) (zr_in : Nat → Int32) (zr_size : Int32) (a_v : Int32) : Int32 × (Nat → Int32) × (Nat → Int32) × Int32 × Int32 × Int32 := if (f_X5_isView a_v) = (0 : Int32) then ((-1 : Int32), zv_spots, zv_homes, zv_size, zv_counts, zv_hides) else f_X5_length_k14_u_4 (f_X5_lookAt zg_kind zg_hand zg_state zg_size zv_spots zv_homes zr_token zr_in zr_size a_v)
set_option maxHeartbeats 4000000 in
set_option maxRecDepth 100000 in
theorem c_X5_length (l : Launch) (dC : Nat → ClassId) (dI : Nat → Nat → Nat) (cI cJ : ClassId) (sz : Nat) (zd zg azg_kind azg_hand azg_state azg_look zv azv_spots azv_homes zr azr_sign azr_token azr_in azr_own azr_since zt zw zk : Nat) (zg_kind zg_hand zg_state zg_look zv_spots zv_homes zr_sign zr_token zr_in zr_own zr_since : Nat → Int32) (zg_size zv_size zv_counts zv_hides zr_size : Int32) (a_v : Int32) : Met l yX5_length wsX5_length ({ frames := 31, cells := 0, slots := 0, locals := 783 } : Room) (va_Pc [.ref zd, .int a_v] (PreW dC dI cI cJ sz [(zd, .inr (5, [.ref zt, .ref zr, .ref zw, .ref zg, .ref zv, .ref zk])), (zg, .inr (1, [.ref azg_kind, .ref azg_hand, .ref azg_state, .ref azg_look, .int zg_size])), (azg_kind, .inl (cI, 25, .inl zg_kind)), (azg_hand, .inl (cI, 25, .inl zg_hand)), (azg_state, .inl (cI, 25, .inl zg_state)), (azg_look, .inl (cI, 25, .inl zg_look)), (zv, .inr (4, [.ref azv_spots, .ref azv_homes, .int zv_size, .int zv_counts, .int zv_hides])), (azv_spots, .inl (cI, 240, .inl zv_spots)), (azv_homes, .inl (cI, 240, .inl zv_homes)), (zr, .inr (2, [.ref azr_sign, .ref azr_token, .ref azr_in, .ref azr_own, .ref azr_since, .int zr_size])), (azr_sign, .inl (cI, 240, .inl zr_sign)), (azr_token, .inl (cI, 240, .inl zr_token)), (azr_in, .inl (cI, 240, .inl zr_in)), (azr_own, .inl (cI, 240, .inl zr_own)), (azr_since, .inl (cI, 240, .inl zr_since))])) (va_Qi (fun (r : Int32) (u : (Nat → Int32) × (Nat → Int32) × Int32 × Int32 × Int32) => r = (f_X5_length zg_kind zg_hand zg_state zg_size zv_spots zv_homes zv_size zv_counts zv_hides zr_token zr_in zr_size a_v).1 ∧ u = (f_X5_length zg_kind zg_hand zg_state zg_size zv_spots zv_homes zv_size zv_counts zv_hides zr_token zr_in zr_size a_v).2) (fun (u : (Nat → Int32) × (Nat → Int32) × Int32 × Int32 × Int32) t => PostW dC dI [(zd, .inr (5, [.ref zt, .ref zr, .ref zw, .ref zg, .ref zv, .ref zk])), (zg, .inr (1, [.ref azg_kind, .ref azg_hand, .ref azg_state, .ref azg_look, .int zg_size])), (azg_kind, .inl (cI, 25, .inl zg_kind)), (azg_hand, .inl (cI, 25, .inl zg_hand)), (azg_state, .inl (cI, 25, .inl zg_state)), (azg_look, .inl (cI, 25, .inl zg_look)), (zv, .inr (4, [.ref azv_spots, .ref azv_homes, .int u.2.2.1, .int u.2.2.2.1, .int u.2.2.2.2])), (azv_spots, .inl (cI, 240, .inl u.1)), (azv_homes, .inl (cI, 240, .inl u.2.1)), (zr, .inr (2, [.ref azr_sign, .ref azr_token, .ref azr_in, .ref azr_own, .ref azr_since, .int zr_size])), (azr_sign, .inl (cI, 240, .inl zr_sign)), (azr_token, .inl (cI, 240, .inl zr_token)), (azr_in, .inl (cI, 240, .inl zr_in)), (azr_own, .inl (cI, 240, .inl zr_own)), (azr_since, .inl (cI, 240, .inl zr_since))] t (va_A [(zd, .inr (5, [.ref zt, .ref zr, .ref zw, .ref zg, .ref zv, .ref zk])), (zg, .inr (1, [.ref azg_kind, .ref azg_hand, .ref azg_state, .ref azg_look, .int zg_size])), (azg_kind, .inl (cI, 25, .inl zg_kind)), (azg_hand, .inl (cI, 25, .inl zg_hand)), (azg_state, .inl (cI, 25, .inl zg_state)), (azg_look, .inl (cI, 25, .inl zg_look)), (zv, .inr (4, [.ref azv_spots, .ref azv_homes, .int zv_size, .int zv_counts, .int zv_hides])), (azv_spots, .inl (cI, 240, .inl zv_spots)), (azv_homes, .inl (cI, 240, .inl zv_homes)), (zr, .inr (2, [.ref azr_sign, .ref azr_token, .ref azr_in, .ref azr_own, .ref azr_since, .int zr_size])), (azr_sign, .inl (cI, 240, .inl zr_sign)), (azr_token, .inl (cI, 240, .inl zr_token)), (azr_in, .inl (cI, 240, .inl zr_in)), (azr_own, .inl (cI, 240, .inl zr_own)), (azr_since, .inl (cI, 240, .inl zr_since))] sz)) (va_A [(zd, .inr (5, [.ref zt, .ref zr, .ref zw, .ref zg, .ref zv, .ref zk])), (zg, .inr (1, [.ref azg_kind, .ref azg_hand, .ref azg_state, .ref azg_look, .int zg_size])), (azg_kind, .inl (cI, 25, .inl zg_kind)), (azg_hand, .inl (cI, 25, .inl zg_hand)), (azg_state, .inl (cI, 25, .inl zg_state)), (azg_look, .inl (cI, 25, .inl zg_look)), (zv, .inr (4, [.ref azv_spots, .ref azv_homes, .int zv_size, .int zv_counts, .int zv_hides])), (azv_spots, .inl (cI, 240, .inl zv_spots)), (azv_homes, .inl (cI, 240, .inl zv_homes)), (zr, .inr (2, [.ref azr_sign, .ref azr_token, .ref azr_in, .ref azr_own, .ref azr_since, .int zr_size])), (azr_sign, .inl (cI, 240, .inl zr_sign)), (azr_token, .inl (cI, 240, .inl zr_token)), (azr_in, .inl (cI, 240, .inl zr_in)), (azr_own, .inl (cI, 240, .inl zr_own)), (azr_since, .inl (cI, 240, .inl zr_since))] sz)) 0 0 (va_A [(zd, .inr (5, [.ref zt, .ref zr, .ref zw, .ref zg, .ref zv, .ref zk])), (zg, .inr (1, [.ref azg_kind, .ref azg_hand, .ref azg_state, .ref azg_look, .int zg_size])), (azg_kind, .inl (cI, 25, .inl zg_kind)), (azg_hand, .inl (cI, 25, .inl zg_hand)), (azg_state, .inl (cI, 25, .inl zg_state)), (azg_look, .inl (cI, 25, .inl zg_look)), (zv, .inr (4, [.ref azv_spots, .ref azv_homes, .int zv_size, .int zv_counts, .int zv_hides])), (azv_spots, .inl (cI, 240, .inl zv_spots)), (azv_homes, .inl (cI, 240, .inl zv_homes)), (zr, .inr (2, [.ref azr_sign, .ref azr_token, .ref azr_in, .ref azr_own, .ref azr_since, .int zr_size])), (azr_sign, .inl (cI, 240, .inl zr_sign)), (azr_token, .inl (cI, 240, .inl zr_token)), (azr_in, .inl (cI, 240, .inl zr_in)), (azr_own, .inl (cI, 240, .inl zr_own)), (azr_since, .inl (cI, 240, .inl zr_since))] sz) := by
  refine Met.ofW (cc := cX5_length) (maxL := 2) (ret := (some .int)) (by decide) rfl ?_
  intro p e s m args below meth c s₁ B hml hv
  obtain ⟨rfl, hsz, hP, hK, hN, hD0⟩ := hv
  have hx := B.exec
  have hb := B.bytes
  have hr := B.returns
  have hts := atoms_spec (ws := wsX5_length) B.pre
  have hown : s.vm.findClass RX5 = some m.cls := findClass_of_methodNamed B.named
  have hlocks := B.notSynchronized
  subst hsz
  have hD := hD0.self (sz := s.heap.size)
  generalize hAe : va_A [(zd, .inr (5, [.ref zt, .ref zr, .ref zw, .ref zg, .ref zv, .ref zk])), (zg, .inr (1, [.ref azg_kind, .ref azg_hand, .ref azg_state, .ref azg_look, .int zg_size])), (azg_kind, .inl (cI, 25, .inl zg_kind)), (azg_hand, .inl (cI, 25, .inl zg_hand)), (azg_state, .inl (cI, 25, .inl zg_state)), (azg_look, .inl (cI, 25, .inl zg_look)), (zv, .inr (4, [.ref azv_spots, .ref azv_homes, .int zv_size, .int zv_counts, .int zv_hides])), (azv_spots, .inl (cI, 240, .inl zv_spots)), (azv_homes, .inl (cI, 240, .inl zv_homes)), (zr, .inr (2, [.ref azr_sign, .ref azr_token, .ref azr_in, .ref azr_own, .ref azr_since, .int zr_size])), (azr_sign, .inl (cI, 240, .inl zr_sign)), (azr_token, .inl (cI, 240, .inl zr_token)), (azr_in, .inl (cI, 240, .inl zr_in)), (azr_own, .inl (cI, 240, .inl zr_own)), (azr_since, .inl (cI, 240, .inl zr_since))] s.heap.size = A at hD ⊢
  have hA : ∀ q : Nat, s.heap.size ≤ q → A q := fun q h => by rw [← hAe]; exact Or.inr h
  have hS : va_S A s.heap s.heap [] := va_S.rf
  have hP : va_P (dC, dI) vwCl [(zd, .inr (5, [.ref zt, .ref zr, .ref zw, .ref zg, .ref zv, .ref zk])), (zg, .inr (1, [.ref azg_kind, .ref azg_hand, .ref azg_state, .ref azg_look, .int zg_size])), (azg_kind, .inl (cI, 25, .inl zg_kind)), (azg_hand, .inl (cI, 25, .inl zg_hand)), (azg_state, .inl (cI, 25, .inl zg_state)), (azg_look, .inl (cI, 25, .inl zg_look)), (zv, .inr (4, [.ref azv_spots, .ref azv_homes, .int zv_size, .int zv_counts, .int zv_hides])), (azv_spots, .inl (cI, 240, .inl zv_spots)), (azv_homes, .inl (cI, 240, .inl zv_homes)), (zr, .inr (2, [.ref azr_sign, .ref azr_token, .ref azr_in, .ref azr_own, .ref azr_since, .int zr_size])), (azr_sign, .inl (cI, 240, .inl zr_sign)), (azr_token, .inl (cI, 240, .inl zr_token)), (azr_in, .inl (cI, 240, .inl zr_in)), (azr_own, .inl (cI, 240, .inl zr_own)), (azr_since, .inl (cI, 240, .inl zr_since))] s.heap := hP
  have hl := lv_entry ([.ref zd, .int a_v]) (n := 2) (Nat.le_of_ble_eq_true rfl)
  rw [lg_entry_eq]
  generalize (lg_sl ([.ref zd, .int a_v]) ++ List.replicate (2 - (lg_sl ([.ref zd, .int a_v])).length) Slot.unset).toArray = ls at hl ⊢
  have hl : lv_has ls 2 [(0, .ref zd), (1, .int a_v)] := hl
  refine lv_iload_n hx hb dX5_length_0 rfl (lv_at hl 1 rfl) ?_
  have hPc := hP.sub (ws' := []) [] rfl
  have hDc := hD.sub (ws' := []) [] (by decide) rfl
  refine va_calli (va_runS (As := [.int a_v]) (rest := []) ⟨hx, hb, hml, hown, hts⟩ (c_X5_isView l dC dI cI cJ s.heap.size a_v) (va_cwS 1 hts gX5_length_X5_isView rfl rfl rfl (by decide +kernel) ⟨Nat.le_of_ble_eq_true rfl, Nat.le_of_ble_eq_true rfl⟩) ⟨fun a U g mk q => ⟨q.1, PreW.call g mk a q.2⟩, fun U hU hW => ⟨rfl, PreW.mk2 hU hW hPc hK hN (hDc.weaken (fun _ _ _ _ => trivial))⟩⟩ rfl rfl hl.1 rfl (lv_room (Nat.le_of_ble_eq_true rfl)) dX5_length_1 ⟨Nat.le_of_ble_eq_true rfl, Nat.le_of_ble_eq_true rfl⟩) hS (fun q hq h => absurd hq (Nat.not_lt.mpr h)) (fun q h => hA q (Nat.le_trans hS.1 h)) (fun r_1 _u t H1 locs ht hvm hw hB hz1 hk1 hS => ?_)
  have hP := va_ro hP hk1
  generalize H1 = H at hP hS ⊢
  have hw : r_1 = f_X5_isView a_v := hw
  subst hw
  obtain ⟨z_2, hz_2⟩ : ∃ z : Int32, z = f_X5_isView a_v := ⟨_, rfl⟩
  refine lv_if_ne (tgt := 9) hx hb dX5_length_4 (by decide) (fun c_3 => ?_) (fun c_3 => ?_)
  · have tc_3 : ¬ z_2.toInt = (0 : Int) := by rw [hz_2]; exact q_ne c_3
    refine lv_aload_n hx hb dX5_length_9 rfl (lv_at hl 0 rfl) ?_
    refine lv_iload_n hx hb dX5_length_10 rfl (lv_at hl 1 rfl) ?_
    have hPc := hP.sub (ws' := [(zd, .inr (5, [.ref zt, .ref zr, .ref zw, .ref zg, .ref zv, .ref zk])), (zg, .inr (1, [.ref azg_kind, .ref azg_hand, .ref azg_state, .ref azg_look, .int zg_size])), (azg_kind, .inl (cI, 25, .inl zg_kind)), (azg_hand, .inl (cI, 25, .inl zg_hand)), (azg_state, .inl (cI, 25, .inl zg_state)), (azg_look, .inl (cI, 25, .inl zg_look)), (zv, .inr (4, [.ref azv_spots, .ref azv_homes, .int zv_size, .int zv_counts, .int zv_hides])), (azv_spots, .inl (cI, 240, .inl zv_spots)), (azv_homes, .inl (cI, 240, .inl zv_homes)), (zr, .inr (2, [.ref azr_sign, .ref azr_token, .ref azr_in, .ref azr_own, .ref azr_since, .int zr_size])), (azr_sign, .inl (cI, 240, .inl zr_sign)), (azr_token, .inl (cI, 240, .inl zr_token)), (azr_in, .inl (cI, 240, .inl zr_in)), (azr_own, .inl (cI, 240, .inl zr_own)), (azr_since, .inl (cI, 240, .inl zr_since))]) [0, 1, 2, 3, 4, 5, 6, 7, 8, 9, 10, 11, 12, 13, 14] rfl
    have hDc := hD.sub (ws' := [(zd, .inr (5, [.ref zt, .ref zr, .ref zw, .ref zg, .ref zv, .ref zk])), (zg, .inr (1, [.ref azg_kind, .ref azg_hand, .ref azg_state, .ref azg_look, .int zg_size])), (azg_kind, .inl (cI, 25, .inl zg_kind)), (azg_hand, .inl (cI, 25, .inl zg_hand)), (azg_state, .inl (cI, 25, .inl zg_state)), (azg_look, .inl (cI, 25, .inl zg_look)), (zv, .inr (4, [.ref azv_spots, .ref azv_homes, .int zv_size, .int zv_counts, .int zv_hides])), (azv_spots, .inl (cI, 240, .inl zv_spots)), (azv_homes, .inl (cI, 240, .inl zv_homes)), (zr, .inr (2, [.ref azr_sign, .ref azr_token, .ref azr_in, .ref azr_own, .ref azr_since, .int zr_size])), (azr_sign, .inl (cI, 240, .inl zr_sign)), (azr_token, .inl (cI, 240, .inl zr_token)), (azr_in, .inl (cI, 240, .inl zr_in)), (azr_own, .inl (cI, 240, .inl zr_own)), (azr_since, .inl (cI, 240, .inl zr_since))]) [0, 1, 2, 3, 4, 5, 6, 7, 8, 9, 10, 11, 12, 13, 14] (by decide) rfl
    have hFc := va_free (wc := [(zd, .inr (5, [.ref zt, .ref zr, .ref zw, .ref zg, .ref zv, .ref zk])), (zg, .inr (1, [.ref azg_kind, .ref azg_hand, .ref azg_state, .ref azg_look, .int zg_size])), (azg_kind, .inl (cI, 25, .inl zg_kind)), (azg_hand, .inl (cI, 25, .inl zg_hand)), (azg_state, .inl (cI, 25, .inl zg_state)), (azg_look, .inl (cI, 25, .inl zg_look)), (zv, .inr (4, [.ref azv_spots, .ref azv_homes, .int zv_size, .int zv_counts, .int zv_hides])), (azv_spots, .inl (cI, 240, .inl zv_spots)), (azv_homes, .inl (cI, 240, .inl zv_homes)), (zr, .inr (2, [.ref azr_sign, .ref azr_token, .ref azr_in, .ref azr_own, .ref azr_since, .int zr_size])), (azr_sign, .inl (cI, 240, .inl zr_sign)), (azr_token, .inl (cI, 240, .inl zr_token)), (azr_in, .inl (cI, 240, .inl zr_in)), (azr_own, .inl (cI, 240, .inl zr_own)), (azr_since, .inl (cI, 240, .inl zr_since))]) hD hS hA [0, 1, 2, 3, 4, 5, 6, 7, 8, 9, 10, 11, 12, 13, 14] rfl
    refine va_callv (va_runV (As := [.int a_v]) (rest := []) ⟨hx, hb, hml, hown, hts⟩ (c_X5_lookAt l dC dI cI cJ H.size zd zg azg_kind azg_hand azg_state azg_look zv azv_spots azv_homes zr azr_sign azr_token azr_in azr_own azr_since zt zw zk zg_kind zg_hand zg_state zg_look zv_spots zv_homes zr_sign zr_token zr_in zr_own zr_since zg_size zv_size zv_counts zv_hides zr_size a_v) (cwV 1 hts gX5_length_X5_lookAt rfl rfl rfl (by decide +kernel) ⟨Nat.le_of_ble_eq_true rfl, Nat.le_of_ble_eq_true rfl⟩) ⟨fun a U g mk q => ⟨q.1, PreW.call g mk a q.2⟩, va_recv hK hP (ci := 5) (q0 := 0) rfl rfl, fun U hU hW => ⟨rfl, PreW.mk2 hU hW hPc hK hN (hDc.weaken (fun _ _ _ _ => trivial))⟩⟩ rfl rfl hl.1 rfl (lv_room (Nat.le_of_ble_eq_true rfl)) dX5_length_11 ⟨Nat.le_of_ble_eq_true rfl, Nat.le_of_ble_eq_true rfl⟩) hS (fun q _ h => hFc q h) hFc (fun u_4 t H1 locs ht hvm hw hB hz1 hk1 hS => ?_)
    obtain ⟨hB1, hB2⟩ : PostW dC dI [(zd, .inr (5, [.ref zt, .ref zr, .ref zw, .ref zg, .ref zv, .ref zk])), (zg, .inr (1, [.ref azg_kind, .ref azg_hand, .ref azg_state, .ref azg_look, .int zg_size])), (azg_kind, .inl (cI, 25, .inl zg_kind)), (azg_hand, .inl (cI, 25, .inl zg_hand)), (azg_state, .inl (cI, 25, .inl zg_state)), (azg_look, .inl (cI, 25, .inl zg_look)), (zv, .inr (4, [.ref azv_spots, .ref azv_homes, .int u_4.2.2.1, .int u_4.2.2.2.1, .int u_4.2.2.2.2])), (azv_spots, .inl (cI, 240, .inl u_4.1)), (azv_homes, .inl (cI, 240, .inl u_4.2.1)), (zr, .inr (2, [.ref azr_sign, .ref azr_token, .ref azr_in, .ref azr_own, .ref azr_since, .int zr_size])), (azr_sign, .inl (cI, 240, .inl zr_sign)), (azr_token, .inl (cI, 240, .inl zr_token)), (azr_in, .inl (cI, 240, .inl zr_in)), (azr_own, .inl (cI, 240, .inl zr_own)), (azr_since, .inl (cI, 240, .inl zr_since))] t _ := hB
    rw [ht] at hB1
    obtain ⟨hP, hD⟩ := va_join (wr := []) (w1 := [(zd, .inr (5, [.ref zt, .ref zr, .ref zw, .ref zg, .ref zv, .ref zk])), (zg, .inr (1, [.ref azg_kind, .ref azg_hand, .ref azg_state, .ref azg_look, .int zg_size])), (azg_kind, .inl (cI, 25, .inl zg_kind)), (azg_hand, .inl (cI, 25, .inl zg_hand)), (azg_state, .inl (cI, 25, .inl zg_state)), (azg_look, .inl (cI, 25, .inl zg_look)), (zv, .inr (4, [.ref azv_spots, .ref azv_homes, .int u_4.2.2.1, .int u_4.2.2.2.1, .int u_4.2.2.2.2])), (azv_spots, .inl (cI, 240, .inl u_4.1)), (azv_homes, .inl (cI, 240, .inl u_4.2.1)), (zr, .inr (2, [.ref azr_sign, .ref azr_token, .ref azr_in, .ref azr_own, .ref azr_since, .int zr_size])), (azr_sign, .inl (cI, 240, .inl zr_sign)), (azr_token, .inl (cI, 240, .inl zr_token)), (azr_in, .inl (cI, 240, .inl zr_in)), (azr_own, .inl (cI, 240, .inl zr_own)), (azr_since, .inl (cI, 240, .inl zr_since))]) hP hD [0, 1, 2, 3, 4, 5, 6, 7, 8, 9, 10, 11, 12, 13, 14] [] rfl rfl (by decide) (by decide) hk1 hFc hB1 hB2
    generalize H1 = H at hP hS ⊢
    have hP : va_P (dC, dI) vwCl [(zd, .inr (5, [.ref zt, .ref zr, .ref zw, .ref zg, .ref zv, .ref zk])), (zg, .inr (1, [.ref azg_kind, .ref azg_hand, .ref azg_state, .ref azg_look, .int zg_size])), (azg_kind, .inl (cI, 25, .inl zg_kind)), (azg_hand, .inl (cI, 25, .inl zg_hand)), (azg_state, .inl (cI, 25, .inl zg_state)), (azg_look, .inl (cI, 25, .inl zg_look)), (zv, .inr (4, [.ref azv_spots, .ref azv_homes, .int u_4.2.2.1, .int u_4.2.2.2.1, .int u_4.2.2.2.2])), (azv_spots, .inl (cI, 240, .inl u_4.1)), (azv_homes, .inl (cI, 240, .inl u_4.2.1)), (zr, .inr (2, [.ref azr_sign, .ref azr_token, .ref azr_in, .ref azr_own, .ref azr_since, .int zr_size])), (azr_sign, .inl (cI, 240, .inl zr_sign)), (azr_token, .inl (cI, 240, .inl zr_token)), (azr_in, .inl (cI, 240, .inl zr_in)), (azr_own, .inl (cI, 240, .inl zr_own)), (azr_since, .inl (cI, 240, .inl zr_since))] H := hP
    have hD : va_D A [(zd, .inr (5, [.ref zt, .ref zr, .ref zw, .ref zg, .ref zv, .ref zk])), (zg, .inr (1, [.ref azg_kind, .ref azg_hand, .ref azg_state, .ref azg_look, .int zg_size])), (azg_kind, .inl (cI, 25, .inl zg_kind)), (azg_hand, .inl (cI, 25, .inl zg_hand)), (azg_state, .inl (cI, 25, .inl zg_state)), (azg_look, .inl (cI, 25, .inl zg_look)), (zv, .inr (4, [.ref azv_spots, .ref azv_homes, .int u_4.2.2.1, .int u_4.2.2.2.1, .int u_4.2.2.2.2])), (azv_spots, .inl (cI, 240, .inl u_4.1)), (azv_homes, .inl (cI, 240, .inl u_4.2.1)), (zr, .inr (2, [.ref azr_sign, .ref azr_token, .ref azr_in, .ref azr_own, .ref azr_since, .int zr_size])), (azr_sign, .inl (cI, 240, .inl zr_sign)), (azr_token, .inl (cI, 240, .inl zr_token)), (azr_in, .inl (cI, 240, .inl zr_in)), (azr_own, .inl (cI, 240, .inl zr_own)), (azr_since, .inl (cI, 240, .inl zr_since))] := hD
    have hw2 : u_4 = f_X5_lookAt zg_kind zg_hand zg_state zg_size zv_spots zv_homes zr_token zr_in zr_size a_v := hw
    have hI5 : f_X5_length zg_kind zg_hand zg_state zg_size zv_spots zv_homes zv_size zv_counts zv_hides zr_token zr_in zr_size a_v = f_X5_length_k14_u_4 u_4 := (by rw [hw2]; rw [f_X5_length, if_neg c_3])
    refine lv_aload_n hx hb dX5_length_14 rfl (lv_at hl 0 rfl) ?_
    refine va_get (D := (dC, dI)) (ci := 5) (v := .ref zv) (C := RX5) (T := TX5) (N := 6) hx hb hts in_X5_length_X5 hown hK hP 0 rfl rfl 4 (by decide) (hts _ m_X5_length_1) (fun _ h9 => h9) rfl dX5_length_15 ?_
    refine va_get (D := (dC, dI)) (ci := 4) (v := .int u_4.2.2.1) (C := RX4) (T := TX4) (N := 5) hx hb hts in_X5_length_X4 hown hK hP 6 rfl rfl 2 (by decide) (hts _ m_X5_length_2) (fun _ h9 => h9) rfl dX5_length_18 ?_
    have hE : f_X5_length zg_kind zg_hand zg_state zg_size zv_spots zv_homes zv_size zv_counts zv_hides zr_token zr_in zr_size a_v = (u_4.2.2.1, u_4.1, u_4.2.1, u_4.2.2.1, u_4.2.2.2.1, u_4.2.2.2.2) := (hI5.trans (by rw [f_X5_length_k14_u_4]))
    exact W.iret (v := u_4.2.2.1) hx hb hr (fun t ht hW => ⟨⟨u_4.2.2.1, (u_4.1, u_4.2.1, u_4.2.2.1, u_4.2.2.2.1, u_4.2.2.2.2), rfl, ⟨by rw [hE], by rw [hE]⟩, ⟨by rw [ht]; exact hP, hD⟩⟩, hS.F ht⟩) hS.2.2 dX5_length_21
  · have tc_3 : z_2.toInt = (0 : Int) := by rw [hz_2]; exact q_eq c_3
    refine lv_iconst (v := (-1 : Int32)) hx hb dX5_length_7 (by decide) ?_
    have hE : f_X5_length zg_kind zg_hand zg_state zg_size zv_spots zv_homes zv_size zv_counts zv_hides zr_token zr_in zr_size a_v = ((-1 : Int32), zv_spots, zv_homes, zv_size, zv_counts, zv_hides) := (by rw [f_X5_length, if_pos c_3])
    exact W.iret (v := (-1 : Int32)) hx hb hr (fun t ht hW => ⟨⟨(-1 : Int32), (zv_spots, zv_homes, zv_size, zv_counts, zv_hides), rfl, ⟨by rw [hE], by rw [hE]⟩, ⟨by rw [ht]; exact hP, hD⟩⟩, hS.F ht⟩) hS.2.2 dX5_length_8
theorem dX5_isPlace_0 : decode cX5_isPlace 0 = .ok (.iload_n 1, 1) := by decide +kernel
theorem dX5_isPlace_1 : decode cX5_isPlace 1 = .ok (.ifCond .lt 18, 3) := by decide +kernel
theorem dX5_isPlace_19 : decode cX5_isPlace 19 = .ok (.iconst 0, 1) := by decide +kernel
theorem dX5_isPlace_20 : decode cX5_isPlace 20 = .ok (.ireturn, 1) := by decide +kernel
theorem dX5_isPlace_4 : decode cX5_isPlace 4 = .ok (.iload_n 1, 1) := by decide +kernel
theorem dX5_isPlace_5 : decode cX5_isPlace 5 = .ok (.aload_n 0, 1) := by decide +kernel
theorem dX5_isPlace_6 : decode cX5_isPlace 6 = .ok (.getfield 36, 3) := by decide +kernel
theorem in_X5_isPlace_X5 : ∀ w ∈ wsX50, w ∈ wsX5_isPlace := by decide +kernel
theorem m_X5_isPlace_1 : (.fieldLink RX5 36 "RedlineDesk" "shown" "LRedlineDesk$View;" : Cond) ∈ wsX5_isPlace := List.mem_of_getElem? (i := 1) (by decide +kernel)
theorem dX5_isPlace_9 : decode cX5_isPlace 9 = .ok (.getfield 76, 3) := by decide +kernel
theorem in_X5_isPlace_X4 : ∀ w ∈ wsX40, w ∈ wsX5_isPlace := by decide +kernel
theorem m_X5_isPlace_2 : (.fieldLink RX5 76 "RedlineDesk$View" "size" "I" : Cond) ∈ wsX5_isPlace := List.mem_of_getElem? (i := 2) (by decide +kernel)
theorem dX5_isPlace_12 : decode cX5_isPlace 12 = .ok (.if_icmp .gt 7, 3) := by decide +kernel
theorem dX5_isPlace_15 : decode cX5_isPlace 15 = .ok (.iconst 1, 1) := by decide +kernel
theorem dX5_isPlace_16 : decode cX5_isPlace 16 = .ok (.goto 4, 3) := by decide +kernel
def f_X5_isPlace (zv_size : Int32) (a_a : Int32) : Int32 := if a_a < (0 : Int32) then (0 : Int32) else if zv_size < a_a then (0 : Int32) else (1 : Int32)
set_option maxHeartbeats 4000000 in
set_option maxRecDepth 100000 in
theorem c_X5_isPlace (l : Launch) (dC : Nat → ClassId) (dI : Nat → Nat → Nat) (cI cJ : ClassId) (sz : Nat) (zd zv azv_spots azv_homes zt zr zw zg zk : Nat) (zv_spots zv_homes : Nat → Int32) (zv_size zv_counts zv_hides : Int32) (a_a : Int32) : Met l yX5_isPlace wsX5_isPlace ({ frames := 0, cells := 0, slots := 0, locals := 0 } : Room) (va_Pc [.ref zd, .int a_a] (PreW dC dI cI cJ sz [(zd, .inr (5, [.ref zt, .ref zr, .ref zw, .ref zg, .ref zv, .ref zk])), (zv, .inr (4, [.ref azv_spots, .ref azv_homes, .int zv_size, .int zv_counts, .int zv_hides])), (azv_spots, .inl (cI, 240, .inl zv_spots)), (azv_homes, .inl (cI, 240, .inl zv_homes))])) (va_Qi (fun (r : Int32) (_ : Unit) => r = f_X5_isPlace zv_size a_a) (fun (_ : Unit) _ => True) (fun q => sz ≤ q)) 0 0 (fun q => sz ≤ q) := by
  refine Met.ofW (cc := cX5_isPlace) (maxL := 2) (ret := (some .boolean)) (by decide) rfl ?_
  intro p e s m args below meth c s₁ B hml hv
  obtain ⟨rfl, hsz, hP, hK, hN, hD0⟩ := hv
  have hx := B.exec
  have hb := B.bytes
  have hr := B.returns
  have hts := atoms_spec (ws := wsX5_isPlace) B.pre
  have hown : s.vm.findClass RX5 = some m.cls := findClass_of_methodNamed B.named
  have hlocks := B.notSynchronized
  subst hsz
  have hD := hD0
  generalize hAe : (fun q => s.heap.size ≤ q) = A
  have hA : ∀ q : Nat, s.heap.size ≤ q → A q := fun q h => by rw [← hAe]; exact h
  have hS : va_S A s.heap s.heap [] := va_S.rf
  have hP : va_P (dC, dI) vwCl [(zd, .inr (5, [.ref zt, .ref zr, .ref zw, .ref zg, .ref zv, .ref zk])), (zv, .inr (4, [.ref azv_spots, .ref azv_homes, .int zv_size, .int zv_counts, .int zv_hides])), (azv_spots, .inl (cI, 240, .inl zv_spots)), (azv_homes, .inl (cI, 240, .inl zv_homes))] s.heap := hP
  have hl := lv_entry ([.ref zd, .int a_a]) (n := 2) (Nat.le_of_ble_eq_true rfl)
  rw [lg_entry_eq]
  generalize (lg_sl ([.ref zd, .int a_a]) ++ List.replicate (2 - (lg_sl ([.ref zd, .int a_a])).length) Slot.unset).toArray = ls at hl ⊢
  have hl : lv_has ls 2 [(0, .ref zd), (1, .int a_a)] := hl
  refine lv_iload_n hx hb dX5_isPlace_0 rfl (lv_at hl 1 rfl) ?_
  refine lv_if_lt (tgt := 19) hx hb dX5_isPlace_1 (by decide) (fun c_1 => ?_) (fun c_1 => ?_)
  · have tc_1 : a_a.toInt < (0 : Int) := q_lt c_1
    refine lv_iconst (v := (0 : Int32)) hx hb dX5_isPlace_19 (by decide) ?_
    have hE : f_X5_isPlace zv_size a_a = (0 : Int32) := (by rw [f_X5_isPlace, if_pos c_1])
    exact W.zret (v := (0 : Int32)) hx hb hr (by decide) (fun t ht hW => ⟨⟨(0 : Int32), (), rfl, by rw [hE], trivial⟩, hS.F ht⟩) hS.2.2 dX5_isPlace_20
  · have tc_1 : (0 : Int) ≤ a_a.toInt := q_nlt c_1
    refine lv_iload_n hx hb dX5_isPlace_4 rfl (lv_at hl 1 rfl) ?_
    refine lv_aload_n hx hb dX5_isPlace_5 rfl (lv_at hl 0 rfl) ?_
    refine va_get (D := (dC, dI)) (ci := 5) (v := .ref zv) (C := RX5) (T := TX5) (N := 6) hx hb hts in_X5_isPlace_X5 hown hK hP 0 rfl rfl 4 (by decide) (hts _ m_X5_isPlace_1) (fun _ h9 => h9) rfl dX5_isPlace_6 ?_
    refine va_get (D := (dC, dI)) (ci := 4) (v := .int zv_size) (C := RX4) (T := TX4) (N := 5) hx hb hts in_X5_isPlace_X4 hown hK hP 1 rfl rfl 2 (by decide) (hts _ m_X5_isPlace_2) (fun _ h9 => h9) rfl dX5_isPlace_9 ?_
    refine lv_icmp_gt (tgt := 19) hx hb dX5_isPlace_12 (by decide) (fun c_2 => ?_) (fun c_2 => ?_)
    · have tc_2 : zv_size.toInt < a_a.toInt := q_lt c_2
      refine lv_iconst (v := (0 : Int32)) hx hb dX5_isPlace_19 (by decide) ?_
      have hE : f_X5_isPlace zv_size a_a = (0 : Int32) := (by rw [f_X5_isPlace, if_neg c_1, if_pos c_2])
      exact W.zret (v := (0 : Int32)) hx hb hr (by decide) (fun t ht hW => ⟨⟨(0 : Int32), (), rfl, by rw [hE], trivial⟩, hS.F ht⟩) hS.2.2 dX5_isPlace_20
    · have tc_2 : a_a.toInt ≤ zv_size.toInt := q_nlt c_2
      refine lv_iconst (v := (1 : Int32)) hx hb dX5_isPlace_15 (by decide) ?_
      refine lv_goto (tgt := 20) hx hb dX5_isPlace_16 (by decide) ?_
      have hE : f_X5_isPlace zv_size a_a = (1 : Int32) := (by rw [f_X5_isPlace, if_neg c_1, if_neg c_2])
      exact W.zret (v := (1 : Int32)) hx hb hr (by decide) (fun t ht hW => ⟨⟨(1 : Int32), (), rfl, by rw [hE], trivial⟩, hS.F ht⟩) hS.2.2 dX5_isPlace_20
theorem dX5_isSpan_0 : decode cX5_isSpan 0 = .ok (.iload_n 1, 1) := by decide +kernel
theorem dX5_isSpan_1 : decode cX5_isSpan 1 = .ok (.ifCond .lt 23, 3) := by decide +kernel
theorem dX5_isSpan_24 : decode cX5_isSpan 24 = .ok (.iconst 0, 1) := by decide +kernel
theorem dX5_isSpan_25 : decode cX5_isSpan 25 = .ok (.ireturn, 1) := by decide +kernel
theorem dX5_isSpan_4 : decode cX5_isSpan 4 = .ok (.iload_n 1, 1) := by decide +kernel
theorem dX5_isSpan_5 : decode cX5_isSpan 5 = .ok (.iload_n 2, 1) := by decide +kernel
theorem dX5_isSpan_6 : decode cX5_isSpan 6 = .ok (.if_icmp .ge 18, 3) := by decide +kernel
theorem dX5_isSpan_9 : decode cX5_isSpan 9 = .ok (.iload_n 2, 1) := by decide +kernel
theorem dX5_isSpan_10 : decode cX5_isSpan 10 = .ok (.aload_n 0, 1) := by decide +kernel
theorem dX5_isSpan_11 : decode cX5_isSpan 11 = .ok (.getfield 36, 3) := by decide +kernel
theorem in_X5_isSpan_X5 : ∀ w ∈ wsX50, w ∈ wsX5_isSpan := by decide +kernel
theorem m_X5_isSpan_1 : (.fieldLink RX5 36 "RedlineDesk" "shown" "LRedlineDesk$View;" : Cond) ∈ wsX5_isSpan := List.mem_of_getElem? (i := 1) (by decide +kernel)
theorem dX5_isSpan_14 : decode cX5_isSpan 14 = .ok (.getfield 76, 3) := by decide +kernel
theorem in_X5_isSpan_X4 : ∀ w ∈ wsX40, w ∈ wsX5_isSpan := by decide +kernel
theorem m_X5_isSpan_2 : (.fieldLink RX5 76 "RedlineDesk$View" "size" "I" : Cond) ∈ wsX5_isSpan := List.mem_of_getElem? (i := 2) (by decide +kernel)
theorem dX5_isSpan_17 : decode cX5_isSpan 17 = .ok (.if_icmp .gt 7, 3) := by decide +kernel
theorem dX5_isSpan_20 : decode cX5_isSpan 20 = .ok (.iconst 1, 1) := by decide +kernel
theorem dX5_isSpan_21 : decode cX5_isSpan 21 = .ok (.goto 4, 3) := by decide +kernel
def f_X5_isSpan (zv_size : Int32) (a_a : Int32) (a_b : Int32) : Int32 := if a_a < (0 : Int32) then (0 : Int32) else if a_b ≤ a_a then (0 : Int32) else if zv_size < a_b then (0 : Int32) else (1 : Int32)
set_option maxHeartbeats 4000000 in
set_option maxRecDepth 100000 in
theorem c_X5_isSpan (l : Launch) (dC : Nat → ClassId) (dI : Nat → Nat → Nat) (cI cJ : ClassId) (sz : Nat) (zd zv azv_spots azv_homes zt zr zw zg zk : Nat) (zv_spots zv_homes : Nat → Int32) (zv_size zv_counts zv_hides : Int32) (a_a : Int32) (a_b : Int32) : Met l yX5_isSpan wsX5_isSpan ({ frames := 0, cells := 0, slots := 0, locals := 0 } : Room) (va_Pc [.ref zd, .int a_a, .int a_b] (PreW dC dI cI cJ sz [(zd, .inr (5, [.ref zt, .ref zr, .ref zw, .ref zg, .ref zv, .ref zk])), (zv, .inr (4, [.ref azv_spots, .ref azv_homes, .int zv_size, .int zv_counts, .int zv_hides])), (azv_spots, .inl (cI, 240, .inl zv_spots)), (azv_homes, .inl (cI, 240, .inl zv_homes))])) (va_Qi (fun (r : Int32) (_ : Unit) => r = f_X5_isSpan zv_size a_a a_b) (fun (_ : Unit) _ => True) (fun q => sz ≤ q)) 0 0 (fun q => sz ≤ q) := by
  refine Met.ofW (cc := cX5_isSpan) (maxL := 3) (ret := (some .boolean)) (by decide) rfl ?_
  intro p e s m args below meth c s₁ B hml hv
  obtain ⟨rfl, hsz, hP, hK, hN, hD0⟩ := hv
  have hx := B.exec
  have hb := B.bytes
  have hr := B.returns
  have hts := atoms_spec (ws := wsX5_isSpan) B.pre
  have hown : s.vm.findClass RX5 = some m.cls := findClass_of_methodNamed B.named
  have hlocks := B.notSynchronized
  subst hsz
  have hD := hD0
  generalize hAe : (fun q => s.heap.size ≤ q) = A
  have hA : ∀ q : Nat, s.heap.size ≤ q → A q := fun q h => by rw [← hAe]; exact h
  have hS : va_S A s.heap s.heap [] := va_S.rf
  have hP : va_P (dC, dI) vwCl [(zd, .inr (5, [.ref zt, .ref zr, .ref zw, .ref zg, .ref zv, .ref zk])), (zv, .inr (4, [.ref azv_spots, .ref azv_homes, .int zv_size, .int zv_counts, .int zv_hides])), (azv_spots, .inl (cI, 240, .inl zv_spots)), (azv_homes, .inl (cI, 240, .inl zv_homes))] s.heap := hP
  have hl := lv_entry ([.ref zd, .int a_a, .int a_b]) (n := 3) (Nat.le_of_ble_eq_true rfl)
  rw [lg_entry_eq]
  generalize (lg_sl ([.ref zd, .int a_a, .int a_b]) ++ List.replicate (3 - (lg_sl ([.ref zd, .int a_a, .int a_b])).length) Slot.unset).toArray = ls at hl ⊢
  have hl : lv_has ls 3 [(0, .ref zd), (1, .int a_a), (2, .int a_b)] := hl
  refine lv_iload_n hx hb dX5_isSpan_0 rfl (lv_at hl 1 rfl) ?_
  refine lv_if_lt (tgt := 24) hx hb dX5_isSpan_1 (by decide) (fun c_1 => ?_) (fun c_1 => ?_)
  · have tc_1 : a_a.toInt < (0 : Int) := q_lt c_1
    refine lv_iconst (v := (0 : Int32)) hx hb dX5_isSpan_24 (by decide) ?_
    have hE : f_X5_isSpan zv_size a_a a_b = (0 : Int32) := (by rw [f_X5_isSpan, if_pos c_1])
    exact W.zret (v := (0 : Int32)) hx hb hr (by decide) (fun t ht hW => ⟨⟨(0 : Int32), (), rfl, by rw [hE], trivial⟩, hS.F ht⟩) hS.2.2 dX5_isSpan_25
  · have tc_1 : (0 : Int) ≤ a_a.toInt := q_nlt c_1
    refine lv_iload_n hx hb dX5_isSpan_4 rfl (lv_at hl 1 rfl) ?_
    refine lv_iload_n hx hb dX5_isSpan_5 rfl (lv_at hl 2 rfl) ?_
    refine lv_icmp_ge (tgt := 24) hx hb dX5_isSpan_6 (by decide) (fun c_2 => ?_) (fun c_2 => ?_)
    · have tc_2 : a_b.toInt ≤ a_a.toInt := q_le c_2
      refine lv_iconst (v := (0 : Int32)) hx hb dX5_isSpan_24 (by decide) ?_
      have hE : f_X5_isSpan zv_size a_a a_b = (0 : Int32) := (by rw [f_X5_isSpan, if_neg c_1, if_pos c_2])
      exact W.zret (v := (0 : Int32)) hx hb hr (by decide) (fun t ht hW => ⟨⟨(0 : Int32), (), rfl, by rw [hE], trivial⟩, hS.F ht⟩) hS.2.2 dX5_isSpan_25
    · have tc_2 : a_a.toInt < a_b.toInt := q_nle c_2
      refine lv_iload_n hx hb dX5_isSpan_9 rfl (lv_at hl 2 rfl) ?_
      refine lv_aload_n hx hb dX5_isSpan_10 rfl (lv_at hl 0 rfl) ?_
      refine va_get (D := (dC, dI)) (ci := 5) (v := .ref zv) (C := RX5) (T := TX5) (N := 6) hx hb hts in_X5_isSpan_X5 hown hK hP 0 rfl rfl 4 (by decide) (hts _ m_X5_isSpan_1) (fun _ h9 => h9) rfl dX5_isSpan_11 ?_
      refine va_get (D := (dC, dI)) (ci := 4) (v := .int zv_size) (C := RX4) (T := TX4) (N := 5) hx hb hts in_X5_isSpan_X4 hown hK hP 1 rfl rfl 2 (by decide) (hts _ m_X5_isSpan_2) (fun _ h9 => h9) rfl dX5_isSpan_14 ?_
      refine lv_icmp_gt (tgt := 24) hx hb dX5_isSpan_17 (by decide) (fun c_3 => ?_) (fun c_3 => ?_)
      · have tc_3 : zv_size.toInt < a_b.toInt := q_lt c_3
        refine lv_iconst (v := (0 : Int32)) hx hb dX5_isSpan_24 (by decide) ?_
        have hE : f_X5_isSpan zv_size a_a a_b = (0 : Int32) := (by rw [f_X5_isSpan, if_neg c_1, if_neg c_2, if_pos c_3])
        exact W.zret (v := (0 : Int32)) hx hb hr (by decide) (fun t ht hW => ⟨⟨(0 : Int32), (), rfl, by rw [hE], trivial⟩, hS.F ht⟩) hS.2.2 dX5_isSpan_25
      · have tc_3 : a_b.toInt ≤ zv_size.toInt := q_nlt c_3
        refine lv_iconst (v := (1 : Int32)) hx hb dX5_isSpan_20 (by decide) ?_
        refine lv_goto (tgt := 25) hx hb dX5_isSpan_21 (by decide) ?_
        have hE : f_X5_isSpan zv_size a_a a_b = (1 : Int32) := (by rw [f_X5_isSpan, if_neg c_1, if_neg c_2, if_neg c_3])
        exact W.zret (v := (1 : Int32)) hx hb hr (by decide) (fun t ht hW => ⟨⟨(1 : Int32), (), rfl, by rw [hE], trivial⟩, hS.F ht⟩) hS.2.2 dX5_isSpan_25
theorem dX5_spotBehind_0 : decode cX5_spotBehind 0 = .ok (.iload_n 1, 1) := by decide +kernel
theorem dX5_spotBehind_1 : decode cX5_spotBehind 1 = .ok (.ifCond .ne 7, 3) := by decide +kernel
theorem dX5_spotBehind_8 : decode cX5_spotBehind 8 = .ok (.aload_n 0, 1) := by decide +kernel
theorem dX5_spotBehind_9 : decode cX5_spotBehind 9 = .ok (.getfield 36, 3) := by decide +kernel
theorem in_X5_spotBehind_X5 : ∀ w ∈ wsX50, w ∈ wsX5_spotBehind := by decide +kernel
theorem m_X5_spotBehind_1 : (.fieldLink RX5 36 "RedlineDesk" "shown" "LRedlineDesk$View;" : Cond) ∈ wsX5_spotBehind := List.mem_of_getElem? (i := 1) (by decide +kernel)
theorem dX5_spotBehind_12 : decode cX5_spotBehind 12 = .ok (.iload_n 1, 1) := by decide +kernel
theorem dX5_spotBehind_13 : decode cX5_spotBehind 13 = .ok (.iconst 1, 1) := by decide +kernel
theorem dX5_spotBehind_14 : decode cX5_spotBehind 14 = .ok (.isub, 1) := by decide +kernel
theorem dX5_spotBehind_15 : decode cX5_spotBehind 15 = .ok (.invokevirtual 77, 3) := by decide +kernel
set_option maxRecDepth 20000 in
theorem ggX5_spotBehind_X4_spotAt : GoodIn wsX5_spotBehind wsX4_spotAt := goodIn_r _ [6, 7, 8, 15, 16, 17, 18, 19] (by decide +kernel) (by decide +kernel)
set_option maxRecDepth 20000 in
theorem gX5_spotBehind_X4_spotAt : GoodIn wsX5_spotBehind (wsV RX5 77 RX4 yX4_spotAt wsX4_spotAt) := goodIn_app (goodIn_of _ (by decide +kernel)) ggX5_spotBehind_X4_spotAt
theorem dX5_spotBehind_18 : decode cX5_spotBehind 18 = .ok (.iconst 1, 1) := by decide +kernel
theorem dX5_spotBehind_19 : decode cX5_spotBehind 19 = .ok (.iadd, 1) := by decide +kernel
theorem dX5_spotBehind_20 : decode cX5_spotBehind 20 = .ok (.ireturn, 1) := by decide +kernel
theorem dX5_spotBehind_4 : decode cX5_spotBehind 4 = .ok (.iconst 0, 1) := by decide +kernel
theorem dX5_spotBehind_5 : decode cX5_spotBehind 5 = .ok (.goto 15, 3) := by decide +kernel
def f_X5_spotBehind (zv_spots : Nat → Int32) (zv_size : Int32) (a_a : Int32) : Int32 := if a_a = (0 : Int32) then (0 : Int32) else ((f_X4_spotAt zv_spots zv_size (a_a - (1 : Int32))) + (1 : Int32))
set_option maxHeartbeats 4000000 in
set_option maxRecDepth 100000 in
theorem c_X5_spotBehind (l : Launch) (dC : Nat → ClassId) (dI : Nat → Nat → Nat) (cI cJ : ClassId) (sz : Nat) (zd zv azv_spots azv_homes zt zr zw zg zk : Nat) (zv_spots zv_homes : Nat → Int32) (zv_size zv_counts zv_hides : Int32) (a_a : Int32) : Met l yX5_spotBehind wsX5_spotBehind ({ frames := 1, cells := 0, slots := 0, locals := 21 } : Room) (va_Pc [.ref zd, .int a_a] (PreW dC dI cI cJ sz [(zd, .inr (5, [.ref zt, .ref zr, .ref zw, .ref zg, .ref zv, .ref zk])), (zv, .inr (4, [.ref azv_spots, .ref azv_homes, .int zv_size, .int zv_counts, .int zv_hides])), (azv_spots, .inl (cI, 240, .inl zv_spots)), (azv_homes, .inl (cI, 240, .inl zv_homes))])) (va_Qi (fun (r : Int32) (_ : Unit) => r = f_X5_spotBehind zv_spots zv_size a_a) (fun (_ : Unit) _ => True) (fun q => sz ≤ q)) 0 0 (fun q => sz ≤ q) := by
  refine Met.ofW (cc := cX5_spotBehind) (maxL := 2) (ret := (some .int)) (by decide) rfl ?_
  intro p e s m args below meth c s₁ B hml hv
  obtain ⟨rfl, hsz, hP, hK, hN, hD0⟩ := hv
  have hx := B.exec
  have hb := B.bytes
  have hr := B.returns
  have hts := atoms_spec (ws := wsX5_spotBehind) B.pre
  have hown : s.vm.findClass RX5 = some m.cls := findClass_of_methodNamed B.named
  have hlocks := B.notSynchronized
  subst hsz
  have hD := hD0
  generalize hAe : (fun q => s.heap.size ≤ q) = A
  have hA : ∀ q : Nat, s.heap.size ≤ q → A q := fun q h => by rw [← hAe]; exact h
  have hS : va_S A s.heap s.heap [] := va_S.rf
  have hP : va_P (dC, dI) vwCl [(zd, .inr (5, [.ref zt, .ref zr, .ref zw, .ref zg, .ref zv, .ref zk])), (zv, .inr (4, [.ref azv_spots, .ref azv_homes, .int zv_size, .int zv_counts, .int zv_hides])), (azv_spots, .inl (cI, 240, .inl zv_spots)), (azv_homes, .inl (cI, 240, .inl zv_homes))] s.heap := hP
  have hl := lv_entry ([.ref zd, .int a_a]) (n := 2) (Nat.le_of_ble_eq_true rfl)
  rw [lg_entry_eq]
  generalize (lg_sl ([.ref zd, .int a_a]) ++ List.replicate (2 - (lg_sl ([.ref zd, .int a_a])).length) Slot.unset).toArray = ls at hl ⊢
  have hl : lv_has ls 2 [(0, .ref zd), (1, .int a_a)] := hl
  refine lv_iload_n hx hb dX5_spotBehind_0 rfl (lv_at hl 1 rfl) ?_
  refine lv_if_ne (tgt := 8) hx hb dX5_spotBehind_1 (by decide) (fun c_1 => ?_) (fun c_1 => ?_)
  · have tc_1 : ¬ a_a.toInt = (0 : Int) := q_ne c_1
    refine lv_aload_n hx hb dX5_spotBehind_8 rfl (lv_at hl 0 rfl) ?_
    refine va_get (D := (dC, dI)) (ci := 5) (v := .ref zv) (C := RX5) (T := TX5) (N := 6) hx hb hts in_X5_spotBehind_X5 hown hK hP 0 rfl rfl 4 (by decide) (hts _ m_X5_spotBehind_1) (fun _ h9 => h9) rfl dX5_spotBehind_9 ?_
    refine lv_iload_n hx hb dX5_spotBehind_12 rfl (lv_at hl 1 rfl) ?_
    refine lv_iconst (v := (1 : Int32)) hx hb dX5_spotBehind_13 (by decide) ?_
    refine lv_isub hx hb dX5_spotBehind_14 ?_
    obtain ⟨z_2, hz_2⟩ : ∃ z : Int32, z = (a_a - (1 : Int32)) := ⟨_, rfl⟩
    try have gz_2 : z_2.toInt = a_a.toInt - (1 : Int) := by rw [hz_2]; exact ti_sub2 rfl rfl (by omega) (by omega)
    have hPc := hP.sub (ws' := [(zv, .inr (4, [.ref azv_spots, .ref azv_homes, .int zv_size, .int zv_counts, .int zv_hides])), (azv_spots, .inl (cI, 240, .inl zv_spots)), (azv_homes, .inl (cI, 240, .inl zv_homes))]) [1, 2, 3] rfl
    have hDc := hD.sub (ws' := [(zv, .inr (4, [.ref azv_spots, .ref azv_homes, .int zv_size, .int zv_counts, .int zv_hides])), (azv_spots, .inl (cI, 240, .inl zv_spots)), (azv_homes, .inl (cI, 240, .inl zv_homes))]) [1, 2, 3] (by decide) rfl
    refine va_calli (va_runV (As := [.int (a_a - (1 : Int32))]) (rest := []) ⟨hx, hb, hml, hown, hts⟩ (c_X4_spotAt l dC dI cI cJ s.heap.size zv azv_spots azv_homes zv_spots zv_homes zv_size zv_counts zv_hides (a_a - (1 : Int32))) (cwV 1 hts gX5_spotBehind_X4_spotAt rfl rfl rfl (by decide +kernel) ⟨Nat.le_of_ble_eq_true rfl, Nat.le_of_ble_eq_true rfl⟩) ⟨fun a U g mk q => ⟨q.1, PreW.call g mk a q.2⟩, va_recv hK hP (ci := 4) (q0 := 1) rfl rfl, fun U hU hW => ⟨rfl, PreW.mk2 hU hW hPc hK hN (hDc.weaken (fun _ _ _ _ => trivial))⟩⟩ rfl rfl hl.1 rfl (lv_room (Nat.le_of_ble_eq_true rfl)) dX5_spotBehind_15 ⟨Nat.le_of_ble_eq_true rfl, Nat.le_of_ble_eq_true rfl⟩) hS (fun q hq h => absurd hq (Nat.not_lt.mpr h)) (fun q h => hA q (Nat.le_trans hS.1 h)) (fun r_3 _u t H1 locs ht hvm hw hB hz1 hk1 hS => ?_)
    have hP := va_ro hP hk1
    generalize H1 = H at hP hS ⊢
    have hw : r_3 = f_X4_spotAt zv_spots zv_size (a_a - (1 : Int32)) := hw
    subst hw
    obtain ⟨z_4, hz_4⟩ : ∃ z : Int32, z = f_X4_spotAt zv_spots zv_size (a_a - (1 : Int32)) := ⟨_, rfl⟩
    refine lv_iconst (v := (1 : Int32)) hx hb dX5_spotBehind_18 (by decide) ?_
    refine lv_iadd hx hb dX5_spotBehind_19 ?_
    obtain ⟨z_5, hz_5⟩ : ∃ z : Int32, z = ((f_X4_spotAt zv_spots zv_size (a_a - (1 : Int32))) + (1 : Int32)) := ⟨_, rfl⟩
    try have gz_5 : z_5.toInt = z_4.toInt + (1 : Int) := by rw [hz_5, ← hz_4]; exact ti_add2 rfl rfl (by omega) (by omega)
    have hE : f_X5_spotBehind zv_spots zv_size a_a = ((f_X4_spotAt zv_spots zv_size (a_a - (1 : Int32))) + (1 : Int32)) := (by rw [f_X5_spotBehind, if_neg c_1])
    exact W.iret (v := ((f_X4_spotAt zv_spots zv_size (a_a - (1 : Int32))) + (1 : Int32))) hx hb hr (fun t ht hW => ⟨⟨((f_X4_spotAt zv_spots zv_size (a_a - (1 : Int32))) + (1 : Int32)), (), rfl, by rw [hE], trivial⟩, hS.F ht⟩) hS.2.2 dX5_spotBehind_20
  · have tc_1 : a_a.toInt = (0 : Int) := q_eq c_1
    refine lv_iconst (v := (0 : Int32)) hx hb dX5_spotBehind_4 (by decide) ?_
    refine lv_goto (tgt := 20) hx hb dX5_spotBehind_5 (by decide) ?_
    have hE : f_X5_spotBehind zv_spots zv_size a_a = (0 : Int32) := (by rw [f_X5_spotBehind, if_pos c_1])
    exact W.iret (v := (0 : Int32)) hx hb hr (fun t ht hW => ⟨⟨(0 : Int32), (), rfl, by rw [hE], trivial⟩, hS.F ht⟩) hS.2.2 dX5_spotBehind_20
theorem dX5_movesBehind_0 : decode cX5_movesBehind 0 = .ok (.aload_n 0, 1) := by decide +kernel
theorem dX5_movesBehind_1 : decode cX5_movesBehind 1 = .ok (.getfield 36, 3) := by decide +kernel
theorem in_X5_movesBehind_X5 : ∀ w ∈ wsX50, w ∈ wsX5_movesBehind := by decide +kernel
theorem m_X5_movesBehind_1 : (.fieldLink RX5 36 "RedlineDesk" "shown" "LRedlineDesk$View;" : Cond) ∈ wsX5_movesBehind := List.mem_of_getElem? (i := 1) (by decide +kernel)
theorem dX5_movesBehind_4 : decode cX5_movesBehind 4 = .ok (.iload_n 1, 1) := by decide +kernel
theorem dX5_movesBehind_5 : decode cX5_movesBehind 5 = .ok (.iconst 1, 1) := by decide +kernel
theorem dX5_movesBehind_6 : decode cX5_movesBehind 6 = .ok (.isub, 1) := by decide +kernel
theorem dX5_movesBehind_7 : decode cX5_movesBehind 7 = .ok (.invokevirtual 77, 3) := by decide +kernel
set_option maxRecDepth 20000 in
theorem ggX5_movesBehind_X4_spotAt : GoodIn wsX5_movesBehind wsX4_spotAt := goodIn_r _ [9, 10, 11, 44, 45, 46, 47, 48] (by decide +kernel) (by decide +kernel)
set_option maxRecDepth 20000 in
theorem gX5_movesBehind_X4_spotAt : GoodIn wsX5_movesBehind (wsV RX5 77 RX4 yX4_spotAt wsX4_spotAt) := goodIn_app (goodIn_of _ (by decide +kernel)) ggX5_movesBehind_X4_spotAt
theorem dX5_movesBehind_10 : decode cX5_movesBehind 10 = .ok (.istore_n 2, 1) := by decide +kernel
theorem dX5_movesBehind_11 : decode cX5_movesBehind 11 = .ok (.aload_n 0, 1) := by decide +kernel
theorem dX5_movesBehind_12 : decode cX5_movesBehind 12 = .ok (.getfield 19, 3) := by decide +kernel
theorem m_X5_movesBehind_2 : (.fieldLink RX5 19 "RedlineDesk" "row" "LRedlineDesk$Row;" : Cond) ∈ wsX5_movesBehind := List.mem_of_getElem? (i := 2) (by decide +kernel)
theorem dX5_movesBehind_15 : decode cX5_movesBehind 15 = .ok (.iload_n 2, 1) := by decide +kernel
theorem dX5_movesBehind_16 : decode cX5_movesBehind 16 = .ok (.invokevirtual 81, 3) := by decide +kernel
set_option maxRecDepth 20000 in
theorem ggX5_movesBehind_X2_has : GoodIn wsX5_movesBehind wsX2_has := goodIn_r _ [16, 17, 38, 39, 40, 41, 42, 43] (by decide +kernel) (by decide +kernel)
set_option maxRecDepth 20000 in
theorem gX5_movesBehind_X2_has : GoodIn wsX5_movesBehind (wsV RX5 81 RX2 yX2_has wsX2_has) := goodIn_app (goodIn_of _ (by decide +kernel)) ggX5_movesBehind_X2_has
theorem dX5_movesBehind_19 : decode cX5_movesBehind 19 = .ok (.ifCond .eq 24, 3) := by decide +kernel
theorem dX5_movesBehind_43 : decode cX5_movesBehind 43 = .ok (.iconst 0, 1) := by decide +kernel
theorem dX5_movesBehind_44 : decode cX5_movesBehind 44 = .ok (.ireturn, 1) := by decide +kernel
theorem dX5_movesBehind_22 : decode cX5_movesBehind 22 = .ok (.aload_n 0, 1) := by decide +kernel
theorem dX5_movesBehind_23 : decode cX5_movesBehind 23 = .ok (.getfield 19, 3) := by decide +kernel
theorem dX5_movesBehind_26 : decode cX5_movesBehind 26 = .ok (.getfield 91, 3) := by decide +kernel
theorem in_X5_movesBehind_X2 : ∀ w ∈ wsX20, w ∈ wsX5_movesBehind := by decide +kernel
theorem m_X5_movesBehind_3 : (.fieldLink RX5 91 "RedlineDesk$Row" "in" "[I" : Cond) ∈ wsX5_movesBehind := List.mem_of_getElem? (i := 3) (by decide +kernel)
theorem dX5_movesBehind_29 : decode cX5_movesBehind 29 = .ok (.iload_n 2, 1) := by decide +kernel
theorem dX5_movesBehind_30 : decode cX5_movesBehind 30 = .ok (.iaload, 1) := by decide +kernel
theorem dX5_movesBehind_31 : decode cX5_movesBehind 31 = .ok (.aload_n 0, 1) := by decide +kernel
theorem dX5_movesBehind_32 : decode cX5_movesBehind 32 = .ok (.getfield 29, 3) := by decide +kernel
theorem m_X5_movesBehind_4 : (.fieldLink RX5 29 "RedlineDesk" "ledger" "LRedlineDesk$Ledger;" : Cond) ∈ wsX5_movesBehind := List.mem_of_getElem? (i := 4) (by decide +kernel)
theorem dX5_movesBehind_35 : decode cX5_movesBehind 35 = .ok (.iconst 2, 1) := by decide +kernel
theorem dX5_movesBehind_36 : decode cX5_movesBehind 36 = .ok (.invokevirtual 94, 3) := by decide +kernel
set_option maxRecDepth 20000 in
theorem ggX5_movesBehind_X1_ofKind : GoodIn wsX5_movesBehind wsX1_ofKind := goodIn_r _ [22, 23, 24, 25, 26, 21, 27, 28, 29, 30, 31, 49, 50, 51, 52, 53] (by decide +kernel) (by decide +kernel)
set_option maxRecDepth 20000 in
theorem gX5_movesBehind_X1_ofKind : GoodIn wsX5_movesBehind (wsV RX5 94 RX1 yX1_ofKind wsX1_ofKind) := goodIn_app (goodIn_of _ (by decide +kernel)) ggX5_movesBehind_X1_ofKind
theorem dX5_movesBehind_39 : decode cX5_movesBehind 39 = .ok (.iand, 1) := by decide +kernel
theorem dX5_movesBehind_40 : decode cX5_movesBehind 40 = .ok (.goto 4, 3) := by decide +kernel
def f_X5_movesBehind (zr_in : Nat → Int32) (zr_size : Int32) (zg_kind : Nat → Int32) (zg_size : Int32) (zv_spots : Nat → Int32) (zv_size : Int32) (a_a : Int32) : Int32 := if (f_X2_has zr_size (f_X4_spotAt zv_spots zv_size (a_a - (1 : Int32)))) = (0 : Int32) then (0 : Int32) else ((zr_in ((f_X4_spotAt zv_spots zv_size (a_a - (1 : Int32)))).toNatClampNeg) &&& (f_X1_ofKind zg_kind zg_size (2 : Int32)))
set_option maxHeartbeats 4000000 in
set_option maxRecDepth 100000 in
theorem c_X5_movesBehind (l : Launch) (dC : Nat → ClassId) (dI : Nat → Nat → Nat) (cI cJ : ClassId) (sz : Nat) (zd zr azr_sign azr_token azr_in azr_own azr_since zg azg_kind azg_hand azg_state azg_look zv azv_spots azv_homes zt zw zk : Nat) (zr_sign zr_token zr_in zr_own zr_since zg_kind zg_hand zg_state zg_look zv_spots zv_homes : Nat → Int32) (zr_size zg_size zv_size zv_counts zv_hides : Int32) (a_a : Int32) : Met l yX5_movesBehind wsX5_movesBehind ({ frames := 2, cells := 0, slots := 0, locals := 44 } : Room) (va_Pc [.ref zd, .int a_a] (PreW dC dI cI cJ sz [(zd, .inr (5, [.ref zt, .ref zr, .ref zw, .ref zg, .ref zv, .ref zk])), (zr, .inr (2, [.ref azr_sign, .ref azr_token, .ref azr_in, .ref azr_own, .ref azr_since, .int zr_size])), (azr_sign, .inl (cI, 240, .inl zr_sign)), (azr_token, .inl (cI, 240, .inl zr_token)), (azr_in, .inl (cI, 240, .inl zr_in)), (azr_own, .inl (cI, 240, .inl zr_own)), (azr_since, .inl (cI, 240, .inl zr_since)), (zg, .inr (1, [.ref azg_kind, .ref azg_hand, .ref azg_state, .ref azg_look, .int zg_size])), (azg_kind, .inl (cI, 25, .inl zg_kind)), (azg_hand, .inl (cI, 25, .inl zg_hand)), (azg_state, .inl (cI, 25, .inl zg_state)), (azg_look, .inl (cI, 25, .inl zg_look)), (zv, .inr (4, [.ref azv_spots, .ref azv_homes, .int zv_size, .int zv_counts, .int zv_hides])), (azv_spots, .inl (cI, 240, .inl zv_spots)), (azv_homes, .inl (cI, 240, .inl zv_homes))])) (va_Qi (fun (r : Int32) (_ : Unit) => r = f_X5_movesBehind zr_in zr_size zg_kind zg_size zv_spots zv_size a_a) (fun (_ : Unit) _ => True) (fun q => sz ≤ q)) 0 0 (fun q => sz ≤ q) := by
  refine Met.ofW (cc := cX5_movesBehind) (maxL := 3) (ret := (some .int)) (by decide) rfl ?_
  intro p e s m args below meth c s₁ B hml hv
  obtain ⟨rfl, hsz, hP, hK, hN, hD0⟩ := hv
  have hx := B.exec
  have hb := B.bytes
  have hr := B.returns
  have hts := atoms_spec (ws := wsX5_movesBehind) B.pre
  have hown : s.vm.findClass RX5 = some m.cls := findClass_of_methodNamed B.named
  have hlocks := B.notSynchronized
  subst hsz
  have hD := hD0
  generalize hAe : (fun q => s.heap.size ≤ q) = A
  have hA : ∀ q : Nat, s.heap.size ≤ q → A q := fun q h => by rw [← hAe]; exact h
  have hS : va_S A s.heap s.heap [] := va_S.rf
  have hP : va_P (dC, dI) vwCl [(zd, .inr (5, [.ref zt, .ref zr, .ref zw, .ref zg, .ref zv, .ref zk])), (zr, .inr (2, [.ref azr_sign, .ref azr_token, .ref azr_in, .ref azr_own, .ref azr_since, .int zr_size])), (azr_sign, .inl (cI, 240, .inl zr_sign)), (azr_token, .inl (cI, 240, .inl zr_token)), (azr_in, .inl (cI, 240, .inl zr_in)), (azr_own, .inl (cI, 240, .inl zr_own)), (azr_since, .inl (cI, 240, .inl zr_since)), (zg, .inr (1, [.ref azg_kind, .ref azg_hand, .ref azg_state, .ref azg_look, .int zg_size])), (azg_kind, .inl (cI, 25, .inl zg_kind)), (azg_hand, .inl (cI, 25, .inl zg_hand)), (azg_state, .inl (cI, 25, .inl zg_state)), (azg_look, .inl (cI, 25, .inl zg_look)), (zv, .inr (4, [.ref azv_spots, .ref azv_homes, .int zv_size, .int zv_counts, .int zv_hides])), (azv_spots, .inl (cI, 240, .inl zv_spots)), (azv_homes, .inl (cI, 240, .inl zv_homes))] s.heap := hP
  have hl := lv_entry ([.ref zd, .int a_a]) (n := 3) (Nat.le_of_ble_eq_true rfl)
  rw [lg_entry_eq]
  generalize (lg_sl ([.ref zd, .int a_a]) ++ List.replicate (3 - (lg_sl ([.ref zd, .int a_a])).length) Slot.unset).toArray = ls at hl ⊢
  have hl : lv_has ls 3 [(0, .ref zd), (1, .int a_a)] := hl
  refine lv_aload_n hx hb dX5_movesBehind_0 rfl (lv_at hl 0 rfl) ?_
  refine va_get (D := (dC, dI)) (ci := 5) (v := .ref zv) (C := RX5) (T := TX5) (N := 6) hx hb hts in_X5_movesBehind_X5 hown hK hP 0 rfl rfl 4 (by decide) (hts _ m_X5_movesBehind_1) (fun _ h9 => h9) rfl dX5_movesBehind_1 ?_
  refine lv_iload_n hx hb dX5_movesBehind_4 rfl (lv_at hl 1 rfl) ?_
  refine lv_iconst (v := (1 : Int32)) hx hb dX5_movesBehind_5 (by decide) ?_
  refine lv_isub hx hb dX5_movesBehind_6 ?_
  obtain ⟨z_1, hz_1⟩ : ∃ z : Int32, z = (a_a - (1 : Int32)) := ⟨_, rfl⟩
  try have gz_1 : z_1.toInt = a_a.toInt - (1 : Int) := by rw [hz_1]; exact ti_sub2 rfl rfl (by omega) (by omega)
  have hPc := hP.sub (ws' := [(zv, .inr (4, [.ref azv_spots, .ref azv_homes, .int zv_size, .int zv_counts, .int zv_hides])), (azv_spots, .inl (cI, 240, .inl zv_spots)), (azv_homes, .inl (cI, 240, .inl zv_homes))]) [12, 13, 14] rfl
  have hDc := hD.sub (ws' := [(zv, .inr (4, [.ref azv_spots, .ref azv_homes, .int zv_size, .int zv_counts, .int zv_hides])), (azv_spots, .inl (cI, 240, .inl zv_spots)), (azv_homes, .inl (cI, 240, .inl zv_homes))]) [12, 13, 14] (by decide) rfl
  refine va_calli (va_runV (As := [.int (a_a - (1 : Int32))]) (rest := []) ⟨hx, hb, hml, hown, hts⟩ (c_X4_spotAt l dC dI cI cJ s.heap.size zv azv_spots azv_homes zv_spots zv_homes zv_size zv_counts zv_hides (a_a - (1 : Int32))) (cwV 1 hts gX5_movesBehind_X4_spotAt rfl rfl rfl (by decide +kernel) ⟨Nat.le_of_ble_eq_true rfl, Nat.le_of_ble_eq_true rfl⟩) ⟨fun a U g mk q => ⟨q.1, PreW.call g mk a q.2⟩, va_recv hK hP (ci := 4) (q0 := 12) rfl rfl, fun U hU hW => ⟨rfl, PreW.mk2 hU hW hPc hK hN (hDc.weaken (fun _ _ _ _ => trivial))⟩⟩ rfl rfl hl.1 rfl (lv_room (Nat.le_of_ble_eq_true rfl)) dX5_movesBehind_7 ⟨Nat.le_of_ble_eq_true rfl, Nat.le_of_ble_eq_true rfl⟩) hS (fun q hq h => absurd hq (Nat.not_lt.mpr h)) (fun q h => hA q (Nat.le_trans hS.1 h)) (fun r_2 _u t H1 locs ht hvm hw hB hz1 hk1 hS => ?_)
  have hP := va_ro hP hk1
  generalize H1 = H at hP hS ⊢
  have hw : r_2 = f_X4_spotAt zv_spots zv_size (a_a - (1 : Int32)) := hw
  subst hw
  obtain ⟨z_3, hz_3⟩ : ∃ z : Int32, z = f_X4_spotAt zv_spots zv_size (a_a - (1 : Int32)) := ⟨_, rfl⟩
  refine lv_istore_n (lv' := [(2, .int (f_X4_spotAt zv_spots zv_size (a_a - (1 : Int32)))), (0, .ref zd), (1, .int a_a)]) hx hb dX5_movesBehind_10 rfl hl (by decide) rfl (fun ls hl => ?_)
  refine lv_aload_n hx hb dX5_movesBehind_11 rfl (lv_at hl 1 rfl) ?_
  refine va_get (D := (dC, dI)) (ci := 5) (v := .ref zr) (C := RX5) (T := TX5) (N := 6) hx hb hts in_X5_movesBehind_X5 hown hK hP 0 rfl rfl 1 (by decide) (hts _ m_X5_movesBehind_2) (fun _ h9 => h9) rfl dX5_movesBehind_12 ?_
  refine lv_iload_n hx hb dX5_movesBehind_15 rfl (lv_at hl 0 rfl) ?_
  have hPc := hP.sub (ws' := [(zr, .inr (2, [.ref azr_sign, .ref azr_token, .ref azr_in, .ref azr_own, .ref azr_since, .int zr_size])), (azr_sign, .inl (cI, 240, .inl zr_sign)), (azr_token, .inl (cI, 240, .inl zr_token)), (azr_in, .inl (cI, 240, .inl zr_in)), (azr_own, .inl (cI, 240, .inl zr_own)), (azr_since, .inl (cI, 240, .inl zr_since))]) [1, 2, 3, 4, 5, 6] rfl
  have hDc := hD.sub (ws' := [(zr, .inr (2, [.ref azr_sign, .ref azr_token, .ref azr_in, .ref azr_own, .ref azr_since, .int zr_size])), (azr_sign, .inl (cI, 240, .inl zr_sign)), (azr_token, .inl (cI, 240, .inl zr_token)), (azr_in, .inl (cI, 240, .inl zr_in)), (azr_own, .inl (cI, 240, .inl zr_own)), (azr_since, .inl (cI, 240, .inl zr_since))]) [1, 2, 3, 4, 5, 6] (by decide) rfl
  refine va_calli (va_runV (As := [.int (f_X4_spotAt zv_spots zv_size (a_a - (1 : Int32)))]) (rest := []) ⟨hx, hb, hml, hown, hts⟩ (c_X2_has l dC dI cI cJ H.size zr azr_sign azr_token azr_in azr_own azr_since zr_sign zr_token zr_in zr_own zr_since zr_size (f_X4_spotAt zv_spots zv_size (a_a - (1 : Int32)))) (cwV 1 hts gX5_movesBehind_X2_has rfl rfl rfl (by decide +kernel) ⟨Nat.le_of_ble_eq_true rfl, Nat.le_of_ble_eq_true rfl⟩) ⟨fun a U g mk q => ⟨q.1, PreW.call g mk a q.2⟩, va_recv hK hP (ci := 2) (q0 := 1) rfl rfl, fun U hU hW => ⟨rfl, PreW.mk2 hU hW hPc hK hN (hDc.weaken (fun _ _ _ _ => trivial))⟩⟩ rfl rfl hl.1 rfl (lv_room (Nat.le_of_ble_eq_true rfl)) dX5_movesBehind_16 ⟨Nat.le_of_ble_eq_true rfl, Nat.le_of_ble_eq_true rfl⟩) hS (fun q hq h => absurd hq (Nat.not_lt.mpr h)) (fun q h => hA q (Nat.le_trans hS.1 h)) (fun r_4 _u t H1 locs ht hvm hw hB hz1 hk1 hS => ?_)
  have hP := va_ro hP hk1
  generalize H1 = H at hP hS ⊢
  have hw : r_4 = f_X2_has zr_size (f_X4_spotAt zv_spots zv_size (a_a - (1 : Int32))) := hw
  subst hw
  obtain ⟨z_5, hz_5⟩ : ∃ z : Int32, z = f_X2_has zr_size (f_X4_spotAt zv_spots zv_size (a_a - (1 : Int32))) := ⟨_, rfl⟩
  refine lv_if_eq (tgt := 43) hx hb dX5_movesBehind_19 (by decide) (fun c_6 => ?_) (fun c_6 => ?_)
  · have tc_6 : z_5.toInt = (0 : Int) := by rw [hz_5]; exact q_eq c_6
    refine lv_iconst (v := (0 : Int32)) hx hb dX5_movesBehind_43 (by decide) ?_
    have hE : f_X5_movesBehind zr_in zr_size zg_kind zg_size zv_spots zv_size a_a = (0 : Int32) := (by rw [f_X5_movesBehind, if_pos c_6])
    exact W.iret (v := (0 : Int32)) hx hb hr (fun t ht hW => ⟨⟨(0 : Int32), (), rfl, by rw [hE], trivial⟩, hS.F ht⟩) hS.2.2 dX5_movesBehind_44
  · have tc_6 : ¬ z_5.toInt = (0 : Int) := by rw [hz_5]; exact q_ne c_6
    obtain ⟨b_7, b_8, b_9⟩ := has_in c_6
    try simp only [← hz_3] at b_7 b_8 b_9
    refine lv_aload_n hx hb dX5_movesBehind_22 rfl (lv_at hl 1 rfl) ?_
    refine va_get (D := (dC, dI)) (ci := 5) (v := .ref zr) (C := RX5) (T := TX5) (N := 6) hx hb hts in_X5_movesBehind_X5 hown hK hP 0 rfl rfl 1 (by decide) (hts _ m_X5_movesBehind_2) (fun _ h9 => h9) rfl dX5_movesBehind_23 ?_
    refine va_get (D := (dC, dI)) (ci := 2) (v := .ref azr_in) (C := RX2) (T := TX2) (N := 6) hx hb hts in_X5_movesBehind_X2 hown hK hP 1 rfl rfl 2 (by decide) (hts _ m_X5_movesBehind_3) (fun _ h9 => h9) rfl dX5_movesBehind_26 ?_
    refine lv_iload_n hx hb dX5_movesBehind_29 rfl (lv_at hl 0 rfl) ?_
    refine va_iald (q0 := 4) (t0 := 0) (n := 240) (f := zr_in) hx hb hK hP rfl rfl (by rw [← hz_3]; exact vp_in_iff.mpr ⟨by omega, by omega⟩) dX5_movesBehind_30 ?_
    refine lv_aload_n hx hb dX5_movesBehind_31 rfl (lv_at hl 1 rfl) ?_
    refine va_get (D := (dC, dI)) (ci := 5) (v := .ref zg) (C := RX5) (T := TX5) (N := 6) hx hb hts in_X5_movesBehind_X5 hown hK hP 0 rfl rfl 3 (by decide) (hts _ m_X5_movesBehind_4) (fun _ h9 => h9) rfl dX5_movesBehind_32 ?_
    refine lv_iconst (v := (2 : Int32)) hx hb dX5_movesBehind_35 (by decide) ?_
    have hPc := hP.sub (ws' := [(zg, .inr (1, [.ref azg_kind, .ref azg_hand, .ref azg_state, .ref azg_look, .int zg_size])), (azg_kind, .inl (cI, 25, .inl zg_kind)), (azg_hand, .inl (cI, 25, .inl zg_hand)), (azg_state, .inl (cI, 25, .inl zg_state)), (azg_look, .inl (cI, 25, .inl zg_look))]) [7, 8, 9, 10, 11] rfl
    have hDc := hD.sub (ws' := [(zg, .inr (1, [.ref azg_kind, .ref azg_hand, .ref azg_state, .ref azg_look, .int zg_size])), (azg_kind, .inl (cI, 25, .inl zg_kind)), (azg_hand, .inl (cI, 25, .inl zg_hand)), (azg_state, .inl (cI, 25, .inl zg_state)), (azg_look, .inl (cI, 25, .inl zg_look))]) [7, 8, 9, 10, 11] (by decide) rfl
    refine va_calli (va_runV (As := [.int (2 : Int32)]) (rest := [.int (zr_in ((f_X4_spotAt zv_spots zv_size (a_a - (1 : Int32)))).toNatClampNeg)]) ⟨hx, hb, hml, hown, hts⟩ (c_X1_ofKind l dC dI cI cJ H.size zg azg_kind azg_hand azg_state azg_look zg_kind zg_hand zg_state zg_look zg_size (2 : Int32)) (cwV 1 hts gX5_movesBehind_X1_ofKind rfl rfl rfl (by decide +kernel) ⟨Nat.le_of_ble_eq_true rfl, Nat.le_of_ble_eq_true rfl⟩) ⟨fun a U g mk q => ⟨q.1, PreW.call g mk a q.2⟩, va_recv hK hP (ci := 1) (q0 := 7) rfl rfl, fun U hU hW => ⟨rfl, PreW.mk2 hU hW hPc hK hN (hDc.weaken (fun _ _ _ _ => trivial))⟩⟩ rfl rfl hl.1 rfl (lv_room (Nat.le_of_ble_eq_true rfl)) dX5_movesBehind_36 ⟨Nat.le_of_ble_eq_true rfl, Nat.le_of_ble_eq_true rfl⟩) hS (fun q hq h => absurd hq (Nat.not_lt.mpr h)) (fun q h => hA q (Nat.le_trans hS.1 h)) (fun r_10 _u t H1 locs ht hvm hw hB hz1 hk1 hS => ?_)
    have hP := va_ro hP hk1
    generalize H1 = H at hP hS ⊢
    have hw : r_10 = f_X1_ofKind zg_kind zg_size (2 : Int32) := hw
    subst hw
    obtain ⟨z_11, hz_11⟩ : ∃ z : Int32, z = f_X1_ofKind zg_kind zg_size (2 : Int32) := ⟨_, rfl⟩
    refine lv_iand hx hb dX5_movesBehind_39 ?_
    refine lv_goto (tgt := 44) hx hb dX5_movesBehind_40 (by decide) ?_
    have hE : f_X5_movesBehind zr_in zr_size zg_kind zg_size zv_spots zv_size a_a = ((zr_in ((f_X4_spotAt zv_spots zv_size (a_a - (1 : Int32)))).toNatClampNeg) &&& (f_X1_ofKind zg_kind zg_size (2 : Int32))) := (by rw [f_X5_movesBehind, if_neg c_6])
    exact W.iret (v := ((zr_in ((f_X4_spotAt zv_spots zv_size (a_a - (1 : Int32)))).toNatClampNeg) &&& (f_X1_ofKind zg_kind zg_size (2 : Int32)))) hx hb hr (fun t ht hW => ⟨⟨((zr_in ((f_X4_spotAt zv_spots zv_size (a_a - (1 : Int32)))).toNatClampNeg) &&& (f_X1_ofKind zg_kind zg_size (2 : Int32))), (), rfl, by rw [hE], trivial⟩, hS.F ht⟩) hS.2.2 dX5_movesBehind_44
theorem dX5_lookOf_0 : decode cX5_lookOf 0 = .ok (.aload_n 0, 1) := by decide +kernel
theorem dX5_lookOf_1 : decode cX5_lookOf 1 = .ok (.getfield 19, 3) := by decide +kernel
theorem in_X5_lookOf_X5 : ∀ w ∈ wsX50, w ∈ wsX5_lookOf := by decide +kernel
theorem m_X5_lookOf_1 : (.fieldLink RX5 19 "RedlineDesk" "row" "LRedlineDesk$Row;" : Cond) ∈ wsX5_lookOf := List.mem_of_getElem? (i := 1) (by decide +kernel)
theorem dX5_lookOf_4 : decode cX5_lookOf 4 = .ok (.getfield 91, 3) := by decide +kernel
theorem in_X5_lookOf_X2 : ∀ w ∈ wsX20, w ∈ wsX5_lookOf := by decide +kernel
theorem m_X5_lookOf_2 : (.fieldLink RX5 91 "RedlineDesk$Row" "in" "[I" : Cond) ∈ wsX5_lookOf := List.mem_of_getElem? (i := 2) (by decide +kernel)
theorem dX5_lookOf_7 : decode cX5_lookOf 7 = .ok (.iload_n 1, 1) := by decide +kernel
theorem dX5_lookOf_8 : decode cX5_lookOf 8 = .ok (.iaload, 1) := by decide +kernel
theorem dX5_lookOf_9 : decode cX5_lookOf 9 = .ok (.aload_n 0, 1) := by decide +kernel
theorem dX5_lookOf_10 : decode cX5_lookOf 10 = .ok (.getfield 29, 3) := by decide +kernel
theorem m_X5_lookOf_3 : (.fieldLink RX5 29 "RedlineDesk" "ledger" "LRedlineDesk$Ledger;" : Cond) ∈ wsX5_lookOf := List.mem_of_getElem? (i := 3) (by decide +kernel)
theorem dX5_lookOf_13 : decode cX5_lookOf 13 = .ok (.iconst 3, 1) := by decide +kernel
theorem dX5_lookOf_14 : decode cX5_lookOf 14 = .ok (.invokevirtual 94, 3) := by decide +kernel
set_option maxRecDepth 20000 in
theorem ggX5_lookOf_X1_ofKind : GoodIn wsX5_lookOf wsX1_ofKind := goodIn_r _ [13, 14, 15, 16, 17, 12, 18, 19, 20, 21, 22, 47, 48, 49, 50, 51] (by decide +kernel) (by decide +kernel)
set_option maxRecDepth 20000 in
theorem gX5_lookOf_X1_ofKind : GoodIn wsX5_lookOf (wsV RX5 94 RX1 yX1_ofKind wsX1_ofKind) := goodIn_app (goodIn_of _ (by decide +kernel)) ggX5_lookOf_X1_ofKind
theorem dX5_lookOf_17 : decode cX5_lookOf 17 = .ok (.iand, 1) := by decide +kernel
theorem dX5_lookOf_18 : decode cX5_lookOf 18 = .ok (.aload_n 0, 1) := by decide +kernel
theorem dX5_lookOf_19 : decode cX5_lookOf 19 = .ok (.getfield 36, 3) := by decide +kernel
theorem m_X5_lookOf_4 : (.fieldLink RX5 36 "RedlineDesk" "shown" "LRedlineDesk$View;" : Cond) ∈ wsX5_lookOf := List.mem_of_getElem? (i := 4) (by decide +kernel)
theorem dX5_lookOf_22 : decode cX5_lookOf 22 = .ok (.getfield 231, 3) := by decide +kernel
theorem in_X5_lookOf_X4 : ∀ w ∈ wsX40, w ∈ wsX5_lookOf := by decide +kernel
theorem m_X5_lookOf_5 : (.fieldLink RX5 231 "RedlineDesk$View" "counts" "I" : Cond) ∈ wsX5_lookOf := List.mem_of_getElem? (i := 5) (by decide +kernel)
theorem dX5_lookOf_25 : decode cX5_lookOf 25 = .ok (.iand, 1) := by decide +kernel
theorem dX5_lookOf_26 : decode cX5_lookOf 26 = .ok (.aload_n 0, 1) := by decide +kernel
theorem dX5_lookOf_27 : decode cX5_lookOf 27 = .ok (.getfield 19, 3) := by decide +kernel
theorem dX5_lookOf_30 : decode cX5_lookOf 30 = .ok (.getfield 234, 3) := by decide +kernel
theorem m_X5_lookOf_6 : (.fieldLink RX5 234 "RedlineDesk$Row" "since" "[I" : Cond) ∈ wsX5_lookOf := List.mem_of_getElem? (i := 6) (by decide +kernel)
theorem dX5_lookOf_33 : decode cX5_lookOf 33 = .ok (.iload_n 1, 1) := by decide +kernel
theorem dX5_lookOf_34 : decode cX5_lookOf 34 = .ok (.iaload, 1) := by decide +kernel
theorem dX5_lookOf_35 : decode cX5_lookOf 35 = .ok (.invokestatic 237, 3) := by decide +kernel
set_option maxRecDepth 20000 in
theorem ggX5_lookOf_X5_laterThan : GoodIn wsX5_lookOf wsX5_laterThan := goodIn_r _ [25] (by decide +kernel) (by decide +kernel)
set_option maxRecDepth 20000 in
theorem gX5_lookOf_X5_laterThan : GoodIn wsX5_lookOf (va_wsS RX5 237 yX5_laterThan wsX5_laterThan) := goodIn_app (goodIn_of _ (by decide +kernel)) ggX5_lookOf_X5_laterThan
theorem dX5_lookOf_38 : decode cX5_lookOf 38 = .ok (.iand, 1) := by decide +kernel
theorem dX5_lookOf_39 : decode cX5_lookOf 39 = .ok (.invokestatic 97, 3) := by decide +kernel
set_option maxRecDepth 20000 in
theorem ggX5_lookOf_X5_latest : GoodIn wsX5_lookOf wsX5_latest := goodIn_r _ [28, 29, 20, 21, 22] (by decide +kernel) (by decide +kernel)
set_option maxRecDepth 20000 in
theorem gX5_lookOf_X5_latest : GoodIn wsX5_lookOf (va_wsS RX5 97 yX5_latest wsX5_latest) := goodIn_app (goodIn_of _ (by decide +kernel)) ggX5_lookOf_X5_latest
theorem dX5_lookOf_42 : decode cX5_lookOf 42 = .ok (.istore_n 2, 1) := by decide +kernel
theorem dX5_lookOf_43 : decode cX5_lookOf 43 = .ok (.iload_n 2, 1) := by decide +kernel
theorem dX5_lookOf_44 : decode cX5_lookOf 44 = .ok (.ifCond .ne 15, 3) := by decide +kernel
theorem dX5_lookOf_59 : decode cX5_lookOf 59 = .ok (.aload_n 0, 1) := by decide +kernel
theorem dX5_lookOf_60 : decode cX5_lookOf 60 = .ok (.getfield 29, 3) := by decide +kernel
theorem dX5_lookOf_63 : decode cX5_lookOf 63 = .ok (.getfield 182, 3) := by decide +kernel
theorem in_X5_lookOf_X1 : ∀ w ∈ wsX10, w ∈ wsX5_lookOf := by decide +kernel
theorem m_X5_lookOf_8 : (.fieldLink RX5 182 "RedlineDesk$Ledger" "look" "[I" : Cond) ∈ wsX5_lookOf := List.mem_of_getElem? (i := 8) (by decide +kernel)
theorem dX5_lookOf_66 : decode cX5_lookOf 66 = .ok (.iload_n 2, 1) := by decide +kernel
theorem dX5_lookOf_67 : decode cX5_lookOf 67 = .ok (.iaload, 1) := by decide +kernel
theorem dX5_lookOf_68 : decode cX5_lookOf 68 = .ok (.ireturn, 1) := by decide +kernel
theorem dX5_lookOf_47 : decode cX5_lookOf 47 = .ok (.aload_n 0, 1) := by decide +kernel
theorem dX5_lookOf_48 : decode cX5_lookOf 48 = .ok (.getfield 19, 3) := by decide +kernel
theorem dX5_lookOf_51 : decode cX5_lookOf 51 = .ok (.getfield 240, 3) := by decide +kernel
theorem m_X5_lookOf_7 : (.fieldLink RX5 240 "RedlineDesk$Row" "own" "[I" : Cond) ∈ wsX5_lookOf := List.mem_of_getElem? (i := 7) (by decide +kernel)
theorem dX5_lookOf_54 : decode cX5_lookOf 54 = .ok (.iload_n 1, 1) := by decide +kernel
theorem dX5_lookOf_55 : decode cX5_lookOf 55 = .ok (.iaload, 1) := by decide +kernel
theorem dX5_lookOf_56 : decode cX5_lookOf 56 = .ok (.goto 12, 3) := by decide +kernel
def f_X5_lookOf (zr_in : Nat → Int32) (zr_own : Nat → Int32) (zr_since : Nat → Int32) (zg_kind : Nat → Int32) (zg_look : Nat → Int32) (zg_size : Int32) (zv_counts : Int32) (a_s : Int32) : Int32 := if (f_X5_latest ((((zr_in (a_s).toNatClampNeg) &&& (f_X1_ofKind zg_kind zg_size (3 : Int32))) &&& zv_counts) &&& (f_X5_laterThan (zr_since (a_s).toNatClampNeg)))) = (0 : Int32) then (zr_own (a_s).toNatClampNeg) else (zg_look ((f_X5_latest ((((zr_in (a_s).toNatClampNeg) &&& (f_X1_ofKind zg_kind zg_size (3 : Int32))) &&& zv_counts) &&& (f_X5_laterThan (zr_since (a_s).toNatClampNeg))))).toNatClampNeg)
set_option maxHeartbeats 4000000 in
set_option maxRecDepth 100000 in
theorem c_X5_lookOf (l : Launch) (dC : Nat → ClassId) (dI : Nat → Nat → Nat) (cI cJ : ClassId) (sz : Nat) (zd zr azr_sign azr_token azr_in azr_own azr_since zg azg_kind azg_hand azg_state azg_look zv azv_spots azv_homes zt zw zk : Nat) (zr_sign zr_token zr_in zr_own zr_since zg_kind zg_hand zg_state zg_look zv_spots zv_homes : Nat → Int32) (zr_size zg_size zv_size zv_counts zv_hides : Int32) (a_s : Int32) (h1 : 0 ≤ a_s.toInt) (h2 : a_s.toInt < 240) : Met l yX5_lookOf wsX5_lookOf ({ frames := 2, cells := 0, slots := 0, locals := 44 } : Room) (va_Pc [.ref zd, .int a_s] (PreW dC dI cI cJ sz [(zd, .inr (5, [.ref zt, .ref zr, .ref zw, .ref zg, .ref zv, .ref zk])), (zr, .inr (2, [.ref azr_sign, .ref azr_token, .ref azr_in, .ref azr_own, .ref azr_since, .int zr_size])), (azr_sign, .inl (cI, 240, .inl zr_sign)), (azr_token, .inl (cI, 240, .inl zr_token)), (azr_in, .inl (cI, 240, .inl zr_in)), (azr_own, .inl (cI, 240, .inl zr_own)), (azr_since, .inl (cI, 240, .inl zr_since)), (zg, .inr (1, [.ref azg_kind, .ref azg_hand, .ref azg_state, .ref azg_look, .int zg_size])), (azg_kind, .inl (cI, 25, .inl zg_kind)), (azg_hand, .inl (cI, 25, .inl zg_hand)), (azg_state, .inl (cI, 25, .inl zg_state)), (azg_look, .inl (cI, 25, .inl zg_look)), (zv, .inr (4, [.ref azv_spots, .ref azv_homes, .int zv_size, .int zv_counts, .int zv_hides])), (azv_spots, .inl (cI, 240, .inl zv_spots)), (azv_homes, .inl (cI, 240, .inl zv_homes))])) (va_Qi (fun (r : Int32) (_ : Unit) => r = f_X5_lookOf zr_in zr_own zr_since zg_kind zg_look zg_size zv_counts a_s) (fun (_ : Unit) _ => True) (fun q => sz ≤ q)) 0 0 (fun q => sz ≤ q) := by
  refine Met.ofW (cc := cX5_lookOf) (maxL := 3) (ret := (some .int)) (by decide) rfl ?_
  intro p e s m args below meth c s₁ B hml hv
  obtain ⟨rfl, hsz, hP, hK, hN, hD0⟩ := hv
  have hx := B.exec
  have hb := B.bytes
  have hr := B.returns
  have hts := atoms_spec (ws := wsX5_lookOf) B.pre
  have hown : s.vm.findClass RX5 = some m.cls := findClass_of_methodNamed B.named
  have hlocks := B.notSynchronized
  subst hsz
  have hD := hD0
  generalize hAe : (fun q => s.heap.size ≤ q) = A
  have hA : ∀ q : Nat, s.heap.size ≤ q → A q := fun q h => by rw [← hAe]; exact h
  have hS : va_S A s.heap s.heap [] := va_S.rf
  have hP : va_P (dC, dI) vwCl [(zd, .inr (5, [.ref zt, .ref zr, .ref zw, .ref zg, .ref zv, .ref zk])), (zr, .inr (2, [.ref azr_sign, .ref azr_token, .ref azr_in, .ref azr_own, .ref azr_since, .int zr_size])), (azr_sign, .inl (cI, 240, .inl zr_sign)), (azr_token, .inl (cI, 240, .inl zr_token)), (azr_in, .inl (cI, 240, .inl zr_in)), (azr_own, .inl (cI, 240, .inl zr_own)), (azr_since, .inl (cI, 240, .inl zr_since)), (zg, .inr (1, [.ref azg_kind, .ref azg_hand, .ref azg_state, .ref azg_look, .int zg_size])), (azg_kind, .inl (cI, 25, .inl zg_kind)), (azg_hand, .inl (cI, 25, .inl zg_hand)), (azg_state, .inl (cI, 25, .inl zg_state)), (azg_look, .inl (cI, 25, .inl zg_look)), (zv, .inr (4, [.ref azv_spots, .ref azv_homes, .int zv_size, .int zv_counts, .int zv_hides])), (azv_spots, .inl (cI, 240, .inl zv_spots)), (azv_homes, .inl (cI, 240, .inl zv_homes))] s.heap := hP
  have hl := lv_entry ([.ref zd, .int a_s]) (n := 3) (Nat.le_of_ble_eq_true rfl)
  rw [lg_entry_eq]
  generalize (lg_sl ([.ref zd, .int a_s]) ++ List.replicate (3 - (lg_sl ([.ref zd, .int a_s])).length) Slot.unset).toArray = ls at hl ⊢
  have hl : lv_has ls 3 [(0, .ref zd), (1, .int a_s)] := hl
  refine lv_aload_n hx hb dX5_lookOf_0 rfl (lv_at hl 0 rfl) ?_
  refine va_get (D := (dC, dI)) (ci := 5) (v := .ref zr) (C := RX5) (T := TX5) (N := 6) hx hb hts in_X5_lookOf_X5 hown hK hP 0 rfl rfl 1 (by decide) (hts _ m_X5_lookOf_1) (fun _ h9 => h9) rfl dX5_lookOf_1 ?_
  refine va_get (D := (dC, dI)) (ci := 2) (v := .ref azr_in) (C := RX2) (T := TX2) (N := 6) hx hb hts in_X5_lookOf_X2 hown hK hP 1 rfl rfl 2 (by decide) (hts _ m_X5_lookOf_2) (fun _ h9 => h9) rfl dX5_lookOf_4 ?_
  refine lv_iload_n hx hb dX5_lookOf_7 rfl (lv_at hl 1 rfl) ?_
  refine va_iald (q0 := 4) (t0 := 0) (n := 240) (f := zr_in) hx hb hK hP rfl rfl (vp_in_iff.mpr ⟨by omega, by omega⟩) dX5_lookOf_8 ?_
  refine lv_aload_n hx hb dX5_lookOf_9 rfl (lv_at hl 0 rfl) ?_
  refine va_get (D := (dC, dI)) (ci := 5) (v := .ref zg) (C := RX5) (T := TX5) (N := 6) hx hb hts in_X5_lookOf_X5 hown hK hP 0 rfl rfl 3 (by decide) (hts _ m_X5_lookOf_3) (fun _ h9 => h9) rfl dX5_lookOf_10 ?_
  refine lv_iconst (v := (3 : Int32)) hx hb dX5_lookOf_13 (by decide) ?_
  have hPc := hP.sub (ws' := [(zg, .inr (1, [.ref azg_kind, .ref azg_hand, .ref azg_state, .ref azg_look, .int zg_size])), (azg_kind, .inl (cI, 25, .inl zg_kind)), (azg_hand, .inl (cI, 25, .inl zg_hand)), (azg_state, .inl (cI, 25, .inl zg_state)), (azg_look, .inl (cI, 25, .inl zg_look))]) [7, 8, 9, 10, 11] rfl
  have hDc := hD.sub (ws' := [(zg, .inr (1, [.ref azg_kind, .ref azg_hand, .ref azg_state, .ref azg_look, .int zg_size])), (azg_kind, .inl (cI, 25, .inl zg_kind)), (azg_hand, .inl (cI, 25, .inl zg_hand)), (azg_state, .inl (cI, 25, .inl zg_state)), (azg_look, .inl (cI, 25, .inl zg_look))]) [7, 8, 9, 10, 11] (by decide) rfl
  refine va_calli (va_runV (As := [.int (3 : Int32)]) (rest := [.int (zr_in (a_s).toNatClampNeg)]) ⟨hx, hb, hml, hown, hts⟩ (c_X1_ofKind l dC dI cI cJ s.heap.size zg azg_kind azg_hand azg_state azg_look zg_kind zg_hand zg_state zg_look zg_size (3 : Int32)) (cwV 1 hts gX5_lookOf_X1_ofKind rfl rfl rfl (by decide +kernel) ⟨Nat.le_of_ble_eq_true rfl, Nat.le_of_ble_eq_true rfl⟩) ⟨fun a U g mk q => ⟨q.1, PreW.call g mk a q.2⟩, va_recv hK hP (ci := 1) (q0 := 7) rfl rfl, fun U hU hW => ⟨rfl, PreW.mk2 hU hW hPc hK hN (hDc.weaken (fun _ _ _ _ => trivial))⟩⟩ rfl rfl hl.1 rfl (lv_room (Nat.le_of_ble_eq_true rfl)) dX5_lookOf_14 ⟨Nat.le_of_ble_eq_true rfl, Nat.le_of_ble_eq_true rfl⟩) hS (fun q hq h => absurd hq (Nat.not_lt.mpr h)) (fun q h => hA q (Nat.le_trans hS.1 h)) (fun r_1 _u t H1 locs ht hvm hw hB hz1 hk1 hS => ?_)
  have hP := va_ro hP hk1
  generalize H1 = H at hP hS ⊢
  have hw : r_1 = f_X1_ofKind zg_kind zg_size (3 : Int32) := hw
  subst hw
  obtain ⟨z_2, hz_2⟩ : ∃ z : Int32, z = f_X1_ofKind zg_kind zg_size (3 : Int32) := ⟨_, rfl⟩
  refine lv_iand hx hb dX5_lookOf_17 ?_
  refine lv_aload_n hx hb dX5_lookOf_18 rfl (lv_at hl 0 rfl) ?_
  refine va_get (D := (dC, dI)) (ci := 5) (v := .ref zv) (C := RX5) (T := TX5) (N := 6) hx hb hts in_X5_lookOf_X5 hown hK hP 0 rfl rfl 4 (by decide) (hts _ m_X5_lookOf_4) (fun _ h9 => h9) rfl dX5_lookOf_19 ?_
  refine va_get (D := (dC, dI)) (ci := 4) (v := .int zv_counts) (C := RX4) (T := TX4) (N := 5) hx hb hts in_X5_lookOf_X4 hown hK hP 12 rfl rfl 3 (by decide) (hts _ m_X5_lookOf_5) (fun _ h9 => h9) rfl dX5_lookOf_22 ?_
  refine lv_iand hx hb dX5_lookOf_25 ?_
  refine lv_aload_n hx hb dX5_lookOf_26 rfl (lv_at hl 0 rfl) ?_
  refine va_get (D := (dC, dI)) (ci := 5) (v := .ref zr) (C := RX5) (T := TX5) (N := 6) hx hb hts in_X5_lookOf_X5 hown hK hP 0 rfl rfl 1 (by decide) (hts _ m_X5_lookOf_1) (fun _ h9 => h9) rfl dX5_lookOf_27 ?_
  refine va_get (D := (dC, dI)) (ci := 2) (v := .ref azr_since) (C := RX2) (T := TX2) (N := 6) hx hb hts in_X5_lookOf_X2 hown hK hP 1 rfl rfl 4 (by decide) (hts _ m_X5_lookOf_6) (fun _ h9 => h9) rfl dX5_lookOf_30 ?_
  refine lv_iload_n hx hb dX5_lookOf_33 rfl (lv_at hl 1 rfl) ?_
  refine va_iald (q0 := 6) (t0 := 0) (n := 240) (f := zr_since) hx hb hK hP rfl rfl (vp_in_iff.mpr ⟨by omega, by omega⟩) dX5_lookOf_34 ?_
  have hPc := hP.sub (ws' := []) [] rfl
  have hDc := hD.sub (ws' := []) [] (by decide) rfl
  refine va_calli (va_runS (As := [.int (zr_since (a_s).toNatClampNeg)]) (rest := [.int (((zr_in (a_s).toNatClampNeg) &&& (f_X1_ofKind zg_kind zg_size (3 : Int32))) &&& zv_counts)]) ⟨hx, hb, hml, hown, hts⟩ (c_X5_laterThan l dC dI cI cJ H.size (zr_since (a_s).toNatClampNeg)) (va_cwS 1 hts gX5_lookOf_X5_laterThan rfl rfl rfl (by decide +kernel) ⟨Nat.le_of_ble_eq_true rfl, Nat.le_of_ble_eq_true rfl⟩) ⟨fun a U g mk q => ⟨q.1, PreW.call g mk a q.2⟩, fun U hU hW => ⟨rfl, PreW.mk2 hU hW hPc hK hN (hDc.weaken (fun _ _ _ _ => trivial))⟩⟩ rfl rfl hl.1 rfl (lv_room (Nat.le_of_ble_eq_true rfl)) dX5_lookOf_35 ⟨Nat.le_of_ble_eq_true rfl, Nat.le_of_ble_eq_true rfl⟩) hS (fun q hq h => absurd hq (Nat.not_lt.mpr h)) (fun q h => hA q (Nat.le_trans hS.1 h)) (fun r_3 _u t H1 locs ht hvm hw hB hz1 hk1 hS => ?_)
  have hP := va_ro hP hk1
  generalize H1 = H at hP hS ⊢
  have hw : r_3 = f_X5_laterThan (zr_since (a_s).toNatClampNeg) := hw
  subst hw
  obtain ⟨z_4, hz_4⟩ : ∃ z : Int32, z = f_X5_laterThan (zr_since (a_s).toNatClampNeg) := ⟨_, rfl⟩
  refine lv_iand hx hb dX5_lookOf_38 ?_
  have hPc := hP.sub (ws' := []) [] rfl
  have hDc := hD.sub (ws' := []) [] (by decide) rfl
  refine va_calli (va_runS (As := [.int ((((zr_in (a_s).toNatClampNeg) &&& (f_X1_ofKind zg_kind zg_size (3 : Int32))) &&& zv_counts) &&& (f_X5_laterThan (zr_since (a_s).toNatClampNeg)))]) (rest := []) ⟨hx, hb, hml, hown, hts⟩ (c_X5_latest l dC dI cI cJ H.size ((((zr_in (a_s).toNatClampNeg) &&& (f_X1_ofKind zg_kind zg_size (3 : Int32))) &&& zv_counts) &&& (f_X5_laterThan (zr_since (a_s).toNatClampNeg)))) (va_cwS 1 hts gX5_lookOf_X5_latest rfl rfl rfl (by decide +kernel) ⟨Nat.le_of_ble_eq_true rfl, Nat.le_of_ble_eq_true rfl⟩) ⟨fun a U g mk q => ⟨q.1, PreW.call g mk a q.2⟩, fun U hU hW => ⟨rfl, PreW.mk2 hU hW hPc hK hN (hDc.weaken (fun _ _ _ _ => trivial))⟩⟩ rfl rfl hl.1 rfl (lv_room (Nat.le_of_ble_eq_true rfl)) dX5_lookOf_39 ⟨Nat.le_of_ble_eq_true rfl, Nat.le_of_ble_eq_true rfl⟩) hS (fun q hq h => absurd hq (Nat.not_lt.mpr h)) (fun q h => hA q (Nat.le_trans hS.1 h)) (fun r_5 _u t H1 locs ht hvm hw hB hz1 hk1 hS => ?_)
  have hP := va_ro hP hk1
  generalize H1 = H at hP hS ⊢
  have hw : r_5 = f_X5_latest ((((zr_in (a_s).toNatClampNeg) &&& (f_X1_ofKind zg_kind zg_size (3 : Int32))) &&& zv_counts) &&& (f_X5_laterThan (zr_since (a_s).toNatClampNeg))) := hw
  subst hw
  obtain ⟨z_6, hz_6⟩ : ∃ z : Int32, z = f_X5_latest ((((zr_in (a_s).toNatClampNeg) &&& (f_X1_ofKind zg_kind zg_size (3 : Int32))) &&& zv_counts) &&& (f_X5_laterThan (zr_since (a_s).toNatClampNeg))) := ⟨_, rfl⟩
  have lr : 0 ≤ z_6.toInt ∧ z_6.toInt ≤ 24 := by rw [hz_6]; exact latest_rng _
  refine lv_istore_n (lv' := [(2, .int (f_X5_latest ((((zr_in (a_s).toNatClampNeg) &&& (f_X1_ofKind zg_kind zg_size (3 : Int32))) &&& zv_counts) &&& (f_X5_laterThan (zr_since (a_s).toNatClampNeg))))), (0, .ref zd), (1, .int a_s)]) hx hb dX5_lookOf_42 rfl hl (by decide) rfl (fun ls hl => ?_)
  refine lv_iload_n hx hb dX5_lookOf_43 rfl (lv_at hl 0 rfl) ?_
  refine lv_if_ne (tgt := 59) hx hb dX5_lookOf_44 (by decide) (fun c_7 => ?_) (fun c_7 => ?_)
  · have tc_7 : ¬ z_6.toInt = (0 : Int) := by rw [hz_6]; exact q_ne c_7
    refine lv_aload_n hx hb dX5_lookOf_59 rfl (lv_at hl 1 rfl) ?_
    refine va_get (D := (dC, dI)) (ci := 5) (v := .ref zg) (C := RX5) (T := TX5) (N := 6) hx hb hts in_X5_lookOf_X5 hown hK hP 0 rfl rfl 3 (by decide) (hts _ m_X5_lookOf_3) (fun _ h9 => h9) rfl dX5_lookOf_60 ?_
    refine va_get (D := (dC, dI)) (ci := 1) (v := .ref azg_look) (C := RX1) (T := TX1) (N := 5) hx hb hts in_X5_lookOf_X1 hown hK hP 7 rfl rfl 3 (by decide) (hts _ m_X5_lookOf_8) (fun _ h9 => h9) rfl dX5_lookOf_63 ?_
    refine lv_iload_n hx hb dX5_lookOf_66 rfl (lv_at hl 0 rfl) ?_
    refine va_iald (q0 := 11) (t0 := 0) (n := 25) (f := zg_look) hx hb hK hP rfl rfl (by rw [← hz_6]; exact vp_in_iff.mpr ⟨by omega, by omega⟩) dX5_lookOf_67 ?_
    have hE : f_X5_lookOf zr_in zr_own zr_since zg_kind zg_look zg_size zv_counts a_s = (zg_look ((f_X5_latest ((((zr_in (a_s).toNatClampNeg) &&& (f_X1_ofKind zg_kind zg_size (3 : Int32))) &&& zv_counts) &&& (f_X5_laterThan (zr_since (a_s).toNatClampNeg))))).toNatClampNeg) := (by rw [f_X5_lookOf, if_neg c_7])
    exact W.iret (v := (zg_look ((f_X5_latest ((((zr_in (a_s).toNatClampNeg) &&& (f_X1_ofKind zg_kind zg_size (3 : Int32))) &&& zv_counts) &&& (f_X5_laterThan (zr_since (a_s).toNatClampNeg))))).toNatClampNeg)) hx hb hr (fun t ht hW => ⟨⟨(zg_look ((f_X5_latest ((((zr_in (a_s).toNatClampNeg) &&& (f_X1_ofKind zg_kind zg_size (3 : Int32))) &&& zv_counts) &&& (f_X5_laterThan (zr_since (a_s).toNatClampNeg))))).toNatClampNeg), (), rfl, by rw [hE], trivial⟩, hS.F ht⟩) hS.2.2 dX5_lookOf_68
  · have tc_7 : z_6.toInt = (0 : Int) := by rw [hz_6]; exact q_eq c_7
    refine lv_aload_n hx hb dX5_lookOf_47 rfl (lv_at hl 1 rfl) ?_
    refine va_get (D := (dC, dI)) (ci := 5) (v := .ref zr) (C := RX5) (T := TX5) (N := 6) hx hb hts in_X5_lookOf_X5 hown hK hP 0 rfl rfl 1 (by decide) (hts _ m_X5_lookOf_1) (fun _ h9 => h9) rfl dX5_lookOf_48 ?_
    refine va_get (D := (dC, dI)) (ci := 2) (v := .ref azr_own) (C := RX2) (T := TX2) (N := 6) hx hb hts in_X5_lookOf_X2 hown hK hP 1 rfl rfl 3 (by decide) (hts _ m_X5_lookOf_7) (fun _ h9 => h9) rfl dX5_lookOf_51 ?_
    refine lv_iload_n hx hb dX5_lookOf_54 rfl (lv_at hl 2 rfl) ?_
    refine va_iald (q0 := 5) (t0 := 0) (n := 240) (f := zr_own) hx hb hK hP rfl rfl (vp_in_iff.mpr ⟨by omega, by omega⟩) dX5_lookOf_55 ?_
    refine lv_goto (tgt := 68) hx hb dX5_lookOf_56 (by decide) ?_
    have hE : f_X5_lookOf zr_in zr_own zr_since zg_kind zg_look zg_size zv_counts a_s = (zr_own (a_s).toNatClampNeg) := (by rw [f_X5_lookOf, if_pos c_7])
    exact W.iret (v := (zr_own (a_s).toNatClampNeg)) hx hb hr (fun t ht hW => ⟨⟨(zr_own (a_s).toNatClampNeg), (), rfl, by rw [hE], trivial⟩, hS.F ht⟩) hS.2.2 dX5_lookOf_68
theorem dX5_told_0 : decode cX5_told 0 = .ok (.iload_n 1, 1) := by decide +kernel
theorem dX5_told_1 : decode cX5_told 1 = .ok (.invokestatic 69, 3) := by decide +kernel
set_option maxRecDepth 20000 in
theorem ggX5_told_X5_isView : GoodIn wsX5_told wsX5_isView := goodIn_r _ [10] (by decide +kernel) (by decide +kernel)
set_option maxRecDepth 20000 in
theorem gX5_told_X5_isView : GoodIn wsX5_told (va_wsS RX5 69 yX5_isView wsX5_isView) := goodIn_app (goodIn_of _ (by decide +kernel)) ggX5_told_X5_isView
theorem dX5_told_4 : decode cX5_told 4 = .ok (.ifCond .eq 13, 3) := by decide +kernel
theorem dX5_told_17 : decode cX5_told 17 = .ok (.iconst (-1), 1) := by decide +kernel
theorem dX5_told_18 : decode cX5_told 18 = .ok (.ireturn, 1) := by decide +kernel
theorem dX5_told_7 : decode cX5_told 7 = .ok (.iload_n 3, 1) := by decide +kernel
theorem dX5_told_8 : decode cX5_told 8 = .ok (.ifCond .lt 9, 3) := by decide +kernel
theorem dX5_told_11 : decode cX5_told 11 = .ok (.iload_n 3, 1) := by decide +kernel
theorem dX5_told_12 : decode cX5_told 12 = .ok (.bipush 7, 2) := by decide +kernel
theorem dX5_told_14 : decode cX5_told 14 = .ok (.if_icmp .le 5, 3) := by decide +kernel
theorem dX5_told_19 : decode cX5_told 19 = .ok (.aload_n 0, 1) := by decide +kernel
theorem dX5_told_20 : decode cX5_told 20 = .ok (.iload_n 1, 1) := by decide +kernel
theorem dX5_told_21 : decode cX5_told 21 = .ok (.invokevirtual 73, 3) := by decide +kernel
set_option maxRecDepth 20000 in
theorem ggX5_told_X5_lookAt : GoodIn wsX5_told wsX5_lookAt := goodIn_r _ [14, 5, 1, 2, 15, 16, 17, 18, 19, 20, 21, 22, 23, 24, 25, 26, 27, 28, 29, 30, 9, 31, 32, 33, 34, 35, 36, 37, 38, 39, 40, 41, 42, 43, 44, 45, 46, 47, 48, 49, 50, 51, 52, 53, 54, 55, 56, 57, 58, 59, 60, 61, 62, 63, 64, 65, 66, 67, 68, 69, 94, 95, 96, 97, 98, 99, 111, 112, 113, 114, 115, 106, 107, 108, 109, 110, 100, 101, 102, 103, 104, 105] (by decide +kernel) (by decide +kernel)
set_option maxRecDepth 20000 in
theorem gX5_told_X5_lookAt : GoodIn wsX5_told (wsV RX5 73 RX5 yX5_lookAt wsX5_lookAt) := goodIn_app (goodIn_of _ (by decide +kernel)) ggX5_told_X5_lookAt
theorem dX5_told_24 : decode cX5_told 24 = .ok (.aload_n 0, 1) := by decide +kernel
theorem dX5_told_25 : decode cX5_told 25 = .ok (.getfield 36, 3) := by decide +kernel
theorem in_X5_told_X5 : ∀ w ∈ wsX50, w ∈ wsX5_told := by decide +kernel
theorem m_X5_told_1 : (.fieldLink RX5 36 "RedlineDesk" "shown" "LRedlineDesk$View;" : Cond) ∈ wsX5_told := List.mem_of_getElem? (i := 1) (by decide +kernel)
theorem dX5_told_28 : decode cX5_told 28 = .ok (.iload_n 2, 1) := by decide +kernel
theorem dX5_told_29 : decode cX5_told 29 = .ok (.invokevirtual 77, 3) := by decide +kernel
set_option maxRecDepth 20000 in
theorem ggX5_told_X4_spotAt : GoodIn wsX5_told wsX4_spotAt := goodIn_r _ [73, 49, 69, 106, 107, 108, 109, 110] (by decide +kernel) (by decide +kernel)
set_option maxRecDepth 20000 in
theorem gX5_told_X4_spotAt : GoodIn wsX5_told (wsV RX5 77 RX4 yX4_spotAt wsX4_spotAt) := goodIn_app (goodIn_of _ (by decide +kernel)) ggX5_told_X4_spotAt
theorem dX5_told_32 : decode cX5_told 32 = .ok (.istore 4, 2) := by decide +kernel
theorem dX5_told_34 : decode cX5_told 34 = .ok (.aload_n 0, 1) := by decide +kernel
theorem dX5_told_35 : decode cX5_told 35 = .ok (.getfield 19, 3) := by decide +kernel
theorem m_X5_told_2 : (.fieldLink RX5 19 "RedlineDesk" "row" "LRedlineDesk$Row;" : Cond) ∈ wsX5_told := List.mem_of_getElem? (i := 2) (by decide +kernel)
theorem dX5_told_38 : decode cX5_told 38 = .ok (.iload 4, 2) := by decide +kernel
theorem dX5_told_40 : decode cX5_told 40 = .ok (.invokevirtual 81, 3) := by decide +kernel
set_option maxRecDepth 20000 in
theorem ggX5_told_X2_has : GoodIn wsX5_told wsX2_has := goodIn_r _ [56, 57, 100, 101, 102, 103, 104, 105] (by decide +kernel) (by decide +kernel)
set_option maxRecDepth 20000 in
theorem gX5_told_X2_has : GoodIn wsX5_told (wsV RX5 81 RX2 yX2_has wsX2_has) := goodIn_app (goodIn_of _ (by decide +kernel)) ggX5_told_X2_has
theorem dX5_told_43 : decode cX5_told 43 = .ok (.ifCond .ne 5, 3) := by decide +kernel
theorem dX5_told_48 : decode cX5_told 48 = .ok (.iload_n 3, 1) := by decide +kernel
theorem dX5_told_49 : decode cX5_told 49 = .ok (.tableswitch 83 0 3 #[31, 42, 49, 72], 31) := by decide +kernel
theorem dX5_told_80 : decode cX5_told 80 = .ok (.aload_n 0, 1) := by decide +kernel
theorem dX5_told_81 : decode cX5_told 81 = .ok (.getfield 19, 3) := by decide +kernel
theorem dX5_told_84 : decode cX5_told 84 = .ok (.getfield 84, 3) := by decide +kernel
theorem in_X5_told_X2 : ∀ w ∈ wsX20, w ∈ wsX5_told := by decide +kernel
theorem m_X5_told_3 : (.fieldLink RX5 84 "RedlineDesk$Row" "sign" "[I" : Cond) ∈ wsX5_told := List.mem_of_getElem? (i := 3) (by decide +kernel)
theorem dX5_told_87 : decode cX5_told 87 = .ok (.iload 4, 2) := by decide +kernel
theorem dX5_told_89 : decode cX5_told 89 = .ok (.iaload, 1) := by decide +kernel
theorem dX5_told_90 : decode cX5_told 90 = .ok (.ireturn, 1) := by decide +kernel
theorem dX5_told_91 : decode cX5_told 91 = .ok (.aload_n 0, 1) := by decide +kernel
theorem dX5_told_92 : decode cX5_told 92 = .ok (.iload 4, 2) := by decide +kernel
theorem dX5_told_94 : decode cX5_told 94 = .ok (.invokevirtual 88, 3) := by decide +kernel
set_option maxRecDepth 20000 in
theorem ggX5_told_X5_lookOf : GoodIn wsX5_told wsX5_lookOf := goodIn_r _ [78, 2, 4, 5, 1, 79, 80, 81, 82, 37, 38, 39, 18, 40, 41, 25, 26, 27, 28, 29, 30, 9, 31, 83, 84, 85, 86, 58, 59, 60, 94, 95, 96, 97, 98, 99, 100, 101, 102, 103, 104, 105, 106, 107, 108, 109, 110, 111, 112, 113, 114, 115] (by decide +kernel) (by decide +kernel)
set_option maxRecDepth 20000 in
theorem gX5_told_X5_lookOf : GoodIn wsX5_told (wsV RX5 88 RX5 yX5_lookOf wsX5_lookOf) := goodIn_app (goodIn_of _ (by decide +kernel)) ggX5_told_X5_lookOf
theorem dX5_told_97 : decode cX5_told 97 = .ok (.ireturn, 1) := by decide +kernel
theorem dX5_told_98 : decode cX5_told 98 = .ok (.aload_n 0, 1) := by decide +kernel
theorem dX5_told_99 : decode cX5_told 99 = .ok (.getfield 19, 3) := by decide +kernel
theorem dX5_told_102 : decode cX5_told 102 = .ok (.getfield 91, 3) := by decide +kernel
theorem m_X5_told_4 : (.fieldLink RX5 91 "RedlineDesk$Row" "in" "[I" : Cond) ∈ wsX5_told := List.mem_of_getElem? (i := 4) (by decide +kernel)
theorem dX5_told_105 : decode cX5_told 105 = .ok (.iload 4, 2) := by decide +kernel
theorem dX5_told_107 : decode cX5_told 107 = .ok (.iaload, 1) := by decide +kernel
theorem dX5_told_108 : decode cX5_told 108 = .ok (.aload_n 0, 1) := by decide +kernel
theorem dX5_told_109 : decode cX5_told 109 = .ok (.getfield 29, 3) := by decide +kernel
theorem m_X5_told_5 : (.fieldLink RX5 29 "RedlineDesk" "ledger" "LRedlineDesk$Ledger;" : Cond) ∈ wsX5_told := List.mem_of_getElem? (i := 5) (by decide +kernel)
theorem dX5_told_112 : decode cX5_told 112 = .ok (.iconst 0, 1) := by decide +kernel
theorem dX5_told_113 : decode cX5_told 113 = .ok (.invokevirtual 94, 3) := by decide +kernel
set_option maxRecDepth 20000 in
theorem ggX5_told_X1_ofKind : GoodIn wsX5_told wsX1_ofKind := goodIn_r _ [40, 41, 25, 26, 27, 18, 28, 29, 30, 9, 31, 111, 112, 113, 114, 115] (by decide +kernel) (by decide +kernel)
set_option maxRecDepth 20000 in
theorem gX5_told_X1_ofKind : GoodIn wsX5_told (wsV RX5 94 RX1 yX1_ofKind wsX1_ofKind) := goodIn_app (goodIn_of _ (by decide +kernel)) ggX5_told_X1_ofKind
theorem dX5_told_116 : decode cX5_told 116 = .ok (.iand, 1) := by decide +kernel
theorem dX5_told_117 : decode cX5_told 117 = .ok (.invokestatic 97, 3) := by decide +kernel
set_option maxRecDepth 20000 in
theorem ggX5_told_X5_latest : GoodIn wsX5_told wsX5_latest := goodIn_r _ [59, 60, 30, 9, 31] (by decide +kernel) (by decide +kernel)
set_option maxRecDepth 20000 in
theorem gX5_told_X5_latest : GoodIn wsX5_told (va_wsS RX5 97 yX5_latest wsX5_latest) := goodIn_app (goodIn_of _ (by decide +kernel)) ggX5_told_X5_latest
theorem dX5_told_120 : decode cX5_told 120 = .ok (.ireturn, 1) := by decide +kernel
theorem dX5_told_121 : decode cX5_told 121 = .ok (.aload_n 0, 1) := by decide +kernel
theorem dX5_told_122 : decode cX5_told 122 = .ok (.getfield 36, 3) := by decide +kernel
theorem dX5_told_125 : decode cX5_told 125 = .ok (.getfield 100, 3) := by decide +kernel
theorem in_X5_told_X4 : ∀ w ∈ wsX40, w ∈ wsX5_told := by decide +kernel
theorem m_X5_told_6 : (.fieldLink RX5 100 "RedlineDesk$View" "homes" "[I" : Cond) ∈ wsX5_told := List.mem_of_getElem? (i := 6) (by decide +kernel)
theorem dX5_told_128 : decode cX5_told 128 = .ok (.iload 4, 2) := by decide +kernel
theorem dX5_told_130 : decode cX5_told 130 = .ok (.iaload, 1) := by decide +kernel
theorem dX5_told_131 : decode cX5_told 131 = .ok (.ireturn, 1) := by decide +kernel
theorem dX5_told_132 : decode cX5_told 132 = .ok (.aload_n 0, 1) := by decide +kernel
theorem dX5_told_133 : decode cX5_told 133 = .ok (.getfield 19, 3) := by decide +kernel
theorem dX5_told_136 : decode cX5_told 136 = .ok (.getfield 91, 3) := by decide +kernel
theorem dX5_told_139 : decode cX5_told 139 = .ok (.iload 4, 2) := by decide +kernel
theorem dX5_told_141 : decode cX5_told 141 = .ok (.iaload, 1) := by decide +kernel
theorem dX5_told_142 : decode cX5_told 142 = .ok (.aload_n 0, 1) := by decide +kernel
theorem dX5_told_143 : decode cX5_told 143 = .ok (.getfield 29, 3) := by decide +kernel
theorem dX5_told_146 : decode cX5_told 146 = .ok (.iload_n 3, 1) := by decide +kernel
theorem dX5_told_147 : decode cX5_told 147 = .ok (.iconst 3, 1) := by decide +kernel
theorem dX5_told_148 : decode cX5_told 148 = .ok (.isub, 1) := by decide +kernel
theorem dX5_told_149 : decode cX5_told 149 = .ok (.invokevirtual 94, 3) := by decide +kernel
theorem dX5_told_152 : decode cX5_told 152 = .ok (.iand, 1) := by decide +kernel
theorem dX5_told_153 : decode cX5_told 153 = .ok (.invokestatic 103, 3) := by decide +kernel
set_option maxRecDepth 20000 in
theorem ggX5_told_J6_bitCount_0f7a4 : GoodIn wsX5_told wsJ6_bitCount_0f7a4 := goodIn_r _ [90, 91, 92, 93] (by decide +kernel) (by decide +kernel)
set_option maxRecDepth 20000 in
theorem gX5_told_J6_bitCount_0f7a4 : GoodIn wsX5_told (va_wsS RX5 103 yJ6_bitCount_0f7a4 wsJ6_bitCount_0f7a4) := goodIn_app (goodIn_of _ (by decide +kernel)) ggX5_told_J6_bitCount_0f7a4
theorem dX5_told_156 : decode cX5_told 156 = .ok (.ireturn, 1) := by decide +kernel
theorem dX5_told_46 : decode cX5_told 46 = .ok (.iconst (-1), 1) := by decide +kernel
theorem dX5_told_47 : decode cX5_told 47 = .ok (.ireturn, 1) := by decide +kernel
def f_X5_told_k24_u_6 (zg_kind : Nat → Int32) (zg_look : Nat → Int32) (zg_size : Int32) (zr_sign : Nat → Int32) (zr_in : Nat → Int32) (zr_own : Nat → Int32) (zr_since : Nat → Int32) (zr_size : Int32) (a_p : Int32) (a_w : Int32) (u_6 : (Nat → Int32) × (Nat → Int32) × Int32 × Int32 × Int32) : Int32 × (Nat → Int32) × (Nat → Int32) × Int32 × Int32 × Int32 := if (f_X2_has zr_size (f_X4_spotAt u_6.1 u_6.2.2.1 a_p)) = (0 : Int32) then ((-1 : Int32), u_6.1, u_6.2.1, u_6.2.2.1, u_6.2.2.2.1, u_6.2.2.2.2) else if a_w = (0 : Int32) then ((zr_sign ((f_X4_spotAt u_6.1 u_6.2.2.1 a_p)).toNatClampNeg), u_6.1, u_6.2.1, u_6.2.2.1, u_6.2.2.2.1, u_6.2.2.2.2) else if a_w = (1 : Int32) then ((f_X5_lookOf zr_in zr_own zr_since zg_kind zg_look zg_size u_6.2.2.2.1 (f_X4_spotAt u_6.1 u_6.2.2.1 a_p)), u_6.1, u_6.2.1, u_6.2.2.1, u_6.2.2.2.1, u_6.2.2.2.2) else if a_w = (2 : Int32) then ((f_X5_latest ((zr_in ((f_X4_spotAt u_6.1 u_6.2.2.1 a_p)).toNatClampNeg) &&& (f_X1_ofKind zg_kind zg_size (0 : Int32)))), u_6.1, u_6.2.1, u_6.2.2.1, u_6.2.2.2.1, u_6.2.2.2.2) else if a_w = (3 : Int32) then ((u_6.2.1 ((f_X4_spotAt u_6.1 u_6.2.2.1 a_p)).toNatClampNeg), u_6.1, u_6.2.1, u_6.2.2.1, u_6.2.2.2.1, u_6.2.2.2.2) else ((f_J6_bitCount_0f7a4 ((zr_in ((f_X4_spotAt u_6.1 u_6.2.2.1 a_p)).toNatClampNeg) &&& (f_X1_ofKind zg_kind zg_size (a_w - (3 : Int32))))), u_6.1, u_6.2.1, u_6.2.2.1, u_6.2.2.2.1, u_6.2.2.2.2)
def f_X5_told (zg_kind : Nat → Int32) (zg_hand : Nat → Int32) (zg_state : Nat → Int32) (zg_look : Nat → Int32) (zg_size : Int32) (zv_spots : Nat → Int32) (zv_homes : Nat → Int32) (zv_size : Int32) (zv_counts : Int32) (zv_hides : Int32) (zr_sign : Nat → Int32) (zr_token : Nat → Int32) (zr_in : Nat → Int32) (zr_own : Nat → Int32) (zr_since : Nat → Int32) (zr_size : Int32) (a_v : Int32) (a_p : Int32) (a_w : Int32) : Int32 × (Nat → Int32) × (Nat → Int32) × Int32 × Int32 × Int32 := if (f_X5_isView a_v) = (0 : Int32) then ((-1 : Int32), zv_spots, zv_homes, zv_size, zv_counts, zv_hides) else if a_w < (0 : Int32) then ((-1 : Int32), zv_spots, zv_homes, zv_size, zv_counts, zv_hides) else if a_w ≤ (7 : Int32) then f_X5_told_k24_u_6 zg_kind zg_look zg_size zr_sign zr_in zr_own zr_since zr_size a_p a_w (f_X5_lookAt zg_kind zg_hand zg_state zg_size zv_spots zv_homes zr_token zr_in zr_size a_v) else ((-1 : Int32), zv_spots, zv_homes, zv_size, zv_counts, zv_hides)
set_option maxHeartbeats 4000000 in
set_option maxRecDepth 100000 in
theorem c_X5_told (l : Launch) (dC : Nat → ClassId) (dI : Nat → Nat → Nat) (cI cJ : ClassId) (sz : Nat) (zd zg azg_kind azg_hand azg_state azg_look zv azv_spots azv_homes zr azr_sign azr_token azr_in azr_own azr_since zt zw zk : Nat) (zg_kind zg_hand zg_state zg_look zv_spots zv_homes zr_sign zr_token zr_in zr_own zr_since : Nat → Int32) (zg_size zv_size zv_counts zv_hides zr_size : Int32) (a_v : Int32) (a_p : Int32) (a_w : Int32) : Met l yX5_told wsX5_told ({ frames := 31, cells := 0, slots := 0, locals := 783 } : Room) (va_Pc [.ref zd, .int a_v, .int a_p, .int a_w] (PreW dC dI cI cJ sz [(zd, .inr (5, [.ref zt, .ref zr, .ref zw, .ref zg, .ref zv, .ref zk])), (zg, .inr (1, [.ref azg_kind, .ref azg_hand, .ref azg_state, .ref azg_look, .int zg_size])), (azg_kind, .inl (cI, 25, .inl zg_kind)), (azg_hand, .inl (cI, 25, .inl zg_hand)), (azg_state, .inl (cI, 25, .inl zg_state)), (azg_look, .inl (cI, 25, .inl zg_look)), (zv, .inr (4, [.ref azv_spots, .ref azv_homes, .int zv_size, .int zv_counts, .int zv_hides])), (azv_spots, .inl (cI, 240, .inl zv_spots)), (azv_homes, .inl (cI, 240, .inl zv_homes)), (zr, .inr (2, [.ref azr_sign, .ref azr_token, .ref azr_in, .ref azr_own, .ref azr_since, .int zr_size])), (azr_sign, .inl (cI, 240, .inl zr_sign)), (azr_token, .inl (cI, 240, .inl zr_token)), (azr_in, .inl (cI, 240, .inl zr_in)), (azr_own, .inl (cI, 240, .inl zr_own)), (azr_since, .inl (cI, 240, .inl zr_since))])) (va_Qi (fun (r : Int32) (u : (Nat → Int32) × (Nat → Int32) × Int32 × Int32 × Int32) => r = (f_X5_told zg_kind zg_hand zg_state zg_look zg_size zv_spots zv_homes zv_size zv_counts zv_hides zr_sign zr_token zr_in zr_own zr_since zr_size a_v a_p a_w).1 ∧ u = (f_X5_told zg_kind zg_hand zg_state zg_look zg_size zv_spots zv_homes zv_size zv_counts zv_hides zr_sign zr_token zr_in zr_own zr_since zr_size a_v a_p a_w).2) (fun (u : (Nat → Int32) × (Nat → Int32) × Int32 × Int32 × Int32) t => PostW dC dI [(zd, .inr (5, [.ref zt, .ref zr, .ref zw, .ref zg, .ref zv, .ref zk])), (zg, .inr (1, [.ref azg_kind, .ref azg_hand, .ref azg_state, .ref azg_look, .int zg_size])), (azg_kind, .inl (cI, 25, .inl zg_kind)), (azg_hand, .inl (cI, 25, .inl zg_hand)), (azg_state, .inl (cI, 25, .inl zg_state)), (azg_look, .inl (cI, 25, .inl zg_look)), (zv, .inr (4, [.ref azv_spots, .ref azv_homes, .int u.2.2.1, .int u.2.2.2.1, .int u.2.2.2.2])), (azv_spots, .inl (cI, 240, .inl u.1)), (azv_homes, .inl (cI, 240, .inl u.2.1)), (zr, .inr (2, [.ref azr_sign, .ref azr_token, .ref azr_in, .ref azr_own, .ref azr_since, .int zr_size])), (azr_sign, .inl (cI, 240, .inl zr_sign)), (azr_token, .inl (cI, 240, .inl zr_token)), (azr_in, .inl (cI, 240, .inl zr_in)), (azr_own, .inl (cI, 240, .inl zr_own)), (azr_since, .inl (cI, 240, .inl zr_since))] t (va_A [(zd, .inr (5, [.ref zt, .ref zr, .ref zw, .ref zg, .ref zv, .ref zk])), (zg, .inr (1, [.ref azg_kind, .ref azg_hand, .ref azg_state, .ref azg_look, .int zg_size])), (azg_kind, .inl (cI, 25, .inl zg_kind)), (azg_hand, .inl (cI, 25, .inl zg_hand)), (azg_state, .inl (cI, 25, .inl zg_state)), (azg_look, .inl (cI, 25, .inl zg_look)), (zv, .inr (4, [.ref azv_spots, .ref azv_homes, .int zv_size, .int zv_counts, .int zv_hides])), (azv_spots, .inl (cI, 240, .inl zv_spots)), (azv_homes, .inl (cI, 240, .inl zv_homes)), (zr, .inr (2, [.ref azr_sign, .ref azr_token, .ref azr_in, .ref azr_own, .ref azr_since, .int zr_size])), (azr_sign, .inl (cI, 240, .inl zr_sign)), (azr_token, .inl (cI, 240, .inl zr_token)), (azr_in, .inl (cI, 240, .inl zr_in)), (azr_own, .inl (cI, 240, .inl zr_own)), (azr_since, .inl (cI, 240, .inl zr_since))] sz)) (va_A [(zd, .inr (5, [.ref zt, .ref zr, .ref zw, .ref zg, .ref zv, .ref zk])), (zg, .inr (1, [.ref azg_kind, .ref azg_hand, .ref azg_state, .ref azg_look, .int zg_size])), (azg_kind, .inl (cI, 25, .inl zg_kind)), (azg_hand, .inl (cI, 25, .inl zg_hand)), (azg_state, .inl (cI, 25, .inl zg_state)), (azg_look, .inl (cI, 25, .inl zg_look)), (zv, .inr (4, [.ref azv_spots, .ref azv_homes, .int zv_size, .int zv_counts, .int zv_hides])), (azv_spots, .inl (cI, 240, .inl zv_spots)), (azv_homes, .inl (cI, 240, .inl zv_homes)), (zr, .inr (2, [.ref azr_sign, .ref azr_token, .ref azr_in, .ref azr_own, .ref azr_since, .int zr_size])), (azr_sign, .inl (cI, 240, .inl zr_sign)), (azr_token, .inl (cI, 240, .inl zr_token)), (azr_in, .inl (cI, 240, .inl zr_in)), (azr_own, .inl (cI, 240, .inl zr_own)), (azr_since, .inl (cI, 240, .inl zr_since))] sz)) 0 0 (va_A [(zd, .inr (5, [.ref zt, .ref zr, .ref zw, .ref zg, .ref zv, .ref zk])), (zg, .inr (1, [.ref azg_kind, .ref azg_hand, .ref azg_state, .ref azg_look, .int zg_size])), (azg_kind, .inl (cI, 25, .inl zg_kind)), (azg_hand, .inl (cI, 25, .inl zg_hand)), (azg_state, .inl (cI, 25, .inl zg_state)), (azg_look, .inl (cI, 25, .inl zg_look)), (zv, .inr (4, [.ref azv_spots, .ref azv_homes, .int zv_size, .int zv_counts, .int zv_hides])), (azv_spots, .inl (cI, 240, .inl zv_spots)), (azv_homes, .inl (cI, 240, .inl zv_homes)), (zr, .inr (2, [.ref azr_sign, .ref azr_token, .ref azr_in, .ref azr_own, .ref azr_since, .int zr_size])), (azr_sign, .inl (cI, 240, .inl zr_sign)), (azr_token, .inl (cI, 240, .inl zr_token)), (azr_in, .inl (cI, 240, .inl zr_in)), (azr_own, .inl (cI, 240, .inl zr_own)), (azr_since, .inl (cI, 240, .inl zr_since))] sz) := by
  refine Met.ofW (cc := cX5_told) (maxL := 5) (ret := (some .int)) (by decide) rfl ?_
  intro p e s m args below meth c s₁ B hml hv
  obtain ⟨rfl, hsz, hP, hK, hN, hD0⟩ := hv
  have hx := B.exec
  have hb := B.bytes
  have hr := B.returns
  have hts := atoms_spec (ws := wsX5_told) B.pre
  have hown : s.vm.findClass RX5 = some m.cls := findClass_of_methodNamed B.named
  have hlocks := B.notSynchronized
  subst hsz
  have hD := hD0.self (sz := s.heap.size)
  generalize hAe : va_A [(zd, .inr (5, [.ref zt, .ref zr, .ref zw, .ref zg, .ref zv, .ref zk])), (zg, .inr (1, [.ref azg_kind, .ref azg_hand, .ref azg_state, .ref azg_look, .int zg_size])), (azg_kind, .inl (cI, 25, .inl zg_kind)), (azg_hand, .inl (cI, 25, .inl zg_hand)), (azg_state, .inl (cI, 25, .inl zg_state)), (azg_look, .inl (cI, 25, .inl zg_look)), (zv, .inr (4, [.ref azv_spots, .ref azv_homes, .int zv_size, .int zv_counts, .int zv_hides])), (azv_spots, .inl (cI, 240, .inl zv_spots)), (azv_homes, .inl (cI, 240, .inl zv_homes)), (zr, .inr (2, [.ref azr_sign, .ref azr_token, .ref azr_in, .ref azr_own, .ref azr_since, .int zr_size])), (azr_sign, .inl (cI, 240, .inl zr_sign)), (azr_token, .inl (cI, 240, .inl zr_token)), (azr_in, .inl (cI, 240, .inl zr_in)), (azr_own, .inl (cI, 240, .inl zr_own)), (azr_since, .inl (cI, 240, .inl zr_since))] s.heap.size = A at hD ⊢
  have hA : ∀ q : Nat, s.heap.size ≤ q → A q := fun q h => by rw [← hAe]; exact Or.inr h
  have hS : va_S A s.heap s.heap [] := va_S.rf
  have hP : va_P (dC, dI) vwCl [(zd, .inr (5, [.ref zt, .ref zr, .ref zw, .ref zg, .ref zv, .ref zk])), (zg, .inr (1, [.ref azg_kind, .ref azg_hand, .ref azg_state, .ref azg_look, .int zg_size])), (azg_kind, .inl (cI, 25, .inl zg_kind)), (azg_hand, .inl (cI, 25, .inl zg_hand)), (azg_state, .inl (cI, 25, .inl zg_state)), (azg_look, .inl (cI, 25, .inl zg_look)), (zv, .inr (4, [.ref azv_spots, .ref azv_homes, .int zv_size, .int zv_counts, .int zv_hides])), (azv_spots, .inl (cI, 240, .inl zv_spots)), (azv_homes, .inl (cI, 240, .inl zv_homes)), (zr, .inr (2, [.ref azr_sign, .ref azr_token, .ref azr_in, .ref azr_own, .ref azr_since, .int zr_size])), (azr_sign, .inl (cI, 240, .inl zr_sign)), (azr_token, .inl (cI, 240, .inl zr_token)), (azr_in, .inl (cI, 240, .inl zr_in)), (azr_own, .inl (cI, 240, .inl zr_own)), (azr_since, .inl (cI, 240, .inl zr_since))] s.heap := hP
  have hl := lv_entry ([.ref zd, .int a_v, .int a_p, .int a_w]) (n := 5) (Nat.le_of_ble_eq_true rfl)
  rw [lg_entry_eq]
  generalize (lg_sl ([.ref zd, .int a_v, .int a_p, .int a_w]) ++ List.replicate (5 - (lg_sl ([.ref zd, .int a_v, .int a_p, .int a_w])).length) Slot.unset).toArray = ls at hl ⊢
  have hl : lv_has ls 5 [(0, .ref zd), (1, .int a_v), (2, .int a_p), (3, .int a_w)] := hl
  refine lv_iload_n hx hb dX5_told_0 rfl (lv_at hl 1 rfl) ?_
  have hPc := hP.sub (ws' := []) [] rfl
  have hDc := hD.sub (ws' := []) [] (by decide) rfl
  refine va_calli (va_runS (As := [.int a_v]) (rest := []) ⟨hx, hb, hml, hown, hts⟩ (c_X5_isView l dC dI cI cJ s.heap.size a_v) (va_cwS 1 hts gX5_told_X5_isView rfl rfl rfl (by decide +kernel) ⟨Nat.le_of_ble_eq_true rfl, Nat.le_of_ble_eq_true rfl⟩) ⟨fun a U g mk q => ⟨q.1, PreW.call g mk a q.2⟩, fun U hU hW => ⟨rfl, PreW.mk2 hU hW hPc hK hN (hDc.weaken (fun _ _ _ _ => trivial))⟩⟩ rfl rfl hl.1 rfl (lv_room (Nat.le_of_ble_eq_true rfl)) dX5_told_1 ⟨Nat.le_of_ble_eq_true rfl, Nat.le_of_ble_eq_true rfl⟩) hS (fun q hq h => absurd hq (Nat.not_lt.mpr h)) (fun q h => hA q (Nat.le_trans hS.1 h)) (fun r_1 _u t H1 locs ht hvm hw hB hz1 hk1 hS => ?_)
  have hP := va_ro hP hk1
  generalize H1 = H at hP hS ⊢
  have hw : r_1 = f_X5_isView a_v := hw
  subst hw
  obtain ⟨z_2, hz_2⟩ : ∃ z : Int32, z = f_X5_isView a_v := ⟨_, rfl⟩
  refine lv_if_eq (tgt := 17) hx hb dX5_told_4 (by decide) (fun c_3 => ?_) (fun c_3 => ?_)
  · have tc_3 : z_2.toInt = (0 : Int) := by rw [hz_2]; exact q_eq c_3
    refine lv_iconst (v := (-1 : Int32)) hx hb dX5_told_17 (by decide) ?_
    have hE : f_X5_told zg_kind zg_hand zg_state zg_look zg_size zv_spots zv_homes zv_size zv_counts zv_hides zr_sign zr_token zr_in zr_own zr_since zr_size a_v a_p a_w = ((-1 : Int32), zv_spots, zv_homes, zv_size, zv_counts, zv_hides) := (by rw [f_X5_told, if_pos c_3])
    exact W.iret (v := (-1 : Int32)) hx hb hr (fun t ht hW => ⟨⟨(-1 : Int32), (zv_spots, zv_homes, zv_size, zv_counts, zv_hides), rfl, ⟨by rw [hE], by rw [hE]⟩, ⟨by rw [ht]; exact hP, hD⟩⟩, hS.F ht⟩) hS.2.2 dX5_told_18
  · have tc_3 : ¬ z_2.toInt = (0 : Int) := by rw [hz_2]; exact q_ne c_3
    refine lv_iload_n hx hb dX5_told_7 rfl (lv_at hl 3 rfl) ?_
    refine lv_if_lt (tgt := 17) hx hb dX5_told_8 (by decide) (fun c_4 => ?_) (fun c_4 => ?_)
    · have tc_4 : a_w.toInt < (0 : Int) := q_lt c_4
      refine lv_iconst (v := (-1 : Int32)) hx hb dX5_told_17 (by decide) ?_
      have hE : f_X5_told zg_kind zg_hand zg_state zg_look zg_size zv_spots zv_homes zv_size zv_counts zv_hides zr_sign zr_token zr_in zr_own zr_since zr_size a_v a_p a_w = ((-1 : Int32), zv_spots, zv_homes, zv_size, zv_counts, zv_hides) := (by rw [f_X5_told, if_neg c_3, if_pos c_4])
      exact W.iret (v := (-1 : Int32)) hx hb hr (fun t ht hW => ⟨⟨(-1 : Int32), (zv_spots, zv_homes, zv_size, zv_counts, zv_hides), rfl, ⟨by rw [hE], by rw [hE]⟩, ⟨by rw [ht]; exact hP, hD⟩⟩, hS.F ht⟩) hS.2.2 dX5_told_18
    · have tc_4 : (0 : Int) ≤ a_w.toInt := q_nlt c_4
      refine lv_iload_n hx hb dX5_told_11 rfl (lv_at hl 3 rfl) ?_
      refine lv_bipush (v := (7 : Int32)) hx hb dX5_told_12 (by decide) ?_
      refine lv_icmp_le (tgt := 19) hx hb dX5_told_14 (by decide) (fun c_5 => ?_) (fun c_5 => ?_)
      · have tc_5 : a_w.toInt ≤ (7 : Int) := q_le c_5
        refine lv_aload_n hx hb dX5_told_19 rfl (lv_at hl 0 rfl) ?_
        refine lv_iload_n hx hb dX5_told_20 rfl (lv_at hl 1 rfl) ?_
        have hPc := hP.sub (ws' := [(zd, .inr (5, [.ref zt, .ref zr, .ref zw, .ref zg, .ref zv, .ref zk])), (zg, .inr (1, [.ref azg_kind, .ref azg_hand, .ref azg_state, .ref azg_look, .int zg_size])), (azg_kind, .inl (cI, 25, .inl zg_kind)), (azg_hand, .inl (cI, 25, .inl zg_hand)), (azg_state, .inl (cI, 25, .inl zg_state)), (azg_look, .inl (cI, 25, .inl zg_look)), (zv, .inr (4, [.ref azv_spots, .ref azv_homes, .int zv_size, .int zv_counts, .int zv_hides])), (azv_spots, .inl (cI, 240, .inl zv_spots)), (azv_homes, .inl (cI, 240, .inl zv_homes)), (zr, .inr (2, [.ref azr_sign, .ref azr_token, .ref azr_in, .ref azr_own, .ref azr_since, .int zr_size])), (azr_sign, .inl (cI, 240, .inl zr_sign)), (azr_token, .inl (cI, 240, .inl zr_token)), (azr_in, .inl (cI, 240, .inl zr_in)), (azr_own, .inl (cI, 240, .inl zr_own)), (azr_since, .inl (cI, 240, .inl zr_since))]) [0, 1, 2, 3, 4, 5, 6, 7, 8, 9, 10, 11, 12, 13, 14] rfl
        have hDc := hD.sub (ws' := [(zd, .inr (5, [.ref zt, .ref zr, .ref zw, .ref zg, .ref zv, .ref zk])), (zg, .inr (1, [.ref azg_kind, .ref azg_hand, .ref azg_state, .ref azg_look, .int zg_size])), (azg_kind, .inl (cI, 25, .inl zg_kind)), (azg_hand, .inl (cI, 25, .inl zg_hand)), (azg_state, .inl (cI, 25, .inl zg_state)), (azg_look, .inl (cI, 25, .inl zg_look)), (zv, .inr (4, [.ref azv_spots, .ref azv_homes, .int zv_size, .int zv_counts, .int zv_hides])), (azv_spots, .inl (cI, 240, .inl zv_spots)), (azv_homes, .inl (cI, 240, .inl zv_homes)), (zr, .inr (2, [.ref azr_sign, .ref azr_token, .ref azr_in, .ref azr_own, .ref azr_since, .int zr_size])), (azr_sign, .inl (cI, 240, .inl zr_sign)), (azr_token, .inl (cI, 240, .inl zr_token)), (azr_in, .inl (cI, 240, .inl zr_in)), (azr_own, .inl (cI, 240, .inl zr_own)), (azr_since, .inl (cI, 240, .inl zr_since))]) [0, 1, 2, 3, 4, 5, 6, 7, 8, 9, 10, 11, 12, 13, 14] (by decide) rfl
        have hFc := va_free (wc := [(zd, .inr (5, [.ref zt, .ref zr, .ref zw, .ref zg, .ref zv, .ref zk])), (zg, .inr (1, [.ref azg_kind, .ref azg_hand, .ref azg_state, .ref azg_look, .int zg_size])), (azg_kind, .inl (cI, 25, .inl zg_kind)), (azg_hand, .inl (cI, 25, .inl zg_hand)), (azg_state, .inl (cI, 25, .inl zg_state)), (azg_look, .inl (cI, 25, .inl zg_look)), (zv, .inr (4, [.ref azv_spots, .ref azv_homes, .int zv_size, .int zv_counts, .int zv_hides])), (azv_spots, .inl (cI, 240, .inl zv_spots)), (azv_homes, .inl (cI, 240, .inl zv_homes)), (zr, .inr (2, [.ref azr_sign, .ref azr_token, .ref azr_in, .ref azr_own, .ref azr_since, .int zr_size])), (azr_sign, .inl (cI, 240, .inl zr_sign)), (azr_token, .inl (cI, 240, .inl zr_token)), (azr_in, .inl (cI, 240, .inl zr_in)), (azr_own, .inl (cI, 240, .inl zr_own)), (azr_since, .inl (cI, 240, .inl zr_since))]) hD hS hA [0, 1, 2, 3, 4, 5, 6, 7, 8, 9, 10, 11, 12, 13, 14] rfl
        refine va_callv (va_runV (As := [.int a_v]) (rest := []) ⟨hx, hb, hml, hown, hts⟩ (c_X5_lookAt l dC dI cI cJ H.size zd zg azg_kind azg_hand azg_state azg_look zv azv_spots azv_homes zr azr_sign azr_token azr_in azr_own azr_since zt zw zk zg_kind zg_hand zg_state zg_look zv_spots zv_homes zr_sign zr_token zr_in zr_own zr_since zg_size zv_size zv_counts zv_hides zr_size a_v) (cwV 1 hts gX5_told_X5_lookAt rfl rfl rfl (by decide +kernel) ⟨Nat.le_of_ble_eq_true rfl, Nat.le_of_ble_eq_true rfl⟩) ⟨fun a U g mk q => ⟨q.1, PreW.call g mk a q.2⟩, va_recv hK hP (ci := 5) (q0 := 0) rfl rfl, fun U hU hW => ⟨rfl, PreW.mk2 hU hW hPc hK hN (hDc.weaken (fun _ _ _ _ => trivial))⟩⟩ rfl rfl hl.1 rfl (lv_room (Nat.le_of_ble_eq_true rfl)) dX5_told_21 ⟨Nat.le_of_ble_eq_true rfl, Nat.le_of_ble_eq_true rfl⟩) hS (fun q _ h => hFc q h) hFc (fun u_6 t H1 locs ht hvm hw hB hz1 hk1 hS => ?_)
        obtain ⟨hB1, hB2⟩ : PostW dC dI [(zd, .inr (5, [.ref zt, .ref zr, .ref zw, .ref zg, .ref zv, .ref zk])), (zg, .inr (1, [.ref azg_kind, .ref azg_hand, .ref azg_state, .ref azg_look, .int zg_size])), (azg_kind, .inl (cI, 25, .inl zg_kind)), (azg_hand, .inl (cI, 25, .inl zg_hand)), (azg_state, .inl (cI, 25, .inl zg_state)), (azg_look, .inl (cI, 25, .inl zg_look)), (zv, .inr (4, [.ref azv_spots, .ref azv_homes, .int u_6.2.2.1, .int u_6.2.2.2.1, .int u_6.2.2.2.2])), (azv_spots, .inl (cI, 240, .inl u_6.1)), (azv_homes, .inl (cI, 240, .inl u_6.2.1)), (zr, .inr (2, [.ref azr_sign, .ref azr_token, .ref azr_in, .ref azr_own, .ref azr_since, .int zr_size])), (azr_sign, .inl (cI, 240, .inl zr_sign)), (azr_token, .inl (cI, 240, .inl zr_token)), (azr_in, .inl (cI, 240, .inl zr_in)), (azr_own, .inl (cI, 240, .inl zr_own)), (azr_since, .inl (cI, 240, .inl zr_since))] t _ := hB
        rw [ht] at hB1
        obtain ⟨hP, hD⟩ := va_join (wr := []) (w1 := [(zd, .inr (5, [.ref zt, .ref zr, .ref zw, .ref zg, .ref zv, .ref zk])), (zg, .inr (1, [.ref azg_kind, .ref azg_hand, .ref azg_state, .ref azg_look, .int zg_size])), (azg_kind, .inl (cI, 25, .inl zg_kind)), (azg_hand, .inl (cI, 25, .inl zg_hand)), (azg_state, .inl (cI, 25, .inl zg_state)), (azg_look, .inl (cI, 25, .inl zg_look)), (zv, .inr (4, [.ref azv_spots, .ref azv_homes, .int u_6.2.2.1, .int u_6.2.2.2.1, .int u_6.2.2.2.2])), (azv_spots, .inl (cI, 240, .inl u_6.1)), (azv_homes, .inl (cI, 240, .inl u_6.2.1)), (zr, .inr (2, [.ref azr_sign, .ref azr_token, .ref azr_in, .ref azr_own, .ref azr_since, .int zr_size])), (azr_sign, .inl (cI, 240, .inl zr_sign)), (azr_token, .inl (cI, 240, .inl zr_token)), (azr_in, .inl (cI, 240, .inl zr_in)), (azr_own, .inl (cI, 240, .inl zr_own)), (azr_since, .inl (cI, 240, .inl zr_since))]) hP hD [0, 1, 2, 3, 4, 5, 6, 7, 8, 9, 10, 11, 12, 13, 14] [] rfl rfl (by decide) (by decide) hk1 hFc hB1 hB2
        generalize H1 = H at hP hS ⊢
        have hP : va_P (dC, dI) vwCl [(zd, .inr (5, [.ref zt, .ref zr, .ref zw, .ref zg, .ref zv, .ref zk])), (zg, .inr (1, [.ref azg_kind, .ref azg_hand, .ref azg_state, .ref azg_look, .int zg_size])), (azg_kind, .inl (cI, 25, .inl zg_kind)), (azg_hand, .inl (cI, 25, .inl zg_hand)), (azg_state, .inl (cI, 25, .inl zg_state)), (azg_look, .inl (cI, 25, .inl zg_look)), (zv, .inr (4, [.ref azv_spots, .ref azv_homes, .int u_6.2.2.1, .int u_6.2.2.2.1, .int u_6.2.2.2.2])), (azv_spots, .inl (cI, 240, .inl u_6.1)), (azv_homes, .inl (cI, 240, .inl u_6.2.1)), (zr, .inr (2, [.ref azr_sign, .ref azr_token, .ref azr_in, .ref azr_own, .ref azr_since, .int zr_size])), (azr_sign, .inl (cI, 240, .inl zr_sign)), (azr_token, .inl (cI, 240, .inl zr_token)), (azr_in, .inl (cI, 240, .inl zr_in)), (azr_own, .inl (cI, 240, .inl zr_own)), (azr_since, .inl (cI, 240, .inl zr_since))] H := hP
        have hD : va_D A [(zd, .inr (5, [.ref zt, .ref zr, .ref zw, .ref zg, .ref zv, .ref zk])), (zg, .inr (1, [.ref azg_kind, .ref azg_hand, .ref azg_state, .ref azg_look, .int zg_size])), (azg_kind, .inl (cI, 25, .inl zg_kind)), (azg_hand, .inl (cI, 25, .inl zg_hand)), (azg_state, .inl (cI, 25, .inl zg_state)), (azg_look, .inl (cI, 25, .inl zg_look)), (zv, .inr (4, [.ref azv_spots, .ref azv_homes, .int u_6.2.2.1, .int u_6.2.2.2.1, .int u_6.2.2.2.2])), (azv_spots, .inl (cI, 240, .inl u_6.1)), (azv_homes, .inl (cI, 240, .inl u_6.2.1)), (zr, .inr (2, [.ref azr_sign, .ref azr_token, .ref azr_in, .ref azr_own, .ref azr_since, .int zr_size])), (azr_sign, .inl (cI, 240, .inl zr_sign)), (azr_token, .inl (cI, 240, .inl zr_token)), (azr_in, .inl (cI, 240, .inl zr_in)), (azr_own, .inl (cI, 240, .inl zr_own)), (azr_since, .inl (cI, 240, .inl zr_since))] := hD
        have hw2 : u_6 = f_X5_lookAt zg_kind zg_hand zg_state zg_size zv_spots zv_homes zr_token zr_in zr_size a_v := hw
        have hI7 : f_X5_told zg_kind zg_hand zg_state zg_look zg_size zv_spots zv_homes zv_size zv_counts zv_hides zr_sign zr_token zr_in zr_own zr_since zr_size a_v a_p a_w = f_X5_told_k24_u_6 zg_kind zg_look zg_size zr_sign zr_in zr_own zr_since zr_size a_p a_w u_6 := (by rw [hw2]; rw [f_X5_told, if_neg c_3, if_neg c_4, if_pos c_5])
        refine lv_aload_n hx hb dX5_told_24 rfl (lv_at hl 0 rfl) ?_
        refine va_get (D := (dC, dI)) (ci := 5) (v := .ref zv) (C := RX5) (T := TX5) (N := 6) hx hb hts in_X5_told_X5 hown hK hP 0 rfl rfl 4 (by decide) (hts _ m_X5_told_1) (fun _ h9 => h9) rfl dX5_told_25 ?_
        refine lv_iload_n hx hb dX5_told_28 rfl (lv_at hl 2 rfl) ?_
        have hPc := hP.sub (ws' := [(zv, .inr (4, [.ref azv_spots, .ref azv_homes, .int u_6.2.2.1, .int u_6.2.2.2.1, .int u_6.2.2.2.2])), (azv_spots, .inl (cI, 240, .inl u_6.1)), (azv_homes, .inl (cI, 240, .inl u_6.2.1))]) [6, 7, 8] rfl
        have hDc := hD.sub (ws' := [(zv, .inr (4, [.ref azv_spots, .ref azv_homes, .int u_6.2.2.1, .int u_6.2.2.2.1, .int u_6.2.2.2.2])), (azv_spots, .inl (cI, 240, .inl u_6.1)), (azv_homes, .inl (cI, 240, .inl u_6.2.1))]) [6, 7, 8] (by decide) rfl
        refine va_calli (va_runV (As := [.int a_p]) (rest := []) ⟨hx, hb, hml, hown, hts⟩ (c_X4_spotAt l dC dI cI cJ H.size zv azv_spots azv_homes u_6.1 u_6.2.1 u_6.2.2.1 u_6.2.2.2.1 u_6.2.2.2.2 a_p) (cwV 1 hts gX5_told_X4_spotAt rfl rfl rfl (by decide +kernel) ⟨Nat.le_of_ble_eq_true rfl, Nat.le_of_ble_eq_true rfl⟩) ⟨fun a U g mk q => ⟨q.1, PreW.call g mk a q.2⟩, va_recv hK hP (ci := 4) (q0 := 6) rfl rfl, fun U hU hW => ⟨rfl, PreW.mk2 hU hW hPc hK hN (hDc.weaken (fun _ _ _ _ => trivial))⟩⟩ rfl rfl hl.1 rfl (lv_room (Nat.le_of_ble_eq_true rfl)) dX5_told_29 ⟨Nat.le_of_ble_eq_true rfl, Nat.le_of_ble_eq_true rfl⟩) hS (fun q hq h => absurd hq (Nat.not_lt.mpr h)) (fun q h => hA q (Nat.le_trans hS.1 h)) (fun r_8 _u t H1 locs ht hvm hw hB hz1 hk1 hS => ?_)
        have hP := va_ro hP hk1
        generalize H1 = H at hP hS ⊢
        have hw : r_8 = f_X4_spotAt u_6.1 u_6.2.2.1 a_p := hw
        subst hw
        obtain ⟨z_9, hz_9⟩ : ∃ z : Int32, z = f_X4_spotAt u_6.1 u_6.2.2.1 a_p := ⟨_, rfl⟩
        refine lv_istore (lv' := [(4, .int (f_X4_spotAt u_6.1 u_6.2.2.1 a_p)), (0, .ref zd), (1, .int a_v), (2, .int a_p), (3, .int a_w)]) hx hb dX5_told_32 hl (by decide) rfl (fun ls hl => ?_)
        refine lv_aload_n hx hb dX5_told_34 rfl (lv_at hl 1 rfl) ?_
        refine va_get (D := (dC, dI)) (ci := 5) (v := .ref zr) (C := RX5) (T := TX5) (N := 6) hx hb hts in_X5_told_X5 hown hK hP 0 rfl rfl 1 (by decide) (hts _ m_X5_told_2) (fun _ h9 => h9) rfl dX5_told_35 ?_
        refine lv_iload hx hb dX5_told_38 (lv_at hl 0 rfl) ?_
        have hPc := hP.sub (ws' := [(zr, .inr (2, [.ref azr_sign, .ref azr_token, .ref azr_in, .ref azr_own, .ref azr_since, .int zr_size])), (azr_sign, .inl (cI, 240, .inl zr_sign)), (azr_token, .inl (cI, 240, .inl zr_token)), (azr_in, .inl (cI, 240, .inl zr_in)), (azr_own, .inl (cI, 240, .inl zr_own)), (azr_since, .inl (cI, 240, .inl zr_since))]) [9, 10, 11, 12, 13, 14] rfl
        have hDc := hD.sub (ws' := [(zr, .inr (2, [.ref azr_sign, .ref azr_token, .ref azr_in, .ref azr_own, .ref azr_since, .int zr_size])), (azr_sign, .inl (cI, 240, .inl zr_sign)), (azr_token, .inl (cI, 240, .inl zr_token)), (azr_in, .inl (cI, 240, .inl zr_in)), (azr_own, .inl (cI, 240, .inl zr_own)), (azr_since, .inl (cI, 240, .inl zr_since))]) [9, 10, 11, 12, 13, 14] (by decide) rfl
        refine va_calli (va_runV (As := [.int (f_X4_spotAt u_6.1 u_6.2.2.1 a_p)]) (rest := []) ⟨hx, hb, hml, hown, hts⟩ (c_X2_has l dC dI cI cJ H.size zr azr_sign azr_token azr_in azr_own azr_since zr_sign zr_token zr_in zr_own zr_since zr_size (f_X4_spotAt u_6.1 u_6.2.2.1 a_p)) (cwV 1 hts gX5_told_X2_has rfl rfl rfl (by decide +kernel) ⟨Nat.le_of_ble_eq_true rfl, Nat.le_of_ble_eq_true rfl⟩) ⟨fun a U g mk q => ⟨q.1, PreW.call g mk a q.2⟩, va_recv hK hP (ci := 2) (q0 := 9) rfl rfl, fun U hU hW => ⟨rfl, PreW.mk2 hU hW hPc hK hN (hDc.weaken (fun _ _ _ _ => trivial))⟩⟩ rfl rfl hl.1 rfl (lv_room (Nat.le_of_ble_eq_true rfl)) dX5_told_40 ⟨Nat.le_of_ble_eq_true rfl, Nat.le_of_ble_eq_true rfl⟩) hS (fun q hq h => absurd hq (Nat.not_lt.mpr h)) (fun q h => hA q (Nat.le_trans hS.1 h)) (fun r_10 _u t H1 locs ht hvm hw hB hz1 hk1 hS => ?_)
        have hP := va_ro hP hk1
        generalize H1 = H at hP hS ⊢
        have hw : r_10 = f_X2_has zr_size (f_X4_spotAt u_6.1 u_6.2.2.1 a_p) := hw
        subst hw
        obtain ⟨z_11, hz_11⟩ : ∃ z : Int32, z = f_X2_has zr_size (f_X4_spotAt u_6.1 u_6.2.2.1 a_p) := ⟨_, rfl⟩
        refine lv_if_ne (tgt := 48) hx hb dX5_told_43 (by decide) (fun c_12 => ?_) (fun c_12 => ?_)
        · have tc_12 : ¬ z_11.toInt = (0 : Int) := by rw [hz_11]; exact q_ne c_12
          obtain ⟨b_13, b_14, b_15⟩ := has_in c_12
          try simp only [← hz_9] at b_13 b_14 b_15
          refine lv_iload_n hx hb dX5_told_48 rfl (lv_at hl 4 rfl) ?_
          by_cases c_16 : a_w = (0 : Int32)
          · have tc_16 : a_w.toInt = (0 : Int) := q_eq c_16
            refine lv_tableIn (off := 31) (tgt := 80) hx hb dX5_told_49 (by rw [c_16]; decide) (by rw [c_16]; decide) (by rw [c_16]; rfl) (by decide) ?_
            refine lv_aload_n hx hb dX5_told_80 rfl (lv_at hl 1 rfl) ?_
            refine va_get (D := (dC, dI)) (ci := 5) (v := .ref zr) (C := RX5) (T := TX5) (N := 6) hx hb hts in_X5_told_X5 hown hK hP 0 rfl rfl 1 (by decide) (hts _ m_X5_told_2) (fun _ h9 => h9) rfl dX5_told_81 ?_
            refine va_get (D := (dC, dI)) (ci := 2) (v := .ref azr_sign) (C := RX2) (T := TX2) (N := 6) hx hb hts in_X5_told_X2 hown hK hP 9 rfl rfl 0 (by decide) (hts _ m_X5_told_3) (fun _ h9 => h9) rfl dX5_told_84 ?_
            refine lv_iload hx hb dX5_told_87 (lv_at hl 0 rfl) ?_
            refine va_iald (q0 := 10) (t0 := 0) (n := 240) (f := zr_sign) hx hb hK hP rfl rfl (by rw [← hz_9]; exact vp_in_iff.mpr ⟨by omega, by omega⟩) dX5_told_89 ?_
            have hE : f_X5_told zg_kind zg_hand zg_state zg_look zg_size zv_spots zv_homes zv_size zv_counts zv_hides zr_sign zr_token zr_in zr_own zr_since zr_size a_v a_p a_w = ((zr_sign ((f_X4_spotAt u_6.1 u_6.2.2.1 a_p)).toNatClampNeg), u_6.1, u_6.2.1, u_6.2.2.1, u_6.2.2.2.1, u_6.2.2.2.2) := (hI7.trans (by rw [f_X5_told_k24_u_6, if_neg c_12, if_pos c_16]))
            exact W.iret (v := (zr_sign ((f_X4_spotAt u_6.1 u_6.2.2.1 a_p)).toNatClampNeg)) hx hb hr (fun t ht hW => ⟨⟨(zr_sign ((f_X4_spotAt u_6.1 u_6.2.2.1 a_p)).toNatClampNeg), (u_6.1, u_6.2.1, u_6.2.2.1, u_6.2.2.2.1, u_6.2.2.2.2), rfl, ⟨by rw [hE], by rw [hE]⟩, ⟨by rw [ht]; exact hP, hD⟩⟩, hS.F ht⟩) hS.2.2 dX5_told_90
          by_cases c_17 : a_w = (1 : Int32)
          · have tc_17 : a_w.toInt = (1 : Int) := q_eq c_17
            refine lv_tableIn (off := 42) (tgt := 91) hx hb dX5_told_49 (by rw [c_17]; decide) (by rw [c_17]; decide) (by rw [c_17]; rfl) (by decide) ?_
            refine lv_aload_n hx hb dX5_told_91 rfl (lv_at hl 1 rfl) ?_
            refine lv_iload hx hb dX5_told_92 (lv_at hl 0 rfl) ?_
            have hPc := hP.sub (ws' := [(zd, .inr (5, [.ref zt, .ref zr, .ref zw, .ref zg, .ref zv, .ref zk])), (zr, .inr (2, [.ref azr_sign, .ref azr_token, .ref azr_in, .ref azr_own, .ref azr_since, .int zr_size])), (azr_sign, .inl (cI, 240, .inl zr_sign)), (azr_token, .inl (cI, 240, .inl zr_token)), (azr_in, .inl (cI, 240, .inl zr_in)), (azr_own, .inl (cI, 240, .inl zr_own)), (azr_since, .inl (cI, 240, .inl zr_since)), (zg, .inr (1, [.ref azg_kind, .ref azg_hand, .ref azg_state, .ref azg_look, .int zg_size])), (azg_kind, .inl (cI, 25, .inl zg_kind)), (azg_hand, .inl (cI, 25, .inl zg_hand)), (azg_state, .inl (cI, 25, .inl zg_state)), (azg_look, .inl (cI, 25, .inl zg_look)), (zv, .inr (4, [.ref azv_spots, .ref azv_homes, .int u_6.2.2.1, .int u_6.2.2.2.1, .int u_6.2.2.2.2])), (azv_spots, .inl (cI, 240, .inl u_6.1)), (azv_homes, .inl (cI, 240, .inl u_6.2.1))]) [0, 9, 10, 11, 12, 13, 14, 1, 2, 3, 4, 5, 6, 7, 8] rfl
            have hDc := hD.sub (ws' := [(zd, .inr (5, [.ref zt, .ref zr, .ref zw, .ref zg, .ref zv, .ref zk])), (zr, .inr (2, [.ref azr_sign, .ref azr_token, .ref azr_in, .ref azr_own, .ref azr_since, .int zr_size])), (azr_sign, .inl (cI, 240, .inl zr_sign)), (azr_token, .inl (cI, 240, .inl zr_token)), (azr_in, .inl (cI, 240, .inl zr_in)), (azr_own, .inl (cI, 240, .inl zr_own)), (azr_since, .inl (cI, 240, .inl zr_since)), (zg, .inr (1, [.ref azg_kind, .ref azg_hand, .ref azg_state, .ref azg_look, .int zg_size])), (azg_kind, .inl (cI, 25, .inl zg_kind)), (azg_hand, .inl (cI, 25, .inl zg_hand)), (azg_state, .inl (cI, 25, .inl zg_state)), (azg_look, .inl (cI, 25, .inl zg_look)), (zv, .inr (4, [.ref azv_spots, .ref azv_homes, .int u_6.2.2.1, .int u_6.2.2.2.1, .int u_6.2.2.2.2])), (azv_spots, .inl (cI, 240, .inl u_6.1)), (azv_homes, .inl (cI, 240, .inl u_6.2.1))]) [0, 9, 10, 11, 12, 13, 14, 1, 2, 3, 4, 5, 6, 7, 8] (by decide) rfl
            refine va_calli (va_runV (As := [.int (f_X4_spotAt u_6.1 u_6.2.2.1 a_p)]) (rest := []) ⟨hx, hb, hml, hown, hts⟩ (c_X5_lookOf l dC dI cI cJ H.size zd zr azr_sign azr_token azr_in azr_own azr_since zg azg_kind azg_hand azg_state azg_look zv azv_spots azv_homes zt zw zk zr_sign zr_token zr_in zr_own zr_since zg_kind zg_hand zg_state zg_look u_6.1 u_6.2.1 zr_size zg_size u_6.2.2.1 u_6.2.2.2.1 u_6.2.2.2.2 (f_X4_spotAt u_6.1 u_6.2.2.1 a_p) (by rw [← hz_9]; omega) (by rw [← hz_9]; omega)) (cwV 1 hts gX5_told_X5_lookOf rfl rfl rfl (by decide +kernel) ⟨Nat.le_of_ble_eq_true rfl, Nat.le_of_ble_eq_true rfl⟩) ⟨fun a U g mk q => ⟨q.1, PreW.call g mk a q.2⟩, va_recv hK hP (ci := 5) (q0 := 0) rfl rfl, fun U hU hW => ⟨rfl, PreW.mk2 hU hW hPc hK hN (hDc.weaken (fun _ _ _ _ => trivial))⟩⟩ rfl rfl hl.1 rfl (lv_room (Nat.le_of_ble_eq_true rfl)) dX5_told_94 ⟨Nat.le_of_ble_eq_true rfl, Nat.le_of_ble_eq_true rfl⟩) hS (fun q hq h => absurd hq (Nat.not_lt.mpr h)) (fun q h => hA q (Nat.le_trans hS.1 h)) (fun r_18 _u t H1 locs ht hvm hw hB hz1 hk1 hS => ?_)
            have hP := va_ro hP hk1
            generalize H1 = H at hP hS ⊢
            have hw : r_18 = f_X5_lookOf zr_in zr_own zr_since zg_kind zg_look zg_size u_6.2.2.2.1 (f_X4_spotAt u_6.1 u_6.2.2.1 a_p) := hw
            subst hw
            obtain ⟨z_19, hz_19⟩ : ∃ z : Int32, z = f_X5_lookOf zr_in zr_own zr_since zg_kind zg_look zg_size u_6.2.2.2.1 (f_X4_spotAt u_6.1 u_6.2.2.1 a_p) := ⟨_, rfl⟩
            have hE : f_X5_told zg_kind zg_hand zg_state zg_look zg_size zv_spots zv_homes zv_size zv_counts zv_hides zr_sign zr_token zr_in zr_own zr_since zr_size a_v a_p a_w = ((f_X5_lookOf zr_in zr_own zr_since zg_kind zg_look zg_size u_6.2.2.2.1 (f_X4_spotAt u_6.1 u_6.2.2.1 a_p)), u_6.1, u_6.2.1, u_6.2.2.1, u_6.2.2.2.1, u_6.2.2.2.2) := (hI7.trans (by rw [f_X5_told_k24_u_6, if_neg c_12, if_neg c_16, if_pos c_17]))
            exact W.iret (v := (f_X5_lookOf zr_in zr_own zr_since zg_kind zg_look zg_size u_6.2.2.2.1 (f_X4_spotAt u_6.1 u_6.2.2.1 a_p))) hx hb hr (fun t ht hW => ⟨⟨(f_X5_lookOf zr_in zr_own zr_since zg_kind zg_look zg_size u_6.2.2.2.1 (f_X4_spotAt u_6.1 u_6.2.2.1 a_p)), (u_6.1, u_6.2.1, u_6.2.2.1, u_6.2.2.2.1, u_6.2.2.2.2), rfl, ⟨by rw [hE], by rw [hE]⟩, ⟨by rw [ht]; exact hP, hD⟩⟩, hS.F ht⟩) hS.2.2 dX5_told_97
          by_cases c_20 : a_w = (2 : Int32)
          · have tc_20 : a_w.toInt = (2 : Int) := q_eq c_20
            refine lv_tableIn (off := 49) (tgt := 98) hx hb dX5_told_49 (by rw [c_20]; decide) (by rw [c_20]; decide) (by rw [c_20]; rfl) (by decide) ?_
            refine lv_aload_n hx hb dX5_told_98 rfl (lv_at hl 1 rfl) ?_
            refine va_get (D := (dC, dI)) (ci := 5) (v := .ref zr) (C := RX5) (T := TX5) (N := 6) hx hb hts in_X5_told_X5 hown hK hP 0 rfl rfl 1 (by decide) (hts _ m_X5_told_2) (fun _ h9 => h9) rfl dX5_told_99 ?_
            refine va_get (D := (dC, dI)) (ci := 2) (v := .ref azr_in) (C := RX2) (T := TX2) (N := 6) hx hb hts in_X5_told_X2 hown hK hP 9 rfl rfl 2 (by decide) (hts _ m_X5_told_4) (fun _ h9 => h9) rfl dX5_told_102 ?_
            refine lv_iload hx hb dX5_told_105 (lv_at hl 0 rfl) ?_
            refine va_iald (q0 := 12) (t0 := 0) (n := 240) (f := zr_in) hx hb hK hP rfl rfl (by rw [← hz_9]; exact vp_in_iff.mpr ⟨by omega, by omega⟩) dX5_told_107 ?_
            refine lv_aload_n hx hb dX5_told_108 rfl (lv_at hl 1 rfl) ?_
            refine va_get (D := (dC, dI)) (ci := 5) (v := .ref zg) (C := RX5) (T := TX5) (N := 6) hx hb hts in_X5_told_X5 hown hK hP 0 rfl rfl 3 (by decide) (hts _ m_X5_told_5) (fun _ h9 => h9) rfl dX5_told_109 ?_
            refine lv_iconst (v := (0 : Int32)) hx hb dX5_told_112 (by decide) ?_
            have hPc := hP.sub (ws' := [(zg, .inr (1, [.ref azg_kind, .ref azg_hand, .ref azg_state, .ref azg_look, .int zg_size])), (azg_kind, .inl (cI, 25, .inl zg_kind)), (azg_hand, .inl (cI, 25, .inl zg_hand)), (azg_state, .inl (cI, 25, .inl zg_state)), (azg_look, .inl (cI, 25, .inl zg_look))]) [1, 2, 3, 4, 5] rfl
            have hDc := hD.sub (ws' := [(zg, .inr (1, [.ref azg_kind, .ref azg_hand, .ref azg_state, .ref azg_look, .int zg_size])), (azg_kind, .inl (cI, 25, .inl zg_kind)), (azg_hand, .inl (cI, 25, .inl zg_hand)), (azg_state, .inl (cI, 25, .inl zg_state)), (azg_look, .inl (cI, 25, .inl zg_look))]) [1, 2, 3, 4, 5] (by decide) rfl
            refine va_calli (va_runV (As := [.int (0 : Int32)]) (rest := [.int (zr_in ((f_X4_spotAt u_6.1 u_6.2.2.1 a_p)).toNatClampNeg)]) ⟨hx, hb, hml, hown, hts⟩ (c_X1_ofKind l dC dI cI cJ H.size zg azg_kind azg_hand azg_state azg_look zg_kind zg_hand zg_state zg_look zg_size (0 : Int32)) (cwV 1 hts gX5_told_X1_ofKind rfl rfl rfl (by decide +kernel) ⟨Nat.le_of_ble_eq_true rfl, Nat.le_of_ble_eq_true rfl⟩) ⟨fun a U g mk q => ⟨q.1, PreW.call g mk a q.2⟩, va_recv hK hP (ci := 1) (q0 := 1) rfl rfl, fun U hU hW => ⟨rfl, PreW.mk2 hU hW hPc hK hN (hDc.weaken (fun _ _ _ _ => trivial))⟩⟩ rfl rfl hl.1 rfl (lv_room (Nat.le_of_ble_eq_true rfl)) dX5_told_113 ⟨Nat.le_of_ble_eq_true rfl, Nat.le_of_ble_eq_true rfl⟩) hS (fun q hq h => absurd hq (Nat.not_lt.mpr h)) (fun q h => hA q (Nat.le_trans hS.1 h)) (fun r_21 _u t H1 locs ht hvm hw hB hz1 hk1 hS => ?_)
            have hP := va_ro hP hk1
            generalize H1 = H at hP hS ⊢
            have hw : r_21 = f_X1_ofKind zg_kind zg_size (0 : Int32) := hw
            subst hw
            obtain ⟨z_22, hz_22⟩ : ∃ z : Int32, z = f_X1_ofKind zg_kind zg_size (0 : Int32) := ⟨_, rfl⟩
            refine lv_iand hx hb dX5_told_116 ?_
            have hPc := hP.sub (ws' := []) [] rfl
            have hDc := hD.sub (ws' := []) [] (by decide) rfl
            refine va_calli (va_runS (As := [.int ((zr_in ((f_X4_spotAt u_6.1 u_6.2.2.1 a_p)).toNatClampNeg) &&& (f_X1_ofKind zg_kind zg_size (0 : Int32)))]) (rest := []) ⟨hx, hb, hml, hown, hts⟩ (c_X5_latest l dC dI cI cJ H.size ((zr_in ((f_X4_spotAt u_6.1 u_6.2.2.1 a_p)).toNatClampNeg) &&& (f_X1_ofKind zg_kind zg_size (0 : Int32)))) (va_cwS 1 hts gX5_told_X5_latest rfl rfl rfl (by decide +kernel) ⟨Nat.le_of_ble_eq_true rfl, Nat.le_of_ble_eq_true rfl⟩) ⟨fun a U g mk q => ⟨q.1, PreW.call g mk a q.2⟩, fun U hU hW => ⟨rfl, PreW.mk2 hU hW hPc hK hN (hDc.weaken (fun _ _ _ _ => trivial))⟩⟩ rfl rfl hl.1 rfl (lv_room (Nat.le_of_ble_eq_true rfl)) dX5_told_117 ⟨Nat.le_of_ble_eq_true rfl, Nat.le_of_ble_eq_true rfl⟩) hS (fun q hq h => absurd hq (Nat.not_lt.mpr h)) (fun q h => hA q (Nat.le_trans hS.1 h)) (fun r_23 _u t H1 locs ht hvm hw hB hz1 hk1 hS => ?_)
            have hP := va_ro hP hk1
            generalize H1 = H at hP hS ⊢
            have hw : r_23 = f_X5_latest ((zr_in ((f_X4_spotAt u_6.1 u_6.2.2.1 a_p)).toNatClampNeg) &&& (f_X1_ofKind zg_kind zg_size (0 : Int32))) := hw
            subst hw
            obtain ⟨z_24, hz_24⟩ : ∃ z : Int32, z = f_X5_latest ((zr_in ((f_X4_spotAt u_6.1 u_6.2.2.1 a_p)).toNatClampNeg) &&& (f_X1_ofKind zg_kind zg_size (0 : Int32))) := ⟨_, rfl⟩
            have hE : f_X5_told zg_kind zg_hand zg_state zg_look zg_size zv_spots zv_homes zv_size zv_counts zv_hides zr_sign zr_token zr_in zr_own zr_since zr_size a_v a_p a_w = ((f_X5_latest ((zr_in ((f_X4_spotAt u_6.1 u_6.2.2.1 a_p)).toNatClampNeg) &&& (f_X1_ofKind zg_kind zg_size (0 : Int32)))), u_6.1, u_6.2.1, u_6.2.2.1, u_6.2.2.2.1, u_6.2.2.2.2) := (hI7.trans (by rw [f_X5_told_k24_u_6, if_neg c_12, if_neg c_16, if_neg c_17, if_pos c_20]))
            exact W.iret (v := (f_X5_latest ((zr_in ((f_X4_spotAt u_6.1 u_6.2.2.1 a_p)).toNatClampNeg) &&& (f_X1_ofKind zg_kind zg_size (0 : Int32))))) hx hb hr (fun t ht hW => ⟨⟨(f_X5_latest ((zr_in ((f_X4_spotAt u_6.1 u_6.2.2.1 a_p)).toNatClampNeg) &&& (f_X1_ofKind zg_kind zg_size (0 : Int32)))), (u_6.1, u_6.2.1, u_6.2.2.1, u_6.2.2.2.1, u_6.2.2.2.2), rfl, ⟨by rw [hE], by rw [hE]⟩, ⟨by rw [ht]; exact hP, hD⟩⟩, hS.F ht⟩) hS.2.2 dX5_told_120
          by_cases c_25 : a_w = (3 : Int32)
          · have tc_25 : a_w.toInt = (3 : Int) := q_eq c_25
            refine lv_tableIn (off := 72) (tgt := 121) hx hb dX5_told_49 (by rw [c_25]; decide) (by rw [c_25]; decide) (by rw [c_25]; rfl) (by decide) ?_
            refine lv_aload_n hx hb dX5_told_121 rfl (lv_at hl 1 rfl) ?_
            refine va_get (D := (dC, dI)) (ci := 5) (v := .ref zv) (C := RX5) (T := TX5) (N := 6) hx hb hts in_X5_told_X5 hown hK hP 0 rfl rfl 4 (by decide) (hts _ m_X5_told_1) (fun _ h9 => h9) rfl dX5_told_122 ?_
            refine va_get (D := (dC, dI)) (ci := 4) (v := .ref azv_homes) (C := RX4) (T := TX4) (N := 5) hx hb hts in_X5_told_X4 hown hK hP 6 rfl rfl 1 (by decide) (hts _ m_X5_told_6) (fun _ h9 => h9) rfl dX5_told_125 ?_
            refine lv_iload hx hb dX5_told_128 (lv_at hl 0 rfl) ?_
            refine va_iald (q0 := 8) (t0 := 0) (n := 240) (f := u_6.2.1) hx hb hK hP rfl rfl (by rw [← hz_9]; exact vp_in_iff.mpr ⟨by omega, by omega⟩) dX5_told_130 ?_
            have hE : f_X5_told zg_kind zg_hand zg_state zg_look zg_size zv_spots zv_homes zv_size zv_counts zv_hides zr_sign zr_token zr_in zr_own zr_since zr_size a_v a_p a_w = ((u_6.2.1 ((f_X4_spotAt u_6.1 u_6.2.2.1 a_p)).toNatClampNeg), u_6.1, u_6.2.1, u_6.2.2.1, u_6.2.2.2.1, u_6.2.2.2.2) := (hI7.trans (by rw [f_X5_told_k24_u_6, if_neg c_12, if_neg c_16, if_neg c_17, if_neg c_20, if_pos c_25]))
            exact W.iret (v := (u_6.2.1 ((f_X4_spotAt u_6.1 u_6.2.2.1 a_p)).toNatClampNeg)) hx hb hr (fun t ht hW => ⟨⟨(u_6.2.1 ((f_X4_spotAt u_6.1 u_6.2.2.1 a_p)).toNatClampNeg), (u_6.1, u_6.2.1, u_6.2.2.1, u_6.2.2.2.1, u_6.2.2.2.2), rfl, ⟨by rw [hE], by rw [hE]⟩, ⟨by rw [ht]; exact hP, hD⟩⟩, hS.F ht⟩) hS.2.2 dX5_told_131
          have tc_16 : ¬ a_w.toInt = (0 : Int) := q_ne c_16
          have tc_17 : ¬ a_w.toInt = (1 : Int) := q_ne c_17
          have tc_20 : ¬ a_w.toInt = (2 : Int) := q_ne c_20
          have tc_25 : ¬ a_w.toInt = (3 : Int) := q_ne c_25
          refine lv_tableOut (tgt := 132) hx hb dX5_told_49 (by omega) (by decide) ?_
          refine lv_aload_n hx hb dX5_told_132 rfl (lv_at hl 1 rfl) ?_
          refine va_get (D := (dC, dI)) (ci := 5) (v := .ref zr) (C := RX5) (T := TX5) (N := 6) hx hb hts in_X5_told_X5 hown hK hP 0 rfl rfl 1 (by decide) (hts _ m_X5_told_2) (fun _ h9 => h9) rfl dX5_told_133 ?_
          refine va_get (D := (dC, dI)) (ci := 2) (v := .ref azr_in) (C := RX2) (T := TX2) (N := 6) hx hb hts in_X5_told_X2 hown hK hP 9 rfl rfl 2 (by decide) (hts _ m_X5_told_4) (fun _ h9 => h9) rfl dX5_told_136 ?_
          refine lv_iload hx hb dX5_told_139 (lv_at hl 0 rfl) ?_
          refine va_iald (q0 := 12) (t0 := 0) (n := 240) (f := zr_in) hx hb hK hP rfl rfl (by rw [← hz_9]; exact vp_in_iff.mpr ⟨by omega, by omega⟩) dX5_told_141 ?_
          refine lv_aload_n hx hb dX5_told_142 rfl (lv_at hl 1 rfl) ?_
          refine va_get (D := (dC, dI)) (ci := 5) (v := .ref zg) (C := RX5) (T := TX5) (N := 6) hx hb hts in_X5_told_X5 hown hK hP 0 rfl rfl 3 (by decide) (hts _ m_X5_told_5) (fun _ h9 => h9) rfl dX5_told_143 ?_
          refine lv_iload_n hx hb dX5_told_146 rfl (lv_at hl 4 rfl) ?_
          refine lv_iconst (v := (3 : Int32)) hx hb dX5_told_147 (by decide) ?_
          refine lv_isub hx hb dX5_told_148 ?_
          obtain ⟨z_26, hz_26⟩ : ∃ z : Int32, z = (a_w - (3 : Int32)) := ⟨_, rfl⟩
          try have gz_26 : z_26.toInt = a_w.toInt - (3 : Int) := by rw [hz_26]; exact ti_sub2 rfl rfl (by omega) (by omega)
          have hPc := hP.sub (ws' := [(zg, .inr (1, [.ref azg_kind, .ref azg_hand, .ref azg_state, .ref azg_look, .int zg_size])), (azg_kind, .inl (cI, 25, .inl zg_kind)), (azg_hand, .inl (cI, 25, .inl zg_hand)), (azg_state, .inl (cI, 25, .inl zg_state)), (azg_look, .inl (cI, 25, .inl zg_look))]) [1, 2, 3, 4, 5] rfl
          have hDc := hD.sub (ws' := [(zg, .inr (1, [.ref azg_kind, .ref azg_hand, .ref azg_state, .ref azg_look, .int zg_size])), (azg_kind, .inl (cI, 25, .inl zg_kind)), (azg_hand, .inl (cI, 25, .inl zg_hand)), (azg_state, .inl (cI, 25, .inl zg_state)), (azg_look, .inl (cI, 25, .inl zg_look))]) [1, 2, 3, 4, 5] (by decide) rfl
          refine va_calli (va_runV (As := [.int (a_w - (3 : Int32))]) (rest := [.int (zr_in ((f_X4_spotAt u_6.1 u_6.2.2.1 a_p)).toNatClampNeg)]) ⟨hx, hb, hml, hown, hts⟩ (c_X1_ofKind l dC dI cI cJ H.size zg azg_kind azg_hand azg_state azg_look zg_kind zg_hand zg_state zg_look zg_size (a_w - (3 : Int32))) (cwV 1 hts gX5_told_X1_ofKind rfl rfl rfl (by decide +kernel) ⟨Nat.le_of_ble_eq_true rfl, Nat.le_of_ble_eq_true rfl⟩) ⟨fun a U g mk q => ⟨q.1, PreW.call g mk a q.2⟩, va_recv hK hP (ci := 1) (q0 := 1) rfl rfl, fun U hU hW => ⟨rfl, PreW.mk2 hU hW hPc hK hN (hDc.weaken (fun _ _ _ _ => trivial))⟩⟩ rfl rfl hl.1 rfl (lv_room (Nat.le_of_ble_eq_true rfl)) dX5_told_149 ⟨Nat.le_of_ble_eq_true rfl, Nat.le_of_ble_eq_true rfl⟩) hS (fun q hq h => absurd hq (Nat.not_lt.mpr h)) (fun q h => hA q (Nat.le_trans hS.1 h)) (fun r_27 _u t H1 locs ht hvm hw hB hz1 hk1 hS => ?_)
          have hP := va_ro hP hk1
          generalize H1 = H at hP hS ⊢
          have hw : r_27 = f_X1_ofKind zg_kind zg_size (a_w - (3 : Int32)) := hw
          subst hw
          obtain ⟨z_28, hz_28⟩ : ∃ z : Int32, z = f_X1_ofKind zg_kind zg_size (a_w - (3 : Int32)) := ⟨_, rfl⟩
          refine lv_iand hx hb dX5_told_152 ?_
          have hPc := hP.sub (ws' := []) [] rfl
          have hDc := hD.sub (ws' := []) [] (by decide) rfl
          refine va_calli (va_runS (As := [.int ((zr_in ((f_X4_spotAt u_6.1 u_6.2.2.1 a_p)).toNatClampNeg) &&& (f_X1_ofKind zg_kind zg_size (a_w - (3 : Int32))))]) (rest := []) ⟨hx, hb, hml, hown, hts⟩ (c_J6_bitCount_0f7a4 l dC dI cI cJ H.size ((zr_in ((f_X4_spotAt u_6.1 u_6.2.2.1 a_p)).toNatClampNeg) &&& (f_X1_ofKind zg_kind zg_size (a_w - (3 : Int32))))) (va_cwS 1 hts gX5_told_J6_bitCount_0f7a4 rfl rfl rfl (by decide +kernel) ⟨Nat.le_of_ble_eq_true rfl, Nat.le_of_ble_eq_true rfl⟩) ⟨fun a U g mk q => ⟨q.1, PreW.call g mk a q.2⟩, fun U hU hW => ⟨rfl, PreW.mk2 hU hW hPc hK hN (hDc.weaken (fun _ _ _ _ => trivial))⟩⟩ rfl rfl hl.1 rfl (lv_room (Nat.le_of_ble_eq_true rfl)) dX5_told_153 ⟨Nat.le_of_ble_eq_true rfl, Nat.le_of_ble_eq_true rfl⟩) hS (fun q hq h => absurd hq (Nat.not_lt.mpr h)) (fun q h => hA q (Nat.le_trans hS.1 h)) (fun r_29 _u t H1 locs ht hvm hw hB hz1 hk1 hS => ?_)
          have hP := va_ro hP hk1
          generalize H1 = H at hP hS ⊢
          have hw : r_29 = f_J6_bitCount_0f7a4 ((zr_in ((f_X4_spotAt u_6.1 u_6.2.2.1 a_p)).toNatClampNeg) &&& (f_X1_ofKind zg_kind zg_size (a_w - (3 : Int32)))) := hw
          subst hw
          obtain ⟨z_30, hz_30⟩ : ∃ z : Int32, z = f_J6_bitCount_0f7a4 ((zr_in ((f_X4_spotAt u_6.1 u_6.2.2.1 a_p)).toNatClampNeg) &&& (f_X1_ofKind zg_kind zg_size (a_w - (3 : Int32)))) := ⟨_, rfl⟩
          have hE : f_X5_told zg_kind zg_hand zg_state zg_look zg_size zv_spots zv_homes zv_size zv_counts zv_hides zr_sign zr_token zr_in zr_own zr_since zr_size a_v a_p a_w = ((f_J6_bitCount_0f7a4 ((zr_in ((f_X4_spotAt u_6.1 u_6.2.2.1 a_p)).toNatClampNeg) &&& (f_X1_ofKind zg_kind zg_size (a_w - (3 : Int32))))), u_6.1, u_6.2.1, u_6.2.2.1, u_6.2.2.2.1, u_6.2.2.2.2) := (hI7.trans (by rw [f_X5_told_k24_u_6, if_neg c_12, if_neg c_16, if_neg c_17, if_neg c_20, if_neg c_25]))
          exact W.iret (v := (f_J6_bitCount_0f7a4 ((zr_in ((f_X4_spotAt u_6.1 u_6.2.2.1 a_p)).toNatClampNeg) &&& (f_X1_ofKind zg_kind zg_size (a_w - (3 : Int32)))))) hx hb hr (fun t ht hW => ⟨⟨(f_J6_bitCount_0f7a4 ((zr_in ((f_X4_spotAt u_6.1 u_6.2.2.1 a_p)).toNatClampNeg) &&& (f_X1_ofKind zg_kind zg_size (a_w - (3 : Int32))))), (u_6.1, u_6.2.1, u_6.2.2.1, u_6.2.2.2.1, u_6.2.2.2.2), rfl, ⟨by rw [hE], by rw [hE]⟩, ⟨by rw [ht]; exact hP, hD⟩⟩, hS.F ht⟩) hS.2.2 dX5_told_156
        · have tc_12 : z_11.toInt = (0 : Int) := by rw [hz_11]; exact q_eq c_12
          refine lv_iconst (v := (-1 : Int32)) hx hb dX5_told_46 (by decide) ?_
          have hE : f_X5_told zg_kind zg_hand zg_state zg_look zg_size zv_spots zv_homes zv_size zv_counts zv_hides zr_sign zr_token zr_in zr_own zr_since zr_size a_v a_p a_w = ((-1 : Int32), u_6.1, u_6.2.1, u_6.2.2.1, u_6.2.2.2.1, u_6.2.2.2.2) := (hI7.trans (by rw [f_X5_told_k24_u_6, if_pos c_12]))
          exact W.iret (v := (-1 : Int32)) hx hb hr (fun t ht hW => ⟨⟨(-1 : Int32), (u_6.1, u_6.2.1, u_6.2.2.1, u_6.2.2.2.1, u_6.2.2.2.2), rfl, ⟨by rw [hE], by rw [hE]⟩, ⟨by rw [ht]; exact hP, hD⟩⟩, hS.F ht⟩) hS.2.2 dX5_told_47
      · have tc_5 : (7 : Int) < a_w.toInt := q_nle c_5
        refine lv_iconst (v := (-1 : Int32)) hx hb dX5_told_17 (by decide) ?_
        have hE : f_X5_told zg_kind zg_hand zg_state zg_look zg_size zv_spots zv_homes zv_size zv_counts zv_hides zr_sign zr_token zr_in zr_own zr_since zr_size a_v a_p a_w = ((-1 : Int32), zv_spots, zv_homes, zv_size, zv_counts, zv_hides) := (by rw [f_X5_told, if_neg c_3, if_neg c_4, if_neg c_5])
        exact W.iret (v := (-1 : Int32)) hx hb hr (fun t ht hW => ⟨⟨(-1 : Int32), (zv_spots, zv_homes, zv_size, zv_counts, zv_hides), rfl, ⟨by rw [hE], by rw [hE]⟩, ⟨by rw [ht]; exact hP, hD⟩⟩, hS.F ht⟩) hS.2.2 dX5_told_18
