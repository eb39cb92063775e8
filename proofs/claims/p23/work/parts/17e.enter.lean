theorem dX5_enter_0 : decode cX5_enter 0 = .ok (.iload_n 1, 1) := by decide +kernel
theorem dX5_enter_1 : decode cX5_enter 1 = .ok (.istore 4, 2) := by decide +kernel
theorem dX5_enter_3 : decode cX5_enter 3 = .ok (.iload 4, 2) := by decide +kernel
theorem dX5_enter_5 : decode cX5_enter 5 = .ok (.iload_n 2, 1) := by decide +kernel
theorem dX5_enter_6 : decode cX5_enter 6 = .ok (.if_icmp .ge 29, 3) := by decide +kernel
theorem dX5_enter_35 : decode cX5_enter 35 = .ok (.return_, 1) := by decide +kernel
theorem dX5_enter_9 : decode cX5_enter 9 = .ok (.aload_n 0, 1) := by decide +kernel
theorem dX5_enter_10 : decode cX5_enter 10 = .ok (.getfield 19, 3) := by decide +kernel
theorem in_X5_enter_X5 : ∀ w ∈ wsX50, w ∈ wsX5_enter := by decide +kernel
theorem m_X5_enter_1 : (.fieldLink RX5 19 "RedlineDesk" "row" "LRedlineDesk$Row;" : Cond) ∈ wsX5_enter := List.mem_of_getElem? (i := 1) (by decide +kernel)
theorem dX5_enter_13 : decode cX5_enter 13 = .ok (.aload_n 0, 1) := by decide +kernel
theorem dX5_enter_14 : decode cX5_enter 14 = .ok (.getfield 36, 3) := by decide +kernel
theorem m_X5_enter_2 : (.fieldLink RX5 36 "RedlineDesk" "shown" "LRedlineDesk$View;" : Cond) ∈ wsX5_enter := List.mem_of_getElem? (i := 2) (by decide +kernel)
theorem dX5_enter_17 : decode cX5_enter 17 = .ok (.iload 4, 2) := by decide +kernel
theorem dX5_enter_19 : decode cX5_enter 19 = .ok (.invokevirtual 77, 3) := by decide +kernel
set_option maxRecDepth 20000 in
theorem ggX5_enter_X4_spotAt : GoodIn wsX5_enter wsX4_spotAt := goodIn_r _ [7, 8, 9, 31, 32, 33, 34, 35] (by decide +kernel) (by decide +kernel)
set_option maxRecDepth 20000 in
theorem gX5_enter_X4_spotAt : GoodIn wsX5_enter (wsV RX5 77 RX4 yX4_spotAt wsX4_spotAt) := goodIn_app (goodIn_of _ (by decide +kernel)) ggX5_enter_X4_spotAt
theorem dX5_enter_22 : decode cX5_enter 22 = .ok (.iload_n 3, 1) := by decide +kernel
theorem dX5_enter_23 : decode cX5_enter 23 = .ok (.invokestatic 154, 3) := by decide +kernel
set_option maxRecDepth 20000 in
theorem ggX5_enter_X5_bit : GoodIn wsX5_enter wsX5_bit := goodIn_r _ [13] (by decide +kernel) (by decide +kernel)
set_option maxRecDepth 20000 in
theorem gX5_enter_X5_bit : GoodIn wsX5_enter (va_wsS RX5 154 yX5_bit wsX5_bit) := goodIn_app (goodIn_of _ (by decide +kernel)) ggX5_enter_X5_bit
theorem dX5_enter_26 : decode cX5_enter 26 = .ok (.invokevirtual 243, 3) := by decide +kernel
set_option maxRecDepth 20000 in
theorem ggX5_enter_X2_enter : GoodIn wsX5_enter wsX2_enter := goodIn_r _ [18, 19, 20, 21, 22, 17, 23, 24, 36, 37, 38, 39, 40, 41] (by decide +kernel) (by decide +kernel)
set_option maxRecDepth 20000 in
theorem gX5_enter_X2_enter : GoodIn wsX5_enter (wsV RX5 243 RX2 yX2_enter wsX2_enter) := goodIn_app (goodIn_of _ (by decide +kernel)) ggX5_enter_X2_enter
theorem dX5_enter_29 : decode cX5_enter 29 = .ok (.iinc 4 1, 3) := by decide +kernel
theorem dX5_enter_32 : decode cX5_enter 32 = .ok (.goto (-29), 3) := by decide +kernel
def f_X5_enter_k29_u_7 (v4_1 : Int32) (K_f_X5_enter_L3 : Int32 → (Nat → Int32) → (Nat → Int32)) (u_7 : (Nat → Int32)) : (Nat → Int32) := K_f_X5_enter_L3 (v4_1 + (1 : Int32)) u_7
def f_X5_enter_L3 (zv_spots : Nat → Int32) (zv_size : Int32) (zr_size : Int32) (a_b : Int32) (a_c : Int32) : Nat → Int32 → (Nat → Int32) → (Nat → Int32)
  | 0, _, _ => (fun _ => 0)
  | n_1 + 1, v4_1, zr_in_1 => if a_b ≤ v4_1 then zr_in_1 else f_X5_enter_k29_u_7 v4_1 (f_X5_enter_L3 zv_spots zv_size zr_size a_b a_c n_1) (f_X2_enter zr_in_1 zr_size (f_X4_spotAt zv_spots zv_size v4_1) (f_X5_bit a_c))
def f_X5_enter (zv_spots : Nat → Int32) (zv_size : Int32) (zr_in : Nat → Int32) (zr_size : Int32) (a_a : Int32) (a_b : Int32) (a_c : Int32) : (Nat → Int32) := f_X5_enter_L3 zv_spots zv_size zr_size a_b a_c 5000000000 a_a zr_in
set_option maxHeartbeats 4000000 in
set_option maxRecDepth 100000 in
theorem c_X5_enter (l : Launch) (dC : Nat → ClassId) (dI : Nat → Nat → Nat) (cI cJ : ClassId) (sz : Nat) (zd zv azv_spots azv_homes zr azr_sign azr_token azr_in azr_own azr_since zt zw zg zk : Nat) (zv_spots zv_homes zr_sign zr_token zr_in zr_own zr_since : Nat → Int32) (zv_size zv_counts zv_hides zr_size : Int32) (a_a : Int32) (a_b : Int32) (a_c : Int32) : Met l yX5_enter wsX5_enter ({ frames := 2, cells := 0, slots := 0, locals := 43 } : Room) (va_Pc [.ref zd, .int a_a, .int a_b, .int a_c] (PreW dC dI cI cJ sz [(zd, .inr (5, [.ref zt, .ref zr, .ref zw, .ref zg, .ref zv, .ref zk])), (zv, .inr (4, [.ref azv_spots, .ref azv_homes, .int zv_size, .int zv_counts, .int zv_hides])), (azv_spots, .inl (cI, 240, .inl zv_spots)), (azv_homes, .inl (cI, 240, .inl zv_homes)), (zr, .inr (2, [.ref azr_sign, .ref azr_token, .ref azr_in, .ref azr_own, .ref azr_since, .int zr_size])), (azr_sign, .inl (cI, 240, .inl zr_sign)), (azr_token, .inl (cI, 240, .inl zr_token)), (azr_in, .inl (cI, 240, .inl zr_in)), (azr_own, .inl (cI, 240, .inl zr_own)), (azr_since, .inl (cI, 240, .inl zr_since))])) (va_Qv (fun (u : (Nat → Int32)) => u = f_X5_enter zv_spots zv_size zr_in zr_size a_a a_b a_c) (fun (u : (Nat → Int32)) t => PostW dC dI [(zd, .inr (5, [.ref zt, .ref zr, .ref zw, .ref zg, .ref zv, .ref zk])), (zv, .inr (4, [.ref azv_spots, .ref azv_homes, .int zv_size, .int zv_counts, .int zv_hides])), (azv_spots, .inl (cI, 240, .inl zv_spots)), (azv_homes, .inl (cI, 240, .inl zv_homes)), (zr, .inr (2, [.ref azr_sign, .ref azr_token, .ref azr_in, .ref azr_own, .ref azr_since, .int zr_size])), (azr_sign, .inl (cI, 240, .inl zr_sign)), (azr_token, .inl (cI, 240, .inl zr_token)), (azr_in, .inl (cI, 240, .inl u)), (azr_own, .inl (cI, 240, .inl zr_own)), (azr_since, .inl (cI, 240, .inl zr_since))] t (va_A [(zd, .inr (5, [.ref zt, .ref zr, .ref zw, .ref zg, .ref zv, .ref zk])), (zv, .inr (4, [.ref azv_spots, .ref azv_homes, .int zv_size, .int zv_counts, .int zv_hides])), (azv_spots, .inl (cI, 240, .inl zv_spots)), (azv_homes, .inl (cI, 240, .inl zv_homes)), (zr, .inr (2, [.ref azr_sign, .ref azr_token, .ref azr_in, .ref azr_own, .ref azr_since, .int zr_size])), (azr_sign, .inl (cI, 240, .inl zr_sign)), (azr_token, .inl (cI, 240, .inl zr_token)), (azr_in, .inl (cI, 240, .inl zr_in)), (azr_own, .inl (cI, 240, .inl zr_own)), (azr_since, .inl (cI, 240, .inl zr_since))] sz)) (va_A [(zd, .inr (5, [.ref zt, .ref zr, .ref zw, .ref zg, .ref zv, .ref zk])), (zv, .inr (4, [.ref azv_spots, .ref azv_homes, .int zv_size, .int zv_counts, .int zv_hides])), (azv_spots, .inl (cI, 240, .inl zv_spots)), (azv_homes, .inl (cI, 240, .inl zv_homes)), (zr, .inr (2, [.ref azr_sign, .ref azr_token, .ref azr_in, .ref azr_own, .ref azr_since, .int zr_size])), (azr_sign, .inl (cI, 240, .inl zr_sign)), (azr_token, .inl (cI, 240, .inl zr_token)), (azr_in, .inl (cI, 240, .inl zr_in)), (azr_own, .inl (cI, 240, .inl zr_own)), (azr_since, .inl (cI, 240, .inl zr_since))] sz)) 0 0 (va_A [(zd, .inr (5, [.ref zt, .ref zr, .ref zw, .ref zg, .ref zv, .ref zk])), (zv, .inr (4, [.ref azv_spots, .ref azv_homes, .int zv_size, .int zv_counts, .int zv_hides])), (azv_spots, .inl (cI, 240, .inl zv_spots)), (azv_homes, .inl (cI, 240, .inl zv_homes)), (zr, .inr (2, [.ref azr_sign, .ref azr_token, .ref azr_in, .ref azr_own, .ref azr_since, .int zr_size])), (azr_sign, .inl (cI, 240, .inl zr_sign)), (azr_token, .inl (cI, 240, .inl zr_token)), (azr_in, .inl (cI, 240, .inl zr_in)), (azr_own, .inl (cI, 240, .inl zr_own)), (azr_since, .inl (cI, 240, .inl zr_since))] sz) := by
  refine Met.ofW (cc := cX5_enter) (maxL := 5) (ret := none) (by decide) rfl ?_
  intro p e s m args below meth c s₁ B hml hv
  obtain ⟨rfl, hsz, hP, hK, hN, hD0⟩ := hv
  have hx := B.exec
  have hb := B.bytes
  have hr := B.returns
  have hts := atoms_spec (ws := wsX5_enter) B.pre
  have hown : s.vm.findClass RX5 = some m.cls := findClass_of_methodNamed B.named
  have hlocks := B.notSynchronized
  subst hsz
  have hD := hD0.self (sz := s.heap.size)
  generalize hAe : va_A [(zd, .inr (5, [.ref zt, .ref zr, .ref zw, .ref zg, .ref zv, .ref zk])), (zv, .inr (4, [.ref azv_spots, .ref azv_homes, .int zv_size, .int zv_counts, .int zv_hides])), (azv_spots, .inl (cI, 240, .inl zv_spots)), (azv_homes, .inl (cI, 240, .inl zv_homes)), (zr, .inr (2, [.ref azr_sign, .ref azr_token, .ref azr_in, .ref azr_own, .ref azr_since, .int zr_size])), (azr_sign, .inl (cI, 240, .inl zr_sign)), (azr_token, .inl (cI, 240, .inl zr_token)), (azr_in, .inl (cI, 240, .inl zr_in)), (azr_own, .inl (cI, 240, .inl zr_own)), (azr_since, .inl (cI, 240, .inl zr_since))] s.heap.size = A at hD ⊢
  have hA : ∀ q : Nat, s.heap.size ≤ q → A q := fun q h => by rw [← hAe]; exact Or.inr h
  have hS : va_S A s.heap s.heap [] := va_S.rf
  have hP : va_P (dC, dI) vwCl [(zd, .inr (5, [.ref zt, .ref zr, .ref zw, .ref zg, .ref zv, .ref zk])), (zv, .inr (4, [.ref azv_spots, .ref azv_homes, .int zv_size, .int zv_counts, .int zv_hides])), (azv_spots, .inl (cI, 240, .inl zv_spots)), (azv_homes, .inl (cI, 240, .inl zv_homes)), (zr, .inr (2, [.ref azr_sign, .ref azr_token, .ref azr_in, .ref azr_own, .ref azr_since, .int zr_size])), (azr_sign, .inl (cI, 240, .inl zr_sign)), (azr_token, .inl (cI, 240, .inl zr_token)), (azr_in, .inl (cI, 240, .inl zr_in)), (azr_own, .inl (cI, 240, .inl zr_own)), (azr_since, .inl (cI, 240, .inl zr_since))] s.heap := hP
  have hl := lv_entry ([.ref zd, .int a_a, .int a_b, .int a_c]) (n := 5) (Nat.le_of_ble_eq_true rfl)
  rw [lg_entry_eq]
  generalize (lg_sl ([.ref zd, .int a_a, .int a_b, .int a_c]) ++ List.replicate (5 - (lg_sl ([.ref zd, .int a_a, .int a_b, .int a_c])).length) Slot.unset).toArray = ls at hl ⊢
  have hl : lv_has ls 5 [(0, .ref zd), (1, .int a_a), (2, .int a_b), (3, .int a_c)] := hl
  refine W_nm (fun QQ hQQ => ?_)
  refine lv_iload_n hx hb dX5_enter_0 rfl (lv_at hl 1 rfl) ?_
  refine lv_istore (lv' := [(4, .int a_a), (0, .ref zd), (1, .int a_a), (2, .int a_b), (3, .int a_c)]) hx hb dX5_enter_1 hl (by decide) rfl (fun ls hl => ?_)
  have hloop_1 : ∀ (n_1 : Nat) (v4_1 : Int32) (zr_in_1 : Nat → Int32) , (a_b.toInt - v4_1.toInt).toNat < n_1 → f_X5_enter zv_spots zv_size zr_in zr_size a_a a_b a_c = f_X5_enter_L3 zv_spots zv_size zr_size a_b a_c n_1 v4_1 zr_in_1 → ∀ (H : Heap) (locs : List Loc), va_P (dC, dI) vwCl [(zd, .inr (5, [.ref zt, .ref zr, .ref zw, .ref zg, .ref zv, .ref zk])), (zv, .inr (4, [.ref azv_spots, .ref azv_homes, .int zv_size, .int zv_counts, .int zv_hides])), (azv_spots, .inl (cI, 240, .inl zv_spots)), (azv_homes, .inl (cI, 240, .inl zv_homes)), (zr, .inr (2, [.ref azr_sign, .ref azr_token, .ref azr_in, .ref azr_own, .ref azr_since, .int zr_size])), (azr_sign, .inl (cI, 240, .inl zr_sign)), (azr_token, .inl (cI, 240, .inl zr_token)), (azr_in, .inl (cI, 240, .inl zr_in_1)), (azr_own, .inl (cI, 240, .inl zr_own)), (azr_since, .inl (cI, 240, .inl zr_since))] H → va_D A [(zd, .inr (5, [.ref zt, .ref zr, .ref zw, .ref zg, .ref zv, .ref zk])), (zv, .inr (4, [.ref azv_spots, .ref azv_homes, .int zv_size, .int zv_counts, .int zv_hides])), (azv_spots, .inl (cI, 240, .inl zv_spots)), (azv_homes, .inl (cI, 240, .inl zv_homes)), (zr, .inr (2, [.ref azr_sign, .ref azr_token, .ref azr_in, .ref azr_own, .ref azr_since, .int zr_size])), (azr_sign, .inl (cI, 240, .inl zr_sign)), (azr_token, .inl (cI, 240, .inl zr_token)), (azr_in, .inl (cI, 240, .inl zr_in_1)), (azr_own, .inl (cI, 240, .inl zr_own)), (azr_since, .inl (cI, 240, .inl zr_since))] → va_S A s.heap H locs → ∀ ls : Array Slot, lv_has ls 5 [(0, .ref zd), (1, .int a_a), (2, .int a_b), (3, .int a_c), (4, .int v4_1)] → W p l e (headSpec wsX5_enter ({ frames := 2, cells := 0, slots := 0, locals := 43 } : Room)).room s m ([.ref zd, .int a_a, .int a_b, .int a_c] : List Value).toArray below meth c H locs 0 0 QQ (F0 m 3 ls []) := by
    intro n_1
    induction n_1 with
    | zero => intro v4_1 zr_in_1  hmu; exact absurd hmu (Nat.not_lt_zero _)
    | succ n_1 ih_1 =>
      intro v4_1 zr_in_1  hmu_1 hI_1 H locs hP hD hS ls hl
      have rb := ti_rng a_b
      have rx := ti_rng v4_1
      refine lv_iload hx hb dX5_enter_3 (lv_at hl 4 rfl) ?_
      refine lv_iload_n hx hb dX5_enter_5 rfl (lv_at hl 2 rfl) ?_
      refine lv_icmp_ge (tgt := 35) hx hb dX5_enter_6 (by decide) (fun c_2 => ?_) (fun c_2 => ?_)
      · have tc_2 : a_b.toInt ≤ v4_1.toInt := q_le c_2
        rw [hQQ]
        have hE : f_X5_enter zv_spots zv_size zr_in zr_size a_a a_b a_c = zr_in_1 := (hI_1.trans (by rw [f_X5_enter_L3, if_pos c_2]))
        exact W.vret hx hb hr (fun t ht hW => ⟨⟨(zr_in_1), rfl, by rw [hE], ⟨by rw [ht]; exact hP, hD⟩⟩, hS.F ht⟩) hS.2.2 dX5_enter_35
      · have tc_2 : v4_1.toInt < a_b.toInt := q_nle c_2
        refine lv_aload_n hx hb dX5_enter_9 rfl (lv_at hl 0 rfl) ?_
        refine va_get (D := (dC, dI)) (ci := 5) (v := .ref zr) (C := RX5) (T := TX5) (N := 6) hx hb hts in_X5_enter_X5 hown hK hP 0 rfl rfl 1 (by decide) (hts _ m_X5_enter_1) (fun _ h9 => h9) rfl dX5_enter_10 ?_
        refine lv_aload_n hx hb dX5_enter_13 rfl (lv_at hl 0 rfl) ?_
        refine va_get (D := (dC, dI)) (ci := 5) (v := .ref zv) (C := RX5) (T := TX5) (N := 6) hx hb hts in_X5_enter_X5 hown hK hP 0 rfl rfl 4 (by decide) (hts _ m_X5_enter_2) (fun _ h9 => h9) rfl dX5_enter_14 ?_
        refine lv_iload hx hb dX5_enter_17 (lv_at hl 4 rfl) ?_
        have hPc := hP.sub (ws' := [(zv, .inr (4, [.ref azv_spots, .ref azv_homes, .int zv_size, .int zv_counts, .int zv_hides])), (azv_spots, .inl (cI, 240, .inl zv_spots)), (azv_homes, .inl (cI, 240, .inl zv_homes))]) [1, 2, 3] rfl
        have hDc := hD.sub (ws' := [(zv, .inr (4, [.ref azv_spots, .ref azv_homes, .int zv_size, .int zv_counts, .int zv_hides])), (azv_spots, .inl (cI, 240, .inl zv_spots)), (azv_homes, .inl (cI, 240, .inl zv_homes))]) [1, 2, 3] (by decide) rfl
        refine va_calli (va_runV (As := [.int v4_1]) (rest := [.ref zr]) ⟨hx, hb, hml, hown, hts⟩ (c_X4_spotAt l dC dI cI cJ H.size zv azv_spots azv_homes zv_spots zv_homes zv_size zv_counts zv_hides v4_1) (cwV 1 hts gX5_enter_X4_spotAt rfl rfl rfl (by decide +kernel) ⟨Nat.le_of_ble_eq_true rfl, Nat.le_of_ble_eq_true rfl⟩) ⟨fun a U g mk q => ⟨q.1, PreW.call g mk a q.2⟩, va_recv hK hP (ci := 4) (q0 := 1) rfl rfl, fun U hU hW => ⟨rfl, PreW.mk2 hU hW hPc hK hN (hDc.weaken (fun _ _ _ _ => trivial))⟩⟩ rfl rfl hl.1 rfl (lv_room (Nat.le_of_ble_eq_true rfl)) dX5_enter_19 ⟨Nat.le_of_ble_eq_true rfl, Nat.le_of_ble_eq_true rfl⟩) hS (fun q hq h => absurd hq (Nat.not_lt.mpr h)) (fun q h => hA q (Nat.le_trans hS.1 h)) (fun r_3 _u t H1 locs ht hvm hw hB hz1 hk1 hS => ?_)
        have hP := va_ro hP hk1
        generalize H1 = H at hP hS ⊢
        have hw : r_3 = f_X4_spotAt zv_spots zv_size v4_1 := hw
        subst hw
        obtain ⟨z_4, hz_4⟩ : ∃ z : Int32, z = f_X4_spotAt zv_spots zv_size v4_1 := ⟨_, rfl⟩
        refine lv_iload_n hx hb dX5_enter_22 rfl (lv_at hl 3 rfl) ?_
        have hPc := hP.sub (ws' := []) [] rfl
        have hDc := hD.sub (ws' := []) [] (by decide) rfl
        refine va_calli (va_runS (As := [.int a_c]) (rest := [.int (f_X4_spotAt zv_spots zv_size v4_1), .ref zr]) ⟨hx, hb, hml, hown, hts⟩ (c_X5_bit l dC dI cI cJ H.size a_c) (va_cwS 1 hts gX5_enter_X5_bit rfl rfl rfl (by decide +kernel) ⟨Nat.le_of_ble_eq_true rfl, Nat.le_of_ble_eq_true rfl⟩) ⟨fun a U g mk q => ⟨q.1, PreW.call g mk a q.2⟩, fun U hU hW => ⟨rfl, PreW.mk2 hU hW hPc hK hN (hDc.weaken (fun _ _ _ _ => trivial))⟩⟩ rfl rfl hl.1 rfl (lv_room (Nat.le_of_ble_eq_true rfl)) dX5_enter_23 ⟨Nat.le_of_ble_eq_true rfl, Nat.le_of_ble_eq_true rfl⟩) hS (fun q hq h => absurd hq (Nat.not_lt.mpr h)) (fun q h => hA q (Nat.le_trans hS.1 h)) (fun r_5 _u t H1 locs ht hvm hw hB hz1 hk1 hS => ?_)
        have hP := va_ro hP hk1
        generalize H1 = H at hP hS ⊢
        have hw : r_5 = f_X5_bit a_c := hw
        subst hw
        obtain ⟨z_6, hz_6⟩ : ∃ z : Int32, z = f_X5_bit a_c := ⟨_, rfl⟩
        have hPc := hP.sub (ws' := [(zr, .inr (2, [.ref azr_sign, .ref azr_token, .ref azr_in, .ref azr_own, .ref azr_since, .int zr_size])), (azr_sign, .inl (cI, 240, .inl zr_sign)), (azr_token, .inl (cI, 240, .inl zr_token)), (azr_in, .inl (cI, 240, .inl zr_in_1)), (azr_own, .inl (cI, 240, .inl zr_own)), (azr_since, .inl (cI, 240, .inl zr_since))]) [4, 5, 6, 7, 8, 9] rfl
        have hDc := hD.sub (ws' := [(zr, .inr (2, [.ref azr_sign, .ref azr_token, .ref azr_in, .ref azr_own, .ref azr_since, .int zr_size])), (azr_sign, .inl (cI, 240, .inl zr_sign)), (azr_token, .inl (cI, 240, .inl zr_token)), (azr_in, .inl (cI, 240, .inl zr_in_1)), (azr_own, .inl (cI, 240, .inl zr_own)), (azr_since, .inl (cI, 240, .inl zr_since))]) [4, 5, 6, 7, 8, 9] (by decide) rfl
        have hFc := va_free (wc := [(zr, .inr (2, [.ref azr_sign, .ref azr_token, .ref azr_in, .ref azr_own, .ref azr_since, .int zr_size])), (azr_sign, .inl (cI, 240, .inl zr_sign)), (azr_token, .inl (cI, 240, .inl zr_token)), (azr_in, .inl (cI, 240, .inl zr_in_1)), (azr_own, .inl (cI, 240, .inl zr_own)), (azr_since, .inl (cI, 240, .inl zr_since))]) hD hS hA [4, 5, 6, 7, 8, 9] rfl
        refine va_callv (va_runV (As := [.int (f_X4_spotAt zv_spots zv_size v4_1), .int (f_X5_bit a_c)]) (rest := []) ⟨hx, hb, hml, hown, hts⟩ (c_X2_enter l dC dI cI cJ H.size zr azr_sign azr_token azr_in azr_own azr_since zr_sign zr_token zr_in_1 zr_own zr_since zr_size (f_X4_spotAt zv_spots zv_size v4_1) (f_X5_bit a_c)) (cwV 2 hts gX5_enter_X2_enter rfl rfl rfl (by decide +kernel) ⟨Nat.le_of_ble_eq_true rfl, Nat.le_of_ble_eq_true rfl⟩) ⟨fun a U g mk q => ⟨q.1, PreW.call g mk a q.2⟩, va_recv hK hP (ci := 2) (q0 := 4) rfl rfl, fun U hU hW => ⟨rfl, PreW.mk2 hU hW hPc hK hN (hDc.weaken (fun _ _ _ _ => trivial))⟩⟩ rfl rfl hl.1 rfl (lv_room (Nat.le_of_ble_eq_true rfl)) dX5_enter_26 ⟨Nat.le_of_ble_eq_true rfl, Nat.le_of_ble_eq_true rfl⟩) hS (fun q _ h => hFc q h) hFc (fun u_7 t H1 locs ht hvm hw hB hz1 hk1 hS => ?_)
        obtain ⟨hB1, hB2⟩ : PostW dC dI [(zr, .inr (2, [.ref azr_sign, .ref azr_token, .ref azr_in, .ref azr_own, .ref azr_since, .int zr_size])), (azr_sign, .inl (cI, 240, .inl zr_sign)), (azr_token, .inl (cI, 240, .inl zr_token)), (azr_in, .inl (cI, 240, .inl u_7)), (azr_own, .inl (cI, 240, .inl zr_own)), (azr_since, .inl (cI, 240, .inl zr_since))] t _ := hB
        rw [ht] at hB1
        obtain ⟨hP, hD⟩ := va_join (wr := [(zd, .inr (5, [.ref zt, .ref zr, .ref zw, .ref zg, .ref zv, .ref zk])), (zv, .inr (4, [.ref azv_spots, .ref azv_homes, .int zv_size, .int zv_counts, .int zv_hides])), (azv_spots, .inl (cI, 240, .inl zv_spots)), (azv_homes, .inl (cI, 240, .inl zv_homes))]) (w1 := [(zr, .inr (2, [.ref azr_sign, .ref azr_token, .ref azr_in, .ref azr_own, .ref azr_since, .int zr_size])), (azr_sign, .inl (cI, 240, .inl zr_sign)), (azr_token, .inl (cI, 240, .inl zr_token)), (azr_in, .inl (cI, 240, .inl u_7)), (azr_own, .inl (cI, 240, .inl zr_own)), (azr_since, .inl (cI, 240, .inl zr_since))]) hP hD [4, 5, 6, 7, 8, 9] [0, 1, 2, 3] rfl rfl (by decide) (by decide) hk1 hFc hB1 hB2
        generalize H1 = H at hP hS ⊢
        have hP : va_P (dC, dI) vwCl [(zd, .inr (5, [.ref zt, .ref zr, .ref zw, .ref zg, .ref zv, .ref zk])), (zv, .inr (4, [.ref azv_spots, .ref azv_homes, .int zv_size, .int zv_counts, .int zv_hides])), (azv_spots, .inl (cI, 240, .inl zv_spots)), (azv_homes, .inl (cI, 240, .inl zv_homes)), (zr, .inr (2, [.ref azr_sign, .ref azr_token, .ref azr_in, .ref azr_own, .ref azr_since, .int zr_size])), (azr_sign, .inl (cI, 240, .inl zr_sign)), (azr_token, .inl (cI, 240, .inl zr_token)), (azr_in, .inl (cI, 240, .inl u_7)), (azr_own, .inl (cI, 240, .inl zr_own)), (azr_since, .inl (cI, 240, .inl zr_since))] H := hP
        have hD : va_D A [(zd, .inr (5, [.ref zt, .ref zr, .ref zw, .ref zg, .ref zv, .ref zk])), (zv, .inr (4, [.ref azv_spots, .ref azv_homes, .int zv_size, .int zv_counts, .int zv_hides])), (azv_spots, .inl (cI, 240, .inl zv_spots)), (azv_homes, .inl (cI, 240, .inl zv_homes)), (zr, .inr (2, [.ref azr_sign, .ref azr_token, .ref azr_in, .ref azr_own, .ref azr_since, .int zr_size])), (azr_sign, .inl (cI, 240, .inl zr_sign)), (azr_token, .inl (cI, 240, .inl zr_token)), (azr_in, .inl (cI, 240, .inl u_7)), (azr_own, .inl (cI, 240, .inl zr_own)), (azr_since, .inl (cI, 240, .inl zr_since))] := hD
        have hw2 : u_7 = f_X2_enter zr_in_1 zr_size (f_X4_spotAt zv_spots zv_size v4_1) (f_X5_bit a_c) := hw
        have hI8 : f_X5_enter zv_spots zv_size zr_in zr_size a_a a_b a_c = f_X5_enter_k29_u_7 v4_1 (f_X5_enter_L3 zv_spots zv_size zr_size a_b a_c n_1) u_7 := (hI_1.trans (by rw [hw2]; rw [f_X5_enter_L3, if_neg c_2]))
        refine lv_iinc (v := (v4_1 + (1 : Int32))) (lv' := [(4, .int (v4_1 + (1 : Int32))), (0, .ref zd), (1, .int a_a), (2, .int a_b), (3, .int a_c)]) hx hb dX5_enter_29 hl (k := 4) rfl rfl (by decide) rfl (fun ls hl => ?_)
        obtain ⟨z_9, hz_9⟩ : ∃ z : Int32, z = (v4_1 + (1 : Int32)) := ⟨_, rfl⟩
        try have gz_9 : z_9.toInt = v4_1.toInt + (1 : Int) := by rw [hz_9]; exact ti_add2 rfl rfl (by omega) (by omega)
        refine lv_goto (tgt := 3) hx hb dX5_enter_32 (by decide) ?_
        exact ih_1 (v4_1 + (1 : Int32)) u_7 (by rw [← hz_9]; omega) (hI8.trans (by rw [f_X5_enter_k29_u_7])) _ _ hP hD hS ls (lv_sub hl [1, 2, 3, 4, 0] rfl)
  have rb := ti_rng a_b
  have rx := ti_rng a_a
  exact hloop_1 5000000000 a_a zr_in (by first | omega | exact (show (a_b.toInt - a_a.toInt).toNat < 5000000000 by omega)) (by rw [f_X5_enter]) _ _ hP hD hS ls (lv_sub hl [1, 2, 3, 4, 0] rfl)
