theorem dL_cell_0 : decode cL_cell 0 = .ok (.iload_n 1, 1) := by decide +kernel
theorem dL_cell_1 : decode cL_cell 1 = .ok (.aload_n 0, 1) := by decide +kernel
theorem dL_cell_2 : decode cL_cell 2 = .ok (.arraylength, 1) := by decide +kernel
theorem dL_cell_3 : decode cL_cell 3 = .ok (.if_icmp .ge 9, 3) := by decide +kernel
theorem dL_cell_12 : decode cL_cell 12 = .ok (.ldc 7, 2) := by decide +kernel
theorem m_L_cell_1 : (.constant RL 7 (625341585) : Cond) ∈ wsL_cell := List.mem_of_getElem? (i := 1) (by decide +kernel)
theorem dL_cell_14 : decode cL_cell 14 = .ok (.iload_n 1, 1) := by decide +kernel
theorem dL_cell_15 : decode cL_cell 15 = .ok (.iconst 3, 1) := by decide +kernel
theorem dL_cell_16 : decode cL_cell 16 = .ok (.iadd, 1) := by decide +kernel
theorem dL_cell_17 : decode cL_cell 17 = .ok (.imul, 1) := by decide +kernel
theorem dL_cell_18 : decode cL_cell 18 = .ok (.ireturn, 1) := by decide +kernel
theorem dL_cell_6 : decode cL_cell 6 = .ok (.aload_n 0, 1) := by decide +kernel
theorem dL_cell_7 : decode cL_cell 7 = .ok (.iload_n 1, 1) := by decide +kernel
theorem dL_cell_8 : decode cL_cell 8 = .ok (.iaload, 1) := by decide +kernel
theorem dL_cell_9 : decode cL_cell 9 = .ok (.goto 9, 3) := by decide +kernel
def f_L_cell (L : Nat) (xs : Nat → Int32) (a_k : Int32) : Int32 := if (Int32.ofNat L) ≤ a_k then ((625341585 : Int32) * (a_k + (3 : Int32))) else (xs (a_k).toNatClampNeg)
set_option maxHeartbeats 4000000 in
set_option maxRecDepth 100000 in
theorem c_L_cell (b L : Nat) (xs : Nat → Int32) (l : Launch) (dC : Nat → ClassId) (dI : Nat → Nat → Nat) (cI cJ : ClassId) (sz : Nat) (a_k : Int32) (hL : L ≤ 260) (hk : 0 ≤ a_k.toInt) : Met l yL_cell wsL_cell ({ frames := 0, cells := 0, slots := 0, locals := 0 } : Room) (va_Pc [.ref b, .int a_k] (PreX dC dI cI cJ b L xs sz [])) (va_Qi (fun (r : Int32) (_ : Unit) => r = f_L_cell L xs a_k) (fun (_ : Unit) _ => True) (fun q => sz ≤ q)) 0 0 (fun q => sz ≤ q) := by
  refine Met.ofW (cc := cL_cell) (maxL := 2) (ret := (some .int)) (by decide) rfl ?_
  intro p e s m args below meth c s₁ B hml hv
  obtain ⟨rfl, ⟨hsz, hP, hK, hN, hD0⟩, hX, hbl, hDb⟩ := hv
  have hx := B.exec
  have hb := B.bytes
  have hr := B.returns
  have hts := atoms_spec (ws := wsL_cell) B.pre
  have hown : s.vm.findClass RL = some m.cls := findClass_of_methodNamed B.named
  have hlocks := B.notSynchronized
  subst hsz
  have hD := hD0
  generalize hAe : (fun q => s.heap.size ≤ q) = A
  have hA : ∀ q : Nat, s.heap.size ≤ q → A q := fun q h => by rw [← hAe]; exact h
  have hbA : ¬ A b := by rw [← hAe]; exact Nat.not_le.mpr hbl
  have hS : va_S A s.heap s.heap [] := va_S.rf
  have hP : va_P (dC, dI) vwCl [] s.heap := hP
  have hl := lv_entry ([.ref b, .int a_k]) (n := 2) (Nat.le_of_ble_eq_true rfl)
  rw [lg_entry_eq]
  generalize (lg_sl ([.ref b, .int a_k]) ++ List.replicate (2 - (lg_sl ([.ref b, .int a_k])).length) Slot.unset).toArray = ls at hl ⊢
  have hl : lv_has ls 2 [(0, .ref b), (1, .int a_k)] := hl
  refine lv_iload_n hx hb dL_cell_0 rfl (lv_at hl 1 rfl) ?_
  refine lv_aload_n hx hb dL_cell_1 rfl (lv_at hl 0 rfl) ?_
  refine va_slen hx hb hX hbl hbA hS dL_cell_2 ?_
  refine lv_icmp_ge (tgt := 12) hx hb dL_cell_3 (by decide) (fun c_1 => ?_) (fun c_1 => ?_)
  · refine lv_ldc (v := (625341585 : Int32)) hx hb hown (hts _ m_L_cell_1) dL_cell_12 ?_
    refine lv_iload_n hx hb dL_cell_14 rfl (lv_at hl 1 rfl) ?_
    refine lv_iconst (v := (3 : Int32)) hx hb dL_cell_15 (by decide) ?_
    refine lv_iadd hx hb dL_cell_16 ?_
    refine lv_imul hx hb dL_cell_17 ?_
    have hE : f_L_cell L xs a_k = ((625341585 : Int32) * (a_k + (3 : Int32))) := (by rw [f_L_cell, if_pos c_1])
    exact W.iret (v := ((625341585 : Int32) * (a_k + (3 : Int32)))) hx hb hr (fun t ht hW => ⟨⟨((625341585 : Int32) * (a_k + (3 : Int32))), (), rfl, by rw [hE], trivial⟩, hS.F ht⟩) hS.2.2 dL_cell_18
  · have hk2 : a_k.toInt < (L : Int) := by have t := q_nle c_1; rw [on_i L (by omega)] at t; exact t
    refine lv_aload_n hx hb dL_cell_6 rfl (lv_at hl 0 rfl) ?_
    refine lv_iload_n hx hb dL_cell_7 rfl (lv_at hl 1 rfl) ?_
    refine va_sld hx hb hX hbl hbA hS (vp_in_iff.mpr ⟨by omega, by omega⟩) dL_cell_8 ?_
    refine lv_goto (tgt := 18) hx hb dL_cell_9 (by decide) ?_
    have hE : f_L_cell L xs a_k = (xs (a_k).toNatClampNeg) := (by rw [f_L_cell, if_neg c_1])
    exact W.iret (v := (xs (a_k).toNatClampNeg)) hx hb hr (fun t ht hW => ⟨⟨(xs (a_k).toNatClampNeg), (), rfl, by rw [hE], trivial⟩, hS.F ht⟩) hS.2.2 dL_cell_18
theorem dL_some_0 : decode cL_some 0 = .ok (.iload_n 0, 1) := by decide +kernel
theorem dL_some_1 : decode cL_some 1 = .ok (.ldc 8, 2) := by decide +kernel
theorem m_L_some_1 : (.constant RL 8 (2147483647) : Cond) ∈ wsL_some := List.mem_of_getElem? (i := 1) (by decide +kernel)
theorem dL_some_3 : decode cL_some 3 = .ok (.iand, 1) := by decide +kernel
theorem dL_some_4 : decode cL_some 4 = .ok (.iload_n 1, 1) := by decide +kernel
theorem dL_some_5 : decode cL_some 5 = .ok (.irem, 1) := by decide +kernel
theorem dL_some_6 : decode cL_some 6 = .ok (.ireturn, 1) := by decide +kernel
def f_L_some (a_v : Int32) (a_n : Int32) : Int32 := ((a_v &&& (2147483647 : Int32)) - (a_v &&& (2147483647 : Int32)) / a_n * a_n)
set_option maxHeartbeats 4000000 in
set_option maxRecDepth 100000 in
theorem c_L_some (l : Launch) (dC : Nat → ClassId) (dI : Nat → Nat → Nat) (cI cJ : ClassId) (sz : Nat) (a_v : Int32) (a_n : Int32) (hn : ¬ a_n = 0) : Met l yL_some wsL_some ({ frames := 0, cells := 0, slots := 0, locals := 0 } : Room) (va_Pc [.int a_v, .int a_n] (PreW dC dI cI cJ sz [])) (va_Qi (fun (r : Int32) (_ : Unit) => r = f_L_some a_v a_n) (fun (_ : Unit) _ => True) (fun q => sz ≤ q)) 0 0 (fun q => sz ≤ q) := by
  refine Met.ofW (cc := cL_some) (maxL := 2) (ret := (some .int)) (by decide) rfl ?_
  intro p e s m args below meth c s₁ B hml hv
  obtain ⟨rfl, hsz, hP, hK, hN, hD0⟩ := hv
  have hx := B.exec
  have hb := B.bytes
  have hr := B.returns
  have hts := atoms_spec (ws := wsL_some) B.pre
  have hown : s.vm.findClass RL = some m.cls := findClass_of_methodNamed B.named
  have hlocks := B.notSynchronized
  subst hsz
  have hD := hD0
  generalize hAe : (fun q => s.heap.size ≤ q) = A
  have hA : ∀ q : Nat, s.heap.size ≤ q → A q := fun q h => by rw [← hAe]; exact h
  have hS : va_S A s.heap s.heap [] := va_S.rf
  have hP : va_P (dC, dI) vwCl [] s.heap := hP
  have hl := lv_entry ([.int a_v, .int a_n]) (n := 2) (Nat.le_of_ble_eq_true rfl)
  rw [lg_entry_eq]
  generalize (lg_sl ([.int a_v, .int a_n]) ++ List.replicate (2 - (lg_sl ([.int a_v, .int a_n])).length) Slot.unset).toArray = ls at hl ⊢
  have hl : lv_has ls 2 [(0, .int a_v), (1, .int a_n)] := hl
  refine lv_iload_n hx hb dL_some_0 rfl (lv_at hl 0 rfl) ?_
  refine lv_ldc (v := (2147483647 : Int32)) hx hb hown (hts _ m_L_some_1) dL_some_1 ?_
  refine lv_iand hx hb dL_some_3 ?_
  refine lv_iload_n hx hb dL_some_4 rfl (lv_at hl 1 rfl) ?_
  refine lv_irem hx hb dL_some_5 hn ?_
  have hE : f_L_some a_v a_n = ((a_v &&& (2147483647 : Int32)) - (a_v &&& (2147483647 : Int32)) / a_n * a_n) := (by rw [f_L_some])
  exact W.iret (v := ((a_v &&& (2147483647 : Int32)) - (a_v &&& (2147483647 : Int32)) / a_n * a_n)) hx hb hr (fun t ht hW => ⟨⟨((a_v &&& (2147483647 : Int32)) - (a_v &&& (2147483647 : Int32)) / a_n * a_n), (), rfl, by rw [hE], trivial⟩, hS.F ht⟩) hS.2.2 dL_some_6
theorem dL_say_0 : decode cL_say 0 = .ok (.aload_n 0, 1) := by decide +kernel
theorem dL_say_1 : decode cL_say 1 = .ok (.ldc2_w 9, 3) := by decide +kernel
theorem m_L_say_1 : (.constantLong RL 9 (97) : Cond) ∈ wsL_say := List.mem_of_getElem? (i := 1) (by decide +kernel)
theorem dL_say_4 : decode cL_say 4 = .ok (.iload_n 1, 1) := by decide +kernel
theorem dL_say_5 : decode cL_say 5 = .ok (.iconst 5, 1) := by decide +kernel
theorem dL_say_6 : decode cL_say 6 = .ok (.invokestatic 11, 3) := by decide +kernel
set_option maxRecDepth 20000 in
theorem ggL_say_L_some : GoodIn wsL_say wsL_some := goodIn_r _ [5, 6] (by decide +kernel) (by decide +kernel)
set_option maxRecDepth 20000 in
theorem gL_say_L_some : GoodIn wsL_say (va_wsS RL 11 yL_some wsL_some) := goodIn_app (goodIn_of _ (by decide +kernel)) ggL_say_L_some
theorem dL_say_9 : decode cL_say 9 = .ok (.i2l, 1) := by decide +kernel
theorem dL_say_10 : decode cL_say 10 = .ok (.ladd, 1) := by decide +kernel
theorem dL_say_11 : decode cL_say 11 = .ok (.iconst 1, 1) := by decide +kernel
theorem dL_say_12 : decode cL_say 12 = .ok (.invokevirtual 17, 3) := by decide +kernel
set_option maxRecDepth 20000 in
theorem ggL_say_X5_type : GoodIn wsL_say wsX5_type := goodIn_r _ [11, 12, 13, 14, 15, 10, 16, 17, 18, 19, 20, 21, 22, 23, 24, 25, 26, 27, 28, 29, 30, 31, 32, 33, 34, 35] (by decide +kernel) (by decide +kernel)
set_option maxRecDepth 20000 in
theorem gL_say_X5_type : GoodIn wsL_say (wsV RL 17 RX5 yX5_type wsX5_type) := goodIn_app (goodIn_of _ (by decide +kernel)) ggL_say_X5_type
theorem dL_say_15 : decode cL_say 15 = .ok (.ifCond .le 7, 3) := by decide +kernel
theorem dL_say_22 : decode cL_say 22 = .ok (.iconst 0, 1) := by decide +kernel
theorem dL_say_23 : decode cL_say 23 = .ok (.ireturn, 1) := by decide +kernel
theorem dL_say_18 : decode cL_say 18 = .ok (.iconst 1, 1) := by decide +kernel
theorem dL_say_19 : decode cL_say 19 = .ok (.goto 4, 3) := by decide +kernel
def f_L_say_k15_u_4 (zt_bytes : Nat → Int32) (zt_size : Int32) (a_c : Int32) (u_4 : (Nat → Int32) × Int32) : Int32 × (Nat → Int32) × Int32 := if (f_X5_type zt_bytes zt_size ((97 : Int64) + ((f_L_some a_c (5 : Int32)).toInt64)) (1 : Int32)).1 ≤ (0 : Int32) then ((0 : Int32), u_4.1, u_4.2) else ((1 : Int32), u_4.1, u_4.2)
def f_L_say (zt_bytes : Nat → Int32) (zt_size : Int32) (a_c : Int32) : Int32 × (Nat → Int32) × Int32 := f_L_say_k15_u_4 zt_bytes zt_size a_c ((f_X5_type zt_bytes zt_size ((97 : Int64) + ((f_L_some a_c (5 : Int32)).toInt64)) (1 : Int32)).2)
set_option maxHeartbeats 4000000 in
set_option maxRecDepth 100000 in
theorem c_L_say (l : Launch) (dC : Nat → ClassId) (dI : Nat → Nat → Nat) (cI cJ : ClassId) (sz : Nat) (zd zt azt_bytes zr zw zg zv zk : Nat) (zt_bytes : Nat → Int32) (zt_size : Int32) (a_c : Int32) : Met l yL_say wsL_say ({ frames := 3, cells := 0, slots := 0, locals := 70 } : Room) (va_Pc [.ref zd, .int a_c] (PreW dC dI cI cJ sz [(zd, .inr (5, [.ref zt, .ref zr, .ref zw, .ref zg, .ref zv, .ref zk])), (zt, .inr (3, [.ref azt_bytes, .int zt_size])), (azt_bytes, .inl (cI, 120, .inl zt_bytes))])) (va_Qi (fun (r : Int32) (u : (Nat → Int32) × Int32) => r = (f_L_say zt_bytes zt_size a_c).1 ∧ u = (f_L_say zt_bytes zt_size a_c).2) (fun (u : (Nat → Int32) × Int32) t => PostW dC dI [(zd, .inr (5, [.ref zt, .ref zr, .ref zw, .ref zg, .ref zv, .ref zk])), (zt, .inr (3, [.ref azt_bytes, .int u.2])), (azt_bytes, .inl (cI, 120, .inl u.1))] t (va_A [(zd, .inr (5, [.ref zt, .ref zr, .ref zw, .ref zg, .ref zv, .ref zk])), (zt, .inr (3, [.ref azt_bytes, .int zt_size])), (azt_bytes, .inl (cI, 120, .inl zt_bytes))] sz)) (va_A [(zd, .inr (5, [.ref zt, .ref zr, .ref zw, .ref zg, .ref zv, .ref zk])), (zt, .inr (3, [.ref azt_bytes, .int zt_size])), (azt_bytes, .inl (cI, 120, .inl zt_bytes))] sz)) 0 0 (va_A [(zd, .inr (5, [.ref zt, .ref zr, .ref zw, .ref zg, .ref zv, .ref zk])), (zt, .inr (3, [.ref azt_bytes, .int zt_size])), (azt_bytes, .inl (cI, 120, .inl zt_bytes))] sz) := by
  refine Met.ofW (cc := cL_say) (maxL := 2) (ret := (some .boolean)) (by decide) rfl ?_
  intro p e s m args below meth c s₁ B hml hv
  obtain ⟨rfl, hsz, hP, hK, hN, hD0⟩ := hv
  have hx := B.exec
  have hb := B.bytes
  have hr := B.returns
  have hts := atoms_spec (ws := wsL_say) B.pre
  have hown : s.vm.findClass RL = some m.cls := findClass_of_methodNamed B.named
  have hlocks := B.notSynchronized
  subst hsz
  have hD := hD0.self (sz := s.heap.size)
  generalize hAe : va_A [(zd, .inr (5, [.ref zt, .ref zr, .ref zw, .ref zg, .ref zv, .ref zk])), (zt, .inr (3, [.ref azt_bytes, .int zt_size])), (azt_bytes, .inl (cI, 120, .inl zt_bytes))] s.heap.size = A at hD ⊢
  have hA : ∀ q : Nat, s.heap.size ≤ q → A q := fun q h => by rw [← hAe]; exact Or.inr h
  have hS : va_S A s.heap s.heap [] := va_S.rf
  have hP : va_P (dC, dI) vwCl [(zd, .inr (5, [.ref zt, .ref zr, .ref zw, .ref zg, .ref zv, .ref zk])), (zt, .inr (3, [.ref azt_bytes, .int zt_size])), (azt_bytes, .inl (cI, 120, .inl zt_bytes))] s.heap := hP
  have hl := lv_entry ([.ref zd, .int a_c]) (n := 2) (Nat.le_of_ble_eq_true rfl)
  rw [lg_entry_eq]
  generalize (lg_sl ([.ref zd, .int a_c]) ++ List.replicate (2 - (lg_sl ([.ref zd, .int a_c])).length) Slot.unset).toArray = ls at hl ⊢
  have hl : lv_has ls 2 [(0, .ref zd), (1, .int a_c)] := hl
  refine lv_aload_n hx hb dL_say_0 rfl (lv_at hl 0 rfl) ?_
  refine lv_ldc2 (v := (97 : Int64)) hx hb hown (hts _ m_L_say_1) dL_say_1 ?_
  refine lv_iload_n hx hb dL_say_4 rfl (lv_at hl 1 rfl) ?_
  refine lv_iconst (v := (5 : Int32)) hx hb dL_say_5 (by decide) ?_
  have hPc := hP.sub (ws' := []) [] rfl
  have hDc := hD.sub (ws' := []) [] (by decide) rfl
  refine va_calli (va_runS (As := [.int a_c, .int (5 : Int32)]) (rest := [.long (97 : Int64), .ref zd]) ⟨hx, hb, hml, hown, hts⟩ (c_L_some l dC dI cI cJ s.heap.size a_c (5 : Int32) (by first | omega | decide | assumption)) (va_cwS 2 hts gL_say_L_some rfl rfl rfl (by decide +kernel) ⟨Nat.le_of_ble_eq_true rfl, Nat.le_of_ble_eq_true rfl⟩) ⟨fun a U g mk q => ⟨q.1, PreW.call g mk a q.2⟩, fun U hU hW => ⟨rfl, PreW.mk2 hU hW hPc hK hN (hDc.weaken (fun _ _ _ _ => trivial))⟩⟩ rfl rfl hl.1 rfl (lv_room (Nat.le_of_ble_eq_true rfl)) dL_say_6 ⟨Nat.le_of_ble_eq_true rfl, Nat.le_of_ble_eq_true rfl⟩) hS (fun q hq h => absurd hq (Nat.not_lt.mpr h)) (fun q h => hA q (Nat.le_trans hS.1 h)) (fun r_1 _u t H1 locs ht hvm hw hB hz1 hk1 hS => ?_)
  have hP := va_ro hP hk1
  generalize H1 = H at hP hS ⊢
  have hw : r_1 = f_L_some a_c (5 : Int32) := hw
  subst hw
  obtain ⟨z_2, hz_2⟩ : ∃ z : Int32, z = f_L_some a_c (5 : Int32) := ⟨_, rfl⟩
  refine lv_i2l (v := ((f_L_some a_c (5 : Int32)).toInt64)) hx hb dL_say_9 rfl ?_
  refine lv_ladd hx hb dL_say_10 ?_
  refine lv_iconst (v := (1 : Int32)) hx hb dL_say_11 (by decide) ?_
  have hPc := hP.sub (ws' := [(zd, .inr (5, [.ref zt, .ref zr, .ref zw, .ref zg, .ref zv, .ref zk])), (zt, .inr (3, [.ref azt_bytes, .int zt_size])), (azt_bytes, .inl (cI, 120, .inl zt_bytes))]) [0, 1, 2] rfl
  have hDc := hD.sub (ws' := [(zd, .inr (5, [.ref zt, .ref zr, .ref zw, .ref zg, .ref zv, .ref zk])), (zt, .inr (3, [.ref azt_bytes, .int zt_size])), (azt_bytes, .inl (cI, 120, .inl zt_bytes))]) [0, 1, 2] (by decide) rfl
  have hFc := va_free (wc := [(zd, .inr (5, [.ref zt, .ref zr, .ref zw, .ref zg, .ref zv, .ref zk])), (zt, .inr (3, [.ref azt_bytes, .int zt_size])), (azt_bytes, .inl (cI, 120, .inl zt_bytes))]) hD hS hA [0, 1, 2] rfl
  refine va_calli (va_runV (As := [.long ((97 : Int64) + ((f_L_some a_c (5 : Int32)).toInt64)), .int (1 : Int32)]) (rest := []) ⟨hx, hb, hml, hown, hts⟩ (c_X5_type l dC dI cI cJ H.size zd zt azt_bytes zr zw zg zv zk zt_bytes zt_size ((97 : Int64) + ((f_L_some a_c (5 : Int32)).toInt64)) (1 : Int32)) (cwV 2 hts gL_say_X5_type rfl rfl rfl (by decide +kernel) ⟨Nat.le_of_ble_eq_true rfl, Nat.le_of_ble_eq_true rfl⟩) ⟨fun a U g mk q => ⟨q.1, PreW.call g mk a q.2⟩, va_recv hK hP (ci := 5) (q0 := 0) rfl rfl, fun U hU hW => ⟨rfl, PreW.mk2 hU hW hPc hK hN (hDc.weaken (fun _ _ _ _ => trivial))⟩⟩ rfl rfl hl.1 rfl (lv_room (Nat.le_of_ble_eq_true rfl)) dL_say_12 ⟨Nat.le_of_ble_eq_true rfl, Nat.le_of_ble_eq_true rfl⟩) hS (fun q _ h => hFc q h) hFc (fun r_3 u_4 t H1 locs ht hvm hw hB hz1 hk1 hS => ?_)
  obtain ⟨hB1, hB2⟩ : PostW dC dI [(zd, .inr (5, [.ref zt, .ref zr, .ref zw, .ref zg, .ref zv, .ref zk])), (zt, .inr (3, [.ref azt_bytes, .int u_4.2])), (azt_bytes, .inl (cI, 120, .inl u_4.1))] t _ := hB
  rw [ht] at hB1
  obtain ⟨hP, hD⟩ := va_join (wr := []) (w1 := [(zd, .inr (5, [.ref zt, .ref zr, .ref zw, .ref zg, .ref zv, .ref zk])), (zt, .inr (3, [.ref azt_bytes, .int u_4.2])), (azt_bytes, .inl (cI, 120, .inl u_4.1))]) hP hD [0, 1, 2] [] rfl rfl (by decide) (by decide) hk1 hFc hB1 hB2
  generalize H1 = H at hP hS ⊢
  have hP : va_P (dC, dI) vwCl [(zd, .inr (5, [.ref zt, .ref zr, .ref zw, .ref zg, .ref zv, .ref zk])), (zt, .inr (3, [.ref azt_bytes, .int u_4.2])), (azt_bytes, .inl (cI, 120, .inl u_4.1))] H := hP
  have hD : va_D A [(zd, .inr (5, [.ref zt, .ref zr, .ref zw, .ref zg, .ref zv, .ref zk])), (zt, .inr (3, [.ref azt_bytes, .int u_4.2])), (azt_bytes, .inl (cI, 120, .inl u_4.1))] := hD
  have hw1 : r_3 = (f_X5_type zt_bytes zt_size ((97 : Int64) + ((f_L_some a_c (5 : Int32)).toInt64)) (1 : Int32)).1 := hw.1
  have hw2 : u_4 = (f_X5_type zt_bytes zt_size ((97 : Int64) + ((f_L_some a_c (5 : Int32)).toInt64)) (1 : Int32)).2 := hw.2
  subst hw1
  have hI5 : f_L_say zt_bytes zt_size a_c = f_L_say_k15_u_4 zt_bytes zt_size a_c u_4 := (by rw [hw2]; rw [f_L_say])
  refine lv_if_le (tgt := 22) hx hb dL_say_15 (by decide) (fun c_6 => ?_) (fun c_6 => ?_)
  · refine lv_iconst (v := (0 : Int32)) hx hb dL_say_22 (by decide) ?_
    have hE : f_L_say zt_bytes zt_size a_c = ((0 : Int32), u_4.1, u_4.2) := (hI5.trans (by rw [f_L_say_k15_u_4, if_pos c_6]))
    exact W.zret (v := (0 : Int32)) hx hb hr (by decide) (fun t ht hW => ⟨⟨(0 : Int32), (u_4.1, u_4.2), rfl, ⟨by rw [hE], by rw [hE]⟩, ⟨by rw [ht]; exact hP, hD⟩⟩, hS.F ht⟩) hS.2.2 dL_say_23
  · refine lv_iconst (v := (1 : Int32)) hx hb dL_say_18 (by decide) ?_
    refine lv_goto (tgt := 23) hx hb dL_say_19 (by decide) ?_
    have hE : f_L_say zt_bytes zt_size a_c = ((1 : Int32), u_4.1, u_4.2) := (hI5.trans (by rw [f_L_say_k15_u_4, if_neg c_6]))
    exact W.zret (v := (1 : Int32)) hx hb hr (by decide) (fun t ht hW => ⟨⟨(1 : Int32), (u_4.1, u_4.2), rfl, ⟨by rw [hE], by rw [hE]⟩, ⟨by rw [ht]; exact hP, hD⟩⟩, hS.F ht⟩) hS.2.2 dL_say_23
theorem dL_begin_0 : decode cL_begin 0 = .ok (.iconst 0, 1) := by decide +kernel
theorem dL_begin_1 : decode cL_begin 1 = .ok (.istore 5, 2) := by decide +kernel
theorem dL_begin_3 : decode cL_begin 3 = .ok (.iload 5, 2) := by decide +kernel
theorem dL_begin_5 : decode cL_begin 5 = .ok (.iload_n 3, 1) := by decide +kernel
theorem dL_begin_6 : decode cL_begin 6 = .ok (.if_icmp .ge 46, 3) := by decide +kernel
theorem dL_begin_52 : decode cL_begin 52 = .ok (.aload_n 0, 1) := by decide +kernel
theorem dL_begin_53 : decode cL_begin 53 = .ok (.invokevirtual 31, 3) := by decide +kernel
set_option maxRecDepth 20000 in
theorem ggL_begin_X5_begin : GoodIn wsL_begin wsX5_begin := goodIn_r _ [38, 39, 40, 41, 42, 19, 20, 43, 44, 45, 46, 47, 48, 49, 50, 51, 52, 53, 54, 55, 56, 57, 58, 59, 60, 61, 62, 63, 64, 65, 66, 67, 68, 31, 69, 33, 34, 70, 71, 72, 73, 74, 75, 76, 77, 78, 79, 80, 81, 82, 83, 86, 87, 88, 89, 90, 91, 92, 93, 94, 95, 96, 84, 85] (by decide +kernel) (by decide +kernel)
set_option maxRecDepth 20000 in
theorem gL_begin_X5_begin : GoodIn wsL_begin (wsV RL 31 RX5 yX5_begin wsX5_begin) := goodIn_app (goodIn_of _ (by decide +kernel)) ggL_begin_X5_begin
theorem dL_begin_56 : decode cL_begin 56 = .ok (.iload_n 3, 1) := by decide +kernel
theorem dL_begin_57 : decode cL_begin 57 = .ok (.if_icmp .ne 7, 3) := by decide +kernel
theorem dL_begin_64 : decode cL_begin 64 = .ok (.iconst 0, 1) := by decide +kernel
theorem dL_begin_65 : decode cL_begin 65 = .ok (.ireturn, 1) := by decide +kernel
theorem dL_begin_60 : decode cL_begin 60 = .ok (.iconst 1, 1) := by decide +kernel
theorem dL_begin_61 : decode cL_begin 61 = .ok (.goto 4, 3) := by decide +kernel
theorem dL_begin_9 : decode cL_begin 9 = .ok (.aload 4, 2) := by decide +kernel
theorem dL_begin_11 : decode cL_begin 11 = .ok (.iload 5, 2) := by decide +kernel
theorem dL_begin_13 : decode cL_begin 13 = .ok (.bipush 97, 2) := by decide +kernel
theorem dL_begin_15 : decode cL_begin 15 = .ok (.aload_n 1, 1) := by decide +kernel
theorem dL_begin_16 : decode cL_begin 16 = .ok (.iload_n 2, 1) := by decide +kernel
theorem dL_begin_17 : decode cL_begin 17 = .ok (.iload 5, 2) := by decide +kernel
theorem dL_begin_19 : decode cL_begin 19 = .ok (.iadd, 1) := by decide +kernel
theorem dL_begin_20 : decode cL_begin 20 = .ok (.invokestatic 23, 3) := by decide +kernel
set_option maxRecDepth 20000 in
theorem ggL_begin_L_cell : GoodIn wsL_begin wsL_cell := goodIn_r _ [4, 5] (by decide +kernel) (by decide +kernel)
set_option maxRecDepth 20000 in
theorem gL_begin_L_cell : GoodIn wsL_begin (va_wsS RL 23 yL_cell wsL_cell) := goodIn_app (goodIn_of _ (by decide +kernel)) ggL_begin_L_cell
theorem dL_begin_23 : decode cL_begin 23 = .ok (.iconst 5, 1) := by decide +kernel
theorem dL_begin_24 : decode cL_begin 24 = .ok (.invokestatic 11, 3) := by decide +kernel
set_option maxRecDepth 20000 in
theorem ggL_begin_L_some : GoodIn wsL_begin wsL_some := goodIn_r _ [8, 9] (by decide +kernel) (by decide +kernel)
set_option maxRecDepth 20000 in
theorem gL_begin_L_some : GoodIn wsL_begin (va_wsS RL 11 yL_some wsL_some) := goodIn_app (goodIn_of _ (by decide +kernel)) ggL_begin_L_some
theorem dL_begin_27 : decode cL_begin 27 = .ok (.iadd, 1) := by decide +kernel
theorem dL_begin_28 : decode cL_begin 28 = .ok (.iastore, 1) := by decide +kernel
theorem dL_begin_29 : decode cL_begin 29 = .ok (.aload_n 0, 1) := by decide +kernel
theorem dL_begin_30 : decode cL_begin 30 = .ok (.aload_n 1, 1) := by decide +kernel
theorem dL_begin_31 : decode cL_begin 31 = .ok (.iload_n 2, 1) := by decide +kernel
theorem dL_begin_32 : decode cL_begin 32 = .ok (.iload 5, 2) := by decide +kernel
theorem dL_begin_34 : decode cL_begin 34 = .ok (.iadd, 1) := by decide +kernel
theorem dL_begin_35 : decode cL_begin 35 = .ok (.invokestatic 23, 3) := by decide +kernel
theorem dL_begin_38 : decode cL_begin 38 = .ok (.invokestatic 27, 3) := by decide +kernel
set_option maxRecDepth 20000 in
theorem ggL_begin_L_say : GoodIn wsL_begin wsL_say := goodIn_r _ [12, 13, 6, 7, 3, 8, 9, 14, 15, 16, 17, 18, 19, 20, 21, 22, 23, 24, 25, 26, 27, 28, 29, 30, 31, 32, 33, 34, 78, 79, 80, 81, 82, 83, 84, 85] (by decide +kernel) (by decide +kernel)
set_option maxRecDepth 20000 in
theorem gL_begin_L_say : GoodIn wsL_begin (va_wsS RL 27 yL_say wsL_say) := goodIn_app (goodIn_of _ (by decide +kernel)) ggL_begin_L_say
theorem dL_begin_41 : decode cL_begin 41 = .ok (.ifCond .ne 5, 3) := by decide +kernel
theorem dL_begin_46 : decode cL_begin 46 = .ok (.iinc 5 1, 3) := by decide +kernel
theorem dL_begin_49 : decode cL_begin 49 = .ok (.goto (-46), 3) := by decide +kernel
theorem dL_begin_44 : decode cL_begin 44 = .ok (.iconst 0, 1) := by decide +kernel
theorem dL_begin_45 : decode cL_begin 45 = .ok (.ireturn, 1) := by decide +kernel
def f_L_begin_k56_u_4 (zr_sign : Nat → Int32) (zr_token : Nat → Int32) (zr_in : Nat → Int32) (zr_own : Nat → Int32) (zr_since : Nat → Int32) (a_n : Int32) (zt_bytes_1 : Nat → Int32) (zt_size_1 : Int32) (zf_a_1 : Nat → Int32) (u_4 : (Nat → Int32) × (Nat → Int32) × (Nat → Int32) × (Nat → Int32) × (Nat → Int32) × Int32 × Int32 × Int32) : Int32 × (Nat → Int32) × Int32 × (Nat → Int32) × (Nat → Int32) × (Nat → Int32) × (Nat → Int32) × (Nat → Int32) × Int32 × Int32 × (Nat → Int32) := if (f_X5_begin zr_sign zr_token zr_in zr_own zr_since zt_bytes_1 zt_size_1).1 = a_n then ((1 : Int32), zt_bytes_1, u_4.2.2.2.2.2.2.2, u_4.1, u_4.2.1, u_4.2.2.1, u_4.2.2.2.1, u_4.2.2.2.2.1, u_4.2.2.2.2.2.1, u_4.2.2.2.2.2.2.1, zf_a_1) else ((0 : Int32), zt_bytes_1, u_4.2.2.2.2.2.2.2, u_4.1, u_4.2.1, u_4.2.2.1, u_4.2.2.2.1, u_4.2.2.2.2.1, u_4.2.2.2.2.2.1, u_4.2.2.2.2.2.2.1, zf_a_1)
def f_L_begin_k41_u_15 (L : Nat) (xs : Nat → Int32) (zr_sign : Nat → Int32) (zr_token : Nat → Int32) (zr_in : Nat → Int32) (zr_own : Nat → Int32) (zr_since : Nat → Int32) (zr_size : Int32) (zg_size : Int32) (a_f : Int32) (v5_1 : Int32) (zt_bytes_1 : Nat → Int32) (zt_size_1 : Int32) (zf_a_1 : Nat → Int32) (K_f_L_begin_L3 : Int32 → (Nat → Int32) → Int32 → (Nat → Int32) → Int32 × (Nat → Int32) × Int32 × (Nat → Int32) × (Nat → Int32) × (Nat → Int32) × (Nat → Int32) × (Nat → Int32) × Int32 × Int32 × (Nat → Int32)) (u_15 : (Nat → Int32) × Int32) : Int32 × (Nat → Int32) × Int32 × (Nat → Int32) × (Nat → Int32) × (Nat → Int32) × (Nat → Int32) × (Nat → Int32) × Int32 × Int32 × (Nat → Int32) := if (f_L_say zt_bytes_1 zt_size_1 (f_L_cell L xs (a_f + v5_1))).1 = (0 : Int32) then ((0 : Int32), u_15.1, u_15.2, zr_sign, zr_token, zr_in, zr_own, zr_since, zr_size, zg_size, (upd zf_a_1 (v5_1).toNatClampNeg ((97 : Int32) + (f_L_some (f_L_cell L xs (a_f + v5_1)) (5 : Int32))))) else K_f_L_begin_L3 (v5_1 + (1 : Int32)) u_15.1 u_15.2 (upd zf_a_1 (v5_1).toNatClampNeg ((97 : Int32) + (f_L_some (f_L_cell L xs (a_f + v5_1)) (5 : Int32))))
def f_L_begin_L3 (L : Nat) (xs : Nat → Int32) (zr_sign : Nat → Int32) (zr_token : Nat → Int32) (zr_in : Nat → Int32) (zr_own : Nat → Int32) (zr_since : Nat → Int32) (zr_size : Int32) (zg_size : Int32) (a_f : Int32) (a_n : Int32) : Nat → Int32 → (Nat → Int32) → Int32 → (Nat → Int32) → Int32 × (Nat → Int32) × Int32 × (Nat → Int32) × (Nat → Int32) × (Nat → Int32) × (Nat → Int32) × (Nat → Int32) × Int32 × Int32 × (Nat → Int32)
  | 0, _, _, _, _ => (0, (fun _ => 0), 0, (fun _ => 0), (fun _ => 0), (fun _ => 0), (fun _ => 0), (fun _ => 0), 0, 0, (fun _ => 0))
  | n_1 + 1, v5_1, zt_bytes_1, zt_size_1, zf_a_1 => if a_n ≤ v5_1 then f_L_begin_k56_u_4 zr_sign zr_token zr_in zr_own zr_since a_n zt_bytes_1 zt_size_1 zf_a_1 ((f_X5_begin zr_sign zr_token zr_in zr_own zr_since zt_bytes_1 zt_size_1).2) else f_L_begin_k41_u_15 L xs zr_sign zr_token zr_in zr_own zr_since zr_size zg_size a_f v5_1 zt_bytes_1 zt_size_1 zf_a_1 (f_L_begin_L3 L xs zr_sign zr_token zr_in zr_own zr_since zr_size zg_size a_f a_n n_1) ((f_L_say zt_bytes_1 zt_size_1 (f_L_cell L xs (a_f + v5_1))).2)
def f_L_begin (L : Nat) (xs : Nat → Int32) (zt_bytes : Nat → Int32) (zt_size : Int32) (zr_sign : Nat → Int32) (zr_token : Nat → Int32) (zr_in : Nat → Int32) (zr_own : Nat → Int32) (zr_since : Nat → Int32) (zr_size : Int32) (zg_size : Int32) (zf_a : Nat → Int32) (a_f : Int32) (a_n : Int32) : Int32 × (Nat → Int32) × Int32 × (Nat → Int32) × (Nat → Int32) × (Nat → Int32) × (Nat → Int32) × (Nat → Int32) × Int32 × Int32 × (Nat → Int32) := f_L_begin_L3 L xs zr_sign zr_token zr_in zr_own zr_since zr_size zg_size a_f a_n 5000000000 (0 : Int32) zt_bytes zt_size zf_a
set_option maxHeartbeats 4000000 in
set_option maxRecDepth 100000 in
theorem c_L_begin (b L : Nat) (xs : Nat → Int32) (l : Launch) (dC : Nat → ClassId) (dI : Nat → Nat → Nat) (cI cJ : ClassId) (sz : Nat) (zd zt azt_bytes zr azr_sign azr_token azr_in azr_own azr_since zg azg_kind azg_hand azg_state azg_look zf zw zv zk : Nat) (zt_bytes zr_sign zr_token zr_in zr_own zr_since zg_kind zg_hand zg_state zg_look zf_a : Nat → Int32) (zt_size zr_size zg_size : Int32) (a_f : Int32) (a_n : Int32) (hL : L ≤ 260) (hf : 0 ≤ a_f.toInt ∧ a_f.toInt ≤ 1000) (hn : a_n.toInt ≤ 64) : Met l yL_begin wsL_begin ({ frames := 4, cells := 0, slots := 0, locals := 133 } : Room) (va_Pc [.ref zd, .ref b, .int a_f, .int a_n, .ref zf] (PreX dC dI cI cJ b L xs sz [(zd, .inr (5, [.ref zt, .ref zr, .ref zw, .ref zg, .ref zv, .ref zk])), (zt, .inr (3, [.ref azt_bytes, .int zt_size])), (azt_bytes, .inl (cI, 120, .inl zt_bytes)), (zr, .inr (2, [.ref azr_sign, .ref azr_token, .ref azr_in, .ref azr_own, .ref azr_since, .int zr_size])), (azr_sign, .inl (cI, 240, .inl zr_sign)), (azr_token, .inl (cI, 240, .inl zr_token)), (azr_in, .inl (cI, 240, .inl zr_in)), (azr_own, .inl (cI, 240, .inl zr_own)), (azr_since, .inl (cI, 240, .inl zr_since)), (zg, .inr (1, [.ref azg_kind, .ref azg_hand, .ref azg_state, .ref azg_look, .int zg_size])), (azg_kind, .inl (cI, 25, .inl zg_kind)), (azg_hand, .inl (cI, 25, .inl zg_hand)), (azg_state, .inl (cI, 25, .inl zg_state)), (azg_look, .inl (cI, 25, .inl zg_look)), (zf, .inl (cI, 64, .inl zf_a))])) (va_Qi (fun (r : Int32) (u : (Nat → Int32) × Int32 × (Nat → Int32) × (Nat → Int32) × (Nat → Int32) × (Nat → Int32) × (Nat → Int32) × Int32 × Int32 × (Nat → Int32)) => r = (f_L_begin L xs zt_bytes zt_size zr_sign zr_token zr_in zr_own zr_since zr_size zg_size zf_a a_f a_n).1 ∧ u = (f_L_begin L xs zt_bytes zt_size zr_sign zr_token zr_in zr_own zr_since zr_size zg_size zf_a a_f a_n).2) (fun (u : (Nat → Int32) × Int32 × (Nat → Int32) × (Nat → Int32) × (Nat → Int32) × (Nat → Int32) × (Nat → Int32) × Int32 × Int32 × (Nat → Int32)) t => PostW dC dI [(zd, .inr (5, [.ref zt, .ref zr, .ref zw, .ref zg, .ref zv, .ref zk])), (zt, .inr (3, [.ref azt_bytes, .int u.2.1])), (azt_bytes, .inl (cI, 120, .inl u.1)), (zr, .inr (2, [.ref azr_sign, .ref azr_token, .ref azr_in, .ref azr_own, .ref azr_since, .int u.2.2.2.2.2.2.2.1])), (azr_sign, .inl (cI, 240, .inl u.2.2.1)), (azr_token, .inl (cI, 240, .inl u.2.2.2.1)), (azr_in, .inl (cI, 240, .inl u.2.2.2.2.1)), (azr_own, .inl (cI, 240, .inl u.2.2.2.2.2.1)), (azr_since, .inl (cI, 240, .inl u.2.2.2.2.2.2.1)), (zg, .inr (1, [.ref azg_kind, .ref azg_hand, .ref azg_state, .ref azg_look, .int u.2.2.2.2.2.2.2.2.1])), (azg_kind, .inl (cI, 25, .inl zg_kind)), (azg_hand, .inl (cI, 25, .inl zg_hand)), (azg_state, .inl (cI, 25, .inl zg_state)), (azg_look, .inl (cI, 25, .inl zg_look)), (zf, .inl (cI, 64, .inl u.2.2.2.2.2.2.2.2.2))] t (va_A [(zd, .inr (5, [.ref zt, .ref zr, .ref zw, .ref zg, .ref zv, .ref zk])), (zt, .inr (3, [.ref azt_bytes, .int zt_size])), (azt_bytes, .inl (cI, 120, .inl zt_bytes)), (zr, .inr (2, [.ref azr_sign, .ref azr_token, .ref azr_in, .ref azr_own, .ref azr_since, .int zr_size])), (azr_sign, .inl (cI, 240, .inl zr_sign)), (azr_token, .inl (cI, 240, .inl zr_token)), (azr_in, .inl (cI, 240, .inl zr_in)), (azr_own, .inl (cI, 240, .inl zr_own)), (azr_since, .inl (cI, 240, .inl zr_since)), (zg, .inr (1, [.ref azg_kind, .ref azg_hand, .ref azg_state, .ref azg_look, .int zg_size])), (azg_kind, .inl (cI, 25, .inl zg_kind)), (azg_hand, .inl (cI, 25, .inl zg_hand)), (azg_state, .inl (cI, 25, .inl zg_state)), (azg_look, .inl (cI, 25, .inl zg_look)), (zf, .inl (cI, 64, .inl zf_a))] sz)) (va_A [(zd, .inr (5, [.ref zt, .ref zr, .ref zw, .ref zg, .ref zv, .ref zk])), (zt, .inr (3, [.ref azt_bytes, .int zt_size])), (azt_bytes, .inl (cI, 120, .inl zt_bytes)), (zr, .inr (2, [.ref azr_sign, .ref azr_token, .ref azr_in, .ref azr_own, .ref azr_since, .int zr_size])), (azr_sign, .inl (cI, 240, .inl zr_sign)), (azr_token, .inl (cI, 240, .inl zr_token)), (azr_in, .inl (cI, 240, .inl zr_in)), (azr_own, .inl (cI, 240, .inl zr_own)), (azr_since, .inl (cI, 240, .inl zr_since)), (zg, .inr (1, [.ref azg_kind, .ref azg_hand, .ref azg_state, .ref azg_look, .int zg_size])), (azg_kind, .inl (cI, 25, .inl zg_kind)), (azg_hand, .inl (cI, 25, .inl zg_hand)), (azg_state, .inl (cI, 25, .inl zg_state)), (azg_look, .inl (cI, 25, .inl zg_look)), (zf, .inl (cI, 64, .inl zf_a))] sz)) 0 0 (va_A [(zd, .inr (5, [.ref zt, .ref zr, .ref zw, .ref zg, .ref zv, .ref zk])), (zt, .inr (3, [.ref azt_bytes, .int zt_size])), (azt_bytes, .inl (cI, 120, .inl zt_bytes)), (zr, .inr (2, [.ref azr_sign, .ref azr_token, .ref azr_in, .ref azr_own, .ref azr_since, .int zr_size])), (azr_sign, .inl (cI, 240, .inl zr_sign)), (azr_token, .inl (cI, 240, .inl zr_token)), (azr_in, .inl (cI, 240, .inl zr_in)), (azr_own, .inl (cI, 240, .inl zr_own)), (azr_since, .inl (cI, 240, .inl zr_since)), (zg, .inr (1, [.ref azg_kind, .ref azg_hand, .ref azg_state, .ref azg_look, .int zg_size])), (azg_kind, .inl (cI, 25, .inl zg_kind)), (azg_hand, .inl (cI, 25, .inl zg_hand)), (azg_state, .inl (cI, 25, .inl zg_state)), (azg_look, .inl (cI, 25, .inl zg_look)), (zf, .inl (cI, 64, .inl zf_a))] sz) := by
  refine Met.ofW (cc := cL_begin) (maxL := 6) (ret := (some .boolean)) (by decide) rfl ?_
  intro p e s m args below meth c s₁ B hml hv
  obtain ⟨rfl, ⟨hsz, hP, hK, hN, hD0⟩, hX, hbl, hDb⟩ := hv
  have hx := B.exec
  have hb := B.bytes
  have hr := B.returns
  have hts := atoms_spec (ws := wsL_begin) B.pre
  have hown : s.vm.findClass RL = some m.cls := findClass_of_methodNamed B.named
  have hlocks := B.notSynchronized
  subst hsz
  have hD := hD0.self (sz := s.heap.size)
  generalize hAe : va_A [(zd, .inr (5, [.ref zt, .ref zr, .ref zw, .ref zg, .ref zv, .ref zk])), (zt, .inr (3, [.ref azt_bytes, .int zt_size])), (azt_bytes, .inl (cI, 120, .inl zt_bytes)), (zr, .inr (2, [.ref azr_sign, .ref azr_token, .ref azr_in, .ref azr_own, .ref azr_since, .int zr_size])), (azr_sign, .inl (cI, 240, .inl zr_sign)), (azr_token, .inl (cI, 240, .inl zr_token)), (azr_in, .inl (cI, 240, .inl zr_in)), (azr_own, .inl (cI, 240, .inl zr_own)), (azr_since, .inl (cI, 240, .inl zr_since)), (zg, .inr (1, [.ref azg_kind, .ref azg_hand, .ref azg_state, .ref azg_look, .int zg_size])), (azg_kind, .inl (cI, 25, .inl zg_kind)), (azg_hand, .inl (cI, 25, .inl zg_hand)), (azg_state, .inl (cI, 25, .inl zg_state)), (azg_look, .inl (cI, 25, .inl zg_look)), (zf, .inl (cI, 64, .inl zf_a))] s.heap.size = A at hD ⊢
  have hA : ∀ q : Nat, s.heap.size ≤ q → A q := fun q h => by rw [← hAe]; exact Or.inr h
  have hbA : ¬ A b := by
    rw [← hAe]
    intro h
    rcases h with ⟨k9, e9, h9⟩ | h9
    · exact hDb.2 k9 _ h9 rfl
    · exact absurd h9 (Nat.not_le.mpr hbl)
  have hS : va_S A s.heap s.heap [] := va_S.rf
  have hP : va_P (dC, dI) vwCl [(zd, .inr (5, [.ref zt, .ref zr, .ref zw, .ref zg, .ref zv, .ref zk])), (zt, .inr (3, [.ref azt_bytes, .int zt_size])), (azt_bytes, .inl (cI, 120, .inl zt_bytes)), (zr, .inr (2, [.ref azr_sign, .ref azr_token, .ref azr_in, .ref azr_own, .ref azr_since, .int zr_size])), (azr_sign, .inl (cI, 240, .inl zr_sign)), (azr_token, .inl (cI, 240, .inl zr_token)), (azr_in, .inl (cI, 240, .inl zr_in)), (azr_own, .inl (cI, 240, .inl zr_own)), (azr_since, .inl (cI, 240, .inl zr_since)), (zg, .inr (1, [.ref azg_kind, .ref azg_hand, .ref azg_state, .ref azg_look, .int zg_size])), (azg_kind, .inl (cI, 25, .inl zg_kind)), (azg_hand, .inl (cI, 25, .inl zg_hand)), (azg_state, .inl (cI, 25, .inl zg_state)), (azg_look, .inl (cI, 25, .inl zg_look)), (zf, .inl (cI, 64, .inl zf_a))] s.heap := hP
  have hl := lv_entry ([.ref zd, .ref b, .int a_f, .int a_n, .ref zf]) (n := 6) (Nat.le_of_ble_eq_true rfl)
  rw [lg_entry_eq]
  generalize (lg_sl ([.ref zd, .ref b, .int a_f, .int a_n, .ref zf]) ++ List.replicate (6 - (lg_sl ([.ref zd, .ref b, .int a_f, .int a_n, .ref zf])).length) Slot.unset).toArray = ls at hl ⊢
  have hl : lv_has ls 6 [(0, .ref zd), (1, .ref b), (2, .int a_f), (3, .int a_n), (4, .ref zf)] := hl
  refine W_nm (fun QQ hQQ => ?_)
  refine lv_iconst (v := (0 : Int32)) hx hb dL_begin_0 (by decide) ?_
  refine lv_istore (lv' := [(5, .int (0 : Int32)), (0, .ref zd), (1, .ref b), (2, .int a_f), (3, .int a_n), (4, .ref zf)]) hx hb dL_begin_1 hl (by decide) rfl (fun ls hl => ?_)
  have hloop_1 : ∀ (n_1 : Nat) (v5_1 : Int32) (zt_bytes_1 : Nat → Int32) (zt_size_1 : Int32) (zf_a_1 : Nat → Int32) , (0 ≤ v5_1.toInt) → (a_n.toInt - v5_1.toInt).toNat < n_1 → f_L_begin L xs zt_bytes zt_size zr_sign zr_token zr_in zr_own zr_since zr_size zg_size zf_a a_f a_n = f_L_begin_L3 L xs zr_sign zr_token zr_in zr_own zr_since zr_size zg_size a_f a_n n_1 v5_1 zt_bytes_1 zt_size_1 zf_a_1 → ∀ (H : Heap) (locs : List Loc), va_P (dC, dI) vwCl [(zd, .inr (5, [.ref zt, .ref zr, .ref zw, .ref zg, .ref zv, .ref zk])), (zt, .inr (3, [.ref azt_bytes, .int zt_size_1])), (azt_bytes, .inl (cI, 120, .inl zt_bytes_1)), (zr, .inr (2, [.ref azr_sign, .ref azr_token, .ref azr_in, .ref azr_own, .ref azr_since, .int zr_size])), (azr_sign, .inl (cI, 240, .inl zr_sign)), (azr_token, .inl (cI, 240, .inl zr_token)), (azr_in, .inl (cI, 240, .inl zr_in)), (azr_own, .inl (cI, 240, .inl zr_own)), (azr_since, .inl (cI, 240, .inl zr_since)), (zg, .inr (1, [.ref azg_kind, .ref azg_hand, .ref azg_state, .ref azg_look, .int zg_size])), (azg_kind, .inl (cI, 25, .inl zg_kind)), (azg_hand, .inl (cI, 25, .inl zg_hand)), (azg_state, .inl (cI, 25, .inl zg_state)), (azg_look, .inl (cI, 25, .inl zg_look)), (zf, .inl (cI, 64, .inl zf_a_1))] H → va_D A [(zd, .inr (5, [.ref zt, .ref zr, .ref zw, .ref zg, .ref zv, .ref zk])), (zt, .inr (3, [.ref azt_bytes, .int zt_size_1])), (azt_bytes, .inl (cI, 120, .inl zt_bytes_1)), (zr, .inr (2, [.ref azr_sign, .ref azr_token, .ref azr_in, .ref azr_own, .ref azr_since, .int zr_size])), (azr_sign, .inl (cI, 240, .inl zr_sign)), (azr_token, .inl (cI, 240, .inl zr_token)), (azr_in, .inl (cI, 240, .inl zr_in)), (azr_own, .inl (cI, 240, .inl zr_own)), (azr_since, .inl (cI, 240, .inl zr_since)), (zg, .inr (1, [.ref azg_kind, .ref azg_hand, .ref azg_state, .ref azg_look, .int zg_size])), (azg_kind, .inl (cI, 25, .inl zg_kind)), (azg_hand, .inl (cI, 25, .inl zg_hand)), (azg_state, .inl (cI, 25, .inl zg_state)), (azg_look, .inl (cI, 25, .inl zg_look)), (zf, .inl (cI, 64, .inl zf_a_1))] → va_S A s.heap H locs → ∀ ls : Array Slot, lv_has ls 6 [(0, .ref zd), (1, .ref b), (2, .int a_f), (3, .int a_n), (4, .ref zf), (5, .int v5_1)] → W p l e (headSpec wsL_begin ({ frames := 4, cells := 0, slots := 0, locals := 133 } : Room)).room s m ([.ref zd, .ref b, .int a_f, .int a_n, .ref zf] : List Value).toArray below meth c H locs 0 0 QQ (F0 m 3 ls []) := by
    intro n_1
    induction n_1 with
    | zero => intro v5_1 zt_bytes_1 zt_size_1 zf_a_1 hi0_1 hmu; exact absurd hmu (Nat.not_lt_zero _)
    | succ n_1 ih_1 =>
      intro v5_1 zt_bytes_1 zt_size_1 zf_a_1 hi0_1 hmu_1 hI_1 H locs hP hD hS ls hl
      have rb := ti_rng a_n
      have rx := ti_rng v5_1
      refine lv_iload hx hb dL_begin_3 (lv_at hl 5 rfl) ?_
      refine lv_iload_n hx hb dL_begin_5 rfl (lv_at hl 3 rfl) ?_
      refine lv_icmp_ge (tgt := 52) hx hb dL_begin_6 (by decide) (fun c_2 => ?_) (fun c_2 => ?_)
      · have tc_2 : a_n.toInt ≤ v5_1.toInt := q_le c_2
        refine lv_aload_n hx hb dL_begin_52 rfl (lv_at hl 0 rfl) ?_
        have hPc := hP.sub (ws' := [(zd, .inr (5, [.ref zt, .ref zr, .ref zw, .ref zg, .ref zv, .ref zk])), (zr, .inr (2, [.ref azr_sign, .ref azr_token, .ref azr_in, .ref azr_own, .ref azr_since, .int zr_size])), (azr_sign, .inl (cI, 240, .inl zr_sign)), (azr_token, .inl (cI, 240, .inl zr_token)), (azr_in, .inl (cI, 240, .inl zr_in)), (azr_own, .inl (cI, 240, .inl zr_own)), (azr_since, .inl (cI, 240, .inl zr_since)), (zg, .inr (1, [.ref azg_kind, .ref azg_hand, .ref azg_state, .ref azg_look, .int zg_size])), (azg_kind, .inl (cI, 25, .inl zg_kind)), (azg_hand, .inl (cI, 25, .inl zg_hand)), (azg_state, .inl (cI, 25, .inl zg_state)), (azg_look, .inl (cI, 25, .inl zg_look)), (zt, .inr (3, [.ref azt_bytes, .int zt_size_1])), (azt_bytes, .inl (cI, 120, .inl zt_bytes_1))]) [0, 3, 4, 5, 6, 7, 8, 9, 10, 11, 12, 13, 1, 2] rfl
        have hDc := hD.sub (ws' := [(zd, .inr (5, [.ref zt, .ref zr, .ref zw, .ref zg, .ref zv, .ref zk])), (zr, .inr (2, [.ref azr_sign, .ref azr_token, .ref azr_in, .ref azr_own, .ref azr_since, .int zr_size])), (azr_sign, .inl (cI, 240, .inl zr_sign)), (azr_token, .inl (cI, 240, .inl zr_token)), (azr_in, .inl (cI, 240, .inl zr_in)), (azr_own, .inl (cI, 240, .inl zr_own)), (azr_since, .inl (cI, 240, .inl zr_since)), (zg, .inr (1, [.ref azg_kind, .ref azg_hand, .ref azg_state, .ref azg_look, .int zg_size])), (azg_kind, .inl (cI, 25, .inl zg_kind)), (azg_hand, .inl (cI, 25, .inl zg_hand)), (azg_state, .inl (cI, 25, .inl zg_state)), (azg_look, .inl (cI, 25, .inl zg_look)), (zt, .inr (3, [.ref azt_bytes, .int zt_size_1])), (azt_bytes, .inl (cI, 120, .inl zt_bytes_1))]) [0, 3, 4, 5, 6, 7, 8, 9, 10, 11, 12, 13, 1, 2] (by decide) rfl
        have hFc := va_free (wc := [(zd, .inr (5, [.ref zt, .ref zr, .ref zw, .ref zg, .ref zv, .ref zk])), (zr, .inr (2, [.ref azr_sign, .ref azr_token, .ref azr_in, .ref azr_own, .ref azr_since, .int zr_size])), (azr_sign, .inl (cI, 240, .inl zr_sign)), (azr_token, .inl (cI, 240, .inl zr_token)), (azr_in, .inl (cI, 240, .inl zr_in)), (azr_own, .inl (cI, 240, .inl zr_own)), (azr_since, .inl (cI, 240, .inl zr_since)), (zg, .inr (1, [.ref azg_kind, .ref azg_hand, .ref azg_state, .ref azg_look, .int zg_size])), (azg_kind, .inl (cI, 25, .inl zg_kind)), (azg_hand, .inl (cI, 25, .inl zg_hand)), (azg_state, .inl (cI, 25, .inl zg_state)), (azg_look, .inl (cI, 25, .inl zg_look)), (zt, .inr (3, [.ref azt_bytes, .int zt_size_1])), (azt_bytes, .inl (cI, 120, .inl zt_bytes_1))]) hD hS hA [0, 3, 4, 5, 6, 7, 8, 9, 10, 11, 12, 13, 1, 2] rfl
        refine va_calli (va_runV (As := []) (rest := []) ⟨hx, hb, hml, hown, hts⟩ (c_X5_begin l dC dI cI cJ H.size zd zr azr_sign azr_token azr_in azr_own azr_since zg azg_kind azg_hand azg_state azg_look zt azt_bytes zw zv zk zr_sign zr_token zr_in zr_own zr_since zg_kind zg_hand zg_state zg_look zt_bytes_1 zr_size zg_size zt_size_1) (cwV 0 hts gL_begin_X5_begin rfl rfl rfl (by decide +kernel) ⟨Nat.le_of_ble_eq_true rfl, Nat.le_of_ble_eq_true rfl⟩) ⟨fun a U g mk q => ⟨q.1, PreW.call g mk a q.2⟩, va_recv hK hP (ci := 5) (q0 := 0) rfl rfl, fun U hU hW => ⟨rfl, PreW.mk2 hU hW hPc hK hN (hDc.weaken (fun _ _ _ _ => trivial))⟩⟩ rfl rfl hl.1 rfl (lv_room (Nat.le_of_ble_eq_true rfl)) dL_begin_53 ⟨Nat.le_of_ble_eq_true rfl, Nat.le_of_ble_eq_true rfl⟩) hS (fun q _ h => hFc q h) hFc (fun r_3 u_4 t H1 locs ht hvm hw hB hz1 hk1 hS => ?_)
        obtain ⟨hB1, hB2⟩ : PostW dC dI [(zd, .inr (5, [.ref zt, .ref zr, .ref zw, .ref zg, .ref zv, .ref zk])), (zr, .inr (2, [.ref azr_sign, .ref azr_token, .ref azr_in, .ref azr_own, .ref azr_since, .int u_4.2.2.2.2.2.1])), (azr_sign, .inl (cI, 240, .inl u_4.1)), (azr_token, .inl (cI, 240, .inl u_4.2.1)), (azr_in, .inl (cI, 240, .inl u_4.2.2.1)), (azr_own, .inl (cI, 240, .inl u_4.2.2.2.1)), (azr_since, .inl (cI, 240, .inl u_4.2.2.2.2.1)), (zg, .inr (1, [.ref azg_kind, .ref azg_hand, .ref azg_state, .ref azg_look, .int u_4.2.2.2.2.2.2.1])), (azg_kind, .inl (cI, 25, .inl zg_kind)), (azg_hand, .inl (cI, 25, .inl zg_hand)), (azg_state, .inl (cI, 25, .inl zg_state)), (azg_look, .inl (cI, 25, .inl zg_look)), (zt, .inr (3, [.ref azt_bytes, .int u_4.2.2.2.2.2.2.2])), (azt_bytes, .inl (cI, 120, .inl zt_bytes_1))] t _ := hB
        rw [ht] at hB1
        obtain ⟨hP, hD⟩ := va_join (wr := [(zf, .inl (cI, 64, .inl zf_a_1))]) (w1 := [(zd, .inr (5, [.ref zt, .ref zr, .ref zw, .ref zg, .ref zv, .ref zk])), (zr, .inr (2, [.ref azr_sign, .ref azr_token, .ref azr_in, .ref azr_own, .ref azr_since, .int u_4.2.2.2.2.2.1])), (azr_sign, .inl (cI, 240, .inl u_4.1)), (azr_token, .inl (cI, 240, .inl u_4.2.1)), (azr_in, .inl (cI, 240, .inl u_4.2.2.1)), (azr_own, .inl (cI, 240, .inl u_4.2.2.2.1)), (azr_since, .inl (cI, 240, .inl u_4.2.2.2.2.1)), (zg, .inr (1, [.ref azg_kind, .ref azg_hand, .ref azg_state, .ref azg_look, .int u_4.2.2.2.2.2.2.1])), (azg_kind, .inl (cI, 25, .inl zg_kind)), (azg_hand, .inl (cI, 25, .inl zg_hand)), (azg_state, .inl (cI, 25, .inl zg_state)), (azg_look, .inl (cI, 25, .inl zg_look)), (zt, .inr (3, [.ref azt_bytes, .int u_4.2.2.2.2.2.2.2])), (azt_bytes, .inl (cI, 120, .inl zt_bytes_1))]) hP hD [0, 3, 4, 5, 6, 7, 8, 9, 10, 11, 12, 13, 1, 2] [14] rfl rfl (by decide) (by decide) hk1 hFc hB1 hB2
        have hP := hP.sub (ws' := [(zd, .inr (5, [.ref zt, .ref zr, .ref zw, .ref zg, .ref zv, .ref zk])), (zt, .inr (3, [.ref azt_bytes, .int u_4.2.2.2.2.2.2.2])), (azt_bytes, .inl (cI, 120, .inl zt_bytes_1)), (zr, .inr (2, [.ref azr_sign, .ref azr_token, .ref azr_in, .ref azr_own, .ref azr_since, .int u_4.2.2.2.2.2.1])), (azr_sign, .inl (cI, 240, .inl u_4.1)), (azr_token, .inl (cI, 240, .inl u_4.2.1)), (azr_in, .inl (cI, 240, .inl u_4.2.2.1)), (azr_own, .inl (cI, 240, .inl u_4.2.2.2.1)), (azr_since, .inl (cI, 240, .inl u_4.2.2.2.2.1)), (zg, .inr (1, [.ref azg_kind, .ref azg_hand, .ref azg_state, .ref azg_look, .int u_4.2.2.2.2.2.2.1])), (azg_kind, .inl (cI, 25, .inl zg_kind)), (azg_hand, .inl (cI, 25, .inl zg_hand)), (azg_state, .inl (cI, 25, .inl zg_state)), (azg_look, .inl (cI, 25, .inl zg_look)), (zf, .inl (cI, 64, .inl zf_a_1))]) [1, 13, 14, 2, 3, 4, 5, 6, 7, 8, 9, 10, 11, 12, 0] rfl
        have hD := hD.sub (ws' := [(zd, .inr (5, [.ref zt, .ref zr, .ref zw, .ref zg, .ref zv, .ref zk])), (zt, .inr (3, [.ref azt_bytes, .int u_4.2.2.2.2.2.2.2])), (azt_bytes, .inl (cI, 120, .inl zt_bytes_1)), (zr, .inr (2, [.ref azr_sign, .ref azr_token, .ref azr_in, .ref azr_own, .ref azr_since, .int u_4.2.2.2.2.2.1])), (azr_sign, .inl (cI, 240, .inl u_4.1)), (azr_token, .inl (cI, 240, .inl u_4.2.1)), (azr_in, .inl (cI, 240, .inl u_4.2.2.1)), (azr_own, .inl (cI, 240, .inl u_4.2.2.2.1)), (azr_since, .inl (cI, 240, .inl u_4.2.2.2.2.1)), (zg, .inr (1, [.ref azg_kind, .ref azg_hand, .ref azg_state, .ref azg_look, .int u_4.2.2.2.2.2.2.1])), (azg_kind, .inl (cI, 25, .inl zg_kind)), (azg_hand, .inl (cI, 25, .inl zg_hand)), (azg_state, .inl (cI, 25, .inl zg_state)), (azg_look, .inl (cI, 25, .inl zg_look)), (zf, .inl (cI, 64, .inl zf_a_1))]) [1, 13, 14, 2, 3, 4, 5, 6, 7, 8, 9, 10, 11, 12, 0] (by decide) rfl
        generalize H1 = H at hP hS ⊢
        have hP : va_P (dC, dI) vwCl [(zd, .inr (5, [.ref zt, .ref zr, .ref zw, .ref zg, .ref zv, .ref zk])), (zt, .inr (3, [.ref azt_bytes, .int u_4.2.2.2.2.2.2.2])), (azt_bytes, .inl (cI, 120, .inl zt_bytes_1)), (zr, .inr (2, [.ref azr_sign, .ref azr_token, .ref azr_in, .ref azr_own, .ref azr_since, .int u_4.2.2.2.2.2.1])), (azr_sign, .inl (cI, 240, .inl u_4.1)), (azr_token, .inl (cI, 240, .inl u_4.2.1)), (azr_in, .inl (cI, 240, .inl u_4.2.2.1)), (azr_own, .inl (cI, 240, .inl u_4.2.2.2.1)), (azr_since, .inl (cI, 240, .inl u_4.2.2.2.2.1)), (zg, .inr (1, [.ref azg_kind, .ref azg_hand, .ref azg_state, .ref azg_look, .int u_4.2.2.2.2.2.2.1])), (azg_kind, .inl (cI, 25, .inl zg_kind)), (azg_hand, .inl (cI, 25, .inl zg_hand)), (azg_state, .inl (cI, 25, .inl zg_state)), (azg_look, .inl (cI, 25, .inl zg_look)), (zf, .inl (cI, 64, .inl zf_a_1))] H := hP
        have hD : va_D A [(zd, .inr (5, [.ref zt, .ref zr, .ref zw, .ref zg, .ref zv, .ref zk])), (zt, .inr (3, [.ref azt_bytes, .int u_4.2.2.2.2.2.2.2])), (azt_bytes, .inl (cI, 120, .inl zt_bytes_1)), (zr, .inr (2, [.ref azr_sign, .ref azr_token, .ref azr_in, .ref azr_own, .ref azr_since, .int u_4.2.2.2.2.2.1])), (azr_sign, .inl (cI, 240, .inl u_4.1)), (azr_token, .inl (cI, 240, .inl u_4.2.1)), (azr_in, .inl (cI, 240, .inl u_4.2.2.1)), (azr_own, .inl (cI, 240, .inl u_4.2.2.2.1)), (azr_since, .inl (cI, 240, .inl u_4.2.2.2.2.1)), (zg, .inr (1, [.ref azg_kind, .ref azg_hand, .ref azg_state, .ref azg_look, .int u_4.2.2.2.2.2.2.1])), (azg_kind, .inl (cI, 25, .inl zg_kind)), (azg_hand, .inl (cI, 25, .inl zg_hand)), (azg_state, .inl (cI, 25, .inl zg_state)), (azg_look, .inl (cI, 25, .inl zg_look)), (zf, .inl (cI, 64, .inl zf_a_1))] := hD
        have hw1 : r_3 = (f_X5_begin zr_sign zr_token zr_in zr_own zr_since zt_bytes_1 zt_size_1).1 := hw.1
        have hw2 : u_4 = (f_X5_begin zr_sign zr_token zr_in zr_own zr_since zt_bytes_1 zt_size_1).2 := hw.2
        subst hw1
        have hI5 : f_L_begin L xs zt_bytes zt_size zr_sign zr_token zr_in zr_own zr_since zr_size zg_size zf_a a_f a_n = f_L_begin_k56_u_4 zr_sign zr_token zr_in zr_own zr_since a_n zt_bytes_1 zt_size_1 zf_a_1 u_4 := (hI_1.trans (by rw [hw2]; rw [f_L_begin_L3, if_pos c_2]))
        refine lv_iload_n hx hb dL_begin_56 rfl (lv_at hl 3 rfl) ?_
        refine lv_icmp_ne (tgt := 64) hx hb dL_begin_57 (by decide) (fun c_6 => ?_) (fun c_6 => ?_)
        · refine lv_iconst (v := (0 : Int32)) hx hb dL_begin_64 (by decide) ?_
          rw [hQQ]
          have hE : f_L_begin L xs zt_bytes zt_size zr_sign zr_token zr_in zr_own zr_since zr_size zg_size zf_a a_f a_n = ((0 : Int32), zt_bytes_1, u_4.2.2.2.2.2.2.2, u_4.1, u_4.2.1, u_4.2.2.1, u_4.2.2.2.1, u_4.2.2.2.2.1, u_4.2.2.2.2.2.1, u_4.2.2.2.2.2.2.1, zf_a_1) := (hI5.trans (by rw [f_L_begin_k56_u_4, if_neg c_6]))
          exact W.zret (v := (0 : Int32)) hx hb hr (by decide) (fun t ht hW => ⟨⟨(0 : Int32), (zt_bytes_1, u_4.2.2.2.2.2.2.2, u_4.1, u_4.2.1, u_4.2.2.1, u_4.2.2.2.1, u_4.2.2.2.2.1, u_4.2.2.2.2.2.1, u_4.2.2.2.2.2.2.1, zf_a_1), rfl, ⟨by rw [hE], by rw [hE]⟩, ⟨by rw [ht]; exact hP, hD⟩⟩, hS.F ht⟩) hS.2.2 dL_begin_65
        · refine lv_iconst (v := (1 : Int32)) hx hb dL_begin_60 (by decide) ?_
          refine lv_goto (tgt := 65) hx hb dL_begin_61 (by decide) ?_
          rw [hQQ]
          have hE : f_L_begin L xs zt_bytes zt_size zr_sign zr_token zr_in zr_own zr_since zr_size zg_size zf_a a_f a_n = ((1 : Int32), zt_bytes_1, u_4.2.2.2.2.2.2.2, u_4.1, u_4.2.1, u_4.2.2.1, u_4.2.2.2.1, u_4.2.2.2.2.1, u_4.2.2.2.2.2.1, u_4.2.2.2.2.2.2.1, zf_a_1) := (hI5.trans (by rw [f_L_begin_k56_u_4, if_pos c_6]))
          exact W.zret (v := (1 : Int32)) hx hb hr (by decide) (fun t ht hW => ⟨⟨(1 : Int32), (zt_bytes_1, u_4.2.2.2.2.2.2.2, u_4.1, u_4.2.1, u_4.2.2.1, u_4.2.2.2.1, u_4.2.2.2.2.1, u_4.2.2.2.2.2.1, u_4.2.2.2.2.2.2.1, zf_a_1), rfl, ⟨by rw [hE], by rw [hE]⟩, ⟨by rw [ht]; exact hP, hD⟩⟩, hS.F ht⟩) hS.2.2 dL_begin_65
      · have tc_2 : v5_1.toInt < a_n.toInt := q_nle c_2
        refine lv_aload hx hb dL_begin_9 (lv_at hl 4 rfl) ?_
        refine lv_iload hx hb dL_begin_11 (lv_at hl 5 rfl) ?_
        refine lv_bipush (v := (97 : Int32)) hx hb dL_begin_13 (by decide) ?_
        refine lv_aload_n hx hb dL_begin_15 rfl (lv_at hl 1 rfl) ?_
        refine lv_iload_n hx hb dL_begin_16 rfl (lv_at hl 2 rfl) ?_
        refine lv_iload hx hb dL_begin_17 (lv_at hl 5 rfl) ?_
        refine lv_iadd hx hb dL_begin_19 ?_
        obtain ⟨z_7, hz_7⟩ : ∃ z : Int32, z = (a_f + v5_1) := ⟨_, rfl⟩
        try have gz_7 : z_7.toInt = a_f.toInt + v5_1.toInt := by rw [hz_7]; exact ti_add2 rfl rfl (by omega) (by omega)
        have hPc := hP.sub (ws' := []) [] rfl
        have hDc := hD.sub (ws' := []) [] (by decide) rfl
        refine va_calli (va_runS (As := [.ref b, .int (a_f + v5_1)]) (rest := [.int (97 : Int32), .int v5_1, .ref zf]) ⟨hx, hb, hml, hown, hts⟩ (c_L_cell b L xs l dC dI cI cJ H.size (a_f + v5_1) (by first | omega | decide | assumption) (by rw [← hz_7]; omega)) (va_cwS 2 hts gL_begin_L_cell rfl rfl rfl (by decide +kernel) ⟨Nat.le_of_ble_eq_true rfl, Nat.le_of_ble_eq_true rfl⟩) ⟨fun a U g mk q => ⟨q.1, PreX.call g mk a q.2⟩, fun U hU hW => ⟨rfl, PreX.mk2 hU hW hPc hK hN (hDc.weaken (fun _ _ _ _ => trivial)) (hX.kept (hS.2.1 b hbl hbA)) (Nat.lt_of_lt_of_le hbl hS.1) (hDc.weaken (fun _ q _ h e => hbA (by rw [← e]; exact h)))⟩⟩ rfl rfl hl.1 rfl (lv_room (Nat.le_of_ble_eq_true rfl)) dL_begin_20 ⟨Nat.le_of_ble_eq_true rfl, Nat.le_of_ble_eq_true rfl⟩) hS (fun q hq h => absurd hq (Nat.not_lt.mpr h)) (fun q h => hA q (Nat.le_trans hS.1 h)) (fun r_8 _u t H1 locs ht hvm hw hB hz1 hk1 hS => ?_)
        have hP := va_ro hP hk1
        generalize H1 = H at hP hS ⊢
        have hw : r_8 = f_L_cell L xs (a_f + v5_1) := hw
        subst hw
        obtain ⟨z_9, hz_9⟩ : ∃ z : Int32, z = f_L_cell L xs (a_f + v5_1) := ⟨_, rfl⟩
        refine lv_iconst (v := (5 : Int32)) hx hb dL_begin_23 (by decide) ?_
        have hPc := hP.sub (ws' := []) [] rfl
        have hDc := hD.sub (ws' := []) [] (by decide) rfl
        refine va_calli (va_runS (As := [.int (f_L_cell L xs (a_f + v5_1)), .int (5 : Int32)]) (rest := [.int (97 : Int32), .int v5_1, .ref zf]) ⟨hx, hb, hml, hown, hts⟩ (c_L_some l dC dI cI cJ H.size (f_L_cell L xs (a_f + v5_1)) (5 : Int32) (by first | omega | decide | assumption)) (va_cwS 2 hts gL_begin_L_some rfl rfl rfl (by decide +kernel) ⟨Nat.le_of_ble_eq_true rfl, Nat.le_of_ble_eq_true rfl⟩) ⟨fun a U g mk q => ⟨q.1, PreW.call g mk a q.2⟩, fun U hU hW => ⟨rfl, PreW.mk2 hU hW hPc hK hN (hDc.weaken (fun _ _ _ _ => trivial))⟩⟩ rfl rfl hl.1 rfl (lv_room (Nat.le_of_ble_eq_true rfl)) dL_begin_24 ⟨Nat.le_of_ble_eq_true rfl, Nat.le_of_ble_eq_true rfl⟩) hS (fun q hq h => absurd hq (Nat.not_lt.mpr h)) (fun q h => hA q (Nat.le_trans hS.1 h)) (fun r_10 _u t H1 locs ht hvm hw hB hz1 hk1 hS => ?_)
        have hP := va_ro hP hk1
        generalize H1 = H at hP hS ⊢
        have hw : r_10 = f_L_some (f_L_cell L xs (a_f + v5_1)) (5 : Int32) := hw
        subst hw
        obtain ⟨z_11, hz_11⟩ : ∃ z : Int32, z = f_L_some (f_L_cell L xs (a_f + v5_1)) (5 : Int32) := ⟨_, rfl⟩
        refine lv_iadd hx hb dL_begin_27 ?_
        obtain ⟨z_12, hz_12⟩ : ∃ z : Int32, z = ((97 : Int32) + (f_L_some (f_L_cell L xs (a_f + v5_1)) (5 : Int32))) := ⟨_, rfl⟩
        try have gz_12 : z_12.toInt = (97 : Int) + z_11.toInt := by rw [hz_12, ← hz_11]; exact ti_add2 rfl rfl (by omega) (by omega)
        refine va_iast (q0 := 14) (t0 := 0) (n := 64) (f := zf_a_1) hx hb hK hP hD hS rfl rfl (vp_in_iff.mpr ⟨by omega, by omega⟩) dL_begin_28 (fun H locs hP hD hS => ?_)
        have hP : va_P (dC, dI) vwCl [(zd, .inr (5, [.ref zt, .ref zr, .ref zw, .ref zg, .ref zv, .ref zk])), (zt, .inr (3, [.ref azt_bytes, .int zt_size_1])), (azt_bytes, .inl (cI, 120, .inl zt_bytes_1)), (zr, .inr (2, [.ref azr_sign, .ref azr_token, .ref azr_in, .ref azr_own, .ref azr_since, .int zr_size])), (azr_sign, .inl (cI, 240, .inl zr_sign)), (azr_token, .inl (cI, 240, .inl zr_token)), (azr_in, .inl (cI, 240, .inl zr_in)), (azr_own, .inl (cI, 240, .inl zr_own)), (azr_since, .inl (cI, 240, .inl zr_since)), (zg, .inr (1, [.ref azg_kind, .ref azg_hand, .ref azg_state, .ref azg_look, .int zg_size])), (azg_kind, .inl (cI, 25, .inl zg_kind)), (azg_hand, .inl (cI, 25, .inl zg_hand)), (azg_state, .inl (cI, 25, .inl zg_state)), (azg_look, .inl (cI, 25, .inl zg_look)), (zf, .inl (cI, 64, .inl (upd zf_a_1 (v5_1).toNatClampNeg ((97 : Int32) + (f_L_some (f_L_cell L xs (a_f + v5_1)) (5 : Int32))))))] H := hP
        have hD : va_D A [(zd, .inr (5, [.ref zt, .ref zr, .ref zw, .ref zg, .ref zv, .ref zk])), (zt, .inr (3, [.ref azt_bytes, .int zt_size_1])), (azt_bytes, .inl (cI, 120, .inl zt_bytes_1)), (zr, .inr (2, [.ref azr_sign, .ref azr_token, .ref azr_in, .ref azr_own, .ref azr_since, .int zr_size])), (azr_sign, .inl (cI, 240, .inl zr_sign)), (azr_token, .inl (cI, 240, .inl zr_token)), (azr_in, .inl (cI, 240, .inl zr_in)), (azr_own, .inl (cI, 240, .inl zr_own)), (azr_since, .inl (cI, 240, .inl zr_since)), (zg, .inr (1, [.ref azg_kind, .ref azg_hand, .ref azg_state, .ref azg_look, .int zg_size])), (azg_kind, .inl (cI, 25, .inl zg_kind)), (azg_hand, .inl (cI, 25, .inl zg_hand)), (azg_state, .inl (cI, 25, .inl zg_state)), (azg_look, .inl (cI, 25, .inl zg_look)), (zf, .inl (cI, 64, .inl (upd zf_a_1 (v5_1).toNatClampNeg ((97 : Int32) + (f_L_some (f_L_cell L xs (a_f + v5_1)) (5 : Int32))))))] := hD
        refine lv_aload_n hx hb dL_begin_29 rfl (lv_at hl 0 rfl) ?_
        refine lv_aload_n hx hb dL_begin_30 rfl (lv_at hl 1 rfl) ?_
        refine lv_iload_n hx hb dL_begin_31 rfl (lv_at hl 2 rfl) ?_
        refine lv_iload hx hb dL_begin_32 (lv_at hl 5 rfl) ?_
        refine lv_iadd hx hb dL_begin_34 ?_
        have hPc := hP.sub (ws' := []) [] rfl
        have hDc := hD.sub (ws' := []) [] (by decide) rfl
        refine va_calli (va_runS (As := [.ref b, .int (a_f + v5_1)]) (rest := [.ref zd]) ⟨hx, hb, hml, hown, hts⟩ (c_L_cell b L xs l dC dI cI cJ H.size (a_f + v5_1) (by first | omega | decide | assumption) (by rw [← hz_7]; omega)) (va_cwS 2 hts gL_begin_L_cell rfl rfl rfl (by decide +kernel) ⟨Nat.le_of_ble_eq_true rfl, Nat.le_of_ble_eq_true rfl⟩) ⟨fun a U g mk q => ⟨q.1, PreX.call g mk a q.2⟩, fun U hU hW => ⟨rfl, PreX.mk2 hU hW hPc hK hN (hDc.weaken (fun _ _ _ _ => trivial)) (hX.kept (hS.2.1 b hbl hbA)) (Nat.lt_of_lt_of_le hbl hS.1) (hDc.weaken (fun _ q _ h e => hbA (by rw [← e]; exact h)))⟩⟩ rfl rfl hl.1 rfl (lv_room (Nat.le_of_ble_eq_true rfl)) dL_begin_35 ⟨Nat.le_of_ble_eq_true rfl, Nat.le_of_ble_eq_true rfl⟩) hS (fun q hq h => absurd hq (Nat.not_lt.mpr h)) (fun q h => hA q (Nat.le_trans hS.1 h)) (fun r_13 _u t H1 locs ht hvm hw hB hz1 hk1 hS => ?_)
        have hP := va_ro hP hk1
        generalize H1 = H at hP hS ⊢
        have hw : r_13 = f_L_cell L xs (a_f + v5_1) := hw
        subst hw
        have hPc := hP.sub (ws' := [(zd, .inr (5, [.ref zt, .ref zr, .ref zw, .ref zg, .ref zv, .ref zk])), (zt, .inr (3, [.ref azt_bytes, .int zt_size_1])), (azt_bytes, .inl (cI, 120, .inl zt_bytes_1))]) [0, 1, 2] rfl
        have hDc := hD.sub (ws' := [(zd, .inr (5, [.ref zt, .ref zr, .ref zw, .ref zg, .ref zv, .ref zk])), (zt, .inr (3, [.ref azt_bytes, .int zt_size_1])), (azt_bytes, .inl (cI, 120, .inl zt_bytes_1))]) [0, 1, 2] (by decide) rfl
        have hFc := va_free (wc := [(zd, .inr (5, [.ref zt, .ref zr, .ref zw, .ref zg, .ref zv, .ref zk])), (zt, .inr (3, [.ref azt_bytes, .int zt_size_1])), (azt_bytes, .inl (cI, 120, .inl zt_bytes_1))]) hD hS hA [0, 1, 2] rfl
        refine va_calli (va_runS (As := [.ref zd, .int (f_L_cell L xs (a_f + v5_1))]) (rest := []) ⟨hx, hb, hml, hown, hts⟩ (c_L_say l dC dI cI cJ H.size zd zt azt_bytes zr zw zg zv zk zt_bytes_1 zt_size_1 (f_L_cell L xs (a_f + v5_1))) (va_cwS 2 hts gL_begin_L_say rfl rfl rfl (by decide +kernel) ⟨Nat.le_of_ble_eq_true rfl, Nat.le_of_ble_eq_true rfl⟩) ⟨fun a U g mk q => ⟨q.1, PreW.call g mk a q.2⟩, fun U hU hW => ⟨rfl, PreW.mk2 hU hW hPc hK hN (hDc.weaken (fun _ _ _ _ => trivial))⟩⟩ rfl rfl hl.1 rfl (lv_room (Nat.le_of_ble_eq_true rfl)) dL_begin_38 ⟨Nat.le_of_ble_eq_true rfl, Nat.le_of_ble_eq_true rfl⟩) hS (fun q _ h => hFc q h) hFc (fun r_14 u_15 t H1 locs ht hvm hw hB hz1 hk1 hS => ?_)
        obtain ⟨hB1, hB2⟩ : PostW dC dI [(zd, .inr (5, [.ref zt, .ref zr, .ref zw, .ref zg, .ref zv, .ref zk])), (zt, .inr (3, [.ref azt_bytes, .int u_15.2])), (azt_bytes, .inl (cI, 120, .inl u_15.1))] t _ := hB
        rw [ht] at hB1
        obtain ⟨hP, hD⟩ := va_join (wr := [(zr, .inr (2, [.ref azr_sign, .ref azr_token, .ref azr_in, .ref azr_own, .ref azr_since, .int zr_size])), (azr_sign, .inl (cI, 240, .inl zr_sign)), (azr_token, .inl (cI, 240, .inl zr_token)), (azr_in, .inl (cI, 240, .inl zr_in)), (azr_own, .inl (cI, 240, .inl zr_own)), (azr_since, .inl (cI, 240, .inl zr_since)), (zg, .inr (1, [.ref azg_kind, .ref azg_hand, .ref azg_state, .ref azg_look, .int zg_size])), (azg_kind, .inl (cI, 25, .inl zg_kind)), (azg_hand, .inl (cI, 25, .inl zg_hand)), (azg_state, .inl (cI, 25, .inl zg_state)), (azg_look, .inl (cI, 25, .inl zg_look)), (zf, .inl (cI, 64, .inl (upd zf_a_1 (v5_1).toNatClampNeg ((97 : Int32) + (f_L_some (f_L_cell L xs (a_f + v5_1)) (5 : Int32))))))]) (w1 := [(zd, .inr (5, [.ref zt, .ref zr, .ref zw, .ref zg, .ref zv, .ref zk])), (zt, .inr (3, [.ref azt_bytes, .int u_15.2])), (azt_bytes, .inl (cI, 120, .inl u_15.1))]) hP hD [0, 1, 2] [3, 4, 5, 6, 7, 8, 9, 10, 11, 12, 13, 14] rfl rfl (by decide) (by decide) hk1 hFc hB1 hB2
        have hP := hP.sub (ws' := [(zd, .inr (5, [.ref zt, .ref zr, .ref zw, .ref zg, .ref zv, .ref zk])), (zt, .inr (3, [.ref azt_bytes, .int u_15.2])), (azt_bytes, .inl (cI, 120, .inl u_15.1)), (zr, .inr (2, [.ref azr_sign, .ref azr_token, .ref azr_in, .ref azr_own, .ref azr_since, .int zr_size])), (azr_sign, .inl (cI, 240, .inl zr_sign)), (azr_token, .inl (cI, 240, .inl zr_token)), (azr_in, .inl (cI, 240, .inl zr_in)), (azr_own, .inl (cI, 240, .inl zr_own)), (azr_since, .inl (cI, 240, .inl zr_since)), (zg, .inr (1, [.ref azg_kind, .ref azg_hand, .ref azg_state, .ref azg_look, .int zg_size])), (azg_kind, .inl (cI, 25, .inl zg_kind)), (azg_hand, .inl (cI, 25, .inl zg_hand)), (azg_state, .inl (cI, 25, .inl zg_state)), (azg_look, .inl (cI, 25, .inl zg_look)), (zf, .inl (cI, 64, .inl (upd zf_a_1 (v5_1).toNatClampNeg ((97 : Int32) + (f_L_some (f_L_cell L xs (a_f + v5_1)) (5 : Int32))))))]) [12, 13, 14, 0, 1, 2, 3, 4, 5, 6, 7, 8, 9, 10, 11] rfl
        have hD := hD.sub (ws' := [(zd, .inr (5, [.ref zt, .ref zr, .ref zw, .ref zg, .ref zv, .ref zk])), (zt, .inr (3, [.ref azt_bytes, .int u_15.2])), (azt_bytes, .inl (cI, 120, .inl u_15.1)), (zr, .inr (2, [.ref azr_sign, .ref azr_token, .ref azr_in, .ref azr_own, .ref azr_since, .int zr_size])), (azr_sign, .inl (cI, 240, .inl zr_sign)), (azr_token, .inl (cI, 240, .inl zr_token)), (azr_in, .inl (cI, 240, .inl zr_in)), (azr_own, .inl (cI, 240, .inl zr_own)), (azr_since, .inl (cI, 240, .inl zr_since)), (zg, .inr (1, [.ref azg_kind, .ref azg_hand, .ref azg_state, .ref azg_look, .int zg_size])), (azg_kind, .inl (cI, 25, .inl zg_kind)), (azg_hand, .inl (cI, 25, .inl zg_hand)), (azg_state, .inl (cI, 25, .inl zg_state)), (azg_look, .inl (cI, 25, .inl zg_look)), (zf, .inl (cI, 64, .inl (upd zf_a_1 (v5_1).toNatClampNeg ((97 : Int32) + (f_L_some (f_L_cell L xs (a_f + v5_1)) (5 : Int32))))))]) [12, 13, 14, 0, 1, 2, 3, 4, 5, 6, 7, 8, 9, 10, 11] (by decide) rfl
        generalize H1 = H at hP hS ⊢
        have hP : va_P (dC, dI) vwCl [(zd, .inr (5, [.ref zt, .ref zr, .ref zw, .ref zg, .ref zv, .ref zk])), (zt, .inr (3, [.ref azt_bytes, .int u_15.2])), (azt_bytes, .inl (cI, 120, .inl u_15.1)), (zr, .inr (2, [.ref azr_sign, .ref azr_token, .ref azr_in, .ref azr_own, .ref azr_since, .int zr_size])), (azr_sign, .inl (cI, 240, .inl zr_sign)), (azr_token, .inl (cI, 240, .inl zr_token)), (azr_in, .inl (cI, 240, .inl zr_in)), (azr_own, .inl (cI, 240, .inl zr_own)), (azr_since, .inl (cI, 240, .inl zr_since)), (zg, .inr (1, [.ref azg_kind, .ref azg_hand, .ref azg_state, .ref azg_look, .int zg_size])), (azg_kind, .inl (cI, 25, .inl zg_kind)), (azg_hand, .inl (cI, 25, .inl zg_hand)), (azg_state, .inl (cI, 25, .inl zg_state)), (azg_look, .inl (cI, 25, .inl zg_look)), (zf, .inl (cI, 64, .inl (upd zf_a_1 (v5_1).toNatClampNeg ((97 : Int32) + (f_L_some (f_L_cell L xs (a_f + v5_1)) (5 : Int32))))))] H := hP
        have hD : va_D A [(zd, .inr (5, [.ref zt, .ref zr, .ref zw, .ref zg, .ref zv, .ref zk])), (zt, .inr (3, [.ref azt_bytes, .int u_15.2])), (azt_bytes, .inl (cI, 120, .inl u_15.1)), (zr, .inr (2, [.ref azr_sign, .ref azr_token, .ref azr_in, .ref azr_own, .ref azr_since, .int zr_size])), (azr_sign, .inl (cI, 240, .inl zr_sign)), (azr_token, .inl (cI, 240, .inl zr_token)), (azr_in, .inl (cI, 240, .inl zr_in)), (azr_own, .inl (cI, 240, .inl zr_own)), (azr_since, .inl (cI, 240, .inl zr_since)), (zg, .inr (1, [.ref azg_kind, .ref azg_hand, .ref azg_state, .ref azg_look, .int zg_size])), (azg_kind, .inl (cI, 25, .inl zg_kind)), (azg_hand, .inl (cI, 25, .inl zg_hand)), (azg_state, .inl (cI, 25, .inl zg_state)), (azg_look, .inl (cI, 25, .inl zg_look)), (zf, .inl (cI, 64, .inl (upd zf_a_1 (v5_1).toNatClampNeg ((97 : Int32) + (f_L_some (f_L_cell L xs (a_f + v5_1)) (5 : Int32))))))] := hD
        have hw1 : r_14 = (f_L_say zt_bytes_1 zt_size_1 (f_L_cell L xs (a_f + v5_1))).1 := hw.1
        have hw2 : u_15 = (f_L_say zt_bytes_1 zt_size_1 (f_L_cell L xs (a_f + v5_1))).2 := hw.2
        subst hw1
        have hI16 : f_L_begin L xs zt_bytes zt_size zr_sign zr_token zr_in zr_own zr_since zr_size zg_size zf_a a_f a_n = f_L_begin_k41_u_15 L xs zr_sign zr_token zr_in zr_own zr_since zr_size zg_size a_f v5_1 zt_bytes_1 zt_size_1 zf_a_1 (f_L_begin_L3 L xs zr_sign zr_token zr_in zr_own zr_since zr_size zg_size a_f a_n n_1) u_15 := (hI_1.trans (by rw [hw2]; rw [f_L_begin_L3, if_neg c_2]))
        refine lv_if_ne (tgt := 46) hx hb dL_begin_41 (by decide) (fun c_17 => ?_) (fun c_17 => ?_)
        · refine lv_iinc (v := (v5_1 + (1 : Int32))) (lv' := [(5, .int (v5_1 + (1 : Int32))), (0, .ref zd), (1, .ref b), (2, .int a_f), (3, .int a_n), (4, .ref zf)]) hx hb dL_begin_46 hl (k := 5) rfl rfl (by decide) rfl (fun ls hl => ?_)
          obtain ⟨z_18, hz_18⟩ : ∃ z : Int32, z = (v5_1 + (1 : Int32)) := ⟨_, rfl⟩
          try have gz_18 : z_18.toInt = v5_1.toInt + (1 : Int) := by rw [hz_18]; exact ti_add2 rfl rfl (by omega) (by omega)
          refine lv_goto (tgt := 3) hx hb dL_begin_49 (by decide) ?_
          exact ih_1 (v5_1 + (1 : Int32)) u_15.1 u_15.2 (upd zf_a_1 (v5_1).toNatClampNeg ((97 : Int32) + (f_L_some (f_L_cell L xs (a_f + v5_1)) (5 : Int32)))) (by rw [← hz_18]; omega) (by rw [← hz_18]; omega) (hI16.trans (by rw [f_L_begin_k41_u_15, if_neg c_17])) _ _ hP hD hS ls (lv_sub hl [1, 2, 3, 4, 5, 0] rfl)
        · refine lv_iconst (v := (0 : Int32)) hx hb dL_begin_44 (by decide) ?_
          rw [hQQ]
          have hE : f_L_begin L xs zt_bytes zt_size zr_sign zr_token zr_in zr_own zr_since zr_size zg_size zf_a a_f a_n = ((0 : Int32), u_15.1, u_15.2, zr_sign, zr_token, zr_in, zr_own, zr_since, zr_size, zg_size, (upd zf_a_1 (v5_1).toNatClampNeg ((97 : Int32) + (f_L_some (f_L_cell L xs (a_f + v5_1)) (5 : Int32))))) := (hI16.trans (by rw [f_L_begin_k41_u_15, if_pos c_17]))
          exact W.zret (v := (0 : Int32)) hx hb hr (by decide) (fun t ht hW => ⟨⟨(0 : Int32), (u_15.1, u_15.2, zr_sign, zr_token, zr_in, zr_own, zr_since, zr_size, zg_size, (upd zf_a_1 (v5_1).toNatClampNeg ((97 : Int32) + (f_L_some (f_L_cell L xs (a_f + v5_1)) (5 : Int32))))), rfl, ⟨by rw [hE], by rw [hE]⟩, ⟨by rw [ht]; exact hP, hD⟩⟩, hS.F ht⟩) hS.2.2 dL_begin_45
  have rb := ti_rng a_n
  have rx := ti_rng (0 : Int32)
  exact hloop_1 5000000000 (0 : Int32) zt_bytes zt_size zf_a (by first | omega | exact (show 0 ≤ (0 : Int) by omega) | assumption | trivial) (by first | omega | exact (show (a_n.toInt - (0 : Int)).toNat < 5000000000 by omega)) (by rw [f_L_begin]) _ _ hP hD hS ls (lv_sub hl [1, 2, 3, 4, 5, 0] rfl)
