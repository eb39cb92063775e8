theorem K_I {D : va_G} {cl : List vw_C} {cI cJ cA : ClassId} {s : State} (h : va_K D cl ([(cI, .int), (cJ, .long)] ++ [(cA, .int)]) s) : cA = cI := Option.some.inj (((h.2 2 _ rfl).2 : s.vm.findClass _ = some cA).symm.trans ((h.2 0 _ rfl).2 : s.vm.findClass _ = some cI))
theorem K_J {D : va_G} {cl : List vw_C} {cI cJ cA : ClassId} {s : State} (h : va_K D cl ([(cI, .int), (cJ, .long)] ++ [(cA, .long)]) s) : cA = cJ := Option.some.inj (((h.2 2 _ rfl).2 : s.vm.findClass _ = some cA).symm.trans ((h.2 1 _ rfl).2 : s.vm.findClass _ = some cJ))
theorem dX3_init_0 : decode cX3_init 0 = .ok (.aload_n 0, 1) := by decide +kernel
theorem dX3_init_1 : decode cX3_init 1 = .ok (.invokespecial 3, 3) := by decide +kernel
theorem m_X3_init_1 : (.methodLink RX3 3 objectInit : Cond) ∈ wsX3_init := List.mem_of_getElem? (i := 1) (by decide +kernel)
theorem m_X3_init_2 : (.instanceMethod objectInit : Cond) ∈ wsX3_init := List.mem_of_getElem? (i := 2) (by decide +kernel)
theorem m_X3_init_3 : (.code objectInit ⟨#[0xb1]⟩ 1 none : Cond) ∈ wsX3_init := List.mem_of_getElem? (i := 3) (by decide +kernel)
theorem dX3_init_4 : decode cX3_init 4 = .ok (.aload_n 0, 1) := by decide +kernel
theorem dX3_init_5 : decode cX3_init 5 = .ok (.bipush 120, 2) := by decide +kernel
theorem dX3_init_7 : decode cX3_init 7 = .ok (.newarray .int, 2) := by decide +kernel
theorem m_X3_init_4 : (.arrayClass .int : Cond) ∈ wsX3_init := List.mem_of_getElem? (i := 4) (by decide +kernel)
theorem dX3_init_9 : decode cX3_init 9 = .ok (.putfield 9, 3) := by decide +kernel
theorem in_X3_init_X3 : ∀ w ∈ wsX30, w ∈ wsX3_init := by decide +kernel
theorem m_X3_init_5 : (.fieldLink RX3 9 "RedlineDesk$Tape" "bytes" "[I" : Cond) ∈ wsX3_init := List.mem_of_getElem? (i := 5) (by decide +kernel)
theorem dX3_init_12 : decode cX3_init 12 = .ok (.return_, 1) := by decide +kernel
set_option maxHeartbeats 4000000 in
set_option maxRecDepth 100000 in
theorem c_X3_init (l : Launch) (dC : Nat → ClassId) (dI : Nat → Nat → Nat) (cI cJ : ClassId) (sz : Nat) (zt : Nat) : Met l yX3_init wsX3_init ({ frames := 1, cells := 1, slots := 120, locals := 12 } : Room) (va_Pc [.ref zt] (PreW dC dI cI cJ sz [(zt, .inr (3, [.null, .int 0]))])) (va_Qv (fun (_ : Nat) => True) (fun (u : Nat) t => PostW dC dI [(zt, .inr (3, [.ref u, .int 0])), (u, .inl (cI, 120, .inl (fun _ => 0)))] t (va_A [(zt, .inr (3, [.null, .int 0]))] sz)) (va_A [(zt, .inr (3, [.null, .int 0]))] sz)) 1 120 (va_A [(zt, .inr (3, [.null, .int 0]))] sz) := by
  refine Met.ofW (cc := cX3_init) (maxL := 1) (ret := none) (by decide) rfl ?_
  intro p e s m args below meth c s₁ B hml hv
  obtain ⟨rfl, hsz, hP, hK, hN, hD0⟩ := hv
  have hx := B.exec
  have hb := B.bytes
  have hr := B.returns
  have hts := atoms_spec (ws := wsX3_init) B.pre
  have hown : s.vm.findClass RX3 = some m.cls := findClass_of_methodNamed B.named
  have hlocks := B.notSynchronized
  have hin : meth.name = "<init>" := (name_of_methodNamed B.named B.method).1
  subst hsz
  have hD := hD0.self (sz := s.heap.size)
  generalize hAe : va_A [(zt, .inr (3, [.null, .int 0]))] s.heap.size = A at hD ⊢
  have hA : ∀ q : Nat, s.heap.size ≤ q → A q := fun q h => by rw [← hAe]; exact Or.inr h
  have hS : va_S A s.heap s.heap [] := va_S.rf
  have hP : va_P (dC, dI) vwCl [(zt, .inr (3, [.null, .int 0]))] s.heap := hP
  have hl := lv_entry ([.ref zt]) (n := 1) (Nat.le_of_ble_eq_true rfl)
  rw [lg_entry_eq]
  generalize (lg_sl ([.ref zt]) ++ List.replicate (1 - (lg_sl ([.ref zt])).length) Slot.unset).toArray = ls at hl ⊢
  have hl : lv_has ls 1 [(0, .ref zt)] := hl
  refine lv_aload_n hx hb dX3_init_0 rfl (lv_at hl 0 rfl) ?_
  refine W.objInit hx hb hown (hts _ m_X3_init_1) (hts _ m_X3_init_2) (hts _ m_X3_init_3) rfl (by rw [hml]; exact hl.1) rfl dX3_init_1 (Nat.le_of_ble_eq_true rfl) (Nat.le_of_ble_eq_true rfl) ?_
  refine W.eq (g2 := F0 m 4 ls []) rfl ?_
  refine lv_aload_n hx hb dX3_init_4 rfl (lv_at hl 0 rfl) ?_
  refine lv_bipush (v := (120 : Int32)) hx hb dX3_init_5 (by decide) ?_
  refine va_newa (atype := .int) (ty := .int) (a0 := (120, .inl (fun _ => 0))) (N' := 120) hx hb (hts _ m_X3_init_4) rfl hK hP hD hS hA (fun _ => rfl) (by decide) (by decide) (Nat.le_of_ble_eq_true rfl) (Nat.le_of_ble_eq_true rfl) (Nat.le_of_ble_eq_true rfl) dX3_init_7 (fun q7 cA H hK hP hD hS => ?_)
  have eA := K_I hK
  rw [eA] at hK hP hD
  have hK := hK.sub (tys' := [(cI, .int), (cJ, .long)]) [0, 1] rfl
  have hP : va_P (dC, dI) vwCl [(zt, .inr (3, [.null, .int 0])), (q7, .inl (cI, 120, .inl (fun _ => 0)))] H := hP
  have hD : va_D A [(zt, .inr (3, [.null, .int 0])), (q7, .inl (cI, 120, .inl (fun _ => 0)))] := hD
  refine va_putF (D := (dC, dI)) (ci := 3) (v := .ref q7) (ty := .array .int) (C := RX3) (T := TX3) (N := 2) hx hb hts in_X3_init_X3 tyX3 tyX3_ok nmX3 hown hK hP hD hS 0 rfl rfl 0 (by decide) (hts _ m_X3_init_5) (fun _ h9 => h9) rfl hin rfl (by decide +kernel) rfl rfl (Nat.le_of_ble_eq_true rfl) dX3_init_9 (fun H locs hP hD hS => ?_)
  have hP : va_P (dC, dI) vwCl [(zt, .inr (3, [.ref q7, .int 0])), (q7, .inl (cI, 120, .inl (fun _ => 0)))] H := hP
  have hD : va_D A [(zt, .inr (3, [.ref q7, .int 0])), (q7, .inl (cI, 120, .inl (fun _ => 0)))] := hD
  refine W.widen (k := 1) (n := 120) (Nat.le_of_ble_eq_true rfl) (Nat.le_of_ble_eq_true rfl) ?_
  exact W.vret hx hb hr (fun t ht hW => ⟨⟨q7, rfl, trivial, ⟨by rw [ht]; exact hP, hD⟩⟩, hS.F ht⟩) hS.2.2 dX3_init_12
theorem dX2_init_0 : decode cX2_init 0 = .ok (.aload_n 0, 1) := by decide +kernel
theorem dX2_init_1 : decode cX2_init 1 = .ok (.invokespecial 3, 3) := by decide +kernel
theorem m_X2_init_1 : (.methodLink RX2 3 objectInit : Cond) ∈ wsX2_init := List.mem_of_getElem? (i := 1) (by decide +kernel)
theorem m_X2_init_2 : (.instanceMethod objectInit : Cond) ∈ wsX2_init := List.mem_of_getElem? (i := 2) (by decide +kernel)
theorem m_X2_init_3 : (.code objectInit ⟨#[0xb1]⟩ 1 none : Cond) ∈ wsX2_init := List.mem_of_getElem? (i := 3) (by decide +kernel)
theorem dX2_init_4 : decode cX2_init 4 = .ok (.aload_n 0, 1) := by decide +kernel
theorem dX2_init_5 : decode cX2_init 5 = .ok (.sipush 240, 3) := by decide +kernel
theorem dX2_init_8 : decode cX2_init 8 = .ok (.newarray .int, 2) := by decide +kernel
theorem m_X2_init_4 : (.arrayClass .int : Cond) ∈ wsX2_init := List.mem_of_getElem? (i := 4) (by decide +kernel)
theorem dX2_init_10 : decode cX2_init 10 = .ok (.putfield 9, 3) := by decide +kernel
theorem in_X2_init_X2 : ∀ w ∈ wsX20, w ∈ wsX2_init := by decide +kernel
theorem m_X2_init_5 : (.fieldLink RX2 9 "RedlineDesk$Row" "sign" "[I" : Cond) ∈ wsX2_init := List.mem_of_getElem? (i := 5) (by decide +kernel)
theorem dX2_init_13 : decode cX2_init 13 = .ok (.aload_n 0, 1) := by decide +kernel
theorem dX2_init_14 : decode cX2_init 14 = .ok (.sipush 240, 3) := by decide +kernel
theorem dX2_init_17 : decode cX2_init 17 = .ok (.newarray .int, 2) := by decide +kernel
theorem dX2_init_19 : decode cX2_init 19 = .ok (.putfield 15, 3) := by decide +kernel
theorem m_X2_init_6 : (.fieldLink RX2 15 "RedlineDesk$Row" "token" "[I" : Cond) ∈ wsX2_init := List.mem_of_getElem? (i := 6) (by decide +kernel)
theorem dX2_init_22 : decode cX2_init 22 = .ok (.aload_n 0, 1) := by decide +kernel
theorem dX2_init_23 : decode cX2_init 23 = .ok (.sipush 240, 3) := by decide +kernel
theorem dX2_init_26 : decode cX2_init 26 = .ok (.newarray .int, 2) := by decide +kernel
theorem dX2_init_28 : decode cX2_init 28 = .ok (.putfield 18, 3) := by decide +kernel
theorem m_X2_init_7 : (.fieldLink RX2 18 "RedlineDesk$Row" "in" "[I" : Cond) ∈ wsX2_init := List.mem_of_getElem? (i := 7) (by decide +kernel)
theorem dX2_init_31 : decode cX2_init 31 = .ok (.aload_n 0, 1) := by decide +kernel
theorem dX2_init_32 : decode cX2_init 32 = .ok (.sipush 240, 3) := by decide +kernel
theorem dX2_init_35 : decode cX2_init 35 = .ok (.newarray .int, 2) := by decide +kernel
theorem dX2_init_37 : decode cX2_init 37 = .ok (.putfield 21, 3) := by decide +kernel
theorem m_X2_init_8 : (.fieldLink RX2 21 "RedlineDesk$Row" "own" "[I" : Cond) ∈ wsX2_init := List.mem_of_getElem? (i := 8) (by decide +kernel)
theorem dX2_init_40 : decode cX2_init 40 = .ok (.aload_n 0, 1) := by decide +kernel
theorem dX2_init_41 : decode cX2_init 41 = .ok (.sipush 240, 3) := by decide +kernel
theorem dX2_init_44 : decode cX2_init 44 = .ok (.newarray .int, 2) := by decide +kernel
theorem dX2_init_46 : decode cX2_init 46 = .ok (.putfield 24, 3) := by decide +kernel
theorem m_X2_init_9 : (.fieldLink RX2 24 "RedlineDesk$Row" "since" "[I" : Cond) ∈ wsX2_init := List.mem_of_getElem? (i := 9) (by decide +kernel)
theorem dX2_init_49 : decode cX2_init 49 = .ok (.return_, 1) := by decide +kernel
set_option maxHeartbeats 4000000 in
set_option maxRecDepth 100000 in
theorem c_X2_init (l : Launch) (dC : Nat → ClassId) (dI : Nat → Nat → Nat) (cI cJ : ClassId) (sz : Nat) (zr : Nat) : Met l yX2_init wsX2_init ({ frames := 1, cells := 5, slots := 1200, locals := 12 } : Room) (va_Pc [.ref zr] (PreW dC dI cI cJ sz [(zr, .inr (2, [.null, .null, .null, .null, .null, .int 0]))])) (va_Qv (fun (_ : Nat × Nat × Nat × Nat × Nat) => True) (fun (u : Nat × Nat × Nat × Nat × Nat) t => PostW dC dI [(zr, .inr (2, [.ref u.1, .ref u.2.1, .ref u.2.2.1, .ref u.2.2.2.1, .ref u.2.2.2.2, .int 0])), (u.1, .inl (cI, 240, .inl (fun _ => 0))), (u.2.1, .inl (cI, 240, .inl (fun _ => 0))), (u.2.2.1, .inl (cI, 240, .inl (fun _ => 0))), (u.2.2.2.1, .inl (cI, 240, .inl (fun _ => 0))), (u.2.2.2.2, .inl (cI, 240, .inl (fun _ => 0)))] t (va_A [(zr, .inr (2, [.null, .null, .null, .null, .null, .int 0]))] sz)) (va_A [(zr, .inr (2, [.null, .null, .null, .null, .null, .int 0]))] sz)) 5 1200 (va_A [(zr, .inr (2, [.null, .null, .null, .null, .null, .int 0]))] sz) := by
  refine Met.ofW (cc := cX2_init) (maxL := 1) (ret := none) (by decide) rfl ?_
  intro p e s m args below meth c s₁ B hml hv
  obtain ⟨rfl, hsz, hP, hK, hN, hD0⟩ := hv
  have hx := B.exec
  have hb := B.bytes
  have hr := B.returns
  have hts := atoms_spec (ws := wsX2_init) B.pre
  have hown : s.vm.findClass RX2 = some m.cls := findClass_of_methodNamed B.named
  have hlocks := B.notSynchronized
  have hin : meth.name = "<init>" := (name_of_methodNamed B.named B.method).1
  subst hsz
  have hD := hD0.self (sz := s.heap.size)
  generalize hAe : va_A [(zr, .inr (2, [.null, .null, .null, .null, .null, .int 0]))] s.heap.size = A at hD ⊢
  have hA : ∀ q : Nat, s.heap.size ≤ q → A q := fun q h => by rw [← hAe]; exact Or.inr h
  have hS : va_S A s.heap s.heap [] := va_S.rf
  have hP : va_P (dC, dI) vwCl [(zr, .inr (2, [.null, .null, .null, .null, .null, .int 0]))] s.heap := hP
  have hl := lv_entry ([.ref zr]) (n := 1) (Nat.le_of_ble_eq_true rfl)
  rw [lg_entry_eq]
  generalize (lg_sl ([.ref zr]) ++ List.replicate (1 - (lg_sl ([.ref zr])).length) Slot.unset).toArray = ls at hl ⊢
  have hl : lv_has ls 1 [(0, .ref zr)] := hl
  refine lv_aload_n hx hb dX2_init_0 rfl (lv_at hl 0 rfl) ?_
  refine W.objInit hx hb hown (hts _ m_X2_init_1) (hts _ m_X2_init_2) (hts _ m_X2_init_3) rfl (by rw [hml]; exact hl.1) rfl dX2_init_1 (Nat.le_of_ble_eq_true rfl) (Nat.le_of_ble_eq_true rfl) ?_
  refine W.eq (g2 := F0 m 4 ls []) rfl ?_
  refine lv_aload_n hx hb dX2_init_4 rfl (lv_at hl 0 rfl) ?_
  refine lv_sipush (v := (240 : Int32)) hx hb dX2_init_5 (by decide) ?_
  refine va_newa (atype := .int) (ty := .int) (a0 := (240, .inl (fun _ => 0))) (N' := 240) hx hb (hts _ m_X2_init_4) rfl hK hP hD hS hA (fun _ => rfl) (by decide) (by decide) (Nat.le_of_ble_eq_true rfl) (Nat.le_of_ble_eq_true rfl) (Nat.le_of_ble_eq_true rfl) dX2_init_8 (fun q8 cA H hK hP hD hS => ?_)
  have eA := K_I hK
  rw [eA] at hK hP hD
  have hK := hK.sub (tys' := [(cI, .int), (cJ, .long)]) [0, 1] rfl
  have hP : va_P (dC, dI) vwCl [(zr, .inr (2, [.null, .null, .null, .null, .null, .int 0])), (q8, .inl (cI, 240, .inl (fun _ => 0)))] H := hP
  have hD : va_D A [(zr, .inr (2, [.null, .null, .null, .null, .null, .int 0])), (q8, .inl (cI, 240, .inl (fun _ => 0)))] := hD
  refine va_putF (D := (dC, dI)) (ci := 2) (v := .ref q8) (ty := .array .int) (C := RX2) (T := TX2) (N := 6) hx hb hts in_X2_init_X2 tyX2 tyX2_ok nmX2 hown hK hP hD hS 0 rfl rfl 0 (by decide) (hts _ m_X2_init_5) (fun _ h9 => h9) rfl hin rfl (by decide +kernel) rfl rfl (Nat.le_of_ble_eq_true rfl) dX2_init_10 (fun H locs hP hD hS => ?_)
  have hP : va_P (dC, dI) vwCl [(zr, .inr (2, [.ref q8, .null, .null, .null, .null, .int 0])), (q8, .inl (cI, 240, .inl (fun _ => 0)))] H := hP
  have hD : va_D A [(zr, .inr (2, [.ref q8, .null, .null, .null, .null, .int 0])), (q8, .inl (cI, 240, .inl (fun _ => 0)))] := hD
  refine lv_aload_n hx hb dX2_init_13 rfl (lv_at hl 0 rfl) ?_
  refine lv_sipush (v := (240 : Int32)) hx hb dX2_init_14 (by decide) ?_
  refine va_newa (atype := .int) (ty := .int) (a0 := (240, .inl (fun _ => 0))) (N' := 240) hx hb (hts _ m_X2_init_4) rfl hK hP hD hS hA (fun _ => rfl) (by decide) (by decide) (Nat.le_of_ble_eq_true rfl) (Nat.le_of_ble_eq_true rfl) (Nat.le_of_ble_eq_true rfl) dX2_init_17 (fun q17 cA H hK hP hD hS => ?_)
  have eA := K_I hK
  rw [eA] at hK hP hD
  have hK := hK.sub (tys' := [(cI, .int), (cJ, .long)]) [0, 1] rfl
  have hP : va_P (dC, dI) vwCl [(zr, .inr (2, [.ref q8, .null, .null, .null, .null, .int 0])), (q8, .inl (cI, 240, .inl (fun _ => 0))), (q17, .inl (cI, 240, .inl (fun _ => 0)))] H := hP
  have hD : va_D A [(zr, .inr (2, [.ref q8, .null, .null, .null, .null, .int 0])), (q8, .inl (cI, 240, .inl (fun _ => 0))), (q17, .inl (cI, 240, .inl (fun _ => 0)))] := hD
  refine va_putF (D := (dC, dI)) (ci := 2) (v := .ref q17) (ty := .array .int) (C := RX2) (T := TX2) (N := 6) hx hb hts in_X2_init_X2 tyX2 tyX2_ok nmX2 hown hK hP hD hS 0 rfl rfl 1 (by decide) (hts _ m_X2_init_6) (fun _ h9 => h9) rfl hin rfl (by decide +kernel) rfl rfl (Nat.le_of_ble_eq_true rfl) dX2_init_19 (fun H locs hP hD hS => ?_)
  have hP : va_P (dC, dI) vwCl [(zr, .inr (2, [.ref q8, .ref q17, .null, .null, .null, .int 0])), (q8, .inl (cI, 240, .inl (fun _ => 0))), (q17, .inl (cI, 240, .inl (fun _ => 0)))] H := hP
  have hD : va_D A [(zr, .inr (2, [.ref q8, .ref q17, .null, .null, .null, .int 0])), (q8, .inl (cI, 240, .inl (fun _ => 0))), (q17, .inl (cI, 240, .inl (fun _ => 0)))] := hD
  refine lv_aload_n hx hb dX2_init_22 rfl (lv_at hl 0 rfl) ?_
  refine lv_sipush (v := (240 : Int32)) hx hb dX2_init_23 (by decide) ?_
  refine va_newa (atype := .int) (ty := .int) (a0 := (240, .inl (fun _ => 0))) (N' := 240) hx hb (hts _ m_X2_init_4) rfl hK hP hD hS hA (fun _ => rfl) (by decide) (by decide) (Nat.le_of_ble_eq_true rfl) (Nat.le_of_ble_eq_true rfl) (Nat.le_of_ble_eq_true rfl) dX2_init_26 (fun q26 cA H hK hP hD hS => ?_)
  have eA := K_I hK
  rw [eA] at hK hP hD
  have hK := hK.sub (tys' := [(cI, .int), (cJ, .long)]) [0, 1] rfl
  have hP : va_P (dC, dI) vwCl [(zr, .inr (2, [.ref q8, .ref q17, .null, .null, .null, .int 0])), (q8, .inl (cI, 240, .inl (fun _ => 0))), (q17, .inl (cI, 240, .inl (fun _ => 0))), (q26, .inl (cI, 240, .inl (fun _ => 0)))] H := hP
  have hD : va_D A [(zr, .inr (2, [.ref q8, .ref q17, .null, .null, .null, .int 0])), (q8, .inl (cI, 240, .inl (fun _ => 0))), (q17, .inl (cI, 240, .inl (fun _ => 0))), (q26, .inl (cI, 240, .inl (fun _ => 0)))] := hD
  refine va_putF (D := (dC, dI)) (ci := 2) (v := .ref q26) (ty := .array .int) (C := RX2) (T := TX2) (N := 6) hx hb hts in_X2_init_X2 tyX2 tyX2_ok nmX2 hown hK hP hD hS 0 rfl rfl 2 (by decide) (hts _ m_X2_init_7) (fun _ h9 => h9) rfl hin rfl (by decide +kernel) rfl rfl (Nat.le_of_ble_eq_true rfl) dX2_init_28 (fun H locs hP hD hS => ?_)
  have hP : va_P (dC, dI) vwCl [(zr, .inr (2, [.ref q8, .ref q17, .ref q26, .null, .null, .int 0])), (q8, .inl (cI, 240, .inl (fun _ => 0))), (q17, .inl (cI, 240, .inl (fun _ => 0))), (q26, .inl (cI, 240, .inl (fun _ => 0)))] H := hP
  have hD : va_D A [(zr, .inr (2, [.ref q8, .ref q17, .ref q26, .null, .null, .int 0])), (q8, .inl (cI, 240, .inl (fun _ => 0))), (q17, .inl (cI, 240, .inl (fun _ => 0))), (q26, .inl (cI, 240, .inl (fun _ => 0)))] := hD
  refine lv_aload_n hx hb dX2_init_31 rfl (lv_at hl 0 rfl) ?_
  refine lv_sipush (v := (240 : Int32)) hx hb dX2_init_32 (by decide) ?_
  refine va_newa (atype := .int) (ty := .int) (a0 := (240, .inl (fun _ => 0))) (N' := 240) hx hb (hts _ m_X2_init_4) rfl hK hP hD hS hA (fun _ => rfl) (by decide) (by decide) (Nat.le_of_ble_eq_true rfl) (Nat.le_of_ble_eq_true rfl) (Nat.le_of_ble_eq_true rfl) dX2_init_35 (fun q35 cA H hK hP hD hS => ?_)
  have eA := K_I hK
  rw [eA] at hK hP hD
  have hK := hK.sub (tys' := [(cI, .int), (cJ, .long)]) [0, 1] rfl
  have hP : va_P (dC, dI) vwCl [(zr, .inr (2, [.ref q8, .ref q17, .ref q26, .null, .null, .int 0])), (q8, .inl (cI, 240, .inl (fun _ => 0))), (q17, .inl (cI, 240, .inl (fun _ => 0))), (q26, .inl (cI, 240, .inl (fun _ => 0))), (q35, .inl (cI, 240, .inl (fun _ => 0)))] H := hP
  have hD : va_D A [(zr, .inr (2, [.ref q8, .ref q17, .ref q26, .null, .null, .int 0])), (q8, .inl (cI, 240, .inl (fun _ => 0))), (q17, .inl (cI, 240, .inl (fun _ => 0))), (q26, .inl (cI, 240, .inl (fun _ => 0))), (q35, .inl (cI, 240, .inl (fun _ => 0)))] := hD
  refine va_putF (D := (dC, dI)) (ci := 2) (v := .ref q35) (ty := .array .int) (C := RX2) (T := TX2) (N := 6) hx hb hts in_X2_init_X2 tyX2 tyX2_ok nmX2 hown hK hP hD hS 0 rfl rfl 3 (by decide) (hts _ m_X2_init_8) (fun _ h9 => h9) rfl hin rfl (by decide +kernel) rfl rfl (Nat.le_of_ble_eq_true rfl) dX2_init_37 (fun H locs hP hD hS => ?_)
  have hP : va_P (dC, dI) vwCl [(zr, .inr (2, [.ref q8, .ref q17, .ref q26, .ref q35, .null, .int 0])), (q8, .inl (cI, 240, .inl (fun _ => 0))), (q17, .inl (cI, 240, .inl (fun _ => 0))), (q26, .inl (cI, 240, .inl (fun _ => 0))), (q35, .inl (cI, 240, .inl (fun _ => 0)))] H := hP
  have hD : va_D A [(zr, .inr (2, [.ref q8, .ref q17, .ref q26, .ref q35, .null, .int 0])), (q8, .inl (cI, 240, .inl (fun _ => 0))), (q17, .inl (cI, 240, .inl (fun _ => 0))), (q26, .inl (cI, 240, .inl (fun _ => 0))), (q35, .inl (cI, 240, .inl (fun _ => 0)))] := hD
  refine lv_aload_n hx hb dX2_init_40 rfl (lv_at hl 0 rfl) ?_
  refine lv_sipush (v := (240 : Int32)) hx hb dX2_init_41 (by decide) ?_
  refine va_newa (atype := .int) (ty := .int) (a0 := (240, .inl (fun _ => 0))) (N' := 240) hx hb (hts _ m_X2_init_4) rfl hK hP hD hS hA (fun _ => rfl) (by decide) (by decide) (Nat.le_of_ble_eq_true rfl) (Nat.le_of_ble_eq_true rfl) (Nat.le_of_ble_eq_true rfl) dX2_init_44 (fun q44 cA H hK hP hD hS => ?_)
  have eA := K_I hK
  rw [eA] at hK hP hD
  have hK := hK.sub (tys' := [(cI, .int), (cJ, .long)]) [0, 1] rfl
  have hP : va_P (dC, dI) vwCl [(zr, .inr (2, [.ref q8, .ref q17, .ref q26, .ref q35, .null, .int 0])), (q8, .inl (cI, 240, .inl (fun _ => 0))), (q17, .inl (cI, 240, .inl (fun _ => 0))), (q26, .inl (cI, 240, .inl (fun _ => 0))), (q35, .inl (cI, 240, .inl (fun _ => 0))), (q44, .inl (cI, 240, .inl (fun _ => 0)))] H := hP
  have hD : va_D A [(zr, .inr (2, [.ref q8, .ref q17, .ref q26, .ref q35, .null, .int 0])), (q8, .inl (cI, 240, .inl (fun _ => 0))), (q17, .inl (cI, 240, .inl (fun _ => 0))), (q26, .inl (cI, 240, .inl (fun _ => 0))), (q35, .inl (cI, 240, .inl (fun _ => 0))), (q44, .inl (cI, 240, .inl (fun _ => 0)))] := hD
  refine va_putF (D := (dC, dI)) (ci := 2) (v := .ref q44) (ty := .array .int) (C := RX2) (T := TX2) (N := 6) hx hb hts in_X2_init_X2 tyX2 tyX2_ok nmX2 hown hK hP hD hS 0 rfl rfl 4 (by decide) (hts _ m_X2_init_9) (fun _ h9 => h9) rfl hin rfl (by decide +kernel) rfl rfl (Nat.le_of_ble_eq_true rfl) dX2_init_46 (fun H locs hP hD hS => ?_)
  have hP : va_P (dC, dI) vwCl [(zr, .inr (2, [.ref q8, .ref q17, .ref q26, .ref q35, .ref q44, .int 0])), (q8, .inl (cI, 240, .inl (fun _ => 0))), (q17, .inl (cI, 240, .inl (fun _ => 0))), (q26, .inl (cI, 240, .inl (fun _ => 0))), (q35, .inl (cI, 240, .inl (fun _ => 0))), (q44, .inl (cI, 240, .inl (fun _ => 0)))] H := hP
  have hD : va_D A [(zr, .inr (2, [.ref q8, .ref q17, .ref q26, .ref q35, .ref q44, .int 0])), (q8, .inl (cI, 240, .inl (fun _ => 0))), (q17, .inl (cI, 240, .inl (fun _ => 0))), (q26, .inl (cI, 240, .inl (fun _ => 0))), (q35, .inl (cI, 240, .inl (fun _ => 0))), (q44, .inl (cI, 240, .inl (fun _ => 0)))] := hD
  refine W.widen (k := 5) (n := 1200) (Nat.le_of_ble_eq_true rfl) (Nat.le_of_ble_eq_true rfl) ?_
  exact W.vret hx hb hr (fun t ht hW => ⟨⟨(q8, q17, q26, q35, q44), rfl, trivial, ⟨by rw [ht]; exact hP, hD⟩⟩, hS.F ht⟩) hS.2.2 dX2_init_49
theorem dX1_init_0 : decode cX1_init 0 = .ok (.aload_n 0, 1) := by decide +kernel
theorem dX1_init_1 : decode cX1_init 1 = .ok (.invokespecial 3, 3) := by decide +kernel
theorem m_X1_init_1 : (.methodLink RX1 3 objectInit : Cond) ∈ wsX1_init := List.mem_of_getElem? (i := 1) (by decide +kernel)
theorem m_X1_init_2 : (.instanceMethod objectInit : Cond) ∈ wsX1_init := List.mem_of_getElem? (i := 2) (by decide +kernel)
theorem m_X1_init_3 : (.code objectInit ⟨#[0xb1]⟩ 1 none : Cond) ∈ wsX1_init := List.mem_of_getElem? (i := 3) (by decide +kernel)
theorem dX1_init_4 : decode cX1_init 4 = .ok (.aload_n 0, 1) := by decide +kernel
theorem dX1_init_5 : decode cX1_init 5 = .ok (.bipush 25, 2) := by decide +kernel
theorem dX1_init_7 : decode cX1_init 7 = .ok (.newarray .int, 2) := by decide +kernel
theorem m_X1_init_4 : (.arrayClass .int : Cond) ∈ wsX1_init := List.mem_of_getElem? (i := 4) (by decide +kernel)
theorem dX1_init_9 : decode cX1_init 9 = .ok (.putfield 9, 3) := by decide +kernel
theorem in_X1_init_X1 : ∀ w ∈ wsX10, w ∈ wsX1_init := by decide +kernel
theorem m_X1_init_5 : (.fieldLink RX1 9 "RedlineDesk$Ledger" "kind" "[I" : Cond) ∈ wsX1_init := List.mem_of_getElem? (i := 5) (by decide +kernel)
theorem dX1_init_12 : decode cX1_init 12 = .ok (.aload_n 0, 1) := by decide +kernel
theorem dX1_init_13 : decode cX1_init 13 = .ok (.bipush 25, 2) := by decide +kernel
theorem dX1_init_15 : decode cX1_init 15 = .ok (.newarray .int, 2) := by decide +kernel
theorem dX1_init_17 : decode cX1_init 17 = .ok (.putfield 15, 3) := by decide +kernel
theorem m_X1_init_6 : (.fieldLink RX1 15 "RedlineDesk$Ledger" "hand" "[I" : Cond) ∈ wsX1_init := List.mem_of_getElem? (i := 6) (by decide +kernel)
theorem dX1_init_20 : decode cX1_init 20 = .ok (.aload_n 0, 1) := by decide +kernel
theorem dX1_init_21 : decode cX1_init 21 = .ok (.bipush 25, 2) := by decide +kernel
theorem dX1_init_23 : decode cX1_init 23 = .ok (.newarray .int, 2) := by decide +kernel
theorem dX1_init_25 : decode cX1_init 25 = .ok (.putfield 18, 3) := by decide +kernel
theorem m_X1_init_7 : (.fieldLink RX1 18 "RedlineDesk$Ledger" "state" "[I" : Cond) ∈ wsX1_init := List.mem_of_getElem? (i := 7) (by decide +kernel)
theorem dX1_init_28 : decode cX1_init 28 = .ok (.aload_n 0, 1) := by decide +kernel
theorem dX1_init_29 : decode cX1_init 29 = .ok (.bipush 25, 2) := by decide +kernel
theorem dX1_init_31 : decode cX1_init 31 = .ok (.newarray .int, 2) := by decide +kernel
theorem dX1_init_33 : decode cX1_init 33 = .ok (.putfield 21, 3) := by decide +kernel
theorem m_X1_init_8 : (.fieldLink RX1 21 "RedlineDesk$Ledger" "look" "[I" : Cond) ∈ wsX1_init := List.mem_of_getElem? (i := 8) (by decide +kernel)
theorem dX1_init_36 : decode cX1_init 36 = .ok (.return_, 1) := by decide +kernel
set_option maxHeartbeats 4000000 in
set_option maxRecDepth 100000 in
theorem c_X1_init (l : Launch) (dC : Nat → ClassId) (dI : Nat → Nat → Nat) (cI cJ : ClassId) (sz : Nat) (zg : Nat) : Met l yX1_init wsX1_init ({ frames := 1, cells := 4, slots := 100, locals := 12 } : Room) (va_Pc [.ref zg] (PreW dC dI cI cJ sz [(zg, .inr (1, [.null, .null, .null, .null, .int 0]))])) (va_Qv (fun (_ : Nat × Nat × Nat × Nat) => True) (fun (u : Nat × Nat × Nat × Nat) t => PostW dC dI [(zg, .inr (1, [.ref u.1, .ref u.2.1, .ref u.2.2.1, .ref u.2.2.2, .int 0])), (u.1, .inl (cI, 25, .inl (fun _ => 0))), (u.2.1, .inl (cI, 25, .inl (fun _ => 0))), (u.2.2.1, .inl (cI, 25, .inl (fun _ => 0))), (u.2.2.2, .inl (cI, 25, .inl (fun _ => 0)))] t (va_A [(zg, .inr (1, [.null, .null, .null, .null, .int 0]))] sz)) (va_A [(zg, .inr (1, [.null, .null, .null, .null, .int 0]))] sz)) 4 100 (va_A [(zg, .inr (1, [.null, .null, .null, .null, .int 0]))] sz) := by
  refine Met.ofW (cc := cX1_init) (maxL := 1) (ret := none) (by decide) rfl ?_
  intro p e s m args below meth c s₁ B hml hv
  obtain ⟨rfl, hsz, hP, hK, hN, hD0⟩ := hv
  have hx := B.exec
  have hb := B.bytes
  have hr := B.returns
  have hts := atoms_spec (ws := wsX1_init) B.pre
  have hown : s.vm.findClass RX1 = some m.cls := findClass_of_methodNamed B.named
  have hlocks := B.notSynchronized
  have hin : meth.name = "<init>" := (name_of_methodNamed B.named B.method).1
  subst hsz
  have hD := hD0.self (sz := s.heap.size)
  generalize hAe : va_A [(zg, .inr (1, [.null, .null, .null, .null, .int 0]))] s.heap.size = A at hD ⊢
  have hA : ∀ q : Nat, s.heap.size ≤ q → A q := fun q h => by rw [← hAe]; exact Or.inr h
  have hS : va_S A s.heap s.heap [] := va_S.rf
  have hP : va_P (dC, dI) vwCl [(zg, .inr (1, [.null, .null, .null, .null, .int 0]))] s.heap := hP
  have hl := lv_entry ([.ref zg]) (n := 1) (Nat.le_of_ble_eq_true rfl)
  rw [lg_entry_eq]
  generalize (lg_sl ([.ref zg]) ++ List.replicate (1 - (lg_sl ([.ref zg])).length) Slot.unset).toArray = ls at hl ⊢
  have hl : lv_has ls 1 [(0, .ref zg)] := hl
  refine lv_aload_n hx hb dX1_init_0 rfl (lv_at hl 0 rfl) ?_
  refine W.objInit hx hb hown (hts _ m_X1_init_1) (hts _ m_X1_init_2) (hts _ m_X1_init_3) rfl (by rw [hml]; exact hl.1) rfl dX1_init_1 (Nat.le_of_ble_eq_true rfl) (Nat.le_of_ble_eq_true rfl) ?_
  refine W.eq (g2 := F0 m 4 ls []) rfl ?_
  refine lv_aload_n hx hb dX1_init_4 rfl (lv_at hl 0 rfl) ?_
  refine lv_bipush (v := (25 : Int32)) hx hb dX1_init_5 (by decide) ?_
  refine va_newa (atype := .int) (ty := .int) (a0 := (25, .inl (fun _ => 0))) (N' := 25) hx hb (hts _ m_X1_init_4) rfl hK hP hD hS hA (fun _ => rfl) (by decide) (by decide) (Nat.le_of_ble_eq_true rfl) (Nat.le_of_ble_eq_true rfl) (Nat.le_of_ble_eq_true rfl) dX1_init_7 (fun q7 cA H hK hP hD hS => ?_)
  have eA := K_I hK
  rw [eA] at hK hP hD
  have hK := hK.sub (tys' := [(cI, .int), (cJ, .long)]) [0, 1] rfl
  have hP : va_P (dC, dI) vwCl [(zg, .inr (1, [.null, .null, .null, .null, .int 0])), (q7, .inl (cI, 25, .inl (fun _ => 0)))] H := hP
  have hD : va_D A [(zg, .inr (1, [.null, .null, .null, .null, .int 0])), (q7, .inl (cI, 25, .inl (fun _ => 0)))] := hD
  refine va_putF (D := (dC, dI)) (ci := 1) (v := .ref q7) (ty := .array .int) (C := RX1) (T := TX1) (N := 5) hx hb hts in_X1_init_X1 tyX1 tyX1_ok nmX1 hown hK hP hD hS 0 rfl rfl 0 (by decide) (hts _ m_X1_init_5) (fun _ h9 => h9) rfl hin rfl (by decide +kernel) rfl rfl (Nat.le_of_ble_eq_true rfl) dX1_init_9 (fun H locs hP hD hS => ?_)
  have hP : va_P (dC, dI) vwCl [(zg, .inr (1, [.ref q7, .null, .null, .null, .int 0])), (q7, .inl (cI, 25, .inl (fun _ => 0)))] H := hP
  have hD : va_D A [(zg, .inr (1, [.ref q7, .null, .null, .null, .int 0])), (q7, .inl (cI, 25, .inl (fun _ => 0)))] := hD
  refine lv_aload_n hx hb dX1_init_12 rfl (lv_at hl 0 rfl) ?_
  refine lv_bipush (v := (25 : Int32)) hx hb dX1_init_13 (by decide) ?_
  refine va_newa (atype := .int) (ty := .int) (a0 := (25, .inl (fun _ => 0))) (N' := 25) hx hb (hts _ m_X1_init_4) rfl hK hP hD hS hA (fun _ => rfl) (by decide) (by decide) (Nat.le_of_ble_eq_true rfl) (Nat.le_of_ble_eq_true rfl) (Nat.le_of_ble_eq_true rfl) dX1_init_15 (fun q15 cA H hK hP hD hS => ?_)
  have eA := K_I hK
  rw [eA] at hK hP hD
  have hK := hK.sub (tys' := [(cI, .int), (cJ, .long)]) [0, 1] rfl
  have hP : va_P (dC, dI) vwCl [(zg, .inr (1, [.ref q7, .null, .null, .null, .int 0])), (q7, .inl (cI, 25, .inl (fun _ => 0))), (q15, .inl (cI, 25, .inl (fun _ => 0)))] H := hP
  have hD : va_D A [(zg, .inr (1, [.ref q7, .null, .null, .null, .int 0])), (q7, .inl (cI, 25, .inl (fun _ => 0))), (q15, .inl (cI, 25, .inl (fun _ => 0)))] := hD
  refine va_putF (D := (dC, dI)) (ci := 1) (v := .ref q15) (ty := .array .int) (C := RX1) (T := TX1) (N := 5) hx hb hts in_X1_init_X1 tyX1 tyX1_ok nmX1 hown hK hP hD hS 0 rfl rfl 1 (by decide) (hts _ m_X1_init_6) (fun _ h9 => h9) rfl hin rfl (by decide +kernel) rfl rfl (Nat.le_of_ble_eq_true rfl) dX1_init_17 (fun H locs hP hD hS => ?_)
  have hP : va_P (dC, dI) vwCl [(zg, .inr (1, [.ref q7, .ref q15, .null, .null, .int 0])), (q7, .inl (cI, 25, .inl (fun _ => 0))), (q15, .inl (cI, 25, .inl (fun _ => 0)))] H := hP
  have hD : va_D A [(zg, .inr (1, [.ref q7, .ref q15, .null, .null, .int 0])), (q7, .inl (cI, 25, .inl (fun _ => 0))), (q15, .inl (cI, 25, .inl (fun _ => 0)))] := hD
  refine lv_aload_n hx hb dX1_init_20 rfl (lv_at hl 0 rfl) ?_
  refine lv_bipush (v := (25 : Int32)) hx hb dX1_init_21 (by decide) ?_
  refine va_newa (atype := .int) (ty := .int) (a0 := (25, .inl (fun _ => 0))) (N' := 25) hx hb (hts _ m_X1_init_4) rfl hK hP hD hS hA (fun _ => rfl) (by decide) (by decide) (Nat.le_of_ble_eq_true rfl) (Nat.le_of_ble_eq_true rfl) (Nat.le_of_ble_eq_true rfl) dX1_init_23 (fun q23 cA H hK hP hD hS => ?_)
  have eA := K_I hK
  rw [eA] at hK hP hD
  have hK := hK.sub (tys' := [(cI, .int), (cJ, .long)]) [0, 1] rfl
  have hP : va_P (dC, dI) vwCl [(zg, .inr (1, [.ref q7, .ref q15, .null, .null, .int 0])), (q7, .inl (cI, 25, .inl (fun _ => 0))), (q15, .inl (cI, 25, .inl (fun _ => 0))), (q23, .inl (cI, 25, .inl (fun _ => 0)))] H := hP
  have hD : va_D A [(zg, .inr (1, [.ref q7, .ref q15, .null, .null, .int 0])), (q7, .inl (cI, 25, .inl (fun _ => 0))), (q15, .inl (cI, 25, .inl (fun _ => 0))), (q23, .inl (cI, 25, .inl (fun _ => 0)))] := hD
  refine va_putF (D := (dC, dI)) (ci := 1) (v := .ref q23) (ty := .array .int) (C := RX1) (T := TX1) (N := 5) hx hb hts in_X1_init_X1 tyX1 tyX1_ok nmX1 hown hK hP hD hS 0 rfl rfl 2 (by decide) (hts _ m_X1_init_7) (fun _ h9 => h9) rfl hin rfl (by decide +kernel) rfl rfl (Nat.le_of_ble_eq_true rfl) dX1_init_25 (fun H locs hP hD hS => ?_)
  have hP : va_P (dC, dI) vwCl [(zg, .inr (1, [.ref q7, .ref q15, .ref q23, .null, .int 0])), (q7, .inl (cI, 25, .inl (fun _ => 0))), (q15, .inl (cI, 25, .inl (fun _ => 0))), (q23, .inl (cI, 25, .inl (fun _ => 0)))] H := hP
  have hD : va_D A [(zg, .inr (1, [.ref q7, .ref q15, .ref q23, .null, .int 0])), (q7, .inl (cI, 25, .inl (fun _ => 0))), (q15, .inl (cI, 25, .inl (fun _ => 0))), (q23, .inl (cI, 25, .inl (fun _ => 0)))] := hD
  refine lv_aload_n hx hb dX1_init_28 rfl (lv_at hl 0 rfl) ?_
  refine lv_bipush (v := (25 : Int32)) hx hb dX1_init_29 (by decide) ?_
  refine va_newa (atype := .int) (ty := .int) (a0 := (25, .inl (fun _ => 0))) (N' := 25) hx hb (hts _ m_X1_init_4) rfl hK hP hD hS hA (fun _ => rfl) (by decide) (by decide) (Nat.le_of_ble_eq_true rfl) (Nat.le_of_ble_eq_true rfl) (Nat.le_of_ble_eq_true rfl) dX1_init_31 (fun q31 cA H hK hP hD hS => ?_)
  have eA := K_I hK
  rw [eA] at hK hP hD
  have hK := hK.sub (tys' := [(cI, .int), (cJ, .long)]) [0, 1] rfl
  have hP : va_P (dC, dI) vwCl [(zg, .inr (1, [.ref q7, .ref q15, .ref q23, .null, .int 0])), (q7, .inl (cI, 25, .inl (fun _ => 0))), (q15, .inl (cI, 25, .inl (fun _ => 0))), (q23, .inl (cI, 25, .inl (fun _ => 0))), (q31, .inl (cI, 25, .inl (fun _ => 0)))] H := hP
  have hD : va_D A [(zg, .inr (1, [.ref q7, .ref q15, .ref q23, .null, .int 0])), (q7, .inl (cI, 25, .inl (fun _ => 0))), (q15, .inl (cI, 25, .inl (fun _ => 0))), (q23, .inl (cI, 25, .inl (fun _ => 0))), (q31, .inl (cI, 25, .inl (fun _ => 0)))] := hD
  refine va_putF (D := (dC, dI)) (ci := 1) (v := .ref q31) (ty := .array .int) (C := RX1) (T := TX1) (N := 5) hx hb hts in_X1_init_X1 tyX1 tyX1_ok nmX1 hown hK hP hD hS 0 rfl rfl 3 (by decide) (hts _ m_X1_init_8) (fun _ h9 => h9) rfl hin rfl (by decide +kernel) rfl rfl (Nat.le_of_ble_eq_true rfl) dX1_init_33 (fun H locs hP hD hS => ?_)
  have hP : va_P (dC, dI) vwCl [(zg, .inr (1, [.ref q7, .ref q15, .ref q23, .ref q31, .int 0])), (q7, .inl (cI, 25, .inl (fun _ => 0))), (q15, .inl (cI, 25, .inl (fun _ => 0))), (q23, .inl (cI, 25, .inl (fun _ => 0))), (q31, .inl (cI, 25, .inl (fun _ => 0)))] H := hP
  have hD : va_D A [(zg, .inr (1, [.ref q7, .ref q15, .ref q23, .ref q31, .int 0])), (q7, .inl (cI, 25, .inl (fun _ => 0))), (q15, .inl (cI, 25, .inl (fun _ => 0))), (q23, .inl (cI, 25, .inl (fun _ => 0))), (q31, .inl (cI, 25, .inl (fun _ => 0)))] := hD
  refine W.widen (k := 4) (n := 100) (Nat.le_of_ble_eq_true rfl) (Nat.le_of_ble_eq_true rfl) ?_
  exact W.vret hx hb hr (fun t ht hW => ⟨⟨(q7, q15, q23, q31), rfl, trivial, ⟨by rw [ht]; exact hP, hD⟩⟩, hS.F ht⟩) hS.2.2 dX1_init_36
theorem dX4_init_0 : decode cX4_init 0 = .ok (.aload_n 0, 1) := by decide +kernel
theorem dX4_init_1 : decode cX4_init 1 = .ok (.invokespecial 3, 3) := by decide +kernel
theorem m_X4_init_1 : (.methodLink RX4 3 objectInit : Cond) ∈ wsX4_init := List.mem_of_getElem? (i := 1) (by decide +kernel)
theorem m_X4_init_2 : (.instanceMethod objectInit : Cond) ∈ wsX4_init := List.mem_of_getElem? (i := 2) (by decide +kernel)
theorem m_X4_init_3 : (.code objectInit ⟨#[0xb1]⟩ 1 none : Cond) ∈ wsX4_init := List.mem_of_getElem? (i := 3) (by decide +kernel)
theorem dX4_init_4 : decode cX4_init 4 = .ok (.aload_n 0, 1) := by decide +kernel
theorem dX4_init_5 : decode cX4_init 5 = .ok (.sipush 240, 3) := by decide +kernel
theorem dX4_init_8 : decode cX4_init 8 = .ok (.newarray .int, 2) := by decide +kernel
theorem m_X4_init_4 : (.arrayClass .int : Cond) ∈ wsX4_init := List.mem_of_getElem? (i := 4) (by decide +kernel)
theorem dX4_init_10 : decode cX4_init 10 = .ok (.putfield 9, 3) := by decide +kernel
theorem in_X4_init_X4 : ∀ w ∈ wsX40, w ∈ wsX4_init := by decide +kernel
theorem m_X4_init_5 : (.fieldLink RX4 9 "RedlineDesk$View" "spots" "[I" : Cond) ∈ wsX4_init := List.mem_of_getElem? (i := 5) (by decide +kernel)
theorem dX4_init_13 : decode cX4_init 13 = .ok (.aload_n 0, 1) := by decide +kernel
theorem dX4_init_14 : decode cX4_init 14 = .ok (.sipush 240, 3) := by decide +kernel
theorem dX4_init_17 : decode cX4_init 17 = .ok (.newarray .int, 2) := by decide +kernel
theorem dX4_init_19 : decode cX4_init 19 = .ok (.putfield 15, 3) := by decide +kernel
theorem m_X4_init_6 : (.fieldLink RX4 15 "RedlineDesk$View" "homes" "[I" : Cond) ∈ wsX4_init := List.mem_of_getElem? (i := 6) (by decide +kernel)
theorem dX4_init_22 : decode cX4_init 22 = .ok (.return_, 1) := by decide +kernel
set_option maxHeartbeats 4000000 in
set_option maxRecDepth 100000 in
theorem c_X4_init (l : Launch) (dC : Nat → ClassId) (dI : Nat → Nat → Nat) (cI cJ : ClassId) (sz : Nat) (zv : Nat) : Met l yX4_init wsX4_init ({ frames := 1, cells := 2, slots := 480, locals := 12 } : Room) (va_Pc [.ref zv] (PreW dC dI cI cJ sz [(zv, .inr (4, [.null, .null, .int 0, .int 0, .int 0]))])) (va_Qv (fun (_ : Nat × Nat) => True) (fun (u : Nat × Nat) t => PostW dC dI [(zv, .inr (4, [.ref u.1, .ref u.2, .int 0, .int 0, .int 0])), (u.1, .inl (cI, 240, .inl (fun _ => 0))), (u.2, .inl (cI, 240, .inl (fun _ => 0)))] t (va_A [(zv, .inr (4, [.null, .null, .int 0, .int 0, .int 0]))] sz)) (va_A [(zv, .inr (4, [.null, .null, .int 0, .int 0, .int 0]))] sz)) 2 480 (va_A [(zv, .inr (4, [.null, .null, .int 0, .int 0, .int 0]))] sz) := by
  refine Met.ofW (cc := cX4_init) (maxL := 1) (ret := none) (by decide) rfl ?_
  intro p e s m args below meth c s₁ B hml hv
  obtain ⟨rfl, hsz, hP, hK, hN, hD0⟩ := hv
  have hx := B.exec
  have hb := B.bytes
  have hr := B.returns
  have hts := atoms_spec (ws := wsX4_init) B.pre
  have hown : s.vm.findClass RX4 = some m.cls := findClass_of_methodNamed B.named
  have hlocks := B.notSynchronized
  have hin : meth.name = "<init>" := (name_of_methodNamed B.named B.method).1
  subst hsz
  have hD := hD0.self (sz := s.heap.size)
  generalize hAe : va_A [(zv, .inr (4, [.null, .null, .int 0, .int 0, .int 0]))] s.heap.size = A at hD ⊢
  have hA : ∀ q : Nat, s.heap.size ≤ q → A q := fun q h => by rw [← hAe]; exact Or.inr h
  have hS : va_S A s.heap s.heap [] := va_S.rf
  have hP : va_P (dC, dI) vwCl [(zv, .inr (4, [.null, .null, .int 0, .int 0, .int 0]))] s.heap := hP
  have hl := lv_entry ([.ref zv]) (n := 1) (Nat.le_of_ble_eq_true rfl)
  rw [lg_entry_eq]
  generalize (lg_sl ([.ref zv]) ++ List.replicate (1 - (lg_sl ([.ref zv])).length) Slot.unset).toArray = ls at hl ⊢
  have hl : lv_has ls 1 [(0, .ref zv)] := hl
  refine lv_aload_n hx hb dX4_init_0 rfl (lv_at hl 0 rfl) ?_
  refine W.objInit hx hb hown (hts _ m_X4_init_1) (hts _ m_X4_init_2) (hts _ m_X4_init_3) rfl (by rw [hml]; exact hl.1) rfl dX4_init_1 (Nat.le_of_ble_eq_true rfl) (Nat.le_of_ble_eq_true rfl) ?_
  refine W.eq (g2 := F0 m 4 ls []) rfl ?_
  refine lv_aload_n hx hb dX4_init_4 rfl (lv_at hl 0 rfl) ?_
  refine lv_sipush (v := (240 : Int32)) hx hb dX4_init_5 (by decide) ?_
  refine va_newa (atype := .int) (ty := .int) (a0 := (240, .inl (fun _ => 0))) (N' := 240) hx hb (hts _ m_X4_init_4) rfl hK hP hD hS hA (fun _ => rfl) (by decide) (by decide) (Nat.le_of_ble_eq_true rfl) (Nat.le_of_ble_eq_true rfl) (Nat.le_of_ble_eq_true rfl) dX4_init_8 (fun q8 cA H hK hP hD hS => ?_)
  have eA := K_I hK
  rw [eA] at hK hP hD
  have hK := hK.sub (tys' := [(cI, .int), (cJ, .long)]) [0, 1] rfl
  have hP : va_P (dC, dI) vwCl [(zv, .inr (4, [.null, .null, .int 0, .int 0, .int 0])), (q8, .inl (cI, 240, .inl (fun _ => 0)))] H := hP
  have hD : va_D A [(zv, .inr (4, [.null, .null, .int 0, .int 0, .int 0])), (q8, .inl (cI, 240, .inl (fun _ => 0)))] := hD
  refine va_putF (D := (dC, dI)) (ci := 4) (v := .ref q8) (ty := .array .int) (C := RX4) (T := TX4) (N := 5) hx hb hts in_X4_init_X4 tyX4 tyX4_ok nmX4 hown hK hP hD hS 0 rfl rfl 0 (by decide) (hts _ m_X4_init_5) (fun _ h9 => h9) rfl hin rfl (by decide +kernel) rfl rfl (Nat.le_of_ble_eq_true rfl) dX4_init_10 (fun H locs hP hD hS => ?_)
  have hP : va_P (dC, dI) vwCl [(zv, .inr (4, [.ref q8, .null, .int 0, .int 0, .int 0])), (q8, .inl (cI, 240, .inl (fun _ => 0)))] H := hP
  have hD : va_D A [(zv, .inr (4, [.ref q8, .null, .int 0, .int 0, .int 0])), (q8, .inl (cI, 240, .inl (fun _ => 0)))] := hD
  refine lv_aload_n hx hb dX4_init_13 rfl (lv_at hl 0 rfl) ?_
  refine lv_sipush (v := (240 : Int32)) hx hb dX4_init_14 (by decide) ?_
  refine va_newa (atype := .int) (ty := .int) (a0 := (240, .inl (fun _ => 0))) (N' := 240) hx hb (hts _ m_X4_init_4) rfl hK hP hD hS hA (fun _ => rfl) (by decide) (by decide) (Nat.le_of_ble_eq_true rfl) (Nat.le_of_ble_eq_true rfl) (Nat.le_of_ble_eq_true rfl) dX4_init_17 (fun q17 cA H hK hP hD hS => ?_)
  have eA := K_I hK
  rw [eA] at hK hP hD
  have hK := hK.sub (tys' := [(cI, .int), (cJ, .long)]) [0, 1] rfl
  have hP : va_P (dC, dI) vwCl [(zv, .inr (4, [.ref q8, .null, .int 0, .int 0, .int 0])), (q8, .inl (cI, 240, .inl (fun _ => 0))), (q17, .inl (cI, 240, .inl (fun _ => 0)))] H := hP
  have hD : va_D A [(zv, .inr (4, [.ref q8, .null, .int 0, .int 0, .int 0])), (q8, .inl (cI, 240, .inl (fun _ => 0))), (q17, .inl (cI, 240, .inl (fun _ => 0)))] := hD
  refine va_putF (D := (dC, dI)) (ci := 4) (v := .ref q17) (ty := .array .int) (C := RX4) (T := TX4) (N := 5) hx hb hts in_X4_init_X4 tyX4 tyX4_ok nmX4 hown hK hP hD hS 0 rfl rfl 1 (by decide) (hts _ m_X4_init_6) (fun _ h9 => h9) rfl hin rfl (by decide +kernel) rfl rfl (Nat.le_of_ble_eq_true rfl) dX4_init_19 (fun H locs hP hD hS => ?_)
  have hP : va_P (dC, dI) vwCl [(zv, .inr (4, [.ref q8, .ref q17, .int 0, .int 0, .int 0])), (q8, .inl (cI, 240, .inl (fun _ => 0))), (q17, .inl (cI, 240, .inl (fun _ => 0)))] H := hP
  have hD : va_D A [(zv, .inr (4, [.ref q8, .ref q17, .int 0, .int 0, .int 0])), (q8, .inl (cI, 240, .inl (fun _ => 0))), (q17, .inl (cI, 240, .inl (fun _ => 0)))] := hD
  refine W.widen (k := 2) (n := 480) (Nat.le_of_ble_eq_true rfl) (Nat.le_of_ble_eq_true rfl) ?_
  exact W.vret hx hb hr (fun t ht hW => ⟨⟨(q8, q17), rfl, trivial, ⟨by rw [ht]; exact hP, hD⟩⟩, hS.F ht⟩) hS.2.2 dX4_init_22
theorem dX0_init_0 : decode cX0_init 0 = .ok (.aload_n 0, 1) := by decide +kernel
theorem dX0_init_1 : decode cX0_init 1 = .ok (.invokespecial 3, 3) := by decide +kernel
theorem m_X0_init_1 : (.methodLink RX0 3 objectInit : Cond) ∈ wsX0_init := List.mem_of_getElem? (i := 1) (by decide +kernel)
theorem m_X0_init_2 : (.instanceMethod objectInit : Cond) ∈ wsX0_init := List.mem_of_getElem? (i := 2) (by decide +kernel)
theorem m_X0_init_3 : (.code objectInit ⟨#[0xb1]⟩ 1 none : Cond) ∈ wsX0_init := List.mem_of_getElem? (i := 3) (by decide +kernel)
theorem dX0_init_4 : decode cX0_init 4 = .ok (.aload_n 0, 1) := by decide +kernel
theorem dX0_init_5 : decode cX0_init 5 = .ok (.sipush 240, 3) := by decide +kernel
theorem dX0_init_8 : decode cX0_init 8 = .ok (.newarray .int, 2) := by decide +kernel
theorem m_X0_init_4 : (.arrayClass .int : Cond) ∈ wsX0_init := List.mem_of_getElem? (i := 4) (by decide +kernel)
theorem dX0_init_10 : decode cX0_init 10 = .ok (.putfield 9, 3) := by decide +kernel
theorem in_X0_init_X0 : ∀ w ∈ wsX00, w ∈ wsX0_init := by decide +kernel
theorem m_X0_init_5 : (.fieldLink RX0 9 "RedlineDesk$Comparison" "now" "[I" : Cond) ∈ wsX0_init := List.mem_of_getElem? (i := 5) (by decide +kernel)
theorem dX0_init_13 : decode cX0_init 13 = .ok (.aload_n 0, 1) := by decide +kernel
theorem dX0_init_14 : decode cX0_init 14 = .ok (.bipush 120, 2) := by decide +kernel
theorem dX0_init_16 : decode cX0_init 16 = .ok (.newarray .int, 2) := by decide +kernel
theorem dX0_init_18 : decode cX0_init 18 = .ok (.putfield 15, 3) := by decide +kernel
theorem m_X0_init_6 : (.fieldLink RX0 15 "RedlineDesk$Comparison" "typed" "[I" : Cond) ∈ wsX0_init := List.mem_of_getElem? (i := 6) (by decide +kernel)
theorem dX0_init_21 : decode cX0_init 21 = .ok (.aload_n 0, 1) := by decide +kernel
theorem dX0_init_22 : decode cX0_init 22 = .ok (.sipush 480, 3) := by decide +kernel
theorem dX0_init_25 : decode cX0_init 25 = .ok (.newarray .long, 2) := by decide +kernel
theorem m_X0_init_7 : (.arrayClass .long : Cond) ∈ wsX0_init := List.mem_of_getElem? (i := 7) (by decide +kernel)
theorem dX0_init_27 : decode cX0_init 27 = .ok (.putfield 18, 3) := by decide +kernel
theorem m_X0_init_8 : (.fieldLink RX0 18 "RedlineDesk$Comparison" "strikesNext" "[J" : Cond) ∈ wsX0_init := List.mem_of_getElem? (i := 8) (by decide +kernel)
theorem dX0_init_30 : decode cX0_init 30 = .ok (.aload_n 0, 1) := by decide +kernel
theorem dX0_init_31 : decode cX0_init 31 = .ok (.bipush 121, 2) := by decide +kernel
theorem dX0_init_33 : decode cX0_init 33 = .ok (.newarray .int, 2) := by decide +kernel
theorem dX0_init_35 : decode cX0_init 35 = .ok (.putfield 22, 3) := by decide +kernel
theorem m_X0_init_9 : (.fieldLink RX0 22 "RedlineDesk$Comparison" "most" "[I" : Cond) ∈ wsX0_init := List.mem_of_getElem? (i := 9) (by decide +kernel)
theorem dX0_init_38 : decode cX0_init 38 = .ok (.return_, 1) := by decide +kernel
set_option maxHeartbeats 4000000 in
set_option maxRecDepth 100000 in
theorem c_X0_init (l : Launch) (dC : Nat → ClassId) (dI : Nat → Nat → Nat) (cI cJ : ClassId) (sz : Nat) (zk : Nat) : Met l yX0_init wsX0_init ({ frames := 1, cells := 4, slots := 961, locals := 12 } : Room) (va_Pc [.ref zk] (PreW dC dI cI cJ sz [(zk, .inr (0, [.null, .null, .int 0, .int 0, .null, .null, .int 0, .int 0, .int 0, .int 0]))])) (va_Qv (fun (_ : Nat × Nat × Nat × Nat) => True) (fun (u : Nat × Nat × Nat × Nat) t => PostW dC dI [(zk, .inr (0, [.ref u.1, .ref u.2.1, .int 0, .int 0, .ref u.2.2.1, .ref u.2.2.2, .int 0, .int 0, .int 0, .int 0])), (u.1, .inl (cI, 240, .inl (fun _ => 0))), (u.2.1, .inl (cI, 120, .inl (fun _ => 0))), (u.2.2.1, .inl (cJ, 480, .inr (.inl (fun _ => 0)))), (u.2.2.2, .inl (cI, 121, .inl (fun _ => 0)))] t (va_A [(zk, .inr (0, [.null, .null, .int 0, .int 0, .null, .null, .int 0, .int 0, .int 0, .int 0]))] sz)) (va_A [(zk, .inr (0, [.null, .null, .int 0, .int 0, .null, .null, .int 0, .int 0, .int 0, .int 0]))] sz)) 4 961 (va_A [(zk, .inr (0, [.null, .null, .int 0, .int 0, .null, .null, .int 0, .int 0, .int 0, .int 0]))] sz) := by
  refine Met.ofW (cc := cX0_init) (maxL := 1) (ret := none) (by decide) rfl ?_
  intro p e s m args below meth c s₁ B hml hv
  obtain ⟨rfl, hsz, hP, hK, hN, hD0⟩ := hv
  have hx := B.exec
  have hb := B.bytes
  have hr := B.returns
  have hts := atoms_spec (ws := wsX0_init) B.pre
  have hown : s.vm.findClass RX0 = some m.cls := findClass_of_methodNamed B.named
  have hlocks := B.notSynchronized
  have hin : meth.name = "<init>" := (name_of_methodNamed B.named B.method).1
  subst hsz
  have hD := hD0.self (sz := s.heap.size)
  generalize hAe : va_A [(zk, .inr (0, [.null, .null, .int 0, .int 0, .null, .null, .int 0, .int 0, .int 0, .int 0]))] s.heap.size = A at hD ⊢
  have hA : ∀ q : Nat, s.heap.size ≤ q → A q := fun q h => by rw [← hAe]; exact Or.inr h
  have hS : va_S A s.heap s.heap [] := va_S.rf
  have hP : va_P (dC, dI) vwCl [(zk, .inr (0, [.null, .null, .int 0, .int 0, .null, .null, .int 0, .int 0, .int 0, .int 0]))] s.heap := hP
  have hl := lv_entry ([.ref zk]) (n := 1) (Nat.le_of_ble_eq_true rfl)
  rw [lg_entry_eq]
  generalize (lg_sl ([.ref zk]) ++ List.replicate (1 - (lg_sl ([.ref zk])).length) Slot.unset).toArray = ls at hl ⊢
  have hl : lv_has ls 1 [(0, .ref zk)] := hl
  refine lv_aload_n hx hb dX0_init_0 rfl (lv_at hl 0 rfl) ?_
  refine W.objInit hx hb hown (hts _ m_X0_init_1) (hts _ m_X0_init_2) (hts _ m_X0_init_3) rfl (by rw [hml]; exact hl.1) rfl dX0_init_1 (Nat.le_of_ble_eq_true rfl) (Nat.le_of_ble_eq_true rfl) ?_
  refine W.eq (g2 := F0 m 4 ls []) rfl ?_
  refine lv_aload_n hx hb dX0_init_4 rfl (lv_at hl 0 rfl) ?_
  refine lv_sipush (v := (240 : Int32)) hx hb dX0_init_5 (by decide) ?_
  refine va_newa (atype := .int) (ty := .int) (a0 := (240, .inl (fun _ => 0))) (N' := 240) hx hb (hts _ m_X0_init_4) rfl hK hP hD hS hA (fun _ => rfl) (by decide) (by decide) (Nat.le_of_ble_eq_true rfl) (Nat.le_of_ble_eq_true rfl) (Nat.le_of_ble_eq_true rfl) dX0_init_8 (fun q8 cA H hK hP hD hS => ?_)
  have eA := K_I hK
  rw [eA] at hK hP hD
  have hK := hK.sub (tys' := [(cI, .int), (cJ, .long)]) [0, 1] rfl
  have hP : va_P (dC, dI) vwCl [(zk, .inr (0, [.null, .null, .int 0, .int 0, .null, .null, .int 0, .int 0, .int 0, .int 0])), (q8, .inl (cI, 240, .inl (fun _ => 0)))] H := hP
  have hD : va_D A [(zk, .inr (0, [.null, .null, .int 0, .int 0, .null, .null, .int 0, .int 0, .int 0, .int 0])), (q8, .inl (cI, 240, .inl (fun _ => 0)))] := hD
  refine va_putF (D := (dC, dI)) (ci := 0) (v := .ref q8) (ty := .array .int) (C := RX0) (T := TX0) (N := 10) hx hb hts in_X0_init_X0 tyX0 tyX0_ok nmX0 hown hK hP hD hS 0 rfl rfl 0 (by decide) (hts _ m_X0_init_5) (fun _ h9 => h9) rfl hin rfl (by decide +kernel) rfl rfl (Nat.le_of_ble_eq_true rfl) dX0_init_10 (fun H locs hP hD hS => ?_)
  have hP : va_P (dC, dI) vwCl [(zk, .inr (0, [.ref q8, .null, .int 0, .int 0, .null, .null, .int 0, .int 0, .int 0, .int 0])), (q8, .inl (cI, 240, .inl (fun _ => 0)))] H := hP
  have hD : va_D A [(zk, .inr (0, [.ref q8, .null, .int 0, .int 0, .null, .null, .int 0, .int 0, .int 0, .int 0])), (q8, .inl (cI, 240, .inl (fun _ => 0)))] := hD
  refine lv_aload_n hx hb dX0_init_13 rfl (lv_at hl 0 rfl) ?_
  refine lv_bipush (v := (120 : Int32)) hx hb dX0_init_14 (by decide) ?_
  refine va_newa (atype := .int) (ty := .int) (a0 := (120, .inl (fun _ => 0))) (N' := 120) hx hb (hts _ m_X0_init_4) rfl hK hP hD hS hA (fun _ => rfl) (by decide) (by decide) (Nat.le_of_ble_eq_true rfl) (Nat.le_of_ble_eq_true rfl) (Nat.le_of_ble_eq_true rfl) dX0_init_16 (fun q16 cA H hK hP hD hS => ?_)
  have eA := K_I hK
  rw [eA] at hK hP hD
  have hK := hK.sub (tys' := [(cI, .int), (cJ, .long)]) [0, 1] rfl
  have hP : va_P (dC, dI) vwCl [(zk, .inr (0, [.ref q8, .null, .int 0, .int 0, .null, .null, .int 0, .int 0, .int 0, .int 0])), (q8, .inl (cI, 240, .inl (fun _ => 0))), (q16, .inl (cI, 120, .inl (fun _ => 0)))] H := hP
  have hD : va_D A [(zk, .inr (0, [.ref q8, .null, .int 0, .int 0, .null, .null, .int 0, .int 0, .int 0, .int 0])), (q8, .inl (cI, 240, .inl (fun _ => 0))), (q16, .inl (cI, 120, .inl (fun _ => 0)))] := hD
  refine va_putF (D := (dC, dI)) (ci := 0) (v := .ref q16) (ty := .array .int) (C := RX0) (T := TX0) (N := 10) hx hb hts in_X0_init_X0 tyX0 tyX0_ok nmX0 hown hK hP hD hS 0 rfl rfl 1 (by decide) (hts _ m_X0_init_6) (fun _ h9 => h9) rfl hin rfl (by decide +kernel) rfl rfl (Nat.le_of_ble_eq_true rfl) dX0_init_18 (fun H locs hP hD hS => ?_)
  have hP : va_P (dC, dI) vwCl [(zk, .inr (0, [.ref q8, .ref q16, .int 0, .int 0, .null, .null, .int 0, .int 0, .int 0, .int 0])), (q8, .inl (cI, 240, .inl (fun _ => 0))), (q16, .inl (cI, 120, .inl (fun _ => 0)))] H := hP
  have hD : va_D A [(zk, .inr (0, [.ref q8, .ref q16, .int 0, .int 0, .null, .null, .int 0, .int 0, .int 0, .int 0])), (q8, .inl (cI, 240, .inl (fun _ => 0))), (q16, .inl (cI, 120, .inl (fun _ => 0)))] := hD
  refine lv_aload_n hx hb dX0_init_21 rfl (lv_at hl 0 rfl) ?_
  refine lv_sipush (v := (480 : Int32)) hx hb dX0_init_22 (by decide) ?_
  refine va_newa (atype := .long) (ty := .long) (a0 := (480, .inr (.inl (fun _ => 0)))) (N' := 480) hx hb (hts _ m_X0_init_7) rfl hK hP hD hS hA (fun _ => rfl) (by decide) (by decide) (Nat.le_of_ble_eq_true rfl) (Nat.le_of_ble_eq_true rfl) (Nat.le_of_ble_eq_true rfl) dX0_init_25 (fun q25 cA H hK hP hD hS => ?_)
  have eA := K_J hK
  rw [eA] at hK hP hD
  have hK := hK.sub (tys' := [(cI, .int), (cJ, .long)]) [0, 1] rfl
  have hP : va_P (dC, dI) vwCl [(zk, .inr (0, [.ref q8, .ref q16, .int 0, .int 0, .null, .null, .int 0, .int 0, .int 0, .int 0])), (q8, .inl (cI, 240, .inl (fun _ => 0))), (q16, .inl (cI, 120, .inl (fun _ => 0))), (q25, .inl (cJ, 480, .inr (.inl (fun _ => 0))))] H := hP
  have hD : va_D A [(zk, .inr (0, [.ref q8, .ref q16, .int 0, .int 0, .null, .null, .int 0, .int 0, .int 0, .int 0])), (q8, .inl (cI, 240, .inl (fun _ => 0))), (q16, .inl (cI, 120, .inl (fun _ => 0))), (q25, .inl (cJ, 480, .inr (.inl (fun _ => 0))))] := hD
  refine va_putF (D := (dC, dI)) (ci := 0) (v := .ref q25) (ty := .array .long) (C := RX0) (T := TX0) (N := 10) hx hb hts in_X0_init_X0 tyX0 tyX0_ok nmX0 hown hK hP hD hS 0 rfl rfl 4 (by decide) (hts _ m_X0_init_8) (fun _ h9 => h9) rfl hin rfl (by decide +kernel) rfl rfl (Nat.le_of_ble_eq_true rfl) dX0_init_27 (fun H locs hP hD hS => ?_)
  have hP : va_P (dC, dI) vwCl [(zk, .inr (0, [.ref q8, .ref q16, .int 0, .int 0, .ref q25, .null, .int 0, .int 0, .int 0, .int 0])), (q8, .inl (cI, 240, .inl (fun _ => 0))), (q16, .inl (cI, 120, .inl (fun _ => 0))), (q25, .inl (cJ, 480, .inr (.inl (fun _ => 0))))] H := hP
  have hD : va_D A [(zk, .inr (0, [.ref q8, .ref q16, .int 0, .int 0, .ref q25, .null, .int 0, .int 0, .int 0, .int 0])), (q8, .inl (cI, 240, .inl (fun _ => 0))), (q16, .inl (cI, 120, .inl (fun _ => 0))), (q25, .inl (cJ, 480, .inr (.inl (fun _ => 0))))] := hD
  refine lv_aload_n hx hb dX0_init_30 rfl (lv_at hl 0 rfl) ?_
  refine lv_bipush (v := (121 : Int32)) hx hb dX0_init_31 (by decide) ?_
  refine va_newa (atype := .int) (ty := .int) (a0 := (121, .inl (fun _ => 0))) (N' := 121) hx hb (hts _ m_X0_init_4) rfl hK hP hD hS hA (fun _ => rfl) (by decide) (by decide) (Nat.le_of_ble_eq_true rfl) (Nat.le_of_ble_eq_true rfl) (Nat.le_of_ble_eq_true rfl) dX0_init_33 (fun q33 cA H hK hP hD hS => ?_)
  have eA := K_I hK
  rw [eA] at hK hP hD
  have hK := hK.sub (tys' := [(cI, .int), (cJ, .long)]) [0, 1] rfl
  have hP : va_P (dC, dI) vwCl [(zk, .inr (0, [.ref q8, .ref q16, .int 0, .int 0, .ref q25, .null, .int 0, .int 0, .int 0, .int 0])), (q8, .inl (cI, 240, .inl (fun _ => 0))), (q16, .inl (cI, 120, .inl (fun _ => 0))), (q25, .inl (cJ, 480, .inr (.inl (fun _ => 0)))), (q33, .inl (cI, 121, .inl (fun _ => 0)))] H := hP
  have hD : va_D A [(zk, .inr (0, [.ref q8, .ref q16, .int 0, .int 0, .ref q25, .null, .int 0, .int 0, .int 0, .int 0])), (q8, .inl (cI, 240, .inl (fun _ => 0))), (q16, .inl (cI, 120, .inl (fun _ => 0))), (q25, .inl (cJ, 480, .inr (.inl (fun _ => 0)))), (q33, .inl (cI, 121, .inl (fun _ => 0)))] := hD
  refine va_putF (D := (dC, dI)) (ci := 0) (v := .ref q33) (ty := .array .int) (C := RX0) (T := TX0) (N := 10) hx hb hts in_X0_init_X0 tyX0 tyX0_ok nmX0 hown hK hP hD hS 0 rfl rfl 5 (by decide) (hts _ m_X0_init_9) (fun _ h9 => h9) rfl hin rfl (by decide +kernel) rfl rfl (Nat.le_of_ble_eq_true rfl) dX0_init_35 (fun H locs hP hD hS => ?_)
  have hP : va_P (dC, dI) vwCl [(zk, .inr (0, [.ref q8, .ref q16, .int 0, .int 0, .ref q25, .ref q33, .int 0, .int 0, .int 0, .int 0])), (q8, .inl (cI, 240, .inl (fun _ => 0))), (q16, .inl (cI, 120, .inl (fun _ => 0))), (q25, .inl (cJ, 480, .inr (.inl (fun _ => 0)))), (q33, .inl (cI, 121, .inl (fun _ => 0)))] H := hP
  have hD : va_D A [(zk, .inr (0, [.ref q8, .ref q16, .int 0, .int 0, .ref q25, .ref q33, .int 0, .int 0, .int 0, .int 0])), (q8, .inl (cI, 240, .inl (fun _ => 0))), (q16, .inl (cI, 120, .inl (fun _ => 0))), (q25, .inl (cJ, 480, .inr (.inl (fun _ => 0)))), (q33, .inl (cI, 121, .inl (fun _ => 0)))] := hD
  refine W.widen (k := 4) (n := 961) (Nat.le_of_ble_eq_true rfl) (Nat.le_of_ble_eq_true rfl) ?_
  exact W.vret hx hb hr (fun t ht hW => ⟨⟨(q8, q16, q25, q33), rfl, trivial, ⟨by rw [ht]; exact hP, hD⟩⟩, hS.F ht⟩) hS.2.2 dX0_init_38
