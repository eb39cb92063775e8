theorem dX5_type_0 : decode cX5_type 0 = .ok (.iload_n 3, 1) := by decide +kernel
theorem dX5_type_1 : decode cX5_type 1 = .ok (.iconst 1, 1) := by decide +kernel
theorem dX5_type_2 : decode cX5_type 2 = .ok (.if_icmp .lt 17, 3) := by decide +kernel
theorem dX5_type_19 : decode cX5_type 19 = .ok (.iconst (-1), 1) := by decide +kernel
theorem dX5_type_20 : decode cX5_type 20 = .ok (.ireturn, 1) := by decide +kernel
theorem dX5_type_5 : decode cX5_type 5 = .ok (.iload_n 3, 1) := by decide +kernel
theorem dX5_type_6 : decode cX5_type 6 = .ok (.bipush 8, 2) := by decide +kernel
theorem dX5_type_8 : decode cX5_type 8 = .ok (.if_icmp .gt 11, 3) := by decide +kernel
theorem dX5_type_11 : decode cX5_type 11 = .ok (.lload_n 1, 1) := by decide +kernel
theorem dX5_type_12 : decode cX5_type 12 = .ok (.iload_n 3, 1) := by decide +kernel
theorem dX5_type_13 : decode cX5_type 13 = .ok (.invokestatic 47, 3) := by decide +kernel
set_option maxRecDepth 20000 in
theorem ggX5_type_X5_areBytes : GoodIn wsX5_type wsX5_areBytes := goodIn_r _ [6, 7, 8, 5, 9, 10] (by decide +kernel) (by decide +kernel)
set_option maxRecDepth 20000 in
theorem gX5_type_X5_areBytes : GoodIn wsX5_type (va_wsS RX5 47 yX5_areBytes wsX5_areBytes) := goodIn_app (goodIn_of _ (by decide +kernel)) ggX5_type_X5_areBytes
theorem dX5_type_16 : decode cX5_type 16 = .ok (.ifCond .ne 5, 3) := by decide +kernel
theorem dX5_type_21 : decode cX5_type 21 = .ok (.iload_n 3, 1) := by decide +kernel
theorem dX5_type_22 : decode cX5_type 22 = .ok (.bipush 120, 2) := by decide +kernel
theorem dX5_type_24 : decode cX5_type 24 = .ok (.aload_n 0, 1) := by decide +kernel
theorem dX5_type_25 : decode cX5_type 25 = .ok (.getfield 10, 3) := by decide +kernel
theorem in_X5_type_X5 : ∀ w ∈ wsX50, w ∈ wsX5_type := by decide +kernel
theorem m_X5_type_1 : (.fieldLink RX5 10 "RedlineDesk" "tape" "LRedlineDesk$Tape;" : Cond) ∈ wsX5_type := List.mem_of_getElem? (i := 1) (by decide +kernel)
theorem dX5_type_28 : decode cX5_type 28 = .ok (.getfield 51, 3) := by decide +kernel
theorem in_X5_type_X3 : ∀ w ∈ wsX30, w ∈ wsX5_type := by decide +kernel
theorem m_X5_type_2 : (.fieldLink RX5 51 "RedlineDesk$Tape" "size" "I" : Cond) ∈ wsX5_type := List.mem_of_getElem? (i := 2) (by decide +kernel)
theorem dX5_type_31 : decode cX5_type 31 = .ok (.isub, 1) := by decide +kernel
theorem dX5_type_32 : decode cX5_type 32 = .ok (.if_icmp .le 6, 3) := by decide +kernel
theorem dX5_type_38 : decode cX5_type 38 = .ok (.iload_n 3, 1) := by decide +kernel
theorem dX5_type_39 : decode cX5_type 39 = .ok (.iconst 1, 1) := by decide +kernel
theorem dX5_type_40 : decode cX5_type 40 = .ok (.isub, 1) := by decide +kernel
theorem dX5_type_41 : decode cX5_type 41 = .ok (.istore 4, 2) := by decide +kernel
theorem dX5_type_43 : decode cX5_type 43 = .ok (.iload 4, 2) := by decide +kernel
theorem dX5_type_45 : decode cX5_type 45 = .ok (.ifCond .lt 22, 3) := by decide +kernel
theorem dX5_type_67 : decode cX5_type 67 = .ok (.aload_n 0, 1) := by decide +kernel
theorem dX5_type_68 : decode cX5_type 68 = .ok (.getfield 10, 3) := by decide +kernel
theorem dX5_type_71 : decode cX5_type 71 = .ok (.getfield 51, 3) := by decide +kernel
theorem dX5_type_74 : decode cX5_type 74 = .ok (.ireturn, 1) := by decide +kernel
theorem dX5_type_48 : decode cX5_type 48 = .ok (.aload_n 0, 1) := by decide +kernel
theorem dX5_type_49 : decode cX5_type 49 = .ok (.getfield 10, 3) := by decide +kernel
theorem dX5_type_52 : decode cX5_type 52 = .ok (.lload_n 1, 1) := by decide +kernel
theorem dX5_type_53 : decode cX5_type 53 = .ok (.iload 4, 2) := by decide +kernel
theorem dX5_type_55 : decode cX5_type 55 = .ok (.invokestatic 55, 3) := by decide +kernel
set_option maxRecDepth 20000 in
theorem ggX5_type_X5_byteOf : GoodIn wsX5_type wsX5_byteOf := goodIn_r _ [9, 10] (by decide +kernel) (by decide +kernel)
set_option maxRecDepth 20000 in
theorem gX5_type_X5_byteOf : GoodIn wsX5_type (va_wsS RX5 55 yX5_byteOf wsX5_byteOf) := goodIn_app (goodIn_of _ (by decide +kernel)) ggX5_type_X5_byteOf
theorem dX5_type_58 : decode cX5_type 58 = .ok (.invokevirtual 59, 3) := by decide +kernel
set_option maxRecDepth 20000 in
theorem ggX5_type_X3_add : GoodIn wsX5_type wsX3_add := goodIn_r _ [15, 16, 17, 24, 25] (by decide +kernel) (by decide +kernel)
set_option maxRecDepth 20000 in
theorem gX5_type_X3_add : GoodIn wsX5_type (wsV RX5 59 RX3 yX3_add wsX3_add) := goodIn_app (goodIn_of _ (by decide +kernel)) ggX5_type_X3_add
theorem dX5_type_61 : decode cX5_type 61 = .ok (.iinc 4 (-1), 3) := by decide +kernel
theorem dX5_type_64 : decode cX5_type 64 = .ok (.goto (-21), 3) := by decide +kernel
theorem dX5_type_35 : decode cX5_type 35 = .ok (.bipush (-3), 2) := by decide +kernel
theorem dX5_type_37 : decode cX5_type 37 = .ok (.ireturn, 1) := by decide +kernel
def f_X5_type_k61_u_13 (v4_9 : Int32) (K_f_X5_type_L43 : Int32 → (Nat → Int32) → Int32 → Int32 × (Nat → Int32) × Int32) (u_13 : (Nat → Int32) × Int32) : Int32 × (Nat → Int32) × Int32 := K_f_X5_type_L43 (v4_9 + (-1 : Int32)) u_13.1 u_13.2
def f_X5_type_L43 (a_w : Int64) : Nat → Int32 → (Nat → Int32) → Int32 → Int32 × (Nat → Int32) × Int32
  | 0, _, _, _ => (0, (fun _ => 0), 0)
  | n_9 + 1, v4_9, zt_bytes_9, zt_size_9 => if v4_9 < (0 : Int32) then (zt_size_9, zt_bytes_9, zt_size_9) else f_X5_type_k61_u_13 v4_9 (f_X5_type_L43 a_w n_9) (f_X3_add zt_bytes_9 zt_size_9 (f_X5_byteOf a_w v4_9))
def f_X5_type (zt_bytes : Nat → Int32) (zt_size : Int32) (a_w : Int64) (a_n : Int32) : Int32 × (Nat → Int32) × Int32 := if a_n < (1 : Int32) then ((-1 : Int32), zt_bytes, zt_size) else if (8 : Int32) < a_n then ((-1 : Int32), zt_bytes, zt_size) else if (f_X5_areBytes a_w a_n) = (0 : Int32) then ((-1 : Int32), zt_bytes, zt_size) else if a_n ≤ ((120 : Int32) - zt_size) then f_X5_type_L43 a_w 9 (a_n - (1 : Int32)) zt_bytes zt_size else ((-3 : Int32), zt_bytes, zt_size)
set_option maxHeartbeats 4000000 in
set_option maxRecDepth 100000 in
theorem c_X5_type (l : Launch) (dC : Nat → ClassId) (dI : Nat → Nat → Nat) (cI cJ : ClassId) (sz : Nat) (zd zt azt_bytes zr zw zg zv zk : Nat) (zt_bytes : Nat → Int32) (zt_size : Int32) (a_w : Int64) (a_n : Int32) : Met l yX5_type wsX5_type ({ frames := 2, cells := 0, slots := 0, locals := 46 } : Room) (va_Pc [.ref zd, .long a_w, .int a_n] (PreW dC dI cI cJ sz [(zd, .inr (5, [.ref zt, .ref zr, .ref zw, .ref zg, .ref zv, .ref zk])), (zt, .inr (3, [.ref azt_bytes, .int zt_size])), (azt_bytes, .inl (cI, 120, .inl zt_bytes))])) (va_Qi (fun (r : Int32) (u : (Nat → Int32) × Int32) => r = (f_X5_type zt_bytes zt_size a_w a_n).1 ∧ u = (f_X5_type zt_bytes zt_size a_w a_n).2) (fun (u : (Nat → Int32) × Int32) t => PostW dC dI [(zd, .inr (5, [.ref zt, .ref zr, .ref zw, .ref zg, .ref zv, .ref zk])), (zt, .inr (3, [.ref azt_bytes, .int u.2])), (azt_bytes, .inl (cI, 120, .inl u.1))] t (va_A [(zd, .inr (5, [.ref zt, .ref zr, .ref zw, .ref zg, .ref zv, .ref zk])), (zt, .inr (3, [.ref azt_bytes, .int zt_size])), (azt_bytes, .inl (cI, 120, .inl zt_bytes))] sz)) (va_A [(zd, .inr (5, [.ref zt, .ref zr, .ref zw, .ref zg, .ref zv, .ref zk])), (zt, .inr (3, [.ref azt_bytes, .int zt_size])), (azt_bytes, .inl (cI, 120, .inl zt_bytes))] sz)) 0 0 (va_A [(zd, .inr (5, [.ref zt, .ref zr, .ref zw, .ref zg, .ref zv, .ref zk])), (zt, .inr (3, [.ref azt_bytes, .int zt_size])), (azt_bytes, .inl (cI, 120, .inl zt_bytes))] sz) := by
  refine Met.ofW (cc := cX5_type) (maxL := 5) (ret := (some .int)) (by decide) rfl ?_
  intro p e s m args below meth c s₁ B hml hv
  obtain ⟨rfl, hsz, hP, hK, hN, hD0⟩ := hv
  have hx := B.exec
  have hb := B.bytes
  have hr := B.returns
  have hts := atoms_spec (ws := wsX5_type) B.pre
  have hown : s.vm.findClass RX5 = some m.cls := findClass_of_methodNamed B.named
  have hlocks := B.notSynchronized
  subst hsz
  have hD := hD0.self (sz := s.heap.size)
  generalize hAe : va_A [(zd, .inr (5, [.ref zt, .ref zr, .ref zw, .ref zg, .ref zv, .ref zk])), (zt, .inr (3, [.ref azt_bytes, .int zt_size])), (azt_bytes, .inl (cI, 120, .inl zt_bytes))] s.heap.size = A at hD ⊢
  have hA : ∀ q : Nat, s.heap.size ≤ q → A q := fun q h => by rw [← hAe]; exact Or.inr h
  have hS : va_S A s.heap s.heap [] := va_S.rf
  have hP : va_P (dC, dI) vwCl [(zd, .inr (5, [.ref zt, .ref zr, .ref zw, .ref zg, .ref zv, .ref zk])), (zt, .inr (3, [.ref azt_bytes, .int zt_size])), (azt_bytes, .inl (cI, 120, .inl zt_bytes))] s.heap := hP
  have hl := lv_entry ([.ref zd, .long a_w, .int a_n]) (n := 5) (Nat.le_of_ble_eq_true rfl)
  rw [lg_entry_eq]
  generalize (lg_sl ([.ref zd, .long a_w, .int a_n]) ++ List.replicate (5 - (lg_sl ([.ref zd, .long a_w, .int a_n])).length) Slot.unset).toArray = ls at hl ⊢
  have hl : lv_has ls 5 [(0, .ref zd), (1, .long a_w), (3, .int a_n)] := hl
  refine W_nm (fun QQ hQQ => ?_)
  refine lv_iload_n hx hb dX5_type_0 rfl (lv_at hl 2 rfl) ?_
  refine lv_iconst (v := (1 : Int32)) hx hb dX5_type_1 (by decide) ?_
  refine lv_icmp_lt (tgt := 19) hx hb dX5_type_2 (by decide) (fun c_1 => ?_) (fun c_1 => ?_)
  · have tc_1 : a_n.toInt < (1 : Int) := q_lt c_1
    refine lv_iconst (v := (-1 : Int32)) hx hb dX5_type_19 (by decide) ?_
    rw [hQQ]
    have hE : f_X5_type zt_bytes zt_size a_w a_n = ((-1 : Int32), zt_bytes, zt_size) := (by rw [f_X5_type, if_pos c_1])
    exact W.iret (v := (-1 : Int32)) hx hb hr (fun t ht hW => ⟨⟨(-1 : Int32), (zt_bytes, zt_size), rfl, ⟨by rw [hE], by rw [hE]⟩, ⟨by rw [ht]; exact hP, hD⟩⟩, hS.F ht⟩) hS.2.2 dX5_type_20
  · have tc_1 : (1 : Int) ≤ a_n.toInt := q_nlt c_1
    refine lv_iload_n hx hb dX5_type_5 rfl (lv_at hl 2 rfl) ?_
    refine lv_bipush (v := (8 : Int32)) hx hb dX5_type_6 (by decide) ?_
    refine lv_icmp_gt (tgt := 19) hx hb dX5_type_8 (by decide) (fun c_2 => ?_) (fun c_2 => ?_)
    · have tc_2 : (8 : Int) < a_n.toInt := q_lt c_2
      refine lv_iconst (v := (-1 : Int32)) hx hb dX5_type_19 (by decide) ?_
      rw [hQQ]
      have hE : f_X5_type zt_bytes zt_size a_w a_n = ((-1 : Int32), zt_bytes, zt_size) := (by rw [f_X5_type, if_neg c_1, if_pos c_2])
      exact W.iret (v := (-1 : Int32)) hx hb hr (fun t ht hW => ⟨⟨(-1 : Int32), (zt_bytes, zt_size), rfl, ⟨by rw [hE], by rw [hE]⟩, ⟨by rw [ht]; exact hP, hD⟩⟩, hS.F ht⟩) hS.2.2 dX5_type_20
    · have tc_2 : a_n.toInt ≤ (8 : Int) := q_nlt c_2
      refine lv_lload_n hx hb dX5_type_11 rfl (lv_at hl 1 rfl) ?_
      refine lv_iload_n hx hb dX5_type_12 rfl (lv_at hl 2 rfl) ?_
      have hPc := hP.sub (ws' := []) [] rfl
      have hDc := hD.sub (ws' := []) [] (by decide) rfl
      refine va_calli (va_runS (As := [.long a_w, .int a_n]) (rest := []) ⟨hx, hb, hml, hown, hts⟩ (c_X5_areBytes l dC dI cI cJ s.heap.size a_w a_n) (va_cwS 2 hts gX5_type_X5_areBytes rfl rfl rfl (by decide +kernel) ⟨Nat.le_of_ble_eq_true rfl, Nat.le_of_ble_eq_true rfl⟩) ⟨fun a U g mk q => ⟨q.1, PreW.call g mk a q.2⟩, fun U hU hW => ⟨rfl, PreW.mk2 hU hW hPc hK hN (hDc.weaken (fun _ _ _ _ => trivial))⟩⟩ rfl rfl hl.1 rfl (lv_room (Nat.le_of_ble_eq_true rfl)) dX5_type_13 ⟨Nat.le_of_ble_eq_true rfl, Nat.le_of_ble_eq_true rfl⟩) hS (fun q hq h => absurd hq (Nat.not_lt.mpr h)) (fun q h => hA q (Nat.le_trans hS.1 h)) (fun r_3 _u t H1 locs ht hvm hw hB hz1 hk1 hS => ?_)
      have hP := va_ro hP hk1
      generalize H1 = H at hP hS ⊢
      have hw : r_3 = f_X5_areBytes a_w a_n := hw
      subst hw
      obtain ⟨z_4, hz_4⟩ : ∃ z : Int32, z = f_X5_areBytes a_w a_n := ⟨_, rfl⟩
      refine lv_if_ne (tgt := 21) hx hb dX5_type_16 (by decide) (fun c_5 => ?_) (fun c_5 => ?_)
      · have tc_5 : ¬ z_4.toInt = (0 : Int) := by rw [hz_4]; exact q_ne c_5
        refine lv_iload_n hx hb dX5_type_21 rfl (lv_at hl 2 rfl) ?_
        refine lv_bipush (v := (120 : Int32)) hx hb dX5_type_22 (by decide) ?_
        refine lv_aload_n hx hb dX5_type_24 rfl (lv_at hl 0 rfl) ?_
        refine va_get (D := (dC, dI)) (ci := 5) (v := .ref zt) (C := RX5) (T := TX5) (N := 6) hx hb hts in_X5_type_X5 hown hK hP 0 rfl rfl 0 (by decide) (hts _ m_X5_type_1) (fun _ h9 => h9) rfl dX5_type_25 ?_
        refine va_get (D := (dC, dI)) (ci := 3) (v := .int zt_size) (C := RX3) (T := TX3) (N := 2) hx hb hts in_X5_type_X3 hown hK hP 1 rfl rfl 1 (by decide) (hts _ m_X5_type_2) (fun _ h9 => h9) rfl dX5_type_28 ?_
        refine lv_isub hx hb dX5_type_31 ?_
        obtain ⟨z_6, hz_6⟩ : ∃ z : Int32, z = ((120 : Int32) - zt_size) := ⟨_, rfl⟩
        try have gz_6 : z_6.toInt = (120 : Int) - zt_size.toInt := by rw [hz_6]; exact ti_sub2 rfl rfl (by omega) (by omega)
        refine lv_icmp_le (tgt := 38) hx hb dX5_type_32 (by decide) (fun c_7 => ?_) (fun c_7 => ?_)
        · have tc_7 : a_n.toInt ≤ z_6.toInt := by rw [hz_6]; exact q_le c_7
          refine lv_iload_n hx hb dX5_type_38 rfl (lv_at hl 2 rfl) ?_
          refine lv_iconst (v := (1 : Int32)) hx hb dX5_type_39 (by decide) ?_
          refine lv_isub hx hb dX5_type_40 ?_
          obtain ⟨z_8, hz_8⟩ : ∃ z : Int32, z = (a_n - (1 : Int32)) := ⟨_, rfl⟩
          try have gz_8 : z_8.toInt = a_n.toInt - (1 : Int) := by rw [hz_8]; exact ti_sub2 rfl rfl (by omega) (by omega)
          refine lv_istore (lv' := [(4, .int (a_n - (1 : Int32))), (0, .ref zd), (1, .long a_w), (3, .int a_n)]) hx hb dX5_type_41 hl (by decide) rfl (fun ls hl => ?_)
          have hloop_9 : ∀ (n_9 : Nat) (v4_9 : Int32) (zt_bytes_9 : Nat → Int32) (zt_size_9 : Int32) , (-1 ≤ v4_9.toInt) → (v4_9.toInt ≤ 7) → (v4_9.toInt + 1).toNat < n_9 → f_X5_type zt_bytes zt_size a_w a_n = f_X5_type_L43 a_w n_9 v4_9 zt_bytes_9 zt_size_9 → ∀ (H : Heap) (locs : List Loc), va_P (dC, dI) vwCl [(zd, .inr (5, [.ref zt, .ref zr, .ref zw, .ref zg, .ref zv, .ref zk])), (zt, .inr (3, [.ref azt_bytes, .int zt_size_9])), (azt_bytes, .inl (cI, 120, .inl zt_bytes_9))] H → va_D A [(zd, .inr (5, [.ref zt, .ref zr, .ref zw, .ref zg, .ref zv, .ref zk])), (zt, .inr (3, [.ref azt_bytes, .int zt_size_9])), (azt_bytes, .inl (cI, 120, .inl zt_bytes_9))] → va_S A s.heap H locs → ∀ ls : Array Slot, lv_has ls 5 [(0, .ref zd), (1, .long a_w), (3, .int a_n), (4, .int v4_9)] → W p l e (headSpec wsX5_type ({ frames := 2, cells := 0, slots := 0, locals := 46 } : Room)).room s m ([.ref zd, .long a_w, .int a_n] : List Value).toArray below meth c H locs 0 0 QQ (F0 m 43 ls []) := by
            intro n_9
            induction n_9 with
            | zero => intro v4_9 zt_bytes_9 zt_size_9 hi0_9 hi1_9 hmu; exact absurd hmu (Nat.not_lt_zero _)
            | succ n_9 ih_9 =>
              intro v4_9 zt_bytes_9 zt_size_9 hi0_9 hi1_9 hmu_9 hI_9 H locs hP hD hS ls hl
              refine lv_iload hx hb dX5_type_43 (lv_at hl 3 rfl) ?_
              refine lv_if_lt (tgt := 67) hx hb dX5_type_45 (by decide) (fun c_10 => ?_) (fun c_10 => ?_)
              · have tc_10 : v4_9.toInt < (0 : Int) := q_lt c_10
                refine lv_aload_n hx hb dX5_type_67 rfl (lv_at hl 0 rfl) ?_
                refine va_get (D := (dC, dI)) (ci := 5) (v := .ref zt) (C := RX5) (T := TX5) (N := 6) hx hb hts in_X5_type_X5 hown hK hP 0 rfl rfl 0 (by decide) (hts _ m_X5_type_1) (fun _ h9 => h9) rfl dX5_type_68 ?_
                refine va_get (D := (dC, dI)) (ci := 3) (v := .int zt_size_9) (C := RX3) (T := TX3) (N := 2) hx hb hts in_X5_type_X3 hown hK hP 1 rfl rfl 1 (by decide) (hts _ m_X5_type_2) (fun _ h9 => h9) rfl dX5_type_71 ?_
                rw [hQQ]
                have hE : f_X5_type zt_bytes zt_size a_w a_n = (zt_size_9, zt_bytes_9, zt_size_9) := (hI_9.trans (by rw [f_X5_type_L43, if_pos c_10]))
                exact W.iret (v := zt_size_9) hx hb hr (fun t ht hW => ⟨⟨zt_size_9, (zt_bytes_9, zt_size_9), rfl, ⟨by rw [hE], by rw [hE]⟩, ⟨by rw [ht]; exact hP, hD⟩⟩, hS.F ht⟩) hS.2.2 dX5_type_74
              · have tc_10 : (0 : Int) ≤ v4_9.toInt := q_nlt c_10
                refine lv_aload_n hx hb dX5_type_48 rfl (lv_at hl 0 rfl) ?_
                refine va_get (D := (dC, dI)) (ci := 5) (v := .ref zt) (C := RX5) (T := TX5) (N := 6) hx hb hts in_X5_type_X5 hown hK hP 0 rfl rfl 0 (by decide) (hts _ m_X5_type_1) (fun _ h9 => h9) rfl dX5_type_49 ?_
                refine lv_lload_n hx hb dX5_type_52 rfl (lv_at hl 1 rfl) ?_
                refine lv_iload hx hb dX5_type_53 (lv_at hl 3 rfl) ?_
                have hPc := hP.sub (ws' := []) [] rfl
                have hDc := hD.sub (ws' := []) [] (by decide) rfl
                refine va_calli (va_runS (As := [.long a_w, .int v4_9]) (rest := [.ref zt]) ⟨hx, hb, hml, hown, hts⟩ (c_X5_byteOf l dC dI cI cJ H.size a_w v4_9) (va_cwS 2 hts gX5_type_X5_byteOf rfl rfl rfl (by decide +kernel) ⟨Nat.le_of_ble_eq_true rfl, Nat.le_of_ble_eq_true rfl⟩) ⟨fun a U g mk q => ⟨q.1, PreW.call g mk a q.2⟩, fun U hU hW => ⟨rfl, PreW.mk2 hU hW hPc hK hN (hDc.weaken (fun _ _ _ _ => trivial))⟩⟩ rfl rfl hl.1 rfl (lv_room (Nat.le_of_ble_eq_true rfl)) dX5_type_55 ⟨Nat.le_of_ble_eq_true rfl, Nat.le_of_ble_eq_true rfl⟩) hS (fun q hq h => absurd hq (Nat.not_lt.mpr h)) (fun q h => hA q (Nat.le_trans hS.1 h)) (fun r_11 _u t H1 locs ht hvm hw hB hz1 hk1 hS => ?_)
                have hP := va_ro hP hk1
                generalize H1 = H at hP hS ⊢
                have hw : r_11 = f_X5_byteOf a_w v4_9 := hw
                subst hw
                obtain ⟨z_12, hz_12⟩ : ∃ z : Int32, z = f_X5_byteOf a_w v4_9 := ⟨_, rfl⟩
                have hPc := hP.sub (ws' := [(zt, .inr (3, [.ref azt_bytes, .int zt_size_9])), (azt_bytes, .inl (cI, 120, .inl zt_bytes_9))]) [1, 2] rfl
                have hDc := hD.sub (ws' := [(zt, .inr (3, [.ref azt_bytes, .int zt_size_9])), (azt_bytes, .inl (cI, 120, .inl zt_bytes_9))]) [1, 2] (by decide) rfl
                have hFc := va_free (wc := [(zt, .inr (3, [.ref azt_bytes, .int zt_size_9])), (azt_bytes, .inl (cI, 120, .inl zt_bytes_9))]) hD hS hA [1, 2] rfl
                refine va_callv (va_runV (As := [.int (f_X5_byteOf a_w v4_9)]) (rest := []) ⟨hx, hb, hml, hown, hts⟩ (c_X3_add l dC dI cI cJ H.size zt azt_bytes zt_bytes_9 zt_size_9 (f_X5_byteOf a_w v4_9)) (cwV 1 hts gX5_type_X3_add rfl rfl rfl (by decide +kernel) ⟨Nat.le_of_ble_eq_true rfl, Nat.le_of_ble_eq_true rfl⟩) ⟨fun a U g mk q => ⟨q.1, PreW.call g mk a q.2⟩, va_recv hK hP (ci := 3) (q0 := 1) rfl rfl, fun U hU hW => ⟨rfl, PreW.mk2 hU hW hPc hK hN (hDc.weaken (fun _ _ _ _ => trivial))⟩⟩ rfl rfl hl.1 rfl (lv_room (Nat.le_of_ble_eq_true rfl)) dX5_type_58 ⟨Nat.le_of_ble_eq_true rfl, Nat.le_of_ble_eq_true rfl⟩) hS (fun q _ h => hFc q h) hFc (fun u_13 t H1 locs ht hvm hw hB hz1 hk1 hS => ?_)
                obtain ⟨hB1, hB2⟩ : PostW dC dI [(zt, .inr (3, [.ref azt_bytes, .int u_13.2])), (azt_bytes, .inl (cI, 120, .inl u_13.1))] t _ := hB
                rw [ht] at hB1
                obtain ⟨hP, hD⟩ := va_join (wr := [(zd, .inr (5, [.ref zt, .ref zr, .ref zw, .ref zg, .ref zv, .ref zk]))]) (w1 := [(zt, .inr (3, [.ref azt_bytes, .int u_13.2])), (azt_bytes, .inl (cI, 120, .inl u_13.1))]) hP hD [1, 2] [0] rfl rfl (by decide) (by decide) hk1 hFc hB1 hB2
                generalize H1 = H at hP hS ⊢
                have hP : va_P (dC, dI) vwCl [(zd, .inr (5, [.ref zt, .ref zr, .ref zw, .ref zg, .ref zv, .ref zk])), (zt, .inr (3, [.ref azt_bytes, .int u_13.2])), (azt_bytes, .inl (cI, 120, .inl u_13.1))] H := hP
                have hD : va_D A [(zd, .inr (5, [.ref zt, .ref zr, .ref zw, .ref zg, .ref zv, .ref zk])), (zt, .inr (3, [.ref azt_bytes, .int u_13.2])), (azt_bytes, .inl (cI, 120, .inl u_13.1))] := hD
                have hw2 : u_13 = f_X3_add zt_bytes_9 zt_size_9 (f_X5_byteOf a_w v4_9) := hw
                have hI14 : f_X5_type zt_bytes zt_size a_w a_n = f_X5_type_k61_u_13 v4_9 (f_X5_type_L43 a_w n_9) u_13 := (hI_9.trans (by rw [hw2]; rw [f_X5_type_L43, if_neg c_10]))
                refine lv_iinc (v := (v4_9 + (-1 : Int32))) (lv' := [(4, .int (v4_9 + (-1 : Int32))), (0, .ref zd), (1, .long a_w), (3, .int a_n)]) hx hb dX5_type_61 hl (k := 3) rfl rfl (by decide) rfl (fun ls hl => ?_)
                obtain ⟨z_15, hz_15⟩ : ∃ z : Int32, z = (v4_9 + (-1 : Int32)) := ⟨_, rfl⟩
                try have gz_15 : z_15.toInt = v4_9.toInt + (-1 : Int) := by rw [hz_15]; exact ti_add2 rfl rfl (by omega) (by omega)
                refine lv_goto (tgt := 43) hx hb dX5_type_64 (by decide) ?_
                exact ih_9 (v4_9 + (-1 : Int32)) u_13.1 u_13.2 (by rw [← hz_15]; omega) (by rw [← hz_15]; omega) (by rw [← hz_15]; omega) (hI14.trans (by rw [f_X5_type_k61_u_13])) _ _ hP hD hS ls (lv_sub hl [1, 2, 3, 0] rfl)
          exact hloop_9 9 (a_n - (1 : Int32)) zt_bytes zt_size (by rw [← hz_8]; omega) (by rw [← hz_8]; omega) (by rw [← hz_8]; omega) (by rw [f_X5_type, if_neg c_1, if_neg c_2, if_neg c_5, if_pos c_7]) _ _ hP hD hS ls (lv_sub hl [1, 2, 3, 0] rfl)
        · have tc_7 : z_6.toInt < a_n.toInt := by rw [hz_6]; exact q_nle c_7
          refine lv_bipush (v := (-3 : Int32)) hx hb dX5_type_35 (by decide) ?_
          rw [hQQ]
          have hE : f_X5_type zt_bytes zt_size a_w a_n = ((-3 : Int32), zt_bytes, zt_size) := (by rw [f_X5_type, if_neg c_1, if_neg c_2, if_neg c_5, if_neg c_7])
          exact W.iret (v := (-3 : Int32)) hx hb hr (fun t ht hW => ⟨⟨(-3 : Int32), (zt_bytes, zt_size), rfl, ⟨by rw [hE], by rw [hE]⟩, ⟨by rw [ht]; exact hP, hD⟩⟩, hS.F ht⟩) hS.2.2 dX5_type_37
      · have tc_5 : z_4.toInt = (0 : Int) := by rw [hz_4]; exact q_eq c_5
        refine lv_iconst (v := (-1 : Int32)) hx hb dX5_type_19 (by decide) ?_
        rw [hQQ]
        have hE : f_X5_type zt_bytes zt_size a_w a_n = ((-1 : Int32), zt_bytes, zt_size) := (by rw [f_X5_type, if_neg c_1, if_neg c_2, if_pos c_5])
        exact W.iret (v := (-1 : Int32)) hx hb hr (fun t ht hW => ⟨⟨(-1 : Int32), (zt_bytes, zt_size), rfl, ⟨by rw [hE], by rw [hE]⟩, ⟨by rw [ht]; exact hP, hD⟩⟩, hS.F ht⟩) hS.2.2 dX5_type_20
