theorem dX2_makeRoom_0 : decode cX2_makeRoom 0 = .ok (.aload_n 0, 1) := by decide +kernel
theorem dX2_makeRoom_1 : decode cX2_makeRoom 1 = .ok (.getfield 27, 3) := by decide +kernel
theorem in_X2_makeRoom_X2 : ∀ w ∈ wsX20, w ∈ wsX2_makeRoom := by decide +kernel
theorem m_X2_makeRoom_1 : (.fieldLink RX2 27 "RedlineDesk$Row" "size" "I" : Cond) ∈ wsX2_makeRoom := List.mem_of_getElem? (i := 1) (by decide +kernel)
theorem dX2_makeRoom_4 : decode cX2_makeRoom 4 = .ok (.ifCond .lt 27, 3) := by decide +kernel
theorem dX2_makeRoom_31 : decode cX2_makeRoom 31 = .ok (.iconst 0, 1) := by decide +kernel
theorem dX2_makeRoom_32 : decode cX2_makeRoom 32 = .ok (.ireturn, 1) := by decide +kernel
theorem dX2_makeRoom_7 : decode cX2_makeRoom 7 = .ok (.iload_n 1, 1) := by decide +kernel
theorem dX2_makeRoom_8 : decode cX2_makeRoom 8 = .ok (.ifCond .lt 23, 3) := by decide +kernel
theorem dX2_makeRoom_11 : decode cX2_makeRoom 11 = .ok (.iload_n 1, 1) := by decide +kernel
theorem dX2_makeRoom_12 : decode cX2_makeRoom 12 = .ok (.aload_n 0, 1) := by decide +kernel
theorem dX2_makeRoom_13 : decode cX2_makeRoom 13 = .ok (.getfield 27, 3) := by decide +kernel
theorem dX2_makeRoom_16 : decode cX2_makeRoom 16 = .ok (.if_icmp .gt 15, 3) := by decide +kernel
theorem dX2_makeRoom_19 : decode cX2_makeRoom 19 = .ok (.iload_n 2, 1) := by decide +kernel
theorem dX2_makeRoom_20 : decode cX2_makeRoom 20 = .ok (.ifCond .lt 11, 3) := by decide +kernel
theorem dX2_makeRoom_23 : decode cX2_makeRoom 23 = .ok (.iload_n 2, 1) := by decide +kernel
theorem dX2_makeRoom_24 : decode cX2_makeRoom 24 = .ok (.aload_n 0, 1) := by decide +kernel
theorem dX2_makeRoom_25 : decode cX2_makeRoom 25 = .ok (.invokevirtual 52, 3) := by decide +kernel
set_option maxRecDepth 20000 in
theorem ggX2_makeRoom_X2_room : GoodIn wsX2_makeRoom wsX2_room := goodIn_r _ [15, 1, 16, 17, 18, 19, 20, 21] (by decide +kernel) (by decide +kernel)
set_option maxRecDepth 20000 in
theorem gX2_makeRoom_X2_room : GoodIn wsX2_makeRoom (wsV RX2 52 RX2 yX2_room wsX2_room) := goodIn_app (goodIn_of _ (by decide +kernel)) ggX2_makeRoom_X2_room
theorem dX2_makeRoom_28 : decode cX2_makeRoom 28 = .ok (.if_icmp .le 5, 3) := by decide +kernel
theorem dX2_makeRoom_33 : decode cX2_makeRoom 33 = .ok (.aload_n 0, 1) := by decide +kernel
theorem dX2_makeRoom_34 : decode cX2_makeRoom 34 = .ok (.getfield 27, 3) := by decide +kernel
theorem dX2_makeRoom_37 : decode cX2_makeRoom 37 = .ok (.iload_n 1, 1) := by decide +kernel
theorem dX2_makeRoom_38 : decode cX2_makeRoom 38 = .ok (.isub, 1) := by decide +kernel
theorem dX2_makeRoom_39 : decode cX2_makeRoom 39 = .ok (.istore_n 3, 1) := by decide +kernel
theorem dX2_makeRoom_40 : decode cX2_makeRoom 40 = .ok (.aload_n 0, 1) := by decide +kernel
theorem dX2_makeRoom_41 : decode cX2_makeRoom 41 = .ok (.getfield 9, 3) := by decide +kernel
theorem m_X2_makeRoom_2 : (.fieldLink RX2 9 "RedlineDesk$Row" "sign" "[I" : Cond) ∈ wsX2_makeRoom := List.mem_of_getElem? (i := 2) (by decide +kernel)
theorem dX2_makeRoom_44 : decode cX2_makeRoom 44 = .ok (.iload_n 1, 1) := by decide +kernel
theorem dX2_makeRoom_45 : decode cX2_makeRoom 45 = .ok (.aload_n 0, 1) := by decide +kernel
theorem dX2_makeRoom_46 : decode cX2_makeRoom 46 = .ok (.getfield 9, 3) := by decide +kernel
theorem dX2_makeRoom_49 : decode cX2_makeRoom 49 = .ok (.iload_n 1, 1) := by decide +kernel
theorem dX2_makeRoom_50 : decode cX2_makeRoom 50 = .ok (.iload_n 2, 1) := by decide +kernel
theorem dX2_makeRoom_51 : decode cX2_makeRoom 51 = .ok (.iadd, 1) := by decide +kernel
theorem dX2_makeRoom_52 : decode cX2_makeRoom 52 = .ok (.iload_n 3, 1) := by decide +kernel
theorem dX2_makeRoom_53 : decode cX2_makeRoom 53 = .ok (.invokestatic 56, 3) := by decide +kernel
theorem m_X2_makeRoom_3 : (.methodLink RX2 56 arraycopyName : Cond) ∈ wsX2_makeRoom := List.mem_of_getElem? (i := 3) (by decide +kernel)
theorem m_X2_makeRoom_4 : (.native arraycopyName : Cond) ∈ wsX2_makeRoom := List.mem_of_getElem? (i := 4) (by decide +kernel)
theorem m_X2_makeRoom_5 : (.static arraycopyName : Cond) ∈ wsX2_makeRoom := List.mem_of_getElem? (i := 5) (by decide +kernel)
theorem m_X2_makeRoom_6 : (.initialized "java/lang/System" : Cond) ∈ wsX2_makeRoom := List.mem_of_getElem? (i := 6) (by decide +kernel)
theorem dX2_makeRoom_56 : decode cX2_makeRoom 56 = .ok (.aload_n 0, 1) := by decide +kernel
theorem dX2_makeRoom_57 : decode cX2_makeRoom 57 = .ok (.getfield 15, 3) := by decide +kernel
theorem m_X2_makeRoom_7 : (.fieldLink RX2 15 "RedlineDesk$Row" "token" "[I" : Cond) ∈ wsX2_makeRoom := List.mem_of_getElem? (i := 7) (by decide +kernel)
theorem dX2_makeRoom_60 : decode cX2_makeRoom 60 = .ok (.iload_n 1, 1) := by decide +kernel
theorem dX2_makeRoom_61 : decode cX2_makeRoom 61 = .ok (.aload_n 0, 1) := by decide +kernel
theorem dX2_makeRoom_62 : decode cX2_makeRoom 62 = .ok (.getfield 15, 3) := by decide +kernel
theorem dX2_makeRoom_65 : decode cX2_makeRoom 65 = .ok (.iload_n 1, 1) := by decide +kernel
theorem dX2_makeRoom_66 : decode cX2_makeRoom 66 = .ok (.iload_n 2, 1) := by decide +kernel
theorem dX2_makeRoom_67 : decode cX2_makeRoom 67 = .ok (.iadd, 1) := by decide +kernel
theorem dX2_makeRoom_68 : decode cX2_makeRoom 68 = .ok (.iload_n 3, 1) := by decide +kernel
theorem dX2_makeRoom_69 : decode cX2_makeRoom 69 = .ok (.invokestatic 56, 3) := by decide +kernel
theorem dX2_makeRoom_72 : decode cX2_makeRoom 72 = .ok (.aload_n 0, 1) := by decide +kernel
theorem dX2_makeRoom_73 : decode cX2_makeRoom 73 = .ok (.getfield 18, 3) := by decide +kernel
theorem m_X2_makeRoom_8 : (.fieldLink RX2 18 "RedlineDesk$Row" "in" "[I" : Cond) ∈ wsX2_makeRoom := List.mem_of_getElem? (i := 8) (by decide +kernel)
theorem dX2_makeRoom_76 : decode cX2_makeRoom 76 = .ok (.iload_n 1, 1) := by decide +kernel
theorem dX2_makeRoom_77 : decode cX2_makeRoom 77 = .ok (.aload_n 0, 1) := by decide +kernel
theorem dX2_makeRoom_78 : decode cX2_makeRoom 78 = .ok (.getfield 18, 3) := by decide +kernel
theorem dX2_makeRoom_81 : decode cX2_makeRoom 81 = .ok (.iload_n 1, 1) := by decide +kernel
theorem dX2_makeRoom_82 : decode cX2_makeRoom 82 = .ok (.iload_n 2, 1) := by decide +kernel
theorem dX2_makeRoom_83 : decode cX2_makeRoom 83 = .ok (.iadd, 1) := by decide +kernel
theorem dX2_makeRoom_84 : decode cX2_makeRoom 84 = .ok (.iload_n 3, 1) := by decide +kernel
theorem dX2_makeRoom_85 : decode cX2_makeRoom 85 = .ok (.invokestatic 56, 3) := by decide +kernel
theorem dX2_makeRoom_88 : decode cX2_makeRoom 88 = .ok (.aload_n 0, 1) := by decide +kernel
theorem dX2_makeRoom_89 : decode cX2_makeRoom 89 = .ok (.getfield 21, 3) := by decide +kernel
theorem m_X2_makeRoom_9 : (.fieldLink RX2 21 "RedlineDesk$Row" "own" "[I" : Cond) ∈ wsX2_makeRoom := List.mem_of_getElem? (i := 9) (by decide +kernel)
theorem dX2_makeRoom_92 : decode cX2_makeRoom 92 = .ok (.iload_n 1, 1) := by decide +kernel
theorem dX2_makeRoom_93 : decode cX2_makeRoom 93 = .ok (.aload_n 0, 1) := by decide +kernel
theorem dX2_makeRoom_94 : decode cX2_makeRoom 94 = .ok (.getfield 21, 3) := by decide +kernel
theorem dX2_makeRoom_97 : decode cX2_makeRoom 97 = .ok (.iload_n 1, 1) := by decide +kernel
theorem dX2_makeRoom_98 : decode cX2_makeRoom 98 = .ok (.iload_n 2, 1) := by decide +kernel
theorem dX2_makeRoom_99 : decode cX2_makeRoom 99 = .ok (.iadd, 1) := by decide +kernel
theorem dX2_makeRoom_100 : decode cX2_makeRoom 100 = .ok (.iload_n 3, 1) := by decide +kernel
theorem dX2_makeRoom_101 : decode cX2_makeRoom 101 = .ok (.invokestatic 56, 3) := by decide +kernel
theorem dX2_makeRoom_104 : decode cX2_makeRoom 104 = .ok (.aload_n 0, 1) := by decide +kernel
theorem dX2_makeRoom_105 : decode cX2_makeRoom 105 = .ok (.getfield 24, 3) := by decide +kernel
theorem m_X2_makeRoom_10 : (.fieldLink RX2 24 "RedlineDesk$Row" "since" "[I" : Cond) ∈ wsX2_makeRoom := List.mem_of_getElem? (i := 10) (by decide +kernel)
theorem dX2_makeRoom_108 : decode cX2_makeRoom 108 = .ok (.iload_n 1, 1) := by decide +kernel
theorem dX2_makeRoom_109 : decode cX2_makeRoom 109 = .ok (.aload_n 0, 1) := by decide +kernel
theorem dX2_makeRoom_110 : decode cX2_makeRoom 110 = .ok (.getfield 24, 3) := by decide +kernel
theorem dX2_makeRoom_113 : decode cX2_makeRoom 113 = .ok (.iload_n 1, 1) := by decide +kernel
theorem dX2_makeRoom_114 : decode cX2_makeRoom 114 = .ok (.iload_n 2, 1) := by decide +kernel
theorem dX2_makeRoom_115 : decode cX2_makeRoom 115 = .ok (.iadd, 1) := by decide +kernel
theorem dX2_makeRoom_116 : decode cX2_makeRoom 116 = .ok (.iload_n 3, 1) := by decide +kernel
theorem dX2_makeRoom_117 : decode cX2_makeRoom 117 = .ok (.invokestatic 56, 3) := by decide +kernel
theorem dX2_makeRoom_120 : decode cX2_makeRoom 120 = .ok (.aload_n 0, 1) := by decide +kernel
theorem dX2_makeRoom_121 : decode cX2_makeRoom 121 = .ok (.dup, 1) := by decide +kernel
theorem dX2_makeRoom_122 : decode cX2_makeRoom 122 = .ok (.getfield 27, 3) := by decide +kernel
theorem dX2_makeRoom_125 : decode cX2_makeRoom 125 = .ok (.iload_n 2, 1) := by decide +kernel
theorem dX2_makeRoom_126 : decode cX2_makeRoom 126 = .ok (.iadd, 1) := by decide +kernel
theorem dX2_makeRoom_127 : decode cX2_makeRoom 127 = .ok (.putfield 27, 3) := by decide +kernel
theorem dX2_makeRoom_130 : decode cX2_makeRoom 130 = .ok (.iconst 1, 1) := by decide +kernel
theorem dX2_makeRoom_131 : decode cX2_makeRoom 131 = .ok (.ireturn, 1) := by decide +kernel
def f_X2_makeRoom (zr_sign : Nat → Int32) (zr_token : Nat → Int32) (zr_in : Nat → Int32) (zr_own : Nat → Int32) (zr_since : Nat → Int32) (zr_size : Int32) (a_a : Int32) (a_n : Int32) : Int32 × (Nat → Int32) × (Nat → Int32) × (Nat → Int32) × (Nat → Int32) × (Nat → Int32) × Int32 := if zr_size < (0 : Int32) then ((0 : Int32), zr_sign, zr_token, zr_in, zr_own, zr_since, zr_size) else if a_a < (0 : Int32) then ((0 : Int32), zr_sign, zr_token, zr_in, zr_own, zr_since, zr_size) else if zr_size < a_a then ((0 : Int32), zr_sign, zr_token, zr_in, zr_own, zr_since, zr_size) else if a_n < (0 : Int32) then ((0 : Int32), zr_sign, zr_token, zr_in, zr_own, zr_since, zr_size) else if a_n ≤ (f_X2_room zr_size) then ((1 : Int32), (va_cpy zr_sign zr_sign (a_a).toNatClampNeg ((a_a + a_n)).toNatClampNeg ((zr_size - a_a)).toNatClampNeg), (va_cpy zr_token zr_token (a_a).toNatClampNeg ((a_a + a_n)).toNatClampNeg ((zr_size - a_a)).toNatClampNeg), (va_cpy zr_in zr_in (a_a).toNatClampNeg ((a_a + a_n)).toNatClampNeg ((zr_size - a_a)).toNatClampNeg), (va_cpy zr_own zr_own (a_a).toNatClampNeg ((a_a + a_n)).toNatClampNeg ((zr_size - a_a)).toNatClampNeg), (va_cpy zr_since zr_since (a_a).toNatClampNeg ((a_a + a_n)).toNatClampNeg ((zr_size - a_a)).toNatClampNeg), (zr_size + a_n)) else ((0 : Int32), zr_sign, zr_token, zr_in, zr_own, zr_since, zr_size)
set_option maxHeartbeats 4000000 in
set_option maxRecDepth 100000 in
theorem c_X2_makeRoom (l : Launch) (dC : Nat → ClassId) (dI : Nat → Nat → Nat) (cI cJ : ClassId) (sz : Nat) (zr azr_sign azr_token azr_in azr_own azr_since : Nat) (zr_sign zr_token zr_in zr_own zr_since : Nat → Int32) (zr_size : Int32) (a_a : Int32) (a_n : Int32) : Met l yX2_makeRoom wsX2_makeRoom ({ frames := 1, cells := 0, slots := 0, locals := 64 } : Room) (va_Pc [.ref zr, .int a_a, .int a_n] (PreW dC dI cI cJ sz [(zr, .inr (2, [.ref azr_sign, .ref azr_token, .ref azr_in, .ref azr_own, .ref azr_since, .int zr_size])), (azr_sign, .inl (cI, 240, .inl zr_sign)), (azr_token, .inl (cI, 240, .inl zr_token)), (azr_in, .inl (cI, 240, .inl zr_in)), (azr_own, .inl (cI, 240, .inl zr_own)), (azr_since, .inl (cI, 240, .inl zr_since))])) (va_Qi (fun (r : Int32) (u : (Nat → Int32) × (Nat → Int32) × (Nat → Int32) × (Nat → Int32) × (Nat → Int32) × Int32) => r = (f_X2_makeRoom zr_sign zr_token zr_in zr_own zr_since zr_size a_a a_n).1 ∧ u = (f_X2_makeRoom zr_sign zr_token zr_in zr_own zr_since zr_size a_a a_n).2) (fun (u : (Nat → Int32) × (Nat → Int32) × (Nat → Int32) × (Nat → Int32) × (Nat → Int32) × Int32) t => PostW dC dI [(zr, .inr (2, [.ref azr_sign, .ref azr_token, .ref azr_in, .ref azr_own, .ref azr_since, .int u.2.2.2.2.2])), (azr_sign, .inl (cI, 240, .inl u.1)), (azr_token, .inl (cI, 240, .inl u.2.1)), (azr_in, .inl (cI, 240, .inl u.2.2.1)), (azr_own, .inl (cI, 240, .inl u.2.2.2.1)), (azr_since, .inl (cI, 240, .inl u.2.2.2.2.1))] t (va_A [(zr, .inr (2, [.ref azr_sign, .ref azr_token, .ref azr_in, .ref azr_own, .ref azr_since, .int zr_size])), (azr_sign, .inl (cI, 240, .inl zr_sign)), (azr_token, .inl (cI, 240, .inl zr_token)), (azr_in, .inl (cI, 240, .inl zr_in)), (azr_own, .inl (cI, 240, .inl zr_own)), (azr_since, .inl (cI, 240, .inl zr_since))] sz)) (va_A [(zr, .inr (2, [.ref azr_sign, .ref azr_token, .ref azr_in, .ref azr_own, .ref azr_since, .int zr_size])), (azr_sign, .inl (cI, 240, .inl zr_sign)), (azr_token, .inl (cI, 240, .inl zr_token)), (azr_in, .inl (cI, 240, .inl zr_in)), (azr_own, .inl (cI, 240, .inl zr_own)), (azr_since, .inl (cI, 240, .inl zr_since))] sz)) 0 0 (va_A [(zr, .inr (2, [.ref azr_sign, .ref azr_token, .ref azr_in, .ref azr_own, .ref azr_since, .int zr_size])), (azr_sign, .inl (cI, 240, .inl zr_sign)), (azr_token, .inl (cI, 240, .inl zr_token)), (azr_in, .inl (cI, 240, .inl zr_in)), (azr_own, .inl (cI, 240, .inl zr_own)), (azr_since, .inl (cI, 240, .inl zr_since))] sz) := by
  refine Met.ofW (cc := cX2_makeRoom) (maxL := 4) (ret := (some .boolean)) (by decide) rfl ?_
  intro p e s m args below meth c s₁ B hml hv
  obtain ⟨rfl, hsz, hP, hK, hN, hD0⟩ := hv
  have hx := B.exec
  have hb := B.bytes
  have hr := B.returns
  have hts := atoms_spec (ws := wsX2_makeRoom) B.pre
  have hown : s.vm.findClass RX2 = some m.cls := findClass_of_methodNamed B.named
  have hlocks := B.notSynchronized
  subst hsz
  have hD := hD0.self (sz := s.heap.size)
  generalize hAe : va_A [(zr, .inr (2, [.ref azr_sign, .ref azr_token, .ref azr_in, .ref azr_own, .ref azr_since, .int zr_size])), (azr_sign, .inl (cI, 240, .inl zr_sign)), (azr_token, .inl (cI, 240, .inl zr_token)), (azr_in, .inl (cI, 240, .inl zr_in)), (azr_own, .inl (cI, 240, .inl zr_own)), (azr_since, .inl (cI, 240, .inl zr_since))] s.heap.size = A at hD ⊢
  have hA : ∀ q : Nat, s.heap.size ≤ q → A q := fun q h => by rw [← hAe]; exact Or.inr h
  have hS : va_S A s.heap s.heap [] := va_S.rf
  have hP : va_P (dC, dI) vwCl [(zr, .inr (2, [.ref azr_sign, .ref azr_token, .ref azr_in, .ref azr_own, .ref azr_since, .int zr_size])), (azr_sign, .inl (cI, 240, .inl zr_sign)), (azr_token, .inl (cI, 240, .inl zr_token)), (azr_in, .inl (cI, 240, .inl zr_in)), (azr_own, .inl (cI, 240, .inl zr_own)), (azr_since, .inl (cI, 240, .inl zr_since))] s.heap := hP
  have hl := lv_entry ([.ref zr, .int a_a, .int a_n]) (n := 4) (Nat.le_of_ble_eq_true rfl)
  rw [lg_entry_eq]
  generalize (lg_sl ([.ref zr, .int a_a, .int a_n]) ++ List.replicate (4 - (lg_sl ([.ref zr, .int a_a, .int a_n])).length) Slot.unset).toArray = ls at hl ⊢
  have hl : lv_has ls 4 [(0, .ref zr), (1, .int a_a), (2, .int a_n)] := hl
  refine lv_aload_n hx hb dX2_makeRoom_0 rfl (lv_at hl 0 rfl) ?_
  refine va_get (D := (dC, dI)) (ci := 2) (v := .int zr_size) (C := RX2) (T := TX2) (N := 6) hx hb hts in_X2_makeRoom_X2 hown hK hP 0 rfl rfl 5 (by decide) (hts _ m_X2_makeRoom_1) (fun _ h9 => h9) rfl dX2_makeRoom_1 ?_
  refine lv_if_lt (tgt := 31) hx hb dX2_makeRoom_4 (by decide) (fun c_1 => ?_) (fun c_1 => ?_)
  · have tc_1 : zr_size.toInt < (0 : Int) := q_lt c_1
    refine lv_iconst (v := (0 : Int32)) hx hb dX2_makeRoom_31 (by decide) ?_
    have hE : f_X2_makeRoom zr_sign zr_token zr_in zr_own zr_since zr_size a_a a_n = ((0 : Int32), zr_sign, zr_token, zr_in, zr_own, zr_since, zr_size) := (by rw [f_X2_makeRoom, if_pos c_1])
    exact W.zret (v := (0 : Int32)) hx hb hr (by decide) (fun t ht hW => ⟨⟨(0 : Int32), (zr_sign, zr_token, zr_in, zr_own, zr_since, zr_size), rfl, ⟨by rw [hE], by rw [hE]⟩, ⟨by rw [ht]; exact hP, hD⟩⟩, hS.F ht⟩) hS.2.2 dX2_makeRoom_32
  · have tc_1 : (0 : Int) ≤ zr_size.toInt := q_nlt c_1
    refine lv_iload_n hx hb dX2_makeRoom_7 rfl (lv_at hl 1 rfl) ?_
    refine lv_if_lt (tgt := 31) hx hb dX2_makeRoom_8 (by decide) (fun c_2 => ?_) (fun c_2 => ?_)
    · have tc_2 : a_a.toInt < (0 : Int) := q_lt c_2
      refine lv_iconst (v := (0 : Int32)) hx hb dX2_makeRoom_31 (by decide) ?_
      have hE : f_X2_makeRoom zr_sign zr_token zr_in zr_own zr_since zr_size a_a a_n = ((0 : Int32), zr_sign, zr_token, zr_in, zr_own, zr_since, zr_size) := (by rw [f_X2_makeRoom, if_neg c_1, if_pos c_2])
      exact W.zret (v := (0 : Int32)) hx hb hr (by decide) (fun t ht hW => ⟨⟨(0 : Int32), (zr_sign, zr_token, zr_in, zr_own, zr_since, zr_size), rfl, ⟨by rw [hE], by rw [hE]⟩, ⟨by rw [ht]; exact hP, hD⟩⟩, hS.F ht⟩) hS.2.2 dX2_makeRoom_32
    · have tc_2 : (0 : Int) ≤ a_a.toInt := q_nlt c_2
      refine lv_iload_n hx hb dX2_makeRoom_11 rfl (lv_at hl 1 rfl) ?_
      refine lv_aload_n hx hb dX2_makeRoom_12 rfl (lv_at hl 0 rfl) ?_
      refine va_get (D := (dC, dI)) (ci := 2) (v := .int zr_size) (C := RX2) (T := TX2) (N := 6) hx hb hts in_X2_makeRoom_X2 hown hK hP 0 rfl rfl 5 (by decide) (hts _ m_X2_makeRoom_1) (fun _ h9 => h9) rfl dX2_makeRoom_13 ?_
      refine lv_icmp_gt (tgt := 31) hx hb dX2_makeRoom_16 (by decide) (fun c_3 => ?_) (fun c_3 => ?_)
      · have tc_3 : zr_size.toInt < a_a.toInt := q_lt c_3
        refine lv_iconst (v := (0 : Int32)) hx hb dX2_makeRoom_31 (by decide) ?_
        have hE : f_X2_makeRoom zr_sign zr_token zr_in zr_own zr_since zr_size a_a a_n = ((0 : Int32), zr_sign, zr_token, zr_in, zr_own, zr_since, zr_size) := (by rw [f_X2_makeRoom, if_neg c_1, if_neg c_2, if_pos c_3])
        exact W.zret (v := (0 : Int32)) hx hb hr (by decide) (fun t ht hW => ⟨⟨(0 : Int32), (zr_sign, zr_token, zr_in, zr_own, zr_since, zr_size), rfl, ⟨by rw [hE], by rw [hE]⟩, ⟨by rw [ht]; exact hP, hD⟩⟩, hS.F ht⟩) hS.2.2 dX2_makeRoom_32
      · have tc_3 : a_a.toInt ≤ zr_size.toInt := q_nlt c_3
        refine lv_iload_n hx hb dX2_makeRoom_19 rfl (lv_at hl 2 rfl) ?_
        refine lv_if_lt (tgt := 31) hx hb dX2_makeRoom_20 (by decide) (fun c_4 => ?_) (fun c_4 => ?_)
        · have tc_4 : a_n.toInt < (0 : Int) := q_lt c_4
          refine lv_iconst (v := (0 : Int32)) hx hb dX2_makeRoom_31 (by decide) ?_
          have hE : f_X2_makeRoom zr_sign zr_token zr_in zr_own zr_since zr_size a_a a_n = ((0 : Int32), zr_sign, zr_token, zr_in, zr_own, zr_since, zr_size) := (by rw [f_X2_makeRoom, if_neg c_1, if_neg c_2, if_neg c_3, if_pos c_4])
          exact W.zret (v := (0 : Int32)) hx hb hr (by decide) (fun t ht hW => ⟨⟨(0 : Int32), (zr_sign, zr_token, zr_in, zr_own, zr_since, zr_size), rfl, ⟨by rw [hE], by rw [hE]⟩, ⟨by rw [ht]; exact hP, hD⟩⟩, hS.F ht⟩) hS.2.2 dX2_makeRoom_32
        · have tc_4 : (0 : Int) ≤ a_n.toInt := q_nlt c_4
          refine lv_iload_n hx hb dX2_makeRoom_23 rfl (lv_at hl 2 rfl) ?_
          refine lv_aload_n hx hb dX2_makeRoom_24 rfl (lv_at hl 0 rfl) ?_
          have hPc := hP.sub (ws' := [(zr, .inr (2, [.ref azr_sign, .ref azr_token, .ref azr_in, .ref azr_own, .ref azr_since, .int zr_size])), (azr_sign, .inl (cI, 240, .inl zr_sign)), (azr_token, .inl (cI, 240, .inl zr_token)), (azr_in, .inl (cI, 240, .inl zr_in)), (azr_own, .inl (cI, 240, .inl zr_own)), (azr_since, .inl (cI, 240, .inl zr_since))]) [0, 1, 2, 3, 4, 5] rfl
          have hDc := hD.sub (ws' := [(zr, .inr (2, [.ref azr_sign, .ref azr_token, .ref azr_in, .ref azr_own, .ref azr_since, .int zr_size])), (azr_sign, .inl (cI, 240, .inl zr_sign)), (azr_token, .inl (cI, 240, .inl zr_token)), (azr_in, .inl (cI, 240, .inl zr_in)), (azr_own, .inl (cI, 240, .inl zr_own)), (azr_since, .inl (cI, 240, .inl zr_since))]) [0, 1, 2, 3, 4, 5] (by decide) rfl
          refine va_calli (va_runV (As := []) (rest := [.int a_n]) ⟨hx, hb, hml, hown, hts⟩ (c_X2_room l dC dI cI cJ s.heap.size zr azr_sign azr_token azr_in azr_own azr_since zr_sign zr_token zr_in zr_own zr_since zr_size) (cwV 0 hts gX2_makeRoom_X2_room rfl rfl rfl (by decide +kernel) ⟨Nat.le_of_ble_eq_true rfl, Nat.le_of_ble_eq_true rfl⟩) ⟨fun a U g mk q => ⟨q.1, PreW.call g mk a q.2⟩, va_recv hK hP (ci := 2) (q0 := 0) rfl rfl, fun U hU hW => ⟨rfl, PreW.mk2 hU hW hPc hK hN (hDc.weaken (fun _ _ _ _ => trivial))⟩⟩ rfl rfl hl.1 rfl (lv_room (Nat.le_of_ble_eq_true rfl)) dX2_makeRoom_25 ⟨Nat.le_of_ble_eq_true rfl, Nat.le_of_ble_eq_true rfl⟩) hS (fun q hq h => absurd hq (Nat.not_lt.mpr h)) (fun q h => hA q (Nat.le_trans hS.1 h)) (fun r_5 _u t H1 locs ht hvm hw hB hz1 hk1 hS => ?_)
          have hP := va_ro hP hk1
          generalize H1 = H at hP hS ⊢
          have hw : r_5 = f_X2_room zr_size := hw
          subst hw
          obtain ⟨z_6, hz_6⟩ : ∃ z : Int32, z = f_X2_room zr_size := ⟨_, rfl⟩
          have rz := ti_rng zr_size
          have gr : z_6.toInt = 240 - zr_size.toInt := by rw [hz_6, f_X2_room]; exact ti_sub2 (x := (240 : Int32)) (y := zr_size) (a := 240) rfl rfl (by omega) (by omega)
          refine lv_icmp_le (tgt := 33) hx hb dX2_makeRoom_28 (by decide) (fun c_7 => ?_) (fun c_7 => ?_)
          · have tc_7 : a_n.toInt ≤ z_6.toInt := by rw [hz_6]; exact q_le c_7
            refine lv_aload_n hx hb dX2_makeRoom_33 rfl (lv_at hl 0 rfl) ?_
            refine va_get (D := (dC, dI)) (ci := 2) (v := .int zr_size) (C := RX2) (T := TX2) (N := 6) hx hb hts in_X2_makeRoom_X2 hown hK hP 0 rfl rfl 5 (by decide) (hts _ m_X2_makeRoom_1) (fun _ h9 => h9) rfl dX2_makeRoom_34 ?_
            refine lv_iload_n hx hb dX2_makeRoom_37 rfl (lv_at hl 1 rfl) ?_
            refine lv_isub hx hb dX2_makeRoom_38 ?_
            refine lv_istore_n (lv' := [(3, .int (zr_size - a_a)), (0, .ref zr), (1, .int a_a), (2, .int a_n)]) hx hb dX2_makeRoom_39 rfl hl (by decide) rfl (fun ls hl => ?_)
            refine lv_aload_n hx hb dX2_makeRoom_40 rfl (lv_at hl 1 rfl) ?_
            refine va_get (D := (dC, dI)) (ci := 2) (v := .ref azr_sign) (C := RX2) (T := TX2) (N := 6) hx hb hts in_X2_makeRoom_X2 hown hK hP 0 rfl rfl 0 (by decide) (hts _ m_X2_makeRoom_2) (fun _ h9 => h9) rfl dX2_makeRoom_41 ?_
            refine lv_iload_n hx hb dX2_makeRoom_44 rfl (lv_at hl 2 rfl) ?_
            refine lv_aload_n hx hb dX2_makeRoom_45 rfl (lv_at hl 1 rfl) ?_
            refine va_get (D := (dC, dI)) (ci := 2) (v := .ref azr_sign) (C := RX2) (T := TX2) (N := 6) hx hb hts in_X2_makeRoom_X2 hown hK hP 0 rfl rfl 0 (by decide) (hts _ m_X2_makeRoom_2) (fun _ h9 => h9) rfl dX2_makeRoom_46 ?_
            refine lv_iload_n hx hb dX2_makeRoom_49 rfl (lv_at hl 2 rfl) ?_
            refine lv_iload_n hx hb dX2_makeRoom_50 rfl (lv_at hl 3 rfl) ?_
            refine lv_iadd hx hb dX2_makeRoom_51 ?_
            refine lv_iload_n hx hb dX2_makeRoom_52 rfl (lv_at hl 0 rfl) ?_
            refine va_copyi (q0 := 1) (q1 := 1) (t0 := 0) (t1 := 0) (f := zr_sign) (g := zr_sign) (ty := .int) hx hb (hml.trans hl.1.symm) hown (hts _ m_X2_makeRoom_3) (hts _ m_X2_makeRoom_4) (hts _ m_X2_makeRoom_5) (hts _ m_X2_makeRoom_6) hK hP hD hS rfl rfl rfl rfl rfl (by intro z; have z2 := q_lt z; have z3 : (0 : Int32).toInt = 0 := rfl; omega) (by intro z; have z2 := q_lt z; have g : (a_a + a_n).toInt = a_a.toInt + a_n.toInt := ti_add2 rfl rfl (by omega) (by omega); rw [g] at z2; have z3 : (0 : Int32).toInt = 0 := rfl; omega) (by intro z; have z2 := q_lt z; have g : (zr_size - a_a).toInt = zr_size.toInt - a_a.toInt := ti_sub2 rfl rfl (by omega) (by omega); rw [g] at z2; have z3 : (0 : Int32).toInt = 0 := rfl; omega) (by have g : (zr_size - a_a).toInt = zr_size.toInt - a_a.toInt := ti_sub2 rfl rfl (by omega) (by omega); have h1 := ti_clamp (x := a_a) (by omega); have h2 := ti_clamp (x := zr_size - a_a) (by omega); omega) (by have g : (zr_size - a_a).toInt = zr_size.toInt - a_a.toInt := ti_sub2 rfl rfl (by omega) (by omega); have g2 : (a_a + a_n).toInt = a_a.toInt + a_n.toInt := ti_add2 rfl rfl (by omega) (by omega); have h1 := ti_clamp (x := a_a + a_n) (by omega); have h2 := ti_clamp (x := zr_size - a_a) (by omega); omega) (fun _ _ => rfl) (Nat.le_of_ble_eq_true rfl) (Nat.le_of_ble_eq_true rfl) dX2_makeRoom_53 (fun H locs hP hD hS => ?_)
            have hP : va_P (dC, dI) vwCl [(zr, .inr (2, [.ref azr_sign, .ref azr_token, .ref azr_in, .ref azr_own, .ref azr_since, .int zr_size])), (azr_sign, .inl (cI, 240, .inl (va_cpy zr_sign zr_sign (a_a).toNatClampNeg ((a_a + a_n)).toNatClampNeg ((zr_size - a_a)).toNatClampNeg))), (azr_token, .inl (cI, 240, .inl zr_token)), (azr_in, .inl (cI, 240, .inl zr_in)), (azr_own, .inl (cI, 240, .inl zr_own)), (azr_since, .inl (cI, 240, .inl zr_since))] H := hP
            have hD : va_D A [(zr, .inr (2, [.ref azr_sign, .ref azr_token, .ref azr_in, .ref azr_own, .ref azr_since, .int zr_size])), (azr_sign, .inl (cI, 240, .inl (va_cpy zr_sign zr_sign (a_a).toNatClampNeg ((a_a + a_n)).toNatClampNeg ((zr_size - a_a)).toNatClampNeg))), (azr_token, .inl (cI, 240, .inl zr_token)), (azr_in, .inl (cI, 240, .inl zr_in)), (azr_own, .inl (cI, 240, .inl zr_own)), (azr_since, .inl (cI, 240, .inl zr_since))] := hD
            refine lv_aload_n hx hb dX2_makeRoom_56 rfl (lv_at hl 1 rfl) ?_
            refine va_get (D := (dC, dI)) (ci := 2) (v := .ref azr_token) (C := RX2) (T := TX2) (N := 6) hx hb hts in_X2_makeRoom_X2 hown hK hP 0 rfl rfl 1 (by decide) (hts _ m_X2_makeRoom_7) (fun _ h9 => h9) rfl dX2_makeRoom_57 ?_
            refine lv_iload_n hx hb dX2_makeRoom_60 rfl (lv_at hl 2 rfl) ?_
            refine lv_aload_n hx hb dX2_makeRoom_61 rfl (lv_at hl 1 rfl) ?_
            refine va_get (D := (dC, dI)) (ci := 2) (v := .ref azr_token) (C := RX2) (T := TX2) (N := 6) hx hb hts in_X2_makeRoom_X2 hown hK hP 0 rfl rfl 1 (by decide) (hts _ m_X2_makeRoom_7) (fun _ h9 => h9) rfl dX2_makeRoom_62 ?_
            refine lv_iload_n hx hb dX2_makeRoom_65 rfl (lv_at hl 2 rfl) ?_
            refine lv_iload_n hx hb dX2_makeRoom_66 rfl (lv_at hl 3 rfl) ?_
            refine lv_iadd hx hb dX2_makeRoom_67 ?_
            refine lv_iload_n hx hb dX2_makeRoom_68 rfl (lv_at hl 0 rfl) ?_
            refine va_copyi (q0 := 2) (q1 := 2) (t0 := 0) (t1 := 0) (f := zr_token) (g := zr_token) (ty := .int) hx hb (hml.trans hl.1.symm) hown (hts _ m_X2_makeRoom_3) (hts _ m_X2_makeRoom_4) (hts _ m_X2_makeRoom_5) (hts _ m_X2_makeRoom_6) hK hP hD hS rfl rfl rfl rfl rfl (by intro z; have z2 := q_lt z; have z3 : (0 : Int32).toInt = 0 := rfl; omega) (by intro z; have z2 := q_lt z; have g : (a_a + a_n).toInt = a_a.toInt + a_n.toInt := ti_add2 rfl rfl (by omega) (by omega); rw [g] at z2; have z3 : (0 : Int32).toInt = 0 := rfl; omega) (by intro z; have z2 := q_lt z; have g : (zr_size - a_a).toInt = zr_size.toInt - a_a.toInt := ti_sub2 rfl rfl (by omega) (by omega); rw [g] at z2; have z3 : (0 : Int32).toInt = 0 := rfl; omega) (by have g : (zr_size - a_a).toInt = zr_size.toInt - a_a.toInt := ti_sub2 rfl rfl (by omega) (by omega); have h1 := ti_clamp (x := a_a) (by omega); have h2 := ti_clamp (x := zr_size - a_a) (by omega); omega) (by have g : (zr_size - a_a).toInt = zr_size.toInt - a_a.toInt := ti_sub2 rfl rfl (by omega) (by omega); have g2 : (a_a + a_n).toInt = a_a.toInt + a_n.toInt := ti_add2 rfl rfl (by omega) (by omega); have h1 := ti_clamp (x := a_a + a_n) (by omega); have h2 := ti_clamp (x := zr_size - a_a) (by omega); omega) (fun _ _ => rfl) (Nat.le_of_ble_eq_true rfl) (Nat.le_of_ble_eq_true rfl) dX2_makeRoom_69 (fun H locs hP hD hS => ?_)
            have hP : va_P (dC, dI) vwCl [(zr, .inr (2, [.ref azr_sign, .ref azr_token, .ref azr_in, .ref azr_own, .ref azr_since, .int zr_size])), (azr_sign, .inl (cI, 240, .inl (va_cpy zr_sign zr_sign (a_a).toNatClampNeg ((a_a + a_n)).toNatClampNeg ((zr_size - a_a)).toNatClampNeg))), (azr_token, .inl (cI, 240, .inl (va_cpy zr_token zr_token (a_a).toNatClampNeg ((a_a + a_n)).toNatClampNeg ((zr_size - a_a)).toNatClampNeg))), (azr_in, .inl (cI, 240, .inl zr_in)), (azr_own, .inl (cI, 240, .inl zr_own)), (azr_since, .inl (cI, 240, .inl zr_since))] H := hP
            have hD : va_D A [(zr, .inr (2, [.ref azr_sign, .ref azr_token, .ref azr_in, .ref azr_own, .ref azr_since, .int zr_size])), (azr_sign, .inl (cI, 240, .inl (va_cpy zr_sign zr_sign (a_a).toNatClampNeg ((a_a + a_n)).toNatClampNeg ((zr_size - a_a)).toNatClampNeg))), (azr_token, .inl (cI, 240, .inl (va_cpy zr_token zr_token (a_a).toNatClampNeg ((a_a + a_n)).toNatClampNeg ((zr_size - a_a)).toNatClampNeg))), (azr_in, .inl (cI, 240, .inl zr_in)), (azr_own, .inl (cI, 240, .inl zr_own)), (azr_since, .inl (cI, 240, .inl zr_since))] := hD
            refine lv_aload_n hx hb dX2_makeRoom_72 rfl (lv_at hl 1 rfl) ?_
            refine va_get (D := (dC, dI)) (ci := 2) (v := .ref azr_in) (C := RX2) (T := TX2) (N := 6) hx hb hts in_X2_makeRoom_X2 hown hK hP 0 rfl rfl 2 (by decide) (hts _ m_X2_makeRoom_8) (fun _ h9 => h9) rfl dX2_makeRoom_73 ?_
            refine lv_iload_n hx hb dX2_makeRoom_76 rfl (lv_at hl 2 rfl) ?_
            refine lv_aload_n hx hb dX2_makeRoom_77 rfl (lv_at hl 1 rfl) ?_
            refine va_get (D := (dC, dI)) (ci := 2) (v := .ref azr_in) (C := RX2) (T := TX2) (N := 6) hx hb hts in_X2_makeRoom_X2 hown hK hP 0 rfl rfl 2 (by decide) (hts _ m_X2_makeRoom_8) (fun _ h9 => h9) rfl dX2_makeRoom_78 ?_
            refine lv_iload_n hx hb dX2_makeRoom_81 rfl (lv_at hl 2 rfl) ?_
            refine lv_iload_n hx hb dX2_makeRoom_82 rfl (lv_at hl 3 rfl) ?_
            refine lv_iadd hx hb dX2_makeRoom_83 ?_
            refine lv_iload_n hx hb dX2_makeRoom_84 rfl (lv_at hl 0 rfl) ?_
            refine va_copyi (q0 := 3) (q1 := 3) (t0 := 0) (t1 := 0) (f := zr_in) (g := zr_in) (ty := .int) hx hb (hml.trans hl.1.symm) hown (hts _ m_X2_makeRoom_3) (hts _ m_X2_makeRoom_4) (hts _ m_X2_makeRoom_5) (hts _ m_X2_makeRoom_6) hK hP hD hS rfl rfl rfl rfl rfl (by intro z; have z2 := q_lt z; have z3 : (0 : Int32).toInt = 0 := rfl; omega) (by intro z; have z2 := q_lt z; have g : (a_a + a_n).toInt = a_a.toInt + a_n.toInt := ti_add2 rfl rfl (by omega) (by omega); rw [g] at z2; have z3 : (0 : Int32).toInt = 0 := rfl; omega) (by intro z; have z2 := q_lt z; have g : (zr_size - a_a).toInt = zr_size.toInt - a_a.toInt := ti_sub2 rfl rfl (by omega) (by omega); rw [g] at z2; have z3 : (0 : Int32).toInt = 0 := rfl; omega) (by have g : (zr_size - a_a).toInt = zr_size.toInt - a_a.toInt := ti_sub2 rfl rfl (by omega) (by omega); have h1 := ti_clamp (x := a_a) (by omega); have h2 := ti_clamp (x := zr_size - a_a) (by omega); omega) (by have g : (zr_size - a_a).toInt = zr_size.toInt - a_a.toInt := ti_sub2 rfl rfl (by omega) (by omega); have g2 : (a_a + a_n).toInt = a_a.toInt + a_n.toInt := ti_add2 rfl rfl (by omega) (by omega); have h1 := ti_clamp (x := a_a + a_n) (by omega); have h2 := ti_clamp (x := zr_size - a_a) (by omega); omega) (fun _ _ => rfl) (Nat.le_of_ble_eq_true rfl) (Nat.le_of_ble_eq_true rfl) dX2_makeRoom_85 (fun H locs hP hD hS => ?_)
            have hP : va_P (dC, dI) vwCl [(zr, .inr (2, [.ref azr_sign, .ref azr_token, .ref azr_in, .ref azr_own, .ref azr_since, .int zr_size])), (azr_sign, .inl (cI, 240, .inl (va_cpy zr_sign zr_sign (a_a).toNatClampNeg ((a_a + a_n)).toNatClampNeg ((zr_size - a_a)).toNatClampNeg))), (azr_token, .inl (cI, 240, .inl (va_cpy zr_token zr_token (a_a).toNatClampNeg ((a_a + a_n)).toNatClampNeg ((zr_size - a_a)).toNatClampNeg))), (azr_in, .inl (cI, 240, .inl (va_cpy zr_in zr_in (a_a).toNatClampNeg ((a_a + a_n)).toNatClampNeg ((zr_size - a_a)).toNatClampNeg))), (azr_own, .inl (cI, 240, .inl zr_own)), (azr_since, .inl (cI, 240, .inl zr_since))] H := hP
            have hD : va_D A [(zr, .inr (2, [.ref azr_sign, .ref azr_token, .ref azr_in, .ref azr_own, .ref azr_since, .int zr_size])), (azr_sign, .inl (cI, 240, .inl (va_cpy zr_sign zr_sign (a_a).toNatClampNeg ((a_a + a_n)).toNatClampNeg ((zr_size - a_a)).toNatClampNeg))), (azr_token, .inl (cI, 240, .inl (va_cpy zr_token zr_token (a_a).toNatClampNeg ((a_a + a_n)).toNatClampNeg ((zr_size - a_a)).toNatClampNeg))), (azr_in, .inl (cI, 240, .inl (va_cpy zr_in zr_in (a_a).toNatClampNeg ((a_a + a_n)).toNatClampNeg ((zr_size - a_a)).toNatClampNeg))), (azr_own, .inl (cI, 240, .inl zr_own)), (azr_since, .inl (cI, 240, .inl zr_since))] := hD
            refine lv_aload_n hx hb dX2_makeRoom_88 rfl (lv_at hl 1 rfl) ?_
            refine va_get (D := (dC, dI)) (ci := 2) (v := .ref azr_own) (C := RX2) (T := TX2) (N := 6) hx hb hts in_X2_makeRoom_X2 hown hK hP 0 rfl rfl 3 (by decide) (hts _ m_X2_makeRoom_9) (fun _ h9 => h9) rfl dX2_makeRoom_89 ?_
            refine lv_iload_n hx hb dX2_makeRoom_92 rfl (lv_at hl 2 rfl) ?_
            refine lv_aload_n hx hb dX2_makeRoom_93 rfl (lv_at hl 1 rfl) ?_
            refine va_get (D := (dC, dI)) (ci := 2) (v := .ref azr_own) (C := RX2) (T := TX2) (N := 6) hx hb hts in_X2_makeRoom_X2 hown hK hP 0 rfl rfl 3 (by decide) (hts _ m_X2_makeRoom_9) (fun _ h9 => h9) rfl dX2_makeRoom_94 ?_
            refine lv_iload_n hx hb dX2_makeRoom_97 rfl (lv_at hl 2 rfl) ?_
            refine lv_iload_n hx hb dX2_makeRoom_98 rfl (lv_at hl 3 rfl) ?_
            refine lv_iadd hx hb dX2_makeRoom_99 ?_
            refine lv_iload_n hx hb dX2_makeRoom_100 rfl (lv_at hl 0 rfl) ?_
            refine va_copyi (q0 := 4) (q1 := 4) (t0 := 0) (t1 := 0) (f := zr_own) (g := zr_own) (ty := .int) hx hb (hml.trans hl.1.symm) hown (hts _ m_X2_makeRoom_3) (hts _ m_X2_makeRoom_4) (hts _ m_X2_makeRoom_5) (hts _ m_X2_makeRoom_6) hK hP hD hS rfl rfl rfl rfl rfl (by intro z; have z2 := q_lt z; have z3 : (0 : Int32).toInt = 0 := rfl; omega) (by intro z; have z2 := q_lt z; have g : (a_a + a_n).toInt = a_a.toInt + a_n.toInt := ti_add2 rfl rfl (by omega) (by omega); rw [g] at z2; have z3 : (0 : Int32).toInt = 0 := rfl; omega) (by intro z; have z2 := q_lt z; have g : (zr_size - a_a).toInt = zr_size.toInt - a_a.toInt := ti_sub2 rfl rfl (by omega) (by omega); rw [g] at z2; have z3 : (0 : Int32).toInt = 0 := rfl; omega) (by have g : (zr_size - a_a).toInt = zr_size.toInt - a_a.toInt := ti_sub2 rfl rfl (by omega) (by omega); have h1 := ti_clamp (x := a_a) (by omega); have h2 := ti_clamp (x := zr_size - a_a) (by omega); omega) (by have g : (zr_size - a_a).toInt = zr_size.toInt - a_a.toInt := ti_sub2 rfl rfl (by omega) (by omega); have g2 : (a_a + a_n).toInt = a_a.toInt + a_n.toInt := ti_add2 rfl rfl (by omega) (by omega); have h1 := ti_clamp (x := a_a + a_n) (by omega); have h2 := ti_clamp (x := zr_size - a_a) (by omega); omega) (fun _ _ => rfl) (Nat.le_of_ble_eq_true rfl) (Nat.le_of_ble_eq_true rfl) dX2_makeRoom_101 (fun H locs hP hD hS => ?_)
            have hP : va_P (dC, dI) vwCl [(zr, .inr (2, [.ref azr_sign, .ref azr_token, .ref azr_in, .ref azr_own, .ref azr_since, .int zr_size])), (azr_sign, .inl (cI, 240, .inl (va_cpy zr_sign zr_sign (a_a).toNatClampNeg ((a_a + a_n)).toNatClampNeg ((zr_size - a_a)).toNatClampNeg))), (azr_token, .inl (cI, 240, .inl (va_cpy zr_token zr_token (a_a).toNatClampNeg ((a_a + a_n)).toNatClampNeg ((zr_size - a_a)).toNatClampNeg))), (azr_in, .inl (cI, 240, .inl (va_cpy zr_in zr_in (a_a).toNatClampNeg ((a_a + a_n)).toNatClampNeg ((zr_size - a_a)).toNatClampNeg))), (azr_own, .inl (cI, 240, .inl (va_cpy zr_own zr_own (a_a).toNatClampNeg ((a_a + a_n)).toNatClampNeg ((zr_size - a_a)).toNatClampNeg))), (azr_since, .inl (cI, 240, .inl zr_since))] H := hP
            have hD : va_D A [(zr, .inr (2, [.ref azr_sign, .ref azr_token, .ref azr_in, .ref azr_own, .ref azr_since, .int zr_size])), (azr_sign, .inl (cI, 240, .inl (va_cpy zr_sign zr_sign (a_a).toNatClampNeg ((a_a + a_n)).toNatClampNeg ((zr_size - a_a)).toNatClampNeg))), (azr_token, .inl (cI, 240, .inl (va_cpy zr_token zr_token (a_a).toNatClampNeg ((a_a + a_n)).toNatClampNeg ((zr_size - a_a)).toNatClampNeg))), (azr_in, .inl (cI, 240, .inl (va_cpy zr_in zr_in (a_a).toNatClampNeg ((a_a + a_n)).toNatClampNeg ((zr_size - a_a)).toNatClampNeg))), (azr_own, .inl (cI, 240, .inl (va_cpy zr_own zr_own (a_a).toNatClampNeg ((a_a + a_n)).toNatClampNeg ((zr_size - a_a)).toNatClampNeg))), (azr_since, .inl (cI, 240, .inl zr_since))] := hD
            refine lv_aload_n hx hb dX2_makeRoom_104 rfl (lv_at hl 1 rfl) ?_
            refine va_get (D := (dC, dI)) (ci := 2) (v := .ref azr_since) (C := RX2) (T := TX2) (N := 6) hx hb hts in_X2_makeRoom_X2 hown hK hP 0 rfl rfl 4 (by decide) (hts _ m_X2_makeRoom_10) (fun _ h9 => h9) rfl dX2_makeRoom_105 ?_
            refine lv_iload_n hx hb dX2_makeRoom_108 rfl (lv_at hl 2 rfl) ?_
            refine lv_aload_n hx hb dX2_makeRoom_109 rfl (lv_at hl 1 rfl) ?_
            refine va_get (D := (dC, dI)) (ci := 2) (v := .ref azr_since) (C := RX2) (T := TX2) (N := 6) hx hb hts in_X2_makeRoom_X2 hown hK hP 0 rfl rfl 4 (by decide) (hts _ m_X2_makeRoom_10) (fun _ h9 => h9) rfl dX2_makeRoom_110 ?_
            refine lv_iload_n hx hb dX2_makeRoom_113 rfl (lv_at hl 2 rfl) ?_
            refine lv_iload_n hx hb dX2_makeRoom_114 rfl (lv_at hl 3 rfl) ?_
            refine lv_iadd hx hb dX2_makeRoom_115 ?_
            refine lv_iload_n hx hb dX2_makeRoom_116 rfl (lv_at hl 0 rfl) ?_
            refine va_copyi (q0 := 5) (q1 := 5) (t0 := 0) (t1 := 0) (f := zr_since) (g := zr_since) (ty := .int) hx hb (hml.trans hl.1.symm) hown (hts _ m_X2_makeRoom_3) (hts _ m_X2_makeRoom_4) (hts _ m_X2_makeRoom_5) (hts _ m_X2_makeRoom_6) hK hP hD hS rfl rfl rfl rfl rfl (by intro z; have z2 := q_lt z; have z3 : (0 : Int32).toInt = 0 := rfl; omega) (by intro z; have z2 := q_lt z; have g : (a_a + a_n).toInt = a_a.toInt + a_n.toInt := ti_add2 rfl rfl (by omega) (by omega); rw [g] at z2; have z3 : (0 : Int32).toInt = 0 := rfl; omega) (by intro z; have z2 := q_lt z; have g : (zr_size - a_a).toInt = zr_size.toInt - a_a.toInt := ti_sub2 rfl rfl (by omega) (by omega); rw [g] at z2; have z3 : (0 : Int32).toInt = 0 := rfl; omega) (by have g : (zr_size - a_a).toInt = zr_size.toInt - a_a.toInt := ti_sub2 rfl rfl (by omega) (by omega); have h1 := ti_clamp (x := a_a) (by omega); have h2 := ti_clamp (x := zr_size - a_a) (by omega); omega) (by have g : (zr_size - a_a).toInt = zr_size.toInt - a_a.toInt := ti_sub2 rfl rfl (by omega) (by omega); have g2 : (a_a + a_n).toInt = a_a.toInt + a_n.toInt := ti_add2 rfl rfl (by omega) (by omega); have h1 := ti_clamp (x := a_a + a_n) (by omega); have h2 := ti_clamp (x := zr_size - a_a) (by omega); omega) (fun _ _ => rfl) (Nat.le_of_ble_eq_true rfl) (Nat.le_of_ble_eq_true rfl) dX2_makeRoom_117 (fun H locs hP hD hS => ?_)
            have hP : va_P (dC, dI) vwCl [(zr, .inr (2, [.ref azr_sign, .ref azr_token, .ref azr_in, .ref azr_own, .ref azr_since, .int zr_size])), (azr_sign, .inl (cI, 240, .inl (va_cpy zr_sign zr_sign (a_a).toNatClampNeg ((a_a + a_n)).toNatClampNeg ((zr_size - a_a)).toNatClampNeg))), (azr_token, .inl (cI, 240, .inl (va_cpy zr_token zr_token (a_a).toNatClampNeg ((a_a + a_n)).toNatClampNeg ((zr_size - a_a)).toNatClampNeg))), (azr_in, .inl (cI, 240, .inl (va_cpy zr_in zr_in (a_a).toNatClampNeg ((a_a + a_n)).toNatClampNeg ((zr_size - a_a)).toNatClampNeg))), (azr_own, .inl (cI, 240, .inl (va_cpy zr_own zr_own (a_a).toNatClampNeg ((a_a + a_n)).toNatClampNeg ((zr_size - a_a)).toNatClampNeg))), (azr_since, .inl (cI, 240, .inl (va_cpy zr_since zr_since (a_a).toNatClampNeg ((a_a + a_n)).toNatClampNeg ((zr_size - a_a)).toNatClampNeg)))] H := hP
            have hD : va_D A [(zr, .inr (2, [.ref azr_sign, .ref azr_token, .ref azr_in, .ref azr_own, .ref azr_since, .int zr_size])), (azr_sign, .inl (cI, 240, .inl (va_cpy zr_sign zr_sign (a_a).toNatClampNeg ((a_a + a_n)).toNatClampNeg ((zr_size - a_a)).toNatClampNeg))), (azr_token, .inl (cI, 240, .inl (va_cpy zr_token zr_token (a_a).toNatClampNeg ((a_a + a_n)).toNatClampNeg ((zr_size - a_a)).toNatClampNeg))), (azr_in, .inl (cI, 240, .inl (va_cpy zr_in zr_in (a_a).toNatClampNeg ((a_a + a_n)).toNatClampNeg ((zr_size - a_a)).toNatClampNeg))), (azr_own, .inl (cI, 240, .inl (va_cpy zr_own zr_own (a_a).toNatClampNeg ((a_a + a_n)).toNatClampNeg ((zr_size - a_a)).toNatClampNeg))), (azr_since, .inl (cI, 240, .inl (va_cpy zr_since zr_since (a_a).toNatClampNeg ((a_a + a_n)).toNatClampNeg ((zr_size - a_a)).toNatClampNeg)))] := hD
            refine lv_aload_n hx hb dX2_makeRoom_120 rfl (lv_at hl 1 rfl) ?_
            refine lv_dup hx hb dX2_makeRoom_121 rfl ?_
            refine va_get (D := (dC, dI)) (ci := 2) (v := .int zr_size) (C := RX2) (T := TX2) (N := 6) hx hb hts in_X2_makeRoom_X2 hown hK hP 0 rfl rfl 5 (by decide) (hts _ m_X2_makeRoom_1) (fun _ h9 => h9) rfl dX2_makeRoom_122 ?_
            refine lv_iload_n hx hb dX2_makeRoom_125 rfl (lv_at hl 3 rfl) ?_
            refine lv_iadd hx hb dX2_makeRoom_126 ?_
            refine va_put (D := (dC, dI)) (ci := 2) (v := .int (zr_size + a_n)) (ty := .int) (C := RX2) (T := TX2) (N := 6) hx hb hts in_X2_makeRoom_X2 tyX2 tyX2_ok nmX2 hown hK hP hD hS 0 rfl rfl 5 (by decide) (hts _ m_X2_makeRoom_1) (fun _ h9 => h9) rfl (by decide +kernel) rfl rfl (Nat.le_of_ble_eq_true rfl) dX2_makeRoom_127 (fun H locs hP hD hS => ?_)
            have hP : va_P (dC, dI) vwCl [(zr, .inr (2, [.ref azr_sign, .ref azr_token, .ref azr_in, .ref azr_own, .ref azr_since, .int (zr_size + a_n)])), (azr_sign, .inl (cI, 240, .inl (va_cpy zr_sign zr_sign (a_a).toNatClampNeg ((a_a + a_n)).toNatClampNeg ((zr_size - a_a)).toNatClampNeg))), (azr_token, .inl (cI, 240, .inl (va_cpy zr_token zr_token (a_a).toNatClampNeg ((a_a + a_n)).toNatClampNeg ((zr_size - a_a)).toNatClampNeg))), (azr_in, .inl (cI, 240, .inl (va_cpy zr_in zr_in (a_a).toNatClampNeg ((a_a + a_n)).toNatClampNeg ((zr_size - a_a)).toNatClampNeg))), (azr_own, .inl (cI, 240, .inl (va_cpy zr_own zr_own (a_a).toNatClampNeg ((a_a + a_n)).toNatClampNeg ((zr_size - a_a)).toNatClampNeg))), (azr_since, .inl (cI, 240, .inl (va_cpy zr_since zr_since (a_a).toNatClampNeg ((a_a + a_n)).toNatClampNeg ((zr_size - a_a)).toNatClampNeg)))] H := hP
            have hD : va_D A [(zr, .inr (2, [.ref azr_sign, .ref azr_token, .ref azr_in, .ref azr_own, .ref azr_since, .int (zr_size + a_n)])), (azr_sign, .inl (cI, 240, .inl (va_cpy zr_sign zr_sign (a_a).toNatClampNeg ((a_a + a_n)).toNatClampNeg ((zr_size - a_a)).toNatClampNeg))), (azr_token, .inl (cI, 240, .inl (va_cpy zr_token zr_token (a_a).toNatClampNeg ((a_a + a_n)).toNatClampNeg ((zr_size - a_a)).toNatClampNeg))), (azr_in, .inl (cI, 240, .inl (va_cpy zr_in zr_in (a_a).toNatClampNeg ((a_a + a_n)).toNatClampNeg ((zr_size - a_a)).toNatClampNeg))), (azr_own, .inl (cI, 240, .inl (va_cpy zr_own zr_own (a_a).toNatClampNeg ((a_a + a_n)).toNatClampNeg ((zr_size - a_a)).toNatClampNeg))), (azr_since, .inl (cI, 240, .inl (va_cpy zr_since zr_since (a_a).toNatClampNeg ((a_a + a_n)).toNatClampNeg ((zr_size - a_a)).toNatClampNeg)))] := hD
            refine lv_iconst (v := (1 : Int32)) hx hb dX2_makeRoom_130 (by decide) ?_
            have hE : f_X2_makeRoom zr_sign zr_token zr_in zr_own zr_since zr_size a_a a_n = ((1 : Int32), (va_cpy zr_sign zr_sign (a_a).toNatClampNeg ((a_a + a_n)).toNatClampNeg ((zr_size - a_a)).toNatClampNeg), (va_cpy zr_token zr_token (a_a).toNatClampNeg ((a_a + a_n)).toNatClampNeg ((zr_size - a_a)).toNatClampNeg), (va_cpy zr_in zr_in (a_a).toNatClampNeg ((a_a + a_n)).toNatClampNeg ((zr_size - a_a)).toNatClampNeg), (va_cpy zr_own zr_own (a_a).toNatClampNeg ((a_a + a_n)).toNatClampNeg ((zr_size - a_a)).toNatClampNeg), (va_cpy zr_since zr_since (a_a).toNatClampNeg ((a_a + a_n)).toNatClampNeg ((zr_size - a_a)).toNatClampNeg), (zr_size + a_n)) := (by rw [f_X2_makeRoom, if_neg c_1, if_neg c_2, if_neg c_3, if_neg c_4, if_pos c_7])
            exact W.zret (v := (1 : Int32)) hx hb hr (by decide) (fun t ht hW => ⟨⟨(1 : Int32), ((va_cpy zr_sign zr_sign (a_a).toNatClampNeg ((a_a + a_n)).toNatClampNeg ((zr_size - a_a)).toNatClampNeg), (va_cpy zr_token zr_token (a_a).toNatClampNeg ((a_a + a_n)).toNatClampNeg ((zr_size - a_a)).toNatClampNeg), (va_cpy zr_in zr_in (a_a).toNatClampNeg ((a_a + a_n)).toNatClampNeg ((zr_size - a_a)).toNatClampNeg), (va_cpy zr_own zr_own (a_a).toNatClampNeg ((a_a + a_n)).toNatClampNeg ((zr_size - a_a)).toNatClampNeg), (va_cpy zr_since zr_since (a_a).toNatClampNeg ((a_a + a_n)).toNatClampNeg ((zr_size - a_a)).toNatClampNeg), (zr_size + a_n)), rfl, ⟨by rw [hE], by rw [hE]⟩, ⟨by rw [ht]; exact hP, hD⟩⟩, hS.F ht⟩) hS.2.2 dX2_makeRoom_131
          · have tc_7 : z_6.toInt < a_n.toInt := by rw [hz_6]; exact q_nle c_7
            refine lv_iconst (v := (0 : Int32)) hx hb dX2_makeRoom_31 (by decide) ?_
            have hE : f_X2_makeRoom zr_sign zr_token zr_in zr_own zr_since zr_size a_a a_n = ((0 : Int32), zr_sign, zr_token, zr_in, zr_own, zr_since, zr_size) := (by rw [f_X2_makeRoom, if_neg c_1, if_neg c_2, if_neg c_3, if_neg c_4, if_neg c_7])
            exact W.zret (v := (0 : Int32)) hx hb hr (by decide) (fun t ht hW => ⟨⟨(0 : Int32), (zr_sign, zr_token, zr_in, zr_own, zr_since, zr_size), rfl, ⟨by rw [hE], by rw [hE]⟩, ⟨by rw [ht]; exact hP, hD⟩⟩, hS.F ht⟩) hS.2.2 dX2_makeRoom_32
theorem dX2_write_0 : decode cX2_write 0 = .ok (.aload_n 0, 1) := by decide +kernel
theorem dX2_write_1 : decode cX2_write 1 = .ok (.iload_n 1, 1) := by decide +kernel
theorem dX2_write_2 : decode cX2_write 2 = .ok (.invokevirtual 31, 3) := by decide +kernel
set_option maxRecDepth 20000 in
theorem ggX2_write_X2_has : GoodIn wsX2_write wsX2_has := goodIn_r _ [10, 11, 12, 13, 14, 15, 16, 17] (by decide +kernel) (by decide +kernel)
set_option maxRecDepth 20000 in
theorem gX2_write_X2_has : GoodIn wsX2_write (wsV RX2 31 RX2 yX2_has wsX2_has) := goodIn_app (goodIn_of _ (by decide +kernel)) ggX2_write_X2_has
theorem dX2_write_5 : decode cX2_write 5 = .ok (.ifCond .eq 39, 3) := by decide +kernel
theorem dX2_write_44 : decode cX2_write 44 = .ok (.return_, 1) := by decide +kernel
theorem dX2_write_8 : decode cX2_write 8 = .ok (.aload_n 0, 1) := by decide +kernel
theorem dX2_write_9 : decode cX2_write 9 = .ok (.getfield 9, 3) := by decide +kernel
theorem in_X2_write_X2 : ∀ w ∈ wsX20, w ∈ wsX2_write := by decide +kernel
theorem m_X2_write_1 : (.fieldLink RX2 9 "RedlineDesk$Row" "sign" "[I" : Cond) ∈ wsX2_write := List.mem_of_getElem? (i := 1) (by decide +kernel)
theorem dX2_write_12 : decode cX2_write 12 = .ok (.iload_n 1, 1) := by decide +kernel
theorem dX2_write_13 : decode cX2_write 13 = .ok (.iload_n 2, 1) := by decide +kernel
theorem dX2_write_14 : decode cX2_write 14 = .ok (.iastore, 1) := by decide +kernel
theorem dX2_write_15 : decode cX2_write 15 = .ok (.aload_n 0, 1) := by decide +kernel
theorem dX2_write_16 : decode cX2_write 16 = .ok (.getfield 15, 3) := by decide +kernel
theorem m_X2_write_2 : (.fieldLink RX2 15 "RedlineDesk$Row" "token" "[I" : Cond) ∈ wsX2_write := List.mem_of_getElem? (i := 2) (by decide +kernel)
theorem dX2_write_19 : decode cX2_write 19 = .ok (.iload_n 1, 1) := by decide +kernel
theorem dX2_write_20 : decode cX2_write 20 = .ok (.iload_n 3, 1) := by decide +kernel
theorem dX2_write_21 : decode cX2_write 21 = .ok (.iastore, 1) := by decide +kernel
theorem dX2_write_22 : decode cX2_write 22 = .ok (.aload_n 0, 1) := by decide +kernel
theorem dX2_write_23 : decode cX2_write 23 = .ok (.getfield 18, 3) := by decide +kernel
theorem m_X2_write_3 : (.fieldLink RX2 18 "RedlineDesk$Row" "in" "[I" : Cond) ∈ wsX2_write := List.mem_of_getElem? (i := 3) (by decide +kernel)
theorem dX2_write_26 : decode cX2_write 26 = .ok (.iload_n 1, 1) := by decide +kernel
theorem dX2_write_27 : decode cX2_write 27 = .ok (.iload 4, 2) := by decide +kernel
theorem dX2_write_29 : decode cX2_write 29 = .ok (.iastore, 1) := by decide +kernel
theorem dX2_write_30 : decode cX2_write 30 = .ok (.aload_n 0, 1) := by decide +kernel
theorem dX2_write_31 : decode cX2_write 31 = .ok (.getfield 21, 3) := by decide +kernel
theorem m_X2_write_4 : (.fieldLink RX2 21 "RedlineDesk$Row" "own" "[I" : Cond) ∈ wsX2_write := List.mem_of_getElem? (i := 4) (by decide +kernel)
theorem dX2_write_34 : decode cX2_write 34 = .ok (.iload_n 1, 1) := by decide +kernel
theorem dX2_write_35 : decode cX2_write 35 = .ok (.iconst 0, 1) := by decide +kernel
theorem dX2_write_36 : decode cX2_write 36 = .ok (.iastore, 1) := by decide +kernel
theorem dX2_write_37 : decode cX2_write 37 = .ok (.aload_n 0, 1) := by decide +kernel
theorem dX2_write_38 : decode cX2_write 38 = .ok (.getfield 24, 3) := by decide +kernel
theorem m_X2_write_5 : (.fieldLink RX2 24 "RedlineDesk$Row" "since" "[I" : Cond) ∈ wsX2_write := List.mem_of_getElem? (i := 5) (by decide +kernel)
theorem dX2_write_41 : decode cX2_write 41 = .ok (.iload_n 1, 1) := by decide +kernel
theorem dX2_write_42 : decode cX2_write 42 = .ok (.iconst 0, 1) := by decide +kernel
theorem dX2_write_43 : decode cX2_write 43 = .ok (.iastore, 1) := by decide +kernel
def f_X2_write (zr_sign : Nat → Int32) (zr_token : Nat → Int32) (zr_in : Nat → Int32) (zr_own : Nat → Int32) (zr_since : Nat → Int32) (zr_size : Int32) (a_s : Int32) (a_g : Int32) (a_t : Int32) (a_c : Int32) : (Nat → Int32) × (Nat → Int32) × (Nat → Int32) × (Nat → Int32) × (Nat → Int32) := if (f_X2_has zr_size a_s) = (0 : Int32) then (zr_sign, zr_token, zr_in, zr_own, zr_since) else ((upd zr_sign (a_s).toNatClampNeg a_g), (upd zr_token (a_s).toNatClampNeg a_t), (upd zr_in (a_s).toNatClampNeg a_c), (upd zr_own (a_s).toNatClampNeg (0 : Int32)), (upd zr_since (a_s).toNatClampNeg (0 : Int32)))
set_option maxHeartbeats 4000000 in
set_option maxRecDepth 100000 in
theorem c_X2_write (l : Launch) (dC : Nat → ClassId) (dI : Nat → Nat → Nat) (cI cJ : ClassId) (sz : Nat) (zr azr_sign azr_token azr_in azr_own azr_since : Nat) (zr_sign zr_token zr_in zr_own zr_since : Nat → Int32) (zr_size : Int32) (a_s : Int32) (a_g : Int32) (a_t : Int32) (a_c : Int32) : Met l yX2_write wsX2_write ({ frames := 1, cells := 0, slots := 0, locals := 21 } : Room) (va_Pc [.ref zr, .int a_s, .int a_g, .int a_t, .int a_c] (PreW dC dI cI cJ sz [(zr, .inr (2, [.ref azr_sign, .ref azr_token, .ref azr_in, .ref azr_own, .ref azr_since, .int zr_size])), (azr_sign, .inl (cI, 240, .inl zr_sign)), (azr_token, .inl (cI, 240, .inl zr_token)), (azr_in, .inl (cI, 240, .inl zr_in)), (azr_own, .inl (cI, 240, .inl zr_own)), (azr_since, .inl (cI, 240, .inl zr_since))])) (va_Qv (fun (u : (Nat → Int32) × (Nat → Int32) × (Nat → Int32) × (Nat → Int32) × (Nat → Int32)) => u = f_X2_write zr_sign zr_token zr_in zr_own zr_since zr_size a_s a_g a_t a_c) (fun (u : (Nat → Int32) × (Nat → Int32) × (Nat → Int32) × (Nat → Int32) × (Nat → Int32)) t => PostW dC dI [(zr, .inr (2, [.ref azr_sign, .ref azr_token, .ref azr_in, .ref azr_own, .ref azr_since, .int zr_size])), (azr_sign, .inl (cI, 240, .inl u.1)), (azr_token, .inl (cI, 240, .inl u.2.1)), (azr_in, .inl (cI, 240, .inl u.2.2.1)), (azr_own, .inl (cI, 240, .inl u.2.2.2.1)), (azr_since, .inl (cI, 240, .inl u.2.2.2.2))] t (va_A [(zr, .inr (2, [.ref azr_sign, .ref azr_token, .ref azr_in, .ref azr_own, .ref azr_since, .int zr_size])), (azr_sign, .inl (cI, 240, .inl zr_sign)), (azr_token, .inl (cI, 240, .inl zr_token)), (azr_in, .inl (cI, 240, .inl zr_in)), (azr_own, .inl (cI, 240, .inl zr_own)), (azr_since, .inl (cI, 240, .inl zr_since))] sz)) (va_A [(zr, .inr (2, [.ref azr_sign, .ref azr_token, .ref azr_in, .ref azr_own, .ref azr_since, .int zr_size])), (azr_sign, .inl (cI, 240, .inl zr_sign)), (azr_token, .inl (cI, 240, .inl zr_token)), (azr_in, .inl (cI, 240, .inl zr_in)), (azr_own, .inl (cI, 240, .inl zr_own)), (azr_since, .inl (cI, 240, .inl zr_since))] sz)) 0 0 (va_A [(zr, .inr (2, [.ref azr_sign, .ref azr_token, .ref azr_in, .ref azr_own, .ref azr_since, .int zr_size])), (azr_sign, .inl (cI, 240, .inl zr_sign)), (azr_token, .inl (cI, 240, .inl zr_token)), (azr_in, .inl (cI, 240, .inl zr_in)), (azr_own, .inl (cI, 240, .inl zr_own)), (azr_since, .inl (cI, 240, .inl zr_since))] sz) := by
  refine Met.ofW (cc := cX2_write) (maxL := 5) (ret := none) (by decide) rfl ?_
  intro p e s m args below meth c s₁ B hml hv
  obtain ⟨rfl, hsz, hP, hK, hN, hD0⟩ := hv
  have hx := B.exec
  have hb := B.bytes
  have hr := B.returns
  have hts := atoms_spec (ws := wsX2_write) B.pre
  have hown : s.vm.findClass RX2 = some m.cls := findClass_of_methodNamed B.named
  have hlocks := B.notSynchronized
  subst hsz
  have hD := hD0.self (sz := s.heap.size)
  generalize hAe : va_A [(zr, .inr (2, [.ref azr_sign, .ref azr_token, .ref azr_in, .ref azr_own, .ref azr_since, .int zr_size])), (azr_sign, .inl (cI, 240, .inl zr_sign)), (azr_token, .inl (cI, 240, .inl zr_token)), (azr_in, .inl (cI, 240, .inl zr_in)), (azr_own, .inl (cI, 240, .inl zr_own)), (azr_since, .inl (cI, 240, .inl zr_since))] s.heap.size = A at hD ⊢
  have hA : ∀ q : Nat, s.heap.size ≤ q → A q := fun q h => by rw [← hAe]; exact Or.inr h
  have hS : va_S A s.heap s.heap [] := va_S.rf
  have hP : va_P (dC, dI) vwCl [(zr, .inr (2, [.ref azr_sign, .ref azr_token, .ref azr_in, .ref azr_own, .ref azr_since, .int zr_size])), (azr_sign, .inl (cI, 240, .inl zr_sign)), (azr_token, .inl (cI, 240, .inl zr_token)), (azr_in, .inl (cI, 240, .inl zr_in)), (azr_own, .inl (cI, 240, .inl zr_own)), (azr_since, .inl (cI, 240, .inl zr_since))] s.heap := hP
  have hl := lv_entry ([.ref zr, .int a_s, .int a_g, .int a_t, .int a_c]) (n := 5) (Nat.le_of_ble_eq_true rfl)
  rw [lg_entry_eq]
  generalize (lg_sl ([.ref zr, .int a_s, .int a_g, .int a_t, .int a_c]) ++ List.replicate (5 - (lg_sl ([.ref zr, .int a_s, .int a_g, .int a_t, .int a_c])).length) Slot.unset).toArray = ls at hl ⊢
  have hl : lv_has ls 5 [(0, .ref zr), (1, .int a_s), (2, .int a_g), (3, .int a_t), (4, .int a_c)] := hl
  refine lv_aload_n hx hb dX2_write_0 rfl (lv_at hl 0 rfl) ?_
  refine lv_iload_n hx hb dX2_write_1 rfl (lv_at hl 1 rfl) ?_
  have hPc := hP.sub (ws' := [(zr, .inr (2, [.ref azr_sign, .ref azr_token, .ref azr_in, .ref azr_own, .ref azr_since, .int zr_size])), (azr_sign, .inl (cI, 240, .inl zr_sign)), (azr_token, .inl (cI, 240, .inl zr_token)), (azr_in, .inl (cI, 240, .inl zr_in)), (azr_own, .inl (cI, 240, .inl zr_own)), (azr_since, .inl (cI, 240, .inl zr_since))]) [0, 1, 2, 3, 4, 5] rfl
  have hDc := hD.sub (ws' := [(zr, .inr (2, [.ref azr_sign, .ref azr_token, .ref azr_in, .ref azr_own, .ref azr_since, .int zr_size])), (azr_sign, .inl (cI, 240, .inl zr_sign)), (azr_token, .inl (cI, 240, .inl zr_token)), (azr_in, .inl (cI, 240, .inl zr_in)), (azr_own, .inl (cI, 240, .inl zr_own)), (azr_since, .inl (cI, 240, .inl zr_since))]) [0, 1, 2, 3, 4, 5] (by decide) rfl
  refine va_calli (va_runV (As := [.int a_s]) (rest := []) ⟨hx, hb, hml, hown, hts⟩ (c_X2_has l dC dI cI cJ s.heap.size zr azr_sign azr_token azr_in azr_own azr_since zr_sign zr_token zr_in zr_own zr_since zr_size a_s) (cwV 1 hts gX2_write_X2_has rfl rfl rfl (by decide +kernel) ⟨Nat.le_of_ble_eq_true rfl, Nat.le_of_ble_eq_true rfl⟩) ⟨fun a U g mk q => ⟨q.1, PreW.call g mk a q.2⟩, va_recv hK hP (ci := 2) (q0 := 0) rfl rfl, fun U hU hW => ⟨rfl, PreW.mk2 hU hW hPc hK hN (hDc.weaken (fun _ _ _ _ => trivial))⟩⟩ rfl rfl hl.1 rfl (lv_room (Nat.le_of_ble_eq_true rfl)) dX2_write_2 ⟨Nat.le_of_ble_eq_true rfl, Nat.le_of_ble_eq_true rfl⟩) hS (fun q hq h => absurd hq (Nat.not_lt.mpr h)) (fun q h => hA q (Nat.le_trans hS.1 h)) (fun r_1 _u t H1 locs ht hvm hw hB hz1 hk1 hS => ?_)
  have hP := va_ro hP hk1
  generalize H1 = H at hP hS ⊢
  have hw : r_1 = f_X2_has zr_size a_s := hw
  subst hw
  obtain ⟨z_2, hz_2⟩ : ∃ z : Int32, z = f_X2_has zr_size a_s := ⟨_, rfl⟩
  refine lv_if_eq (tgt := 44) hx hb dX2_write_5 (by decide) (fun c_3 => ?_) (fun c_3 => ?_)
  · have tc_3 : z_2.toInt = (0 : Int) := by rw [hz_2]; exact q_eq c_3
    have hE : f_X2_write zr_sign zr_token zr_in zr_own zr_since zr_size a_s a_g a_t a_c = (zr_sign, zr_token, zr_in, zr_own, zr_since) := (by rw [f_X2_write, if_pos c_3])
    exact W.vret hx hb hr (fun t ht hW => ⟨⟨(zr_sign, zr_token, zr_in, zr_own, zr_since), rfl, by rw [hE], ⟨by rw [ht]; exact hP, hD⟩⟩, hS.F ht⟩) hS.2.2 dX2_write_44
  · have tc_3 : ¬ z_2.toInt = (0 : Int) := by rw [hz_2]; exact q_ne c_3
    obtain ⟨b_4, b_5, b_6⟩ := has_in c_3
    refine lv_aload_n hx hb dX2_write_8 rfl (lv_at hl 0 rfl) ?_
    refine va_get (D := (dC, dI)) (ci := 2) (v := .ref azr_sign) (C := RX2) (T := TX2) (N := 6) hx hb hts in_X2_write_X2 hown hK hP 0 rfl rfl 0 (by decide) (hts _ m_X2_write_1) (fun _ h9 => h9) rfl dX2_write_9 ?_
    refine lv_iload_n hx hb dX2_write_12 rfl (lv_at hl 1 rfl) ?_
    refine lv_iload_n hx hb dX2_write_13 rfl (lv_at hl 2 rfl) ?_
    refine va_iast (q0 := 1) (t0 := 0) (n := 240) (f := zr_sign) hx hb hK hP hD hS rfl rfl (vp_in_iff.mpr ⟨by omega, by omega⟩) dX2_write_14 (fun H locs hP hD hS => ?_)
    have hP : va_P (dC, dI) vwCl [(zr, .inr (2, [.ref azr_sign, .ref azr_token, .ref azr_in, .ref azr_own, .ref azr_since, .int zr_size])), (azr_sign, .inl (cI, 240, .inl (upd zr_sign (a_s).toNatClampNeg a_g))), (azr_token, .inl (cI, 240, .inl zr_token)), (azr_in, .inl (cI, 240, .inl zr_in)), (azr_own, .inl (cI, 240, .inl zr_own)), (azr_since, .inl (cI, 240, .inl zr_since))] H := hP
    have hD : va_D A [(zr, .inr (2, [.ref azr_sign, .ref azr_token, .ref azr_in, .ref azr_own, .ref azr_since, .int zr_size])), (azr_sign, .inl (cI, 240, .inl (upd zr_sign (a_s).toNatClampNeg a_g))), (azr_token, .inl (cI, 240, .inl zr_token)), (azr_in, .inl (cI, 240, .inl zr_in)), (azr_own, .inl (cI, 240, .inl zr_own)), (azr_since, .inl (cI, 240, .inl zr_since))] := hD
    refine lv_aload_n hx hb dX2_write_15 rfl (lv_at hl 0 rfl) ?_
    refine va_get (D := (dC, dI)) (ci := 2) (v := .ref azr_token) (C := RX2) (T := TX2) (N := 6) hx hb hts in_X2_write_X2 hown hK hP 0 rfl rfl 1 (by decide) (hts _ m_X2_write_2) (fun _ h9 => h9) rfl dX2_write_16 ?_
    refine lv_iload_n hx hb dX2_write_19 rfl (lv_at hl 1 rfl) ?_
    refine lv_iload_n hx hb dX2_write_20 rfl (lv_at hl 3 rfl) ?_
    refine va_iast (q0 := 2) (t0 := 0) (n := 240) (f := zr_token) hx hb hK hP hD hS rfl rfl (vp_in_iff.mpr ⟨by omega, by omega⟩) dX2_write_21 (fun H locs hP hD hS => ?_)
    have hP : va_P (dC, dI) vwCl [(zr, .inr (2, [.ref azr_sign, .ref azr_token, .ref azr_in, .ref azr_own, .ref azr_since, .int zr_size])), (azr_sign, .inl (cI, 240, .inl (upd zr_sign (a_s).toNatClampNeg a_g))), (azr_token, .inl (cI, 240, .inl (upd zr_token (a_s).toNatClampNeg a_t))), (azr_in, .inl (cI, 240, .inl zr_in)), (azr_own, .inl (cI, 240, .inl zr_own)), (azr_since, .inl (cI, 240, .inl zr_since))] H := hP
    have hD : va_D A [(zr, .inr (2, [.ref azr_sign, .ref azr_token, .ref azr_in, .ref azr_own, .ref azr_since, .int zr_size])), (azr_sign, .inl (cI, 240, .inl (upd zr_sign (a_s).toNatClampNeg a_g))), (azr_token, .inl (cI, 240, .inl (upd zr_token (a_s).toNatClampNeg a_t))), (azr_in, .inl (cI, 240, .inl zr_in)), (azr_own, .inl (cI, 240, .inl zr_own)), (azr_since, .inl (cI, 240, .inl zr_since))] := hD
    refine lv_aload_n hx hb dX2_write_22 rfl (lv_at hl 0 rfl) ?_
    refine va_get (D := (dC, dI)) (ci := 2) (v := .ref azr_in) (C := RX2) (T := TX2) (N := 6) hx hb hts in_X2_write_X2 hown hK hP 0 rfl rfl 2 (by decide) (hts _ m_X2_write_3) (fun _ h9 => h9) rfl dX2_write_23 ?_
    refine lv_iload_n hx hb dX2_write_26 rfl (lv_at hl 1 rfl) ?_
    refine lv_iload hx hb dX2_write_27 (lv_at hl 4 rfl) ?_
    refine va_iast (q0 := 3) (t0 := 0) (n := 240) (f := zr_in) hx hb hK hP hD hS rfl rfl (vp_in_iff.mpr ⟨by omega, by omega⟩) dX2_write_29 (fun H locs hP hD hS => ?_)
    have hP : va_P (dC, dI) vwCl [(zr, .inr (2, [.ref azr_sign, .ref azr_token, .ref azr_in, .ref azr_own, .ref azr_since, .int zr_size])), (azr_sign, .inl (cI, 240, .inl (upd zr_sign (a_s).toNatClampNeg a_g))), (azr_token, .inl (cI, 240, .inl (upd zr_token (a_s).toNatClampNeg a_t))), (azr_in, .inl (cI, 240, .inl (upd zr_in (a_s).toNatClampNeg a_c))), (azr_own, .inl (cI, 240, .inl zr_own)), (azr_since, .inl (cI, 240, .inl zr_since))] H := hP
    have hD : va_D A [(zr, .inr (2, [.ref azr_sign, .ref azr_token, .ref azr_in, .ref azr_own, .ref azr_since, .int zr_size])), (azr_sign, .inl (cI, 240, .inl (upd zr_sign (a_s).toNatClampNeg a_g))), (azr_token, .inl (cI, 240, .inl (upd zr_token (a_s).toNatClampNeg a_t))), (azr_in, .inl (cI, 240, .inl (upd zr_in (a_s).toNatClampNeg a_c))), (azr_own, .inl (cI, 240, .inl zr_own)), (azr_since, .inl (cI, 240, .inl zr_since))] := hD
    refine lv_aload_n hx hb dX2_write_30 rfl (lv_at hl 0 rfl) ?_
    refine va_get (D := (dC, dI)) (ci := 2) (v := .ref azr_own) (C := RX2) (T := TX2) (N := 6) hx hb hts in_X2_write_X2 hown hK hP 0 rfl rfl 3 (by decide) (hts _ m_X2_write_4) (fun _ h9 => h9) rfl dX2_write_31 ?_
    refine lv_iload_n hx hb dX2_write_34 rfl (lv_at hl 1 rfl) ?_
    refine lv_iconst (v := (0 : Int32)) hx hb dX2_write_35 (by decide) ?_
    refine va_iast (q0 := 4) (t0 := 0) (n := 240) (f := zr_own) hx hb hK hP hD hS rfl rfl (vp_in_iff.mpr ⟨by omega, by omega⟩) dX2_write_36 (fun H locs hP hD hS => ?_)
    have hP : va_P (dC, dI) vwCl [(zr, .inr (2, [.ref azr_sign, .ref azr_token, .ref azr_in, .ref azr_own, .ref azr_since, .int zr_size])), (azr_sign, .inl (cI, 240, .inl (upd zr_sign (a_s).toNatClampNeg a_g))), (azr_token, .inl (cI, 240, .inl (upd zr_token (a_s).toNatClampNeg a_t))), (azr_in, .inl (cI, 240, .inl (upd zr_in (a_s).toNatClampNeg a_c))), (azr_own, .inl (cI, 240, .inl (upd zr_own (a_s).toNatClampNeg (0 : Int32)))), (azr_since, .inl (cI, 240, .inl zr_since))] H := hP
    have hD : va_D A [(zr, .inr (2, [.ref azr_sign, .ref azr_token, .ref azr_in, .ref azr_own, .ref azr_since, .int zr_size])), (azr_sign, .inl (cI, 240, .inl (upd zr_sign (a_s).toNatClampNeg a_g))), (azr_token, .inl (cI, 240, .inl (upd zr_token (a_s).toNatClampNeg a_t))), (azr_in, .inl (cI, 240, .inl (upd zr_in (a_s).toNatClampNeg a_c))), (azr_own, .inl (cI, 240, .inl (upd zr_own (a_s).toNatClampNeg (0 : Int32)))), (azr_since, .inl (cI, 240, .inl zr_since))] := hD
    refine lv_aload_n hx hb dX2_write_37 rfl (lv_at hl 0 rfl) ?_
    refine va_get (D := (dC, dI)) (ci := 2) (v := .ref azr_since) (C := RX2) (T := TX2) (N := 6) hx hb hts in_X2_write_X2 hown hK hP 0 rfl rfl 4 (by decide) (hts _ m_X2_write_5) (fun _ h9 => h9) rfl dX2_write_38 ?_
    refine lv_iload_n hx hb dX2_write_41 rfl (lv_at hl 1 rfl) ?_
    refine lv_iconst (v := (0 : Int32)) hx hb dX2_write_42 (by decide) ?_
    refine va_iast (q0 := 5) (t0 := 0) (n := 240) (f := zr_since) hx hb hK hP hD hS rfl rfl (vp_in_iff.mpr ⟨by omega, by omega⟩) dX2_write_43 (fun H locs hP hD hS => ?_)
    have hP : va_P (dC, dI) vwCl [(zr, .inr (2, [.ref azr_sign, .ref azr_token, .ref azr_in, .ref azr_own, .ref azr_since, .int zr_size])), (azr_sign, .inl (cI, 240, .inl (upd zr_sign (a_s).toNatClampNeg a_g))), (azr_token, .inl (cI, 240, .inl (upd zr_token (a_s).toNatClampNeg a_t))), (azr_in, .inl (cI, 240, .inl (upd zr_in (a_s).toNatClampNeg a_c))), (azr_own, .inl (cI, 240, .inl (upd zr_own (a_s).toNatClampNeg (0 : Int32)))), (azr_since, .inl (cI, 240, .inl (upd zr_since (a_s).toNatClampNeg (0 : Int32))))] H := hP
    have hD : va_D A [(zr, .inr (2, [.ref azr_sign, .ref azr_token, .ref azr_in, .ref azr_own, .ref azr_since, .int zr_size])), (azr_sign, .inl (cI, 240, .inl (upd zr_sign (a_s).toNatClampNeg a_g))), (azr_token, .inl (cI, 240, .inl (upd zr_token (a_s).toNatClampNeg a_t))), (azr_in, .inl (cI, 240, .inl (upd zr_in (a_s).toNatClampNeg a_c))), (azr_own, .inl (cI, 240, .inl (upd zr_own (a_s).toNatClampNeg (0 : Int32)))), (azr_since, .inl (cI, 240, .inl (upd zr_since (a_s).toNatClampNeg (0 : Int32))))] := hD
    have hE : f_X2_write zr_sign zr_token zr_in zr_own zr_since zr_size a_s a_g a_t a_c = ((upd zr_sign (a_s).toNatClampNeg a_g), (upd zr_token (a_s).toNatClampNeg a_t), (upd zr_in (a_s).toNatClampNeg a_c), (upd zr_own (a_s).toNatClampNeg (0 : Int32)), (upd zr_since (a_s).toNatClampNeg (0 : Int32))) := (by rw [f_X2_write, if_neg c_3])
    exact W.vret hx hb hr (fun t ht hW => ⟨⟨((upd zr_sign (a_s).toNatClampNeg a_g), (upd zr_token (a_s).toNatClampNeg a_t), (upd zr_in (a_s).toNatClampNeg a_c), (upd zr_own (a_s).toNatClampNeg (0 : Int32)), (upd zr_since (a_s).toNatClampNeg (0 : Int32))), rfl, by rw [hE], ⟨by rw [ht]; exact hP, hD⟩⟩, hS.F ht⟩) hS.2.2 dX2_write_44
