theorem sh_and (b : BitVec 64) (n : Nat) (hn : n ≤ 56) : b.sshiftRight n &&& 255#64 = (b >>> n) &&& 255#64 := by
  apply BitVec.eq_of_getLsbD_eq
  intro j hj
  rw [BitVec.getLsbD_and, BitVec.getLsbD_and, BitVec.getLsbD_sshiftRight, BitVec.getLsbD_ushiftRight]
  by_cases h : j < 8
  · have h1 : n + j < 64 := by omega
    have h2 : ¬ 64 ≤ j := by omega
    rw [if_pos h1, decide_eq_false h2, Bool.not_false, Bool.true_and]
  · have h3 : (255#64).getLsbD j = false := by
      rw [BitVec.getLsbD_ofNat, show (255 : Nat) = 2 ^ 8 - 1 from rfl, Nat.testBit_two_pow_sub_one, decide_eq_false h, Bool.and_false]
    rw [h3, Bool.and_false, Bool.and_false]
theorem by_sh (w c : Int64) (d : UInt64) (n : Nat) (hn : n ≤ 56) (hc : (c.toBitVec.smod 64#64).toNat = n) (hd : (d.toBitVec % 64#64).toNat = n) : (((w.toUInt64 >>> d).toInt64) &&& (255 : Int64)).toInt32 = ((w >>> c) &&& (255 : Int64)).toInt32 := by
  refine congrArg Int64.toInt32 (Int64.toBitVec_inj.mp ?_)
  have e1 : (w.toUInt64 >>> d).toInt64.toBitVec = w.toBitVec >>> n := by
    show w.toBitVec >>> (d.toBitVec % 64#64).toNat = _
    rw [hd]
  have e2 : (w >>> c).toBitVec = w.toBitVec.sshiftRight n := by
    show w.toBitVec.sshiftRight (c.toBitVec.smod 64#64).toNat = _
    rw [hc]
  rw [Int64.toBitVec_and, Int64.toBitVec_and, e1, e2]
  exact (sh_and _ n hn).symm
theorem lit_8 (i : Int32) (h0 : 0 ≤ i.toInt) (h1 : i.toInt < 8) : i = 0 ∨ i = 1 ∨ i = 2 ∨ i = 3 ∨ i = 4 ∨ i = 5 ∨ i = 6 ∨ i = 7 := by
  have h : i.toInt = 0 ∨ i.toInt = 1 ∨ i.toInt = 2 ∨ i.toInt = 3 ∨ i.toInt = 4 ∨ i.toInt = 5 ∨ i.toInt = 6 ∨ i.toInt = 7 := by omega
  rcases h with h | h | h | h | h | h | h | h
  · exact Or.inl (Int32.toInt_inj.mp h)
  · exact Or.inr (Or.inl (Int32.toInt_inj.mp h))
  · exact Or.inr (Or.inr (Or.inl (Int32.toInt_inj.mp h)))
  · exact Or.inr (Or.inr (Or.inr (Or.inl (Int32.toInt_inj.mp h))))
  · exact Or.inr (Or.inr (Or.inr (Or.inr (Or.inl (Int32.toInt_inj.mp h)))))
  · exact Or.inr (Or.inr (Or.inr (Or.inr (Or.inr (Or.inl (Int32.toInt_inj.mp h))))))
  · exact Or.inr (Or.inr (Or.inr (Or.inr (Or.inr (Or.inr (Or.inl (Int32.toInt_inj.mp h)))))))
  · exact Or.inr (Or.inr (Or.inr (Or.inr (Or.inr (Or.inr (Or.inr (Int32.toInt_inj.mp h)))))))
theorem byteOf_eq (w : Int64) (i : Int32) (h0 : 0 ≤ i.toInt) (h1 : i.toInt < 8) : ((w >>> (((8 : Int32) * i).toInt64 &&& 63)) &&& (255 : Int64)).toInt32 = f_X5_byteOf w i := by
  rw [f_X5_byteOf]
  rcases lit_8 i h0 h1 with h | h | h | h | h | h | h | h
  · rw [h]; exact (by_sh w _ _ 0 (by decide) (by decide) (by decide)).symm
  · rw [h]; exact (by_sh w _ _ 8 (by decide) (by decide) (by decide)).symm
  · rw [h]; exact (by_sh w _ _ 16 (by decide) (by decide) (by decide)).symm
  · rw [h]; exact (by_sh w _ _ 24 (by decide) (by decide) (by decide)).symm
  · rw [h]; exact (by_sh w _ _ 32 (by decide) (by decide) (by decide)).symm
  · rw [h]; exact (by_sh w _ _ 40 (by decide) (by decide) (by decide)).symm
  · rw [h]; exact (by_sh w _ _ 48 (by decide) (by decide) (by decide)).symm
  · rw [h]; exact (by_sh w _ _ 56 (by decide) (by decide) (by decide)).symm
def t_bad (w : Int64) (i : Int32) : Prop := f_X6_in (f_X5_byteOf w i) (32 : Int32) (126 : Int32) = (0 : Int32)
theorem bad_lo {w : Int64} {i : Int32} (h : f_X5_byteOf w i < (32 : Int32)) : t_bad w i := by rw [t_bad, f_X6_in, if_pos h]
theorem bad_hi {w : Int64} {i : Int32} (h1 : ¬ f_X5_byteOf w i < (32 : Int32)) (h : ¬ f_X5_byteOf w i ≤ (126 : Int32)) : t_bad w i := by
  rw [t_bad, f_X6_in, if_neg h1, if_pos (Int32.lt_iff_toInt_lt.mpr (q_nle h))]
theorem bad_no {w : Int64} {i : Int32} (h1 : ¬ f_X5_byteOf w i < (32 : Int32)) (h : f_X5_byteOf w i ≤ (126 : Int32)) : ¬ t_bad w i := by
  have c : ¬ (126 : Int32) < f_X5_byteOf w i := fun q => Int.not_lt.mpr (q_le h) (q_lt q)
  rw [t_bad, f_X6_in, if_neg h1, if_neg c]
  decide
theorem up_loop (w : Int64) (n : Int32) (hn : n.toInt ≤ 8) : ∀ (k m : Nat) (v : Int32), v.toInt + k = n.toInt → 0 ≤ v.toInt → k < m → (f_X5_areBytes_L2 w n m v = (0 : Int32) ↔ ∃ i : Int32, v.toInt ≤ i.toInt ∧ i.toInt < n.toInt ∧ t_bad w i) := by
  intro k
  induction k with
  | zero =>
    intro m v hv h0 hk
    obtain ⟨m, rfl⟩ : ∃ j, m = j + 1 := ⟨m - 1, by omega⟩
    have c1 : n ≤ v := Int32.le_iff_toInt_le.mpr (by omega)
    rw [f_X5_areBytes_L2, if_pos c1]
    exact ⟨fun h => absurd h (by decide), fun ⟨i, h1, h2, _⟩ => absurd h1 (by omega)⟩
  | succ k ih =>
    intro m v hv h0 hk
    obtain ⟨m, rfl⟩ : ∃ j, m = j + 1 := ⟨m - 1, by omega⟩
    have c1 : ¬ n ≤ v := fun q => by have t := q_le q; omega
    rw [f_X5_areBytes_L2, if_neg c1]
    by_cases c2 : f_X5_byteOf w v < (32 : Int32)
    · rw [if_pos c2]
      exact ⟨fun _ => ⟨v, Int.le_refl _, by omega, bad_lo c2⟩, fun _ => rfl⟩
    · rw [if_neg c2]
      by_cases c3 : f_X5_byteOf w v ≤ (126 : Int32)
      · rw [if_pos c3]
        have g : (v + (1 : Int32)).toInt = v.toInt + 1 := ti_add rfl (by omega) (by omega)
        refine (ih m (v + (1 : Int32)) (by rw [g]; omega) (by rw [g]; omega) (by omega)).trans ?_
        rw [g]
        refine ⟨fun ⟨i, h1, h2, h3⟩ => ⟨i, by omega, h2, h3⟩, fun ⟨i, h1, h2, h3⟩ => ⟨i, ?_, h2, h3⟩⟩
        by_cases q : v.toInt = i.toInt
        · exact absurd (Int32.toInt_inj.mp q ▸ h3) (bad_no c2 c3)
        · omega
      · rw [if_neg c3]
        exact ⟨fun _ => ⟨v, Int.le_refl _, by omega, bad_hi c2 c3⟩, fun _ => rfl⟩
theorem l71 (w : Int64) : ∀ (k n : Nat) (v : Int32) (f : Nat → Int32) (z : Int32), v.toInt = (k : Int) - 1 → 0 ≤ z.toInt → z.toInt + k ≤ 120 → k < n → (f_X6_type_L71 w n v f z).toInt = z.toInt + k := by
  intro k
  induction k with
  | zero =>
    intro n v f z hv hz hk hn
    obtain ⟨n, rfl⟩ : ∃ j, n = j + 1 := ⟨n - 1, by omega⟩
    have c1 : v < (0 : Int32) := Int32.lt_iff_toInt_lt.mpr (by rw [hv]; decide)
    rw [f_X6_type_L71, if_pos c1]
    omega
  | succ k ih =>
    intro n v f z hv hz hk hn
    obtain ⟨n, rfl⟩ : ∃ j, n = j + 1 := ⟨n - 1, by omega⟩
    have c1 : ¬ v < (0 : Int32) := fun q => by have t : v.toInt < 0 := q_lt q; omega
    have e : (z + (1 : Int32)).toInt = z.toInt + 1 := ti_add rfl (by omega) (by omega)
    have g : (v + (-1 : Int32)).toInt = v.toInt + (-1 : Int) := ti_add rfl (by omega) (by omega)
    rw [f_X6_type_L71, if_neg c1, ih n (v + (-1 : Int32)) _ _ (by rw [g, hv]; omega) (by rw [e]; omega) (by rw [e]; omega) (by omega), e]
    omega
theorem down_loop (w : Int64) (n : Int32) (h1 : 1 ≤ n.toInt) (hn : n.toInt ≤ 8) : ∀ (k m : Nat) (v : Int32), v.toInt = (k : Int) - 1 → k ≤ 8 → k < m → ((∃ i : Int32, 0 ≤ i.toInt ∧ i.toInt ≤ v.toInt ∧ t_bad w i) → f_X6_type_L17 w n m v = (-1 : Int32)) ∧ ((¬ ∃ i : Int32, 0 ≤ i.toInt ∧ i.toInt ≤ v.toInt ∧ t_bad w i) → f_X6_type_L17 w n m v = n) := by
  intro k
  induction k with
  | zero =>
    intro m v hv hk hm
    obtain ⟨m, rfl⟩ : ∃ j, m = j + 1 := ⟨m - 1, by omega⟩
    have c1 : v < (0 : Int32) := Int32.lt_iff_toInt_lt.mpr (by rw [hv]; decide)
    rw [f_X6_type_L17, if_pos c1]
    have e0 : ((0 : Int32) + n).toInt = 0 + n.toInt := ti_add2 rfl rfl (by omega) (by omega)
    have c2 : ((0 : Int32) + n) ≤ (120 : Int32) := Int32.le_iff_toInt_le.mpr (by rw [e0]; show 0 + n.toInt ≤ (120 : Int); omega)
    rw [if_pos c2]
    refine ⟨fun ⟨i, a, b, _⟩ => absurd a (by omega), fun _ => ?_⟩
    have g : (n - (1 : Int32)).toInt = n.toInt - 1 := ti_sub rfl (by omega) (by omega)
    have z0 : (0 : Int32).toInt = 0 := rfl
    refine Int32.toInt_inj.mp ?_
    rw [l71 w n.toInt.toNat 9 _ _ _ (by rw [g]; omega) (by rw [z0]; omega) (by rw [z0]; omega) (by omega), z0]
    omega
  | succ k ih =>
    intro m v hv hk hm
    obtain ⟨m, rfl⟩ : ∃ j, m = j + 1 := ⟨m - 1, by omega⟩
    have c1 : ¬ v < (0 : Int32) := fun q => by have t : v.toInt < 0 := q_lt q; omega
    have g : (v + (-1 : Int32)).toInt = v.toInt + (-1 : Int) := ti_add rfl (by omega) (by omega)
    rw [f_X6_type_L17, if_neg c1, byteOf_eq w v (by omega) (by omega)]
    by_cases c2 : f_X6_in (f_X5_byteOf w v) (32 : Int32) (126 : Int32) = (0 : Int32)
    · rw [if_pos c2]
      exact ⟨fun _ => rfl, fun h => absurd ⟨v, by omega, Int.le_refl _, c2⟩ h⟩
    · rw [if_neg c2]
      have t := ih m (v + (-1 : Int32)) (by rw [g, hv]; omega) (by omega) (by omega)
      rw [g] at t
      refine ⟨fun ⟨i, a, b, d⟩ => t.1 ⟨i, a, ?_, d⟩, fun h => t.2 (fun ⟨i, a, b, d⟩ => h ⟨i, a, by omega, d⟩)⟩
      by_cases q : i.toInt = v.toInt
      · exact absurd (Int32.toInt_inj.mp q ▸ d) c2
      · omega
theorem r_type (w : Int64) (n : Int32) : f_X6_type w n = g_type w n := by
  rw [f_X6_type, g_type, f_X6_in]
  by_cases c1 : n < (1 : Int32)
  · rw [if_pos c1, if_pos c1, if_pos rfl]
  by_cases c2 : (8 : Int32) < n
  · rw [if_neg c1, if_neg c1, if_pos c2, if_pos c2, if_pos rfl]
  rw [if_neg c1, if_neg c1, if_neg c2, if_neg c2, if_neg (by decide)]
  have t1 : (1 : Int) ≤ n.toInt := q_nlt c1
  have t2 : n.toInt ≤ 8 := q_nlt c2
  have g : (n - (1 : Int32)).toInt = n.toInt - 1 := ti_sub rfl (by omega) (by omega)
  have z0 : (0 : Int32).toInt = 0 := rfl
  have u := up_loop w n t2 n.toInt.toNat 5000000000 (0 : Int32) (by rw [z0]; omega) (by rw [z0]; omega) (by omega)
  have d := down_loop w n t1 t2 n.toInt.toNat 9 (n - (1 : Int32)) (by rw [g]; omega) (by omega) (by omega)
  rw [g] at d
  rw [z0] at u
  rw [f_X5_areBytes]
  by_cases c3 : f_X5_areBytes_L2 w n 5000000000 (0 : Int32) = (0 : Int32)
  · rw [if_pos c3]
    obtain ⟨i, a, b, e⟩ := u.mp c3
    exact d.1 ⟨i, a, by omega, e⟩
  · rw [if_neg c3]
    exact d.2 (fun ⟨i, a, b, e⟩ => c3 (u.mpr ⟨i, a, by omega, e⟩))
theorem e_type (a_w : Int64) (a_n : Int32) : (f_X5_type (fun _ => (0 : Int32)) (0 : Int32) a_w a_n).1 = f_X6_type a_w a_n := by
  rw [v_X5_type, r_type]
