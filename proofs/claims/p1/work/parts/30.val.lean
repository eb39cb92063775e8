theorem sp0 (s : Nat → Int32) (p : Int32) : f_X4_spotAt s (0 : Int32) p = (-1 : Int32) := by
  rw [f_X4_spotAt]
  by_cases c1 : p < (0 : Int32)
  · rw [if_pos c1]
  · rw [if_neg c1]
    by_cases c2 : (0 : Int32) ≤ p
    · rw [if_pos c2]
    · exact absurd (Int32.not_lt.mp c1) c2
theorem names0 (c : Int32) : f_X1_names (0 : Int32) c = (0 : Int32) := by
  rw [f_X1_names]
  by_cases c1 : c < (1 : Int32)
  · rw [if_pos c1]
  · rw [if_neg c1]
    by_cases c2 : (0 : Int32) < c
    · rw [if_pos c2]
    · have t1 : (1 : Int) ≤ c.toInt := q_nlt c1
      have t2 : c.toInt ≤ 0 := q_nlt c2
      exact absurd t1 (by omega)
theorem span0 (a b : Int32) : f_X5_isSpan (0 : Int32) a b = (0 : Int32) := by
  rw [f_X5_isSpan]
  by_cases c1 : a < (0 : Int32)
  · rw [if_pos c1]
  · rw [if_neg c1]
    by_cases c2 : b ≤ a
    · rw [if_pos c2]
    · rw [if_neg c2]
      by_cases c3 : (0 : Int32) < b
      · rw [if_pos c3]
      · have t1 : (0 : Int) ≤ a.toInt := q_nlt c1
        have t2 := q_nle c2
        have t3 : b.toInt ≤ 0 := q_nlt c3
        exact absurd t1 (by omega)
def g_type (w : Int64) (n : Int32) : Int32 := if n < (1 : Int32) then (-1 : Int32) else if (8 : Int32) < n then (-1 : Int32) else if f_X5_areBytes w n = (0 : Int32) then (-1 : Int32) else n
theorem add_sz (f : Nat → Int32) (z b : Int32) (h0 : 0 ≤ z.toInt) (h1 : z.toInt < 120) : (f_X3_add f z b).2.toInt = z.toInt + 1 := by
  have c1 : ¬ z < (0 : Int32) := fun q => by have t : z.toInt < 0 := q_lt q; omega
  have c2 : ¬ (120 : Int32) ≤ z := fun q => by have t : 120 ≤ z.toInt := q_le q; omega
  rw [f_X3_add, if_neg c1, if_neg c2]
  exact ti_add rfl (by omega) (by omega)
theorem type_loop (w : Int64) : ∀ (k n : Nat) (v : Int32) (f : Nat → Int32) (z : Int32), v.toInt = (k : Int) - 1 → 0 ≤ z.toInt → z.toInt + k ≤ 120 → k < n → (f_X5_type_L43 w n v f z).1.toInt = z.toInt + k := by
  intro k
  induction k with
  | zero =>
    intro n v f z hv hz hk hn
    obtain ⟨n, rfl⟩ : ∃ j, n = j + 1 := ⟨n - 1, by omega⟩
    have c1 : v < (0 : Int32) := Int32.lt_iff_toInt_lt.mpr (by rw [hv]; decide)
    rw [f_X5_type_L43, if_pos c1]
    show z.toInt = _
    omega
  | succ k ih =>
    intro n v f z hv hz hk hn
    obtain ⟨n, rfl⟩ : ∃ j, n = j + 1 := ⟨n - 1, by omega⟩
    have c1 : ¬ v < (0 : Int32) := fun q => by have t : v.toInt < 0 := q_lt q; omega
    have e : (f_X3_add f z (f_X5_byteOf w v)).2.toInt = z.toInt + 1 := add_sz _ _ _ hz (by omega)
    have g : (v + (-1 : Int32)).toInt = v.toInt + (-1 : Int) := ti_add rfl (by omega) (by omega)
    rw [f_X5_type_L43, if_neg c1, f_X5_type_k61_u_13, ih n (v + (-1 : Int32)) _ _ (by rw [g, hv]; omega) (by rw [e]; omega) (by rw [e]; omega) (by omega), e]
    omega
theorem v_X5_type (a_w : Int64) (a_n : Int32) : (f_X5_type (fun _ => (0 : Int32)) (0 : Int32) a_w a_n).1 = g_type a_w a_n := by
  by_cases c1 : a_n < (1 : Int32)
  · rw [f_X5_type, g_type, if_pos c1, if_pos c1]
  by_cases c2 : (8 : Int32) < a_n
  · rw [f_X5_type, g_type, if_neg c1, if_neg c1, if_pos c2, if_pos c2]
  by_cases c3 : f_X5_areBytes a_w a_n = (0 : Int32)
  · rw [f_X5_type, g_type, if_neg c1, if_neg c1, if_neg c2, if_neg c2, if_pos c3, if_pos c3]
  have t1 : (1 : Int) ≤ a_n.toInt := q_nlt c1
  have t2 : a_n.toInt ≤ 8 := q_nlt c2
  have e0 : ((120 : Int32) - (0 : Int32)).toInt = 120 := rfl
  have c4 : a_n ≤ ((120 : Int32) - (0 : Int32)) := Int32.le_iff_toInt_le.mpr (by rw [e0]; omega)
  rw [f_X5_type, g_type, if_neg c1, if_neg c1, if_neg c2, if_neg c2, if_neg c3, if_neg c3, if_pos c4]
  have g : (a_n - (1 : Int32)).toInt = a_n.toInt - 1 := ti_sub rfl (by omega) (by omega)
  have z0 : (0 : Int32).toInt = 0 := rfl
  refine Int32.toInt_inj.mp ?_
  rw [type_loop a_w a_n.toInt.toNat _ _ _ _ (by rw [g]; omega) (by rw [z0]; omega) (by rw [z0]; omega) (by omega), z0]
  omega
theorem v_X5_length (a_v : Int32) : (f_X5_length (fun _ => (0 : Int32)) (fun _ => (0 : Int32)) (fun _ => (0 : Int32)) (0 : Int32) (fun _ => (0 : Int32)) (fun _ => (0 : Int32)) (0 : Int32) (0 : Int32) (0 : Int32) (fun _ => (0 : Int32)) (fun _ => (0 : Int32)) (0 : Int32) a_v).1 = if f_X5_isView a_v = (0 : Int32) then (-1 : Int32) else (0 : Int32) := by
  by_cases c : f_X5_isView a_v = (0 : Int32)
  · rw [f_X5_length, if_pos c, if_pos c]
  · rw [f_X5_length, if_neg c, if_neg c]; rfl
theorem v_X5_begin : (f_X5_begin (fun _ => (0 : Int32)) (fun _ => (0 : Int32)) (fun _ => (0 : Int32)) (fun _ => (0 : Int32)) (fun _ => (0 : Int32)) (fun _ => (0 : Int32)) (0 : Int32)).1 = (0 : Int32) := by
  rfl
theorem v_X5_clashes : f_X5_clashes (fun _ => (0 : Int32)) (fun _ => (0 : Int32)) (fun _ => (0 : Int32)) (fun _ => (0 : Int32)) (0 : Int32) (fun _ => (0 : Int32)) (fun _ => (0 : Int32)) (0 : Int32) = (0 : Int32) := by
  rfl
theorem v_X5_clean : (f_X5_clean (fun _ => (0 : Int32)) (fun _ => (0 : Int32)) (fun _ => (0 : Int32)) (0 : Int32) (fun _ => (0 : Int32)) (fun _ => (0 : Int32)) (0 : Int32) (0 : Int32) (0 : Int32) (fun _ => (0 : Int32)) (fun _ => (0 : Int32)) (fun _ => (0 : Int32)) (fun _ => (0 : Int32)) (fun _ => (0 : Int32)) (0 : Int32) (fun _ => (0 : Int32)) (fun _ => (0 : Int32)) (fun _ => (0 : Int32)) (fun _ => (0 : Int32)) (fun _ => (0 : Int32)) (0 : Int32)).1 = (0 : Int32) := by
  rfl
theorem v_X5_told (a_v : Int32) (a_p : Int32) (a_w : Int32) : (f_X5_told (fun _ => (0 : Int32)) (fun _ => (0 : Int32)) (fun _ => (0 : Int32)) (fun _ => (0 : Int32)) (0 : Int32) (fun _ => (0 : Int32)) (fun _ => (0 : Int32)) (0 : Int32) (0 : Int32) (0 : Int32) (fun _ => (0 : Int32)) (fun _ => (0 : Int32)) (fun _ => (0 : Int32)) (fun _ => (0 : Int32)) (fun _ => (0 : Int32)) (0 : Int32) a_v a_p a_w).1 = (-1 : Int32) := by
  by_cases c1 : f_X5_isView a_v = (0 : Int32)
  · rw [f_X5_told, if_pos c1]
  by_cases c2 : a_w < (0 : Int32)
  · rw [f_X5_told, if_neg c1, if_pos c2]
  by_cases c3 : a_w ≤ (7 : Int32)
  · rw [f_X5_told, if_neg c1, if_neg c2, if_pos c3, f_X5_told_k24_u_6]
    have h : ∀ s : Nat → Int32, f_X2_has (0 : Int32) (f_X4_spotAt s (0 : Int32) a_p) = (0 : Int32) := fun s => by rw [sp0]; rfl
    exact congrArg Prod.fst (if_pos (h _))
  · rw [f_X5_told, if_neg c1, if_neg c2, if_neg c3]
theorem v_X5_place (a_v : Int32) (a_p : Int32) (a_o : Int32) : (f_X5_place (fun _ => (0 : Int32)) (fun _ => (0 : Int32)) (fun _ => (0 : Int32)) (0 : Int32) (fun _ => (0 : Int32)) (fun _ => (0 : Int32)) (0 : Int32) (0 : Int32) (0 : Int32) (fun _ => (0 : Int32)) (fun _ => (0 : Int32)) (0 : Int32) a_v a_p a_o).1 = (-1 : Int32) := by
  by_cases c1 : f_X5_isView a_v = (0 : Int32)
  · rw [f_X5_place, if_pos c1]
  by_cases c2 : f_X5_isView a_o = (0 : Int32)
  · rw [f_X5_place, if_neg c1, if_pos c2]
  · rw [f_X5_place, if_neg c1, if_neg c2, f_X5_place_k21_u_7]
    have h : ∀ s : Nat → Int32, f_X2_has (0 : Int32) (f_X4_spotAt s (0 : Int32) a_p) = (0 : Int32) := fun s => by rw [sp0]; rfl
    exact congrArg Prod.fst (if_pos (h _))
theorem v_X5_put (a_h : Int32) (a_a : Int32) : (f_X5_put (fun _ => (0 : Int32)) (fun _ => (0 : Int32)) (fun _ => (0 : Int32)) (fun _ => (0 : Int32)) (fun _ => (0 : Int32)) (0 : Int32) (fun _ => (0 : Int32)) (fun _ => (0 : Int32)) (fun _ => (0 : Int32)) (fun _ => (0 : Int32)) (0 : Int32) (fun _ => (0 : Int32)) (fun _ => (0 : Int32)) (0 : Int32) (0 : Int32) (0 : Int32) (fun _ => (0 : Int32)) (0 : Int32) a_h a_a).1 = if f_X5_isHand a_h = (0 : Int32) then (-1 : Int32) else if f_X5_isPlace (0 : Int32) a_a = (0 : Int32) then (-1 : Int32) else (-2 : Int32) := by
  by_cases c1 : f_X5_isHand a_h = (0 : Int32)
  · rw [f_X5_put, if_pos c1, if_pos c1]
  rw [f_X5_put, if_neg c1, if_neg c1, f_X5_put_k16_u_5]
  by_cases c2 : f_X5_isPlace (0 : Int32) a_a = (0 : Int32)
  · rw [if_pos c2]; exact congrArg Prod.fst (if_pos c2)
  · rw [if_neg c2]; exact congrArg Prod.fst (if_neg c2)
theorem v_X5_mark (a_k : Int32) (a_h : Int32) (a_a : Int32) (a_b : Int32) (a_l : Int32) : (f_X5_mark (fun _ => (0 : Int32)) (fun _ => (0 : Int32)) (fun _ => (0 : Int32)) (fun _ => (0 : Int32)) (0 : Int32) (fun _ => (0 : Int32)) (fun _ => (0 : Int32)) (0 : Int32) (0 : Int32) (0 : Int32) (fun _ => (0 : Int32)) (fun _ => (0 : Int32)) (0 : Int32) a_k a_h a_a a_b a_l).1 = (-1 : Int32) := by
  by_cases c1 : f_X5_isHand a_h = (0 : Int32)
  · rw [f_X5_mark, if_pos c1]
  rw [f_X5_mark, if_neg c1, f_X5_mark_k16_u_5]
  exact congrArg Prod.fst (if_pos (span0 _ _))
theorem v_X5_strike (a_h : Int32) (a_a : Int32) (a_b : Int32) : (f_X5_strike (fun _ => (0 : Int32)) (fun _ => (0 : Int32)) (fun _ => (0 : Int32)) (fun _ => (0 : Int32)) (0 : Int32) (fun _ => (0 : Int32)) (fun _ => (0 : Int32)) (0 : Int32) (0 : Int32) (0 : Int32) (fun _ => (0 : Int32)) (fun _ => (0 : Int32)) (0 : Int32) a_h a_a a_b).1 = (-1 : Int32) := by
  exact v_X5_mark _ _ _ _ _
theorem v_X5_remark (a_h : Int32) (a_a : Int32) (a_b : Int32) : (f_X5_remark (fun _ => (0 : Int32)) (fun _ => (0 : Int32)) (fun _ => (0 : Int32)) (fun _ => (0 : Int32)) (0 : Int32) (fun _ => (0 : Int32)) (fun _ => (0 : Int32)) (0 : Int32) (0 : Int32) (0 : Int32) (fun _ => (0 : Int32)) (fun _ => (0 : Int32)) (0 : Int32) a_h a_a a_b).1 = (-1 : Int32) := by
  exact v_X5_mark _ _ _ _ _
theorem v_X5_shape (a_h : Int32) (a_a : Int32) (a_b : Int32) (a_l : Int32) : (f_X5_shape (fun _ => (0 : Int32)) (fun _ => (0 : Int32)) (fun _ => (0 : Int32)) (fun _ => (0 : Int32)) (0 : Int32) (fun _ => (0 : Int32)) (fun _ => (0 : Int32)) (0 : Int32) (0 : Int32) (0 : Int32) (fun _ => (0 : Int32)) (fun _ => (0 : Int32)) (0 : Int32) a_h a_a a_b a_l).1 = (-1 : Int32) := by
  by_cases c1 : f_X5_isLook a_l = (0 : Int32)
  · rw [f_X5_shape, if_pos c1]
  · rw [f_X5_shape, if_neg c1]; exact v_X5_mark _ _ _ _ _
theorem v_X5_move (a_h : Int32) (a_a : Int32) (a_b : Int32) (a_c : Int32) : (f_X5_move (fun _ => (0 : Int32)) (fun _ => (0 : Int32)) (fun _ => (0 : Int32)) (fun _ => (0 : Int32)) (0 : Int32) (fun _ => (0 : Int32)) (fun _ => (0 : Int32)) (0 : Int32) (0 : Int32) (0 : Int32) (fun _ => (0 : Int32)) (fun _ => (0 : Int32)) (fun _ => (0 : Int32)) (fun _ => (0 : Int32)) (fun _ => (0 : Int32)) (0 : Int32) a_h a_a a_b a_c).1 = (-1 : Int32) := by
  by_cases c1 : f_X5_isHand a_h = (0 : Int32)
  · rw [f_X5_move, if_pos c1]
  rw [f_X5_move, if_neg c1, f_X5_move_k16_u_5]
  exact congrArg Prod.fst (if_pos (span0 _ _))
theorem v_X5_settle (a_c : Int32) (a_b : Int32) : (f_X5_settle (fun _ => (0 : Int32)) (0 : Int32) a_c a_b).1 = (-1 : Int32) := by
  rw [f_X5_settle, if_pos (names0 _)]
theorem v_X5_cut (a_c : Int32) (a_k : Int32) : (f_X5_cut (fun _ => (0 : Int32)) (fun _ => (0 : Int32)) (fun _ => (0 : Int32)) (fun _ => (0 : Int32)) (0 : Int32) (fun _ => (0 : Int32)) (fun _ => (0 : Int32)) (0 : Int32) a_c a_k).1 = (-1 : Int32) := by
  rw [f_X5_cut, if_pos (names0 _)]
theorem v_X5_change (a_c : Int32) (a_w : Int32) : f_X5_change (fun _ => (0 : Int32)) (fun _ => (0 : Int32)) (fun _ => (0 : Int32)) (fun _ => (0 : Int32)) (0 : Int32) (fun _ => (0 : Int32)) (fun _ => (0 : Int32)) (0 : Int32) a_c a_w = (-1 : Int32) := by
  rw [f_X5_change, if_pos (names0 _)]
theorem v_X5_span (a_c : Int32) (a_v : Int32) (a_l : Int32) : (f_X5_span (fun _ => (0 : Int32)) (fun _ => (0 : Int32)) (fun _ => (0 : Int32)) (0 : Int32) (fun _ => (0 : Int32)) (fun _ => (0 : Int32)) (0 : Int32) (0 : Int32) (0 : Int32) (fun _ => (0 : Int32)) (fun _ => (0 : Int32)) (0 : Int32) a_c a_v a_l).1 = (-1 : Int32) := by
  rw [f_X5_span, if_pos (names0 _)]
theorem v_X5_look (a_c : Int32) (a_l : Int32) : (f_X5_look (fun _ => (0 : Int32)) (fun _ => (0 : Int32)) (fun _ => (0 : Int32)) (0 : Int32) a_c a_l).1 = (-1 : Int32) := by
  rw [f_X5_look, if_pos (names0 _)]
theorem v_X5_clash (a_a : Int32) (a_b : Int32) : f_X5_clash (fun _ => (0 : Int32)) (fun _ => (0 : Int32)) (fun _ => (0 : Int32)) (fun _ => (0 : Int32)) (0 : Int32) (fun _ => (0 : Int32)) (fun _ => (0 : Int32)) (0 : Int32) a_a a_b = (-1 : Int32) := by
  rw [f_X5_clash, if_pos (names0 _)]
def g_count (w : Int32) : Int32 := if w = (0 : Int32) then (0 : Int32) else if w = (1 : Int32) then (0 : Int32) else if w = (2 : Int32) then (0 : Int32) else if w = (3 : Int32) then (0 : Int32) else if w = (4 : Int32) then (0 : Int32) else if w = (5 : Int32) then (0 : Int32) else if w = (6 : Int32) then (0 : Int32) else (-1 : Int32)
theorem v_X5_count (a_w : Int32) : f_X5_count (fun _ => (0 : Int32)) (0 : Int32) (fun _ => (0 : Int32)) (0 : Int32) (0 : Int32) a_w = g_count a_w := by
  by_cases c0 : a_w = (0 : Int32)
  · subst c0; rfl
  by_cases c1 : a_w = (1 : Int32)
  · subst c1; rfl
  by_cases c2 : a_w = (2 : Int32)
  · subst c2; rfl
  by_cases c3 : a_w = (3 : Int32)
  · subst c3; rfl
  by_cases c4 : a_w = (4 : Int32)
  · subst c4; rfl
  by_cases c5 : a_w = (5 : Int32)
  · subst c5; rfl
  by_cases c6 : a_w = (6 : Int32)
  · subst c6; rfl
  simp only [f_X5_count, g_count, if_neg c0, if_neg c1, if_neg c2, if_neg c3, if_neg c4, if_neg c5, if_neg c6]
