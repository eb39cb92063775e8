theorem e_isView (v : Int32) : f_X5_isView v = f_X6_isView v := by
  rw [f_X5_isView, f_X6_isView, f_X6_in]
  by_cases c1 : v < (0 : Int32)
  · rw [if_pos c1, if_pos c1]
  · rw [if_neg c1, if_neg c1]
    by_cases c2 : (7 : Int32) ≤ v
    · have t : (7 : Int) ≤ v.toInt := q_le c2
      have c3 : (6 : Int32) < v := Int32.lt_iff_toInt_lt.mpr (show (6 : Int) < v.toInt by omega)
      rw [if_pos c2, if_pos c3]
    · have t : v.toInt < 7 := q_nle c2
      have c3 : ¬ (6 : Int32) < v := fun q => by have t2 : (6 : Int) < v.toInt := q_lt q; omega
      rw [if_neg c2, if_neg c3]
theorem e_isHand (v : Int32) : f_X5_isHand v = f_X6_isHand v := by
  rw [f_X5_isHand, f_X6_isHand, f_X6_in]
  by_cases c1 : v < (0 : Int32)
  · rw [if_pos c1, if_pos c1]
  · rw [if_neg c1, if_neg c1]
    by_cases c2 : (4 : Int32) ≤ v
    · have t : (4 : Int) ≤ v.toInt := q_le c2
      have c3 : (3 : Int32) < v := Int32.lt_iff_toInt_lt.mpr (show (3 : Int) < v.toInt by omega)
      rw [if_pos c2, if_pos c3]
    · have t : v.toInt < 4 := q_nle c2
      have c3 : ¬ (3 : Int32) < v := fun q => by have t2 : (3 : Int) < v.toInt := q_lt q; omega
      rw [if_neg c2, if_neg c3]
theorem e_isPlace (a : Int32) : f_X5_isPlace (0 : Int32) a = f_X6_in a (0 : Int32) (0 : Int32) := rfl
theorem r_told (v p w : Int32) : f_X6_told v p w = (-1 : Int32) := by
  rw [f_X6_told]
  by_cases c1 : f_X6_isView v = (0 : Int32)
  · rw [if_pos c1]
  rw [if_neg c1]
  by_cases c2 : f_X6_in w (0 : Int32) (7 : Int32) = (0 : Int32)
  · rw [if_pos c2]
  rw [if_neg c2, if_pos (in_0 _ _ _ (by decide))]
theorem r_place (v p o : Int32) : f_X6_place v p o = (-1 : Int32) := by
  rw [f_X6_place]
  by_cases c1 : f_X6_isView v = (0 : Int32)
  · rw [if_pos c1]
  rw [if_neg c1]
  by_cases c2 : f_X6_isView o = (0 : Int32)
  · rw [if_pos c2]
  rw [if_neg c2, if_pos (in_0 _ _ _ (by decide))]
theorem r_over (h a b : Int32) : f_X6_over h a b = (-1 : Int32) := by rw [f_X6_over, if_pos (rspan_0 _ _ _)]
theorem r_shape (h a b l : Int32) : f_X6_shape h a b l = (-1 : Int32) := by
  rw [f_X6_shape]
  by_cases c1 : f_X6_in l (1 : Int32) (7 : Int32) = (0 : Int32)
  · rw [if_pos c1]
  · rw [if_neg c1]; exact r_over _ _ _
theorem r_move (h a b : Int32) : f_X6_move h a b = (-1 : Int32) := by rw [f_X6_move, if_pos (rspan_0 _ _ _)]
theorem r_settle (c : Int32) : f_X6_settle c = (-1 : Int32) := by rw [f_X6_settle, if_pos (isChange_0 _)]
theorem r_cut (c : Int32) : f_X6_cut c = (-1 : Int32) := by rw [f_X6_cut, if_pos (isChange_0 _)]
theorem r_change (c : Int32) : f_X6_change c = (-1 : Int32) := by rw [f_X6_change, if_pos (isChange_0 _)]
theorem r_span (c : Int32) : f_X6_span c = (-1 : Int32) := by rw [f_X6_span, if_pos (isChange_0 _)]
theorem r_look (c : Int32) : f_X6_look c = (-1 : Int32) := by rw [f_X6_look, if_pos (isChange_0 _)]
theorem r_clash (c : Int32) : f_X6_clash c = (-1 : Int32) := by rw [f_X6_clash, if_pos (isChange_0 _)]
theorem e_length (a_v : Int32) : (f_X5_length (fun _ => (0 : Int32)) (fun _ => (0 : Int32)) (fun _ => (0 : Int32)) (0 : Int32) (fun _ => (0 : Int32)) (fun _ => (0 : Int32)) (0 : Int32) (0 : Int32) (0 : Int32) (fun _ => (0 : Int32)) (fun _ => (0 : Int32)) (0 : Int32) a_v).1 = f_X6_length a_v := by
  rw [v_X5_length, f_X6_length, e_isView]
theorem e_begin : (f_X5_begin (fun _ => (0 : Int32)) (fun _ => (0 : Int32)) (fun _ => (0 : Int32)) (fun _ => (0 : Int32)) (fun _ => (0 : Int32)) (fun _ => (0 : Int32)) (0 : Int32)).1 = (f_X6_begin).1 := by
  rfl
theorem e_told (a_v : Int32) (a_p : Int32) (a_w : Int32) : (f_X5_told (fun _ => (0 : Int32)) (fun _ => (0 : Int32)) (fun _ => (0 : Int32)) (fun _ => (0 : Int32)) (0 : Int32) (fun _ => (0 : Int32)) (fun _ => (0 : Int32)) (0 : Int32) (0 : Int32) (0 : Int32) (fun _ => (0 : Int32)) (fun _ => (0 : Int32)) (fun _ => (0 : Int32)) (fun _ => (0 : Int32)) (fun _ => (0 : Int32)) (0 : Int32) a_v a_p a_w).1 = f_X6_told a_v a_p a_w := by
  rw [v_X5_told, r_told]
theorem e_place (a_v : Int32) (a_p : Int32) (a_o : Int32) : (f_X5_place (fun _ => (0 : Int32)) (fun _ => (0 : Int32)) (fun _ => (0 : Int32)) (0 : Int32) (fun _ => (0 : Int32)) (fun _ => (0 : Int32)) (0 : Int32) (0 : Int32) (0 : Int32) (fun _ => (0 : Int32)) (fun _ => (0 : Int32)) (0 : Int32) a_v a_p a_o).1 = f_X6_place a_v a_p a_o := by
  rw [v_X5_place, r_place]
theorem e_put (a_h : Int32) (a_a : Int32) : (f_X5_put (fun _ => (0 : Int32)) (fun _ => (0 : Int32)) (fun _ => (0 : Int32)) (fun _ => (0 : Int32)) (fun _ => (0 : Int32)) (0 : Int32) (fun _ => (0 : Int32)) (fun _ => (0 : Int32)) (fun _ => (0 : Int32)) (fun _ => (0 : Int32)) (0 : Int32) (fun _ => (0 : Int32)) (fun _ => (0 : Int32)) (0 : Int32) (0 : Int32) (0 : Int32) (fun _ => (0 : Int32)) (0 : Int32) a_h a_a).1 = f_X6_put a_h a_a := by
  rw [v_X5_put, f_X6_put, e_isHand, e_isPlace]
theorem e_strike (a_h : Int32) (a_a : Int32) (a_b : Int32) : (f_X5_strike (fun _ => (0 : Int32)) (fun _ => (0 : Int32)) (fun _ => (0 : Int32)) (fun _ => (0 : Int32)) (0 : Int32) (fun _ => (0 : Int32)) (fun _ => (0 : Int32)) (0 : Int32) (0 : Int32) (0 : Int32) (fun _ => (0 : Int32)) (fun _ => (0 : Int32)) (0 : Int32) a_h a_a a_b).1 = f_X6_strike a_h a_a a_b := by
  rw [v_X5_strike, f_X6_strike, r_over]
theorem e_remark (a_h : Int32) (a_a : Int32) (a_b : Int32) : (f_X5_remark (fun _ => (0 : Int32)) (fun _ => (0 : Int32)) (fun _ => (0 : Int32)) (fun _ => (0 : Int32)) (0 : Int32) (fun _ => (0 : Int32)) (fun _ => (0 : Int32)) (0 : Int32) (0 : Int32) (0 : Int32) (fun _ => (0 : Int32)) (fun _ => (0 : Int32)) (0 : Int32) a_h a_a a_b).1 = f_X6_remark a_h a_a a_b := by
  rw [v_X5_remark, f_X6_remark, r_over]
theorem e_shape (a_h : Int32) (a_a : Int32) (a_b : Int32) (a_l : Int32) : (f_X5_shape (fun _ => (0 : Int32)) (fun _ => (0 : Int32)) (fun _ => (0 : Int32)) (fun _ => (0 : Int32)) (0 : Int32) (fun _ => (0 : Int32)) (fun _ => (0 : Int32)) (0 : Int32) (0 : Int32) (0 : Int32) (fun _ => (0 : Int32)) (fun _ => (0 : Int32)) (0 : Int32) a_h a_a a_b a_l).1 = f_X6_shape a_h a_a a_b a_l := by
  rw [v_X5_shape, r_shape]
theorem e_move (a_h : Int32) (a_a : Int32) (a_b : Int32) (a_c : Int32) : (f_X5_move (fun _ => (0 : Int32)) (fun _ => (0 : Int32)) (fun _ => (0 : Int32)) (fun _ => (0 : Int32)) (0 : Int32) (fun _ => (0 : Int32)) (fun _ => (0 : Int32)) (0 : Int32) (0 : Int32) (0 : Int32) (fun _ => (0 : Int32)) (fun _ => (0 : Int32)) (fun _ => (0 : Int32)) (fun _ => (0 : Int32)) (fun _ => (0 : Int32)) (0 : Int32) a_h a_a a_b a_c).1 = f_X6_move a_h a_a a_b := by
  rw [v_X5_move, r_move]
theorem e_settle (a_c : Int32) (a_b : Int32) : (f_X5_settle (fun _ => (0 : Int32)) (0 : Int32) a_c a_b).1 = f_X6_settle a_c := by
  rw [v_X5_settle, r_settle]
theorem e_cut (a_c : Int32) (a_k : Int32) : (f_X5_cut (fun _ => (0 : Int32)) (fun _ => (0 : Int32)) (fun _ => (0 : Int32)) (fun _ => (0 : Int32)) (0 : Int32) (fun _ => (0 : Int32)) (fun _ => (0 : Int32)) (0 : Int32) a_c a_k).1 = f_X6_cut a_c := by
  rw [v_X5_cut, r_cut]
theorem e_change (a_c : Int32) (a_w : Int32) : f_X5_change (fun _ => (0 : Int32)) (fun _ => (0 : Int32)) (fun _ => (0 : Int32)) (fun _ => (0 : Int32)) (0 : Int32) (fun _ => (0 : Int32)) (fun _ => (0 : Int32)) (0 : Int32) a_c a_w = f_X6_change a_c := by
  rw [v_X5_change, r_change]
theorem e_span (a_c : Int32) (a_v : Int32) (a_l : Int32) : (f_X5_span (fun _ => (0 : Int32)) (fun _ => (0 : Int32)) (fun _ => (0 : Int32)) (0 : Int32) (fun _ => (0 : Int32)) (fun _ => (0 : Int32)) (0 : Int32) (0 : Int32) (0 : Int32) (fun _ => (0 : Int32)) (fun _ => (0 : Int32)) (0 : Int32) a_c a_v a_l).1 = f_X6_span a_c := by
  rw [v_X5_span, r_span]
theorem e_look (a_c : Int32) (a_l : Int32) : (f_X5_look (fun _ => (0 : Int32)) (fun _ => (0 : Int32)) (fun _ => (0 : Int32)) (0 : Int32) a_c a_l).1 = f_X6_look a_c := by
  rw [v_X5_look, r_look]
theorem e_clash (a_a : Int32) (a_b : Int32) : f_X5_clash (fun _ => (0 : Int32)) (fun _ => (0 : Int32)) (fun _ => (0 : Int32)) (fun _ => (0 : Int32)) (0 : Int32) (fun _ => (0 : Int32)) (fun _ => (0 : Int32)) (0 : Int32) a_a a_b = f_X6_clash a_a := by
  rw [v_X5_clash, r_clash]
theorem e_clashes : f_X5_clashes (fun _ => (0 : Int32)) (fun _ => (0 : Int32)) (fun _ => (0 : Int32)) (fun _ => (0 : Int32)) (0 : Int32) (fun _ => (0 : Int32)) (fun _ => (0 : Int32)) (0 : Int32) = f_X6_clashes := by
  rfl
theorem e_clean : (f_X5_clean (fun _ => (0 : Int32)) (fun _ => (0 : Int32)) (fun _ => (0 : Int32)) (0 : Int32) (fun _ => (0 : Int32)) (fun _ => (0 : Int32)) (0 : Int32) (0 : Int32) (0 : Int32) (fun _ => (0 : Int32)) (fun _ => (0 : Int32)) (fun _ => (0 : Int32)) (fun _ => (0 : Int32)) (fun _ => (0 : Int32)) (0 : Int32) (fun _ => (0 : Int32)) (fun _ => (0 : Int32)) (fun _ => (0 : Int32)) (fun _ => (0 : Int32)) (fun _ => (0 : Int32)) (0 : Int32)).1 = f_X6_clean := by
  rfl
theorem e_count (a_w : Int32) : f_X5_count (fun _ => (0 : Int32)) (0 : Int32) (fun _ => (0 : Int32)) (0 : Int32) (0 : Int32) a_w = f_X6_count a_w := by
  rw [v_X5_count]; rfl
