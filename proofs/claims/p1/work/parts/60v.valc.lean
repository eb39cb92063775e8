theorem sub0 (x : Int32) (h : x = (0 : Int32)) : x - (0 : Int32) = (0 : Int32) := by rw [h]; rfl
theorem cd0 (a b : Nat → Int32) (c : Nat → Int64) : (f_X0_changesDue a b (0 : Int32) (0 : Int32) c).1 = (0 : Int32) := rfl
theorem ld0 (a b : Nat → Int32) (c : Nat → Int64) : (f_X0_lettersDue a b (0 : Int32) (0 : Int32) c).1 = (0 : Int32) := rfl
theorem cmp_b (a_h : Int32) (u_4 : (Nat → Int32) × (Nat → Int32) × Int32 × Int32 × Int32) (u_6 : (Nat → Int32) × (Nat → Int32) × Int32 × Int32 × (Nat → Int64) × (Nat → Int32)) (h2 : u_6.2.2.1 = (0 : Int32)) (h3 : u_6.2.2.2.1 = (0 : Int32)) : (f_X5_compare_k33_u_6 (fun _ => (0 : Int32)) (fun _ => (0 : Int32)) (fun _ => (0 : Int32)) (fun _ => (0 : Int32)) (0 : Int32) (fun _ => (0 : Int32)) (fun _ => (0 : Int32)) (fun _ => (0 : Int32)) (fun _ => (0 : Int32)) (fun _ => (0 : Int32)) (0 : Int32) (fun _ => (0 : Int32)) (0 : Int32) a_h u_4 u_6).1 = (0 : Int32) := by
  rw [f_X5_compare_k33_u_6, f_X5_compare_k40_u_9, h2, h3, cd0, if_neg (by decide), f_X5_compare_k57_u_15, h2, h3, ld0, if_pos (by decide), f_X5_compare_k83_u_20]
  exact sub0 _ rfl
theorem cmp_a (a_h : Int32) (u_4 : (Nat → Int32) × (Nat → Int32) × Int32 × Int32 × Int32) (h : u_4.2.2.1 = (0 : Int32)) : (f_X5_compare_k14_u_4 (fun _ => (0 : Int32)) (fun _ => (0 : Int32)) (fun _ => (0 : Int32)) (fun _ => (0 : Int32)) (0 : Int32) (fun _ => (0 : Int32)) (fun _ => (0 : Int32)) (fun _ => (0 : Int32)) (fun _ => (0 : Int32)) (fun _ => (0 : Int32)) (0 : Int32) (fun _ => (0 : Int32)) (0 : Int32) (fun _ => (0 : Int32)) (fun _ => (0 : Int32)) (fun _ => (0 : Int64)) (fun _ => (0 : Int32)) a_h u_4).1 = (0 : Int32) := by
  rw [f_X5_compare_k14_u_4, h]
  exact cmp_b _ _ _ rfl rfl
theorem v_X5_compare (a_h : Int32) : (f_X5_compare (fun _ => (0 : Int32)) (fun _ => (0 : Int32)) (fun _ => (0 : Int32)) (fun _ => (0 : Int32)) (0 : Int32) (fun _ => (0 : Int32)) (fun _ => (0 : Int32)) (0 : Int32) (0 : Int32) (0 : Int32) (fun _ => (0 : Int32)) (fun _ => (0 : Int32)) (fun _ => (0 : Int32)) (fun _ => (0 : Int32)) (fun _ => (0 : Int32)) (0 : Int32) (fun _ => (0 : Int32)) (0 : Int32) (fun _ => (0 : Int32)) (fun _ => (0 : Int32)) (0 : Int32) (0 : Int32) (fun _ => (0 : Int64)) (fun _ => (0 : Int32)) (0 : Int32) (0 : Int32) (0 : Int32) (0 : Int32) a_h).1 = if f_X5_isHand a_h = (0 : Int32) then (-1 : Int32) else (0 : Int32) := by
  by_cases c : f_X5_isHand a_h = (0 : Int32)
  · rw [f_X5_compare, if_pos c, if_pos c]
  · rw [f_X5_compare, if_neg c, if_neg c]; exact cmp_a _ _ rfl
