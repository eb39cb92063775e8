/- compare on a fresh object -/
theorem zz_1 : (f_X0_changesDue (fun _ => (0 : Int32)) (fun _ => (0 : Int32)) (0 : Int32) (0 : Int32) (fun _ => (0 : Int64))).1 = (0 : Int32) := by rfl
theorem zz_2 : (f_X0_read (fun _ => (0 : Int32)) (fun _ => (0 : Int32)) (fun _ => (0 : Int64)) (fun _ => (0 : Int32)) (fun _ => (0 : Int32)) (0 : Int32) (fun _ => (0 : Int32)) (0 : Int32) (fun _ => (0 : Int32)) (0 : Int32)).2.2.1 = (0 : Int32) := by rfl
theorem zz_3 : (f_X0_read (fun _ => (0 : Int32)) (fun _ => (0 : Int32)) (fun _ => (0 : Int64)) (fun _ => (0 : Int32)) (fun _ => (0 : Int32)) (0 : Int32) (fun _ => (0 : Int32)) (0 : Int32) (fun _ => (0 : Int32)) (0 : Int32)).2.2.2.1 = (0 : Int32) := by rfl
theorem v_X5_compare (a_h : Int32) : (f_X5_compare (fun _ => (0 : Int32)) (fun _ => (0 : Int32)) (fun _ => (0 : Int32)) (fun _ => (0 : Int32)) (0 : Int32) (fun _ => (0 : Int32)) (fun _ => (0 : Int32)) (0 : Int32) (0 : Int32) (0 : Int32) (fun _ => (0 : Int32)) (fun _ => (0 : Int32)) (fun _ => (0 : Int32)) (fun _ => (0 : Int32)) (fun _ => (0 : Int32)) (0 : Int32) (fun _ => (0 : Int32)) (0 : Int32) (fun _ => (0 : Int32)) (fun _ => (0 : Int32)) (0 : Int32) (0 : Int32) (fun _ => (0 : Int64)) (fun _ => (0 : Int32)) (0 : Int32) (0 : Int32) (0 : Int32) (0 : Int32) a_h).1 = if f_X5_isHand a_h = (0 : Int32) then (-1 : Int32) else (0 : Int32) := by
  by_cases c : f_X5_isHand a_h = (0 : Int32)
  · rw [f_X5_compare, if_pos c, if_pos c]
  · rw [f_X5_compare, if_neg c, if_neg c]; rfl
