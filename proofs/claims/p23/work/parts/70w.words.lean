theorem w_c {big l : List Cond} {a : Cond} (h : a ∈ big) (t : ∀ w ∈ l, w ∈ big) : ∀ w ∈ a :: l, w ∈ big := fun w hw => (List.mem_cons.mp hw).elim (fun e => e ▸ h) (t w)
theorem w_n {big : List Cond} : ∀ w ∈ ([] : List Cond), w ∈ big := fun w h => by cases h
theorem w_g {big ws : List Cond} (h : ∀ w ∈ ws, w ∈ big) (g : ws.all goodWord = true) : GoodIn big ws := fun w hw => ⟨h w hw, good_of_word (List.all_eq_true.mp g w hw)⟩
