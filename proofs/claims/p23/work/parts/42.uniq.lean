/-- from the home g, k times from a TOKEN's name to where it stands, one comes to h -/
def Up (tok hom : Nat → Int32) (n : Nat) : Nat → Int32 → Int32 → Prop
  | 0, g, h => g = h
  | k + 1, g, h => ¬ g = 0 ∧ ∃ w, w < n ∧ tok w = g ∧ Up tok hom n k (hom w) h
def Uq (tok : Nat → Int32) (n : Nat) : Prop := ∀ v w, v < n → w < n → ¬ tok v = 0 → tok v = tok w → v = w
theorem Up_fn {tok hom : Nat → Int32} {n : Nat} (U : Uq tok n) : ∀ (k : Nat) (g h h' : Int32), Up tok hom n k g h → Up tok hom n k g h' → h = h'
  | 0, _, _, _, a, b => a.symm.trans b
  | k + 1, g, h, h', ⟨z, w, hw, tw, a⟩, ⟨_, w', hw', tw', b⟩ => by
    obtain rfl := U w w' hw hw' (by rw [tw]; exact z) (tw.trans tw'.symm)
    exact Up_fn U k _ h h' a b
theorem Up_lev {tok hom : Nat → Int32} {n : Nat} (U : Uq tok n) : ∀ (k k' : Nat) (g : Int32), Up tok hom n k g 0 → Up tok hom n k' g 0 → k = k'
  | 0, 0, _, _, _ => rfl
  | 0, _ + 1, _, a, ⟨z, _⟩ => absurd a z
  | _ + 1, 0, _, ⟨z, _⟩, b => absurd b z
  | k + 1, k' + 1, g, ⟨z, w, hw, tw, a⟩, ⟨_, w', hw', tw', b⟩ => by
    obtain rfl := U w w' hw hw' (by rw [tw]; exact z) (tw.trans tw'.symm)
    rw [Up_lev U k k' _ a b]
theorem Up_app {tok hom : Nat → Int32} {n : Nat} : ∀ (k j : Nat) (g h i : Int32), Up tok hom n k g h → Up tok hom n j h i → Up tok hom n (k + j) g i
  | 0, j, g, h, i, a, b => by
    have a : g = h := a
    subst a; rw [Nat.zero_add]; exact b
  | k + 1, j, g, h, i, ⟨z, w, hw, tw, a⟩, b => by
    rw [Nat.succ_add]
    exact ⟨z, w, hw, tw, Up_app k j _ h i a b⟩
theorem gs_mem {tok hom inn : Nat → Int32} {cn hd : Int32} {rc : Int32 → List Nat} {h : Int32} {v x : Nat} (q : x ∈ gs tok hom inn cn hd rc h v) : hom v = h ∧ ((tok v = 0 ∧ x = v) ∨ (¬ tok v = 0 ∧ x ∈ rc (tok v))) := by
  rw [gs] at q
  by_cases c1 : hom v = h
  · rw [if_pos c1] at q
    refine ⟨c1, ?_⟩
    by_cases c2 : tok v = (0 : Int32)
    · rw [if_pos c2] at q
      by_cases c3 : inn v &&& hd = (0 : Int32)
      · rw [if_pos c3] at q; exact Or.inl ⟨c2, List.mem_singleton.mp q⟩
      · rw [if_neg c3] at q; cases q
    · rw [if_neg c2] at q
      by_cases c3 : f_X5_bit (tok v) &&& cn = (0 : Int32)
      · rw [if_pos c3] at q; cases q
      · rw [if_neg c3] at q; exact Or.inr ⟨c2, q⟩
  · rw [if_neg c1] at q; cases q
theorem gl_mem {tok hom inn : Nat → Int32} {cn hd : Int32} {n : Nat} : ∀ (q : Nat) (h : Int32) (x : Nat), x ∈ gl tok hom inn cn hd n q h → x < n ∧ tok x = 0 ∧ ∃ k, Up tok hom n k (hom x) h
  | 0, _, _, m => by cases m
  | q + 1, h, x, m => by
    rw [gl] at m
    obtain ⟨v, hv, hx⟩ := List.mem_flatMap.mp m
    have hv := List.mem_range.mp hv
    obtain ⟨c1, c | c⟩ := gs_mem hx
    · rw [c.2]; exact ⟨hv, c.1, 0, c1⟩
    · obtain ⟨a1, a2, k, a3⟩ := gl_mem q (tok v) x c.2
      exact ⟨a1, a2, k + 1, Up_app k 1 _ (tok v) h a3 ⟨c.1, v, hv, rfl, c1⟩⟩
theorem gl_nd {tok hom inn : Nat → Int32} {cn hd : Int32} {n : Nat} (U : Uq tok n) : ∀ (q d : Nat) (h : Int32), Up tok hom n d h 0 → (gl tok hom inn cn hd n q h).Nodup
  | 0, _, _, _ => List.Pairwise.nil
  | q + 1, d, h, r => by
    have sub : ∀ v, v < n → hom v = h → ¬ tok v = 0 → Up tok hom n (d + 1) (tok v) 0 := fun v hv c1 c2 => ⟨c2, v, hv, rfl, by rw [c1]; exact r⟩
    rw [gl, List.Nodup, List.pairwise_flatMap]
    refine ⟨fun v hv => ?_, ?_⟩
    · have hv := List.mem_range.mp hv
      rw [gs]
      by_cases c1 : hom v = h
      · rw [if_pos c1]
        by_cases c2 : tok v = (0 : Int32)
        · rw [if_pos c2]
          by_cases c3 : inn v &&& hd = (0 : Int32)
          · rw [if_pos c3]; exact List.pairwise_singleton _ _
          · rw [if_neg c3]; exact List.Pairwise.nil
        · rw [if_neg c2]
          by_cases c3 : f_X5_bit (tok v) &&& cn = (0 : Int32)
          · rw [if_pos c3]; exact List.Pairwise.nil
          · rw [if_neg c3]; exact gl_nd U q (d + 1) (tok v) (sub v hv c1 c2)
      · rw [if_neg c1]; exact List.Pairwise.nil
    · have nd : List.Pairwise (· ≠ ·) (List.range n) := List.nodup_range
      refine List.Pairwise.imp_of_mem (fun {a b} ha hb hab => ?_) nd
      have ha := List.mem_range.mp ha
      have hb := List.mem_range.mp hb
      intro x hx y hy e
      subst e
      obtain ⟨a1, a2⟩ := gs_mem hx
      obtain ⟨b1, b2⟩ := gs_mem hy
      rcases a2 with a2 | a2
      · rcases b2 with b2 | b2
        · exact hab (a2.2.symm.trans b2.2)
        · obtain ⟨_, _, k, u⟩ := gl_mem q (tok b) x b2.2
          have u1 := Up_app k (d + 1) _ _ _ u (sub b hb b1 b2.1)
          have e := a2.2
          subst e
          rw [a1] at u1
          have := Up_lev U _ _ _ u1 r
          omega
      · obtain ⟨_, _, k, u⟩ := gl_mem q (tok a) x a2.2
        have u1 := Up_app k (d + 1) _ _ _ u (sub a ha a1 a2.1)
        rcases b2 with b2 | b2
        · have e := b2.2
          subst e
          rw [b1] at u1
          have := Up_lev U _ _ _ u1 r
          omega
        · obtain ⟨_, _, k', u'⟩ := gl_mem q (tok b) x b2.2
          have u2 := Up_app k' (d + 1) _ _ _ u' (sub b hb b1 b2.1)
          have hk := Up_lev U _ _ _ u1 u2
          obtain rfl : k = k' := by omega
          exact hab (U a b ha hb a2.1 (Up_fn U k _ _ _ u u'))
theorem gl_len {tok hom inn : Nat → Int32} {cn hd : Int32} {n : Nat} (U : Uq tok n) (q : Nat) : (gl tok hom inn cn hd n q 0).length ≤ n := by
  have t := List.Nodup.length_le_of_subset (gl_nd (hom := hom) (inn := inn) (cn := cn) (hd := hd) U q 0 0 rfl) (l₂ := List.range n) (fun x hx => List.mem_range.mpr (gl_mem q 0 x hx).1)
  rw [List.length_range] at t; exact t
/-- where a piece stands, by the MOVED ones that count -/
def hm (inn : Nat → Int32) (mv : Int32) (v : Nat) : Int32 := f_X5_latest (inn v &&& mv)
/-- what a VIEW shows -/
def vl (tok inn : Nat → Int32) (n : Nat) (cn mv hd : Int32) : List Nat := gl tok (hm inn mv) inn cn hd n 25 0
theorem h_loop (sp tok inn : Nat → Int32) (n : Nat) (hn : n ≤ 240) (cn mv hd : Int32) : ∀ (k v m : Nat) (ho : Nat → Int32), v + k = n → k < m → ∃ ho' : Nat → Int32, (f_X4_gatherAll_L19 sp tok inn (Int32.ofNat n) cn mv hd m (Int32.ofNat v) ho = ((f_X4_gatherT ho' cn hd tok inn (Int32.ofNat n) sp 0 0 0).1, ho', (f_X4_gatherT ho' cn hd tok inn (Int32.ofNat n) sp 0 0 0).2, cn, hd)) ∧ (∀ w, w < v → ho' w = ho w) ∧ ∀ w, v ≤ w → w < n → ho' w = hm inn mv w := by
  intro k
  induction k with
  | zero =>
    intro v m ho hv hm
    obtain ⟨m, rfl⟩ : ∃ j, m = j + 1 := ⟨m - 1, by omega⟩
    obtain rfl : v = n := by omega
    refine ⟨ho, ?_, fun _ _ => rfl, fun w a b => absurd a (Nat.not_le.mpr b)⟩
    rw [f_X4_gatherAll_L19]
    by_cases c : (240 : Int32) ≤ Int32.ofNat v
    · rw [if_pos c]; rfl
    · rw [if_neg c, if_pos (has_0 v v hn (by omega) (Nat.le_refl _))]; rfl
  | succ k ih =>
    intro v m ho hv hm'
    obtain ⟨m, rfl⟩ : ∃ j, m = j + 1 := ⟨m - 1, by omega⟩
    have c : ¬ (240 : Int32) ≤ Int32.ofNat v := fun q => by have t := (on_le 240 v (by omega) (by omega)).mp q; omega
    obtain ⟨ho', e, a, b⟩ := ih (v + 1) m (upd ho v (hm inn mv v)) (by omega) (by omega)
    refine ⟨ho', ?_, fun w hw => ?_, fun w h1 h2 => ?_⟩
    · rw [f_X4_gatherAll_L19, if_neg c, has_1 n v hn (by omega), if_neg (by decide), on_c v (by omega), on_s]; exact e
    · rw [a w (by omega), upd, if_neg (by omega)]
    · by_cases q : w = v
      · subst q; rw [a w (by omega), upd, if_pos rfl]
      · exact b w (by omega) h2
theorem all_spec {tok inn : Nat → Int32} {n : Nat} (hn : n ≤ 240) (U : Uq tok n) (sp ho : Nat → Int32) (cn mv hd : Int32) : ∃ sp' ho' : Nat → Int32, f_X4_gatherAll sp ho tok inn (Int32.ofNat n) cn mv hd = (sp', ho', Int32.ofNat (vl tok inn n cn mv hd).length, cn, hd) ∧ ∀ (i : Nat) (h : i < (vl tok inn n cn mv hd).length), sp' i = Int32.ofNat (vl tok inn n cn mv hd)[i] := by
  obtain ⟨ho', e, -, b⟩ := h_loop sp tok inn n hn cn mv hd n 0 241 ho (by omega) (by omega)
  have g := gl_congr (tok := tok) (inn := inn) (cn := cn) (hd := hd) (fun v hv => b v (Nat.zero_le _) hv) 25 0
  have hl := gl_len (hom := hm inn mv) (inn := inn) (cn := cn) (hd := hd) U 25
  obtain ⟨sp', e2, x⟩ := g_spec cn hd tok ho' inn n hn 25 0 0 sp 0 (by omega) (by rw [g]; omega)
  rw [g, Nat.zero_add] at e2
  rw [g] at x
  refine ⟨sp', ho', ?_, fun i h => by have t := x.2 i h; rw [Nat.zero_add] at t; exact t⟩
  have e3 : f_X4_gatherT ho' cn hd tok inn (Int32.ofNat n) sp 0 0 0 = (sp', Int32.ofNat (vl tok inn n cn mv hd).length) := e2
  rw [f_X4_gatherAll]
  refine Eq.trans e ?_
  rw [e3]
theorem vl_len {tok inn : Nat → Int32} {n : Nat} (U : Uq tok n) (cn mv hd : Int32) : (vl tok inn n cn mv hd).length ≤ n := gl_len U 25
theorem vl_mem {tok inn : Nat → Int32} {n : Nat} {cn mv hd : Int32} {x : Nat} (h : x ∈ vl tok inn n cn mv hd) : x < n ∧ tok x = 0 := ⟨(gl_mem 25 0 x h).1, (gl_mem 25 0 x h).2.1⟩
