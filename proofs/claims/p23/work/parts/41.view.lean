/-- what one spot adds to the gathering of a home -/
def gs (tok hom inn : Nat → Int32) (cn hd : Int32) (rc : Int32 → List Nat) (h : Int32) (v : Nat) : List Nat :=
  if hom v = h then (if tok v = (0 : Int32) then (if inn v &&& hd = (0 : Int32) then [v] else []) else if f_X5_bit (tok v) &&& cn = (0 : Int32) then [] else rc (tok v)) else []
/-- the spots that a home shows, in their order -/
def gl (tok hom inn : Nat → Int32) (cn hd : Int32) (n : Nat) : Nat → Int32 → List Nat
  | 0, _ => []
  | q + 1, h => (List.range n).flatMap (gs tok hom inn cn hd (gl tok hom inn cn hd n q) h)
def Ext (a b : Nat → Int32) (z : Nat) (l : List Nat) : Prop := (∀ p, p < z → b p = a p) ∧ ∀ (i : Nat) (h : i < l.length), b (z + i) = Int32.ofNat l[i]
theorem Ext.nil (a : Nat → Int32) (z : Nat) : Ext a a z [] := ⟨fun _ _ => rfl, fun i h => absurd h (Nat.not_lt_zero i)⟩
theorem Ext.app {a b c : Nat → Int32} {z : Nat} {l1 l2 : List Nat} (h1 : Ext a b z l1) (h2 : Ext b c (z + l1.length) l2) : Ext a c z (l1 ++ l2) := by
  refine ⟨fun p hp => (h2.1 p (by omega)).trans (h1.1 p hp), fun i h => ?_⟩
  by_cases q : i < l1.length
  · rw [List.getElem_append_left q, h2.1 (z + i) (by omega)]; exact h1.2 i q
  · have hl : l1.length ≤ i := Nat.not_lt.mp q
    have hi : i - l1.length < l2.length := by rw [List.length_append] at h; omega
    rw [List.getElem_append_right hl, ← h2.2 (i - l1.length) hi]
    congr 1; omega
theorem Ext.one (a : Nat → Int32) (z v : Nat) : Ext a (upd a z (Int32.ofNat v)) z [v] := by
  refine ⟨fun p hp => ?_, fun i h => ?_⟩
  · rw [upd, if_neg (by omega)]
  · have hi : i = 0 := by simp at h; exact h
    subst hi
    rw [upd, if_pos (by omega)]; rfl
theorem add_1 (sp inn : Nat → Int32) (hd : Int32) (z v n : Nat) (hn : n ≤ 240) (hz : z < 240) (hv : v < n) (c : inn v &&& hd = (0 : Int32)) : f_X4_addUnlessHidden sp (Int32.ofNat z) hd inn (Int32.ofNat n) (Int32.ofNat v) = (upd sp z (Int32.ofNat v), Int32.ofNat (z + 1)) := by
  have c1 : ¬ Int32.ofNat z < (0 : Int32) := fun q => by have t := (on_lt z 0 (by omega) (by omega)).mp q; omega
  have c2 : ¬ (240 : Int32) ≤ Int32.ofNat z := fun q => by have t := (on_le 240 z (by omega) (by omega)).mp q; omega
  rw [f_X4_addUnlessHidden, has_1 n v hn hv, if_neg (by decide), on_c v (by omega), if_pos c, if_neg c1, if_neg c2, on_c z (by omega), on_s]
theorem add_0 (sp inn : Nat → Int32) (hd zz : Int32) (v n : Nat) (hn : n ≤ 240) (hv : v < n) (c : ¬ inn v &&& hd = (0 : Int32)) : f_X4_addUnlessHidden sp zz hd inn (Int32.ofNat n) (Int32.ofNat v) = (sp, zz) := by
  rw [f_X4_addUnlessHidden, has_1 n v hn hv, if_neg (by decide), on_c v (by omega), if_neg c]
theorem g_loop (rec_ : (Nat → Int32) → Int32 → Int32 → Int32 → (Nat → Int32) × Int32) (rc : Int32 → List Nat) (d cn hd h : Int32) (tok hom inn : Nat → Int32) (n : Nat) (hn : n ≤ 240)
    (hrec : ∀ (t : Int32) (sp : Nat → Int32) (z : Nat), z + (rc t).length ≤ 240 → ∃ sp', rec_ sp (Int32.ofNat z) t (d + (1 : Int32)) = (sp', Int32.ofNat (z + (rc t).length)) ∧ Ext sp sp' z (rc t)) :
    ∀ (k v m : Nat) (sp : Nat → Int32) (z : Nat), v + k = n → k < m → z + ((List.range' v k).flatMap (gs tok hom inn cn hd rc h)).length ≤ 240 →
      ∃ sp', f_X4_gather_s_L10 rec_ hom cn hd tok inn (Int32.ofNat n) h d m (Int32.ofNat v) sp (Int32.ofNat z) = (sp', Int32.ofNat (z + ((List.range' v k).flatMap (gs tok hom inn cn hd rc h)).length)) ∧ Ext sp sp' z ((List.range' v k).flatMap (gs tok hom inn cn hd rc h)) := by
  intro k
  induction k with
  | zero =>
    intro v m sp z hv hm _
    obtain ⟨m, rfl⟩ : ∃ j, m = j + 1 := ⟨m - 1, by omega⟩
    obtain rfl : v = n := by omega
    refine ⟨sp, ?_, Ext.nil _ _⟩
    rw [f_X4_gather_s_L10]
    by_cases c : (240 : Int32) ≤ Int32.ofNat v
    · rw [if_pos c]; rfl
    · rw [if_neg c, if_pos (has_0 v v hn (by omega) (Nat.le_refl _))]; rfl
  | succ k ih =>
    intro v m sp z hv hm hl
    obtain ⟨m, rfl⟩ : ∃ j, m = j + 1 := ⟨m - 1, by omega⟩
    rw [List.range'_succ, List.flatMap_cons, List.length_append] at hl
    have c : ¬ (240 : Int32) ≤ Int32.ofNat v := fun q => by have t := (on_le 240 v (by omega) (by omega)).mp q; omega
    have e := has_1 n v hn (by omega)
    have key : ∃ sp1, f_X4_gather_s_L10 rec_ hom cn hd tok inn (Int32.ofNat n) h d (m + 1) (Int32.ofNat v) sp (Int32.ofNat z) = f_X4_gather_s_L10 rec_ hom cn hd tok inn (Int32.ofNat n) h d m (Int32.ofNat (v + 1)) sp1 (Int32.ofNat (z + (gs tok hom inn cn hd rc h v).length)) ∧ Ext sp sp1 z (gs tok hom inn cn hd rc h v) := by
      rw [gs] at hl ⊢
      rw [f_X4_gather_s_L10, if_neg c, e, if_neg (by decide), on_c v (by omega), on_s]
      by_cases c1 : hom v = h
      · rw [if_pos c1] at hl ⊢
        rw [if_pos c1]
        by_cases c2 : tok v = (0 : Int32)
        · rw [if_pos c2] at hl ⊢
          rw [if_pos c2]
          by_cases c3 : inn v &&& hd = (0 : Int32)
          · rw [if_pos c3] at hl ⊢
            have hz : z < 240 := by simp only [List.length_cons, List.length_nil] at hl; omega
            rw [add_1 sp inn hd z v n hn hz (by omega) c3, f_X4_gather_s_k62_u_20, on_s]
            exact ⟨_, rfl, Ext.one sp z v⟩
          · rw [if_neg c3] at hl ⊢
            rw [add_0 sp inn hd _ v n hn (by omega) c3, f_X4_gather_s_k62_u_20, on_s]
            exact ⟨_, rfl, Ext.nil sp z⟩
        · rw [if_neg c2] at hl ⊢
          rw [if_neg c2]
          by_cases c3 : f_X5_bit (tok v) &&& cn = (0 : Int32)
          · rw [if_pos c3] at hl ⊢
            rw [if_pos c3]
            exact ⟨_, rfl, Ext.nil sp z⟩
          · rw [if_neg c3] at hl ⊢
            rw [if_neg c3]
            obtain ⟨sp1, e1, x1⟩ := hrec (tok v) sp z (by omega)
            rw [e1, f_X4_gather_s_k88_u_17, on_s]
            exact ⟨sp1, rfl, x1⟩
      · rw [if_neg c1] at hl ⊢
        rw [if_neg c1]
        exact ⟨_, rfl, Ext.nil sp z⟩
    obtain ⟨sp1, e1, x1⟩ := key
    obtain ⟨sp2, e2, x2⟩ := ih (v + 1) m sp1 (z + (gs tok hom inn cn hd rc h v).length) (by omega) (by omega) (by omega)
    refine ⟨sp2, ?_, ?_⟩
    · rw [e1, e2, List.range'_succ, List.flatMap_cons, List.length_append, Nat.add_assoc]
    · rw [List.range'_succ, List.flatMap_cons]; exact x1.app x2
theorem g_spec (cn hd : Int32) (tok hom inn : Nat → Int32) (n : Nat) (hn : n ≤ 240) : ∀ (q d : Nat) (h : Int32) (sp : Nat → Int32) (z : Nat), d + q = 25 → z + (gl tok hom inn cn hd n q h).length ≤ 240 →
    ∃ sp', f_X4_gather hom cn hd tok inn (Int32.ofNat n) (q + 1) sp (Int32.ofNat z) h (Int32.ofNat d) = (sp', Int32.ofNat (z + (gl tok hom inn cn hd n q h).length)) ∧ Ext sp sp' z (gl tok hom inn cn hd n q h) := by
  intro q
  induction q with
  | zero =>
    intro d h sp z hd' _
    have c : ¬ Int32.ofNat d ≤ (24 : Int32) := fun t => by have u := (on_le d 24 (by omega) (by omega)).mp t; omega
    rw [f_X4_gather, f_X4_gather_s, if_neg c]
    exact ⟨sp, rfl, Ext.nil sp z⟩
  | succ q ih =>
    intro d h sp z hd' hl
    have c : Int32.ofNat d ≤ (24 : Int32) := (on_le d 24 (by omega) (by omega)).mpr (by omega)
    rw [f_X4_gather, f_X4_gather_s, if_pos c]
    rw [gl, List.range_eq_range'] at hl ⊢
    exact g_loop _ (gl tok hom inn cn hd n q) (Int32.ofNat d) cn hd h tok hom inn n hn (fun t sp z hz => by rw [on_s]; exact ih (d + 1) t sp z (by omega) hz) n 0 241 sp z (by omega) (by omega) hl
theorem gs_congr {tok hom hom' inn : Nat → Int32} {cn hd : Int32} {rc rc' : Int32 → List Nat} {h : Int32} {v : Nat} (h1 : hom v = hom' v) (h2 : ∀ t, rc t = rc' t) : gs tok hom inn cn hd rc h v = gs tok hom' inn cn hd rc' h v := by
  rw [gs, gs, h1, h2]
theorem fm_congr {f g : Nat → List Nat} : ∀ l : List Nat, (∀ v ∈ l, f v = g v) → l.flatMap f = l.flatMap g
  | [], _ => rfl
  | a :: l, h => by rw [List.flatMap_cons, List.flatMap_cons, h a List.mem_cons_self, fm_congr l (fun v hv => h v (List.mem_cons_of_mem _ hv))]
theorem gl_congr {tok hom hom' inn : Nat → Int32} {cn hd : Int32} {n : Nat} (h1 : ∀ v, v < n → hom v = hom' v) : ∀ (q : Nat) (h : Int32), gl tok hom inn cn hd n q h = gl tok hom' inn cn hd n q h
  | 0, _ => rfl
  | q + 1, h => by rw [gl, gl]; exact fm_congr _ (fun v hv => gs_congr (h1 v (List.mem_range.mp hv)) (gl_congr h1 q))
