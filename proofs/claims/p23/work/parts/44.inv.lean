/-- the LETTERS of THE FIRST TEXT that stand, from the left: those in no PUT -/
def pf (tk ii : Nat → Int32) (P : Int32) (v : Nat) : Bool := decide (tk v = 0) && decide (ii v &&& P = 0)
def fl (sg tk ii : Nat → Int32) (P : Int32) (n : Nat) : List Int32 := ((List.range n).filter (pf tk ii P)).map sg
theorem F_map {α β : Type} {p p' : Nat → Bool} {s s' : Nat → β} {g g' : α → Nat} : ∀ l : List α, (∀ i ∈ l, p' (g' i) = p (g i) ∧ s' (g' i) = s (g i)) → ((l.map g').filter p').map s' = ((l.map g).filter p).map s
  | [], _ => rfl
  | a :: l, h => by
    have ih := F_map l (fun i hi => h i (List.mem_cons_of_mem _ hi))
    obtain ⟨h1, h2⟩ := h a List.mem_cons_self
    rw [List.map_cons, List.map_cons, List.filter_cons, List.filter_cons, h1]
    by_cases c : p (g a) = true
    · rw [if_pos c, if_pos c, List.map_cons, List.map_cons, h2, ih]
    · rw [if_neg c, if_neg c, ih]
theorem F_id {β : Type} {p p' : Nat → Bool} {s s' : Nat → β} (l : List Nat) (h : ∀ i ∈ l, p' i = p i ∧ s' i = s i) : (l.filter p').map s' = (l.filter p).map s := by
  have t := F_map (p := p) (p' := p') (s := s) (s' := s') (g := id) (g' := id) l h
  rw [List.map_id] at t; exact t
theorem fl_eq {sg sg' tk tk' ii ii' : Nat → Int32} {P P' : Int32} {n : Nat} (h : ∀ v, v < n → pf tk' ii' P' v = pf tk ii P v ∧ sg' v = sg v) : fl sg' tk' ii' P' n = fl sg tk ii P n := F_id _ (fun i hi => h i (List.mem_range.mp hi))
theorem fl_ins {sg sg' tk tk' ii ii' gs_ gt gi : Nat → Int32} {P P' : Int32} {n a c : Nat} (ha : a ≤ n) (h1 : Ins n a c sg gs_ sg') (h2 : Ins n a c tk gt tk') (h3 : Ins n a c ii gi ii') (hn : ∀ i, a ≤ i → i < a + c → ¬ (gt i = 0 ∧ gi i &&& P' = 0)) (ho : ∀ v, v < n → (ii v &&& P' = 0 ↔ ii v &&& P = 0)) : fl sg' tk' ii' P' (n + c) = fl sg tk ii P n := by
  obtain ⟨b, rfl⟩ : ∃ b, n = a + b := ⟨n - a, by omega⟩
  have pe : ∀ v, v < a + b → decide (ii v &&& P' = 0) = decide (ii v &&& P = 0) := fun v hv => decide_eq_decide.mpr (ho v hv)
  have r1 : List.range (a + b + c) = List.range a ++ ((List.range c).map (a + ·) ++ (List.range b).map (fun i => a + (c + i))) := by
    rw [show a + b + c = a + (c + b) by omega, List.range_add, List.range_add, List.map_append, List.map_map]; rfl
  have r2 : List.range (a + b) = List.range a ++ (List.range b).map (a + ·) := List.range_add
  rw [fl, fl, r1, r2, List.filter_append, List.filter_append, List.filter_append, List.map_append, List.map_append, List.map_append]
  have e1 : ((List.range a).filter (pf tk' ii' P')).map sg' = ((List.range a).filter (pf tk ii P)).map sg := F_id _ (fun i hi => by
    have hi := List.mem_range.mp hi
    rw [pf, pf, h1 i (by omega), h2 i (by omega), h3 i (by omega), if_pos hi, if_pos hi, if_pos hi, pe i (by omega)]; exact ⟨rfl, rfl⟩)
  have e2 : ((List.range c).map (a + ·)).filter (pf tk' ii' P') = [] := by
    rw [List.filter_eq_nil_iff]
    intro x hx
    obtain ⟨i, hi, rfl⟩ := List.mem_map.mp hx
    have hi := List.mem_range.mp hi
    rw [pf, h2 (a + i) (by omega), h3 (a + i) (by omega), if_neg (by omega), if_pos (by omega), if_neg (by omega), if_pos (by omega)]
    intro q
    rw [Bool.and_eq_true, decide_eq_true_eq, decide_eq_true_eq] at q
    exact hn (a + i) (by omega) (by omega) q
  have e3 : ((List.map (fun i => a + (c + i)) (List.range b)).filter (pf tk' ii' P')).map sg' = ((List.map (a + ·) (List.range b)).filter (pf tk ii P)).map sg := F_map _ (fun i hi => by
    have hi := List.mem_range.mp hi
    have e : a + (c + i) - c = a + i := by omega
    rw [pf, pf, h1 (a + (c + i)) (by omega), h2 (a + (c + i)) (by omega), h3 (a + (c + i)) (by omega), if_neg (by omega), if_neg (by omega), if_neg (by omega), if_neg (by omega), if_neg (by omega), if_neg (by omega), e, pe (a + i) (by omega)]; exact ⟨rfl, rfl⟩)
  rw [e1, e2, e3, List.map_nil, List.nil_append]
/-- the bit of CHANGE j -/
def bj (j : Nat) : Int32 := f_X5_bit (Int32.ofNat j)
/-- what holds of THE ROW: n pieces, k CHANGES, the set P of the PUT ones, L the signs of THE FIRST TEXT -/
def Row (sg tk ii : Nat → Int32) (n k : Nat) (P : Int32) (L : List Int32) : Prop :=
  Uq tk n ∧ (∀ v, v < n → tk v = 0 ∨ ∃ j, 0 < j ∧ j ≤ k ∧ tk v = Int32.ofNat j) ∧ (∀ v, v < n → ∀ j, k < j → j < 25 → ii v &&& bj j = 0) ∧ fl sg tk ii P n = L
theorem Row_mark {sg tk ii ii' : Nat → Int32} {n k : Nat} {P : Int32} {L : List Int32} (hk : k < 24) (hP : bj (k + 1) &&& P = 0) (h : Row sg tk ii n k P L) (m : Mk (bj (k + 1)) ii ii') : Row sg tk ii' n (k + 1) P L := by
  obtain ⟨h1, h2, h3, h4⟩ := h
  refine ⟨h1, fun v hv => ?_, fun v hv j a b => ?_, ?_⟩
  · rcases h2 v hv with q | ⟨j, a, b, q⟩
    · exact Or.inl q
    · exact Or.inr ⟨j, a, by omega, q⟩
  · rcases m v with q | q
    · rw [q]; exact h3 v hv j (by omega) b
    · rw [q]; exact an_or (h3 v hv j (by omega) b) (bt_dj (k + 1) (by omega) j b (by omega))
  · rw [← h4]
    refine fl_eq (fun v hv => ⟨?_, rfl⟩)
    rw [pf, pf]
    rcases m v with q | q
    · rw [q]
    · have e : (ii v ||| bj (k + 1)) &&& P = ii v &&& P := by
        rw [Int32.and_comm, ad_l, Int32.and_comm P (bj (k + 1)), hP, Int32.or_zero, Int32.and_comm]
      rw [q, e]
theorem Uq_ins {tk tk' g : Nat → Int32} {n a c : Nat} (U : Uq tk n) (ha : a ≤ n) (h : Ins n a c tk g tk') (hg : ∀ i, a ≤ i → i < a + c → ∀ j, a ≤ j → j < a + c → ¬ g i = 0 → g i = g j → i = j) (hf : ∀ i, a ≤ i → i < a + c → ¬ g i = 0 → ∀ v, v < n → ¬ tk v = g i) : Uq tk' (n + c) := by
  intro v w hv hw z e
  rw [h v hv] at z e
  rw [h w hw] at e
  by_cases v1 : v < a
  · rw [if_pos v1] at z e
    by_cases w1 : w < a
    · rw [if_pos w1] at e; exact U v w (by omega) (by omega) z e
    · rw [if_neg w1] at e
      by_cases w2 : w < a + c
      · rw [if_pos w2] at e; exact absurd e (hf w (by omega) w2 (by rw [← e]; exact z) v (by omega))
      · rw [if_neg w2] at e
        have := U v (w - c) (by omega) (by omega) z e
        omega
  · rw [if_neg v1] at z e
    by_cases v2 : v < a + c
    · rw [if_pos v2] at z e
      by_cases w1 : w < a
      · rw [if_pos w1] at e; exact absurd e.symm (hf v (by omega) v2 z w (by omega))
      · rw [if_neg w1] at e
        by_cases w2 : w < a + c
        · rw [if_pos w2] at e; exact hg v (by omega) v2 w (by omega) w2 z e
        · rw [if_neg w2] at e; exact absurd e.symm (hf v (by omega) v2 z (w - c) (by omega))
    · rw [if_neg v2] at z e
      by_cases w1 : w < a
      · rw [if_pos w1] at e
        have := U (v - c) w (by omega) (by omega) z e
        omega
      · rw [if_neg w1] at e
        by_cases w2 : w < a + c
        · rw [if_pos w2] at e; exact absurd e (hf w (by omega) w2 (by rw [← e]; exact z) (v - c) (by omega))
        · rw [if_neg w2] at e
          have := U (v - c) (w - c) (by omega) (by omega) z e
          omega
theorem Ins_all {f g f' : Nat → Int32} {n a c : Nat} (ha : a ≤ n) (h : Ins n a c f g f') {Q : Int32 → Prop} (h1 : ∀ v, v < n → Q (f v)) (h2 : ∀ i, a ≤ i → i < a + c → Q (g i)) : ∀ v, v < n + c → Q (f' v) := by
  intro v hv
  rw [h v hv]
  by_cases c1 : v < a
  · rw [if_pos c1]; exact h1 v (by omega)
  · rw [if_neg c1]
    by_cases c2 : v < a + c
    · rw [if_pos c2]; exact h2 v (by omega) c2
    · rw [if_neg c2]; exact h1 (v - c) (by omega)
/-- a TOKEN of CHANGE k + 1 comes in -/
theorem Row_token {sg tk ii sg' tk' ii' g : Nat → Int32} {n k a : Nat} {P x : Int32} {L : List Int32} (hk : k < 24) (ha : a ≤ n) (U : Uq tk n) (hr : ∀ v, v < n → tk v = 0 ∨ ∃ j, 0 < j ∧ j ≤ k ∧ tk v = Int32.ofNat j) (h : Row sg tk ii n (k + 1) P L)
    (i1 : Ins n a 1 sg g sg') (i2 : Ins n a 1 tk (fun _ => Int32.ofNat (k + 1)) tk') (i3 : Ins n a 1 ii (fun _ => x) ii') (hx : ∀ j, k + 1 < j → j < 25 → x &&& bj j = 0) : Row sg' tk' ii' (n + 1) (k + 1) P L := by
  obtain ⟨h1, h2, h3, h4⟩ := h
  have nz : ¬ Int32.ofNat (k + 1) = 0 := fun q => by have t := (on_eq (k + 1) 0 (by omega) (by omega)).mp q; omega
  refine ⟨Uq_ins U ha i2 (fun i a1 a2 j b1 b2 _ _ => by omega) (fun i a1 a2 _ v hv q => ?_), Ins_all (Q := fun y => y = 0 ∨ ∃ j, 0 < j ∧ j ≤ k + 1 ∧ y = Int32.ofNat j) ha i2 h2 (fun i _ _ => Or.inr ⟨k + 1, by omega, Nat.le_refl _, rfl⟩), fun v hv j a1 a2 => ?_, ?_⟩
  · rcases hr v hv with z | ⟨j, j1, j2, z⟩
    · rw [z] at q; exact nz q.symm
    · rw [z] at q
      have t := (on_eq j (k + 1) (by omega) (by omega)).mp q
      omega
  · exact Ins_all (Q := fun y => y &&& bj j = 0) ha i3 (fun v hv => h3 v hv j a1 a2) (fun i _ _ => hx j a1 a2) v hv
  · rw [← h4]
    exact fl_ins ha i1 i2 i3 (fun i _ _ q => nz q.1) (fun v hv => Iff.rfl)
/-- the set of the PUT ones grows by k + 1 -/
theorem put_iff {x b P : Int32} (h : x &&& b = 0) : x &&& (P ||| b) = 0 ↔ x &&& P = 0 := by
  rw [ad_l, h, Int32.or_zero]
theorem Row_put0 {sg tk ii : Nat → Int32} {n k : Nat} {P : Int32} {L : List Int32} (hk : k < 24) (h : Row sg tk ii n k P L) : Row sg tk ii n (k + 1) (P ||| bj (k + 1)) L := by
  obtain ⟨h1, h2, h3, h4⟩ := h
  refine ⟨h1, fun v hv => ?_, fun v hv j a b => h3 v hv j (by omega) b, ?_⟩
  · rcases h2 v hv with q | ⟨j, a, b, q⟩
    · exact Or.inl q
    · exact Or.inr ⟨j, a, by omega, q⟩
  · rw [← h4]
    refine fl_eq (fun v hv => ⟨?_, rfl⟩)
    rw [pf, pf, decide_eq_decide.mpr (put_iff (P := P) (h3 v hv (k + 1) (by omega) (by omega)))]
theorem Row_put {sg tk ii sg' tk' ii' g : Nat → Int32} {n k a c : Nat} {P x : Int32} {L : List Int32} (hk : k < 24) (ha : a ≤ n) (hP : bj (k + 1) &&& P = 0) (h : Row sg tk ii n k P L) (hx : ∀ j, k < j → j < 25 → x &&& bj j = 0)
    (i1 : Ins n a c sg g sg') (i2 : Ins n a c tk (fun _ => 0) tk') (i3 : Ins n a c ii (fun _ => x ||| bj (k + 1)) ii') : Row sg' tk' ii' (n + c) (k + 1) (P ||| bj (k + 1)) L := by
  obtain ⟨h1, h2, h3, h4⟩ := h
  refine ⟨Uq_ins h1 ha i2 (fun i _ _ j _ _ z _ => absurd rfl z) (fun i _ _ z => absurd rfl z), Ins_all (Q := fun y => y = 0 ∨ ∃ j, 0 < j ∧ j ≤ k + 1 ∧ y = Int32.ofNat j) ha i2 (fun v hv => ?_) (fun i _ _ => Or.inl rfl), fun v hv j a1 a2 => ?_, ?_⟩
  · rcases h2 v hv with q | ⟨j, a, b, q⟩
    · exact Or.inl q
    · exact Or.inr ⟨j, a, by omega, q⟩
  · exact Ins_all (Q := fun y => y &&& bj j = 0) ha i3 (fun v hv => h3 v hv j (by omega) a2) (fun i _ _ => an_or (hx j (by omega) a2) (bt_dj (k + 1) (by omega) j a2 (by omega))) v hv
  · rw [← h4]
    refine fl_ins ha i1 i2 i3 (fun i _ _ q => ?_) (fun v hv => put_iff (h3 v hv (k + 1) (by omega) (by omega)))
    have e1 : (x ||| bj (k + 1)) &&& bj (k + 1) = bj (k + 1) := by rw [Int32.and_comm, ad_l, Int32.and_comm _ x, hx (k + 1) (by omega) (by omega), Int32.and_self, Int32.zero_or]
    have e2 : (P ||| bj (k + 1)) &&& bj (k + 1) = bj (k + 1) := by rw [Int32.and_comm, ad_l, hP, Int32.and_self, Int32.zero_or]
    have e3 : ((x ||| bj (k + 1)) &&& (P ||| bj (k + 1))) &&& bj (k + 1) = bj (k + 1) := by rw [Int32.and_assoc, e2, e1]
    rw [q.2, Int32.zero_and] at e3
    exact bt_ne (k + 1) (by omega) (by omega) e3.symm
