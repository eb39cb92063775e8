/-- the one that comes at the j-th time -/
def cx (x k j : Nat) : Nat := 1 + (x + j) % k
theorem md_lt {a i k : Nat} (ha : a < k) (hi : i < k) : (a + i) % k = if a + i < k then a + i else a + i - k := by
  by_cases c : a + i < k
  · rw [if_pos c, Nat.mod_eq_of_lt c]
  · rw [if_neg c, Nat.mod_eq_sub_mod (by omega), Nat.mod_eq_of_lt (by omega)]
theorem cx_in {x k j : Nat} (hk : 0 < k) : 0 < cx x k j ∧ cx x k j ≤ k := by
  have t := Nat.mod_lt (x + j) hk
  rw [cx]; omega
theorem cx_dj {x k i j : Nat} (hi : i < j) (hj : j < k) : ¬ cx x k i = cx x k j := by
  intro e
  rw [cx, cx, ← Nat.mod_add_mod x k i, ← Nat.mod_add_mod x k j, md_lt (Nat.mod_lt x (by omega)) (by omega), md_lt (Nat.mod_lt x (by omega)) hj] at e
  have a := Nat.mod_lt x (show 0 < k by omega)
  by_cases c1 : x % k + i < k
  · rw [if_pos c1] at e
    by_cases c2 : x % k + j < k
    · rw [if_pos c2] at e; omega
    · rw [if_neg c2] at e; omega
  · rw [if_neg c1] at e
    by_cases c2 : x % k + j < k
    · rw [if_pos c2] at e; omega
    · rw [if_neg c2] at e; omega
theorem cx_all {x k s : Nat} (h0 : 0 < s) (hs : s ≤ k) : ∃ i, i < k ∧ s = cx x k i := by
  have a := Nat.mod_lt x (show 0 < k by omega)
  by_cases c : x % k ≤ s - 1
  · refine ⟨s - 1 - x % k, by omega, ?_⟩
    rw [cx, ← Nat.mod_add_mod x k, md_lt a (by omega), if_pos (by omega)]; omega
  · refine ⟨s - 1 + k - x % k, by omega, ?_⟩
    rw [cx, ← Nat.mod_add_mod x k, md_lt a (by omega), if_neg (by omega)]; omega
/-- j of them are settled with T, the others are OPEN -/
def Stl (state : Nat → Int32) (T : Int32) (x k j : Nat) : Prop := (∀ i, i < j → state (cx x k i) = T) ∧ ∀ s, 0 < s → s ≤ k → (∀ i, i < j → ¬ s = cx x k i) → state s = 0
theorem Stl_0 {state : Nat → Int32} {T : Int32} {x k : Nat} (h : ∀ s, 0 < s → s ≤ k → state s = 0) : Stl state T x k 0 := ⟨fun i hi => absurd hi (Nat.not_lt_zero i), fun s a b _ => h s a b⟩
theorem Stl_op {state : Nat → Int32} {T : Int32} {x k j : Nat} (h : Stl state T x k j) (hj : j < k) : state (cx x k j) = 0 := by
  obtain ⟨a, b⟩ := cx_in (x := x) (j := j) (show 0 < k by omega)
  exact h.2 _ a b (fun i hi e => cx_dj hi hj e.symm)
theorem Stl_s {state : Nat → Int32} {T : Int32} {x k j : Nat} (h : Stl state T x k j) (hj : j < k) : Stl (upd state (cx x k j) T) T x k (j + 1) := by
  refine ⟨fun i hi => ?_, fun s a b c => ?_⟩
  · rw [upd]
    by_cases e : cx x k i = cx x k j
    · rw [if_pos e]
    · rw [if_neg e]
      refine h.1 i ?_
      by_cases q : i = j
      · rw [q] at e; exact absurd rfl e
      · omega
  · rw [upd, if_neg (c j (by omega))]
    exact h.2 s a b (fun i hi => c i (by omega))
theorem Stl_all {state : Nat → Int32} {T : Int32} {x k : Nat} (h : Stl state T x k k) : ∀ s, 0 < s → s ≤ k → state s = T := by
  intro s a b
  obtain ⟨i, hi, e⟩ := cx_all (x := x) a b
  rw [e]; exact h.1 i hi
theorem cx_on {x k j : Nat} (hx : x < 1000) (hj : j < 100) (hk : k < 100) : (1 : Int32) + ((Int32.ofNat x + Int32.ofNat j * 1) - (Int32.ofNat x + Int32.ofNat j * 1) / Int32.ofNat k * Int32.ofNat k) = Int32.ofNat (cx x k j) := by
  rw [Int32.mul_one, ← Int32.ofNat_add, rem_on (x + j) k (by omega) (by omega), cx]
  exact (Int32.ofNat_add 1 _).symm
/-- what one turn of the law leaves: x the answer -/
def Out (Lf : List Int32) (t k : Nat) (x gz rz tz : Int32) (sg tk ii kind state : Nat → Int32) : Prop :=
  ∃ k' n' zt' : Nat, gz = Int32.ofNat k' ∧ rz = Int32.ofNat n' ∧ tz = Int32.ofNat zt' ∧ k' ≤ t + 1 ∧ n' + zt' ≤ 12 + (t + 1) ∧ Inv Lf k' n' sg tk ii kind state ∧ ((¬ (0 : Int32) < x ∧ ¬ x = (-9 : Int32)) ∧ k' = k ∨ x = Int32.ofNat (k + 1) ∧ k' = k + 1)
theorem out_mark {Lf : List Int32} {t k n zt : Nat} {x gz : Int32} {sg tk ii kind state : Nat → Int32} (hk : k ≤ t) (hz : n + zt ≤ 12 + t) (R : Res Lf k n x gz sg tk ii kind state) : Out Lf t k x gz (Int32.ofNat n) (Int32.ofNat zt) sg tk ii kind state := by
  rcases R with ⟨h1, h2, h3⟩ | ⟨h1, h2, h3⟩
  · exact ⟨k, n, zt, h2, rfl, rfl, by omega, by omega, h3, Or.inl ⟨h1, rfl⟩⟩
  · exact ⟨k + 1, n, zt, h2, rfl, rfl, by omega, by omega, h3, Or.inr ⟨h1, rfl⟩⟩
theorem out_move {Lf : List Int32} {t k n zt : Nat} {sg tk ii kind state : Nat → Int32} (hk : k ≤ t) (ht : t < 11) (hz : n + zt ≤ 12 + t) (hi : Inv Lf k n sg tk ii kind state) (hand look ow si sp ho : Nat → Int32) (zs zc zh h a b c : Int32)
    {r : Int32 × (Nat → Int32) × (Nat → Int32) × (Nat → Int32) × (Nat → Int32) × Int32 × (Nat → Int32) × (Nat → Int32) × Int32 × Int32 × Int32 × (Nat → Int32) × (Nat → Int32) × (Nat → Int32) × (Nat → Int32) × (Nat → Int32) × Int32}
    (hr : r = f_X5_move kind hand state look (Int32.ofNat k) sp ho zs zc zh sg tk ii ow si (Int32.ofNat n) h a b c) :
    Out Lf t k r.1 r.2.2.2.2.2.1 r.2.2.2.2.2.2.2.2.2.2.2.2.2.2.2.2 (Int32.ofNat zt) r.2.2.2.2.2.2.2.2.2.2.2.1 r.2.2.2.2.2.2.2.2.2.2.2.2.1 r.2.2.2.2.2.2.2.2.2.2.2.2.2.1 r.2.1 r.2.2.2.1 := by
  obtain ⟨u, ⟨x, hx, e⟩ | ⟨n', sg', tk', ii', ow', si', h1, h2, h3, h4, e⟩⟩ := move_res (by omega) (by omega) hi hand look ow si sp ho zs zc zh h a b c
  · rw [hr, e]; exact ⟨k, n, zt, rfl, rfl, rfl, by omega, by omega, hi, Or.inl ⟨hx, rfl⟩⟩
  · rw [hr, e]
    refine ⟨k + 1, n', zt, rfl, rfl, rfl, by omega, by omega, ⟨st_up hi.1, ?_⟩, Or.inr ⟨rfl, rfl⟩⟩
    rw [mk_ne (by decide)]; exact h4
theorem out_put {Lf : List Int32} {t k n zt : Nat} {sg tk ii kind state : Nat → Int32} (hk : k ≤ t) (ht : t < 11) (hz : n + zt ≤ 12 + (t + 1)) (hi : Inv Lf k n sg tk ii kind state) (hand look ow si sp ho by_ : Nat → Int32) (zs zc zh h a : Int32)
    {r : Int32 × (Nat → Int32) × (Nat → Int32) × (Nat → Int32) × (Nat → Int32) × (Nat → Int32) × Int32 × (Nat → Int32) × (Nat → Int32) × (Nat → Int32) × (Nat → Int32) × Int32 × (Nat → Int32) × (Nat → Int32) × Int32 × Int32 × Int32 × Int32}
    (hr : r = f_X5_put sg tk ii ow si (Int32.ofNat n) kind hand state look (Int32.ofNat k) sp ho zs zc zh by_ (Int32.ofNat zt) h a) :
    Out Lf t k r.1 r.2.2.2.2.2.2.2.2.2.2.2.1 r.2.2.2.2.2.2.1 r.2.2.2.2.2.2.2.2.2.2.2.2.2.2.2.2.2 r.2.1 r.2.2.1 r.2.2.2.1 r.2.2.2.2.2.2.2.1 r.2.2.2.2.2.2.2.2.2.1 := by
  obtain ⟨u, ⟨x, hx, e⟩ | ⟨n', sg', tk', ii', ow', si', h1, h2, h3, h4, e⟩⟩ := put_res (zt := zt) (by omega) (by omega) (by omega) hi hand look ow si sp ho by_ zs zc zh h a
  · rw [hr, e]; exact ⟨k, n, zt, rfl, rfl, rfl, by omega, by omega, hi, Or.inl ⟨hx, rfl⟩⟩
  · rw [hr, e]
    refine ⟨k + 1, n', 0, rfl, rfl, rfl, by omega, by omega, ⟨st_up hi.1, ?_⟩, Or.inr ⟨rfl, rfl⟩⟩
    rw [mk_eq]; exact h4
