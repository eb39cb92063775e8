theorem on_i (k : Nat) (h : k < 2147483648) : (Int32.ofNat k).toInt = (k : Int) := Int32.toInt_ofNat_of_lt h
theorem on_c (k : Nat) (h : k < 2147483648) : (Int32.ofNat k).toNatClampNeg = k := Int32.toNatClampNeg_ofNat_of_lt h
theorem on_s (k : Nat) : Int32.ofNat k + (1 : Int32) = Int32.ofNat (k + 1) := (Int32.ofNat_add k 1).symm
theorem on_lt (a b : Nat) (ha : a < 2147483648) (hb : b < 2147483648) : Int32.ofNat a < Int32.ofNat b ↔ a < b := by
  rw [Int32.lt_iff_toInt_lt, on_i a ha, on_i b hb]; omega
theorem on_le (a b : Nat) (ha : a < 2147483648) (hb : b < 2147483648) : Int32.ofNat a ≤ Int32.ofNat b ↔ a ≤ b := by
  rw [Int32.le_iff_toInt_le, on_i a ha, on_i b hb]; omega
theorem on_eq (a b : Nat) (ha : a < 2147483648) (hb : b < 2147483648) : Int32.ofNat a = Int32.ofNat b ↔ a = b := by
  rw [← Int32.toInt_inj, on_i a ha, on_i b hb]; omega
theorem on_of (s : Int32) (h : 0 ≤ s.toInt) : s = Int32.ofNat s.toInt.toNat := by
  have t := ti_rng s
  refine Int32.toInt_inj.mp ?_
  rw [on_i _ (by omega)]; omega
theorem has_1 (n s : Nat) (hn : n ≤ 240) (h : s < n) : f_X2_has (Int32.ofNat n) (Int32.ofNat s) = (1 : Int32) := by
  have c1 : ¬ Int32.ofNat s < (0 : Int32) := fun q => by have t := (on_lt s 0 (by omega) (by omega)).mp q; omega
  have c2 : ¬ Int32.ofNat n ≤ Int32.ofNat s := fun q => by have t := (on_le n s (by omega) (by omega)).mp q; omega
  have c3 : ¬ (240 : Int32) ≤ Int32.ofNat s := fun q => by have t := (on_le 240 s (by omega) (by omega)).mp q; omega
  rw [f_X2_has, if_neg c1, if_neg c2, if_neg c3]
theorem has_0 (n s : Nat) (hn : n ≤ 240) (hs : s < 2147483648) (h : n ≤ s) : f_X2_has (Int32.ofNat n) (Int32.ofNat s) = (0 : Int32) := by
  have c1 : ¬ Int32.ofNat s < (0 : Int32) := fun q => by have t := (on_lt s 0 (by omega) (by omega)).mp q; omega
  have c2 : Int32.ofNat n ≤ Int32.ofNat s := (on_le n s (by omega) (by omega)).mpr h
  rw [f_X2_has, if_neg c1, if_pos c2]
theorem has_m (z s : Int32) (h : s < (0 : Int32)) : f_X2_has z s = (0 : Int32) := by rw [f_X2_has, if_pos h]
theorem has_ex (n : Nat) (s : Int32) (hn : n ≤ 240) (h : ¬ f_X2_has (Int32.ofNat n) s = (0 : Int32)) : ∃ v, v < n ∧ s = Int32.ofNat v := by
  rw [f_X2_has] at h
  by_cases c1 : s < (0 : Int32)
  · rw [if_pos c1] at h; exact absurd rfl h
  · rw [if_neg c1] at h
    by_cases c2 : Int32.ofNat n ≤ s
    · rw [if_pos c2] at h; exact absurd rfl h
    · have t1 : 0 ≤ s.toInt := q_nlt c1
      have t2 := q_nle c2
      rw [on_i n (by omega)] at t2
      exact ⟨s.toInt.toNat, by omega, on_of s t1⟩
theorem bt_dj : ∀ i : Nat, i < 25 → ∀ j : Nat, j < 25 → i ≠ j → f_X5_bit (Int32.ofNat i) &&& f_X5_bit (Int32.ofNat j) = (0 : Int32) := by decide +kernel
theorem bt_ne : ∀ i : Nat, i < 25 → 0 < i → ¬ f_X5_bit (Int32.ofNat i) = (0 : Int32) := by decide +kernel
theorem ad_l (c a b : Int32) : c &&& (a ||| b) = (c &&& a) ||| (c &&& b) := by
  apply Int32.toBitVec_inj.mp
  rw [Int32.toBitVec_and, Int32.toBitVec_or, Int32.toBitVec_or, Int32.toBitVec_and, Int32.toBitVec_and]
  apply BitVec.eq_of_getLsbD_eq
  intro i hi
  rw [BitVec.getLsbD_and, BitVec.getLsbD_or, BitVec.getLsbD_or, BitVec.getLsbD_and, BitVec.getLsbD_and, Bool.and_or_distrib_left]
theorem an_or {a b c : Int32} (h1 : a &&& c = 0) (h2 : b &&& c = 0) : (a ||| b) &&& c = 0 := by
  rw [Int32.and_comm, ad_l, Int32.and_comm c a, Int32.and_comm c b, h1, h2]; rfl
theorem an_or' {a b c : Int32} (h1 : c &&& a = 0) (h2 : c &&& b = 0) : c &&& (a ||| b) = 0 := by
  rw [ad_l, h1, h2]; rfl
theorem an_an {a b c : Int32} (h : a &&& c = 0) : (a &&& b) &&& c = 0 := by
  rw [Int32.and_assoc, Int32.and_comm b c, ← Int32.and_assoc, h, Int32.zero_and]
/-- the set of those among the first k whose entry in g is w -/
def mk (g : Nat → Int32) (w : Int32) : Nat → Int32
  | 0 => 0
  | k + 1 => if g (k + 1) = w then mk g w k ||| f_X5_bit (Int32.ofNat (k + 1)) else mk g w k
theorem mk_congr {g g' : Nat → Int32} {w : Int32} : ∀ k : Nat, (∀ j, 0 < j → j ≤ k → g j = g' j) → mk g w k = mk g' w k
  | 0, _ => rfl
  | k + 1, h => by rw [mk, mk, h (k + 1) (by omega) (Nat.le_refl _), mk_congr k (fun j a b => h j a (by omega))]
theorem mk_none {g : Nat → Int32} {w : Int32} : ∀ k : Nat, (∀ j, 0 < j → j ≤ k → ¬ g j = w) → mk g w k = 0
  | 0, _ => rfl
  | k + 1, h => by rw [mk, if_neg (h (k + 1) (by omega) (Nat.le_refl _)), mk_none k (fun j a b => h j a (by omega))]
/-- all of the first k -/
def al (k : Nat) : Int32 := mk (fun _ => 0) 0 k
theorem mk_all {g : Nat → Int32} {w : Int32} : ∀ k : Nat, (∀ j, 0 < j → j ≤ k → g j = w) → mk g w k = al k
  | 0, _ => rfl
  | k + 1, h => by rw [mk, if_pos (h (k + 1) (by omega) (Nat.le_refl _)), mk_all k (fun j a b => h j a (by omega)), al, al, mk, if_pos rfl]
theorem mk_hi {g : Nat → Int32} {w : Int32} : ∀ k : Nat, ∀ j : Nat, k < j → j < 25 → mk g w k &&& f_X5_bit (Int32.ofNat j) = 0
  | 0, j, _, _ => by rw [mk, Int32.zero_and]
  | k + 1, j, h, hj => by
    rw [mk]
    by_cases c : g (k + 1) = w
    · rw [if_pos c]; exact an_or (mk_hi k j (by omega) hj) (bt_dj (k + 1) (by omega) j hj (by omega))
    · rw [if_neg c]; exact mk_hi k j (by omega) hj
theorem mk_sub {g : Nat → Int32} {w : Int32} : ∀ k : Nat, k < 25 → mk g w k &&& al k = mk g w k
  | 0, _ => by rw [mk, Int32.zero_and]
  | k + 1, h => by
    have ih := mk_sub (g := g) (w := w) k (by omega)
    have e : al (k + 1) = al k ||| f_X5_bit (Int32.ofNat (k + 1)) := by rw [al, al, mk, if_pos rfl]
    have hx : mk g w k &&& f_X5_bit (Int32.ofNat (k + 1)) = 0 := mk_hi k (k + 1) (by omega) h
    have hy : al k &&& f_X5_bit (Int32.ofNat (k + 1)) = 0 := mk_hi k (k + 1) (by omega) h
    rw [e, mk]
    by_cases c : g (k + 1) = w
    · rw [if_pos c, ad_l, Int32.and_comm _ (al k), ad_l, Int32.and_comm (al k) (mk g w k), ih, hy, Int32.or_zero, Int32.and_comm _ (f_X5_bit _), ad_l, Int32.and_comm _ (mk g w k), hx, Int32.and_self, Int32.zero_or]
    · rw [if_neg c, ad_l, ih, hx, Int32.or_zero]
theorem names_1 (sz c : Nat) (hs : sz ≤ 24) (h0 : 0 < c) (h1 : c ≤ sz) : f_X1_names (Int32.ofNat sz) (Int32.ofNat c) = (1 : Int32) := by
  have c1 : ¬ Int32.ofNat c < (1 : Int32) := fun q => by have t := (on_lt c 1 (by omega) (by omega)).mp q; omega
  have c2 : ¬ Int32.ofNat sz < Int32.ofNat c := fun q => by have t := (on_lt sz c (by omega) (by omega)).mp q; omega
  have c3 : ¬ (24 : Int32) < Int32.ofNat c := fun q => by have t := (on_lt 24 c (by omega) (by omega)).mp q; omega
  rw [f_X1_names, if_neg c1, if_neg c2, if_neg c3]
theorem names_0 (sz c : Nat) (hs : sz ≤ 24) (h0 : 0 < c) (hc : c < 2147483648) (h1 : sz < c) : f_X1_names (Int32.ofNat sz) (Int32.ofNat c) = (0 : Int32) := by
  have c1 : ¬ Int32.ofNat c < (1 : Int32) := fun q => by have t := (on_lt c 1 (by omega) (by omega)).mp q; omega
  have c2 : Int32.ofNat sz < Int32.ofNat c := (on_lt sz c (by omega) (by omega)).mpr h1
  rw [f_X1_names, if_neg c1, if_pos c2]
theorem kind_loop (g : Nat → Int32) (w : Int32) (sz : Nat) (hs : sz ≤ 24) : ∀ d k n : Nat, k + d = sz → d < n → f_X1_ofKind_L4 g (Int32.ofNat sz) w n (mk g w k) (Int32.ofNat (k + 1)) = mk g w sz := by
  intro d
  induction d with
  | zero =>
    intro k n hk hn
    obtain ⟨n, rfl⟩ : ∃ j, n = j + 1 := ⟨n - 1, by omega⟩
    obtain rfl : k = sz := by omega
    rw [f_X1_ofKind_L4]
    by_cases c : (24 : Int32) < Int32.ofNat (k + 1)
    · rw [if_pos c]
    · rw [if_neg c, if_pos (names_0 k (k + 1) hs (by omega) (by omega) (by omega))]
  | succ d ih =>
    intro k n hk hn
    obtain ⟨n, rfl⟩ : ∃ j, n = j + 1 := ⟨n - 1, by omega⟩
    have c : ¬ (24 : Int32) < Int32.ofNat (k + 1) := fun q => by have t := (on_lt 24 (k + 1) (by omega) (by omega)).mp q; omega
    have e := names_1 sz (k + 1) hs (by omega) (by omega)
    have t := ih (k + 1) n (by omega) (by omega)
    rw [f_X1_ofKind_L4, if_neg c, e, if_neg (by decide), on_c (k + 1) (by omega), on_s (k + 1)]
    rw [mk] at t
    by_cases c2 : g (k + 1) = w
    · rw [if_pos c2] at t; rw [if_pos c2]; exact t
    · rw [if_neg c2] at t; rw [if_neg c2]; exact t
theorem kind_mk (g : Nat → Int32) (w : Int32) (sz : Nat) (hs : sz ≤ 24) : f_X1_ofKind g (Int32.ofNat sz) w = mk g w sz := by
  rw [f_X1_ofKind]; exact kind_loop g w sz hs sz 0 26 (by omega) (by omega)
theorem state_L (g : Nat → Int32) (z w : Int32) : ∀ (n : Nat) (a v : Int32), f_X1_inState_L4 g z w n a v = f_X1_ofKind_L4 g z w n a v
  | 0, _, _ => rfl
  | n + 1, a, v => by rw [f_X1_inState_L4, f_X1_ofKind_L4, state_L g z w n, state_L g z w n]
theorem state_mk (g : Nat → Int32) (w : Int32) (sz : Nat) (hs : sz ≤ 24) : f_X1_inState g (Int32.ofNat sz) w = mk g w sz := by
  rw [f_X1_inState, state_L]; exact kind_loop g w sz hs sz 0 26 (by omega) (by omega)
theorem lat_0 : f_X5_latest (0 : Int32) = (0 : Int32) := by decide +kernel
