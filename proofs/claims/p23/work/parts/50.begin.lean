theorem some_on (v : Int32) (c : Nat) (h0 : 0 < c) (hc : c < 2147483648) : ∃ y : Nat, y < c ∧ f_L_some v (Int32.ofNat c) = Int32.ofNat y := by
  obtain ⟨a, ha, e⟩ := and_pos v
  refine ⟨a % c, Nat.mod_lt _ h0, ?_⟩
  rw [f_L_some, e, rem_on a c ha hc]
theorem by_97 : ∀ y : Nat, y < 5 → f_X5_byteOf ((97 : Int64) + (Int32.ofNat y).toInt64) 0 = (97 : Int32) + Int32.ofNat y ∧ ¬ f_X5_byteOf ((97 : Int64) + (Int32.ofNat y).toInt64) 0 < (32 : Int32) ∧ f_X5_byteOf ((97 : Int64) + (Int32.ofNat y).toInt64) 0 ≤ (126 : Int32) := by decide +kernel
theorem ab_1 (w : Int64) (h1 : ¬ f_X5_byteOf w 0 < (32 : Int32)) (h2 : f_X5_byteOf w 0 ≤ (126 : Int32)) : f_X5_areBytes w 1 = 1 := by
  rw [f_X5_areBytes]
  show f_X5_areBytes_L2 w 1 (4999999998 + 1 + 1) 0 = 1
  rw [f_X5_areBytes_L2, if_neg (by decide), if_neg h1, if_pos h2, f_X5_areBytes_L2, if_pos (by decide)]
theorem type_1 (by_ : Nat → Int32) (zt : Nat) (hz : zt < 120) (w : Int64) (h1 : ¬ f_X5_byteOf w 0 < (32 : Int32)) (h2 : f_X5_byteOf w 0 ≤ (126 : Int32)) : f_X5_type by_ (Int32.ofNat zt) w 1 = (Int32.ofNat (zt + 1), upd by_ zt (f_X5_byteOf w 0), Int32.ofNat (zt + 1)) := by
  have e : (120 : Int32) - Int32.ofNat zt = Int32.ofNat (120 - zt) := (Int32.ofNat_sub 120 zt (by omega)).symm
  have c1 : (1 : Int32) ≤ Int32.ofNat (120 - zt) := (on_le 1 (120 - zt) (by omega) (by omega)).mpr (by omega)
  have c2 : ¬ Int32.ofNat zt < (0 : Int32) := fun q => by have t := (on_lt zt 0 (by omega) (by omega)).mp q; omega
  have c3 : ¬ (120 : Int32) ≤ Int32.ofNat zt := fun q => by have t := (on_le 120 zt (by omega) (by omega)).mp q; omega
  have ad : f_X3_add by_ (Int32.ofNat zt) (f_X5_byteOf w 0) = (upd by_ zt (f_X5_byteOf w 0), Int32.ofNat (zt + 1)) := by
    rw [f_X3_add, if_neg c2, if_neg c3, on_c zt (by omega), on_s]
  rw [f_X5_type, if_neg (by decide), if_neg (by decide), ab_1 w h1 h2, if_neg (by decide), e, if_pos c1]
  rw [show (1 : Int32) - (1 : Int32) = (0 : Int32) from rfl]
  show f_X5_type_L43 w (7 + 1 + 1) 0 by_ (Int32.ofNat zt) = _
  rw [f_X5_type_L43, if_neg (by decide), ad, f_X5_type_k61_u_13, f_X5_type_L43, if_pos (by decide)]
theorem say_spec (by_ : Nat → Int32) (zt : Nat) (hz : zt < 120) (c : Int32) : f_L_say by_ (Int32.ofNat zt) c = (1, upd by_ zt ((97 : Int32) + f_L_some c 5), Int32.ofNat (zt + 1)) := by
  obtain ⟨y, hy, e⟩ := some_on c 5 (by omega) (by omega)
  have e : f_L_some c 5 = Int32.ofNat y := e
  obtain ⟨b0, b1, b2⟩ := by_97 y hy
  have c1 : ¬ Int32.ofNat (zt + 1) ≤ (0 : Int32) := fun q => by have t := (on_le (zt + 1) 0 (by omega) (by omega)).mp q; omega
  rw [f_L_say, e, type_1 by_ zt hz _ b1 b2, f_L_say_k15_u_4, e, type_1 by_ zt hz _ b1 b2]
  dsimp only
  rw [if_neg c1, b0]
theorem ba_on (by_ : Nat → Int32) (c i : Nat) (hc : c ≤ 120) (hi : i < c) : f_X3_byteAt by_ (Int32.ofNat c) (Int32.ofNat i) = by_ i := by
  have c1 : ¬ Int32.ofNat i < (0 : Int32) := fun q => by have t := (on_lt i 0 (by omega) (by omega)).mp q; omega
  have c2 : ¬ Int32.ofNat c ≤ Int32.ofNat i := fun q => by have t := (on_le c i (by omega) (by omega)).mp q; omega
  have c3 : ¬ (120 : Int32) ≤ Int32.ofNat i := fun q => by have t := (on_le 120 i (by omega) (by omega)).mp q; omega
  rw [f_X3_byteAt, if_neg c1, if_neg c2, if_neg c3, on_c i (by omega)]
theorem il_ok (sg tk ii ow si by_ : Nat → Int32) (n a c : Nat) (hn : n + c ≤ 240) (ha : a ≤ n) (cs : Int32) :
    ∃ sg' tk' ii' ow' si' : Nat → Int32, f_X2_insertLetters sg tk ii ow si (Int32.ofNat n) by_ (Int32.ofNat c) (Int32.ofNat a) 0 (Int32.ofNat c) cs = (sg', tk', ii', ow', si', Int32.ofNat (n + c)) ∧
      Ins n a c sg (fun i => f_X3_byteAt by_ (Int32.ofNat c) (Int32.ofNat (i - a))) sg' ∧ Ins n a c tk (fun _ => 0) tk' ∧ Ins n a c ii (fun _ => cs) ii' := by
  have e0 : Int32.ofNat c - 0 = Int32.ofNat c := Int32.sub_zero _
  have e := mr_ok sg tk ii ow si n a c hn ha
  obtain ⟨sg', tk', ii', ow', si', e1, h1, h2, h3⟩ := il_loop by_ (Int32.ofNat c) cs a c (n + c) hn (by omega) (va_cpy sg sg a (a + c) (n - a), va_cpy tk tk a (a + c) (n - a), va_cpy ii ii a (a + c) (n - a), va_cpy ow ow a (a + c) (n - a), va_cpy si si a (a + c) (n - a), Int32.ofNat (n + c)) rfl c 0 5000000000 (va_cpy sg sg a (a + c) (n - a)) (va_cpy tk tk a (a + c) (n - a)) (va_cpy ii ii a (a + c) (n - a)) (va_cpy ow ow a (a + c) (n - a)) (va_cpy si si a (a + c) (n - a)) (by omega) (by omega)
  refine ⟨sg', tk', ii', ow', si', ?_, ins_cpy ha h1, ins_cpy ha h2, ins_cpy ha h3⟩
  rw [f_X2_insertLetters, e0, e, f_X2_insertLetters_k9_u_3, e0, e, if_neg (by show ¬ (1 : Int32) = 0; decide)]
  exact e1
/-- the first TEXT: n0 LETTERS told by zf -/
theorem begin_loop (L : Nat) (xs sg tk ii ow si : Nat → Int32) (rz gz f : Int32) (n0 : Nat) (hn : n0 ≤ 12) : ∀ (d k q : Nat) (by_ zf : Nat → Int32), k + d = n0 → d < q → (∀ i, i < k → by_ i = zf i) →
    ∃ by' sg' tk' ii' ow' si' zf' : Nat → Int32, f_L_begin_L3 L xs sg tk ii ow si rz gz f (Int32.ofNat n0) q (Int32.ofNat k) by_ (Int32.ofNat k) zf = (1, by', 0, sg', tk', ii', ow', si', Int32.ofNat n0, 0, zf') ∧ ∀ i, i < n0 → tk' i = 0 ∧ ii' i = 0 ∧ sg' i = zf' i := by
  intro d
  induction d with
  | zero =>
    intro k q by_ zf hk hq h
    obtain ⟨q, rfl⟩ : ∃ j, q = j + 1 := ⟨q - 1, by omega⟩
    obtain rfl : k = n0 := by omega
    obtain ⟨sg', tk', ii', ow', si', e, i1, i2, i3⟩ := il_ok sg tk ii ow si by_ 0 0 k (by omega) (Nat.le_refl _) 0
    rw [Nat.zero_add] at e
    have e2 : f_X5_begin sg tk ii ow si by_ (Int32.ofNat k) = (Int32.ofNat k, sg', tk', ii', ow', si', Int32.ofNat k, 0, 0) := by
      have e : f_X2_insertLetters sg tk ii ow si 0 by_ (Int32.ofNat k) 0 0 (Int32.ofNat k) 0 = _ := e
      rw [f_X5_begin, e, f_X5_begin_k37_u_1]
    refine ⟨by_, sg', tk', ii', ow', si', zf, ?_, fun i hi => ?_⟩
    · rw [f_L_begin_L3, if_pos ((on_le k k (by omega) (by omega)).mpr (Nat.le_refl _)), e2, f_L_begin_k56_u_4, e2, if_pos rfl]
    · have hj : i < 0 + k := by omega
      rw [i2 i hj, if_neg (Nat.not_lt_zero i), if_pos hj, i3 i hj, if_neg (Nat.not_lt_zero i), if_pos hj, i1 i hj, if_neg (Nat.not_lt_zero i), if_pos hj]
      show (0 : Int32) = 0 ∧ (0 : Int32) = 0 ∧ f_X3_byteAt by_ (Int32.ofNat k) (Int32.ofNat (i - 0)) = zf i
      rw [Nat.sub_zero, ba_on by_ k i (by omega) hi]
      exact ⟨rfl, rfl, h i hi⟩
  | succ d ih =>
    intro k q by_ zf hk hq h
    obtain ⟨q, rfl⟩ : ∃ j, q = j + 1 := ⟨q - 1, by omega⟩
    have c : ¬ Int32.ofNat n0 ≤ Int32.ofNat k := fun t => by have u := (on_le n0 k (by omega) (by omega)).mp t; omega
    obtain ⟨cl, hcl⟩ : ∃ cl, cl = f_L_cell L xs (f + Int32.ofNat k) := ⟨_, rfl⟩
    rw [f_L_begin_L3, if_neg c, ← hcl, say_spec by_ k (by omega) cl, f_L_begin_k41_u_15, ← hcl, say_spec by_ k (by omega) cl, if_neg (by show ¬ (1 : Int32) = 0; decide), on_s, on_c k (by omega)]
    refine ih (k + 1) q _ _ (by omega) (by omega) (fun i hi => ?_)
    dsimp only
    rw [upd, upd]
    by_cases e : i = k
    · rw [if_pos e, if_pos e]
    · rw [if_neg e, if_neg e]; exact h i (by omega)
theorem begin_res (L : Nat) (xs by_ sg tk ii ow si zf kind state : Nat → Int32) (rz gz f : Int32) (n0 : Nat) (hn : n0 ≤ 12) :
    ∃ by' sg' tk' ii' ow' si' zf' : Nat → Int32, f_L_begin L xs by_ 0 sg tk ii ow si rz gz zf f (Int32.ofNat n0) = (1, by', 0, sg', tk', ii', ow', si', Int32.ofNat n0, 0, zf') ∧ Inv ((List.range n0).map zf') 0 n0 sg' tk' ii' kind state := by
  obtain ⟨by', sg', tk', ii', ow', si', zf', e, h⟩ := begin_loop L xs sg tk ii ow si rz gz f n0 hn n0 0 5000000000 by_ zf (by omega) (by omega) (fun i hi => absurd hi (Nat.not_lt_zero i))
  refine ⟨by', sg', tk', ii', ow', si', zf', ?_, fun j a b => by omega, fun v w hv _ z _ => absurd (h v hv).1 z, fun v hv => Or.inl (h v hv).1, fun v hv j _ _ => by rw [(h v hv).2.1, Int32.zero_and], ?_⟩
  · rw [f_L_begin]; exact e
  · have e2 : (List.range n0).filter (pf tk' ii' (mk kind 0 0)) = List.range n0 := List.filter_eq_self.mpr (fun v hv => by
      have hv := List.mem_range.mp hv
      rw [pf, (h v hv).1, (h v hv).2.1, Int32.zero_and]; decide)
    rw [fl, e2]
    exact List.map_congr_left (fun v hv => (h v (List.mem_range.mp hv)).2.2)
