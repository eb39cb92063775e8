theorem room_on (n : Nat) (hn : n ≤ 240) : f_X2_room (Int32.ofNat n) = Int32.ofNat (240 - n) := by
  rw [f_X2_room]; exact (Int32.ofNat_sub 240 n hn).symm
theorem mr_spec (sg tk ii ow si : Nat → Int32) (n : Nat) (hn : n ≤ 240) (z : Int32) (c : Nat) (hc : c ≤ 240) :
    f_X2_makeRoom sg tk ii ow si (Int32.ofNat n) z (Int32.ofNat c) = (0, sg, tk, ii, ow, si, Int32.ofNat n) ∨
    ∃ a : Nat, a ≤ n ∧ n + c ≤ 240 ∧ z = Int32.ofNat a ∧ f_X2_makeRoom sg tk ii ow si (Int32.ofNat n) z (Int32.ofNat c) = (1, va_cpy sg sg a (a + c) (n - a), va_cpy tk tk a (a + c) (n - a), va_cpy ii ii a (a + c) (n - a), va_cpy ow ow a (a + c) (n - a), va_cpy si si a (a + c) (n - a), Int32.ofNat (n + c)) := by
  have c1 : ¬ Int32.ofNat n < (0 : Int32) := fun q => by have t := (on_lt n 0 (by omega) (by omega)).mp q; omega
  rw [f_X2_makeRoom, if_neg c1]
  by_cases c2 : z < (0 : Int32)
  · rw [if_pos c2]; exact Or.inl rfl
  rw [if_neg c2]
  by_cases c3 : Int32.ofNat n < z
  · rw [if_pos c3]; exact Or.inl rfl
  rw [if_neg c3]
  have c4 : ¬ Int32.ofNat c < (0 : Int32) := fun q => by have t := (on_lt c 0 (by omega) (by omega)).mp q; omega
  rw [if_neg c4, room_on n hn]
  by_cases c5 : Int32.ofNat c ≤ Int32.ofNat (240 - n)
  · rw [if_pos c5]
    have t5 := (on_le c (240 - n) (by omega) (by omega)).mp c5
    have t2 : 0 ≤ z.toInt := q_nlt c2
    have t3 := q_nlt c3
    rw [on_i n (by omega)] at t3
    obtain ⟨a, ha⟩ : ∃ a : Nat, a = z.toInt.toNat := ⟨_, rfl⟩
    have hz : z = Int32.ofNat a := by rw [ha]; exact on_of z t2
    have hl : a ≤ n := by omega
    refine Or.inr ⟨a, hl, by omega, hz, ?_⟩
    rw [hz, on_c a (by omega), ← Int32.ofNat_add, on_c (a + c) (by omega), ← Int32.ofNat_sub n a hl, on_c (n - a) (by omega), ← Int32.ofNat_add]
  · rw [if_neg c5]; exact Or.inl rfl
theorem wr_spec (sg tk ii ow si : Nat → Int32) (n s : Nat) (hn : n ≤ 240) (hs : s < n) (g t c : Int32) : f_X2_write sg tk ii ow si (Int32.ofNat n) (Int32.ofNat s) g t c = (upd sg s g, upd tk s t, upd ii s c, upd ow s 0, upd si s 0) := by
  rw [f_X2_write, has_1 n s hn hs, if_neg (by decide), on_c s (by omega)]
/-- c new ones, g, at the place a of the n first of f -/
def Ins (n a c : Nat) (f g f' : Nat → Int32) : Prop := ∀ i, i < n + c → f' i = if i < a then f i else if i < a + c then g i else f (i - c)
theorem ins_cpy {n a c : Nat} (ha : a ≤ n) {f f' g : Nat → Int32} (h : ∀ i, f' i = if a ≤ i ∧ i < a + c then g i else va_cpy f f a (a + c) (n - a) i) : Ins n a c f g f' := by
  intro i hi
  rw [h i]
  by_cases c1 : i < a
  · rw [if_neg (by omega), if_pos c1, va_cpy, if_neg (by omega)]
  · rw [if_neg c1]
    by_cases c2 : i < a + c
    · rw [if_pos ⟨by omega, c2⟩, if_pos c2]
    · rw [if_neg (by omega), if_neg c2, va_cpy, if_pos (by omega)]
      congr 1; omega
theorem il_loop (by_ : Nat → Int32) (zt cs : Int32) (a c N : Nat) (hN : N ≤ 240) (hac : a + c ≤ N) (u : (Nat → Int32) × (Nat → Int32) × (Nat → Int32) × (Nat → Int32) × (Nat → Int32) × Int32) (hu : u.2.2.2.2.2 = Int32.ofNat N) :
    ∀ (d j m : Nat) (sg tk ii ow si : Nat → Int32), j + d = c → d < m → ∃ sg' tk' ii' ow' si' : Nat → Int32,
      f_X2_insertLetters_L16 by_ zt (Int32.ofNat a) 0 (Int32.ofNat c) cs u m (Int32.ofNat j) sg tk ii ow si = (sg', tk', ii', ow', si', Int32.ofNat N) ∧
      (∀ i, sg' i = if a + j ≤ i ∧ i < a + c then f_X3_byteAt by_ zt (Int32.ofNat (i - a)) else sg i) ∧ (∀ i, tk' i = if a + j ≤ i ∧ i < a + c then 0 else tk i) ∧ ∀ i, ii' i = if a + j ≤ i ∧ i < a + c then cs else ii i := by
  intro d
  induction d with
  | zero =>
    intro j m sg tk ii ow si hj hm
    obtain ⟨m, rfl⟩ : ∃ q, m = q + 1 := ⟨m - 1, by omega⟩
    obtain rfl : j = c := by omega
    refine ⟨sg, tk, ii, ow, si, ?_, fun i => by rw [if_neg (by omega)], fun i => by rw [if_neg (by omega)], fun i => by rw [if_neg (by omega)]⟩
    rw [f_X2_insertLetters_L16, if_pos ((on_le j j (by omega) (by omega)).mpr (Nat.le_refl _)), hu]
  | succ d ih =>
    intro j m sg tk ii ow si hj hm
    obtain ⟨m, rfl⟩ : ∃ q, m = q + 1 := ⟨m - 1, by omega⟩
    have c1 : ¬ Int32.ofNat c ≤ Int32.ofNat j := fun q => by have t := (on_le c j (by omega) (by omega)).mp q; omega
    have e : Int32.ofNat a + Int32.ofNat j - 0 = Int32.ofNat (a + j) := by rw [← Int32.ofNat_add]; exact Int32.sub_zero _
    obtain ⟨sg', tk', ii', ow', si', e1, h1, h2, h3⟩ := ih (j + 1) m (upd sg (a + j) (f_X3_byteAt by_ zt (Int32.ofNat j))) (upd tk (a + j) 0) (upd ii (a + j) cs) (upd ow (a + j) 0) (upd si (a + j) 0) (by omega) (by omega)
    refine ⟨sg', tk', ii', ow', si', ?_, fun i => ?_, fun i => ?_, fun i => ?_⟩
    · rw [f_X2_insertLetters_L16, if_neg c1, hu, e, wr_spec sg tk ii ow si N (a + j) hN (by omega), f_X2_insertLetters_k42_u_12, on_s]
      exact e1
    · rw [h1 i, upd]
      by_cases q : i = a + j
      · subst q; rw [if_neg (by omega), if_pos rfl, if_pos (by omega)]; congr 2; omega
      · by_cases q2 : a + j ≤ i ∧ i < a + c
        · rw [if_pos (by omega), if_pos q2]
        · rw [if_neg (by omega), if_neg q, if_neg q2]
    · rw [h2 i, upd]
      by_cases q : i = a + j
      · subst q; rw [if_neg (by omega), if_pos rfl, if_pos (by omega)]
      · by_cases q2 : a + j ≤ i ∧ i < a + c
        · rw [if_pos (by omega), if_pos q2]
        · rw [if_neg (by omega), if_neg q, if_neg q2]
    · rw [h3 i, upd]
      by_cases q : i = a + j
      · subst q; rw [if_neg (by omega), if_pos rfl, if_pos (by omega)]
      · by_cases q2 : a + j ≤ i ∧ i < a + c
        · rw [if_pos (by omega), if_pos q2]
        · rw [if_neg (by omega), if_neg q, if_neg q2]
/-- LETTERS put, or nothing done -/
theorem il_spec (sg tk ii ow si by_ : Nat → Int32) (n : Nat) (hn : n ≤ 240) (c : Nat) (hc : c ≤ 240) (z cs : Int32) :
    f_X2_insertLetters sg tk ii ow si (Int32.ofNat n) by_ (Int32.ofNat c) z 0 (Int32.ofNat c) cs = (sg, tk, ii, ow, si, Int32.ofNat n) ∨
    ∃ (a : Nat) (sg' tk' ii' ow' si' : Nat → Int32), a ≤ n ∧ n + c ≤ 240 ∧ z = Int32.ofNat a ∧ f_X2_insertLetters sg tk ii ow si (Int32.ofNat n) by_ (Int32.ofNat c) z 0 (Int32.ofNat c) cs = (sg', tk', ii', ow', si', Int32.ofNat (n + c)) ∧
      Ins n a c sg (fun i => f_X3_byteAt by_ (Int32.ofNat c) (Int32.ofNat (i - a))) sg' ∧ Ins n a c tk (fun _ => 0) tk' ∧ Ins n a c ii (fun _ => cs) ii' := by
  have e0 : Int32.ofNat c - 0 = Int32.ofNat c := Int32.sub_zero _
  rcases mr_spec sg tk ii ow si n hn z c hc with e | ⟨a, ha, hac, hz, e⟩
  · refine Or.inl ?_
    rw [f_X2_insertLetters, e0, e, f_X2_insertLetters_k9_u_3, e0, e, if_pos rfl]
  · refine Or.inr ?_
    obtain ⟨sg', tk', ii', ow', si', e1, h1, h2, h3⟩ := il_loop by_ (Int32.ofNat c) cs a c (n + c) hac (by omega) (va_cpy sg sg a (a + c) (n - a), va_cpy tk tk a (a + c) (n - a), va_cpy ii ii a (a + c) (n - a), va_cpy ow ow a (a + c) (n - a), va_cpy si si a (a + c) (n - a), Int32.ofNat (n + c)) rfl c 0 5000000000 (va_cpy sg sg a (a + c) (n - a)) (va_cpy tk tk a (a + c) (n - a)) (va_cpy ii ii a (a + c) (n - a)) (va_cpy ow ow a (a + c) (n - a)) (va_cpy si si a (a + c) (n - a)) (by omega) (by omega)
    refine ⟨a, sg', tk', ii', ow', si', ha, hac, hz, ?_, ins_cpy ha h1, ins_cpy ha h2, ins_cpy ha h3⟩
    rw [f_X2_insertLetters, e0, e, f_X2_insertLetters_k9_u_3, e0, e, if_neg (by show ¬ (1 : Int32) = 0; decide), hz]
    exact e1
/-- a TOKEN put, or nothing done -/
theorem it_spec (sg tk ii ow si : Nat → Int32) (n : Nat) (hn : n ≤ 240) (z cg cs : Int32) :
    f_X2_insertToken sg tk ii ow si (Int32.ofNat n) z cg cs = (sg, tk, ii, ow, si, Int32.ofNat n) ∨
    ∃ (a : Nat) (sg' tk' ii' ow' si' : Nat → Int32), a ≤ n ∧ n + 1 ≤ 240 ∧ z = Int32.ofNat a ∧ f_X2_insertToken sg tk ii ow si (Int32.ofNat n) z cg cs = (sg', tk', ii', ow', si', Int32.ofNat (n + 1)) ∧
      Ins n a 1 sg (fun _ => 0) sg' ∧ Ins n a 1 tk (fun _ => cg) tk' ∧ Ins n a 1 ii (fun _ => cs) ii' := by
  rcases mr_spec sg tk ii ow si n hn z 1 (by omega) with e | ⟨a, ha, hac, hz, e⟩
  · refine Or.inl ?_
    have e : f_X2_makeRoom sg tk ii ow si (Int32.ofNat n) z 1 = _ := e
    rw [f_X2_insertToken, e, f_X2_insertToken_k6_u_2, e, if_pos rfl]
  · refine Or.inr ?_
    have e : f_X2_makeRoom sg tk ii ow si (Int32.ofNat n) z 1 = _ := e
    have one : ∀ (f : Nat → Int32) (x : Int32) (i : Nat), upd (va_cpy f f a (a + 1) (n - a)) a x i = if a ≤ i ∧ i < a + 1 then x else va_cpy f f a (a + 1) (n - a) i := fun f x i => by
      rw [upd]
      by_cases q : i = a
      · rw [if_pos q, if_pos (by omega)]
      · rw [if_neg q, if_neg (by omega)]
    refine ⟨a, upd (va_cpy sg sg a (a + 1) (n - a)) a 0, upd (va_cpy tk tk a (a + 1) (n - a)) a cg, upd (va_cpy ii ii a (a + 1) (n - a)) a cs, upd (va_cpy ow ow a (a + 1) (n - a)) a 0, upd (va_cpy si si a (a + 1) (n - a)) a 0, ha, hac, hz, ?_, ins_cpy ha (fun i => one sg 0 i), ins_cpy ha (fun i => one tk cg i), ins_cpy ha (fun i => one ii cs i)⟩
    rw [f_X2_insertToken, e, f_X2_insertToken_k6_u_2, e, if_neg (by show ¬ (1 : Int32) = 0; decide), hz]
    show f_X2_insertToken_k17_u_5 _ (f_X2_write _ _ _ _ _ (Int32.ofNat (n + 1)) (Int32.ofNat a) 0 cg cs) = _
    rw [wr_spec _ _ _ _ _ (n + 1) a hac (by omega)]
    rfl
/-- some of them marked with b -/
def Mk (b : Int32) (f f' : Nat → Int32) : Prop := ∀ v, f' v = f v ∨ f' v = f v ||| b
theorem Mk.rf {b : Int32} {f : Nat → Int32} : Mk b f f := fun _ => Or.inl rfl
theorem Mk.tr {b : Int32} {f g h : Nat → Int32} (p : Mk b f g) (q : Mk b g h) : Mk b f h := by
  intro v
  rcases q v with q | q
  · rw [q]; exact p v
  · rcases p v with p | p
    · rw [q, p]; exact Or.inr rfl
    · rw [q, p, Int32.or_assoc, Int32.or_self]; exact Or.inr rfl
theorem Mk.one {b : Int32} {f : Nat → Int32} (s : Nat) : Mk b f (upd f s (f s ||| b)) := by
  intro v
  rw [upd]
  by_cases q : v = s
  · rw [if_pos q, q]; exact Or.inr rfl
  · rw [if_neg q]; exact Or.inl rfl
theorem en_spec (ii : Nat → Int32) (z s b : Int32) : Mk b ii (f_X2_enter ii z s b) := by
  rw [f_X2_enter]
  by_cases c : f_X2_has z s = (0 : Int32)
  · rw [if_pos c]; exact Mk.rf
  · rw [if_neg c]; exact Mk.one _
theorem ent_loop (sp : Nat → Int32) (vz z b c : Int32) : ∀ (d m : Nat) (v : Int32) (ii : Nat → Int32), (b.toInt - v.toInt).toNat ≤ d → d < m → Mk (f_X5_bit c) ii (f_X5_enter_L3 sp vz z b c m v ii) := by
  intro d
  induction d with
  | zero =>
    intro m v ii hv hm
    obtain ⟨m, rfl⟩ : ∃ q, m = q + 1 := ⟨m - 1, by omega⟩
    rw [f_X5_enter_L3, if_pos (Int32.le_iff_toInt_le.mpr (by omega))]
    exact Mk.rf
  | succ d ih =>
    intro m v ii hv hm
    obtain ⟨m, rfl⟩ : ∃ q, m = q + 1 := ⟨m - 1, by omega⟩
    rw [f_X5_enter_L3]
    by_cases c1 : b ≤ v
    · rw [if_pos c1]; exact Mk.rf
    · have t := q_nle c1
      have tb := ti_rng b
      have tv := ti_rng v
      have g : (v + (1 : Int32)).toInt = v.toInt + 1 := ti_add rfl (by omega) (by omega)
      rw [if_neg c1, f_X5_enter_k29_u_7]
      exact (en_spec ii z _ _).tr (ih m _ _ (by rw [g]; omega) (by omega))
theorem ent_spec (sp : Nat → Int32) (vz z a b c : Int32) (ii : Nat → Int32) : Mk (f_X5_bit c) ii (f_X5_enter sp vz ii z a b c) := by
  rw [f_X5_enter]
  have tb := ti_rng b
  have ta := ti_rng a
  exact ent_loop sp vz z b c 4294967296 5000000000 a ii (by omega) (by omega)
theorem etk_loop (tk : Nat → Int32) (z t b : Int32) : ∀ (d m : Nat) (v : Int32) (ii : Nat → Int32), ((240 : Int) - v.toInt).toNat ≤ d → d < m → 0 ≤ v.toInt → Mk b ii (f_X2_enterTokens_L2 tk z t b m v ii) := by
  intro d
  induction d with
  | zero =>
    intro m v ii hv hm _
    obtain ⟨m, rfl⟩ : ∃ q, m = q + 1 := ⟨m - 1, by omega⟩
    rw [f_X2_enterTokens_L2, if_pos (show (240 : Int32) ≤ v from Int32.le_iff_toInt_le.mpr (show (240 : Int) ≤ v.toInt by omega))]
    exact Mk.rf
  | succ d ih =>
    intro m v ii hv hm h0
    obtain ⟨m, rfl⟩ : ∃ q, m = q + 1 := ⟨m - 1, by omega⟩
    rw [f_X2_enterTokens_L2]
    by_cases c1 : (240 : Int32) ≤ v
    · rw [if_pos c1]; exact Mk.rf
    · have t1 : v.toInt < 240 := q_nle c1
      have g : (v + (1 : Int32)).toInt = v.toInt + 1 := ti_add rfl (by omega) (by omega)
      rw [if_neg c1]
      by_cases c2 : f_X2_has z v = (0 : Int32)
      · rw [if_pos c2]; exact Mk.rf
      · rw [if_neg c2]
        by_cases c3 : f_X5_bit (tk v.toNatClampNeg) &&& t = (0 : Int32)
        · rw [if_pos c3]; exact ih m _ _ (by rw [g]; omega) (by omega) (by rw [g]; omega)
        · rw [if_neg c3]; exact (Mk.one _).tr (ih m _ _ (by rw [g]; omega) (by omega) (by rw [g]; omega))
theorem etk_spec (tk ii : Nat → Int32) (z t b : Int32) : Mk b ii (f_X2_enterTokens tk ii z t b) := by
  rw [f_X2_enterTokens]
  exact etk_loop tk z t b 240 241 0 ii (by decide) (by omega) (by decide)
