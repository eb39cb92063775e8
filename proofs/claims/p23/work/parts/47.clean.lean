theorem mr_ok (sg tk ii ow si : Nat → Int32) (n a c : Nat) (hn : n + c ≤ 240) (ha : a ≤ n) : f_X2_makeRoom sg tk ii ow si (Int32.ofNat n) (Int32.ofNat a) (Int32.ofNat c) = (1, va_cpy sg sg a (a + c) (n - a), va_cpy tk tk a (a + c) (n - a), va_cpy ii ii a (a + c) (n - a), va_cpy ow ow a (a + c) (n - a), va_cpy si si a (a + c) (n - a), Int32.ofNat (n + c)) := by
  have c1 : ¬ Int32.ofNat n < (0 : Int32) := fun q => by have t := (on_lt n 0 (by omega) (by omega)).mp q; omega
  have c2 : ¬ Int32.ofNat a < (0 : Int32) := fun q => by have t := (on_lt a 0 (by omega) (by omega)).mp q; omega
  have c3 : ¬ Int32.ofNat n < Int32.ofNat a := fun q => by have t := (on_lt n a (by omega) (by omega)).mp q; omega
  have c4 : ¬ Int32.ofNat c < (0 : Int32) := fun q => by have t := (on_lt c 0 (by omega) (by omega)).mp q; omega
  have c5 : Int32.ofNat c ≤ Int32.ofNat (240 - n) := (on_le c (240 - n) (by omega) (by omega)).mpr (by omega)
  rw [f_X2_makeRoom, if_neg c1, if_neg c2, if_neg c3, if_neg c4, room_on n (by omega), if_pos c5, on_c a (by omega), ← Int32.ofNat_add, on_c (a + c) (by omega), ← Int32.ofNat_sub n a ha, on_c (n - a) (by omega), ← Int32.ofNat_add]
theorem cpy_0 (f : Nat → Int32) (a b : Nat) : va_cpy f f a b 0 = f := funext fun i => by rw [va_cpy, if_neg (by omega)]
theorem af_spec (sg tk ii ow si osg otk oii oow osi : Nat → Int32) (p n s : Nat) (hp : p < 240) (hn : n ≤ 240) (hs : s < n) (cs : Int32) : ∃ sg' ow' si' : Nat → Int32, f_X2_addFrom sg tk ii ow si (Int32.ofNat p) osg otk oii oow osi (Int32.ofNat n) (Int32.ofNat s) cs = (sg', upd tk p (otk s), upd ii p (oii s &&& cs), ow', si', Int32.ofNat (p + 1)) := by
  have e : f_X2_makeRoom sg tk ii ow si (Int32.ofNat p) (Int32.ofNat p) 1 = (1, sg, tk, ii, ow, si, Int32.ofNat (p + 1)) := by
    refine (mr_ok sg tk ii ow si p p 1 (by omega) (Nat.le_refl _)).trans ?_
    rw [Nat.sub_self, cpy_0, cpy_0, cpy_0, cpy_0, cpy_0]
  have e1 : Int32.ofNat (p + 1) - 1 = Int32.ofNat p := (Int32.ofNat_sub (p + 1) 1 (by omega)).symm
  refine ⟨upd sg p (osg s), upd (upd ow p 0) p (oow s), upd (upd si p 0) p (osi s), ?_⟩
  rw [f_X2_addFrom, has_1 n s hn hs, if_neg (by decide), e, f_X2_addFrom_k17_u_8, e, if_neg (by show ¬ (1 : Int32) = 0; decide)]
  dsimp only
  rw [e1, on_c s (by omega), wr_spec sg tk ii ow si (p + 1) p (by omega) (by omega), f_X2_addFrom_k55_u_12]
  dsimp only
  rw [e1, on_c p (by omega), on_c s (by omega)]
theorem up_all {tk : Nat → Int32} {v : Nat} {x : Int32} (h : ∀ i, i < v → tk i = 0) (hx : x = 0) : ∀ i, i < v + 1 → upd tk v x i = 0 := by
  intro i hi
  rw [upd]
  by_cases q : i = v
  · rw [if_pos q, hx]
  · rw [if_neg q]; exact h i (by omega)
theorem ta_loop (osg otk oii oow osi : Nat → Int32) (m : Nat) (hm : m ≤ 240) (ho1 : ∀ i, i < m → otk i = 0) (ho2 : ∀ i, i < m → oii i = 0) : ∀ (d v q : Nat) (sg tk ii ow si : Nat → Int32), v + d = m → d < q → (∀ i, i < v → tk i = 0) → (∀ i, i < v → ii i = 0) →
    ∃ sg' tk' ii' ow' si' : Nat → Int32, f_X2_takeAll_L7 osg otk oii oow osi (Int32.ofNat m) q (Int32.ofNat v) sg tk ii ow si (Int32.ofNat v) = (sg', tk', ii', ow', si', Int32.ofNat m) ∧ (∀ i, i < m → tk' i = 0) ∧ ∀ i, i < m → ii' i = 0 := by
  intro d
  induction d with
  | zero =>
    intro v q sg tk ii ow si hv hq h1 h2
    obtain ⟨q, rfl⟩ : ∃ j, q = j + 1 := ⟨q - 1, by omega⟩
    obtain rfl : v = m := by omega
    refine ⟨sg, tk, ii, ow, si, ?_, h1, h2⟩
    rw [f_X2_takeAll_L7]
    by_cases c : (240 : Int32) ≤ Int32.ofNat v
    · rw [if_pos c]
    · rw [if_neg c, if_pos (has_0 v v hm (by omega) (Nat.le_refl _))]
  | succ d ih =>
    intro v q sg tk ii ow si hv hq h1 h2
    obtain ⟨q, rfl⟩ : ∃ j, q = j + 1 := ⟨q - 1, by omega⟩
    have c : ¬ (240 : Int32) ≤ Int32.ofNat v := fun t => by have u := (on_le 240 v (by omega) (by omega)).mp t; omega
    obtain ⟨sg1, ow1, si1, e⟩ := af_spec sg tk ii ow si osg otk oii oow osi v m v (by omega) hm (by omega) (-1)
    obtain ⟨sg', tk', ii', ow', si', e2, a, b⟩ := ih (v + 1) q sg1 (upd tk v (otk v)) (upd ii v (oii v &&& (-1 : Int32))) ow1 si1 (by omega) (by omega) (up_all h1 (ho1 v (by omega))) (up_all h2 (by rw [ho2 v (by omega)]; rfl))
    refine ⟨sg', tk', ii', ow', si', ?_, a, b⟩
    rw [f_X2_takeAll_L7, if_neg c, has_1 m v hm (by omega), if_neg (by decide), e, f_X2_takeAll_k29_u_9, on_s]
    exact e2
theorem cl_loop (kind state look sg tk ii sp ho : Nat → Int32) (gz cn hd : Int32) (n m : Nat) (hn : n ≤ 240) (hm : m ≤ 240) (hsp : ∀ i, i < m → ∃ s, s < n ∧ sp i = Int32.ofNat s ∧ tk s = 0) (h0 : f_X1_inState state gz 0 = 0) :
    ∀ (d p q : Nat) (ow si wsg wtk wii wow wsi : Nat → Int32), p + d = m → d < q → (∀ i, i < p → wtk i = 0) → (∀ i, i < p → wii i = 0) →
    ∃ sg' tk' ii' ow' si' wsg' wtk' wii' wow' wsi' : Nat → Int32, ∃ wz : Int32, f_X5_clean_L98 kind state look gz sg tk ii (Int32.ofNat n) (sp, ho, Int32.ofNat m, cn, hd) q (Int32.ofNat p) ow si wsg wtk wii wow wsi (Int32.ofNat p) = (Int32.ofNat m, sp, ho, Int32.ofNat m, cn, hd, sg', tk', ii', ow', si', Int32.ofNat m, wsg', wtk', wii', wow', wsi', wz) ∧ (∀ i, i < m → tk' i = 0) ∧ ∀ i, i < m → ii' i = 0 := by
  intro d
  induction d with
  | zero =>
    intro p q ow si wsg wtk wii wow wsi hp hq h1 h2
    obtain ⟨q, rfl⟩ : ∃ j, q = j + 1 := ⟨q - 1, by omega⟩
    obtain rfl : p = m := by omega
    obtain ⟨sg', tk', ii', ow', si', e, a, b⟩ := ta_loop wsg wtk wii wow wsi p hm h1 h2 p 0 241 sg tk ii ow si (by omega) (by omega) (fun i hi => absurd hi (Nat.not_lt_zero i)) (fun i hi => absurd hi (Nat.not_lt_zero i))
    have e3 : f_X2_takeAll sg tk ii ow si wsg wtk wii wow wsi (Int32.ofNat p) = (sg', tk', ii', ow', si', Int32.ofNat p) := by rw [f_X2_takeAll]; exact e
    refine ⟨sg', tk', ii', ow', si', wsg, wtk, wii, wow, wsi, Int32.ofNat p, ?_, a, b⟩
    rw [f_X5_clean_L98, if_pos ((on_le p p (by omega) (by omega)).mpr (Nat.le_refl _)), e3, f_X5_clean_k159_u_18]
  | succ d ih =>
    intro p q ow si wsg wtk wii wow wsi hp hq h1 h2
    obtain ⟨q, rfl⟩ : ∃ j, q = j + 1 := ⟨q - 1, by omega⟩
    have c : ¬ Int32.ofNat m ≤ Int32.ofNat p := fun t => by have u := (on_le m p (by omega) (by omega)).mp t; omega
    obtain ⟨s, hs, es, ts⟩ := hsp p (by omega)
    have sa : f_X4_spotAt sp (Int32.ofNat m) (Int32.ofNat p) = Int32.ofNat s := by rw [spot_in hm (by omega), es]
    rw [f_X5_clean_L98]
    dsimp only
    rw [if_neg c, sa]
    obtain ⟨w, hw⟩ : ∃ w, w = f_X5_wearTaken ii ow si (Int32.ofNat n) kind look gz (Int32.ofNat s) (f_X1_inState state gz 1) := ⟨_, rfl⟩
    rw [← hw, f_X5_clean_k128_u_22]
    dsimp only
    rw [sa, h0]
    obtain ⟨sg1, ow1, si1, e⟩ := af_spec wsg wtk wii wow wsi sg tk ii w.1 w.2 p n s (by omega) hn hs 0
    rw [e, f_X5_clean_k142_u_24, on_s]
    exact ih (p + 1) q w.1 w.2 sg1 (upd wtk p (tk s)) (upd wii p (ii s &&& 0)) ow1 si1 (by omega) (by omega) (up_all h1 ts) (up_all h2 Int32.and_zero)
theorem hid_eq {kind state : Nat → Int32} {T : Int32} {k : Nat} (hk : k ≤ 24) (hT : T = 1 ∨ T = 2) (h : ∀ j, 0 < j → j ≤ k → state j = T) : mk kind 0 k &&& mk state 2 k = mk kind 0 k &&& (cT T k ^^^ (-1 : Int32)) := by
  rcases hT with rfl | rfl
  · have e : mk state 2 k = 0 := mk_none k (fun j a b => by rw [h j a b]; decide)
    rw [e, Int32.and_zero, cT, if_pos rfl, x_not, ← mk_sub (g := kind) (w := 0) k (by omega), Int32.and_assoc, Int32.and_not_self, Int32.and_zero]
  · have e : mk state 2 k = al k := mk_all k h
    rw [e, mk_sub k (by omega), cT, if_neg (by decide), show (0 : Int32) ^^^ (-1 : Int32) = (-1 : Int32) from rfl, and_m1]
theorem clean_spec {kind state tk ii : Nat → Int32} {T : Int32} {k n : Nat} (hk : k ≤ 24) (hn : n ≤ 240) (U : Uq tk n) (hT : T = 1 ∨ T = 2) (h : ∀ j, 0 < j → j ≤ k → state j = T) (look sg ow si sp ho wsg wtk wii wow wsi : Nat → Int32) (zs zc zh wz : Int32) :
    ∃ sp' ho' sg' tk' ii' ow' si' wsg' wtk' wii' wow' wsi' : Nat → Int32, ∃ zs' zc' zh' wz' : Int32, f_X5_clean kind state look (Int32.ofNat k) sp ho zs zc zh sg tk ii ow si (Int32.ofNat n) wsg wtk wii wow wsi wz = (Int32.ofNat (VL kind k tk ii n (cT T k)).length, sp', ho', zs', zc', zh', sg', tk', ii', ow', si', Int32.ofNat (VL kind k tk ii n (cT T k)).length, wsg', wtk', wii', wow', wsi', wz') ∧ (∀ i, i < (VL kind k tk ii n (cT T k)).length → tk' i = 0) ∧ ∀ i, i < (VL kind k tk ii n (cT T k)).length → ii' i = 0 := by
  have h0 : f_X1_inState state (Int32.ofNat k) 0 = 0 := by rw [state_mk state 0 k hk, al_op hT h]
  obtain ⟨sp', ho', e, a⟩ := all_spec (tok := tk) (inn := ii) hn U sp ho (cT T k) (mk kind 2 k &&& cT T k) ((mk kind 0 k &&& (cT T k ^^^ (-1 : Int32))) ||| (mk kind 1 k &&& cT T k))
  have hl : (VL kind k tk ii n (cT T k)).length ≤ n := VL_len U
  obtain ⟨sg', tk', ii', ow', si', wsg', wtk', wii', wow', wsi', wz', e2, r1, r2⟩ := cl_loop kind state look sg tk ii sp' ho' (Int32.ofNat k) (cT T k) ((mk kind 0 k &&& (cT T k ^^^ (-1 : Int32))) ||| (mk kind 1 k &&& cT T k)) n (VL kind k tk ii n (cT T k)).length hn (by omega) (fun i hi => ⟨_, (VL_mem hi).1, a i hi, (VL_mem hi).2⟩) h0 (VL kind k tk ii n (cT T k)).length 0 5000000000 ow si wsg wtk wii wow wsi (by omega) (by omega) (fun i hi => absurd hi (Nat.not_lt_zero i)) (fun i hi => absurd hi (Nat.not_lt_zero i))
  refine ⟨sp', ho', sg', tk', ii', ow', si', wsg', wtk', wii', wow', wsi', Int32.ofNat (VL kind k tk ii n (cT T k)).length, cT T k, (mk kind 0 k &&& (cT T k ^^^ (-1 : Int32))) ||| (mk kind 1 k &&& cT T k), wz', ?_, r1, r2⟩
  have g : f_X4_gatherAll sp ho tk ii (Int32.ofNat n) (f_X1_inState state (Int32.ofNat k) 1) ((f_X1_inState state (Int32.ofNat k) 1) &&& (f_X1_ofKind kind (Int32.ofNat k) 2)) (((f_X1_ofKind kind (Int32.ofNat k) 0) &&& (f_X1_inState state (Int32.ofNat k) 2)) ||| ((f_X1_ofKind kind (Int32.ofNat k) 1) &&& (f_X1_inState state (Int32.ofNat k) 1))) = (sp', ho', Int32.ofNat (VL kind k tk ii n (cT T k)).length, cT T k, (mk kind 0 k &&& (cT T k ^^^ (-1 : Int32))) ||| (mk kind 1 k &&& cT T k)) := by
    rw [state_mk state 1 k hk, state_mk state 2 k hk, kind_mk kind 0 k hk, kind_mk kind 1 k hk, kind_mk kind 2 k hk, al_in hT h, hid_eq hk hT h, Int32.and_comm (cT T k) (mk kind 2 k), e]; rfl
  rw [f_X5_clean, if_pos (by rw [h0, Int32.zero_and]), g, f_X5_clean_k87_u_14]
  exact e2
/-- CLEANED, FIRST is what is left -/
theorem after_clean {kind tk ii : Nat → Int32} {k m : Nat} (h1 : ∀ i, i < m → tk i = 0) (h2 : ∀ i, i < m → ii i = 0) : Uq tk m ∧ (VL kind k tk ii m 0).length = m := by
  refine ⟨fun v w hv _ z _ => absurd (h1 v hv) z, ?_⟩
  have e : (List.range m).filter (pf tk ii (mk kind 0 k)) = List.range m := List.filter_eq_self.mpr (fun v hv => by
    have hv := List.mem_range.mp hv
    rw [pf, h1 v hv, h2 v hv, Int32.zero_and]; decide)
  rw [VL_0, e, List.length_range]
theorem op_0 {state : Nat → Int32} {T : Int32} {k : Nat} (hk : k ≤ 24) (hT : T = 1 ∨ T = 2) (h : ∀ j, 0 < j → j ≤ k → state j = T) (tk : Nat → Int32) (z tz : Int32) : f_X5_count tk z state (Int32.ofNat k) tz 3 = 0 := by
  rw [f_X5_count, if_neg (by decide), if_neg (by decide), if_neg (by decide), if_pos rfl, state_mk state 0 k hk, al_op hT h]
  decide +kernel
theorem co_0 {kind hand state look tk ii : Nat → Int32} {z a b : Int32} (h : ¬ state a.toNatClampNeg = 0) : f_X5_clashOf kind hand state look tk ii z a b = 0 := by rw [f_X5_clashOf, if_neg h]
theorem cs_in (kind hand state look tk ii : Nat → Int32) (z : Int32) (k a : Nat) (hk : k ≤ 24) (ha : ¬ state a = 0) (ha2 : a ≤ 24) (K : Int32 → Int32 → Int32) : ∀ (d b q : Nat), b + d = 26 → 0 < b → d < q → f_X5_clashes_L25 kind hand state look (Int32.ofNat k) tk ii z (Int32.ofNat a) K q 0 (Int32.ofNat b) = K 0 (Int32.ofNat a + 1) := by
  intro d
  induction d with
  | zero =>
    intro b q hb _ hq
    obtain ⟨q, rfl⟩ : ∃ j, q = j + 1 := ⟨q - 1, by omega⟩
    rw [f_X5_clashes_L25, if_pos (show (24 : Int32) < Int32.ofNat b from (on_lt 24 b (by omega) (by omega)).mpr (by omega))]
  | succ d ih =>
    intro b q hb h0 hq
    obtain ⟨q, rfl⟩ : ∃ j, q = j + 1 := ⟨q - 1, by omega⟩
    rw [f_X5_clashes_L25]
    by_cases c1 : (24 : Int32) < Int32.ofNat b
    · rw [if_pos c1]
    rw [if_neg c1]
    by_cases c2 : f_X1_names (Int32.ofNat k) (Int32.ofNat b) = (0 : Int32)
    · rw [if_pos c2]
    rw [if_neg c2, if_pos (co_0 (by rw [on_c a (by omega)]; exact ha)), on_s]
    exact ih (b + 1) q (by omega) (by omega) (by omega)
theorem clash_0 {kind hand state look tk ii : Nat → Int32} {z T : Int32} {k : Nat} (hk : k ≤ 24) (hT : T = 1 ∨ T = 2) (h : ∀ j, 0 < j → j ≤ k → state j = T) : f_X5_clashes kind hand state look (Int32.ofNat k) tk ii z = 0 := by
  have nz : ∀ j, 0 < j → j ≤ k → ¬ state j = 0 := fun j a b => by rw [h j a b]; rcases hT with rfl | rfl <;> decide
  have lp : ∀ (d a q : Nat), a + d = 25 → 0 < a → d < q → f_X5_clashes_L4 kind hand state look (Int32.ofNat k) tk ii z q 0 (Int32.ofNat a) = 0 := by
    intro d
    induction d with
    | zero =>
      intro a q ha _ hq
      obtain ⟨q, rfl⟩ : ∃ j, q = j + 1 := ⟨q - 1, by omega⟩
      rw [f_X5_clashes_L4, if_pos (show (24 : Int32) < Int32.ofNat a from (on_lt 24 a (by omega) (by omega)).mpr (by omega))]
    | succ d ih =>
      intro a q ha h0 hq
      obtain ⟨q, rfl⟩ : ∃ j, q = j + 1 := ⟨q - 1, by omega⟩
      rw [f_X5_clashes_L4]
      by_cases c1 : (24 : Int32) < Int32.ofNat a
      · rw [if_pos c1]
      rw [if_neg c1]
      by_cases c3 : a ≤ k
      · rw [names_1 k a hk h0 c3, if_neg (by decide), on_s, cs_in kind hand state look tk ii z k a hk (nz a h0 c3) (by omega) _ (25 - a) (a + 1) 26 (by omega) (by omega) (by omega), on_s]
        exact ih (a + 1) q (by omega) (by omega) (by omega)
      · rw [names_0 k a hk h0 (by omega) (by omega), if_pos rfl]
  rw [f_X5_clashes]
  exact lp 24 1 26 (by omega) (by omega) (by omega)
