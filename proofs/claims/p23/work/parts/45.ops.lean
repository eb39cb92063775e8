/-- before a call: k CHANGES, all OPEN, and THE ROW -/
def Inv (L : List Int32) (k n : Nat) (sg tk ii kind state : Nat → Int32) : Prop := (∀ j, 0 < j → j ≤ k → state j = 0) ∧ Row sg tk ii n k (mk kind 0 k) L
theorem mk_ne {g : Nat → Int32} {w x : Int32} {k : Nat} (h : ¬ x = w) : mk (upd g (k + 1) x) w (k + 1) = mk g w k := by
  rw [mk, upd, if_pos rfl, if_neg h]
  exact mk_congr k (fun j _ b => by rw [upd, if_neg (by omega)])
theorem mk_eq {g : Nat → Int32} {w : Int32} {k : Nat} : mk (upd g (k + 1) w) w (k + 1) = mk g w k ||| bj (k + 1) := by
  rw [mk, upd, if_pos rfl, if_pos rfl, bj]
  have e : mk (upd g (k + 1) w) w k = mk g w k := mk_congr k (fun j _ b => by rw [upd, if_neg (by omega)])
  rw [← e]
theorem st_up {state : Nat → Int32} {k : Nat} (h : ∀ j, 0 < j → j ≤ k → state j = 0) : ∀ j, 0 < j → j ≤ k + 1 → upd state (k + 1) 0 j = 0 := by
  intro j a b
  rw [upd]
  by_cases q : j = k + 1
  · rw [if_pos q]
  · rw [if_neg q]; exact h j a (by omega)
theorem bj_mk {g : Nat → Int32} {w : Int32} {k : Nat} (hk : k < 24) : bj (k + 1) &&& mk g w k = 0 := by
  rw [Int32.and_comm]; exact mk_hi k (k + 1) (by omega) (by omega)
theorem Inv_mark {L : List Int32} {k n : Nat} {sg tk ii ii' kind state : Nat → Int32} {K : Int32} (hk : k < 24) (hK : ¬ K = 0) (h : Inv L k n sg tk ii kind state) (m : Mk (bj (k + 1)) ii ii') : Inv L (k + 1) n sg tk ii' (upd kind (k + 1) K) (upd state (k + 1) 0) := by
  refine ⟨st_up h.1, ?_⟩
  rw [mk_ne hK]
  exact Row_mark hk (bj_mk hk) h.2 m
theorem ladd (kind hand state look : Nat → Int32) (k : Nat) (hk : k < 24) (K h l : Int32) : f_X1_add kind hand state look (Int32.ofNat k) K h l = (Int32.ofNat (k + 1), upd kind (k + 1) K, upd hand (k + 1) h, upd state (k + 1) 0, upd look (k + 1) l, Int32.ofNat (k + 1)) := by
  have c1 : ¬ Int32.ofNat k < (0 : Int32) := fun q => by have t := (on_lt k 0 (by omega) (by omega)).mp q; omega
  have c2 : Int32.ofNat k < (24 : Int32) := (on_lt k 24 (by omega) (by omega)).mpr hk
  rw [f_X1_add, if_neg c1, if_pos c2, on_s, on_c (k + 1) (by omega)]
theorem nfull (k : Nat) (hk : k < 24) : f_X1_isFull (Int32.ofNat k) = (0 : Int32) := by
  have e : f_X1_room (Int32.ofNat k) = Int32.ofNat (24 - k) := (Int32.ofNat_sub 24 k (by omega)).symm
  rw [f_X1_isFull, e, if_pos (show (1 : Int32) ≤ Int32.ofNat (24 - k) from (on_le 1 (24 - k) (by omega) (by omega)).mpr (by omega))]
theorem mark_res (kind hand state look sp ho tk ii : Nat → Int32) (zs zc zh K h a b l z : Int32) (k : Nat) (hk : k < 24) :
    ∃ u : (Nat → Int32) × (Nat → Int32) × Int32 × Int32 × Int32,
      (∃ x : Int32, (¬ (0 : Int32) < x ∧ ¬ x = (-9 : Int32)) ∧ f_X5_mark kind hand state look (Int32.ofNat k) sp ho zs zc zh tk ii z K h a b l = (x, kind, hand, state, look, Int32.ofNat k, u.1, u.2.1, u.2.2.1, u.2.2.2.1, u.2.2.2.2, ii)) ∨
      ∃ ii' : Nat → Int32, Mk (bj (k + 1)) ii ii' ∧ f_X5_mark kind hand state look (Int32.ofNat k) sp ho zs zc zh tk ii z K h a b l = (Int32.ofNat (k + 1), upd kind (k + 1) K, upd hand (k + 1) h, upd state (k + 1) 0, upd look (k + 1) l, Int32.ofNat (k + 1), u.1, u.2.1, u.2.2.1, u.2.2.2.1, u.2.2.2.2, ii') := by
  rw [f_X5_mark]
  by_cases c1 : f_X5_isHand h = (0 : Int32)
  · rw [if_pos c1]; exact ⟨(sp, ho, zs, zc, zh), Or.inl ⟨_, by decide, rfl⟩⟩
  rw [if_neg c1]
  obtain ⟨u, hu⟩ : ∃ u, u = f_X5_lookAt kind hand state (Int32.ofNat k) sp ho tk ii z ((3 : Int32) + h) := ⟨_, rfl⟩
  rw [← hu]
  refine ⟨u, ?_⟩
  rw [f_X5_mark_k16_u_5]
  by_cases c2 : f_X5_isSpan u.2.2.1 a b = (0 : Int32)
  · rw [if_pos c2]; exact Or.inl ⟨_, by decide, rfl⟩
  rw [if_neg c2, if_pos (nfull k hk), ladd kind hand state look k hk, f_X5_mark_k52_u_14, ladd kind hand state look k hk, f_X5_mark_k63_u_16, ladd kind hand state look k hk]
  exact Or.inr ⟨_, ent_spec u.1 u.2.2.1 z a b (Int32.ofNat (k + 1)) ii, rfl⟩
theorem strike_eq (kind hand state look sp ho tk ii : Nat → Int32) (gz zs zc zh h a b z : Int32) : f_X5_strike kind hand state look gz sp ho zs zc zh tk ii z h a b = f_X5_mark kind hand state look gz sp ho zs zc zh tk ii z 1 h a b 0 := by
  rw [f_X5_strike, f_X5_strike_k9_u_2]
theorem shape_eq (kind hand state look sp ho tk ii : Nat → Int32) (gz zs zc zh h a b l z : Int32) (hl : ¬ f_X5_isLook l = (0 : Int32)) : f_X5_shape kind hand state look gz sp ho zs zc zh tk ii z h a b l = f_X5_mark kind hand state look gz sp ho zs zc zh tk ii z 3 h a b l := by
  rw [f_X5_shape, if_neg hl, f_X5_shape_k20_u_5]
/-- what a call of strike or shape leaves: its answer, the number of CHANGES, and what holds -/
def Res (L : List Int32) (k n : Nat) (x gz : Int32) (sg tk ii kind state : Nat → Int32) : Prop :=
  ((¬ (0 : Int32) < x ∧ ¬ x = (-9 : Int32)) ∧ gz = Int32.ofNat k ∧ Inv L k n sg tk ii kind state) ∨ (x = Int32.ofNat (k + 1) ∧ gz = Int32.ofNat (k + 1) ∧ Inv L (k + 1) n sg tk ii kind state)
theorem mark_inv {L : List Int32} {k n : Nat} {sg tk ii kind state : Nat → Int32} (hk : k < 24) (hi : Inv L k n sg tk ii kind state) (hand look sp ho : Nat → Int32) (zs zc zh K h a b l z : Int32) (hK : ¬ K = 0)
    {r : Int32 × (Nat → Int32) × (Nat → Int32) × (Nat → Int32) × (Nat → Int32) × Int32 × (Nat → Int32) × (Nat → Int32) × Int32 × Int32 × Int32 × (Nat → Int32)} (hr : r = f_X5_mark kind hand state look (Int32.ofNat k) sp ho zs zc zh tk ii z K h a b l) :
    Res L k n r.1 r.2.2.2.2.2.1 sg tk r.2.2.2.2.2.2.2.2.2.2.2 r.2.1 r.2.2.2.1 := by
  obtain ⟨u, ⟨x, hx, e⟩ | ⟨ii', m, e⟩⟩ := mark_res kind hand state look sp ho tk ii zs zc zh K h a b l z k hk
  · rw [hr, e]; exact Or.inl ⟨hx, rfl, hi⟩
  · rw [hr, e]; exact Or.inr ⟨rfl, rfl, Inv_mark hk hK hi m⟩
theorem mb_and {ii kind sp : Nat → Int32} {n : Nat} (hn : n ≤ 240) {b gz vz a : Int32} (h : ∀ v, v < n → ii v &&& b = 0) : f_X5_movesBehind ii (Int32.ofNat n) kind gz sp vz a &&& b = 0 := by
  rw [f_X5_movesBehind]
  by_cases c : f_X2_has (Int32.ofNat n) (f_X4_spotAt sp vz (a - (1 : Int32))) = (0 : Int32)
  · rw [if_pos c, Int32.zero_and]
  · rw [if_neg c]
    obtain ⟨v, hv, e⟩ := has_ex n _ hn c
    rw [e, on_c v (by omega)]
    exact an_an (h v hv)
theorem move_res {L : List Int32} {k n : Nat} {sg tk ii kind state : Nat → Int32} (hk : k < 24) (hn : n ≤ 240) (hi : Inv L k n sg tk ii kind state) (hand look ow si sp ho : Nat → Int32) (zs zc zh h a b c : Int32) :
    ∃ u : (Nat → Int32) × (Nat → Int32) × Int32 × Int32 × Int32,
      (∃ x : Int32, (¬ (0 : Int32) < x ∧ ¬ x = (-9 : Int32)) ∧ f_X5_move kind hand state look (Int32.ofNat k) sp ho zs zc zh sg tk ii ow si (Int32.ofNat n) h a b c = (x, kind, hand, state, look, Int32.ofNat k, u.1, u.2.1, u.2.2.1, u.2.2.2.1, u.2.2.2.2, sg, tk, ii, ow, si, Int32.ofNat n)) ∨
      ∃ (n' : Nat) (sg' tk' ii' ow' si' : Nat → Int32), n ≤ n' ∧ n' ≤ n + 1 ∧ n' ≤ 240 ∧ Row sg' tk' ii' n' (k + 1) (mk kind 0 k) L ∧ f_X5_move kind hand state look (Int32.ofNat k) sp ho zs zc zh sg tk ii ow si (Int32.ofNat n) h a b c = (Int32.ofNat (k + 1), upd kind (k + 1) 2, upd hand (k + 1) h, upd state (k + 1) 0, upd look (k + 1) 0, Int32.ofNat (k + 1), u.1, u.2.1, u.2.2.1, u.2.2.2.1, u.2.2.2.2, sg', tk', ii', ow', si', Int32.ofNat n') := by
  rw [f_X5_move]
  by_cases c1 : f_X5_isHand h = (0 : Int32)
  · rw [if_pos c1]; exact ⟨(sp, ho, zs, zc, zh), Or.inl ⟨_, by decide, rfl⟩⟩
  rw [if_neg c1]
  obtain ⟨u, hu⟩ : ∃ u, u = f_X5_lookAt kind hand state (Int32.ofNat k) sp ho tk ii (Int32.ofNat n) ((3 : Int32) + h) := ⟨_, rfl⟩
  rw [← hu]
  refine ⟨u, ?_⟩
  -- the writing end, the same on both roads
  have fin : ∀ tc : Int32, ∃ (n' : Nat) (sg' tk' ii' ow' si' : Nat → Int32), n ≤ n' ∧ n' ≤ n + 1 ∧ n' ≤ 240 ∧ Row sg' tk' ii' n' (k + 1) (mk kind 0 k) L ∧ f_X2_insertToken sg tk (f_X2_enterTokens tk (f_X5_enter u.1 u.2.2.1 ii (Int32.ofNat n) a b (Int32.ofNat (k + 1))) (Int32.ofNat n) tc (f_X5_bit (Int32.ofNat (k + 1)))) ow si (Int32.ofNat n) (f_X5_spotBehind u.1 u.2.2.1 c) (Int32.ofNat (k + 1)) (f_X5_movesBehind ii (Int32.ofNat n) kind (Int32.ofNat k) u.1 u.2.2.1 c) = (sg', tk', ii', ow', si', Int32.ofNat n') := by
    intro tc
    have m : Mk (bj (k + 1)) ii (f_X2_enterTokens tk (f_X5_enter u.1 u.2.2.1 ii (Int32.ofNat n) a b (Int32.ofNat (k + 1))) (Int32.ofNat n) tc (f_X5_bit (Int32.ofNat (k + 1)))) := (ent_spec u.1 u.2.2.1 (Int32.ofNat n) a b (Int32.ofNat (k + 1)) ii).tr (etk_spec tk _ _ tc _)
    have r1 := Row_mark hk (bj_mk hk) hi.2 m
    obtain ⟨U, hr, hb, -⟩ := hi.2
    rcases it_spec sg tk (f_X2_enterTokens tk (f_X5_enter u.1 u.2.2.1 ii (Int32.ofNat n) a b (Int32.ofNat (k + 1))) (Int32.ofNat n) tc (f_X5_bit (Int32.ofNat (k + 1)))) ow si n hn (f_X5_spotBehind u.1 u.2.2.1 c) (Int32.ofNat (k + 1)) (f_X5_movesBehind ii (Int32.ofNat n) kind (Int32.ofNat k) u.1 u.2.2.1 c) with e | ⟨at_, sg', tk', ii', ow', si', ha, hn1, -, e, i1, i2, i3⟩
    · exact ⟨n, _, _, _, _, _, Nat.le_refl _, by omega, hn, r1, e⟩
    · exact ⟨n + 1, sg', tk', ii', ow', si', by omega, Nat.le_refl _, hn1, Row_token (g := fun _ => 0) hk ha U hr r1 i1 i2 i3 (fun j a1 a2 => mb_and hn (fun v hv => hb v hv j (by omega) a2)), e⟩
  rw [f_X5_move_k16_u_5]
  by_cases c2 : f_X5_isSpan u.2.2.1 a b = (0 : Int32)
  · rw [if_pos c2]; exact Or.inl ⟨_, by decide, rfl⟩
  rw [if_neg c2]
  by_cases c3 : f_X5_isPlace u.2.2.1 c = (0 : Int32)
  · rw [if_pos c3]; exact Or.inl ⟨_, by decide, rfl⟩
  rw [if_neg c3]
  obtain ⟨tc, htc⟩ : ∃ tc, tc = f_X5_tokensCarried tk (Int32.ofNat n) u.1 u.2.1 u.2.2.1 a b := ⟨_, rfl⟩
  rw [← htc]
  obtain ⟨n', sg', tk', ii', ow', si', p1, p2, p3, p4, p5⟩ := fin tc
  by_cases c4 : c ≤ a
  · rw [if_pos c4]
    by_cases c5 : f_X5_reachedFrom tk ii (Int32.ofNat n) (f_X5_movesBehind ii (Int32.ofNat n) kind (Int32.ofNat k) u.1 u.2.2.1 c) &&& tc = (0 : Int32)
    · rw [if_pos c5]
      by_cases c6 : f_X2_room (Int32.ofNat n) < (1 : Int32)
      · rw [if_pos c6]; exact Or.inl ⟨_, by decide, rfl⟩
      rw [if_neg c6, if_pos (nfull k hk), ladd kind hand state look k hk, f_X5_move_k113_u_28, ladd kind hand state look k hk, f_X5_move_k123_u_30, ladd kind hand state look k hk, ← htc, f_X5_move_k137_u_34, ladd kind hand state look k hk, p5, f_X5_move_k154_u_38, ladd kind hand state look k hk]
      exact Or.inr ⟨n', sg', tk', ii', ow', si', p1, p2, p3, p4, rfl⟩
    · rw [if_neg c5]; exact Or.inl ⟨_, by decide, rfl⟩
  rw [if_neg c4]
  by_cases c4' : b ≤ c
  · rw [if_pos c4']
    by_cases c5 : f_X5_reachedFrom tk ii (Int32.ofNat n) (f_X5_movesBehind ii (Int32.ofNat n) kind (Int32.ofNat k) u.1 u.2.2.1 c) &&& tc = (0 : Int32)
    · rw [if_pos c5]
      by_cases c6 : f_X2_room (Int32.ofNat n) < (1 : Int32)
      · rw [if_pos c6]; exact Or.inl ⟨_, by decide, rfl⟩
      rw [if_neg c6, if_pos (nfull k hk), ladd kind hand state look k hk, f_X5_move_k113_u_55, ladd kind hand state look k hk, f_X5_move_k123_u_57, ladd kind hand state look k hk, ← htc, f_X5_move_k137_u_61, ladd kind hand state look k hk, p5, f_X5_move_k154_u_65, ladd kind hand state look k hk]
      exact Or.inr ⟨n', sg', tk', ii', ow', si', p1, p2, p3, p4, rfl⟩
    · rw [if_neg c5]; exact Or.inl ⟨_, by decide, rfl⟩
  · rw [if_neg c4']; exact Or.inl ⟨_, by decide, rfl⟩
theorem put_res {L : List Int32} {k n zt : Nat} {sg tk ii kind state : Nat → Int32} (hk : k < 24) (hn : n ≤ 240) (hz : zt ≤ 120) (hi : Inv L k n sg tk ii kind state) (hand look ow si sp ho by_ : Nat → Int32) (zs zc zh h a : Int32) :
    ∃ u : (Nat → Int32) × (Nat → Int32) × Int32 × Int32 × Int32,
      (∃ x : Int32, (¬ (0 : Int32) < x ∧ ¬ x = (-9 : Int32)) ∧ f_X5_put sg tk ii ow si (Int32.ofNat n) kind hand state look (Int32.ofNat k) sp ho zs zc zh by_ (Int32.ofNat zt) h a = (x, sg, tk, ii, ow, si, Int32.ofNat n, kind, hand, state, look, Int32.ofNat k, u.1, u.2.1, u.2.2.1, u.2.2.2.1, u.2.2.2.2, Int32.ofNat zt)) ∨
      ∃ (n' : Nat) (sg' tk' ii' ow' si' : Nat → Int32), n ≤ n' ∧ n' ≤ n + zt ∧ n' ≤ 240 ∧ Row sg' tk' ii' n' (k + 1) (mk kind 0 k ||| bj (k + 1)) L ∧ f_X5_put sg tk ii ow si (Int32.ofNat n) kind hand state look (Int32.ofNat k) sp ho zs zc zh by_ (Int32.ofNat zt) h a = (Int32.ofNat (k + 1), sg', tk', ii', ow', si', Int32.ofNat n', upd kind (k + 1) 0, upd hand (k + 1) h, upd state (k + 1) 0, upd look (k + 1) 0, Int32.ofNat (k + 1), u.1, u.2.1, u.2.2.1, u.2.2.2.1, u.2.2.2.2, 0) := by
  rw [f_X5_put]
  by_cases c1 : f_X5_isHand h = (0 : Int32)
  · rw [if_pos c1]; exact ⟨(sp, ho, zs, zc, zh), Or.inl ⟨_, by decide, rfl⟩⟩
  rw [if_neg c1]
  obtain ⟨u, hu⟩ : ∃ u, u = f_X5_lookAt kind hand state (Int32.ofNat k) sp ho tk ii (Int32.ofNat n) ((3 : Int32) + h) := ⟨_, rfl⟩
  rw [← hu]
  refine ⟨u, ?_⟩
  rw [f_X5_put_k16_u_5]
  by_cases c2 : f_X5_isPlace u.2.2.1 a = (0 : Int32)
  · rw [if_pos c2]; exact Or.inl ⟨_, by decide, rfl⟩
  rw [if_neg c2]
  by_cases c3 : Int32.ofNat zt = (0 : Int32)
  · rw [if_pos c3]; exact Or.inl ⟨_, by decide, rfl⟩
  rw [if_neg c3]
  by_cases c4 : f_X2_room (Int32.ofNat n) < Int32.ofNat zt
  · rw [if_pos c4]; exact Or.inl ⟨_, by decide, rfl⟩
  rw [if_neg c4, if_pos (nfull k hk), ladd kind hand state look k hk, f_X5_put_k79_u_18, ladd kind hand state look k hk, f_X5_putBehind]
  obtain ⟨U, hr, hb, -⟩ := id hi.2
  have e2 : mk (upd kind (k + 1) 0) 0 (k + 1) = mk kind 0 k ||| bj (k + 1) := mk_eq
  rcases il_spec sg tk ii ow si by_ n hn zt (by omega) (f_X5_spotBehind u.1 u.2.2.1 a) (f_X5_movesBehind ii (Int32.ofNat n) (upd kind (k + 1) 0) (Int32.ofNat (k + 1)) u.1 u.2.2.1 a ||| f_X5_bit (Int32.ofNat (k + 1))) with e | ⟨at_, sg', tk', ii', ow', si', ha, hn1, -, e, i1, i2, i3⟩
  · rw [e, f_X5_putBehind_k29_u_7, f_X5_put_k94_u_20, ladd kind hand state look k hk]
    exact Or.inr ⟨n, sg, tk, ii, ow, si, Nat.le_refl _, by omega, hn, Row_put0 hk hi.2, rfl⟩
  · rw [e, f_X5_putBehind_k29_u_7, f_X5_put_k94_u_20, ladd kind hand state look k hk]
    exact Or.inr ⟨n + zt, sg', tk', ii', ow', si', by omega, Nat.le_refl _, hn1, Row_put hk ha (bj_mk hk) hi.2 (fun j a1 a2 => mb_and hn (fun v hv => hb v hv j a1 a2)) i1 i2 i3, rfl⟩
