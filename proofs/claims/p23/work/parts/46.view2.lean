/-- what the VIEW in which the CHANGES cn count shows -/
def VL (kind : Nat → Int32) (k : Nat) (tk ii : Nat → Int32) (n : Nat) (cn : Int32) : List Nat := vl tk ii n cn (mk kind 2 k &&& cn) ((mk kind 0 k &&& (cn ^^^ (-1 : Int32))) ||| (mk kind 1 k &&& cn))
theorem look_spec {kind hand state tk ii : Nat → Int32} {k n : Nat} (hk : k ≤ 24) (hn : n ≤ 240) (U : Uq tk n) (sp ho : Nat → Int32) (v cn : Int32) (hc : f_X1_counting hand state (Int32.ofNat k) v = cn) : ∃ (sp' ho' : Nat → Int32) (hd : Int32), f_X5_lookAt kind hand state (Int32.ofNat k) sp ho tk ii (Int32.ofNat n) v = (sp', ho', Int32.ofNat (VL kind k tk ii n cn).length, cn, hd) ∧ ∀ (i : Nat) (h : i < (VL kind k tk ii n cn).length), sp' i = Int32.ofNat (VL kind k tk ii n cn)[i] := by
  obtain ⟨sp', ho', e, a⟩ := all_spec (tok := tk) (inn := ii) hn U sp ho cn (mk kind 2 k &&& cn) ((mk kind 0 k &&& (cn ^^^ (-1 : Int32))) ||| (mk kind 1 k &&& cn))
  refine ⟨sp', ho', (mk kind 0 k &&& (cn ^^^ (-1 : Int32))) ||| (mk kind 1 k &&& cn), ?_, a⟩
  rw [f_X5_lookAt, kind_mk kind 2 k hk, kind_mk kind 0 k hk, kind_mk kind 1 k hk, hc, e, f_X5_lookAt_k56_u_9]
  rfl
theorem VL_len {kind tk ii : Nat → Int32} {k n : Nat} {cn : Int32} (U : Uq tk n) : (VL kind k tk ii n cn).length ≤ n := vl_len U _ _ _
theorem VL_mem {kind tk ii : Nat → Int32} {k n : Nat} {cn : Int32} {i : Nat} (h : i < (VL kind k tk ii n cn).length) : (VL kind k tk ii n cn)[i] < n ∧ tk (VL kind k tk ii n cn)[i] = 0 := vl_mem (List.getElem_mem h)
theorem spot_in {sp : Nat → Int32} {m p : Nat} (hm : m ≤ 240) (hp : p < m) : f_X4_spotAt sp (Int32.ofNat m) (Int32.ofNat p) = sp p := by
  have c1 : ¬ Int32.ofNat p < (0 : Int32) := fun q => by have t := (on_lt p 0 (by omega) (by omega)).mp q; omega
  have c2 : ¬ Int32.ofNat m ≤ Int32.ofNat p := fun q => by have t := (on_le m p (by omega) (by omega)).mp q; omega
  have c3 : ¬ (240 : Int32) ≤ Int32.ofNat p := fun q => by have t := (on_le 240 p (by omega) (by omega)).mp q; omega
  rw [f_X4_spotAt, if_neg c1, if_neg c2, if_neg c3, on_c p (by omega)]
theorem length_spec {kind hand state tk ii : Nat → Int32} {k n : Nat} (hk : k ≤ 24) (hn : n ≤ 240) (U : Uq tk n) (sp ho : Nat → Int32) (zs zc zh v cn : Int32) (hv : ¬ f_X5_isView v = (0 : Int32)) (hc : f_X1_counting hand state (Int32.ofNat k) v = cn) :
    (f_X5_length kind hand state (Int32.ofNat k) sp ho zs zc zh tk ii (Int32.ofNat n) v).1 = Int32.ofNat (VL kind k tk ii n cn).length := by
  obtain ⟨sp', ho', hd, e, -⟩ := look_spec (kind := kind) (ii := ii) hk hn U sp ho v cn hc
  rw [f_X5_length, if_neg hv, e, f_X5_length_k14_u_4]
theorem told_0 {kind hand state tk ii : Nat → Int32} {k n : Nat} (hk : k ≤ 24) (hn : n ≤ 240) (U : Uq tk n) (look sg ow si sp ho : Nat → Int32) (zs zc zh v cn : Int32) (hv : ¬ f_X5_isView v = (0 : Int32)) (hc : f_X1_counting hand state (Int32.ofNat k) v = cn) (p : Nat) (hp : p < (VL kind k tk ii n cn).length) :
    (f_X5_told kind hand state look (Int32.ofNat k) sp ho zs zc zh sg tk ii ow si (Int32.ofNat n) v (Int32.ofNat p) 0).1 = sg (VL kind k tk ii n cn)[p] := by
  obtain ⟨sp', ho', hd, e, a⟩ := look_spec (kind := kind) (ii := ii) hk hn U sp ho v cn hc
  have hl := VL_len (kind := kind) (ii := ii) (k := k) (cn := cn) U
  obtain ⟨m1, m2⟩ := VL_mem hp
  have s : f_X4_spotAt sp' (Int32.ofNat (VL kind k tk ii n cn).length) (Int32.ofNat p) = Int32.ofNat (VL kind k tk ii n cn)[p] := by rw [spot_in (by omega) hp, a p hp]
  rw [f_X5_told, if_neg hv, if_neg (by decide), if_pos (by decide), e, f_X5_told_k24_u_6]
  dsimp only
  rw [s, has_1 n _ hn m1, if_neg (by decide), if_pos rfl, on_c _ (by omega)]
theorem told_1 {kind hand state tk ii : Nat → Int32} {k n : Nat} (hk : k ≤ 24) (hn : n ≤ 240) (U : Uq tk n) (look sg ow si sp ho : Nat → Int32) (zs zc zh v cn : Int32) (hv : ¬ f_X5_isView v = (0 : Int32)) (hc : f_X1_counting hand state (Int32.ofNat k) v = cn) (p : Nat) (hp : p < (VL kind k tk ii n cn).length) :
    (f_X5_told kind hand state look (Int32.ofNat k) sp ho zs zc zh sg tk ii ow si (Int32.ofNat n) v (Int32.ofNat p) 1).1 = f_X5_lookOf ii ow si kind look (Int32.ofNat k) cn (Int32.ofNat (VL kind k tk ii n cn)[p]) := by
  obtain ⟨sp', ho', hd, e, a⟩ := look_spec (kind := kind) (ii := ii) hk hn U sp ho v cn hc
  have hl := VL_len (kind := kind) (ii := ii) (k := k) (cn := cn) U
  obtain ⟨m1, m2⟩ := VL_mem hp
  have s : f_X4_spotAt sp' (Int32.ofNat (VL kind k tk ii n cn).length) (Int32.ofNat p) = Int32.ofNat (VL kind k tk ii n cn)[p] := by rw [spot_in (by omega) hp, a p hp]
  rw [f_X5_told, if_neg hv, if_neg (by decide), if_pos (by decide), e, f_X5_told_k24_u_6]
  dsimp only
  rw [s, has_1 n _ hn m1, if_neg (by decide), if_neg (by decide), if_pos rfl]
theorem cnt_0 (hand state : Nat → Int32) (gz : Int32) : f_X1_counting hand state gz 0 = 0 := by rw [f_X1_counting, if_neg (by decide)]
theorem cnt_1 (hand state : Nat → Int32) (k : Nat) (hk : k ≤ 24) : f_X1_counting hand state (Int32.ofNat k) 1 = mk state 1 k := by rw [f_X1_counting, if_pos (by decide), if_pos rfl, state_mk state 1 k hk]
theorem cnt_2 (hand state : Nat → Int32) (k : Nat) (hk : k ≤ 24) : f_X1_counting hand state (Int32.ofNat k) 2 = mk state 1 k ||| mk state 0 k := by rw [f_X1_counting, if_pos (by decide), if_neg (by decide), if_pos rfl, state_mk state 1 k hk, state_mk state 0 k hk]
theorem x_not (x : Int32) : x ^^^ (-1 : Int32) = ~~~x := by
  apply Int32.toBitVec_inj.mp
  rw [Int32.toBitVec_xor, Int32.toBitVec_not]
  exact BitVec.xor_allOnes
theorem and_m1 (x : Int32) : x &&& (-1 : Int32) = x := by
  apply Int32.toBitVec_inj.mp
  rw [Int32.toBitVec_and]
  exact BitVec.and_allOnes
theorem fm_filter (p : Nat → Bool) : ∀ l : List Nat, l.flatMap (fun v => if p v = true then [v] else []) = l.filter p
  | [] => rfl
  | a :: l => by
    rw [List.flatMap_cons, List.filter_cons, fm_filter p l]
    by_cases c : p a = true
    · rw [if_pos c, if_pos c]; rfl
    · rw [if_neg c, if_neg c]; rfl
theorem VL_0 (kind tk ii : Nat → Int32) (k n : Nat) : VL kind k tk ii n 0 = (List.range n).filter (pf tk ii (mk kind 0 k)) := by
  have e1 : mk kind 2 k &&& (0 : Int32) = 0 := Int32.and_zero
  have e2 : (mk kind 0 k &&& ((0 : Int32) ^^^ (-1 : Int32))) ||| (mk kind 1 k &&& (0 : Int32)) = mk kind 0 k := by
    rw [show (0 : Int32) ^^^ (-1 : Int32) = (-1 : Int32) from rfl, and_m1, Int32.and_zero, Int32.or_zero]
  rw [VL, e1, e2, vl, gl, ← fm_filter]
  refine fm_congr _ (fun v _ => ?_)
  have h0 : hm ii 0 v = 0 := by rw [hm, Int32.and_zero]; exact lat_0
  rw [gs, if_pos h0, pf]
  by_cases c : tk v = (0 : Int32)
  · rw [if_pos c]
    by_cases c2 : ii v &&& mk kind 0 k = (0 : Int32)
    · rw [if_pos c2, if_pos (by rw [decide_eq_true c, decide_eq_true c2]; rfl)]
    · rw [if_neg c2, if_neg (by rw [decide_eq_true c, decide_eq_false c2]; decide)]
  · rw [if_neg c, if_pos Int32.and_zero, if_neg (by rw [decide_eq_false c, Bool.false_and]; decide)]
/-- THE FIRST TEXT, as it is told -/
theorem first_len {L : List Int32} {k n : Nat} {sg tk ii kind : Nat → Int32} (h : fl sg tk ii (mk kind 0 k) n = L) : (VL kind k tk ii n 0).length = L.length := by
  rw [VL_0, ← h, fl, List.length_map]
theorem first_at {L : List Int32} {k n : Nat} {sg tk ii kind : Nat → Int32} (h : fl sg tk ii (mk kind 0 k) n = L) (p : Nat) (hp : p < (VL kind k tk ii n 0).length) : L[p]? = some (sg (VL kind k tk ii n 0)[p]) := by
  have e : L = (VL kind k tk ii n 0).map sg := by rw [VL_0, ← h, fl]
  rw [e, List.getElem?_map, List.getElem?_eq_getElem hp]; rfl
/-- settling one that is OPEN -/
theorem settle_spec (state : Nat → Int32) (k c : Nat) (hk : k ≤ 24) (h0 : 0 < c) (hc : c ≤ k) (hs : state c = 0) (b : Int32) : f_X5_settle state (Int32.ofNat k) (Int32.ofNat c) b = (1, upd state c (if b = 0 then 2 else 1)) := by
  rw [f_X5_settle, names_1 k c hk h0 hc, if_neg (by decide), on_c c (by omega), if_pos hs]
  by_cases q : b = (0 : Int32)
  · rw [if_pos q, if_pos q]
  · rw [if_neg q, if_neg q]
/-- the set that counts once all are settled with T -/
def cT (T : Int32) (k : Nat) : Int32 := if T = 1 then al k else 0
theorem al_in {state : Nat → Int32} {T : Int32} {k : Nat} (hT : T = 1 ∨ T = 2) (h : ∀ j, 0 < j → j ≤ k → state j = T) : mk state 1 k = cT T k := by
  rcases hT with rfl | rfl
  · rw [cT, if_pos rfl]; exact mk_all k h
  · rw [cT, if_neg (by decide)]; exact mk_none k (fun j a b => by rw [h j a b]; decide)
theorem al_op {state : Nat → Int32} {T : Int32} {k : Nat} (hT : T = 1 ∨ T = 2) (h : ∀ j, 0 < j → j ≤ k → state j = T) : mk state 0 k = 0 := by
  rcases hT with rfl | rfl
  · exact mk_none k (fun j a b => by rw [h j a b]; decide)
  · exact mk_none k (fun j a b => by rw [h j a b]; decide)
/-- before: all OPEN. taken (T = 1): VIEW 2; refused (T = 2): VIEW 1 -/
theorem cnt_bef {hand state : Nat → Int32} {T v : Int32} {k : Nat} (hk : k ≤ 24) (h : ∀ j, 0 < j → j ≤ k → state j = 0) (hT : T = 1 ∧ v = 2 ∨ T = 2 ∧ v = 1) : f_X1_counting hand state (Int32.ofNat k) v = cT T k := by
  have e1 : mk state 1 k = 0 := mk_none k (fun j a b => by rw [h j a b]; decide)
  rcases hT with ⟨rfl, rfl⟩ | ⟨rfl, rfl⟩
  · rw [cnt_2 hand state k hk, e1, cT, if_pos rfl, Int32.zero_or]; exact mk_all k h
  · rw [cnt_1 hand state k hk, e1, cT, if_neg (by decide)]
theorem cnt_aft1 {hand state : Nat → Int32} {T : Int32} {k : Nat} (hk : k ≤ 24) (hT : T = 1 ∨ T = 2) (h : ∀ j, 0 < j → j ≤ k → state j = T) : f_X1_counting hand state (Int32.ofNat k) 1 = cT T k := by
  rw [cnt_1 hand state k hk, al_in hT h]
theorem cnt_aft2 {hand state : Nat → Int32} {T : Int32} {k : Nat} (hk : k ≤ 24) (hT : T = 1 ∨ T = 2) (h : ∀ j, 0 < j → j ≤ k → state j = T) : f_X1_counting hand state (Int32.ofNat k) 2 = cT T k := by
  rw [cnt_2 hand state k hk, al_in hT h, al_op hT h, Int32.or_zero]
