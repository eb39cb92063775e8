theorem first_told {kind tk ii sg zf : Nat → Int32} {k n n0 : Nat} (hk : k ≤ 24) (hn : n ≤ 240) (U : Uq tk n) (hF : fl sg tk ii (mk kind 0 k) n = (List.range n0).map zf) (q : Nat) (hq : q < n0) (hand state look ow si sp ho : Nat → Int32) (zs zc zh : Int32) :
    (f_X5_told kind hand state look (Int32.ofNat k) sp ho zs zc zh sg tk ii ow si (Int32.ofNat n) 0 (Int32.ofNat q) 0).1 = zf q := by
  have hl : (VL kind k tk ii n 0).length = n0 := by rw [first_len hF, List.length_map, List.length_range]
  have hp : q < (VL kind k tk ii n 0).length := by rw [hl]; exact hq
  rw [told_0 hk hn U look sg ow si sp ho zs zc zh 0 0 (by decide) (cnt_0 _ _ _) q hp]
  have t := first_at hF q hp
  rw [List.getElem?_map, List.getElem?_range hq] at t
  exact (Option.some.inj t).symm
theorem clean_cor {kind state tk ii : Nat → Int32} {T : Int32} {k n : Nat} (hk : k ≤ 24) (hn : n ≤ 240) (U : Uq tk n) (hT : T = 1 ∨ T = 2) (h : ∀ j, 0 < j → j ≤ k → state j = T) {look sg ow si sp ho wsg wtk wii wow wsi : Nat → Int32} {zs zc zh wz : Int32}
    {r : Int32 × (Nat → Int32) × (Nat → Int32) × Int32 × Int32 × Int32 × (Nat → Int32) × (Nat → Int32) × (Nat → Int32) × (Nat → Int32) × (Nat → Int32) × Int32 × (Nat → Int32) × (Nat → Int32) × (Nat → Int32) × (Nat → Int32) × (Nat → Int32) × Int32}
    (hr : r = f_X5_clean kind state look (Int32.ofNat k) sp ho zs zc zh sg tk ii ow si (Int32.ofNat n) wsg wtk wii wow wsi wz) :
    r.1 = Int32.ofNat (VL kind k tk ii n (cT T k)).length ∧ r.2.2.2.2.2.2.2.2.2.2.2.1 = Int32.ofNat (VL kind k tk ii n (cT T k)).length ∧ (∀ i, i < (VL kind k tk ii n (cT T k)).length → r.2.2.2.2.2.2.2.1 i = 0) ∧ ∀ i, i < (VL kind k tk ii n (cT T k)).length → r.2.2.2.2.2.2.2.2.1 i = 0 := by
  obtain ⟨y1, y2, y3, y4, y5, y6, y7, y8, y9, y10, y11, y12, x1, x2, x3, x4, e, r1, r2⟩ := clean_spec hk hn U hT h look sg ow si sp ho wsg wtk wii wow wsi zs zc zh wz
  rw [hr, e]; exact ⟨rfl, rfl, r1, r2⟩
theorem length_le {kind hand state tk ii : Nat → Int32} {k n : Nat} (hk : k ≤ 24) (hn : n ≤ 240) (U : Uq tk n) (sp ho : Nat → Int32) (zs zc zh v : Int32) (hv : ¬ f_X5_isView v = (0 : Int32)) :
    ∃ z : Nat, z ≤ n ∧ (f_X5_length kind hand state (Int32.ofNat k) sp ho zs zc zh tk ii (Int32.ofNat n) v).1 = Int32.ofNat z :=
  ⟨_, VL_len U, length_spec hk hn U sp ho zs zc zh v _ hv rfl⟩
theorem iv3 : ∀ y : Nat, y < 3 → ¬ f_X5_isView ((3 : Int32) + Int32.ofNat y) = (0 : Int32) := by decide
theorem il7 : ∀ y : Nat, y < 7 → ¬ f_X5_isLook ((1 : Int32) + Int32.ofNat y) = (0 : Int32) := by decide
theorem begin_cor {L : Nat} {xs by_ sg tk ii ow si zf : Nat → Int32} (kind state : Nat → Int32) {rz gz f : Int32} {n0 : Nat} (hn : n0 ≤ 12)
    {r : Int32 × (Nat → Int32) × Int32 × (Nat → Int32) × (Nat → Int32) × (Nat → Int32) × (Nat → Int32) × (Nat → Int32) × Int32 × Int32 × (Nat → Int32)} (hr : r = f_L_begin L xs by_ 0 sg tk ii ow si rz gz zf f (Int32.ofNat n0)) :
    r.1 = 1 ∧ r.2.2.1 = Int32.ofNat 0 ∧ r.2.2.2.2.2.2.2.2.1 = Int32.ofNat n0 ∧ r.2.2.2.2.2.2.2.2.2.1 = Int32.ofNat 0 ∧ Inv ((List.range n0).map r.2.2.2.2.2.2.2.2.2.2) 0 n0 r.2.2.2.1 r.2.2.2.2.1 r.2.2.2.2.2.1 kind state := by
  obtain ⟨b', s', t', i', o', w', z', e, h⟩ := begin_res L xs by_ sg tk ii ow si zf kind state rz gz f n0 hn
  rw [hr, e]; exact ⟨rfl, rfl, rfl, rfl, h⟩
