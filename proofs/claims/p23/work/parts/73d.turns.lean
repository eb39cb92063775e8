set_option maxHeartbeats 4000000 in
set_option maxRecDepth 100000 in
theorem law_54 {p : Program} {e : Env} {s : State} {m : MethodId} {below : List Frame} {meth : Method} {c : Code} (l : Launch) {b L : Nat} {xs : Nat → Int32} (hL : L ≤ 260) (C0 : lw_At p s m meth c b L xs) {dC : Nat → ClassId} {dI : Nat → Nat → Nat} {cI cJ : ClassId} (hK : va_K (dC, dI) vwCl [(cI, .int), (cJ, .long)] s) (hN : NW s) {A : Nat → Prop} (hAe : A = fun q : Nat => s.heap.size ≤ q) {zd zt azt_bytes zr azr_sign azr_token azr_in azr_own azr_since zw azw_sign azw_token azw_in azw_own azw_since zg azg_kind azg_hand azg_state azg_look zv azv_spots azv_homes zk azk_now azk_typed azk_strikesNext azk_most zf : Nat} {n0 : Nat} (hn0 : n0 ≤ 12) {w : Int32} {zf_a : Nat → Int32} : ∀ (d t : Nat), t + d = 11 → LT54 p l e s m below meth c b dC dI cI cJ A zd zt azt_bytes zr azr_sign azr_token azr_in azr_own azr_since zw azw_sign azw_token azw_in azw_own azw_since zg azg_kind azg_hand azg_state azg_look zv azv_spots azv_homes zk azk_now azk_typed azk_strikesNext azk_most zf n0 w zf_a t := by
  obtain ⟨hx, hb, hr, hml, hown, hts, hX, hbl, hlocks, hgv⟩ := id C0
  have hA : ∀ q : Nat, s.heap.size ≤ q → A q := fun q h => by rw [hAe]; exact h
  have hbA : ¬ A b := by rw [hAe]; exact Nat.not_le.mpr hbl
  intro d
  induction d with
  | zero =>
    intro t ht
    obtain rfl : t = 11 := by omega
    intro k n zt_n zt_bytes zr_sign zr_token zr_in zr_own zr_since zg_kind zg_hand zg_state zg_look zv_spots zv_homes zv_size zv_counts zv_hides H locs ls hk hz hi hP hD hS hl
    refine lv_iload hx hb dL_law_54 (lv_at hl 6 rfl) ?_
    refine lv_bipush (v := (11 : Int32)) hx hb dL_law_56 (by decide) ?_
    refine lv_icmp_ge (tgt := 290) hx hb dL_law_58 (by decide) (fun c_26 => ?_) (fun c_26 => ?_)
    · exact law_290 l hL C0 hK hN hAe (by omega) (by omega) hn0 hi.2.1 hi.2.2.2.2 hi.1 hP hD hS ls (lv_sub hl [0, 1, 2, 3, 4, 5] rfl)
    · exact False.elim (by exact c_26 ((on_le 11 11 (by omega) (by omega)).mpr (Nat.le_refl _)))
  | succ d ih =>
    intro t ht
    exact law_54_s l hL C0 hK hN hAe (by omega) (ih (t + 1) (by omega))
