theorem dL_law_245 : decode cL_law 245 = .ok (.istore 12, 2) := by decide +kernel
theorem dL_law_247 : decode cL_law 247 = .ok (.iload 12, 2) := by decide +kernel
theorem dL_law_249 : decode cL_law 249 = .ok (.bipush (-9), 2) := by decide +kernel
theorem dL_law_251 : decode cL_law 251 = .ok (.if_icmp .eq 17, 3) := by decide +kernel
theorem dL_law_254 : decode cL_law 254 = .ok (.iload 12, 2) := by decide +kernel
theorem dL_law_256 : decode cL_law 256 = .ok (.ifCond .le 14, 3) := by decide +kernel
theorem dL_law_270 : decode cL_law 270 = .ok (.iload 12, 2) := by decide +kernel
theorem dL_law_272 : decode cL_law 272 = .ok (.ifCond .le 8, 3) := by decide +kernel
theorem dL_law_280 : decode cL_law 280 = .ok (.iload 5, 2) := by decide +kernel
theorem dL_law_282 : decode cL_law 282 = .ok (.istore 5, 2) := by decide +kernel
theorem dL_law_284 : decode cL_law 284 = .ok (.iinc 6 1, 3) := by decide +kernel
theorem dL_law_287 : decode cL_law 287 = .ok (.goto (-233), 3) := by decide +kernel
theorem dL_law_259 : decode cL_law 259 = .ok (.iload 12, 2) := by decide +kernel
theorem dL_law_261 : decode cL_law 261 = .ok (.iload 5, 2) := by decide +kernel
theorem dL_law_263 : decode cL_law 263 = .ok (.iconst 1, 1) := by decide +kernel
theorem dL_law_264 : decode cL_law 264 = .ok (.iadd, 1) := by decide +kernel
theorem dL_law_265 : decode cL_law 265 = .ok (.if_icmp .eq 5, 3) := by decide +kernel
theorem dL_law_275 : decode cL_law 275 = .ok (.iload 12, 2) := by decide +kernel
theorem dL_law_277 : decode cL_law 277 = .ok (.goto 5, 3) := by decide +kernel
set_option maxHeartbeats 4000000 in
set_option maxRecDepth 100000 in
theorem law_245 {p : Program} {e : Env} {s : State} {m : MethodId} {below : List Frame} {meth : Method} {c : Code} (l : Launch) {b L : Nat} {xs : Nat → Int32} (hL : L ≤ 260) (C0 : lw_At p s m meth c b L xs) {dC : Nat → ClassId} {dI : Nat → Nat → Nat} {cI cJ : ClassId} (hK : va_K (dC, dI) vwCl [(cI, .int), (cJ, .long)] s) (hN : NW s) {A : Nat → Prop} (hAe : A = fun q : Nat => s.heap.size ≤ q) {zd zt azt_bytes zr azr_sign azr_token azr_in azr_own azr_since zw azw_sign azw_token azw_in azw_own azw_since zg azg_kind azg_hand azg_state azg_look zv azv_spots azv_homes zk azk_now azk_typed azk_strikesNext azk_most zf : Nat} {n0 : Nat} {w : Int32} {zt_bytes zr_sign zr_token zr_in zr_own zr_since zg_kind zg_hand zg_state zg_look zv_spots zv_homes zf_a : Nat → Int32} {zv_size zv_counts zv_hides : Int32} {x gz rz tz : Int32} {tu k : Nat} (htu : tu < 11) (hk : k ≤ tu) (next : LT54 p l e s m below meth c b dC dI cI cJ A zd zt azt_bytes zr azr_sign azr_token azr_in azr_own azr_since zw azw_sign azw_token azw_in azw_own azw_since zg azg_kind azg_hand azg_state azg_look zv azv_spots azv_homes zk azk_now azk_typed azk_strikesNext azk_most zf n0 w zf_a (tu + 1)) (O : Out ((List.range n0).map zf_a) tu k x gz rz tz zr_sign zr_token zr_in zg_kind zg_state) {H : Heap} {locs : List Loc} (hP : va_P (dC, dI) vwCl [(zd, .inr (5, [.ref zt, .ref zr, .ref zw, .ref zg, .ref zv, .ref zk])), (zt, .inr (3, [.ref azt_bytes, .int tz])), (azt_bytes, .inl (cI, 120, .inl zt_bytes)), (zr, .inr (2, [.ref azr_sign, .ref azr_token, .ref azr_in, .ref azr_own, .ref azr_since, .int rz])), (azr_sign, .inl (cI, 240, .inl zr_sign)), (azr_token, .inl (cI, 240, .inl zr_token)), (azr_in, .inl (cI, 240, .inl zr_in)), (azr_own, .inl (cI, 240, .inl zr_own)), (azr_since, .inl (cI, 240, .inl zr_since)), (zw, .inr (2, [.ref azw_sign, .ref azw_token, .ref azw_in, .ref azw_own, .ref azw_since, .int (0 : Int32)])), (azw_sign, .inl (cI, 240, .inl (fun _ => (0 : Int32)))), (azw_token, .inl (cI, 240, .inl (fun _ => (0 : Int32)))), (azw_in, .inl (cI, 240, .inl (fun _ => (0 : Int32)))), (azw_own, .inl (cI, 240, .inl (fun _ => (0 : Int32)))), (azw_since, .inl (cI, 240, .inl (fun _ => (0 : Int32)))), (zg, .inr (1, [.ref azg_kind, .ref azg_hand, .ref azg_state, .ref azg_look, .int gz])), (azg_kind, .inl (cI, 25, .inl zg_kind)), (azg_hand, .inl (cI, 25, .inl zg_hand)), (azg_state, .inl (cI, 25, .inl zg_state)), (azg_look, .inl (cI, 25, .inl zg_look)), (zv, .inr (4, [.ref azv_spots, .ref azv_homes, .int zv_size, .int zv_counts, .int zv_hides])), (azv_spots, .inl (cI, 240, .inl zv_spots)), (azv_homes, .inl (cI, 240, .inl zv_homes)), (zk, .inr (0, [.ref azk_now, .ref azk_typed, .int (0 : Int32), .int (0 : Int32), .ref azk_strikesNext, .ref azk_most, .int (0 : Int32), .int (0 : Int32), .int (0 : Int32), .int (0 : Int32)])), (azk_now, .inl (cI, 240, .inl (fun _ => (0 : Int32)))), (azk_typed, .inl (cI, 120, .inl (fun _ => (0 : Int32)))), (azk_strikesNext, .inl (cJ, 480, .inr (.inl (fun _ => (0 : Int64))))), (azk_most, .inl (cI, 121, .inl (fun _ => (0 : Int32)))), (zf, .inl (cI, 64, .inl zf_a))] H) (hD : va_D A [(zd, .inr (5, [.ref zt, .ref zr, .ref zw, .ref zg, .ref zv, .ref zk])), (zt, .inr (3, [.ref azt_bytes, .int tz])), (azt_bytes, .inl (cI, 120, .inl zt_bytes)), (zr, .inr (2, [.ref azr_sign, .ref azr_token, .ref azr_in, .ref azr_own, .ref azr_since, .int rz])), (azr_sign, .inl (cI, 240, .inl zr_sign)), (azr_token, .inl (cI, 240, .inl zr_token)), (azr_in, .inl (cI, 240, .inl zr_in)), (azr_own, .inl (cI, 240, .inl zr_own)), (azr_since, .inl (cI, 240, .inl zr_since)), (zw, .inr (2, [.ref azw_sign, .ref azw_token, .ref azw_in, .ref azw_own, .ref azw_since, .int (0 : Int32)])), (azw_sign, .inl (cI, 240, .inl (fun _ => (0 : Int32)))), (azw_token, .inl (cI, 240, .inl (fun _ => (0 : Int32)))), (azw_in, .inl (cI, 240, .inl (fun _ => (0 : Int32)))), (azw_own, .inl (cI, 240, .inl (fun _ => (0 : Int32)))), (azw_since, .inl (cI, 240, .inl (fun _ => (0 : Int32)))), (zg, .inr (1, [.ref azg_kind, .ref azg_hand, .ref azg_state, .ref azg_look, .int gz])), (azg_kind, .inl (cI, 25, .inl zg_kind)), (azg_hand, .inl (cI, 25, .inl zg_hand)), (azg_state, .inl (cI, 25, .inl zg_state)), (azg_look, .inl (cI, 25, .inl zg_look)), (zv, .inr (4, [.ref azv_spots, .ref azv_homes, .int zv_size, .int zv_counts, .int zv_hides])), (azv_spots, .inl (cI, 240, .inl zv_spots)), (azv_homes, .inl (cI, 240, .inl zv_homes)), (zk, .inr (0, [.ref azk_now, .ref azk_typed, .int (0 : Int32), .int (0 : Int32), .ref azk_strikesNext, .ref azk_most, .int (0 : Int32), .int (0 : Int32), .int (0 : Int32), .int (0 : Int32)])), (azk_now, .inl (cI, 240, .inl (fun _ => (0 : Int32)))), (azk_typed, .inl (cI, 120, .inl (fun _ => (0 : Int32)))), (azk_strikesNext, .inl (cJ, 480, .inr (.inl (fun _ => (0 : Int64))))), (azk_most, .inl (cI, 121, .inl (fun _ => (0 : Int32)))), (zf, .inl (cI, 64, .inl zf_a))]) (hS : va_S A s.heap H locs) (ls : Array Slot) (hl : lv_has ls 14 [(0, .ref b), (1, .int w), (2, .ref zd), (3, .ref zf), (4, .int (Int32.ofNat n0)), (5, .int (Int32.ofNat k)), (6, .int (Int32.ofNat tu))]) : W p l e room_1 s m #[Value.ref b] below meth c H locs 29 4165 (lw_Z below #[Value.ref b] s) (F0 m 245 ls [.int x]) := by
  obtain ⟨hx, hb, hr, hml, hown, hts, hX, hbl, hlocks, hgv⟩ := id C0
  have hA : ∀ q : Nat, s.heap.size ≤ q → A q := fun q h => by rw [hAe]; exact h
  have hbA : ¬ A b := by rw [hAe]; exact Nat.not_le.mpr hbl
  obtain ⟨k9, n9, z9, e1, e2, e3, h1, h2, h3, ⟨⟨a0, a2⟩, a3⟩ | ⟨a1, a3⟩⟩ := O
  · subst e1; subst e2; subst e3
    have hle : x ≤ (0 : Int32) := Int32.le_iff_toInt_le.mpr (q_nlt a0)
    refine lv_istore (lv' := [(12, .int x), (0, .ref b), (1, .int w), (2, .ref zd), (3, .ref zf), (4, .int (Int32.ofNat n0)), (5, .int (Int32.ofNat k)), (6, .int (Int32.ofNat tu))]) hx hb dL_law_245 hl (by decide) rfl (fun ls hl => ?_)
    refine lv_iload hx hb dL_law_247 (lv_at hl 0 rfl) ?_
    refine lv_bipush (v := (-9 : Int32)) hx hb dL_law_249 (by decide) ?_
    refine lv_icmp_eq (tgt := 268) hx hb dL_law_251 (by decide) (fun c_4 => ?_) (fun c_4 => ?_)
    · exact False.elim (by exact a2 c_4)
    · refine lv_iload hx hb dL_law_254 (lv_at hl 0 rfl) ?_
      refine lv_if_le (tgt := 270) hx hb dL_law_256 (by decide) (fun c_5 => ?_) (fun c_5 => ?_)
      · refine lv_iload hx hb dL_law_270 (lv_at hl 0 rfl) ?_
        refine lv_if_le (tgt := 280) hx hb dL_law_272 (by decide) (fun c_6 => ?_) (fun c_6 => ?_)
        · refine lv_iload hx hb dL_law_280 (lv_at hl 6 rfl) ?_
          refine lv_istore (lv' := [(5, .int (Int32.ofNat k)), (12, .int x), (0, .ref b), (1, .int w), (2, .ref zd), (3, .ref zf), (4, .int (Int32.ofNat n0)), (6, .int (Int32.ofNat tu))]) hx hb dL_law_282 hl (by decide) rfl (fun ls hl => ?_)
          refine lv_iinc (v := ((Int32.ofNat tu) + (1 : Int32))) (lv' := [(6, .int ((Int32.ofNat tu) + (1 : Int32))), (5, .int (Int32.ofNat k)), (12, .int x), (0, .ref b), (1, .int w), (2, .ref zd), (3, .ref zf), (4, .int (Int32.ofNat n0))]) hx hb dL_law_284 hl (k := 7) rfl rfl (by decide) rfl (fun ls hl => ?_)
          refine lv_goto (tgt := 54) hx hb dL_law_287 (by decide) ?_
          rw [on_s] at hl
          rw [show Int32.ofNat k = Int32.ofNat k9 from by rw [a3]] at hl
          exact next k9 n9 z9 _ _ _ _ _ _ _ _ _ _ _ _ _ _ _ _ _ _ h1 h2 h3 hP hD hS (lv_sub hl [3, 4, 5, 6, 7, 1, 0] rfl)
        · exact False.elim (by exact c_6 hle)
      · exact False.elim (by exact c_5 hle)
  · subst e1; subst e2; subst e3
    have hgt : ¬ x ≤ (0 : Int32) := fun h9 => by rw [a1] at h9; have t9 := (on_le (k + 1) 0 (by omega) (by omega)).mp h9; omega
    have a2 : ¬ x = (-9 : Int32) := fun h9 => by
      rw [a1] at h9
      have t9 := congrArg Int32.toInt h9
      rw [on_i (k + 1) (by omega)] at t9
      have u9 : (-9 : Int32).toInt = -9 := rfl
      omega
    refine lv_istore (lv' := [(12, .int x), (0, .ref b), (1, .int w), (2, .ref zd), (3, .ref zf), (4, .int (Int32.ofNat n0)), (5, .int (Int32.ofNat k)), (6, .int (Int32.ofNat tu))]) hx hb dL_law_245 hl (by decide) rfl (fun ls hl => ?_)
    refine lv_iload hx hb dL_law_247 (lv_at hl 0 rfl) ?_
    refine lv_bipush (v := (-9 : Int32)) hx hb dL_law_249 (by decide) ?_
    refine lv_icmp_eq (tgt := 268) hx hb dL_law_251 (by decide) (fun c_7 => ?_) (fun c_7 => ?_)
    · exact False.elim (by exact a2 c_7)
    · refine lv_iload hx hb dL_law_254 (lv_at hl 0 rfl) ?_
      refine lv_if_le (tgt := 270) hx hb dL_law_256 (by decide) (fun c_8 => ?_) (fun c_8 => ?_)
      · exact False.elim (by exact hgt c_8)
      · refine lv_iload hx hb dL_law_259 (lv_at hl 0 rfl) ?_
        refine lv_iload hx hb dL_law_261 (lv_at hl 6 rfl) ?_
        refine lv_iconst (v := (1 : Int32)) hx hb dL_law_263 (by decide) ?_
        refine lv_iadd hx hb dL_law_264 ?_
        refine lv_icmp_eq (tgt := 270) hx hb dL_law_265 (by decide) (fun c_9 => ?_) (fun c_9 => ?_)
        · refine lv_iload hx hb dL_law_270 (lv_at hl 0 rfl) ?_
          refine lv_if_le (tgt := 280) hx hb dL_law_272 (by decide) (fun c_10 => ?_) (fun c_10 => ?_)
          · exact False.elim (by exact hgt c_10)
          · refine lv_iload hx hb dL_law_275 (lv_at hl 0 rfl) ?_
            refine lv_goto (tgt := 282) hx hb dL_law_277 (by decide) ?_
            refine lv_istore (lv' := [(5, .int x), (12, .int x), (0, .ref b), (1, .int w), (2, .ref zd), (3, .ref zf), (4, .int (Int32.ofNat n0)), (6, .int (Int32.ofNat tu))]) hx hb dL_law_282 hl (by decide) rfl (fun ls hl => ?_)
            refine lv_iinc (v := ((Int32.ofNat tu) + (1 : Int32))) (lv' := [(6, .int ((Int32.ofNat tu) + (1 : Int32))), (5, .int x), (12, .int x), (0, .ref b), (1, .int w), (2, .ref zd), (3, .ref zf), (4, .int (Int32.ofNat n0))]) hx hb dL_law_284 hl (k := 7) rfl rfl (by decide) rfl (fun ls hl => ?_)
            refine lv_goto (tgt := 54) hx hb dL_law_287 (by decide) ?_
            rw [on_s] at hl
            rw [a1, ← a3] at hl
            exact next k9 n9 z9 _ _ _ _ _ _ _ _ _ _ _ _ _ _ _ _ _ _ h1 h2 h3 hP hD hS (lv_sub hl [3, 4, 5, 6, 7, 1, 0] rfl)
        · exact False.elim (by exact c_9 (by rw [a1, on_s]))
