theorem dL_law_588 : decode cL_law 588 = .ok (.ireturn, 1) := by decide +kernel
set_option maxHeartbeats 4000000 in
set_option maxRecDepth 100000 in
theorem law_ret1 {p : Program} {e : Env} {s : State} {m : MethodId} {below : List Frame} {meth : Method} {c : Code} {l : Launch} {b L : Nat} {xs : Nat → Int32} (C0 : lw_At p s m meth c b L xs) {A : Nat → Prop} (hAe : A = fun q : Nat => s.heap.size ≤ q) {H : Heap} {locs : List Loc} (hS : va_S A s.heap H locs) (ls : Array Slot) {cells slots : Nat} (hc : cells ≤ 600000) (hs : slots ≤ 7302249) : W p l e room_1 s m #[Value.ref b] below meth c H locs cells slots (lw_Z below #[Value.ref b] s) (F0 m 588 ls [.int (1 : Int32)]) := by
  subst hAe
  obtain ⟨hx, hb, hr, hml, hown, hts, hX, hbl, hlocks, hgv⟩ := C0
  refine va_forget (fun q hq => hS.2.2 q hq) ?_
  refine W.widen (k := 600000) (n := 7302249) hc hs ?_
  exact lw_ret hx hb hr hlocks dL_law_588
