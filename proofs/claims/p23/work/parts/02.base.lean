/-! own rows that the written contracts stand on -/
theorem q_eq {a b : Int32} (h : a = b) : a.toInt = b.toInt := by rw [h]
theorem q_ne {a b : Int32} (h : ¬ a = b) : ¬ a.toInt = b.toInt := fun z => h (Int32.toInt_inj.mp z)
theorem q_lt {a b : Int32} (h : a < b) : a.toInt < b.toInt := Int32.lt_iff_toInt_lt.mp h
theorem q_nlt {a b : Int32} (h : ¬ a < b) : b.toInt ≤ a.toInt := Int.not_lt.mp (fun z => h (Int32.lt_iff_toInt_lt.mpr z))
theorem q_le {a b : Int32} (h : a ≤ b) : a.toInt ≤ b.toInt := Int32.le_iff_toInt_le.mp h
theorem q_nle {a b : Int32} (h : ¬ a ≤ b) : b.toInt < a.toInt := Int.not_le.mp (fun z => h (Int32.le_iff_toInt_le.mpr z))
theorem ti_bm {z : Int} (h1 : -2147483648 ≤ z) (h2 : z < 2147483648) : z.bmod (2 ^ 32) = z := Int.bmod_eq_of_le (by omega) (by omega)
theorem ti_add {x y : Int32} {k : Int} (hk : y.toInt = k) (h1 : -2147483648 ≤ x.toInt + k) (h2 : x.toInt + k < 2147483648) : (x + y).toInt = x.toInt + k := by
  subst hk
  rw [Int32.toInt_add]
  exact ti_bm h1 h2
theorem ti_sub {x y : Int32} {k : Int} (hk : y.toInt = k) (h1 : -2147483648 ≤ x.toInt - k) (h2 : x.toInt - k < 2147483648) : (x - y).toInt = x.toInt - k := by
  subst hk
  rw [Int32.toInt_sub]
  exact ti_bm h1 h2
theorem ti_add2 {x y : Int32} {a b : Int} (hx : x.toInt = a) (hy : y.toInt = b) (h1 : -2147483648 ≤ a + b) (h2 : a + b < 2147483648) : (x + y).toInt = a + b := by
  subst hx; subst hy
  rw [Int32.toInt_add]
  exact ti_bm h1 h2
theorem ti_sub2 {x y : Int32} {a b : Int} (hx : x.toInt = a) (hy : y.toInt = b) (h1 : -2147483648 ≤ a - b) (h2 : a - b < 2147483648) : (x - y).toInt = a - b := by
  subst hx; subst hy
  rw [Int32.toInt_sub]
  exact ti_bm h1 h2
theorem ti_mul2 {x y : Int32} {a b : Int} (hx : x.toInt = a) (hy : y.toInt = b) (h1 : -2147483648 ≤ a * b) (h2 : a * b < 2147483648) : (x * y).toInt = a * b := by
  subst hx; subst hy
  rw [Int32.toInt_mul]
  exact ti_bm h1 h2
theorem ti_rng (x : Int32) : -2147483648 ≤ x.toInt ∧ x.toInt < 2147483648 := ⟨by have := Int32.le_toInt x; omega, by have := Int32.toInt_lt x; omega⟩
theorem ti_clamp {x : Int32} (h : 0 ≤ x.toInt) : (x.toNatClampNeg : Int) = x.toInt := by
  rw [Int32.toNatClampNeg]
  omega
def NW (U : State) : Prop := va_Nw (.methodLinkNest RX1 36 yX5_bit "RedlineDesk") U ∧ va_Nw (.methodLinkNest RX2 35 yX5_bit "RedlineDesk") U ∧ va_Nw (.methodLinkNest RX4 37 yX5_latest "RedlineDesk") U ∧ va_Nw (.methodLinkNest RX4 52 yX5_bit "RedlineDesk") U ∧ va_Nw (.methodLinkNest RX5 9 yX3_init "RedlineDesk") U ∧ va_Nw (.methodLinkNest RX5 18 yX2_init "RedlineDesk") U ∧ va_Nw (.methodLinkNest RX5 28 yX1_init "RedlineDesk") U ∧ va_Nw (.methodLinkNest RX5 35 yX4_init "RedlineDesk") U ∧ va_Nw (.methodLinkNest RX5 42 yX0_init "RedlineDesk") U
theorem NW.same {u U : State} (h : u.vm = U.vm) (q : NW u) : NW U := ⟨va_Nw.same rfl h q.1, va_Nw.same rfl h q.2.1, va_Nw.same rfl h q.2.2.1, va_Nw.same rfl h q.2.2.2.1, va_Nw.same rfl h q.2.2.2.2.1, va_Nw.same rfl h q.2.2.2.2.2.1, va_Nw.same rfl h q.2.2.2.2.2.2.1, va_Nw.same rfl h q.2.2.2.2.2.2.2.1, va_Nw.same rfl h q.2.2.2.2.2.2.2.2⟩
theorem NW.warm {s U : State} (h : s.WarmedH U.vm) (q : NW s) : NW U := ⟨va_Nw.warmM h q.1, va_Nw.warmM h q.2.1, va_Nw.warmM h q.2.2.1, va_Nw.warmM h q.2.2.2.1, va_Nw.warmM h q.2.2.2.2.1, va_Nw.warmM h q.2.2.2.2.2.1, va_Nw.warmM h q.2.2.2.2.2.2.1, va_Nw.warmM h q.2.2.2.2.2.2.2.1, va_Nw.warmM h q.2.2.2.2.2.2.2.2⟩
def PreW (dC : Nat → ClassId) (dI : Nat → Nat → Nat) (cI cJ : ClassId) (sz : Nat) (ws : va_W) (U : State) : Prop :=
  U.heap.size = sz ∧ va_P (dC, dI) vwCl ws U.heap ∧ va_K (dC, dI) vwCl [(cI, .int), (cJ, .long)] U ∧ NW U ∧ va_D (fun _ => True) ws
def PostW (dC : Nat → ClassId) (dI : Nat → Nat → Nat) (ws : va_W) (t : State) (A : Nat → Prop) : Prop := va_P (dC, dI) vwCl ws t.heap ∧ va_D A ws
theorem PreW.call {dC : Nat → ClassId} {dI : Nat → Nat → Nat} {cI cJ : ClassId} {sz : Nat} {ws : va_W} {U : State} (g : JFrame) (mk : MethodId) (a : Array Value) (h : PreW dC dI cI cJ sz ws U) : PreW dC dI cI cJ sz ws (U.calling g mk a) :=
  ⟨h.1, h.2.1, va_K.moved (u := U) (U := U.calling g mk a) (Vm.Alike.refl U.vm) h.2.2.1, NW.same (u := U) (U := U.calling g mk a) rfl h.2.2.2.1, h.2.2.2.2⟩
theorem PreW.mk2 {dC : Nat → ClassId} {dI : Nat → Nat → Nat} {cI cJ : ClassId} {ws : va_W} {s U : State} {H : Heap} (hU : U.heap = H) (hW : s.WarmedH U.vm) (hP : va_P (dC, dI) vwCl ws H) (hK : va_K (dC, dI) vwCl [(cI, .int), (cJ, .long)] s) (hN : NW s) (hD : va_D (fun _ => True) ws) : PreW dC dI cI cJ H.size ws U :=
  ⟨by rw [hU], by rw [hU]; exact hP, va_K.moved hW.alike hK, NW.warm hW hN, hD⟩
theorem va_ro {D : va_G} {cl : List vw_C} {ws : va_W} {H H1 : Heap} (hP : va_P D cl ws H) (hk : ∀ q : Nat, q < H.size → ¬ (H.size ≤ q) → H1[q]? = H[q]?) : va_P D cl ws H1 := hP.kept (fun k q hq => hk q.1 (hP k q hq).lt (Nat.not_le.mpr (hP k q hq).lt))
section OWN
variable {p : Program} {l : Launch} {e : Env} {R : Room} {s : State} {m : MethodId} {args : Array Value} {below : List Frame} {meth : Method} {c : Code} {H : Heap} {locs : List Loc} {cells slots : Nat}
theorem W_nm {Q : State → Prop} {g : JFrame} (k : ∀ QQ : State → Prop, QQ = Q → W p l e R s m args below meth c H locs cells slots QQ g) : W p l e R s m args below meth c H locs cells slots Q g := k Q rfl
end OWN
