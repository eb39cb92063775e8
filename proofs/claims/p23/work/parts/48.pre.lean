def PreX (dC : Nat → ClassId) (dI : Nat → Nat → Nat) (cI cJ : ClassId) (b L : Nat) (xs : Nat → Int32) (sz : Nat) (ws : va_W) (U : State) : Prop := PreW dC dI cI cJ sz ws U ∧ va_X b L xs U U.heap ∧ b < sz ∧ va_D (fun q => ¬ q = b) ws
theorem PreX.call {dC : Nat → ClassId} {dI : Nat → Nat → Nat} {cI cJ : ClassId} {b L : Nat} {xs : Nat → Int32} {sz : Nat} {ws : va_W} {U : State} (g : JFrame) (mk : MethodId) (a : Array Value) (h : PreX dC dI cI cJ b L xs sz ws U) : PreX dC dI cI cJ b L xs sz ws (U.calling g mk a) :=
  ⟨PreW.call g mk a h.1, va_X.moved (u := U) (U := U.calling g mk a) (Vm.Alike.refl U.vm) h.2.1, h.2.2.1, h.2.2.2⟩
theorem PreX.mk2 {dC : Nat → ClassId} {dI : Nat → Nat → Nat} {cI cJ : ClassId} {b L : Nat} {xs : Nat → Int32} {ws : va_W} {s U : State} {H : Heap} (hU : U.heap = H) (hW : s.WarmedH U.vm) (hP : va_P (dC, dI) vwCl ws H) (hK : va_K (dC, dI) vwCl [(cI, .int), (cJ, .long)] s) (hN : NW s) (hD : va_D (fun _ => True) ws) (hX : va_X b L xs s H) (hb : b < H.size) (hDb : va_D (fun q => ¬ q = b) ws) : PreX dC dI cI cJ b L xs H.size ws U :=
  ⟨PreW.mk2 hU hW hP hK hN hD, by rw [hU]; exact va_X.moved hW.alike hX, hb, hDb⟩
theorem rem_on (a c : Nat) (ha : a < 2147483648) (hc : c < 2147483648) : Int32.ofNat a - Int32.ofNat a / Int32.ofNat c * Int32.ofNat c = Int32.ofNat (a % c) := by
  rw [← Int32.ofNat_div ha hc, ← Int32.ofNat_mul, ← Int32.ofNat_sub _ _ (Nat.div_mul_le_self a c)]
  congr 1
  have t := Nat.div_add_mod a c
  rw [Nat.mul_comm] at t
  omega
theorem and_pos (v : Int32) : ∃ y : Nat, y < 2147483648 ∧ v &&& (2147483647 : Int32) = Int32.ofNat y := by
  have h : 0 ≤ (v &&& (2147483647 : Int32)).toInt := by
    have m : (v &&& (2147483647 : Int32)).toBitVec.msb = false := by
      rw [Int32.toBitVec_and, BitVec.msb_and, show (2147483647 : Int32).toBitVec.msb = false from by decide, Bool.and_false]
    show 0 ≤ (v &&& (2147483647 : Int32)).toBitVec.toInt
    rw [BitVec.toInt_eq_toNat_of_msb m]
    omega
  have r := ti_rng (v &&& (2147483647 : Int32))
  exact ⟨_, by omega, on_of _ h⟩
