/-! T2, the class's cells of code: 16 times a value and a step -/
def cell (x : Nat × Nat) : Int32 := Int32.ofNat (16 * x.2 + x.1)
theorem tbv (n : Nat) : (Int32.ofNat n).toBitVec = BitVec.ofNat 32 n := rfl
theorem sh4 : ((4 : Int32) &&& 31).toBitVec.smod 32 = 4#32 := by decide
theorem cell_shl {v : Nat} (hv : v < 134217728) : Int32.ofNat v <<< ((4 : Int32) &&& 31) = Int32.ofNat (16 * v) := by
  rw [← Int32.toBitVec_inj, Int32.toBitVec_shiftLeft, sh4, tbv, tbv]
  apply BitVec.eq_of_toNat_eq
  show (BitVec.ofNat 32 v <<< (4#32).toNat).toNat = _
  rw [show (4#32).toNat = 4 by decide, BitVec.toNat_shiftLeft, BitVec.toNat_ofNat, BitVec.toNat_ofNat, Nat.shiftLeft_eq]
  omega
theorem cell_enc {v s : Nat} (hv : v < 134217728) (hs : s < 16) : (Int32.ofNat v <<< ((4 : Int32) &&& 31)) ||| Int32.ofNat s = Int32.ofNat (16 * v + s) := by
  rw [cell_shl hv, ← Int32.toBitVec_inj, Int32.toBitVec_or, tbv, tbv, tbv]
  apply BitVec.eq_of_toNat_eq
  rw [BitVec.toNat_or, BitVec.toNat_ofNat, BitVec.toNat_ofNat, BitVec.toNat_ofNat]
  rw [Nat.mod_eq_of_lt (by omega), Nat.mod_eq_of_lt (by omega), Nat.mod_eq_of_lt (by omega)]
  have := Nat.shiftLeft_add_eq_or_of_lt (b := s) (i := 4) (by omega) v
  rw [Nat.shiftLeft_eq, show v * 2 ^ 4 = 16 * v by omega] at this
  exact this.symm
theorem cell_and {a : Nat} (ha : a < 2147483648) : Int32.ofNat a &&& 15 = Int32.ofNat (a % 16) := by
  rw [← Int32.toBitVec_inj, Int32.toBitVec_and, tbv a, tbv (a % 16)]
  apply BitVec.eq_of_toNat_eq
  rw [BitVec.toNat_and, BitVec.toNat_ofNat, BitVec.toNat_ofNat]
  have e : BitVec.toNat (Int32.toBitVec 15) = 15 := by decide
  rw [e, Nat.mod_eq_of_lt (by omega), Nat.mod_eq_of_lt (by omega)]
  exact Nat.and_two_pow_sub_one_eq_mod a 4
theorem cell_shr {a : Nat} (ha : a < 2147483648) : Int32.ofNat a >>> ((4 : Int32) &&& 31) = Int32.ofNat (a / 16) := by
  rw [← Int32.toBitVec_inj, Int32.toBitVec_shiftRight, sh4, tbv, tbv]
  have hm : (BitVec.ofNat 32 a).msb = false := by
    rw [BitVec.msb_eq_false_iff_two_mul_lt, BitVec.toNat_ofNat]; omega
  rw [BitVec.sshiftRight_eq', BitVec.sshiftRight_eq_of_msb_false hm]
  apply BitVec.eq_of_toNat_eq
  rw [show (4#32).toNat = 4 by decide, BitVec.toNat_ushiftRight, BitVec.toNat_ofNat, BitVec.toNat_ofNat, Nat.shiftRight_eq_div_pow]
  omega
theorem cell_step {x : Nat × Nat} (h1 : x.1 < 16) (h2 : x.2 < 134217728) : cell x &&& 15 = Int32.ofNat x.1 := by
  unfold cell
  rw [cell_and (by omega)]
  congr 1
  omega
theorem cell_val {x : Nat × Nat} (h1 : x.1 < 16) (h2 : x.2 < 134217728) : cell x >>> ((4 : Int32) &&& 31) = Int32.ofNat x.2 := by
  unfold cell
  rw [cell_shr (by omega)]
  congr 1
  omega
theorem tK_le {B : Nat → Nat} {L j : Nat} (hB : ∀ i, B i < 256) : tK B L j ≤ 328 := by
  unfold tK
  have := hB (tP B L j)
  repeat' split
  all_goals omega
