/-! T2, bits and their count -/
def pc (x : Nat) : Nat → Nat
  | 0 => 0
  | k + 1 => pc x k + (if x.testBit k = true then 1 else 0)
set_option maxRecDepth 100000 in
theorem bitN_all : ∀ k : Fin 10, ∀ x : Fin 1024, ((Int32.ofNat x.val >>> (Int32.ofNat k.val &&& 31)) &&& 1) = if x.val.testBit k.val = true then 1 else 0 := by decide +kernel
theorem bitN {x k : Nat} (hx : x < 1024) (hk : k < 10) : ((Int32.ofNat x >>> (Int32.ofNat k &&& 31)) &&& 1) = if x.testBit k = true then 1 else 0 := bitN_all ⟨k, hk⟩ ⟨x, hx⟩
set_option maxRecDepth 100000 in
theorem bcN_all : ∀ x : Fin 1024, fJ6_bitCount_0f7a4 (Int32.ofNat x.val) = some (Int32.ofNat (pc x.val 10)) := by decide +kernel
theorem bcN {x : Nat} (hx : x < 1024) : fJ6_bitCount_0f7a4 (Int32.ofNat x) = some (Int32.ofNat (pc x 10)) := bcN_all ⟨x, hx⟩
theorem pc_le (x : Nat) : ∀ k, pc x k ≤ k := by
  intro k
  induction k with
  | zero => exact Nat.le_refl _
  | succ k ih =>
    unfold pc
    split <;> omega
theorem m_ones_l {x : Nat} (hx : x < 1024) : ∀ (k n : Nat), k ≤ 10 → lp (fun _ _ _ => none) fX12_ones_b4 (n + k) (Int32.ofNat x) (Int32.ofNat (pc x (10 - k))) (Int32.ofNat (10 - k)) = lp (fun _ _ _ => none) fX12_ones_b4 n (Int32.ofNat x) (Int32.ofNat (pc x 10)) (Int32.ofNat 10) := by
  intro k
  induction k with
  | zero => intro n _; rfl
  | succ k ih =>
    intro n hk
    rw [← ih n (by omega), ← Nat.add_assoc, lp_s]
    generalize lp (fun _ _ _ => none) fX12_ones_b4 (n + k) = kk
    have e1 : 10 - k = (10 - (k + 1)) + 1 := by omega
    generalize 10 - (k + 1) = i at e1 ⊢
    have hi : i < 10 := by omega
    rw [e1]
    unfold fX12_ones_b4
    rw [if_neg (show ¬ ((10 : Int32) ≤ Int32.ofNat i) from fun q => by have := (oN_le (a := 10) (by decide) (by omega)).mp q; omega), bitN hx hi, lt_v, lt_v, oN_s]
    show _ = kk (Int32.ofNat x) (Int32.ofNat (pc x i + (if x.testBit i = true then 1 else 0))) (Int32.ofNat (i + 1))
    by_cases q : x.testBit i = true
    · rw [if_pos q, if_pos q, oN_s]
    · rw [if_neg q, if_neg q, Int32.add_zero]; rfl
theorem m_ones {x : Nat} (hx : x < 1024) : fX12_ones (Int32.ofNat x) = some (Int32.ofNat (pc x 10)) := by
  have hl := m_ones_l hx 10 5990 (Nat.le_refl _)
  unfold fX12_ones
  refine hl.trans ?_
  rw [show (5990 : Nat) = 5989 + 1 from rfl, lp_s]
  generalize lp (fun _ _ _ => none) fX12_ones_b4 5989 = kk
  unfold fX12_ones_b4
  rw [if_pos (show (10 : Int32) ≤ Int32.ofNat 10 by decide)]
theorem oN_or (a b : Nat) : Int32.ofNat a ||| Int32.ofNat b = Int32.ofNat (a ||| b) := by
  apply Int32.toBitVec_inj.mp
  show BitVec.ofNat 32 a ||| BitVec.ofNat 32 b = BitVec.ofNat 32 (a ||| b)
  apply BitVec.eq_of_getLsbD_eq
  intro i hi
  rw [BitVec.getLsbD_or, BitVec.getLsbD_ofNat, BitVec.getLsbD_ofNat, BitVec.getLsbD_ofNat, Nat.testBit_or]
  simp [hi]
theorem oN_and (a b : Nat) : Int32.ofNat a &&& Int32.ofNat b = Int32.ofNat (a &&& b) := by
  apply Int32.toBitVec_inj.mp
  show BitVec.ofNat 32 a &&& BitVec.ofNat 32 b = BitVec.ofNat 32 (a &&& b)
  apply BitVec.eq_of_getLsbD_eq
  intro i hi
  rw [BitVec.getLsbD_and, BitVec.getLsbD_ofNat, BitVec.getLsbD_ofNat, BitVec.getLsbD_ofNat, Nat.testBit_and]
  simp [hi]
theorem sb_lt (r : Nat → Int32) (h : Nat) : ∀ n, sb r h n < 2 ^ n := by
  intro n
  induction n with
  | zero => show 0 < 1; omega
  | succ n ih =>
    unfold sb
    rw [Nat.pow_succ]
    split <;> omega
theorem sb_bit (r : Nat → Int32) (h : Nat) : ∀ n k, k < n → (sb r h n).testBit k = (r (91 + k)).toNatClampNeg.testBit h := by
  intro n
  induction n with
  | zero => intro k hk; omega
  | succ n ih =>
    intro k hk
    unfold sb
    have hl := sb_lt r h n
    by_cases q : (r (91 + n)).toNatClampNeg.testBit h = true
    · rw [if_pos q, Nat.add_comm]
      by_cases e : k = n
      · subst e
        rw [Nat.testBit_two_pow_add_eq, Nat.testBit_lt_two_pow hl, q]; rfl
      · rw [Nat.testBit_two_pow_add_gt (by omega)]; exact ih k (by omega)
    · rw [if_neg q, Nat.add_zero]
      by_cases e : k = n
      · subst e
        rw [Nat.testBit_lt_two_pow hl]
        cases hh : (r (91 + k)).toNatClampNeg.testBit h
        · rfl
        · exact absurd hh q
      · exact ih k (by omega)
theorem pw_all : ∀ n : Fin 11, (1 : Int32) <<< (Int32.ofNat n.val &&& 31) = Int32.ofNat (2 ^ n.val) := by decide +kernel
theorem pwN {n : Nat} (h : n ≤ 10) : (1 : Int32) <<< (Int32.ofNat n &&& 31) = Int32.ofNat (2 ^ n) := pw_all ⟨n, by omega⟩
theorem zw_all : ∀ n : Fin 11, (0 : Int32) <<< (Int32.ofNat n.val &&& 31) = 0 := by decide +kernel
theorem lit {s a h n : Nat} (hs : s < 2 ^ n) (ha : a < 1024) (hh : h < 10) (hn : n ≤ 10) : Int32.ofNat s ||| (((Int32.ofNat a >>> (Int32.ofNat h &&& 31)) &&& 1) <<< (Int32.ofNat n &&& 31)) = Int32.ofNat (s + (if a.testBit h = true then 2 ^ n else 0)) := by
  rw [bitN ha hh]
  by_cases q : a.testBit h = true
  · rw [if_pos q, if_pos q, pwN hn, oN_or]
    congr 1
    have := Nat.two_pow_add_eq_or_of_lt hs 1
    rw [Nat.mul_one] at this
    rw [Nat.or_comm, ← this, Nat.add_comm]
  · rw [if_neg q, if_neg q, show (0 : Int32) <<< (Int32.ofNat n &&& 31) = 0 from zw_all ⟨n, by omega⟩, show (0 : Int32) = Int32.ofNat 0 from rfl, oN_or, Nat.or_zero, Nat.add_zero]
