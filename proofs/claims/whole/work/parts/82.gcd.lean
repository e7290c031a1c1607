/-! T2, game: the common divisor, fractions -/
theorem oN_mod {x y : Nat} (hx : x < 2147483648) (hy : y < 2147483648) : Int32.ofNat x - Int32.ofNat x / Int32.ofNat y * Int32.ofNat y = Int32.ofNat (x % y) := by
  have h : x / y * y ≤ x := Nat.div_mul_le_self x y
  rw [oN_div hx hy, oN_mul, oN_sub h]
  congr 1
  have := Nat.div_add_mod x y
  rw [Nat.mul_comm] at this
  omega
theorem oN_ne0 {x : Nat} (h : x < 2147483648) (h0 : x ≠ 0) : ¬ (Int32.ofNat x = 0) := fun q => h0 ((oN_eq (b := 0) h (by decide)).mp q)
theorem half_mod {y z k : Nat} (h1 : z < y) (h2 : z ≠ 0) (hy : y < 2 ^ (k + 1)) : y % z < 2 ^ k := by
  have h3 : y % z < z := Nat.mod_lt _ (by omega)
  have h4 := Nat.div_add_mod y z
  have h5 : 1 ≤ y / z := (Nat.le_div_iff_mul_le (by omega)).mpr (by omega)
  have h6 : z * 1 ≤ z * (y / z) := Nat.mul_le_mul_left _ h5
  rw [Nat.pow_succ] at hy
  omega
theorem c_g0 {kk : Int32 → Int32 → Int32 → Option Int32} {x i : Int32} : fX11_commonDivisor_b7 kk x (Int32.ofNat 0) i = some x := by
  unfold fX11_commonDivisor_b7 fX11_commonDivisor_b34
  rw [if_pos (show Int32.ofNat 0 = 0 from rfl)]
theorem c_gs {kk : Int32 → Int32 → Int32 → Option Int32} {x y i : Nat} (h0 : y ≠ 0) (hx : x < 2147483648) (hy : y < 2147483648) (hi : i < 100) : fX11_commonDivisor_b7 kk (Int32.ofNat x) (Int32.ofNat y) (Int32.ofNat i) = kk (Int32.ofNat y) (Int32.ofNat (x % y)) (Int32.ofNat (i + 1)) := by
  have i1 : ¬ ((100 : Int32) ≤ Int32.ofNat i) := fun q => by have := (oN_le (a := 100) (by decide) (by omega)).mp q; omega
  unfold fX11_commonDivisor_b7
  rw [if_neg (oN_ne0 hy h0), if_neg i1, gz_ok (oN_ne0 hy h0), lt_v, lt_v, oN_mod hx hy, oN_s]
theorem m_g0 {kk : Int32 → Int32 → Option Int32} {x : Int32} : fX12_common_b22 kk x (Int32.ofNat 0) = some x := by
  unfold fX12_common_b22
  rw [if_pos (show Int32.ofNat 0 = 0 from rfl)]
theorem m_gs {kk : Int32 → Int32 → Option Int32} {x y : Nat} (h0 : y ≠ 0) (hx : x < 2147483648) (hy : y < 2147483648) : fX12_common_b22 kk (Int32.ofNat x) (Int32.ofNat y) = kk (Int32.ofNat y) (Int32.ofNat (x % y)) := by
  unfold fX12_common_b22
  rw [if_neg (oN_ne0 hy h0), gz_ok (oN_ne0 hy h0), lt_v, oN_mod hx hy]
theorem c_gcd : ∀ (k n x y i : Nat), y < 2 ^ k → x < 2147483648 → y < 2147483648 → i + 2 * k < 100 → lp (fun _ _ _ => none) fX11_commonDivisor_b7 (n + 2 * k + 1) (Int32.ofNat x) (Int32.ofNat y) (Int32.ofNat i) = some (Int32.ofNat (Nat.gcd y x)) := by
  intro k
  induction k with
  | zero =>
    intro n x y i hy hx _ _
    have : y = 0 := by rw [Nat.pow_zero] at hy; omega
    subst this
    rw [lp_s, c_g0, Nat.gcd_zero_left]
  | succ k ih =>
    intro n x y i hy hx hy2 hi
    rw [show n + 2 * (k + 1) + 1 = (n + 2 * k + 1) + 1 + 1 by omega, lp_s]
    by_cases h0 : y = 0
    · subst h0
      rw [c_g0, Nat.gcd_zero_left]
    · have hm : x % y < y := Nat.mod_lt _ (by omega)
      rw [c_gs h0 hx hy2 (by omega), lp_s, Nat.gcd_rec y x]
      by_cases h1 : x % y = 0
      · rw [h1, c_g0, Nat.gcd_zero_left]
      · rw [c_gs h1 hy2 (by omega) (by omega), Nat.gcd_rec (x % y) y]
        exact ih n (x % y) (y % (x % y)) (i + 1 + 1) (half_mod hm h1 hy) (by omega) (Nat.lt_of_lt_of_le (Nat.mod_lt _ (by omega)) (by omega)) (by omega)
theorem m_gcd : ∀ (k n x y : Nat), y < 2 ^ k → x < 2147483648 → y < 2147483648 → lp (fun _ _ => none) fX12_common_b22 (n + 2 * k + 1) (Int32.ofNat x) (Int32.ofNat y) = some (Int32.ofNat (Nat.gcd y x)) := by
  intro k
  induction k with
  | zero =>
    intro n x y hy hx _
    have : y = 0 := by rw [Nat.pow_zero] at hy; omega
    subst this
    rw [lp_s, m_g0, Nat.gcd_zero_left]
  | succ k ih =>
    intro n x y hy hx hy2
    rw [show n + 2 * (k + 1) + 1 = (n + 2 * k + 1) + 1 + 1 by omega, lp_s]
    by_cases h0 : y = 0
    · subst h0
      rw [m_g0, Nat.gcd_zero_left]
    · have hm : x % y < y := Nat.mod_lt _ (by omega)
      rw [m_gs h0 hx hy2, lp_s, Nat.gcd_rec y x]
      by_cases h1 : x % y = 0
      · rw [h1, m_g0, Nat.gcd_zero_left]
      · rw [m_gs h1 hy2 (by omega), Nat.gcd_rec (x % y) y]
        exact ih n (x % y) (y % (x % y)) (half_mod hm h1 hy) (by omega) (Nat.lt_of_lt_of_le (Nat.mod_lt _ (by omega)) (by omega))
theorem absN {a : Int32} (h : -100000 ≤ a.toInt ∧ a.toInt ≤ 100000) : (if 0 ≤ a then a else -a) = Int32.ofNat a.toInt.natAbs := by
  have e0 : (0 : Int32).toInt = 0 := by decide
  by_cases q : 0 ≤ a
  · rw [if_pos q]
    have q' := Int32.le_iff_toInt_le.mp q
    rw [← Int32.toInt_inj, oN_ti (by omega)]
    omega
  · rw [if_neg q]
    have q' : ¬ ((0 : Int32).toInt ≤ a.toInt) := fun w => q (Int32.le_iff_toInt_le.mpr w)
    rw [← Int32.toInt_inj, oN_ti (by omega), Int32.toInt_neg, Int.bmod_eq_of_le (by omega) (by omega)]
    omega
theorem div_sgn {x : Int32} {g : Nat} (hx : -100000 ≤ x.toInt ∧ x.toInt ≤ 100000) (hg : g < 1000000) : x / (-(Int32.ofNat g)) = (x / Int32.ofNat g) * (-1) := by
  have eg : (-(Int32.ofNat g)).toInt = -(g : Int) := by rw [Int32.toInt_neg, oN_ti (by omega), Int.bmod_eq_of_le (by omega) (by omega)]
  have hq : (x.toInt.tdiv (g : Int)).natAbs ≤ 100000 := by
    rw [Int.natAbs_tdiv]
    exact Nat.le_trans (Nat.div_le_self _ _) (by omega)
  have e1 : (-1 : Int32).toInt = -1 := by decide
  rw [← Int32.toInt_inj, Int32.toInt_div, Int32.toInt_mul, Int32.toInt_div, eg, oN_ti (by omega), e1, Int.tdiv_neg, Int.bmod_eq_of_le (n := x.toInt.tdiv (g : Int)) (by omega) (by omega), Int.mul_neg, Int.mul_one]
def sm5 (a : Int32) : Prop := -100000 ≤ a.toInt ∧ a.toInt ≤ 100000
theorem frac_both {a d w w2 : Int32} (ha : sm5 a) (hd : sm5 d) (h0 : d ≠ 0) (hw : (w = 0 ∧ w2 = 1) ∨ (w = 1 ∧ w2 = 0)) : ∃ v, fX11_fraction a d w = some v ∧ fX12_lowest a d w2 = some v := by
  have h2 : (2 : Nat) ^ 20 = 1048576 := by decide
  have hA : a.toInt.natAbs ≤ 100000 := by have := ha.1; have := ha.2; omega
  have hD : d.toInt.natAbs ≤ 100000 := by have := hd.1; have := hd.2; omega
  have hg0 : Nat.gcd d.toInt.natAbs a.toInt.natAbs ≠ 0 := by
    intro q
    have := (Nat.gcd_eq_zero_iff.mp q).1
    apply h0
    have e0 : (0 : Int32).toInt = 0 := by decide
    rw [← Int32.toInt_inj]
    omega
  have hgl : Nat.gcd d.toInt.natAbs a.toInt.natAbs ≤ 100000 := by
    have hd0 : 0 < d.toInt.natAbs := by
      apply Nat.pos_of_ne_zero
      intro q
      apply h0
      have e0 : (0 : Int32).toInt = 0 := by decide
      rw [← Int32.toInt_inj]
      omega
    exact Nat.le_trans (Nat.gcd_le_left _ hd0) hD
  have k1 := c_gcd 20 5959 a.toInt.natAbs d.toInt.natAbs 0 (by omega) (by omega) (by omega) (by decide)
  have k2 := m_gcd 20 5959 a.toInt.natAbs d.toInt.natAbs (by omega) (by omega) (by omega)
  have hcd : fX11_commonDivisor (if 0 ≤ a then a else 0 - a) (if 0 ≤ d then d else 0 - d) = some (Int32.ofNat (Nat.gcd d.toInt.natAbs a.toInt.natAbs)) := by
    rw [Int32.zero_sub, Int32.zero_sub, absN ha, absN hd]
    exact k1
  have hcm : fX12_common a d = some (Int32.ofNat (Nat.gcd d.toInt.natAbs a.toInt.natAbs)) := by
    have e : fX12_common a d = lp (fun _ _ => none) fX12_common_b22 6000 (if 0 ≤ a then a else -a) (if 0 ≤ d then d else -d) := by
      unfold fX12_common fX12_common_b10 fX12_common_b21
      by_cases q1 : 0 ≤ a
      · by_cases q2 : 0 ≤ d
        · rw [if_pos q1, if_pos q2, if_pos q1, if_pos q2]
        · rw [if_pos q1, if_neg q2, if_pos q1, if_neg q2]
      · by_cases q2 : 0 ≤ d
        · rw [if_neg q1, if_pos q2, if_neg q1, if_pos q2]
        · rw [if_neg q1, if_neg q2, if_neg q1, if_neg q2]
    rw [e, absN ha, absN hd]
    exact k2
  generalize Nat.gcd d.toInt.natAbs a.toInt.natAbs = g at hg0 hgl hcd hcm
  have gne : ¬ (Int32.ofNat g = 0) := oN_ne0 (by omega) hg0
  have gnn : ¬ (-(Int32.ofNat g) = 0) := by
    intro q
    have := congrArg Int32.toInt q
    have e0 : (0 : Int32).toInt = 0 := by decide
    rw [Int32.toInt_neg, oN_ti (by omega), Int.bmod_eq_of_le (by omega) (by omega), e0] at this
    omega
  unfold fX11_fraction fX12_lowest fX11_fraction_b29 fX11_fraction_b40 fX12_lowest_b15 fX12_lowest_b26
  rw [hcd, bs_v, if_neg gne, hcm, bs_v, gz_ok gne, gz_ok gnn, gz_ok gne, gz_ok gnn, gz_ok gne, gz_ok gne]
  rw [div_sgn ha (by omega), div_sgn hd (by omega), Int32.mul_one, Int32.mul_one]
  rcases hw with ⟨e1, e2⟩ | ⟨e1, e2⟩ <;> subst e1 <;> subst e2
  · rw [if_pos rfl, if_pos rfl, if_neg one_ne0, if_neg one_ne0]
    by_cases q : 0 ≤ d
    · rw [if_pos q, if_pos q]; exact ⟨_, rfl, rfl⟩
    · rw [if_neg q, if_neg q]; exact ⟨_, rfl, gz_ok gne⟩
  · rw [if_neg one_ne0, if_neg one_ne0, if_pos rfl, if_pos rfl]
    by_cases q : 0 ≤ d
    · rw [if_pos q, if_pos q]; exact ⟨_, rfl, rfl⟩
    · rw [if_neg q, if_neg q]; exact ⟨_, rfl, gz_ok gne⟩
