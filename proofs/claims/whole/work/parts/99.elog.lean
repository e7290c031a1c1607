/-! T2, what can be taken back: remember, keepAll, putBack -/
section Log
variable {fz : List FP} {c m : St}
theorem m_keep_l {k : Nat} (hk : k ≤ 17) : ∀ (q N : Nat) (st : St), q ≤ 25 → ∃ st', lp (fun _ _ _ => none) fX12_keepAll_b2 (N + 1 + q) (Int32.ofNat k) (Int32.ofNat (25 - q)) st = some ((), st') ∧ fr [] [] [6] st st' ∧ ∀ j, st'.2.2.1 6 j = if 25 * k + (25 - q) ≤ j ∧ j < 25 * k + 25 then st.2.2.1 3 (6 + (j - 25 * k)) else st.2.2.1 6 j := by
  intro q
  induction q with
  | zero =>
    intro N st _
    refine ⟨st, ?_, fr.rf, fun j => ?_⟩
    · rw [Nat.add_zero, lp_s]
      generalize lp (fun _ _ _ => none) fX12_keepAll_b2 N = kk
      unfold fX12_keepAll_b2
      rw [if_pos (show (25 : Int32) ≤ Int32.ofNat (25 - 0) by decide)]
    · rw [if_neg (by omega)]
  | succ q ih =>
    intro N st hq
    have e1 : 25 - q = (25 - (q + 1)) + 1 := by omega
    have hi : 25 - (q + 1) < 25 := by omega
    have ih' := ih N
    rw [← Nat.add_assoc, lp_s]
    generalize 25 - (q + 1) = i at e1 hi ⊢
    rw [e1] at ih'
    generalize lp (fun _ _ _ => none) fX12_keepAll_b2 (N + 1 + q) = kk at ih' ⊢
    have i1 : (6 : Int32) + Int32.ofNat i = Int32.ofNat (6 + i) := oN_add 6 i
    have i2 : (25 : Int32) * Int32.ofNat k + Int32.ofNat i = Int32.ofNat (25 * k + i) := by rw [show (25 : Int32) = Int32.ofNat 25 from rfl, oN_mul, oN_add]
    obtain ⟨st', a1, a2, a3⟩ := ih' (sA st 6 (upd (st.2.2.1 6) (25 * k + i) (st.2.2.1 3 (6 + i)))) (by omega)
    refine ⟨st', ?_, (fr.sA (by decide)).tr a2, fun j => ?_⟩
    · rw [← a1]
      unfold fX12_keepAll_b2
      rw [if_neg (show ¬ ((25 : Int32) ≤ Int32.ofNat i) from fun q => by have := (oN_le (a := 25) (by decide) (by omega)).mp q; omega), i1, i2, gi_N (show 6 + i < 5550 by omega) (by decide), gi_N (show 25 * k + i < 450 by omega) (by decide), oN_tn (show 6 + i < 2147483648 by omega), oN_tn (show 25 * k + i < 2147483648 by omega), lt_v, lt_v, oN_s]
    · rw [a3 j]
      have t3 : (sA st 6 (upd (st.2.2.1 6) (25 * k + i) (st.2.2.1 3 (6 + i)))).2.2.1 3 = st.2.2.1 3 := rfl
      have t6 : (sA st 6 (upd (st.2.2.1 6) (25 * k + i) (st.2.2.1 3 (6 + i)))).2.2.1 6 = upd (st.2.2.1 6) (25 * k + i) (st.2.2.1 3 (6 + i)) := rfl
      rw [t3, t6, upd_v]
      by_cases z : j = 25 * k + i
      · rw [if_neg (by omega), if_pos z, if_pos (by omega), z, Nat.add_sub_cancel_left]
      · by_cases w : 25 * k + (i + 1) ≤ j ∧ j < 25 * k + 25
        · rw [if_pos w, if_pos (by omega)]
        · rw [if_neg w, if_neg z, if_neg (by omega)]
theorem m_keep {k : Nat} (hk : k ≤ 17) : ∃ m', fX12_keepAll (Int32.ofNat k) m = some ((), m') ∧ fr [] [] [6] m m' ∧ ∀ j, m'.2.2.1 6 j = if 25 * k ≤ j ∧ j < 25 * k + 25 then m.2.2.1 3 (6 + (j - 25 * k)) else m.2.2.1 6 j := m_keep_l hk 25 5974 m (Nat.le_refl _)
theorem m_put_l {k : Nat} (hk : k ≤ 17) : ∀ (q N : Nat) (st : St), q ≤ 25 → ∃ st', lp (fun _ _ _ => none) fX12_putBack_b2 (N + 1 + q) (Int32.ofNat k) (Int32.ofNat (25 - q)) st = some ((), st') ∧ fr [] [] [3] st st' ∧ ∀ j, st'.2.2.1 3 j = if 6 + (25 - q) ≤ j ∧ j < 31 then st.2.2.1 6 (25 * k + (j - 6)) else st.2.2.1 3 j := by
  intro q
  induction q with
  | zero =>
    intro N st _
    refine ⟨st, ?_, fr.rf, fun j => ?_⟩
    · rw [Nat.add_zero, lp_s]
      generalize lp (fun _ _ _ => none) fX12_putBack_b2 N = kk
      unfold fX12_putBack_b2
      rw [if_pos (show (25 : Int32) ≤ Int32.ofNat (25 - 0) by decide)]
    · rw [if_neg (by omega)]
  | succ q ih =>
    intro N st hq
    have e1 : 25 - q = (25 - (q + 1)) + 1 := by omega
    have hi : 25 - (q + 1) < 25 := by omega
    have ih' := ih N
    rw [← Nat.add_assoc, lp_s]
    generalize 25 - (q + 1) = i at e1 hi ⊢
    rw [e1] at ih'
    generalize lp (fun _ _ _ => none) fX12_putBack_b2 (N + 1 + q) = kk at ih' ⊢
    have i1 : (6 : Int32) + Int32.ofNat i = Int32.ofNat (6 + i) := oN_add 6 i
    have i2 : (25 : Int32) * Int32.ofNat k + Int32.ofNat i = Int32.ofNat (25 * k + i) := by rw [show (25 : Int32) = Int32.ofNat 25 from rfl, oN_mul, oN_add]
    obtain ⟨st', a1, a2, a3⟩ := ih' (sA st 3 (upd (st.2.2.1 3) (6 + i) (st.2.2.1 6 (25 * k + i)))) (by omega)
    refine ⟨st', ?_, (fr.sA (by decide)).tr a2, fun j => ?_⟩
    · rw [← a1]
      unfold fX12_putBack_b2
      rw [if_neg (show ¬ ((25 : Int32) ≤ Int32.ofNat i) from fun q => by have := (oN_le (a := 25) (by decide) (by omega)).mp q; omega), i1, i2, gi_N (show 25 * k + i < 450 by omega) (by decide), gi_N (show 6 + i < 5550 by omega) (by decide), oN_tn (show 6 + i < 2147483648 by omega), oN_tn (show 25 * k + i < 2147483648 by omega), lt_v, lt_v, oN_s]
    · rw [a3 j]
      have t3 : (sA st 3 (upd (st.2.2.1 3) (6 + i) (st.2.2.1 6 (25 * k + i)))).2.2.1 6 = st.2.2.1 6 := rfl
      have t6 : (sA st 3 (upd (st.2.2.1 3) (6 + i) (st.2.2.1 6 (25 * k + i)))).2.2.1 3 = upd (st.2.2.1 3) (6 + i) (st.2.2.1 6 (25 * k + i)) := rfl
      rw [t3, t6, upd_v]
      by_cases z : j = 6 + i
      · rw [if_neg (by omega), if_pos z, if_pos (by omega), z, Nat.add_sub_cancel_left]
      · by_cases w : 6 + (i + 1) ≤ j ∧ j < 31
        · rw [if_pos w, if_pos (by omega)]
        · rw [if_neg w, if_neg z, if_neg (by omega)]
theorem m_put {k : Nat} (hk : k ≤ 17) : ∃ m', fX12_putBack (Int32.ofNat k) m = some ((), m') ∧ fr [] [] [3] m m' ∧ ∀ j, m'.2.2.1 3 j = if 6 ≤ j ∧ j < 31 then m.2.2.1 6 (25 * k + (j - 6)) else m.2.2.1 3 j := m_put_l hk 25 5974 m (Nat.le_refl _)
theorem Rl.bnd {off : Nat} {r : Nat → Int32} (h : Rl off c r) : ∀ i, i < 25 → nb (bS i) (r (6 + i)) := by
  obtain ⟨-, h1, h2, h3, h4, h5, h6, h7, -⟩ := h
  intro i hi
  unfold bS
  by_cases i0 : i = 0
  · subst i0; exact h1.2
  rw [if_neg i0]
  by_cases i1 : i = 1
  · subst i1; exact h2.2
  rw [if_neg i1]
  by_cases i2 : i = 2
  · subst i2; exact h3.2
  rw [if_neg i2]
  by_cases i3 : i < 7
  · rw [if_pos i3]
    have := (h4 (i - 3) (by omega)).2
    rw [show 9 + (i - 3) = 6 + i by omega] at this
    exact this
  rw [if_neg i3]
  by_cases i4 : i < 13
  · rw [if_pos i4]
    have := (h5 (i - 7) (by omega)).2
    rw [show 13 + (i - 7) = 6 + i by omega] at this
    exact this
  rw [if_neg i4]
  by_cases i5 : i < 19
  · rw [if_pos i5]
    have := (h6 (i - 13) (by omega)).2
    rw [show 19 + (i - 13) = 6 + i by omega] at this
    exact this
  rw [if_neg i5]
  have := (h7 (i - 19) (by omega)).2
  rw [show 25 + (i - 19) = 6 + i by omega] at this
  exact this
end Log
