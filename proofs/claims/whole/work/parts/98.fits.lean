/-! T2, sets of fires that fit; fits -/
/-- the set s agrees with the first k counts -/
def ag (r : Nat → Int32) (n s : Nat) : Nat → Bool
  | 0 => true
  | k + 1 => ag r n s k && decide (sv r n (r (107 + 2 * k)).toNatClampNeg s = (r (108 + 2 * k)).toNatClampNeg)
theorem ag_f {r : Nat → Int32} {n s k : Nat} (h : ag r n s k = false) : ∀ j, k ≤ j → ag r n s j = false := by
  intro j
  induction j with
  | zero => intro hk; rw [show (0 : Nat) = k by omega]; exact h
  | succ j ih =>
    intro hk
    by_cases e : k = j + 1
    · rw [← e]; exact h
    · show (ag r n s j && _) = false
      rw [ih (by omega)]; rfl
/-- what the hills' questions rest on -/
def Hq (r : Nat → Int32) (n t : Nat) (c m : St) : Prop := m.2.2.1 3 = r ∧ n ≤ 10 ∧ r 2 = Int32.ofNat n ∧ c.1 305 = Int32.ofNat n ∧ (∀ f, f < 10 → nb 63 (r (91 + f))) ∧ (∀ h, h < 6 → c.2.2.1 300 h = Int32.ofNat (sb r h n)) ∧ t ≤ 8 ∧ r 3 = Int32.ofNat t ∧ c.1 306 = Int32.ofNat t ∧ ∀ i, i < 8 → (c.2.2.1 302 i = r (107 + 2 * i) ∧ nb 5 (r (107 + 2 * i))) ∧ (c.2.2.1 303 i = r (108 + 2 * i) ∧ nb 9 (r (108 + 2 * i)))
section Fits
variable {fz : List FP} {c m : St} {r : Nat → Int32} {n t : Nat}
theorem Rh.hq (h : Rh 0 c (m.2.2.1 3)) : ∃ n t, Hq (m.2.2.1 3) n t c m := by
  obtain ⟨⟨n, hn, en, q305, g1⟩, ⟨g2, t, ht, et⟩, g3, g4, g5⟩ := h
  exact ⟨n, t, rfl, hn, en, q305, g5, g1, ht, et, g2.trans et, g4⟩
theorem c_agr_l {s : Nat} (H : Hq r n t c m) (hs : s < 1024) : ∀ (k N : Nat), k ≤ t → ag r n s (t - k) = true → lp (fun _ _ _ => none) (fX4_agrees_b2 fz) (N + 1 + k) (Int32.ofNat s) (Int32.ofNat (t - k)) c = some ((if ag r n s t = true then 1 else 0), c) := by
  obtain ⟨er, hn, e2, h305, hf, e3, ht, e4, h306, e5⟩ := H
  intro k
  induction k with
  | zero =>
    intro N _ h
    rw [Nat.add_zero, lp_s]
    generalize lp (fun _ _ _ => none) (fX4_agrees_b2 fz) N = kk
    unfold fX4_agrees_b2
    rw [h306, Nat.sub_zero, if_pos (Int32.le_refl _)]
    have h' : ag r n s t = true := h
    rw [if_pos h']
  | succ k ih =>
    intro N hk h
    have e1 : t - k = (t - (k + 1)) + 1 := by omega
    have hi : t - (k + 1) < t := by omega
    have ih' := ih N (by omega)
    rw [← Nat.add_assoc, lp_s]
    generalize lp (fun _ _ _ => none) (fX4_agrees_b2 fz) (N + 1 + k) = kk at ih' ⊢
    generalize t - (k + 1) = i at e1 hi h ⊢
    rw [e1] at ih'
    obtain ⟨⟨q1, a, ha, ea⟩, q2, w, hw, ew⟩ := e5 i (by omega)
    have su1 : ag r n s (i + 1) = decide (sv r n a s = w) := by
      show (ag r n s i && _) = _
      rw [h, ew, ea, oN_tn (by omega), oN_tn (by omega)]; rfl
    have hsv := sv_le r n a s
    unfold fX4_agrees_b2
    rw [h306, if_neg (show ¬ (Int32.ofNat t ≤ Int32.ofNat i) from fun q => by have := (oN_le (by omega) (by omega)).mp q; omega), gi_N (show i < 8 by omega) (by decide), oN_tn (show i < 2147483648 by omega), q1, ea, gi_N (show a < 6 by omega) (by decide), oN_tn (show a < 2147483648 by omega), c_seen (e3 a (by omega)) hs, bs_v, gi_N (show i < 8 by omega) (by decide), q2, ew]
    by_cases q : sv r n a s = w
    · rw [if_eqT q, lt_v, oN_s]
      exact ih' (by rw [su1]; exact decide_eq_true q)
    · rw [if_eqF q (by omega) (by omega)]
      have : ag r n s t = false := ag_f (k := i + 1) (by rw [su1]; exact decide_eq_false q) t (by omega)
      rw [this]; rfl
theorem c_agr {s : Nat} (H : Hq r n t c m) (hs : s < 1024) : fX4_agrees (Int32.ofNat s) fz c = some ((if ag r n s t = true then 1 else 0), c) := by
  have hl := c_agr_l (fz := fz) H hs t (5999 - t) (Nat.le_refl _) (by rw [Nat.sub_self]; rfl)
  have ht := H.2.2.2.2.2.2.1
  rw [show 5999 - t + 1 + t = 6000 by omega, Nat.sub_self] at hl
  exact hl
theorem m_agr_l {s : Nat} (H : Hq r n t c m) (hs : s < 1024) : ∀ (k N : Nat), k ≤ t → ag r n s (t - k) = true → lp (fun _ _ _ _ => none) fX12_isFitting_b4 (N + 2 + k) (Int32.ofNat s) 1 (Int32.ofNat (t - k)) m = some ((if ag r n s t = true then 1 else 0), m) := by
  obtain ⟨er, hn, e2, h305, hf, e3, ht, e4, h306, e5⟩ := H
  have e4' : m.2.2.1 3 (3 : Int32).toNatClampNeg = Int32.ofNat t := by rw [er]; exact e4
  intro k
  induction k with
  | zero =>
    intro N _ h
    rw [Nat.add_zero, show N + 2 = N + 1 + 1 from rfl, lp_s]
    generalize lp (fun _ _ _ _ => none) fX12_isFitting_b4 (N + 1) = kk
    unfold fX12_isFitting_b4 fX12_isFitting_b62
    rw [e4', Nat.sub_zero, if_pos (Int32.le_refl _)]
    have h' : ag r n s t = true := h
    rw [if_pos h']; rfl
  | succ k ih =>
    intro N hk h
    have e1 : t - k = (t - (k + 1)) + 1 := by omega
    have hi : t - (k + 1) < t := by omega
    have ih' := ih N (by omega)
    have hstop : ∀ x, lp (fun _ _ _ _ => none) fX12_isFitting_b4 (N + 2 + k) (Int32.ofNat s) 0 x m = some (0, m) := by
      intro x
      rw [show N + 2 + k = (N + 1 + k) + 1 by omega, lp_s]
      generalize lp (fun _ _ _ _ => none) fX12_isFitting_b4 (N + 1 + k) = k3
      unfold fX12_isFitting_b4 fX12_isFitting_b62
      rw [if_pos (show (0 : Int32) = 0 from rfl)]
      split <;> rfl
    rw [← Nat.add_assoc, lp_s]
    generalize lp (fun _ _ _ _ => none) fX12_isFitting_b4 (N + 2 + k) = kk at ih' hstop ⊢
    generalize t - (k + 1) = i at e1 hi h ⊢
    rw [e1] at ih'
    obtain ⟨⟨q1, a, ha, ea⟩, q2, w, hw, ew⟩ := e5 i (by omega)
    have su1 : ag r n s (i + 1) = decide (sv r n a s = w) := by
      show (ag r n s i && _) = _
      rw [h, ew, ea, oN_tn (by omega), oN_tn (by omega)]; rfl
    have hsv := sv_le r n a s
    have i1 : (107 : Int32) + (2 : Int32) * Int32.ofNat i = Int32.ofNat (107 + 2 * i) := by rw [show (2 : Int32) = Int32.ofNat 2 from rfl, oN_mul, show (107 : Int32) = Int32.ofNat 107 from rfl, oN_add]
    have i2 : Int32.ofNat (107 + 2 * i) + (1 : Int32) = Int32.ofNat (108 + 2 * i) := by rw [oN_s]; congr 1; omega
    unfold fX12_isFitting_b4 fX12_isFitting_b55
    rw [e4', if_neg (show ¬ (Int32.ofNat t ≤ Int32.ofNat i) from fun q => by have := (oN_le (by omega) (by omega)).mp q; omega), if_neg one_ne0, i1, gi_N (show 107 + 2 * i < 5550 by omega) (by decide), oN_tn (show 107 + 2 * i < 2147483648 by omega), er, ea, m_seen er hn e2 hf (show a < 6 by omega) hs, bd_v, i2, gi_N (show 108 + 2 * i < 5550 by omega) (by decide), oN_tn (show 108 + 2 * i < 2147483648 by omega), er, ew]
    by_cases q : sv r n a s = w
    · rw [if_eqT q, lt_v, oN_s]
      exact ih' (by rw [su1]; exact decide_eq_true q)
    · rw [if_eqF q (by omega) (by omega), lt_v]
      have : ag r n s t = false := ag_f (k := i + 1) (by rw [su1]; exact decide_eq_false q) t (by omega)
      rw [this, hstop]; rfl
theorem m_agr {s : Nat} (H : Hq r n t c m) (hs : s < 1024) : fX12_isFitting (Int32.ofNat s) m = some ((if ag r n s t = true then 1 else 0), m) := by
  have hl := m_agr_l H hs t (5998 - t) (Nat.le_refl _) (by rw [Nat.sub_self]; rfl)
  have ht := H.2.2.2.2.2.2.1
  rw [show 5998 - t + 2 + t = 6000 by omega, Nat.sub_self] at hl
  exact hl
theorem fits_n {a : Int32} (H : Hq r n t c m) (ha : ∀ q, q < 3000 → Int32.ofNat q ≠ a) : ∀ (k N q : Nat), k ≤ 2 ^ n → q + k ≤ 1024 → ∃ Q, lp (fun _ _ _ => none) (fX4_countFitting_b4 fz) (N + 1 + k) (Int32.ofNat q) (Int32.ofNat (2 ^ n - k)) c = some (Int32.ofNat Q, c) ∧ ∀ its, lp (fun _ _ _ _ _ => none) fX12_fits_b12 (N + 1 + k) a (Int32.ofNat q) its (Int32.ofNat (2 ^ n - k)) m = (if a = -1 then some (Int32.ofNat Q, m) else some (its, m)) := by
  have H0 := H
  obtain ⟨er, hn, e2, h305, hf, e3, ht, e4, h306, e5⟩ := H
  have hp : 2 ^ n ≤ 1024 := show 2 ^ n ≤ 2 ^ 10 from Nat.pow_le_pow_right (by omega) hn
  have e2' : m.2.2.1 3 (2 : Int32).toNatClampNeg = Int32.ofNat n := by rw [er]; exact e2
  intro k
  induction k with
  | zero =>
    intro N q _ _
    refine ⟨q, ?_, fun its => ?_⟩
    · rw [Nat.add_zero, Nat.sub_zero, lp_s]
      generalize lp (fun _ _ _ => none) (fX4_countFitting_b4 fz) N = kk
      unfold fX4_countFitting_b4
      rw [h305, pwN hn, if_pos (Int32.le_refl _)]
    · rw [Nat.add_zero, Nat.sub_zero, lp_s]
      generalize lp (fun _ _ _ _ _ => none) fX12_fits_b12 N = kk
      unfold fX12_fits_b12 fX12_fits_b65
      rw [e2', pwN hn, if_pos (Int32.le_refl _)]
  | succ k ih =>
    intro N q hk hq
    have e1 : 2 ^ n - k = (2 ^ n - (k + 1)) + 1 := by omega
    have hs : 2 ^ n - (k + 1) < 2 ^ n := by omega
    have ih0 := ih N q (by omega) (by omega)
    have ih1 := ih N (q + 1) (by omega) (by omega)
    rw [← Nat.add_assoc, lp_s, lp_s]
    generalize 2 ^ n - (k + 1) = s at e1 hs ⊢
    rw [e1] at ih0 ih1
    generalize lp (fun _ _ _ => none) (fX4_countFitting_b4 fz) (N + 1 + k) = kc at ih0 ih1 ⊢
    generalize lp (fun _ _ _ _ _ => none) fX12_fits_b12 (N + 1 + k) = km at ih0 ih1 ⊢
    have hle : ¬ (Int32.ofNat (2 ^ n) ≤ Int32.ofNat s) := fun q => by have := (oN_le (by omega) (by omega)).mp q; omega
    unfold fX4_countFitting_b4 fX12_fits_b12 fX12_fits_b49 fX12_fits_b45 fX12_fits_b49
    rw [h305, e2', pwN hn, if_neg hle, c_agr H0 (by omega), bd_v]
    simp only [if_neg hle, m_agr H0 (show s < 1024 by omega), bd_v, lt_v, oN_s, if_neg (ha q (by omega))]
    by_cases w : ag r n s t = true
    · rw [if_pos w, c_bit (Or.inr rfl), bs_v, oN_s]
      simp only [if_neg one_ne0]
      exact ih1
    · rw [if_neg w, c_bit (Or.inl rfl), bs_v, Int32.add_zero]
      exact ih0
theorem fits_p {i : Nat} (hi : i < 2147483648) (H : Hq r n t c m) : ∀ (k N q : Nat) (its : Int32), k ≤ 2 ^ n → q + k ≤ 1024 → i < q → lp (fun _ _ _ _ _ => none) fX12_fits_b12 (N + 1 + k) (Int32.ofNat i) (Int32.ofNat q) its (Int32.ofNat (2 ^ n - k)) m = some (its, m) := by
  have H0 := H
  obtain ⟨er, hn, e2, h305, hf, e3, ht, e4, h306, e5⟩ := H
  have hp : 2 ^ n ≤ 1024 := show 2 ^ n ≤ 2 ^ 10 from Nat.pow_le_pow_right (by omega) hn
  have e2' : m.2.2.1 3 (2 : Int32).toNatClampNeg = Int32.ofNat n := by rw [er]; exact e2
  intro k
  induction k with
  | zero =>
    intro N q its _ _ _
    rw [Nat.add_zero, Nat.sub_zero, lp_s]
    generalize lp (fun _ _ _ _ _ => none) fX12_fits_b12 N = kk
    unfold fX12_fits_b12 fX12_fits_b65
    rw [e2', pwN hn, if_pos (Int32.le_refl _), if_neg (oN_ne1 hi)]
  | succ k ih =>
    intro N q its hk hq hiq
    have e1 : 2 ^ n - k = (2 ^ n - (k + 1)) + 1 := by omega
    have hs : 2 ^ n - (k + 1) < 2 ^ n := by omega
    have ih0 := ih N q its (by omega) (by omega) hiq
    have ih1 := ih N (q + 1) its (by omega) (by omega) (by omega)
    rw [← Nat.add_assoc, lp_s]
    generalize 2 ^ n - (k + 1) = s at e1 hs ⊢
    rw [e1] at ih0 ih1
    generalize lp (fun _ _ _ _ _ => none) fX12_fits_b12 (N + 1 + k) = km at ih0 ih1 ⊢
    have hle : ¬ (Int32.ofNat (2 ^ n) ≤ Int32.ofNat s) := fun q => by have := (oN_le (by omega) (by omega)).mp q; omega
    unfold fX12_fits_b12 fX12_fits_b49 fX12_fits_b45 fX12_fits_b49
    rw [e2', pwN hn, if_neg hle, m_agr H0 (by omega), bd_v, lt_v, lt_v, lt_v, lt_v, oN_s, oN_s, if_eqF (show q ≠ i by omega) (by omega) hi]
    by_cases w : ag r n s t = true
    · rw [if_pos w, if_neg one_ne0]; exact ih1
    · rw [if_neg w, if_pos rfl]; exact ih0
theorem fits_a {i : Nat} (hi : i < 2147483648) (H : Hq r n t c m) : ∀ (k N q : Nat), k ≤ 2 ^ n → q + k ≤ 1024 → q ≤ i → ∃ v, lp (fun _ _ _ => none) (fX4_fittingAt_b4 fz) (N + 1 + k) (Int32.ofNat (i - q)) (Int32.ofNat (2 ^ n - k)) c = some (v, c) ∧ lp (fun _ _ _ _ _ => none) fX12_fits_b12 (N + 1 + k) (Int32.ofNat i) (Int32.ofNat q) (-1) (Int32.ofNat (2 ^ n - k)) m = some (v, m) := by
  have H0 := H
  obtain ⟨er, hn, e2, h305, hf, e3, ht, e4, h306, e5⟩ := H
  have hp : 2 ^ n ≤ 1024 := show 2 ^ n ≤ 2 ^ 10 from Nat.pow_le_pow_right (by omega) hn
  have e2' : m.2.2.1 3 (2 : Int32).toNatClampNeg = Int32.ofNat n := by rw [er]; exact e2
  intro k
  induction k with
  | zero =>
    intro N q _ _ _
    refine ⟨-1, ?_, ?_⟩
    · rw [Nat.add_zero, Nat.sub_zero, lp_s]
      generalize lp (fun _ _ _ => none) (fX4_fittingAt_b4 fz) N = kk
      unfold fX4_fittingAt_b4
      rw [h305, pwN hn, if_pos (Int32.le_refl _)]
    · rw [Nat.add_zero, Nat.sub_zero, lp_s]
      generalize lp (fun _ _ _ _ _ => none) fX12_fits_b12 N = kk
      unfold fX12_fits_b12 fX12_fits_b65
      rw [e2', pwN hn, if_pos (Int32.le_refl _), if_neg (oN_ne1 hi)]
  | succ k ih =>
    intro N q hk hq hiq
    have e1 : 2 ^ n - k = (2 ^ n - (k + 1)) + 1 := by omega
    have hs : 2 ^ n - (k + 1) < 2 ^ n := by omega
    have ih0 := ih N q (by omega) (by omega) hiq
    have ih1 := fun h => ih N (q + 1) (by omega) (by omega) h
    have ihp := fun its h => fits_p (i := i) hi H0 k N (q + 1) its (by omega) (by omega) h
    rw [← Nat.add_assoc, lp_s, lp_s]
    generalize 2 ^ n - (k + 1) = s at e1 hs ⊢
    rw [e1] at ih0 ih1 ihp
    generalize lp (fun _ _ _ => none) (fX4_fittingAt_b4 fz) (N + 1 + k) = kc at ih0 ih1 ⊢
    generalize lp (fun _ _ _ _ _ => none) fX12_fits_b12 (N + 1 + k) = km at ih0 ih1 ihp ⊢
    have hle : ¬ (Int32.ofNat (2 ^ n) ≤ Int32.ofNat s) := fun q => by have := (oN_le (by omega) (by omega)).mp q; omega
    unfold fX4_fittingAt_b4 fX4_fittingAt_b31 fX12_fits_b12 fX12_fits_b49 fX12_fits_b45 fX12_fits_b49
    rw [h305, e2', pwN hn, if_neg hle, if_neg hle, c_agr H0 (by omega), bd_v, m_agr H0 (by omega), bd_v, lt_v, lt_v, lt_v, lt_v, lt_v, lt_v, lt_v, oN_s, oN_s]
    by_cases w : ag r n s t = true
    · rw [if_pos w, if_neg one_ne0, if_neg one_ne0]
      by_cases e : q = i
      · rw [if_pos (show Int32.ofNat (i - q) = 0 by rw [e, Nat.sub_self]; rfl), if_eqT e]
        exact ⟨_, rfl, ihp _ (by omega)⟩
      · rw [if_neg (show ¬ (Int32.ofNat (i - q) = 0) from fun z => by have := (oN_eq (b := 0) (by omega) (by omega)).mp z; omega), if_eqF e (by omega) hi, oN_pred (by omega), show i - q - 1 = i - (q + 1) by omega]
        exact ih1 (by omega)
    · rw [if_neg w, if_pos rfl, if_pos rfl]
      exact ih0
theorem fits_call (a : Int32) (h : RR fz c m) : Cl fz c m (fX11_fits a fz c) (fX12_fits a m) := by
  obtain ⟨n, t, H⟩ := Rh.hq (m := sI m 0 0) h.2.2.2.1
  have hn := H.2.1
  have hp : 2 ^ n ≤ 1024 := show 2 ^ n ≤ 2 ^ 10 from Nat.pow_le_pow_right (by omega) hn
  have hN : 5999 - 2 ^ n + 1 + 2 ^ n = 6000 := by omega
  unfold fX11_fits fX12_fits fX11_fits_b35
  rw [lt_v]
  by_cases h0 : (0 : Int32) ≤ a
  · obtain ⟨i, hi, ei⟩ := oN_ex h0
    subst ei
    rw [if_neg (oN_ne1 hi), if_pos h0]
    obtain ⟨v, k1, k2⟩ := fits_a (fz := fz) hi H (2 ^ n) (5999 - 2 ^ n) 0 (Nat.le_refl _) (by omega) (by omega)
    rw [hN, Nat.sub_self] at k1 k2
    have k1' : fX4_fittingAt (Int32.ofNat i) fz c = some (v, c) := k1
    have k2' : lp (fun _ _ _ _ _ => none) fX12_fits_b12 6000 (Int32.ofNat i) 0 (-1) 0 (sI m 0 0) = some (v, sI m 0 0) := k2
    rw [k1', bd_v, k2']
    exact Cl.of h
  · have ha : ∀ q, q < 3000 → Int32.ofNat q ≠ a := fun q hq e => h0 (by rw [← e]; exact oN_nn (by omega))
    obtain ⟨Q, k1, k2⟩ := fits_n (fz := fz) (a := a) H ha (2 ^ n) (5999 - 2 ^ n) 0 (Nat.le_refl _) (by omega)
    have k2 := k2 (-1)
    rw [hN, Nat.sub_self] at k1 k2
    have k1' : fX4_countFitting fz c = some (Int32.ofNat Q, c) := k1
    have k2' : lp (fun _ _ _ _ _ => none) fX12_fits_b12 6000 a 0 (-1) 0 (sI m 0 0) = _ := k2
    rw [k1', bd_v, k2']
    by_cases e : a = -1
    · rw [if_pos e, if_pos e]; exact Cl.of h
    · rw [if_neg e, if_neg e, if_neg h0]; exact Cl.of h
end Fits
