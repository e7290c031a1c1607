/-! T2, retreat: all rounds, both -/
section Lay2
variable {fz : List FP} {r : Nat → Int32} {n to : Nat}
theorem st1_b {d : Nat → Nat} {b : Nat} (hd : Lb n b d) (hr : ∀ f o, f < n → o < n → rdN r f o ≤ 99) : ∀ k, k ≤ n → Lb n (b + 99 * k) (st1 n (ldN r to) (rdN r) d k) := by
  intro k
  induction k with
  | zero => intro _; exact hd
  | succ k ih =>
    intro hk x hx
    have i1 := ih (by omega)
    show (if x = k then _ else _) = _ ∨ (if x = k then _ else _) ≤ _
    by_cases e : x = k
    · rw [if_pos e]
      have := rx_b (r := r) (to := to) (f := k) (s := st1 n (ldN r to) (rdN r) d k k) (k := n) i1 (by rcases i1 k (by omega) with z | z; exact Or.inl z; exact Or.inr (by omega)) (fun o ho => hr k o (by omega) ho) (Nat.le_refl _)
      rcases this with z | z
      · exact Or.inl z
      · exact Or.inr (by omega)
    · rw [if_neg e]
      rcases i1 x hx with z | z
      · exact Or.inl z
      · exact Or.inr (by omega)
theorem m_round {c : St} {d : Nat → Nat} {b : Nat} {v4 : Int32} {k45 : Int32 → Int32 → Int32 → St → Option (Unit × St)} (h0 : d to = 0) (hb : b + 594 ≤ 3900) (hd : Lb n b d) : ∀ (q N : Nat) (m : St), q ≤ n → Dq r n to c m → Lm n (st1 n (ldN r to) (rdN r) d (n - q)) m → ∃ m', lp (fun _ _ _ _ _ => none) (fX12_layHours_b54 k45) (N + 1 + q) (Int32.ofNat to) (Int32.ofNat n) v4 (Int32.ofNat (n - q)) m = k45 (Int32.ofNat to) (Int32.ofNat n) (v4 + 1) m' ∧ Lm n (st1 n (ldN r to) (rdN r) d n) m' ∧ fr [] [] [41] m m' := by
  intro q
  induction q with
  | zero =>
    intro N m _ H hL
    refine ⟨m, ?_, hL, fr.rf⟩
    rw [Nat.add_zero, Nat.sub_zero, lp_s]
    generalize lp (fun _ _ _ _ _ => none) (fX12_layHours_b54 k45) N = kk
    unfold fX12_layHours_b54
    rw [if_pos (Int32.le_refl _), lt_v]
  | succ q ih =>
    intro N m hq H hL
    have h6 := H.2.1
    have ht := H.2.2.1
    have e1 : n - q = (n - (q + 1)) + 1 := by omega
    have hi : n - (q + 1) < n := by omega
    have ih' := ih N
    rw [← Nat.add_assoc, lp_s]
    generalize n - (q + 1) = i at e1 hi hL ⊢
    rw [e1] at ih'
    generalize lp (fun _ _ _ _ _ => none) (fX12_layHours_b54 k45) (N + 1 + q) = kk at ih' ⊢
    have hr : ∀ f o, f < n → o < n → rdN r f o ≤ 99 := fun f o hf ho => (rdN_le H hf ho).1
    have hbi := st1_b (to := to) hd hr i (by omega)
    have hstep : ∃ m1, fX12_layHours_b54 k45 kk (Int32.ofNat to) (Int32.ofNat n) v4 (Int32.ofNat i) m = kk (Int32.ofNat to) (Int32.ofNat n) v4 (Int32.ofNat (i + 1)) m1 ∧ Lm n (st1 n (ldN r to) (rdN r) d (i + 1)) m1 ∧ fr [] [] [41] m m1 := by
      by_cases e : i = to
      · refine ⟨m, ?_, ?_, fr.rf⟩
        · unfold fX12_layHours_b54
          rw [if_leF hi (by omega), show (6000 : Nat) = 5999 + 1 from rfl, lp_s]
          generalize lp (fun _ _ _ _ _ _ => none) (fX12_layHours_b63 k45 kk) 5999 = k3
          unfold fX12_layHours_b63 fX12_layHours_b123
          rw [if_neg (show ¬ (Int32.ofNat n ≤ 0) from fun q => by have := (oN_le (b := 0) (by omega) (by decide)).mp q; omega), if_eqT e, lt_v, oN_s]
        · intro x hx
          show m.2.2.1 41 x = Int32.ofNat (fmN (if x = i then _ else _))
          by_cases z : x = i
          · rw [if_pos z, hL x hx, z]
            have hz : st1 n (ldN r to) (rdN r) d i i = 0 := by
              have := st1_le n (ldN r to) (rdN r) d i i
              rw [e] at this ⊢
              omega
            have hz2 := rx_le (ldN r to) (rdN r) (st1 n (ldN r to) (rdN r) d i) i (st1 n (ldN r to) (rdN r) d i i) n
            rw [hz] at hz2 ⊢
            rw [show rx (ldN r to) (rdN r) (st1 n (ldN r to) (rdN r) d i) i 0 n = 0 by omega]
          · rw [if_neg z]; exact hL x hx
      · obtain ⟨m1, a1, a2, a3, a4⟩ := m_stops (c := c) (f := i) (b := b + 99 * i) (v4 := v4) (k45 := k45) (k54 := kk) hi e (by omega) hbi n (5999 - n) m (Nat.le_refl _) H (fun x hx _ => hL x hx) (by rw [Nat.sub_self]; exact hL i hi)
        rw [show 5999 - n + 1 + n = 6000 by omega, Nat.sub_self] at a1
        refine ⟨m1, ?_, ?_, a4⟩
        · conv => lhs; unfold fX12_layHours_b54
          rw [if_leF hi (by omega)]
          exact a1
        · intro x hx
          show m1.2.2.1 41 x = Int32.ofNat (fmN (if x = i then _ else _))
          by_cases z : x = i
          · rw [if_pos z, z]; exact a3
          · rw [if_neg z]; exact a2 x hx z
    obtain ⟨m1, b1, b2, b3⟩ := hstep
    obtain ⟨m', a1, a2, a3⟩ := ih' m1 (by omega) (H.f (fr.rf (st := c)) b3) b2
    exact ⟨m', b1.trans a1, a2, b3.tr a3⟩
theorem rs_b {d : Nat → Nat} (hd : Lb n 0 d) (h6 : n ≤ 6) (hr : ∀ f o, f < n → o < n → rdN r f o ≤ 99) : ∀ k, Lb n (594 * k) (rs n (ldN r to) (rdN r) d k) := by
  intro k
  induction k with
  | zero => exact hd
  | succ k ih =>
    intro x hx
    rcases st1_b (to := to) ih hr n (Nat.le_refl _) x hx with z | z
    · exact Or.inl z
    · refine Or.inr (Nat.le_trans z ?_)
      omega
theorem m_rounds {c : St} {d : Nat → Nat} (h0 : d to = 0) (hd : Lb n 0 d) : ∀ (q N : Nat) (m : St), q ≤ n → Dq r n to c m → Lm n (rs n (ldN r to) (rdN r) d (n - q)) m → ∃ m', lp (fun _ _ _ _ => none) fX12_layHours_b45 (N + 1 + q) (Int32.ofNat to) (Int32.ofNat n) (Int32.ofNat (n - q)) m = some ((), m') ∧ Lm n (rs n (ldN r to) (rdN r) d n) m' ∧ fr [] [] [41] m m' := by
  intro q
  induction q with
  | zero =>
    intro N m _ H hL
    refine ⟨m, ?_, hL, fr.rf⟩
    rw [Nat.add_zero, Nat.sub_zero, lp_s]
    generalize lp (fun _ _ _ _ => none) fX12_layHours_b45 N = kk
    unfold fX12_layHours_b45
    rw [if_pos (Int32.le_refl _)]
  | succ q ih =>
    intro N m hq H hL
    have h6 := H.2.1
    have e1 : n - q = (n - (q + 1)) + 1 := by omega
    have hi : n - (q + 1) < n := by omega
    have ih' := ih N
    rw [← Nat.add_assoc, lp_s]
    generalize n - (q + 1) = i at e1 hi hL ⊢
    rw [e1] at ih'
    generalize lp (fun _ _ _ _ => none) fX12_layHours_b45 (N + 1 + q) = kk at ih' ⊢
    have hr : ∀ f o, f < n → o < n → rdN r f o ≤ 99 := fun f o hf ho => (rdN_le H hf ho).1
    have hz : rs n (ldN r to) (rdN r) d i to = 0 := by
      have : ∀ k, rs n (ldN r to) (rdN r) d k to ≤ d to := by
        intro k
        induction k with
        | zero => exact Nat.le_refl _
        | succ k ih2 => exact Nat.le_trans (st1_le n (ldN r to) (rdN r) _ n to) ih2
      have := this i
      omega
    obtain ⟨m1, a1, a2, a3⟩ := m_round (c := c) (v4 := Int32.ofNat i) (k45 := kk) hz (b := 594 * i) (by omega) (rs_b hd h6 hr i) n (5999 - n) m (Nat.le_refl _) H (by rw [Nat.sub_self]; exact hL)
    rw [show 5999 - n + 1 + n = 6000 by omega, Nat.sub_self, oN_s] at a1
    have hstep : fX12_layHours_b45 kk (Int32.ofNat to) (Int32.ofNat n) (Int32.ofNat i) m = kk (Int32.ofNat to) (Int32.ofNat n) (Int32.ofNat (i + 1)) m1 := by
      unfold fX12_layHours_b45
      rw [if_leF hi (by omega)]
      exact a1
    obtain ⟨m', b1, b2, b3⟩ := ih' m1 (by omega) (H.f (fr.rf (st := c)) a3) a2
    exact ⟨m', hstep.trans b1, b2, a3.tr b3⟩
/-- at first: far, but for the goal -/
def d0N (to x : Nat) : Nat := if x = to then 0 else 1000000
theorem m_lay0 {c : St} : ∀ (q N : Nat) (m : St), q ≤ n → Dq r n to c m → (∀ x, x < n - q → m.2.2.1 41 x = Int32.ofNat (fmN (d0N to x))) → ∃ m', lp (fun _ _ _ _ => none) fX12_layHours_b10 (N + 1 + q) (Int32.ofNat to) (Int32.ofNat n) (Int32.ofNat (n - q)) m = lp (fun _ _ _ _ => none) fX12_layHours_b45 6000 (Int32.ofNat to) (Int32.ofNat n) 0 m' ∧ Lm n (d0N to) m' ∧ fr [] [] [41] m m' := by
  intro q
  induction q with
  | zero =>
    intro N m _ H hL
    refine ⟨m, ?_, hL, fr.rf⟩
    rw [Nat.add_zero, Nat.sub_zero, lp_s]
    generalize lp (fun _ _ _ _ => none) fX12_layHours_b10 N = kk
    conv => lhs; unfold fX12_layHours_b10
    rw [if_pos (Int32.le_refl _)]
  | succ q ih =>
    intro N m hq H hL
    have h6 := H.2.1
    have ht := H.2.2.1
    have e1 : n - q = (n - (q + 1)) + 1 := by omega
    have hi : n - (q + 1) < n := by omega
    have ih' := ih N
    rw [← Nat.add_assoc, lp_s]
    generalize n - (q + 1) = i at e1 hi hL ⊢
    rw [e1] at ih'
    generalize lp (fun _ _ _ _ => none) fX12_layHours_b10 (N + 1 + q) = kk at ih' ⊢
    have hstep : fX12_layHours_b10 kk (Int32.ofNat to) (Int32.ofNat n) (Int32.ofNat i) m = kk (Int32.ofNat to) (Int32.ofNat n) (Int32.ofNat (i + 1)) (sA m 41 (upd (m.2.2.1 41) i (Int32.ofNat (fmN (d0N to i))))) := by
      conv => lhs; unfold fX12_layHours_b10 fX12_layHours_b35
      rw [if_leF hi (by omega), gi_N (show i < 6 by omega) (by decide), gi_N (show i < 6 by omega) (by decide), oN_tn (show i < 2147483648 by omega), lt_v, lt_v, lt_v, lt_v, oN_s]
      unfold fmN d0N
      by_cases e : i = to
      · rw [if_eqT e, if_pos e]; rfl
      · rw [if_eqF e (by omega) (by omega), if_neg e]; rfl
    have f1 : fr [] [] [41] m (sA m 41 (upd (m.2.2.1 41) i (Int32.ofNat (fmN (d0N to i))))) := fr.sA (by decide)
    obtain ⟨m', b1, b2, b3⟩ := ih' _ (by omega) (H.f (fr.rf (st := c)) f1) (by
      intro x hx
      show upd (m.2.2.1 41) i _ x = _
      rw [upd_v]
      by_cases e : x = i
      · rw [if_pos e, e]
      · rw [if_neg e]; exact hL x (by omega))
    exact ⟨m', hstep.trans b1, b2, f1.tr b3⟩
theorem c_far : ∀ (k N : Nat) (st : St), k ≤ 6 → (∀ h, h < 6 - k → st.2.2.1 106 h = 1000000) → ∃ st', lp (fun _ _ _ _ => none) (fJ7_fill_53178__106_b5 fz) (N + 1 + k) 1000000 (Int32.ofNat (6 - k)) 6 st = some ((), st') ∧ fr [] [] [106] st st' ∧ ∀ h, h < 6 → st'.2.2.1 106 h = 1000000 := by
  intro k
  induction k with
  | zero =>
    intro N st _ h
    refine ⟨st, ?_, fr.rf, h⟩
    rw [Nat.add_zero, lp_s]
    generalize lp (fun _ _ _ _ => none) (fJ7_fill_53178__106_b5 fz) N = kk
    unfold fJ7_fill_53178__106_b5
    rw [if_pos (show (6 : Int32) ≤ Int32.ofNat (6 - 0) by decide)]
  | succ k ih =>
    intro N st hk h
    have e1 : 6 - k = (6 - (k + 1)) + 1 := by omega
    have hi : 6 - (k + 1) < 6 := by omega
    generalize 6 - (k + 1) = i at e1 hi h ⊢
    obtain ⟨st', j1, j2, j3⟩ := ih N (sA st 106 (upd (st.2.2.1 106) i 1000000)) (by omega) (by
      intro q hq
      show upd (st.2.2.1 106) i _ q = _
      rw [upd_v]
      by_cases e : q = i
      · rw [if_pos e]
      · rw [if_neg e]; exact h q (by omega))
    refine ⟨st', ?_, (fr.sA (by decide)).tr j2, j3⟩
    rw [← j1, ← Nat.add_assoc, lp_s]
    generalize lp (fun _ _ _ _ => none) (fJ7_fill_53178__106_b5 fz) (N + 1 + k) = kk
    unfold fJ7_fill_53178__106_b5
    rw [if_neg (show ¬ ((6 : Int32) ≤ Int32.ofNat i) from fun q => by have := (oN_le (a := 6) (by decide) (by omega)).mp q; omega), gi_N hi (by decide), oN_tn (by omega), lt_v, lt_v, oN_s, e1]
/-- BOTH LAY THE SAME HOURS e, and these are at rest -/
theorem lay_both {c m : St} {v : Int32} (H : Dq r n to c m) : ∃ e c' m', fX6_measureTo (Int32.ofNat to) fz c = some ((), c') ∧ fX12_layHours v (Int32.ofNat to) m = some ((), m') ∧ Lc n e c' ∧ Lm n e m' ∧ Lb n 3564 e ∧ e to = 0 ∧ (∀ x, x < n → rx (ldN r to) (rdN r) e x (e x) n = e x) ∧ (∀ x, x < n → x ≠ to → e x ≠ 1000000 → ∃ o, o < n ∧ ldN r to x o = true ∧ e x = rdN r x o + e o) ∧ fr [] [] [106] c c' ∧ fr [] [] [41] m m' := by
  have h6 := H.2.1
  have ht := H.2.2.1
  have hr : ∀ f o, f < n → o < n → rdN r f o ≤ 99 := fun f o hf ho => (rdN_le H hf ho).1
  have hpos : ∀ f o, ldN r to f o = true → 0 < rdN r f o := by
    intro f o h
    unfold ldN at h
    have := (Bool.and_eq_true _ _ ▸ h).1
    exact of_decide_eq_true this
  have hz : d0N to to = 0 := if_pos rfl
  have hfar : ∀ x, x < n → x ≠ to → ∀ f o, d0N to f ≤ rdN r o x + d0N to x := by
    intro x _ hx f o
    unfold d0N
    rw [if_neg hx]
    split <;> omega
  have hb0 : ∀ x, x < n → d0N to x ≤ 1000000 := fun x _ => by unfold d0N; split <;> omega
  have hL0 : Lb n 0 (d0N to) := fun x _ => by
    unfold d0N
    by_cases e : x = to
    · rw [if_pos e]; exact Or.inr (Nat.le_refl _)
    · rw [if_neg e]; exact Or.inl rfl
  have hend := rs_end n (ldN r to) (rdN r) (d := d0N to) (to := to) ht hpos hz hfar
  have hfix := jc_end n (ldN r to) (rdN r) (d := d0N to) (to := to) ht hpos hz hfar
  obtain ⟨c1, u1, u2, u3⟩ := c_far (fz := fz) 6 5993 c (Nat.le_refl _) (fun _ h => absurd h (by omega))
  have f2 : fr [] [] [106] c1 (sA c1 106 (upd (c1.2.2.1 106) to 0)) := fr.sA (by decide)
  obtain ⟨c2, w1, w2, w3⟩ := c_rounds (fz := fz) (m := m) (d := d0N to) (by omega) hb0 (n - 1) (5999 - (n - 1)) (sA c1 106 (upd (c1.2.2.1 106) to 0)) (Nat.le_refl _) (H.f (u2.tr f2) (fr.rf (st := m))) (by
    rw [Nat.sub_self]
    intro x hx
    show upd (c1.2.2.1 106) to 0 x = Int32.ofNat (d0N to x)
    unfold d0N
    rw [upd_v]
    by_cases e : x = to
    · rw [if_pos e, if_pos e]; rfl
    · rw [if_neg e, if_neg e, u3 x (by omega)]; rfl)
  rw [show 5999 - (n - 1) + 1 + (n - 1) = 6000 by omega, show n - (n - 1) = 1 by omega] at w1
  have w1' : lp (fun _ _ _ => none) (fX6_measureTo_b18 fz) 6000 (Int32.ofNat to) 1 (sA c1 106 (upd (c1.2.2.1 106) to 0)) = some ((), c2) := w1
  obtain ⟨m1, a1, a2, a3⟩ := m_lay0 (c := c) n (5999 - n) m (Nat.le_refl _) H (fun x hx => absurd hx (by omega))
  rw [show 5999 - n + 1 + n = 6000 by omega, Nat.sub_self] at a1
  obtain ⟨m2, b1, b2, b3⟩ := m_rounds (c := c) hz hL0 n (5999 - n) m1 (Nat.le_refl _) (H.f (fr.rf (st := c)) a3) (by rw [Nat.sub_self]; exact a2)
  rw [show 5999 - n + 1 + n = 6000 by omega, Nat.sub_self] at b1
  have hjb : Lb n 3564 (jc n (ldN r to) (rdN r) (d0N to) (n - 1)) := by
    intro x hx
    rw [← (hend x hx).1]
    rcases rs_b hL0 h6 hr (n - 1) x hx with z | z
    · exact Or.inl z
    · exact Or.inr (by omega)
  refine ⟨jc n (ldN r to) (rdN r) (d0N to) (n - 1), c2, m2, ?_, ?_, ?_, ?_, hjb, ?_, hfix, ?_, (u2.tr f2).tr w3, a3.tr b3⟩
  · unfold fX6_measureTo fJ7_fill_53178__106
    have u1' : lp (fun _ _ _ _ => none) (fJ7_fill_53178__106_b5 fz) 6000 1000000 0 6 c = some ((), c1) := u1
    rw [u1', bd_v, gi_N (show to < 6 by omega) (by decide), oN_tn (by omega), lt_v]
    exact w1'
  · unfold fX12_layHours
    have e0 : m.2.2.1 3 (0 : Int32).toNatClampNeg = Int32.ofNat n := by rw [H.1]; exact H.2.2.2.1
    rw [e0, lt_v]
    exact a1.trans b1
  · intro x hx
    rw [w2 x hx, (hend x hx).1]
  · intro x hx
    rw [b2 x hx, (hend x hx).2]
  · have : ∀ k, jc n (ldN r to) (rdN r) (d0N to) k to ≤ 0 := by
      intro k
      induction k with
      | zero => show d0N to to ≤ 0; rw [hz]; exact Nat.le_refl _
      | succ k ih => exact Nat.le_trans (jc_le n (ldN r to) (rdN r) (d0N to) k to) ih
    have := this (n - 1)
    omega
  · intro x hx hxt hxf
    have hat : ∀ k, jc n (ldN r to) (rdN r) (d0N to) k x = 1000000 ∨ ∃ o, o < n ∧ ldN r to x o = true ∧ rdN r x o + jc n (ldN r to) (rdN r) (d0N to) k o ≤ jc n (ldN r to) (rdN r) (d0N to) k x := by
      intro k
      induction k with
      | zero => exact Or.inl (if_neg hxt)
      | succ k ih =>
        have hx2 : jc n (ldN r to) (rdN r) (d0N to) (k + 1) x = rx (ldN r to) (rdN r) (jc n (ldN r to) (rdN r) (d0N to) k) x (jc n (ldN r to) (rdN r) (d0N to) k x) n := rfl
        rcases rx_at (ldN r to) (rdN r) (jc n (ldN r to) (rdN r) (d0N to) k) x (jc n (ldN r to) (rdN r) (d0N to) k x) n with e | ⟨o, h1, h2, h3⟩
        · rcases ih with z | ⟨o, z1, z2, z3⟩
          · exact Or.inl (by rw [hx2, e]; exact z)
          · have := jc_le n (ldN r to) (rdN r) (d0N to) k o
            exact Or.inr ⟨o, z1, z2, by rw [hx2, e]; omega⟩
        · have := jc_le n (ldN r to) (rdN r) (d0N to) k o
          exact Or.inr ⟨o, h1, h2, by rw [hx2, h3]; omega⟩
    rcases hat (n - 1) with z | ⟨o, z1, z2, z3⟩
    · exact absurd z hxf
    · have h5 := rx_by (ldN r to) (rdN r) (jc n (ldN r to) (rdN r) (d0N to) (n - 1)) x (jc n (ldN r to) (rdN r) (d0N to) (n - 1) x) n o z1 z2
      rw [hfix x hx] at h5
      exact ⟨o, z1, z2, by omega⟩
end Lay2
