/-! T2, orders: all clauses, both sides -/
section OrdR
variable {fz : List FP} {c m : St}
/-- what is left when a clause can't be: the reference -/
def lost (had : Int32) (i : Nat) (m' : St) : Option (Int32 × St) := bd (fX12_giveBack had m') (fun _ st6 => lt (sI st6 48 (Int32.ofNat i)) (fun st7 => bd (fX12_tell (-3 : Int32) st7) (fun r8 st9 => some (r8, st9))))
theorem ord_in {k i tm : Nat} {Cm Cc : Cd} {k33 : Int32 → St → Option (Int32 × St)} {k140 : Int32 → Int32 → St → Option (Int32 × St)} {had : Int32} (hi : i < k) (hk : k ≤ 12) (htm : tm ≤ 20) : ∀ (r t d N N' : Nat) (c m : St), t + r = tm → d ≤ 20 * i + t → OI fz k Cm Cc d c m → c.2.2.1 601 i = Int32.ofNat tm → m.2.2.1 45 (8 * i + 7) = Int32.ofNat tm → ∃ c' m', FC c c' ∧ FM m m' ∧ ((lp (fun _ _ _ _ => none) (fX7_run_b60 fz k33) (N + 1 + r) (Int32.ofNat i) (c.2.2.1 600 i - 304) (Int32.ofNat t) c = k33 (Int32.ofNat (i + 1)) c' ∧ lp (fun _ _ _ _ => none) (fX12_orders_b150 k140) (N' + 1 + r) had (Int32.ofNat i) (Int32.ofNat t) m = k140 had (Int32.ofNat (i + 1)) m' ∧ ∃ d', d' ≤ 20 * (i + 1) ∧ OI fz k Cm Cc d' c' m') ∨ (lp (fun _ _ _ _ => none) (fX7_run_b60 fz k33) (N + 1 + r) (Int32.ofNat i) (c.2.2.1 600 i - 304) (Int32.ofNat t) c = undone fz i c' ∧ lp (fun _ _ _ _ => none) (fX12_orders_b150 k140) (N' + 1 + r) had (Int32.ofNat i) (Int32.ofNat t) m = lost had i m')) := by
  intro r
  induction r with
  | zero =>
    intro t d N N' c m ht hd hI h601 h45
    refine ⟨c, m, FC.rf, FM.rf, Or.inl ⟨?_, ?_, d, by omega, hI⟩⟩
    · rw [show N + 1 + 0 = N + 1 from rfl, lp_s]
      generalize lp (fun _ _ _ _ => none) (fX7_run_b60 fz k33) N = kk
      rw [b60_once, gi_N (by omega) (by decide), oN_tn (by omega), h601, if_leT (by omega) (by omega), lt_v, oN_s]
    · rw [show N' + 1 + 0 = N' + 1 from rfl, lp_s]
      generalize lp (fun _ _ _ _ => none) (fX12_orders_b150 k140) N' = kk
      unfold fX12_orders_b150
      rw [show (8 : Int32) = Int32.ofNat 8 from rfl, show (7 : Int32) = Int32.ofNat 7 from rfl, oN_mul, oN_add, gi_N (by omega) (by decide), oN_tn (by omega), h45, if_leT (by omega) (by omega), lt_v, oN_s]
  | succ r ih =>
    intro t d N N' c m ht hd hI h601 h45
    have hc : ∀ kk, fX7_run_b60 fz k33 kk (Int32.ofNat i) (c.2.2.1 600 i - 304) (Int32.ofNat t) c = once fz k33 kk (Int32.ofNat i) (c.2.2.1 600 i - 304) (Int32.ofNat t) c := by
      intro kk
      rw [b60_once, gi_N (by omega) (by decide), oN_tn (by omega), h601, if_leF (by omega) (by omega)]
    have hm : ∀ kk, fX12_orders_b150 k140 kk had (Int32.ofNat i) (Int32.ofNat t) m = (bd (fX12_run (Int32.ofNat (8 * i)) m) (fun r2 st3 => if 0 ≤ r2 then (lt (Int32.ofNat t + (1 : Int32)) (fun x4 => kk had (Int32.ofNat i) x4 st3)) else lost had i st3)) := by
      intro kk
      unfold fX12_orders_b150 lost
      rw [show (8 : Int32) = Int32.ofNat 8 from rfl, show (7 : Int32) = Int32.ofNat 7 from rfl, oN_mul, oN_add, gi_N (by omega) (by decide), oN_tn (by omega), h45, if_leF (by omega) (by omega)]
    obtain ⟨c1, m1, f1, g1, hcase⟩ := ord_once hI hi (by omega)
    rcases hcase with ⟨e1, e2, d1, hd1, hI1⟩ | ⟨e1, e2⟩
    · obtain ⟨c', m', f2, g2, hcase⟩ := ih (t + 1) d1 N N' c1 m1 (by omega) (by omega) hI1 (by rw [f1.2.2.1 601 (by decide)]; exact h601) (by rw [g1.2.2.1 45 (by decide)]; exact h45)
      have hcl : lp (fun _ _ _ _ => none) (fX7_run_b60 fz k33) (N + 1 + (r + 1)) (Int32.ofNat i) (c.2.2.1 600 i - 304) (Int32.ofNat t) c = lp (fun _ _ _ _ => none) (fX7_run_b60 fz k33) (N + 1 + r) (Int32.ofNat i) (c1.2.2.1 600 i - 304) (Int32.ofNat (t + 1)) c1 := by
        rw [← Nat.add_assoc, lp_s, hc, e2, oN_s, f1.2.2.1 600 (by decide)]
      have hml : lp (fun _ _ _ _ => none) (fX12_orders_b150 k140) (N' + 1 + (r + 1)) had (Int32.ofNat i) (Int32.ofNat t) m = lp (fun _ _ _ _ => none) (fX12_orders_b150 k140) (N' + 1 + r) had (Int32.ofNat i) (Int32.ofNat (t + 1)) m1 := by
        rw [← Nat.add_assoc, lp_s, hm, e1, bd_v, if_pos (by decide), lt_v, oN_s]
      refine ⟨c', m', f1.tr f2, g1.tr g2, ?_⟩
      rw [hcl, hml]
      exact hcase
    · refine ⟨c1, m1, f1, g1, Or.inr ⟨?_, ?_⟩⟩
      · rw [← Nat.add_assoc, lp_s, hc, e2]
      · rw [← Nat.add_assoc, lp_s, hm, e1, bd_v, if_neg (by decide)]
theorem ord_out {k : Nat} {Cm Cc : Cd} {had : Int32} : ∀ (r i d N N' : Nat) (c m : St), i + r = k → k ≤ 12 → d ≤ 20 * i → OI fz k Cm Cc d c m → ∃ c' m', FC c c' ∧ FM m m' ∧ ((lp (fun _ _ => none) (fX7_run_b33 fz) (N + 1 + r) (Int32.ofNat i) c = some (-1, c') ∧ lp (fun _ _ _ => none) fX12_orders_b140 (N' + 1 + r) had (Int32.ofNat i) m = bd (fX12_tell (m'.1 46) m') (fun r10 st11 => some (r10, st11)) ∧ ∃ d', d' ≤ 1000 ∧ OI fz k Cm Cc d' c' m') ∨ (∃ j, j < k ∧ lp (fun _ _ => none) (fX7_run_b33 fz) (N + 1 + r) (Int32.ofNat i) c = undone fz j c' ∧ lp (fun _ _ _ => none) fX12_orders_b140 (N' + 1 + r) had (Int32.ofNat i) m = lost had j m')) := by
  intro r
  induction r with
  | zero =>
    intro i d N N' c m hi hk hd hI
    have h605 : c.1 605 = Int32.ofNat k := hI.2.2.1.2.2.2.2.1
    have h21 : m.1 21 = Int32.ofNat k := hI.2.2.1.2.2.2.1
    refine ⟨c, m, FC.rf, FM.rf, Or.inl ⟨?_, ?_, d, by omega, hI⟩⟩
    · rw [show N + 1 + 0 = N + 1 from rfl, lp_s]
      generalize lp (fun _ _ => none) (fX7_run_b33 fz) N = kk
      unfold fX7_run_b33
      rw [h605, if_leT (by omega) (by omega)]
    · rw [show N' + 1 + 0 = N' + 1 from rfl, lp_s]
      generalize lp (fun _ _ _ => none) fX12_orders_b140 N' = kk
      unfold fX12_orders_b140
      rw [h21, if_leT (by omega) (by omega)]
  | succ r ih =>
    intro i d N N' c m hi hk hd hI
    have h605 : c.1 605 = Int32.ofNat k := hI.2.2.1.2.2.2.2.1
    have h21 : m.1 21 = Int32.ofNat k := hI.2.2.1.2.2.2.1
    obtain ⟨hd', tm, -, -, -, -, -, -, -, -, -, -, -, o1, o2, o3, o4, -, -, -, -, -, o10, -, -, -, o14, -⟩ := hI.2.2.1.2.2.2.2.2.2.2.2 i (by omega)
    have hc : lp (fun _ _ => none) (fX7_run_b33 fz) (N + 1 + (r + 1)) (Int32.ofNat i) c = lp (fun _ _ _ _ => none) (fX7_run_b60 fz (lp (fun _ _ => none) (fX7_run_b33 fz) (N + 1 + r))) 6000 (Int32.ofNat i) (c.2.2.1 600 i - 304) 0 c := by
      rw [← Nat.add_assoc, lp_s]
      generalize lp (fun _ _ => none) (fX7_run_b33 fz) (N + 1 + r) = kk
      unfold fX7_run_b33
      rw [h605, if_leF (by omega) (by omega), gi_N (by omega) (by decide), lt_v, oN_tn (by omega)]
    have hm : lp (fun _ _ _ => none) fX12_orders_b140 (N' + 1 + (r + 1)) had (Int32.ofNat i) m = lp (fun _ _ _ _ => none) (fX12_orders_b150 (lp (fun _ _ _ => none) fX12_orders_b140 (N' + 1 + r))) 6000 had (Int32.ofNat i) 0 m := by
      rw [← Nat.add_assoc, lp_s]
      generalize lp (fun _ _ _ => none) fX12_orders_b140 (N' + 1 + r) = kk
      unfold fX12_orders_b140
      rw [h21, if_leF (by omega) (by omega)]
    obtain ⟨c1, m1, f1, g1, hcase⟩ := ord_in (fz := fz) (Cm := Cm) (Cc := Cc) (k33 := lp (fun _ _ => none) (fX7_run_b33 fz) (N + 1 + r)) (k140 := lp (fun _ _ _ => none) fX12_orders_b140 (N' + 1 + r)) (had := had) (i := i) (k := k) (tm := tm) (by omega) hk o4 tm 0 d (5999 - tm) (5999 - tm) c m (by omega) (by omega) hI o14 o10
    rw [show 5999 - tm + 1 + tm = 6000 by omega] at hcase
    rcases hcase with ⟨e1, e2, d1, hd1, hI1⟩ | ⟨e1, e2⟩
    · obtain ⟨c', m', f2, g2, hcase⟩ := ih (i + 1) d1 N N' c1 m1 (by omega) hk hd1 hI1
      refine ⟨c', m', f1.tr f2, g1.tr g2, ?_⟩
      rw [hc, hm]
      have e1' : lp (fun _ _ _ _ => none) (fX7_run_b60 fz (lp (fun _ _ => none) (fX7_run_b33 fz) (N + 1 + r))) 6000 (Int32.ofNat i) (c.2.2.1 600 i - 304) 0 c = _ := e1
      have e2' : lp (fun _ _ _ _ => none) (fX12_orders_b150 (lp (fun _ _ _ => none) fX12_orders_b140 (N' + 1 + r))) 6000 had (Int32.ofNat i) 0 m = _ := e2
      rw [e1', e2']
      exact hcase
    · exact ⟨c1, m1, f1, g1, Or.inr ⟨i, by omega, hc.trans e1, hm.trans e2⟩⟩
/-! the log is marked and returned to -/
theorem c_mark {n : Nat} (hn : n ≤ 16) (h : c.1 905 = Int32.ofNat n) : ∃ c', fX2_markLog fz c = some ((), c') ∧ fr [904] [] [903] c c' ∧ c'.1 904 = Int32.ofNat n ∧ ∀ k, k < 7 * n → c'.2.2.1 903 k = c.2.2.1 902 k := by
  refine ⟨sI (sA c 903 (va_cpy (c.2.2.1 902) (c.2.2.1 903) 0 0 (7 * n))) 904 (Int32.ofNat n), ?_, (fr.sA (by decide)).tr (fr.sI (by decide)), rfl, fun k hk => ?_⟩
  · unfold fX2_markLog gcp
    rw [h, show (7 : Int32) = Int32.ofNat 7 from rfl, oN_mul, Nat.mul_comm n 7, oN_tn (by omega), show (0 : Int32).toNatClampNeg = 0 from rfl, if_neg (fun q => by
      rcases q with q | q | q | q | q
      · exact absurd q (by decide)
      · exact absurd q (by decide)
      · exact oN_neg (by omega) q
      · omega
      · omega), lt_v, lt_v, show (sA c 903 (va_cpy (c.2.2.1 902) (c.2.2.1 903) 0 0 (7 * n))).1 905 = Int32.ofNat n from h]
  · show va_cpy (c.2.2.1 902) (c.2.2.1 903) 0 0 (7 * n) k = _
    rw [cpy_v, if_pos (by omega), show 0 + (k - 0) = k by omega]
theorem c_ret {n : Nat} (hn : n ≤ 16) (h : c.1 904 = Int32.ofNat n) : ∃ c', fX2_returnToMark fz c = some ((), c') ∧ fr [905] [] [902] c c' ∧ c'.1 905 = Int32.ofNat n ∧ ∀ k, k < 7 * n → c'.2.2.1 902 k = c.2.2.1 903 k := by
  refine ⟨sA (sI c 905 (Int32.ofNat n)) 902 (va_cpy (c.2.2.1 903) (c.2.2.1 902) 0 0 (7 * n)), ?_, (fr.sI (by decide)).tr (fr.sA (by decide)), rfl, fun k hk => ?_⟩
  · unfold fX2_returnToMark gcp
    rw [lt_v, h, show (sI c 905 (Int32.ofNat n)).1 905 = Int32.ofNat n from rfl, show (7 : Int32) = Int32.ofNat 7 from rfl, oN_mul, Nat.mul_comm n 7, oN_tn (by omega), show (0 : Int32).toNatClampNeg = 0 from rfl, if_neg (fun q => by
      rcases q with q | q | q | q | q
      · exact absurd q (by decide)
      · exact absurd q (by decide)
      · exact oN_neg (by omega) q
      · omega
      · omega), lt_v]
    rfl
  · show va_cpy (c.2.2.1 903) (c.2.2.1 902) 0 0 (7 * n) k = _
    rw [cpy_v, if_pos (by omega), show 0 + (k - 0) = k by omega]
/-! the reference's copies -/
theorem m_sv1 {v1 : Int32} : ∀ (r q N : Nat) (m : St), q + r = 400 → ∃ m', lp (fun _ _ _ => none) fX12_orders_b77 (N + 1 + r) v1 (Int32.ofNat q) m = lp (fun _ _ _ => none) fX12_orders_b104 6000 v1 0 m' ∧ fr [] [] [9] m m' ∧ (∀ j, q ≤ j → j < 400 → m'.2.2.1 9 j = m.2.2.1 6 j) ∧ (∀ j, j < q → m'.2.2.1 9 j = m.2.2.1 9 j) := by
  intro r
  induction r with
  | zero =>
    intro q N m hq
    refine ⟨m, ?_, fr.rf, fun j h1 h2 => absurd h1 (by omega), fun _ _ => rfl⟩
    rw [show N + 1 + 0 = N + 1 from rfl, lp_s]
    generalize lp (fun _ _ _ => none) fX12_orders_b77 N = kk
    unfold fX12_orders_b77
    rw [show (400 : Int32) = Int32.ofNat 400 from rfl, if_leT (by omega) (by omega)]
  | succ r ih =>
    intro q N m hq
    let m1 : St := sA m 9 (upd (m.2.2.1 9) q (m.2.2.1 6 q))
    obtain ⟨m', g1, g2, g3, g4⟩ := ih (q + 1) N m1 (by omega)
    refine ⟨m', ?_, (fr.sA (k := 9) (by decide)).tr g2, fun j h1 h2 => ?_, fun j hj => ?_⟩
    · rw [← g1, ← Nat.add_assoc, lp_s]
      generalize lp (fun _ _ _ => none) fX12_orders_b77 (N + 1 + r) = kk
      conv => lhs; unfold fX12_orders_b77
      rw [show (400 : Int32) = Int32.ofNat 400 from rfl, if_leF (by omega) (by decide), gi_N (by omega) (by decide), gi_N (by omega) (by decide), lt_v, lt_v, oN_tn (by omega), oN_s]
    · rcases Nat.lt_or_ge q j with hj | hj
      · exact g3 j hj h2
      · have : j = q := by omega
        subst this
        rw [g4 _ (by omega)]
        show upd _ _ _ _ = _
        rw [upd_v, if_pos rfl]
    · rw [g4 j (by omega)]
      show upd _ _ _ _ = _
      rw [upd_v, if_neg (by omega)]
theorem m_sv2 {v1 : Int32} : ∀ (r q N : Nat) (m : St), q + r = 16 → ∃ m', lp (fun _ _ _ => none) fX12_orders_b104 (N + 1 + r) v1 (Int32.ofNat q) m = lp (fun _ _ _ => none) fX12_orders_b140 6000 v1 0 (sI (sI m' 46 0) 47 (-1)) ∧ fr [] [] [10] m m' ∧ (∀ j, q ≤ j → j < 16 → m'.2.2.1 10 j = m.2.2.1 7 j) ∧ (∀ j, j < q → m'.2.2.1 10 j = m.2.2.1 10 j) := by
  intro r
  induction r with
  | zero =>
    intro q N m hq
    refine ⟨m, ?_, fr.rf, fun j h1 h2 => absurd h1 (by omega), fun _ _ => rfl⟩
    rw [show N + 1 + 0 = N + 1 from rfl, lp_s]
    generalize lp (fun _ _ _ => none) fX12_orders_b104 N = kk
    unfold fX12_orders_b104
    rw [show (16 : Int32) = Int32.ofNat 16 from rfl, if_leT (by omega) (by omega), lt_v, lt_v]
  | succ r ih =>
    intro q N m hq
    let m1 : St := sA m 10 (upd (m.2.2.1 10) q (m.2.2.1 7 q))
    obtain ⟨m', g1, g2, g3, g4⟩ := ih (q + 1) N m1 (by omega)
    refine ⟨m', ?_, (fr.sA (k := 10) (by decide)).tr g2, fun j h1 h2 => ?_, fun j hj => ?_⟩
    · rw [← g1, ← Nat.add_assoc, lp_s]
      generalize lp (fun _ _ _ => none) fX12_orders_b104 (N + 1 + r) = kk
      conv => lhs; unfold fX12_orders_b104
      rw [show (16 : Int32) = Int32.ofNat 16 from rfl, if_leF (by omega) (by decide), gi_N (by omega) (by decide), gi_N (by omega) (by decide), lt_v, lt_v, oN_tn (by omega), oN_s]
    · rcases Nat.lt_or_ge q j with hj | hj
      · exact g3 j hj h2
      · have : j = q := by omega
        subst this
        rw [g4 _ (by omega)]
        show upd _ _ _ _ = _
        rw [upd_v, if_pos rfl]
    · rw [g4 j (by omega)]
      show upd _ _ _ _ = _
      rw [upd_v, if_neg (by omega)]
theorem m_bk2 {v1 : Int32} : ∀ (r q N : Nat) (m : St), q + r = 16 → ∃ m', lp (fun _ _ _ => none) fX12_giveBack_b35 (N + 1 + r) v1 (Int32.ofNat q) m = some ((), sI m' 8 v1) ∧ fr [] [] [7] m m' ∧ (∀ j, q ≤ j → j < 16 → m'.2.2.1 7 j = m.2.2.1 10 j) ∧ (∀ j, j < q → m'.2.2.1 7 j = m.2.2.1 7 j) := by
  intro r
  induction r with
  | zero =>
    intro q N m hq
    refine ⟨m, ?_, fr.rf, fun j h1 h2 => absurd h1 (by omega), fun _ _ => rfl⟩
    rw [show N + 1 + 0 = N + 1 from rfl, lp_s]
    generalize lp (fun _ _ _ => none) fX12_giveBack_b35 N = kk
    unfold fX12_giveBack_b35
    rw [show (16 : Int32) = Int32.ofNat 16 from rfl, if_leT (by omega) (by omega), lt_v]
  | succ r ih =>
    intro q N m hq
    let m1 : St := sA m 7 (upd (m.2.2.1 7) q (m.2.2.1 10 q))
    obtain ⟨m', g1, g2, g3, g4⟩ := ih (q + 1) N m1 (by omega)
    refine ⟨m', ?_, (fr.sA (k := 7) (by decide)).tr g2, fun j h1 h2 => ?_, fun j hj => ?_⟩
    · rw [← g1, ← Nat.add_assoc, lp_s]
      generalize lp (fun _ _ _ => none) fX12_giveBack_b35 (N + 1 + r) = kk
      conv => lhs; unfold fX12_giveBack_b35
      rw [show (16 : Int32) = Int32.ofNat 16 from rfl, if_leF (by omega) (by decide), gi_N (by omega) (by decide), gi_N (by omega) (by decide), lt_v, lt_v, oN_tn (by omega), oN_s]
    · rcases Nat.lt_or_ge q j with hj | hj
      · exact g3 j hj h2
      · have : j = q := by omega
        subst this
        rw [g4 _ (by omega)]
        show upd _ _ _ _ = _
        rw [upd_v, if_pos rfl]
    · rw [g4 j (by omega)]
      show upd _ _ _ _ = _
      rw [upd_v, if_neg (by omega)]
theorem m_bk1 {v1 : Int32} : ∀ (r q N : Nat) (m : St), q + r = 400 → ∃ m', lp (fun _ _ _ => none) fX12_giveBack_b8 (N + 1 + r) v1 (Int32.ofNat q) m = lp (fun _ _ _ => none) fX12_giveBack_b35 6000 v1 0 m' ∧ fr [] [] [6] m m' ∧ (∀ j, q ≤ j → j < 400 → m'.2.2.1 6 j = m.2.2.1 9 j) ∧ (∀ j, j < q → m'.2.2.1 6 j = m.2.2.1 6 j) := by
  intro r
  induction r with
  | zero =>
    intro q N m hq
    refine ⟨m, ?_, fr.rf, fun j h1 h2 => absurd h1 (by omega), fun _ _ => rfl⟩
    rw [show N + 1 + 0 = N + 1 from rfl, lp_s]
    generalize lp (fun _ _ _ => none) fX12_giveBack_b8 N = kk
    unfold fX12_giveBack_b8
    rw [show (400 : Int32) = Int32.ofNat 400 from rfl, if_leT (by omega) (by omega)]
  | succ r ih =>
    intro q N m hq
    let m1 : St := sA m 6 (upd (m.2.2.1 6) q (m.2.2.1 9 q))
    obtain ⟨m', g1, g2, g3, g4⟩ := ih (q + 1) N m1 (by omega)
    refine ⟨m', ?_, (fr.sA (k := 6) (by decide)).tr g2, fun j h1 h2 => ?_, fun j hj => ?_⟩
    · rw [← g1, ← Nat.add_assoc, lp_s]
      generalize lp (fun _ _ _ => none) fX12_giveBack_b8 (N + 1 + r) = kk
      conv => lhs; unfold fX12_giveBack_b8
      rw [show (400 : Int32) = Int32.ofNat 400 from rfl, if_leF (by omega) (by decide), gi_N (by omega) (by decide), gi_N (by omega) (by decide), lt_v, lt_v, oN_tn (by omega), oN_s]
    · rcases Nat.lt_or_ge q j with hj | hj
      · exact g3 j hj h2
      · have : j = q := by omega
        subst this
        rw [g4 _ (by omega)]
        show upd _ _ _ _ = _
        rw [upd_v, if_pos rfl]
    · rw [g4 j (by omega)]
      show upd _ _ _ _ = _
      rw [upd_v, if_neg (by omega)]
end OrdR
