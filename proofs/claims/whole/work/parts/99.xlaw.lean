/-! T2, law: the text is read; refused -/
section LawCall
variable {fz : List FP} {c m : St}
theorem sI_self {st : St} {k : Nat} {x : Int32} (h : st.1 k = x) : sI st k x = st := by
  unfold sI
  have : va_up st.1 k x = st.1 := by
    funext j
    rw [vup_v]
    split
    · rename_i e; rw [e, h]
    · rfl
  rw [this]
/-- a text was read: what counts is alike -/
theorem RR.text {c' m' : St} (h : RR fz c m) (f : fr [11, 12, 504, 505, 604, 605, 702, 703, 704, 705, 706] [] [501, 502, 503, 600, 601, 602, 603] c c') (g : fr [0, 13, 14, 15, 16, 18, 19, 20, 21, 23, 26, 29, 30, 48] [17] [22, 24, 25, 27, 28, 45] m m') (h1 : c'.1 504 = 0) (h2 : m'.1 13 = 0) (h3 : m'.1 20 = 0) (h4 : c'.1 11 = m'.1 18) (h5 : c'.1 12 = m'.1 48) : RR fz c' m' ∧ Fx c m c' m' := by
  obtain ⟨⟨q1, q2, q3⟩, q4, q5, q6, q7, q8, q9, q10, q11⟩ := h
  have e3 : m'.2.2.1 3 = m.2.2.1 3 := g.2.2.1 3 (by decide)
  have e : ∀ k, m'.2.2.1 3 k = m.2.2.1 3 k := fun k => by rw [e3]
  have fi : ∀ {l : List Nat}, (∀ x, x ∈ l → x ∉ [11, 12, 504, 505, 604, 605, 702, 703, 704, 705, 706]) → ∀ x, x ∈ l → c'.1 x = c.1 x := fun s x hx => f.1 x (s x hx)
  have fa : ∀ {l : List Nat}, (∀ x, x ∈ l → x ∉ [501, 502, 503, 600, 601, 602, 603]) → ∀ x, x ∈ l → c'.2.2.1 x = c.2.2.1 x := fun s x hx => f.2.2.1 x (s x hx)
  refine ⟨⟨⟨?_, ?_, h3⟩, ?_, ?_, ?_, ?_, ?_, ?_, ⟨?_, h4, h5⟩, ?_⟩, by rw [f.2.2.2], g.2.2.1 4 (by decide), g.2.2.1 5 (by decide)⟩
  · exact q1.a (fi (by decide)) (fa (by decide)) (fun k _ => e k)
  · exact q2.a (fi (by decide)) (by rw [f.2.2.2]) (fun k _ => e k)
  · exact q4.a (f.1 9 (by decide)) (f.2.2.1 8 (by decide)) (g.1 1 (by decide)) (g.2.2.1 2 (by decide))
  · obtain ⟨L, l1, l2, l3, l4⟩ := q5
    refine ⟨0, by omega, h1, h2, fun i hi => ?_⟩
    rw [f.2.2.1 500 (by decide), g.2.2.1 12 (by decide)]; exact l4 i hi
  · exact q6.a (fi (by decide)) (fa (by decide)) (fun k _ => e k)
  · exact q7.a (f.1 404 (by decide)) (fa (by decide)) (fun k _ => e k)
  · exact q8.a (f.1 905 (by decide)) (f.2.2.1 902 (by decide)) (g.1 8 (by decide)) (g.2.2.1 6 (by decide)) (g.2.2.1 7 (by decide)) (fun k _ => e k)
  · exact q9.a (f.1 1104 (by decide)) (fa (by decide)) (g.1 52 (by decide)) (g.2.2.1 51 (by decide))
  · rw [f.1 10 (by decide), g.1 11 (by decide)]; exact q10.1
  · exact q11.a (fun k _ => by rw [g.2.2.2])
/-- refused, from a state whose counter is 0 already -/
theorem cl_ref0 {n : Nat} (h : RR fz c m) (h0 : m.1 0 = 0) (h1 : 1 ≤ n) (h6 : n ≤ 6) : ∃ c' m', fX11_refuse (-(Int32.ofNat n)) fz c = some (-(Int32.ofNat n), c') ∧ fX12_tell (-(Int32.ofNat n)) m = some (-(Int32.ofNat n), m') ∧ RR fz c' m' ∧ Fx c m c' m' := by
  obtain ⟨v, c', m', e1, e2, e3, e4⟩ := cl_refuse (n := n) h h1 h6
  rw [sI_self h0] at e2
  obtain ⟨c2, m2, k1, k2, -⟩ := refuse_both (fz := fz) (n := n) h.2.1 h1 h6
  rw [k1, bd_v] at e1
  rw [k2, bd_v] at e2
  cases e1
  cases e2
  exact ⟨c', m', k1, k2, e3, e4⟩
/-- what a good text of laws leaves -/
def LgR (k : Nat) (Cm Cc : Cd) (c m : St) : Prop := k ≤ 12 ∧ Cm.length ≤ 400 ∧ Cc.length ≤ 400 ∧ m.1 21 = Int32.ofNat k ∧ c.1 605 = Int32.ofNat k ∧ m.1 23 = Int32.ofNat Cm.length ∧ c.1 604 = Int32.ofNat Cc.length ∧ codeR (m.2.2.1 24) (m.2.2.1 25) Cm ∧ (∀ i x, Cc[i]? = some x → c.2.2.1 603 i = cell x ∧ x.1 < 16 ∧ x.2 < 100000) ∧ ∀ i, i < k → ClL Cm Cc i (m.2.2.1 22) (c.2.2.1 600) (c.2.2.1 602)
/-- both readers over a law's text, to the end of the text -/
theorem law_read (h : RR fz c m) : ∃ v c' m1 m', fX9_read 1 fz c = some (v, c') ∧ (bd (fX12_beginText 0 m) (fun _ st23 => bd (fX12_readLaw st23) (fun _ st25 => lp (fun _ => none) fX12_law_b37 6000 st25))) = fX12_law_b64 m1 ∧ fX12_endText m1 = some ((), m') ∧ fr [505, 604, 605, 702, 703, 704, 705, 706] [] [501, 502, 503, 600, 601, 602, 603] c c' ∧ fr [13, 14, 15, 16, 18, 19, 20, 21, 23, 26, 29, 30] [17] [22, 24, 25, 27, 28] m m' ∧ m'.1 13 = 0 ∧ m'.1 20 = 0 ∧ v = m'.1 18 ∧ ((v = -1 ∧ m'.1 19 = 0 ∧ ∃ k Cm Cc, LgR k Cm Cc c' m') ∨ ((∃ q, q ≤ 400 ∧ v = Int32.ofNat q) ∧ m'.1 19 = 1)) := by
  obtain ⟨L, hc, hm⟩ := Rt.tp h.2.2.1
  have hw : wdM m := h.2.2.2.2.2.2.2.2
  obtain ⟨m1, a1, a2, a3, a4, a5⟩ := m_start (lw := true) hm hw
  obtain ⟨T, c1, b1, b2, b3, b4⟩ := c_start (fz := fz) (lw := true) hc
  have hL : L ≤ 400 := hc.1
  have hJ : JLV (bB m) L T 0 0 0 [] [] c1 m1 := ⟨⟨[], 0, a2⟩, b2, a3, b3, by omega, fun i hi => absurd hi (by omega)⟩
  obtain ⟨v, c', m2, g1, g2, g3, g4, g5⟩ := law_loopV (fz := fz) (Nc := 5986) (Nm := 5986) 12 0 0 0 [] [] c1 m1 rfl hJ
  have e1 : fX9_read 1 fz c = some (v, c') := (b1 (fun st17 => lp (fun _ _ _ _ => none) (fX9_read_b33 fz) 6000 1 1 0 st17)).trans g1
  have e2 : (bd (fX12_beginText 0 m) (fun _ st23 => bd (fX12_readLaw st23) (fun _ st25 => lp (fun _ => none) fX12_law_b37 6000 st25))) = fX12_law_b64 m2 := by
    rw [show fX12_beginText 0 m = some ((), m1) from a1, bd_v]
    exact g2
  have f1 : fr [505, 604, 605, 702, 703, 704, 705, 706] [] [501, 502, 503, 600, 601, 602, 603] c c' := (b4.up (by decide) (by decide) (by decide)).tr (g3.up (by decide) (by decide) (by decide))
  have f2 : fr [13, 14, 15, 16, 18, 19, 20, 21, 23, 26, 29, 30] [17] [22, 24, 25, 27, 28] m m2 := (a5.up (by decide) (by decide) (by decide)).tr (g4.up (by decide) (by decide) (by decide))
  have fe : fr [13, 14, 15, 16, 18, 19, 20, 21, 23, 26, 29, 30] [17] [22, 24, 25, 27, 28] m (sI (sI m2 20 0) 13 0) := (f2.tr (fr.sI (k := 20) (by decide))).tr (fr.sI (k := 13) (by decide))
  have hT : ∀ e, tP (bB m) L e ≤ 400 := fun e => Nat.le_trans tP_le hL
  rcases g5 with ⟨q1, k, j, n, Cm, Cc, hJ2, hk⟩ | ⟨e, q1, q2, q3⟩ | ⟨e, n, P, C, o, q1, q2, q3⟩
  · obtain ⟨⟨P, o, d1⟩, d2, d3, d4, d5, d6⟩ := hJ2
    have hq := d1.q
    have hj4 := d1.j4
    refine ⟨v, c', m2, sI (sI m2 20 0) 13 0, e1, e2, m_endGoodV d1 hk, f1, fe, rfl, rfl, ?_, Or.inl ⟨q1, d1.2.2.2.2.1, k, Cm, Cc, d5, ?_, ?_, d3, d4, hq.2.2.1, d2.2.2.2.2.2.2.2.2.1.1, hq.2.2.2.1 rfl, d2.2.2.2.2.2.2.2.2.1.2, d6⟩⟩
    · rw [q1]; exact d1.2.2.2.2.2.2.2.2.2.2.2.symm
    · have := hq.2.2.2.2.1; omega
    · have := d2.2.2.2.2.2.2.2.2.2; have := d2.2.1; have := d2.T4; omega
  · exact ⟨v, c', m2, sI (sI m2 20 0) 13 0, e1, e2, m_endWas q2, f1, fe, rfl, rfl, by rw [q1]; exact q3.symm, Or.inr ⟨⟨_, hT e, q1⟩, q2⟩⟩
  · obtain ⟨m3, p1, p2, p3, p4, p5, p6⟩ := m_endBadV q2 q3
    exact ⟨v, c', m2, m3, e1, e2, p1, f1, f2.tr (p4.up (by decide) (by decide) (by decide)), p5, p6, by rw [q1]; exact p3.symm, Or.inr ⟨⟨_, hT e, q1⟩, p2⟩⟩
/-- the reference writes a law's clauses -/
theorem law_cp1 {n k : Nat} (hn : n < 6) (hk : k ≤ 12) : ∀ (r q N : Nat) (m : St), q + r = 8 * k → m.1 21 = Int32.ofNat k → ∃ m', lp (fun _ _ _ => none) fX12_law_b111 (N + 1 + r) (Int32.ofNat (150 + 900 * n)) (Int32.ofNat q) m = lp (fun _ _ _ => none) fX12_law_b146 6000 (Int32.ofNat (150 + 900 * n)) 0 m' ∧ fr [] [] [3] m m' ∧ (∀ j, q ≤ j → j < 8 * k → m'.2.2.1 3 (150 + 900 * n + 2 + j) = m.2.2.1 22 j) ∧ (∀ i, (i < 150 + 900 * n + 2 + q ∨ 150 + 900 * n + 2 + 8 * k ≤ i) → m'.2.2.1 3 i = m.2.2.1 3 i) := by
  intro r
  induction r with
  | zero =>
    intro q N m hq h21
    refine ⟨m, ?_, fr.rf, fun j h1 h2 => absurd h1 (by omega), fun _ _ => rfl⟩
    rw [show N + 1 + 0 = N + 1 from rfl, lp_s]
    generalize lp (fun _ _ _ => none) fX12_law_b111 N = kk
    unfold fX12_law_b111
    rw [h21, show (8 : Int32) = Int32.ofNat 8 from rfl, oN_mul, if_leT (by omega) (by omega)]
  | succ r ih =>
    intro q N m hq h21
    let m1 : St := sA m 3 (upd (m.2.2.1 3) (150 + 900 * n + 2 + q) (m.2.2.1 22 q))
    obtain ⟨m', g1, g2, g3, g4⟩ := ih (q + 1) N m1 (by omega) h21
    refine ⟨m', ?_, (fr.sA (k := 3) (by decide)).tr g2, fun j h1 h2 => ?_, fun i hi => ?_⟩
    · rw [← g1, ← Nat.add_assoc, lp_s]
      generalize lp (fun _ _ _ => none) fX12_law_b111 (N + 1 + r) = kk
      conv => lhs; unfold fX12_law_b111
      rw [h21, show (8 : Int32) = Int32.ofNat 8 from rfl, oN_mul, if_leF (by omega) (by omega), gi_N (by omega) (by decide), show (2 : Int32) = Int32.ofNat 2 from rfl, oN_add, oN_add, gi_N (by omega) (by decide), lt_v, lt_v, oN_tn (by omega), oN_tn (by omega), oN_s]
    · rcases Nat.lt_or_ge q j with hj | hj
      · exact g3 j hj h2
      · have : j = q := by omega
        subst this
        rw [g4 _ (by omega)]
        show upd _ _ _ _ = _
        rw [upd_v, if_pos rfl]
    · rw [g4 i (by omega)]
      show upd _ _ _ _ = _
      rw [upd_v, if_neg (by omega)]
/-- the reference writes a law's code -/
theorem law_cp2 {n nc : Nat} (hn : n < 6) (hc : nc ≤ 400) : ∀ (r q N : Nat) (m : St), q + r = nc → m.1 23 = Int32.ofNat nc → ∃ m', lp (fun _ _ _ => none) fX12_law_b146 (N + 1 + r) (Int32.ofNat (150 + 900 * n)) (Int32.ofNat q) m = lt (sA m' 3 (upd (m'.2.2.1 3) 4 ((m'.2.2.1 3 4) + (1 : Int32)))) (fun st1 => bd (fX12_tell ((st1.2.2.1 3 4) - (1 : Int32)) st1) (fun r2 st3 => some (r2, st3))) ∧ fr [] [] [3] m m' ∧ (∀ j, q ≤ j → j < nc → m'.2.2.1 3 (150 + 900 * n + 98 + 2 * j) = m.2.2.1 24 j ∧ m'.2.2.1 3 (150 + 900 * n + 98 + 2 * j + 1) = m.2.2.1 25 j) ∧ (∀ i, (i < 150 + 900 * n + 98 + 2 * q ∨ 150 + 900 * n + 98 + 2 * nc ≤ i) → m'.2.2.1 3 i = m.2.2.1 3 i) := by
  intro r
  induction r with
  | zero =>
    intro q N m hq h21
    refine ⟨m, ?_, fr.rf, fun j h1 h2 => absurd h1 (by omega), fun _ _ => rfl⟩
    rw [show N + 1 + 0 = N + 1 from rfl, lp_s]
    generalize lp (fun _ _ _ => none) fX12_law_b146 N = kk
    unfold fX12_law_b146
    rw [h21, if_leT (by omega) (by omega)]
    rfl
  | succ r ih =>
    intro q N m hq h21
    let m1 : St := sA m 3 (upd (m.2.2.1 3) (150 + 900 * n + 98 + 2 * q) (m.2.2.1 24 q))
    let m2 : St := sA m1 3 (upd (m1.2.2.1 3) (150 + 900 * n + 98 + 2 * q + 1) (m1.2.2.1 25 q))
    obtain ⟨m', g1, g2, g3, g4⟩ := ih (q + 1) N m2 (by omega) h21
    refine ⟨m', ?_, ((fr.sA (k := 3) (by decide)).tr (fr.sA (k := 3) (by decide))).tr g2, fun j h1 h2 => ?_, fun i hi => ?_⟩
    · rw [← g1, ← Nat.add_assoc, lp_s]
      generalize lp (fun _ _ _ => none) fX12_law_b146 (N + 1 + r) = kk
      conv => lhs; unfold fX12_law_b146
      rw [h21, if_leF (by omega) (by omega), gi_N (by omega) (by decide), show (98 : Int32) = Int32.ofNat 98 from rfl, show (2 : Int32) = Int32.ofNat 2 from rfl, oN_add, oN_mul, oN_add, oN_s, gi_N (by omega) (by decide), lt_v, gi_N (by omega) (by decide), gi_N (by omega) (by decide), lt_v, lt_v, oN_tn (by omega), oN_tn (by omega), oN_tn (by omega), oN_s]
    · rcases Nat.lt_or_ge q j with hj | hj
      · exact g3 j hj h2
      · have : j = q := by omega
        subst this
        rw [g4 _ (by omega), g4 _ (by omega)]
        constructor
        · show upd (upd _ _ _) _ _ _ = _
          rw [upd_v, if_neg (by omega), upd_v, if_pos rfl]
        · show upd _ _ _ _ = _
          rw [upd_v, if_pos rfl]; rfl
    · rw [g4 i (by omega)]
      show upd (upd _ _ _) _ _ _ = _
      rw [upd_v, if_neg (by omega), upd_v, if_neg (by omega)]
end LawCall
