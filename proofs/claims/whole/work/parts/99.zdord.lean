/-! T2, orders: the call -/
section OrdC
variable {fz : List FP} {c m : St}
theorem ord_read (ht : Rt c m) (hw : wdM m) : ∃ v c' m1 m', fX9_read 0 fz c = some (v, c') ∧ (bd (fX12_beginText 1 m) (fun _ st34 => bd (fX12_readOrder st34) (fun _ st36 => lp (fun _ => none) fX12_orders_b19 6000 st36))) = fX12_orders_b46 m1 ∧ fX12_endText m1 = some ((), m') ∧ fr [505, 604, 605, 702, 703, 704, 705, 706] [] [501, 502, 503, 600, 601, 602, 603] c c' ∧ fr [13, 14, 15, 16, 18, 19, 20, 21, 23, 26, 29, 30] [17] [45, 24, 25, 27, 28] m m' ∧ m'.1 13 = 0 ∧ m'.1 20 = 0 ∧ v = m'.1 18 ∧ ((v = -1 ∧ m'.1 19 = 0 ∧ ∃ k Cm Cc, OgR k Cm Cc c' m') ∨ ((∃ q, q ≤ 400 ∧ v = Int32.ofNat q) ∧ m'.1 19 = 1)) := by
  obtain ⟨L, hc, hm⟩ := Rt.tp ht
  obtain ⟨m1, a1, a2, a3, a4, a5⟩ := m_start (lw := false) hm hw
  obtain ⟨T, c1, b1, b2, b3, b4⟩ := c_start (fz := fz) (lw := false) hc
  have hL : L ≤ 400 := hc.1
  have hJ : JOV (bB m) L T 0 0 0 [] [] c1 m1 := ⟨⟨[], 0, a2⟩, b2, a3, b3, by omega, fun i hi => absurd hi (by omega)⟩
  obtain ⟨v, c', m2, g1, g2, g3, g4, g5⟩ := ord_loopV (fz := fz) (Nc := 5986) (Nm := 5986) 12 0 0 0 [] [] c1 m1 rfl hJ
  have e1 : fX9_read 0 fz c = some (v, c') := (b1 (fun st17 => lp (fun _ _ _ _ => none) (fX9_read_b33 fz) 6000 0 1 0 st17)).trans g1
  have e2 : (bd (fX12_beginText 1 m) (fun _ st34 => bd (fX12_readOrder st34) (fun _ st36 => lp (fun _ => none) fX12_orders_b19 6000 st36))) = fX12_orders_b46 m2 := by
    rw [show fX12_beginText 1 m = some ((), m1) from a1, bd_v]
    exact g2
  have f1 : fr [505, 604, 605, 702, 703, 704, 705, 706] [] [501, 502, 503, 600, 601, 602, 603] c c' := (b4.up (by decide) (by decide) (by decide)).tr (g3.up (by decide) (by decide) (by decide))
  have f2 : fr [13, 14, 15, 16, 18, 19, 20, 21, 23, 26, 29, 30] [17] [45, 24, 25, 27, 28] m m2 := (a5.up (by decide) (by decide) (by decide)).tr (g4.up (by decide) (by decide) (by decide))
  have fe : fr [13, 14, 15, 16, 18, 19, 20, 21, 23, 26, 29, 30] [17] [45, 24, 25, 27, 28] m (sI (sI m2 20 0) 13 0) := (f2.tr (fr.sI (k := 20) (by decide))).tr (fr.sI (k := 13) (by decide))
  have hT : ∀ e, tP (bB m) L e ≤ 400 := fun e => Nat.le_trans tP_le hL
  rcases g5 with ⟨q1, k, j, n, Cm, Cc, hJ2, hk⟩ | ⟨e, q1, q2, q3⟩ | ⟨e, n, P, C, o, q1, q2, q3⟩
  · obtain ⟨⟨P, o, d1⟩, d2, d3, d4, d5, d6⟩ := hJ2
    have hq := d1.q
    have hj4 := d1.j4
    refine ⟨v, c', m2, sI (sI m2 20 0) 13 0, e1, e2, m_endGoodV d1 hk, f1, fe, rfl, rfl, ?_, Or.inl ⟨q1, d1.2.2.2.2.1, k, Cm, Cc, d5, ?_, ?_, d3, d4, d2.2.2.2.2.2.2.2.2.1.1, hq.2.2.2.1 rfl, d2.2.2.2.2.2.2.2.2.1.2, d6⟩⟩
    · rw [q1]; exact d1.2.2.2.2.2.2.2.2.2.2.2.symm
    · have := hq.2.2.2.2.1; omega
    · have := d2.2.2.2.2.2.2.2.2.2; have := d2.2.1; have := d2.T4; omega
  · exact ⟨v, c', m2, sI (sI m2 20 0) 13 0, e1, e2, m_endWas q2, f1, fe, rfl, rfl, by rw [q1]; exact q3.symm, Or.inr ⟨⟨_, hT e, q1⟩, q2⟩⟩
  · obtain ⟨m3, p1, p2, p3, p4, p5, p6⟩ := m_endBadV q2 q3
    exact ⟨v, c', m2, m3, e1, e2, p1, f1, f2.tr (p4.up (by decide) (by decide) (by decide)), p5, p6, by rw [q1]; exact p3.symm, Or.inr ⟨⟨_, hT e, q1⟩, p2⟩⟩
/-! what the whole call may write -/
def cF (c c' : St) : Prop := (∀ k, k ∉ [9, 12, 204, 904, 905, 1006, 1007, 1204] → c'.1 k = c.1 k) ∧ (∀ k, k ∉ [8, 200, 201, 202, 203, 801, 902, 903, 1004, 1200, 1201, 1202, 1203] → c'.2.2.1 k = c.2.2.1 k) ∧ c'.2.2.2.2 = c.2.2.2.2
def mF (m m' : St) : Prop := (∀ k, k ∉ [1, 8, 34, 38, 46, 47, 48, 49] → m'.1 k = m.1 k) ∧ (∀ k, k ∉ [2, 3, 6, 7, 9, 10] → m'.2.2.1 k = m.2.2.1 k) ∧ (∀ k, k ∉ [35, 36, 37] → m'.2.2.2.1 k = m.2.2.2.1 k) ∧ (∀ k, k < 6 ∨ 31 ≤ k → m'.2.2.1 3 k = m.2.2.1 3 k)
theorem cF.tr {a b d : St} (h : cF a b) (k : cF b d) : cF a d := ⟨fun q hq => (k.1 q hq).trans (h.1 q hq), fun q hq => (k.2.1 q hq).trans (h.2.1 q hq), k.2.2.trans h.2.2⟩
theorem mF.tr {a b d : St} (h : mF a b) (k : mF b d) : mF a d := ⟨fun q hq => (k.1 q hq).trans (h.1 q hq), fun q hq => (k.2.1 q hq).trans (h.2.1 q hq), fun q hq => (k.2.2.1 q hq).trans (h.2.2.1 q hq), fun q hq => (k.2.2.2 q hq).trans (h.2.2.2 q hq)⟩
theorem fr.cF {I J A : List Nat} {a b : St} (h : fr I J A a b) (h1 : ∀ x, x ∈ I → x ∈ [9, 12, 204, 904, 905, 1006, 1007, 1204]) (h2 : ∀ x, x ∈ A → x ∈ [8, 200, 201, 202, 203, 801, 902, 903, 1004, 1200, 1201, 1202, 1203]) : cF a b := ⟨fun q hq => h.1 q (nin h1 hq), fun q hq => h.2.2.1 q (nin h2 hq), by rw [h.2.2.2]⟩
theorem fr.mF {I J A : List Nat} {a b : St} (h : fr I J A a b) (h1 : ∀ x, x ∈ I → x ∈ [1, 8, 34, 38, 46, 47, 48, 49]) (h2 : ∀ x, x ∈ A → x ∈ [2, 3, 6, 7, 9, 10]) (h3 : ∀ k, k < 6 ∨ 31 ≤ k → b.2.2.1 3 k = a.2.2.1 3 k) : mF a b := ⟨fun q hq => h.1 q (nin h1 hq), fun q hq => h.2.2.1 q (nin h2 hq), fun q _ => by rw [h.2.2.2], h3⟩
theorem FC.cF {a b : St} (h : FC a b) : cF a b := ⟨fun q hq => h.1 q (nin (by decide) hq), fun q hq => h.2.2.1 q (nin (by decide) hq), h.2.2.2.2⟩
theorem FM.mF {a b : St} (h : FM a b) : mF a b := ⟨fun q hq => h.1 q (nin (by decide) hq), fun q hq => h.2.2.1 q (nin (by decide) hq), fun q hq => h.2.2.2.1 q hq, h.2.2.2.2.2.1⟩
theorem cs.cF {a b : St} (h : cs a b) : cF a b := ⟨fun q hq => h.1 q (fun e => hq (by rw [e]; decide)), fun q hq => h.2.2.1 q (fun e => hq (by rw [e]; decide)), by rw [h.2.2.2]⟩
theorem ms.mF {a b : St} (h : ms a b) : mF a b := ⟨fun q hq => h.1 q (fun e => hq (by rw [e]; decide)), fun q hq => h.2.2.1 q (fun e => hq (by rw [e]; decide)), fun q _ => by rw [h.2.2.2], fun q _ => by rw [h.2.2.1 3 (by decide)]⟩
theorem RR.run {c' m' : St} (h : RR fz c m) (f : cF c c') (g : mF m m') (hq : Rq fz c' m') (hu : Ru c' m') (hs : Rs c' m') (e : c'.1 12 = m'.1 48) : RR fz c' m' ∧ Fx c m c' m' := by
  obtain ⟨-, -, h5, h6, h7, -, h9, h10, h11⟩ := h
  have fi : ∀ {l : List Nat}, (∀ x, x ∈ l → x ∉ [9, 12, 204, 904, 905, 1006, 1007, 1204]) → ∀ x, x ∈ l → c'.1 x = c.1 x := fun s x hx => f.1 x (s x hx)
  have fa : ∀ {l : List Nat}, (∀ x, x ∈ l → x ∉ [8, 200, 201, 202, 203, 801, 902, 903, 1004, 1200, 1201, 1202, 1203]) → ∀ x, x ∈ l → c'.2.2.1 x = c.2.2.1 x := fun s x hx => f.2.1 x (s x hx)
  refine ⟨⟨hq, hs, ?_, ?_, ?_, hu, ?_, ⟨?_, ?_, e⟩, ?_⟩, by rw [f.2.2], g.2.1 4 (by decide), g.2.1 5 (by decide)⟩
  · exact h5.a (f.1 504 (by decide)) (f.2.1 500 (by decide)) (g.1 13 (by decide)) (g.2.1 12 (by decide))
  · exact h6.a (fi (by decide)) (fa (by decide)) (fun k hk => g.2.2.2 k (by omega))
  · exact h7.a (f.1 404 (by decide)) (fa (by decide)) (fun k hk => g.2.2.2 k (by omega))
  · exact h9.a (f.1 1104 (by decide)) (fa (by decide)) (g.1 52 (by decide)) (g.2.1 51 (by decide))
  · rw [f.1 10 (by decide), g.1 11 (by decide)]; exact h10.1
  · rw [f.1 11 (by decide), g.1 18 (by decide)]; exact h10.2.1
  · exact h11.a (fun k hk => g.2.2.1 k (fun e => by revert hk e; revert k; decide))
theorem RuN.cc {n : Nat} {c' m' : St} (h : RuN n c m) (c1 : c'.1 905 = Int32.ofNat n) (c2 : ∀ k, k < 7 * n → c'.2.2.1 902 k = c.2.2.1 902 k) (m1 : m'.1 8 = Int32.ofNat n) (m6 : ∀ j, j < 400 → m'.2.2.1 6 j = m.2.2.1 6 j) (m7 : ∀ j, j < 16 → m'.2.2.1 7 j = m.2.2.1 7 j) (e : m'.2.2.1 3 = m.2.2.1 3) : RuN n c' m' := by
  obtain ⟨h1, h2, h3, h4⟩ := h
  have se : ∀ j i, j ≤ n → i < 25 → sn m' n j i = sn m n j i := by
    intro j i hj hi
    unfold sn
    rw [e]
    by_cases q : j = n
    · rw [if_pos q, if_pos q]
    · rw [if_neg q, if_neg q, m6 _ (by omega)]
  refine ⟨h1, c1, m1, fun j hj => ?_⟩
  obtain ⟨⟨F, y1, y2, y3, y4⟩, q5, q6⟩ := h4 j hj
  rw [e, m7 j (by omega), c2 (7 * j) (by omega), c2 (7 * j + 1) (by omega)]
  refine ⟨⟨F, y1, y2, y3, fun i hi => ?_⟩, q5, fun i hi => ?_⟩
  · rw [se j i (by omega) hi, y4 i hi]
    unfold pt
    rw [c2 (7 * j + 6) (by omega), c2 (7 * j + 5) (by omega), c2 (7 * j + 4) (by omega), c2 (7 * j + 3) (by omega), c2 (7 * j + 2) (by omega), se (j + 1) i (by omega) hi]
  · rw [se j i (by omega) hi]; exact q6 i hi
theorem neg3 : (-3 : Int32) = -(Int32.ofNat 3) := rfl
/-- a good text of orders is run, from states that are alike -/
theorem ord_good {k : Nat} {Cm Cc : Cd} (h : RR fz c m) (hg : OgR k Cm Cc c m) (h12 : c.1 12 = -1) (h48 : m.1 48 = -1) : ∃ v c' m', (bd (fX7_run fz c) (fun r8 st9 => lt (sI st9 12 r8) (fun st10 => if (st10.1 12) = (-1 : Int32) then (fX11_orders_b72 fz (st10.1 1007) st10) else (fX11_orders_b72 fz (-3 : Int32) st10)))) = some (v, c') ∧ (bd (fX12_keepAll (17 : Int32) m) (fun r20 st21 => lt (st21.1 8) (fun x22 => lp (fun _ _ _ => none) (fX12_orders_b77) 6000 x22 (0 : Int32) st21))) = some (v, m') ∧ RR fz c' m' ∧ Fx c m c' m' := by
  obtain ⟨n, hn, u1, u2, u3⟩ := h.2.2.2.2.2.1
  have hRuN : RuN n c m := ⟨hn, u1, u2, u3⟩
  have hRu : Ru c m := ⟨n, hRuN⟩
  obtain ⟨c1, a1, a2, a3⟩ := take12 (fz := fz) h.1.1
  obtain ⟨c2, b1, b2, b3, b4⟩ := c_mark (fz := fz) (c := c1) hn (by rw [a3.1 905 (by decide)]; exact u1)
  let c3 : St := sI (sI c2 1007 0) 1006 (-1)
  have fcK : fr [904, 1006, 1007, 1204] [] [903, 1200, 1201, 1202, 1203] c c3 := (((a3.up (by decide) (by decide) (by decide)).tr (b2.up (by decide) (by decide) (by decide))).tr (fr.sI (k := 1007) (by decide))).tr (fr.sI (k := 1006) (by decide))
  have fc3 : cF c c3 := fcK.cF (by decide) (by decide)
  obtain ⟨m1, d1, d2, d3⟩ := m_keep (m := m) (k := 17) (by decide)
  have e8 : m1.1 8 = Int32.ofNat n := by rw [d2.1 8 (by decide)]; exact u2
  obtain ⟨m2, s1, s2, s3, -⟩ := m_sv1 (v1 := Int32.ofNat n) 400 0 5599 m1 rfl
  obtain ⟨m3, t1, t2, t3, -⟩ := m_sv2 (v1 := Int32.ofNat n) 16 0 5983 m2 rfl
  let m4 : St := sI (sI m3 46 0) 47 (-1)
  have r43 : m4.2.2.1 3 = m.2.2.1 3 := by
    show m3.2.2.1 3 = _
    rw [t2.2.2.1 3 (by decide), s2.2.2.1 3 (by decide), d2.2.2.1 3 (by decide)]
  have r46 : m4.2.2.1 6 = m1.2.2.1 6 := by
    show m3.2.2.1 6 = _
    rw [t2.2.2.1 6 (by decide), s2.2.2.1 6 (by decide)]
  have r47 : m4.2.2.1 7 = m.2.2.1 7 := by
    show m3.2.2.1 7 = _
    rw [t2.2.2.1 7 (by decide), s2.2.2.1 7 (by decide), d2.2.2.1 7 (by decide)]
  have r49 : ∀ j, j < 400 → m4.2.2.1 9 j = m.2.2.1 6 j := by
    intro j hj
    show m3.2.2.1 9 j = _
    rw [t2.2.2.1 9 (by decide), s3 j (by omega) hj, d3 j, if_neg (by omega)]
  have r410 : ∀ j, j < 16 → m4.2.2.1 10 j = m.2.2.1 7 j := by
    intro j hj
    show m3.2.2.1 10 j = _
    rw [t3 j (by omega) hj, s2.2.2.1 7 (by decide), d2.2.2.1 7 (by decide)]
  have fmK : fr [46, 47] [] [6, 9, 10] m m4 := ((((d2.up (by decide) (by decide) (by decide)).tr (s2.up (by decide) (by decide) (by decide))).tr (t2.up (by decide) (by decide) (by decide))).tr (fr.sI (k := 46) (by decide))).tr (fr.sI (k := 47) (by decide))
  have fm4 : mF m m4 := fmK.mF (by decide) (by decide) (fun k _ => by rw [r43])
  have hmm : (bd (fX12_keepAll (17 : Int32) m) (fun r20 st21 => lt (st21.1 8) (fun x22 => lp (fun _ _ _ => none) (fX12_orders_b77) 6000 x22 (0 : Int32) st21))) = lp (fun _ _ _ => none) fX12_orders_b140 6000 (Int32.ofNat n) 0 m4 := by
    rw [show fX12_keepAll (17 : Int32) m = some ((), m1) from d1, bd_v, lt_v, e8]
    exact s1.trans t1
  have hcc : fX7_run fz c = lp (fun _ _ => none) (fX7_run_b33 fz) 6000 0 c3 := by
    unfold fX7_run
    rw [a1, bd_v, b1, bd_v, lt_v, lt_v]
  have hI : OI fz k Cm Cc 0 c3 m4 := by
    refine ⟨⟨?_, ?_, ?_⟩, ?_, ?_, rfl, rfl, rfl, Or.inl rfl⟩
    · exact h.1.1.a (fun x hx => fcK.1 x (fun e => by revert hx e; revert x; decide)) (fun x hx => fcK.2.2.1 x (fun e => by revert hx e; revert x; decide)) (fun x _ => by rw [r43])
    · exact h.1.2.1.a (fun x hx => fcK.1 x (fun e => by revert hx e; revert x; decide)) (by rw [fc3.2.2]) (fun x _ => by rw [r43])
    · rw [fm4.1 20 (by decide)]; exact h.1.2.2
    · refine hRu.b ?_ ?_ ?_ (fun j hj => ?_) r47 (fun x _ => by rw [r43])
      · show c2.1 905 = _
        rw [b2.1 905 (by decide), a3.1 905 (by decide)]
      · show c2.2.2.1 902 = _
        rw [b2.2.2.1 902 (by decide), a3.2.2.1 902 (by decide)]
      · rw [fmK.1 8 (by decide)]
      · rw [r46, d3 j, if_neg (by omega)]
    · obtain ⟨g1, g2, g3, g4, g5, g6, g7, g8, g9⟩ := hg
      have x605 : c3.1 605 = c.1 605 := fc3.1 605 (by decide)
      have x604 : c3.1 604 = c.1 604 := fc3.1 604 (by decide)
      have xr : ∀ q, q ∈ [600, 601, 602, 603] → c3.2.2.1 q = c.2.2.1 q := fun q hq => fc3.2.1 q (fun e => by revert hq e; revert q; decide)
      unfold OgR
      rw [x605, x604, fmK.1 21 (by decide), fmK.2.2.1 24 (by decide), fmK.2.2.1 25 (by decide), fmK.2.2.1 45 (by decide), xr 600 (by decide), xr 601 (by decide), xr 602 (by decide), xr 603 (by decide)]
      exact ⟨g1, g2, g3, g4, g5, g6, g7, g8, g9⟩
  have hk12 : k ≤ 12 := hg.1
  obtain ⟨c5, m5, f1, g1, hcase⟩ := ord_out (fz := fz) (had := Int32.ofNat n) k 0 0 (5999 - k) (5999 - k) c3 m4 (by omega) hk12 (by omega) hI
  rw [show 5999 - k + 1 + k = 6000 by omega] at hcase
  have hs5 : Rs c5 m5 := h.2.1.a (by rw [f1.1 9 (by decide), fcK.1 9 (by decide)]) (by rw [f1.2.2.1 8 (by decide), fcK.2.2.1 8 (by decide)]) (by rw [g1.1 1 (by decide), fmK.1 1 (by decide)]) (by rw [g1.2.2.1 2 (by decide), fmK.2.2.1 2 (by decide)])
  have fc5 : cF c c5 := fc3.tr f1.cF
  have gm5 : mF m m5 := fm4.tr g1.mF
  rcases hcase with ⟨e1, e2, d', hd', hI5⟩ | ⟨j, hj, e1, e2⟩
  · obtain ⟨q1, q2, q3, q4, q5, q6, q7⟩ := hI5
    obtain ⟨c6, m6, k1, k2, k3, k4, k5⟩ := settle_both (fz := fz) (c := sI c5 12 (-1)) (m := m5) (v := Int32.ofNat d') hs5 (Or.inl (oN_nn (by omega)))
    have hq6 : Rq fz (sI c5 12 (-1)) m5 := q1
    have hu6 : Ru (sI c5 12 (-1)) m5 := q2
    have hR := RR.run (c' := c6) (m' := m6) h ((fc5.tr ((fr.sI (I := [12]) (J := []) (A := []) (k := 12) (x := (-1 : Int32)) (st := c5) (by decide)).cF (by decide) (by decide))).tr k4.cF) (gm5.tr k5.mF) (hq6.s k4 k5) (hu6.s k4 k5) k3 (by
      rw [k4.1 12 (by decide), k5.1 48 (by decide), g1.1 48 (by decide), fmK.1 48 (by decide), h48]; rfl)
    refine ⟨Int32.ofNat d', c6, m6, ?_, ?_, hR⟩
    · rw [hcc]
      refine (congrArg (fun z => bd z _) e1).trans ?_
      rw [bd_v, lt_v, if_pos (show (sI c5 12 (-1)).1 12 = (-1 : Int32) from rfl)]
      unfold fX11_orders_b72
      rw [show (sI c5 12 (-1)).1 1007 = Int32.ofNat d' from q4, k1, bd_v]
    · rw [hmm]
      refine e2.trans ?_
      rw [q5, k2, bd_v]
  · have hcm : Cm12 c5 (m.2.2.1 3) := by
      have x1 : c5.1 1204 = c1.1 1204 := by
        rw [f1.1 1204 (by decide)]
        show c2.1 1204 = _
        rw [b2.1 1204 (by decide)]
      have x2 : ∀ q, q ∈ [1200, 1201, 1202, 1203] → c5.2.2.1 q = c1.2.2.1 q := by
        intro q hq
        rw [f1.2.2.1 q (fun e => by revert hq e; revert q; decide)]
        show c2.2.2.1 q = _
        rw [b2.2.2.1 q (fun e => by revert hq e; revert q; decide)]
      unfold Cm12
      rw [x1, x2 1200 (by decide), x2 1201 (by decide), x2 1202 (by decide), x2 1203 (by decide)]
      exact a2
    obtain ⟨c6, y1, y2, y3⟩ := back12 (fz := fz) hcm
    have h904 : c6.1 904 = Int32.ofNat n := by
      rw [y3.1 904 (by decide), f1.1 904 (by decide)]
      exact b3
    obtain ⟨c7, z1, z2, z3, z4⟩ := c_ret (fz := fz) (c := c6) hn h904
    have hlog : ∀ q, q < 7 * n → c7.2.2.1 902 q = c.2.2.1 902 q := by
      intro q hq
      rw [z4 q hq, y3.2.2.1 903 (by decide), f1.2.2.1 903 (by decide)]
      show c2.2.2.1 903 q = _
      rw [b4 q hq, a3.2.2.1 902 (by decide)]
    obtain ⟨m6, p1, p2, p3⟩ := m_put (m := m5) (k := 17) (by decide)
    obtain ⟨m7, v1, v2, v3, -⟩ := m_bk1 (v1 := Int32.ofNat n) 400 0 5599 m6 rfl
    obtain ⟨m8, w1, w2, w3, -⟩ := m_bk2 (v1 := Int32.ofNat n) 16 0 5983 m7 rfl
    let m9 : St := sI (sI m8 8 (Int32.ofNat n)) 48 (Int32.ofNat j)
    have fm9 : fr [8, 48] [] [3, 6, 7] m5 m9 := ((((p2.up (by decide) (by decide) (by decide)).tr (v2.up (by decide) (by decide) (by decide))).tr (w2.up (by decide) (by decide) (by decide))).tr (fr.sI (k := 8) (by decide))).tr (fr.sI (k := 48) (by decide))
    have r93 : m9.2.2.1 3 = m.2.2.1 3 := by
      funext q
      show m8.2.2.1 3 q = _
      rw [w2.2.2.1 3 (by decide), v2.2.2.1 3 (by decide), p3 q]
      by_cases hq : 6 ≤ q ∧ q < 31
      · rw [if_pos hq, g1.2.2.2.2.2.2 _ (by omega), r46, d3, if_pos (by omega), show 6 + (25 * 17 + (q - 6) - 25 * 17) = q by omega]
      · rw [if_neg hq, g1.2.2.2.2.2.1 q (by omega), r43]
    have fm9' : mF m m9 := gm5.tr (fm9.mF (by decide) (by decide) (fun q hq => by rw [r93, ← r43]; exact (g1.2.2.2.2.2.1 q hq).symm))
    have fc7 : cF c c7 := (fc5.tr (y3.cF (by decide) (by decide))).tr (z2.cF (by decide) (by decide))
    have fc7' : cF c (sI c7 12 (Int32.ofNat j)) := fc7.tr ((fr.sI (I := [12]) (J := []) (A := []) (k := 12) (x := Int32.ofNat j) (st := c7) (by decide)).cF (by decide) (by decide))
    have hs7 : Rs (sI c7 12 (Int32.ofNat j)) m9 := hs5.a (by
        show c7.1 9 = _
        rw [z2.1 9 (by decide), y3.1 9 (by decide)]) (by
        show c7.2.2.1 8 = _
        rw [z2.2.2.1 8 (by decide), y3.2.2.1 8 (by decide)]) (fm9.1 1 (by decide)) (fm9.2.2.1 2 (by decide))
    have hq7 : Rq fz (sI c7 12 (Int32.ofNat j)) m9 := by
      have hl : Rl 0 c7 (m.2.2.1 3) := by
        refine Rl.back h.1.1 ?_ (fun x hx => fc7.1 x (fun e => by revert hx e; revert x; decide)) (fun x hx => fc7.2.1 x (fun e => by revert hx e; revert x; decide))
        rw [z2.1 204 (by decide), z2.2.2.1 203 (by decide), z2.2.2.1 200 (by decide), z2.2.2.1 201 (by decide), z2.2.2.1 202 (by decide)]
        exact y2
      have hw : Rw 0 fz c7 (m.2.2.1 3) := h.1.2.1.a (fun x hx => fc7.1 x (fun e => by revert hx e; revert x; decide)) (by rw [fc7.2.2]) (fun _ _ => rfl)
      refine ⟨?_, ?_, ?_⟩
      · rw [r93]; exact hl
      · rw [r93]; exact hw
      · rw [fm9'.1 20 (by decide)]; exact h.1.2.2
    have hu7 : Ru (sI c7 12 (Int32.ofNat j)) m9 := by
      refine ⟨n, hRuN.cc z3 hlog rfl (fun q hq => ?_) (fun q hq => ?_) r93⟩
      · show m8.2.2.1 6 q = _
        rw [w2.2.2.1 6 (by decide), v3 q (by omega) hq, p2.2.2.1 9 (by decide), g1.2.2.1 9 (by decide)]
        exact r49 q hq
      · show m8.2.2.1 7 q = _
        rw [w3 q (by omega) hq, v2.2.2.1 10 (by decide), p2.2.2.1 10 (by decide), g1.2.2.1 10 (by decide)]
        exact r410 q hq
    obtain ⟨c8, m10, k1, k2, k3, k4, k5⟩ := settle_both (fz := fz) (c := sI c7 12 (Int32.ofNat j)) (m := m9) (v := -3) hs7 (Or.inr ⟨3, by decide, by decide, rfl⟩)
    have hR := RR.run (c' := c8) (m' := m10) h (fc7'.tr k4.cF) (fm9'.tr k5.mF) (hq7.s k4 k5) (hu7.s k4 k5) k3 (by
      rw [k4.1 12 (by decide), k5.1 48 (by decide)]; rfl)
    refine ⟨-3, c8, m10, ?_, ?_, hR⟩
    · rw [hcc]
      refine (congrArg (fun z => bd z _) e1).trans ?_
      unfold undone
      rw [y1, bd_v, z1, bd_v, bd_v, lt_v]
      show (if Int32.ofNat j = (-1 : Int32) then _ else _) = _
      rw [if_neg (oN_ne1 (by omega))]
      unfold fX11_orders_b72
      rw [k1, bd_v]
    · rw [hmm]
      refine e2.trans ?_
      unfold lost fX12_giveBack
      rw [show fX12_putBack (17 : Int32) m5 = some ((), m6) from p1, bd_v]
      refine (congrArg (fun z => bd z _) (v1.trans w1)).trans ?_
      rw [bd_v, lt_v]
      show bd (fX12_tell (-3) m9) _ = _
      rw [k2, bd_v]
theorem orders_call (h : RR fz c m) : Cl fz c m (fX11_orders fz c) (fX12_orders m) := by
  obtain ⟨v, c', m1, m', e1, e2, e3, f, g, h13, h20', hv, hcase⟩ := ord_read (fz := fz) (c := c) (m := sI (sI m 0 0) 48 (-1)) h.2.2.1 h.2.2.2.2.2.2.2.2
  let c2 : St := sI (sI (sI c' 11 v) 12 (-1)) 504 0
  have hA : fX11_orders fz c = (if v = (-1 : Int32) then (bd (fX7_run fz c2) (fun r8 st9 => lt (sI st9 12 r8) (fun st10 => if (st10.1 12) = (-1 : Int32) then (fX11_orders_b72 fz (st10.1 1007) st10) else (fX11_orders_b72 fz (-3 : Int32) st10)))) else (bd (fX11_refuse (-6 : Int32) fz c2) (fun r11 st12 => some (r11, st12)))) := by
    unfold fX11_orders
    rw [e1, bd_v, lt_v, lt_v, lt_v]
    rfl
  have hL : fX12_orders m = (if (m'.1 19) = 0 then (bd (fX12_keepAll (17 : Int32) m') (fun r20 st21 => lt (st21.1 8) (fun x22 => lp (fun _ _ _ => none) (fX12_orders_b77) 6000 x22 (0 : Int32) st21))) else (bd (fX12_tell (-6 : Int32) m') (fun r23 st24 => some (r23, st24)))) := by
    unfold fX12_orders
    rw [lt_v, lt_v, e2]
    unfold fX12_orders_b46
    rw [e3, bd_v]
  have hft : fr [11, 12, 504, 505, 604, 605, 702, 703, 704, 705, 706] [] [501, 502, 503, 600, 601, 602, 603] c c2 := (((f.up (by decide) (by decide) (by decide)).tr (fr.sI (k := 11) (by decide))).tr (fr.sI (k := 12) (by decide))).tr (fr.sI (k := 504) (by decide))
  have hgt : fr [0, 13, 14, 15, 16, 18, 19, 20, 21, 23, 26, 29, 30, 48] [17] [22, 24, 25, 27, 28, 45] m m' := ((fr.sI (k := 0) (by decide)).tr (fr.sI (k := 48) (by decide))).tr (g.up (by decide) (by decide) (by decide))
  have h48 : m'.1 48 = -1 := by rw [g.1 48 (by decide)]; rfl
  have hRT := RR.text h hft hgt rfl h13 h20' hv h48.symm
  have hm0 : m'.1 0 = 0 := by rw [g.1 0 (by decide)]; rfl
  rcases hcase with ⟨q1, q2, k, Cm, Cc, hg⟩ | ⟨⟨q, q1, q2⟩, q3⟩
  · have hg2 : OgR k Cm Cc c2 m' := hg
    obtain ⟨w, c3, m3, k1, k2, k3, k4⟩ := ord_good hRT.1 hg2 rfl h48
    refine ⟨w, c3, m3, ?_, ?_, k3, k4.1.trans hRT.2.1, k4.2.1.trans hRT.2.2.1, k4.2.2.trans hRT.2.2.2⟩
    · rw [hA, if_pos q1]; exact k1
    · rw [hL, if_pos q2]; exact k2
  · obtain ⟨c3, m3, k1, k2, k3, k4⟩ := cl_ref0 (n := 6) hRT.1 hm0 (by decide) (by decide)
    refine ⟨-(Int32.ofNat 6), c3, m3, ?_, ?_, k3, k4.1.trans hRT.2.1, k4.2.1.trans hRT.2.2.1, k4.2.2.trans hRT.2.2.2⟩
    · rw [hA, if_neg (by rw [q2]; exact oN_ne1 (by omega)), show (-6 : Int32) = -(Int32.ofNat 6) from rfl, k1, bd_v]
    · rw [hL, q3, if_neg (by decide), show (-6 : Int32) = -(Int32.ofNat 6) from rfl, k2, bd_v]
end OrdC
