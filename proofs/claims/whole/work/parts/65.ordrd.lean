/-! T2, a text of orders: both readers to their ends -/
def ClO (Cm Cc : Cd) (i : Nat) (t a s b : Nat → Int32) : Prop := ∃ hd tm bm am em dm bc ac ec dc D1 D0 D2, 304 ≤ hd ∧ hd ≤ 307 ∧ 1 ≤ tm ∧ tm ≤ 20 ∧ t (8 * i) = Int32.ofNat (actO hd) ∧ t (8 * i + 1) = Int32.ofNat bm ∧ t (8 * i + 2) = Int32.ofNat (bm + am) ∧ t (8 * i + 3) = Int32.ofNat (bm + am) ∧ t (8 * i + 4) = Int32.ofNat (bm + am + em) ∧ t (8 * i + 7) = Int32.ofNat tm ∧ t (8 * i + 5) = Int32.ofNat (bm + am + em) ∧ t (8 * i + 6) = Int32.ofNat (bm + am + em + dm) ∧ a i = Int32.ofNat hd ∧ s i = Int32.ofNat tm ∧ b (4 * i) = Int32.ofNat bc ∧ b (4 * i + 1) = Int32.ofNat (bc + ac) ∧ b (4 * i + 2) = Int32.ofNat (bc + ac + ec) ∧ b (4 * i + 3) = Int32.ofNat (bc + ac + ec + dc) ∧ bm + am + em + dm ≤ Cm.length ∧ bc + ac + ec + dc ≤ Cc.length ∧ SegR false Cm Cc bm am bc ac D1 ∧ SegR false Cm Cc (bm + am) em (bc + ac) ec D0 ∧ ((dm = 0 ∧ dc = 0) ∨ (SegR false Cm Cc (bm + am + em) dm (bc + ac + ec) dc D2 ∧ Bv D2))
theorem ClO.app {Cm Cc x y : Cd} {i : Nat} {t a s b t' a' s' b' : Nat → Int32} (h : ClO Cm Cc i t a s b) (ht : ∀ q, q < 8 * i + 8 → t' q = t q) (ha : a' i = a i) (hs : s' i = s i) (hb : ∀ q, q < 4 * i + 4 → b' q = b q) : ClO (Cm ++ x) (Cc ++ y) i t' a' s' b' := by
  obtain ⟨hd, tm, bm, am, em, dm, bc, ac, ec, dc, D1, D0, D2, e1, e2, e3, e4, e5, e6, e7, e8, e9, e10, e11, e12, e13, e14, e15, e16, e17, e18, e19, e20, e21, e22, e23⟩ := h
  refine ⟨hd, tm, bm, am, em, dm, bc, ac, ec, dc, D1, D0, D2, e1, e2, e3, e4, ?_, ?_, ?_, ?_, ?_, ?_, ?_, ?_, ?_, ?_, ?_, ?_, ?_, ?_, ?_, ?_, e21.app, e22.app, ?_⟩
  · rw [ht _ (by omega)]; exact e5
  · rw [ht _ (by omega)]; exact e6
  · rw [ht _ (by omega)]; exact e7
  · rw [ht _ (by omega)]; exact e8
  · rw [ht _ (by omega)]; exact e9
  · rw [ht _ (by omega)]; exact e10
  · rw [ht _ (by omega)]; exact e11
  · rw [ht _ (by omega)]; exact e12
  · rw [ha]; exact e13
  · rw [hs]; exact e14
  · rw [hb _ (by omega)]; exact e15
  · rw [hb _ (by omega)]; exact e16
  · rw [hb _ (by omega)]; exact e17
  · rw [hb _ (by omega)]; exact e18
  · rw [List.length_append]; omega
  · rw [List.length_append]; omega
  · rcases e23 with q | q
    · exact Or.inl q
    · exact Or.inr ⟨q.1.app, q.2⟩
def JO (B : Nat → Nat) (L T k j n : Nat) (Cm Cc : Cd) (c m : St) : Prop := (∃ P o, Mp false B L j n P Cm o m) ∧ Cp false B L T j n Cc c ∧ m.1 21 = Int32.ofNat k ∧ c.1 605 = Int32.ofNat k ∧ k ≤ 12 ∧ ∀ i, i < k → ClO Cm Cc i (m.2.2.1 45) (c.2.2.1 600) (c.2.2.1 601) (c.2.2.1 602)
theorem sOrdC_cl {B : Nat → Nat} {L k j n : Nat} {Cm Cc : Cd} {x : Or'} {m' c' : St} (h : sOrdC (tK B L) (tV B L) k Cm.length Cc.length j n = .ok x) (hm : ordT Cm.length k (actO x.1) x.2.1.2.2.1.length x.2.2.1.2.2.1.length x.2.2.2.1 x.2.2.2.2.2.2.2.1.length m') (hc : ordC Cc.length k x.1 x.2.1.2.2.2.1.length x.2.2.1.2.2.2.1.length x.2.2.2.1 x.2.2.2.2.2.2.2.2.1.length c') (h4 : (Cm ++ x.2.1.2.2.1 ++ x.2.2.1.2.2.1 ++ x.2.2.2.2.2.2.2.1).length ≤ 400) (h5 : (Cc ++ x.2.1.2.2.2.1 ++ x.2.2.1.2.2.2.1 ++ x.2.2.2.2.2.2.2.2.1).length ≤ 400) : ClO (Cm ++ x.2.1.2.2.1 ++ x.2.2.1.2.2.1 ++ x.2.2.2.2.2.2.2.1) (Cc ++ x.2.1.2.2.2.1 ++ x.2.2.1.2.2.2.1 ++ x.2.2.2.2.2.2.2.2.1) k (m'.2.2.1 45) (c'.2.2.1 600) (c'.2.2.1 601) (c'.2.2.1 602) := by
  unfold sOrdC at h
  by_cases hh : ¬ (304 ≤ tK B L j ∧ tK B L j ≤ 307) ∨ 12 ≤ k
  · rw [if_pos hh] at h; cases h
  rw [if_neg hh] at h
  obtain ⟨r1, hr1, h⟩ := exb_ok h
  by_cases hjo : tK B L r1.1 = jointO (tK B L j)
  · rw [if_pos hjo] at h
    obtain ⟨r2, hr2, h⟩ := exb_ok h
    obtain ⟨tm, htm, h⟩ := exb_ok h
    obtain ⟨t, ht, h⟩ := exb_ok h
    have h := Except.ok.inj h
    subst h
    obtain ⟨m1, m2, m3, m4, m5, m6, m7, m8⟩ := hm
    obtain ⟨c1, c2, c3, c4, c5, c6⟩ := hc
    dsimp only at m1 m2 m3 m4 m5 m6 m7 m8 c1 c2 c3 c4 c5 c6 h4 h5 ⊢
    rw [List.length_append, List.length_append, List.length_append] at h4 h5
    have htm2 : 1 ≤ tm.1 ∧ tm.1 ≤ 20 := by
      unfold sTimes at htm
      by_cases ht3 : tK B L r2.1 = 311
      · rw [if_pos ht3] at htm
        by_cases hv : tK B L (r2.1 + 1) = 256 ∧ 1 ≤ tV B L (r2.1 + 1) ∧ tV B L (r2.1 + 1) ≤ 20
        · rw [if_pos hv] at htm
          have htm := Except.ok.inj htm
          subst htm
          exact hv.2
        · rw [if_neg hv] at htm; cases htm
      · rw [if_neg ht3] at htm
        have htm := Except.ok.inj htm
        subst htm
        exact ⟨Nat.le_refl _, (by decide : (1 : Nat) ≤ 20)⟩
    obtain ⟨gz1, gd1⟩ := sS_ok 10 _ _ _ _ _ _ hr1
    obtain ⟨gz2, gd2⟩ := sS_ok 10 _ _ _ _ _ _ hr2
    have e1 : Cm.length + r1.2.2.1.length = (Cm ++ r1.2.2.1).length := by rw [List.length_append]
    have e2 : Cc.length + r1.2.2.2.1.length = (Cc ++ r1.2.2.2.1).length := by rw [List.length_append]
    refine ⟨tK B L j, tm.1, Cm.length, r1.2.2.1.length, r2.2.2.1.length, t.2.2.2.1.length, Cc.length, r1.2.2.2.1.length, r2.2.2.2.1.length, t.2.2.2.2.1.length, r1.2.2.2.2, r2.2.2.2.2, t.2.2.2.2.2, by omega, by omega, htm2.1, htm2.2, m1, m2, m3, m4, m5, m6, m7, m8, c1, c2, c3, c4, c5, c6, by simp only [List.length_append]; omega, by simp only [List.length_append]; omega, ?_, ?_, ?_⟩
    · have := (Gd.seg gd1 gz1 (sS_n 10 _ _ _ _ _ _ hr1) (by omega) (by omega)).app (x := r2.2.2.1 ++ t.2.2.2.1) (y := r2.2.2.2.1 ++ t.2.2.2.2.1)
      rw [← List.append_assoc, ← List.append_assoc] at this
      exact this
    · rw [e1, e2] at gd2
      rw [e1, e2]
      exact (Gd.seg gd2 gz2 (sS_n 10 _ _ _ _ _ _ hr2) (by rw [List.length_append]; omega) (by rw [List.length_append]; omega)).app
    · unfold sIf both2 at ht
      dsimp only at ht
      by_cases hif : tK B L tm.2 = 312
      · rw [if_pos hif] at ht
        obtain ⟨a, ha1, ha2⟩ := exb_ok ht
        have ha2 := Except.ok.inj ha2
        subst ha2
        obtain ⟨gz, gd⟩ := sT_ok 10 _ _ _ _ _ _ ha1
        refine Or.inr ⟨?_, gd.2.1 rfl⟩
        have e3 : Cm.length + (r1.2.2.1 ++ r2.2.2.1).length = (Cm ++ r1.2.2.1 ++ r2.2.2.1).length := by simp only [List.length_append]; omega
        have e4 : Cc.length + (r1.2.2.2.1 ++ r2.2.2.2.1).length = (Cc ++ r1.2.2.2.1 ++ r2.2.2.2.1).length := by simp only [List.length_append]; omega
        have e5 : Cm.length + r1.2.2.1.length + r2.2.2.1.length = (Cm ++ r1.2.2.1 ++ r2.2.2.1).length := by simp only [List.length_append]
        have e6 : Cc.length + r1.2.2.2.1.length + r2.2.2.2.1.length = (Cc ++ r1.2.2.2.1 ++ r2.2.2.2.1).length := by simp only [List.length_append]
        rw [e3, e4] at gd
        rw [e5, e6]
        dsimp only at h4 h5
        exact Gd.seg gd gz (sT_n 10 _ _ _ _ _ _ ha1) (by rw [← e5]; omega) (by rw [← e6]; omega)
      · rw [if_neg hif] at ht
        have ht := Except.ok.inj ht
        subst ht
        exact Or.inl ⟨rfl, rfl⟩
  · rw [if_neg hjo] at h; cases h
theorem ord_step {B : Nat → Nat} {L T k j n : Nat} {Cm Cc : Cd} {c m : St} {fz : List FP} (h : JO B L T k j n Cm Cc c m) (hk : k < 12) {x : Or'} (hx : sOrdC (tK B L) (tV B L) k Cm.length Cc.length j n = .ok x) : ∃ c1 c2 m', fX9_readOrderHead fz c = some (1, c1) ∧ fX9_readIf fz c1 = some (1, c2) ∧ fX12_readOrder m = some ((), m') ∧ JO B L T (k + 1) x.2.2.2.2.2.1 x.2.2.2.2.2.2.1 (Cm ++ x.2.1.2.2.1 ++ x.2.2.1.2.2.1 ++ x.2.2.2.2.2.2.2.1) (Cc ++ x.2.1.2.2.2.1 ++ x.2.2.1.2.2.2.1 ++ x.2.2.2.2.2.2.2.2.1) c2 m' ∧ HF c c2 ∧ OF m m' := by
  obtain ⟨⟨P, o, h1⟩, h2, h3, h4, h5, h6⟩ := h
  obtain ⟨m', P', o', a1, a2, a3, a4, a5, a6⟩ := (m_readOrder (bc := Cc.length) h1 h3 h5).1 x hx
  obtain ⟨c1, c2, b1, b2, b3, b4, b5, b6, b7, b8⟩ := (c_readOrder (fz := fz) (bm := Cm.length) h2 h4 hk).1 x hx
  have hl4 : (Cm ++ x.2.1.2.2.1 ++ x.2.2.1.2.2.1 ++ x.2.2.2.2.2.2.2.1).length ≤ 400 := by have := a2.q.2.2.2.2.1; have := a2.j4; omega
  have hl5 : (Cc ++ x.2.1.2.2.2.1 ++ x.2.2.1.2.2.2.1 ++ x.2.2.2.2.2.2.2.2.1).length ≤ 400 := by have := b3.2.2.2.2.2.2.2.2.2; have := b3.2.1; have := b3.T4; omega
  refine ⟨c1, c2, m', b1, b2, a1, ⟨⟨P', o', a2⟩, b3, a3, b4, by omega, fun i hi => ?_⟩, b8, a6⟩
  rcases Nat.lt_or_ge i k with q | q
  · have := h6 i q
    have h7 := ClO.app (x := x.2.1.2.2.1 ++ (x.2.2.1.2.2.1 ++ x.2.2.2.2.2.2.2.1)) (y := x.2.1.2.2.2.1 ++ (x.2.2.1.2.2.2.1 ++ x.2.2.2.2.2.2.2.2.1)) this (t' := m'.2.2.1 45) (a' := c2.2.2.1 600) (s' := c2.2.2.1 601) (b' := c2.2.2.1 602) (fun q hq => a5 q (by omega)) (b6 i q).1 (b6 i q).2 (fun q hq => b7 q (by omega))
    rw [← List.append_assoc, ← List.append_assoc, ← List.append_assoc, ← List.append_assoc] at h7
    exact h7
  · rw [show i = k by omega]
    exact sOrdC_cl hx a4 b5 hl4 hl5
theorem ord_loop {B : Nat → Nat} {L T : Nat} {fz : List FP} {Nc Nm : Nat} : ∀ (f k j n : Nat) (Cm Cc : Cd) (c m : St), k + f = 12 → JO B L T k j n Cm Cc c m →
    ∃ v c' m', lp (fun _ _ _ _ => none) (fX9_read_b33 fz) (Nc + f + 2) 0 1 (Int32.ofNat k) c = some (v, c') ∧ (bd (fX12_readOrder m) (fun _ m2 => lp (fun _ => none) fX12_orders_b19 (Nm + f + 2) m2)) = fX12_orders_b46 m' ∧ HF c c' ∧ OF m m' ∧
      ((v = -1 ∧ ∃ k' j' n' Cm' Cc', JO B L T k' j' n' Cm' Cc' c' m' ∧ tK B L j' = 257) ∨ (∃ e, v = Int32.ofNat (tP B L e) ∧ m'.1 19 = 1 ∧ m'.1 18 = Int32.ofNat (tP B L e)) ∨ (∃ e n P C o, v = Int32.ofNat (tP B L e) ∧ Mp false B L e n P C o m' ∧ tK B L e ≠ 257)) := by
  intro f
  induction f with
  | zero =>
    intro k j n Cm Cc c m hk h
    have hk : k = 12 := by omega
    subst hk
    obtain ⟨⟨P, o, h1⟩, h2, h3, h4, h5, h6⟩ := h
    have herr : sOrdC (tK B L) (tV B L) 12 Cm.length Cc.length j n = .error j := by unfold sOrdC; rw [if_pos (Or.inr (Nat.le_refl _))]
    obtain ⟨m', a1, a2, a3, a4⟩ := (m_readOrder (bc := Cc.length) h1 h3 h5).2 j herr
    refine ⟨Int32.ofNat (tP B L j), c, m', ?_, ?_, HF.rf, a4, Or.inr (Or.inl ⟨j, rfl, a2, a3⟩)⟩
    · rw [show Nc + 0 + 2 = (Nc + 1) + 1 by omega, lp_s]
      generalize lp (fun _ _ _ _ => none) (fX9_read_b33 fz) (Nc + 1) = kk
      unfold fX9_read_b33 fX9_read_b98 fX9_read_b112 fX9_read_b128
      rw [i10, show (12 : Int32) = Int32.ofNat 12 from rfl, if_leT (Nat.le_refl _) (by omega), i10]
      exact h2.err.place (fz := fz)
    · rw [a1, bd_v, show Nm + 0 + 2 = (Nm + 1) + 1 by omega, lp_s]
      generalize lp (fun _ => none) fX12_orders_b19 (Nm + 1) = kk
      unfold fX12_orders_b19
      rw [a2, if_neg (by decide)]
  | succ f ih =>
    intro k j n Cm Cc c m hk h
    have hJ := h
    obtain ⟨⟨P, o, h1⟩, h2, h3, h4, h5, h6⟩ := h
    have hbody : lp (fun _ _ _ _ => none) (fX9_read_b33 fz) (Nc + (f + 1) + 2) 0 1 (Int32.ofNat k) c = bd (fX9_readOrderHead fz c) (fun r8 st9 => fX9_read_b58 fz (lp (fun _ _ _ _ => none) (fX9_read_b33 fz) (Nc + f + 2)) 0 (Int32.ofNat k) r8 st9) := by
      rw [show Nc + (f + 1) + 2 = (Nc + f + 2) + 1 by omega, lp_s]
      generalize lp (fun _ _ _ _ => none) (fX9_read_b33 fz) (Nc + f + 2) = kk
      unfold fX9_read_b33
      rw [i10, show (12 : Int32) = Int32.ofNat 12 from rfl, if_leF (by omega) (by omega), i00]
    cases hx : sOrdC (tK B L) (tV B L) k Cm.length Cc.length j n with
    | error e =>
      obtain ⟨m', a1, a2, a3, a4⟩ := (m_readOrder (bc := Cc.length) h1 h3 h5).2 e hx
      have hm : (bd (fX12_readOrder m) (fun _ m2 => lp (fun _ => none) fX12_orders_b19 (Nm + (f + 1) + 2) m2)) = fX12_orders_b46 m' := by
        rw [a1, bd_v, show Nm + (f + 1) + 2 = (Nm + f + 2) + 1 by omega, lp_s]
        generalize lp (fun _ => none) fX12_orders_b19 (Nm + f + 2) = kk
        unfold fX12_orders_b19
        rw [a2, if_neg (by decide)]
      rcases (c_readOrder (fz := fz) (bm := Cm.length) h2 h4 (by omega)).2 e hx with ⟨c1, b1, b2, b3⟩ | ⟨c1, c2, b1, b2, b3, b4⟩
      · refine ⟨Int32.ofNat (tP B L e), c1, m', ?_, hm, b3, a4, Or.inr (Or.inl ⟨e, rfl, a2, a3⟩)⟩
        rw [hbody, b1, bd_v]
        unfold fX9_read_b58 fX9_read_b72
        rw [i00]
        exact b2.place (fz := fz)
      · refine ⟨Int32.ofNat (tP B L e), c2, m', ?_, hm, b4, a4, Or.inr (Or.inl ⟨e, rfl, a2, a3⟩)⟩
        rw [hbody, b1, bd_v]
        unfold fX9_read_b58 fX9_read_b72
        rw [i10, b2, bd_v, i00]
        exact b3.place (fz := fz)
    | ok x =>
      obtain ⟨c1, c2, m', b1, b2, a1, hJ2, b8, a6⟩ := ord_step (fz := fz) hJ (by omega) hx
      have hJ3 := hJ2
      obtain ⟨⟨P', o', d1⟩, d2, d3, d4, d5, d6⟩ := hJ3
      have hs := d1.isSign (c := 59) (by decide)
      have hp := d2.passes (fz := fz) (c := 59) (by decide)
      have hbody2 : lp (fun _ _ _ _ => none) (fX9_read_b33 fz) (Nc + (f + 1) + 2) 0 1 (Int32.ofNat k) c = bd (fX9_passes 59 fz c2) (fun r3 st4 => lp (fun _ _ _ _ => none) (fX9_read_b33 fz) (Nc + f + 2) 0 r3 (Int32.ofNat (k + 1)) st4) := by
        rw [hbody, b1, bd_v]
        unfold fX9_read_b58
        rw [i10, b2, bd_v, i10, oN_s]
        rfl
      have hmb : (bd (fX12_readOrder m) (fun _ m2 => lp (fun _ => none) fX12_orders_b19 (Nm + (f + 1) + 2) m2)) = bd (fX12_isSign 59 m') (fun r15 st16 => if r15 = 0 then (fX12_orders_b46 st16) else (bd (fX12_nextToken st16) (fun r17 st18 => bd (fX12_readOrder st18) (fun r19 st20 => lp (fun _ => none) fX12_orders_b19 (Nm + f + 2) st20)))) := by
        rw [a1, bd_v, show Nm + (f + 1) + 2 = (Nm + f + 2) + 1 by omega, lp_s]
        generalize lp (fun _ => none) fX12_orders_b19 (Nm + f + 2) = kk
        unfold fX12_orders_b19
        rw [d1.2.2.2.2.1, if_pos rfl]
      by_cases h59 : tK B L x.2.2.2.2.2.1 = 59
      · obtain ⟨c3, e1, e2, e3⟩ := hp.1 h59 (by decide)
        replace e1 : fX9_passes 59 fz c2 = some (1, c3) := e1
        rw [if_pos h59] at hs
        replace hs : fX12_isSign 59 m' = some (1, m') := hs
        obtain ⟨m3, f1, f2, f3⟩ := d1.next (by omega)
        have hJ4 : JO B L T (k + 1) (x.2.2.2.2.2.1 + 1) x.2.2.2.2.2.2.1 (Cm ++ x.2.1.2.2.1 ++ x.2.2.1.2.2.1 ++ x.2.2.2.2.2.2.2.1) (Cc ++ x.2.1.2.2.2.1 ++ x.2.2.1.2.2.2.1 ++ x.2.2.2.2.2.2.2.2.1) c3 m3 := by
          refine ⟨⟨P', o', f2⟩, e2, by rw [f3.1 21 (by decide)]; exact d3, by rw [e3.1 605 (by decide)]; exact d4, d5, fun i hi => ?_⟩
          rw [f3.2.2.1 45 (by decide), e3.2.2.1 600 (by decide), e3.2.2.1 601 (by decide), e3.2.2.1 602 (by decide)]
          exact d6 i hi
        obtain ⟨v, c', m4, g1, g2, g3, g4, g5⟩ := ih (k + 1) _ _ _ _ c3 m3 (by omega) hJ4
        refine ⟨v, c', m4, ?_, ?_, (b8.tr (e3.up (by decide) (by decide) (by decide))).tr g3, (a6.tr (f3.up (by decide) (by decide) (by decide))).tr g4, g5⟩
        · rw [hbody2, e1, bd_v]; exact g1
        · rw [hmb, hs, bd_v, i10, f1, bd_v]; exact g2
      · have e1 := hp.2 h59
        replace e1 : fX9_passes 59 fz c2 = some (0, c2) := e1
        rw [if_neg h59] at hs
        replace hs : fX12_isSign 59 m' = some (0, m') := hs
        have hm : (bd (fX12_readOrder m) (fun _ m2 => lp (fun _ => none) fX12_orders_b19 (Nm + (f + 1) + 2) m2)) = fX12_orders_b46 m' := by rw [hmb, hs, bd_v, i00]
        have hk3 := tK_le (L := L) (j := x.2.2.2.2.2.1) d2.hB
        have hc : lp (fun _ _ _ _ => none) (fX9_read_b33 fz) (Nc + (f + 1) + 2) 0 1 (Int32.ofNat k) c = if tK B L x.2.2.2.2.2.1 = 257 then some (-1, c2) else some (Int32.ofNat (tP B L x.2.2.2.2.2.1), c2) := by
          rw [hbody2, e1, bd_v, show Nc + f + 2 = (Nc + f + 1) + 1 by omega, lp_s]
          generalize lp (fun _ _ _ _ => none) (fX9_read_b33 fz) (Nc + f + 1) = kk
          unfold fX9_read_b33 fX9_read_b98 fX9_read_b112 fX9_read_b128
          rw [i00, i00, d2.kind, show (257 : Int32) = Int32.ofNat 257 from rfl]
          by_cases h257 : tK B L x.2.2.2.2.2.1 = 257
          · rw [if_eqT h257, if_pos h257]
          · rw [if_eqF h257 (by omega) (by omega), if_neg h257]
            exact d2.err.place (fz := fz)
        by_cases h257 : tK B L x.2.2.2.2.2.1 = 257
        · rw [if_pos h257] at hc
          exact ⟨-1, c2, m', hc, hm, b8, a6, Or.inl ⟨rfl, _, _, _, _, _, hJ2, h257⟩⟩
        · rw [if_neg h257] at hc
          exact ⟨_, c2, m', hc, hm, b8, a6, Or.inr (Or.inr ⟨_, _, P', _, o', rfl, d1, h257⟩)⟩
