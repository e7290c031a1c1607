/-! T2, a law's text: both readers to their ends -/
theorem Ce.place {B : Nat → Nat} {L T e : Nat} {st : St} {fz : List FP} (h : Ce B L T e st) : gi (st.1 704) 401 (some ((st.2.2.1 502 (st.1 704).toNatClampNeg), st)) = some (Int32.ofNat (tP B L e), st) := by
  obtain ⟨h1, h2, h3, -⟩ := h
  have hT := h1.2.1
  rw [h3, gi_N (by omega) (by omega), oN_tn (by omega), (h1.1.2 e (by omega)).2.1]
theorem law_step {B : Nat → Nat} {L T k j n : Nat} {Cm Cc : Cd} {c m : St} {fz : List FP} (h : JL B L T k j n Cm Cc c m) (hk : k < 12) {x : Lr} (hx : sLawC (tK B L) (tV B L) k Cm.length Cc.length j n = .ok x) : ∃ c1 c2 m', fX9_readLawHead fz c = some (1, c1) ∧ fX9_readIf fz c1 = some (1, c2) ∧ fX12_readLaw m = some ((), m') ∧ JL B L T (k + 1) x.2.2.2.1 x.2.2.2.2.1 (Cm ++ x.2.1.2.2.1 ++ x.2.2.2.2.2.1) (Cc ++ x.2.1.2.2.2.1 ++ x.2.2.2.2.2.2.1) c2 m' ∧ HF c c2 ∧ LF m m' := by
  obtain ⟨⟨P, o, h1⟩, h2, h3, h4, h5, h6⟩ := h
  obtain ⟨m', P', o', a1, a2, a3, a4, a5, a6⟩ := (m_readLaw (bc := Cc.length) h1 h3 h5).1 x hx
  obtain ⟨c1, c2, b1, b2, b3, b4, b5, b6, b7, b8⟩ := (c_readLaw (fz := fz) (bm := Cm.length) h2 h4 hk).1 x hx
  have hl4 : (Cm ++ x.2.1.2.2.1 ++ x.2.2.2.2.2.1).length ≤ 400 := by have := a2.q.2.2.2.2.1; have := a2.j4; omega
  have hl5 : (Cc ++ x.2.1.2.2.2.1 ++ x.2.2.2.2.2.2.1).length ≤ 400 := by have := b3.2.2.2.2.2.2.2.2.2; have := b3.2.1; have := b3.T4; omega
  refine ⟨c1, c2, m', b1, b2, a1, ⟨⟨P', o', a2⟩, b3, a3, b4, by omega, fun i hi => ?_⟩, b8, a6⟩
  rcases Nat.lt_or_ge i k with q | q
  · have := h6 i q
    have h7 := ClL.app (x := x.2.1.2.2.1 ++ x.2.2.2.2.2.1) (y := x.2.1.2.2.2.1 ++ x.2.2.2.2.2.2.1) this (t' := m'.2.2.1 22) (a' := c2.2.2.1 600) (b' := c2.2.2.1 602) (fun q hq => a5 q (by omega)) (b6 i q) (fun q hq => b7 q (by omega))
    rw [← List.append_assoc, ← List.append_assoc] at h7
    exact h7
  · rw [show i = k by omega]
    exact sLawC_cl hx a4 b5 hl4 hl5
theorem law_loop {B : Nat → Nat} {L T : Nat} {fz : List FP} {Nc Nm : Nat} : ∀ (f k j n : Nat) (Cm Cc : Cd) (c m : St), k + f = 12 → JL B L T k j n Cm Cc c m →
    ∃ v c' m', lp (fun _ _ _ _ => none) (fX9_read_b33 fz) (Nc + f + 2) 1 1 (Int32.ofNat k) c = some (v, c') ∧ (bd (fX12_readLaw m) (fun _ m2 => lp (fun _ => none) fX12_law_b37 (Nm + f + 2) m2)) = fX12_law_b64 m' ∧ HF c c' ∧ LF m m' ∧
      ((v = -1 ∧ ∃ k' j' n' Cm' Cc', JL B L T k' j' n' Cm' Cc' c' m' ∧ tK B L j' = 257) ∨ (∃ e, v = Int32.ofNat (tP B L e) ∧ m'.1 19 = 1 ∧ m'.1 18 = Int32.ofNat (tP B L e)) ∨ (∃ e n P C o, v = Int32.ofNat (tP B L e) ∧ Mp true B L e n P C o m' ∧ tK B L e ≠ 257)) := by
  intro f
  induction f with
  | zero =>
    intro k j n Cm Cc c m hk h
    have hk : k = 12 := by omega
    subst hk
    obtain ⟨⟨P, o, h1⟩, h2, h3, h4, h5, h6⟩ := h
    have herr : sLawC (tK B L) (tV B L) 12 Cm.length Cc.length j n = .error j := by unfold sLawC; rw [if_pos (Or.inr (Nat.le_refl _))]
    obtain ⟨m', a1, a2, a3, a4⟩ := (m_readLaw (bc := Cc.length) h1 h3 h5).2 j herr
    refine ⟨Int32.ofNat (tP B L j), c, m', ?_, ?_, HF.rf, a4, Or.inr (Or.inl ⟨j, rfl, a2, a3⟩)⟩
    · rw [show Nc + 0 + 2 = (Nc + 1) + 1 by omega, lp_s]
      generalize lp (fun _ _ _ _ => none) (fX9_read_b33 fz) (Nc + 1) = kk
      unfold fX9_read_b33 fX9_read_b98 fX9_read_b112 fX9_read_b128
      rw [i10, show (12 : Int32) = Int32.ofNat 12 from rfl, if_leT (Nat.le_refl _) (by omega), i10]
      exact h2.err.place (fz := fz)
    · rw [a1, bd_v, show Nm + 0 + 2 = (Nm + 1) + 1 by omega, lp_s]
      generalize lp (fun _ => none) fX12_law_b37 (Nm + 1) = kk
      unfold fX12_law_b37
      rw [a2, if_neg (by decide)]
  | succ f ih =>
    intro k j n Cm Cc c m hk h
    have hJ := h
    obtain ⟨⟨P, o, h1⟩, h2, h3, h4, h5, h6⟩ := h
    have hbody : lp (fun _ _ _ _ => none) (fX9_read_b33 fz) (Nc + (f + 1) + 2) 1 1 (Int32.ofNat k) c = bd (fX9_readLawHead fz c) (fun r8 st9 => fX9_read_b58 fz (lp (fun _ _ _ _ => none) (fX9_read_b33 fz) (Nc + f + 2)) 1 (Int32.ofNat k) r8 st9) := by
      rw [show Nc + (f + 1) + 2 = (Nc + f + 2) + 1 by omega, lp_s]
      generalize lp (fun _ _ _ _ => none) (fX9_read_b33 fz) (Nc + f + 2) = kk
      unfold fX9_read_b33
      rw [i10, show (12 : Int32) = Int32.ofNat 12 from rfl, if_leF (by omega) (by omega), i10]
    cases hx : sLawC (tK B L) (tV B L) k Cm.length Cc.length j n with
    | error e =>
      obtain ⟨m', a1, a2, a3, a4⟩ := (m_readLaw (bc := Cc.length) h1 h3 h5).2 e hx
      have hm : (bd (fX12_readLaw m) (fun _ m2 => lp (fun _ => none) fX12_law_b37 (Nm + (f + 1) + 2) m2)) = fX12_law_b64 m' := by
        rw [a1, bd_v, show Nm + (f + 1) + 2 = (Nm + f + 2) + 1 by omega, lp_s]
        generalize lp (fun _ => none) fX12_law_b37 (Nm + f + 2) = kk
        unfold fX12_law_b37
        rw [a2, if_neg (by decide)]
      rcases (c_readLaw (fz := fz) (bm := Cm.length) h2 h4 (by omega)).2 e hx with ⟨c1, b1, b2, b3⟩ | ⟨c1, c2, b1, b2, b3, b4⟩
      · refine ⟨Int32.ofNat (tP B L e), c1, m', ?_, hm, b3, a4, Or.inr (Or.inl ⟨e, rfl, a2, a3⟩)⟩
        rw [hbody, b1, bd_v]
        unfold fX9_read_b58 fX9_read_b72
        rw [i00]
        exact b2.place (fz := fz)
      · refine ⟨Int32.ofNat (tP B L e), c2, m', ?_, hm, b4, a4, Or.inr (Or.inl ⟨e, rfl, a2, a3⟩)⟩
        rw [hbody, b1, bd_v]
        unfold fX9_read_b58 fX9_read_b72
        rw [i10, b2, bd_v, i00]
        exact b3.place (fz := fz)
    | ok x =>
      obtain ⟨c1, c2, m', b1, b2, a1, hJ2, b8, a6⟩ := law_step (fz := fz) hJ (by omega) hx
      have hJ3 := hJ2
      obtain ⟨⟨P', o', d1⟩, d2, d3, d4, d5, d6⟩ := hJ3
      have hs := d1.isSign (c := 59) (by decide)
      have hp := d2.passes (fz := fz) (c := 59) (by decide)
      have hbody2 : lp (fun _ _ _ _ => none) (fX9_read_b33 fz) (Nc + (f + 1) + 2) 1 1 (Int32.ofNat k) c = bd (fX9_passes 59 fz c2) (fun r3 st4 => lp (fun _ _ _ _ => none) (fX9_read_b33 fz) (Nc + f + 2) 1 r3 (Int32.ofNat (k + 1)) st4) := by
        rw [hbody, b1, bd_v]
        unfold fX9_read_b58
        rw [i10, b2, bd_v, i10, oN_s]
        rfl
      have hmb : (bd (fX12_readLaw m) (fun _ m2 => lp (fun _ => none) fX12_law_b37 (Nm + (f + 1) + 2) m2)) = bd (fX12_isSign 59 m') (fun r15 st16 => if r15 = 0 then (fX12_law_b64 st16) else (bd (fX12_nextToken st16) (fun r17 st18 => bd (fX12_readLaw st18) (fun r19 st20 => lp (fun _ => none) fX12_law_b37 (Nm + f + 2) st20)))) := by
        rw [a1, bd_v, show Nm + (f + 1) + 2 = (Nm + f + 2) + 1 by omega, lp_s]
        generalize lp (fun _ => none) fX12_law_b37 (Nm + f + 2) = kk
        unfold fX12_law_b37
        rw [d1.2.2.2.2.1, if_pos rfl]
      by_cases h59 : tK B L x.2.2.2.1 = 59
      · obtain ⟨c3, e1, e2, e3⟩ := hp.1 h59 (by decide)
        replace e1 : fX9_passes 59 fz c2 = some (1, c3) := e1
        rw [if_pos h59] at hs
        replace hs : fX12_isSign 59 m' = some (1, m') := hs
        obtain ⟨m3, f1, f2, f3⟩ := d1.next (by omega)
        have hJ4 : JL B L T (k + 1) (x.2.2.2.1 + 1) x.2.2.2.2.1 (Cm ++ x.2.1.2.2.1 ++ x.2.2.2.2.2.1) (Cc ++ x.2.1.2.2.2.1 ++ x.2.2.2.2.2.2.1) c3 m3 := by
          refine ⟨⟨P', o', f2⟩, e2, by rw [f3.1 21 (by decide)]; exact d3, by rw [e3.1 605 (by decide)]; exact d4, d5, fun i hi => ?_⟩
          rw [f3.2.2.1 22 (by decide), e3.2.2.1 600 (by decide), e3.2.2.1 602 (by decide)]
          exact d6 i hi
        obtain ⟨v, c', m4, g1, g2, g3, g4, g5⟩ := ih (k + 1) _ _ _ _ c3 m3 (by omega) hJ4
        refine ⟨v, c', m4, ?_, ?_, (b8.tr (e3.up (by decide) (by decide) (by decide))).tr g3, (a6.tr (f3.up (by decide) (by decide) (by decide))).tr g4, g5⟩
        · rw [hbody2, e1, bd_v]; exact g1
        · rw [hmb, hs, bd_v, i10, f1, bd_v]; exact g2
      · have e1 := hp.2 h59
        replace e1 : fX9_passes 59 fz c2 = some (0, c2) := e1
        rw [if_neg h59] at hs
        replace hs : fX12_isSign 59 m' = some (0, m') := hs
        have hm : (bd (fX12_readLaw m) (fun _ m2 => lp (fun _ => none) fX12_law_b37 (Nm + (f + 1) + 2) m2)) = fX12_law_b64 m' := by rw [hmb, hs, bd_v, i00]
        have hk3 := tK_le (L := L) (j := x.2.2.2.1) d2.hB
        have hc : lp (fun _ _ _ _ => none) (fX9_read_b33 fz) (Nc + (f + 1) + 2) 1 1 (Int32.ofNat k) c = if tK B L x.2.2.2.1 = 257 then some (-1, c2) else some (Int32.ofNat (tP B L x.2.2.2.1), c2) := by
          rw [hbody2, e1, bd_v, show Nc + f + 2 = (Nc + f + 1) + 1 by omega, lp_s]
          generalize lp (fun _ _ _ _ => none) (fX9_read_b33 fz) (Nc + f + 1) = kk
          unfold fX9_read_b33 fX9_read_b98 fX9_read_b112 fX9_read_b128
          rw [i00, i00, d2.kind, show (257 : Int32) = Int32.ofNat 257 from rfl]
          by_cases h257 : tK B L x.2.2.2.1 = 257
          · rw [if_eqT h257, if_pos h257]
          · rw [if_eqF h257 (by omega) (by omega), if_neg h257]
            exact d2.err.place (fz := fz)
        by_cases h257 : tK B L x.2.2.2.1 = 257
        · rw [if_pos h257] at hc
          exact ⟨-1, c2, m', hc, hm, b8, a6, Or.inl ⟨rfl, _, _, _, _, _, hJ2, h257⟩⟩
        · rw [if_neg h257] at hc
          exact ⟨_, c2, m', hc, hm, b8, a6, Or.inr (Or.inr ⟨_, _, P', _, o', rfl, d1, h257⟩)⟩
/-- the reference's end of a text -/
theorem m_endGood {B : Nat → Nat} {L j n o : Nat} {lw : Bool} {P C : Cd} {m : St} (h : Mp lw B L j n P C o m) (hk : tK B L j = 257) : fX12_endText m = some ((), sI (sI m 20 0) 13 0) := by
  have hs := (tok_end h.hB).mpr hk
  have e16 : m.1 16 = 0 := by rw [h.2.1.2.2.1, hs]; rfl
  unfold fX12_endText fX12_endText_b19
  rw [h.2.2.2.2.1, if_pos rfl, e16, if_pos rfl, lt_v, lt_v]
theorem m_endBad {B : Nat → Nat} {L j n o : Nat} {lw : Bool} {P C : Cd} {m : St} (h : Mp lw B L j n P C o m) (hk : tK B L j ≠ 257) : ∃ m', fX12_endText m = some ((), m') ∧ m'.1 19 = 1 ∧ m'.1 18 = Int32.ofNat (tP B L j) ∧ fr [13, 18, 19, 20] [] [] m m' ∧ m'.1 13 = 0 ∧ m'.1 20 = 0 := by
  have hs : tSort B L j ≠ 0 := fun e => hk ((tok_end h.hB).mp e)
  have h3 := @tSort_le B L j
  have e16 : ¬ m.1 16 = 0 := by
    rw [h.2.1.2.2.1]
    exact fun q => hs ((oN_eq (b := 0) (by omega) (by omega)).mp q)
  obtain ⟨m1, g1, g2, g3, g4⟩ := h.must0
  have hf : fr [13, 18, 19, 20] [] [] m (sI (sI m1 20 0) 13 0) := ((g3.up (by decide) (by decide) (by decide)).tr (fr.sI (k := 20) (by decide))).tr (fr.sI (k := 13) (by decide))
  refine ⟨sI (sI m1 20 0) 13 0, ?_, g2.1, g2.2.1, hf, rfl, rfl⟩
  unfold fX12_endText fX12_endText_b19
  rw [h.2.2.2.2.1, if_pos rfl, if_neg e16, g1, bd_v, lt_v, lt_v]
theorem m_endWas {m : St} (h : m.1 19 = 1) : fX12_endText m = some ((), sI (sI m 20 0) 13 0) := by
  unfold fX12_endText fX12_endText_b19
  rw [h, if_neg (by decide), lt_v, lt_v]
