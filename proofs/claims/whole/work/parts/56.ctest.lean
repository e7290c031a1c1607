/-! T2, the class's reader against the grammar: tests -/
theorem csim_comp {lw : Bool} {B : Nat → Nat} {L T d0 : Nat} {fz : List FP} {sS' : Rd} {rT rS : Int32 → St → Option (Int32 × St)} (hS : SimC lw B L T (d0 + 1) sS' rS) (hGS : Gr false lw sS') : SimC lw B L T d0 (sComp lw (tK B L) (tV B L) sS') (fun a st => fX9_readComparison rT rS a fz st) := by
  intro dep bm bc j n C st hd0 hd8 hbc h
  have hsum := csim_sum (fz := fz) (rT := rT) (d0 := d0) hS hGS
  have hG := sSum_ok (K := tK B L) (V := tV B L) hGS
  obtain ⟨p1, p2⟩ := hsum dep bm bc j n C st hd0 hd8 hbc h
  unfold sComp
  show (∀ r, _ → ∃ st', fX9_readComparison rT rS (Int32.ofNat dep) fz st = _ ∧ _) ∧ (∀ e, _ → ∃ st', fX9_readComparison rT rS (Int32.ofNat dep) fz st = _ ∧ _)
  have e0 : fX9_readComparison rT rS (Int32.ofNat dep) fz st = bd (fX9_readSum rT rS (Int32.ofNat dep) fz st) (fun r7 st8 => if r7 = 0 then (some ((0 : Int32), st8)) else (lt (st8.1 705) (fun x9 => if x9 = (60 : Int32) then (fX9_readComparison_b35 rT rS fz (Int32.ofNat dep) x9 st8) else (if x9 = (62 : Int32) then (fX9_readComparison_b35 rT rS fz (Int32.ofNat dep) x9 st8) else (if x9 = (61 : Int32) then (fX9_readComparison_b35 rT rS fz (Int32.ofNat dep) x9 st8) else (some ((0 : Int32), st8))))))) := rfl
  have hmid : ∀ (a : Re) (st1 : St), fX9_readSum rT rS (Int32.ofNat dep) fz st = some (1, st1) → Cp lw B L T a.1 a.2.1 (C ++ a.2.2.2.1) st1 → fX9_readComparison rT rS (Int32.ofNat dep) fz st = if cmpO (tK B L a.1) = 0 then some (0, st1) else bd (fX9_lookAt (st1.1 704 + 1) fz st1) (fun r3 st4 => bd (fX9_readSum rT rS (Int32.ofNat dep) fz st4) (fun r5 st6 => bd (fX8_add (Int32.ofNat (cmpO (tK B L a.1))) (0 : Int32) fz st6) (fun r1 st2 => gb r5 (some (r5, st2))))) := by
    intro a st1 q1 q2
    have hk3 := tK_le (L := L) (j := a.1) h.hB
    rw [e0, q1, bd_v, i10, lt_v, q2.kind]
    unfold fX9_readComparison_b35 fX9_readComparison_b79 cmpO
    rw [show (60 : Int32) = Int32.ofNat 60 from rfl, show (62 : Int32) = Int32.ofNat 62 from rfl, show (61 : Int32) = Int32.ofNat 61 from rfl]
    by_cases e1 : tK B L a.1 = 60
    · simp only [if_eqT e1, if_pos e1]; rw [if_neg (show ¬ (7 = 0) by decide)]; rfl
    simp only [if_eqF e1 (show tK B L a.1 < 2147483648 by omega) (show 60 < 2147483648 by decide), if_neg e1]
    by_cases e2 : tK B L a.1 = 62
    · simp only [if_eqT e2, if_pos e2]; rw [if_neg (show ¬ (8 = 0) by decide)]; rfl
    simp only [if_eqF e2 (show tK B L a.1 < 2147483648 by omega) (show 62 < 2147483648 by decide), if_neg e2]
    by_cases e3 : tK B L a.1 = 61
    · simp only [if_eqT e3, if_pos e3]; rw [if_neg (show ¬ (9 = 0) by decide)]; rfl
    · simp only [if_eqF e3 (show tK B L a.1 < 2147483648 by omega) (show 61 < 2147483648 by decide), if_neg e3]; rfl
  have hgood : ∀ (a : Re), sSum lw (tK B L) (tV B L) sS' dep bm bc j n = .ok a → cmpO (tK B L a.1) ≠ 0 → ∃ st2, (∀ r, sSum lw (tK B L) (tV B L) sS' dep (bm + a.2.2.1.length) (bc + a.2.2.2.1.length) (a.1 + 1) a.2.1 = .ok r → ∃ st', fX9_readComparison rT rS (Int32.ofNat dep) fz st = some (1, st') ∧ Cp lw B L T r.1 r.2.1 (C ++ (joinR (cmpO (tK B L a.1)) a r).2.2.2.1) st' ∧ CF st st') ∧ (∀ e, sSum lw (tK B L) (tV B L) sS' dep (bm + a.2.2.1.length) (bc + a.2.2.2.1.length) (a.1 + 1) a.2.1 = .error e → ∃ st', fX9_readComparison rT rS (Int32.ofNat dep) fz st = some (0, st') ∧ Ce B L T e st' ∧ CF st st') ∧ CF st st2 := by
    intro a ha hc
    obtain ⟨st1, q1, q2, q3⟩ := p1 a ha
    have hb := cmpO_b _ hc
    obtain ⟨st2, g1, g2, g3⟩ := q2.look (fz := fz) (fun e => hc (by rw [e]; decide))
    have hg3 : CF st st2 := q3.tr (CF_of g3 (by decide) (by decide) (by decide))
    obtain ⟨s1, s2⟩ := hsum dep (bm + a.2.2.1.length) (bc + a.2.2.2.1.length) (a.1 + 1) a.2.1 (C ++ a.2.2.2.1) st2 hd0 hd8 (by rw [List.length_append, hbc]) g2
    have hm := hmid a st1 q1 q2
    rw [if_neg hc, g1, bd_v] at hm
    rw [hm]
    refine ⟨st2, fun r hr => ?_, fun e he => ?_, hg3⟩
    · obtain ⟨st3, k1, k2, k3⟩ := s1 r hr
      replace k1 : fX9_readSum rT rS (Int32.ofNat dep) fz st2 = some (1, st3) := k1
      obtain ⟨z1, z2, z3, z4, z5⟩ := (hG _ _ _ _ _ _ hr).1
      obtain ⟨st4, l1, l2, l3⟩ := k2.add (fz := fz) (o := cmpO (tK B L a.1)) (v := 0) (by have hx := q2.2.2.2.2.2.2.2.2.2; rw [List.length_append] at hx; rw [List.length_append, List.length_append]; omega) (by omega) (by omega)
      replace l1 : fX8_add (Int32.ofNat (cmpO (tK B L a.1))) 0 fz st3 = _ := l1
      refine ⟨st4, ?_, ?_, (hg3.tr k3).tr (CF_of l3 (by decide) (by decide) (by decide))⟩
      · rw [k1, bd_v, l1, bd_v]; rfl
      · have e5 : C ++ (joinR (cmpO (tK B L a.1)) a r).2.2.2.1 = C ++ a.2.2.2.1 ++ r.2.2.2.1 ++ [(cmpO (tK B L a.1), 0)] := by simp only [joinR, List.append_assoc]
        rw [e5]
        exact l2
    · obtain ⟨st3, k1, k2, k3⟩ := s2 e he
      replace k1 : fX9_readSum rT rS (Int32.ofNat dep) fz st2 = some (0, st3) := k1
      obtain ⟨x, st4, l1, l2, l3⟩ := k2.add (fz := fz) (o := Int32.ofNat (cmpO (tK B L a.1))) (v := 0)
      refine ⟨st4, ?_, l2, (hg3.tr k3).tr (CF_of l3 (by decide) (by decide) (by decide))⟩
      rw [k1, bd_v, l1, bd_v]; rfl
  constructor
  · intro r hr
    obtain ⟨a, ha1, ha2⟩ := exb_ok hr
    split at ha2
    · cases ha2
    · rename_i hc
      obtain ⟨b, hb1, hb2⟩ := exb_ok ha2
      cases hb2
      obtain ⟨st2, g1, g2, g3⟩ := hgood a ha1 hc
      exact g1 b hb1
  · intro e he
    rcases exb_err he with he | ⟨a, ha1, ha2⟩
    · obtain ⟨st1, q1, q2, q3⟩ := p2 e he
      replace q1 : fX9_readSum rT rS (Int32.ofNat dep) fz st = some (0, st1) := q1
      exact ⟨st1, by rw [e0, q1, bd_v, i00], q2, q3⟩
    · split at ha2
      · rename_i hc
        cases ha2
        obtain ⟨st1, q1, q2, q3⟩ := p1 a ha1
        have hm := hmid a st1 q1 q2
        rw [if_pos hc] at hm
        exact ⟨st1, hm, q2.err, q3⟩
      · rename_i hc
        rcases exb_err ha2 with hb1 | ⟨b, hb1, hb2⟩
        · obtain ⟨st2, g1, g2, g3⟩ := hgood a ha1 hc
          exact g2 e hb1
        · cases hb2
theorem c_nots {lw : Bool} {B : Nat → Nat} {L T n : Nat} {C : Cd} {fz : List FP} {rT rS : Int32 → St → Option (Int32 × St)} {dep : Int32} : ∀ (f m j : Nat) (p : Bool) (st : St), f ≤ 400 → Cp lw B L T j n C st → ∃ st', lp (fun _ _ _ _ => none) (fX9_readPlain_b4 rT rS fz) (m + 1 + f) dep (if p = true then 1 else 0) (Int32.ofNat (400 - f)) st = fX9_readPlain_b37 rT rS fz dep (if (p != (sNots (tK B L) f j % 2 == 1)) = true then 1 else 0) st' ∧ Cp lw B L T (j + sNots (tK B L) f j) n C st' ∧ CF st st' := by
  intro f
  induction f with
  | zero =>
    intro m j p st _ h
    refine ⟨st, ?_, h, CF.rf⟩
    rw [Nat.add_zero, lp_s]
    generalize lp (fun _ _ _ _ => none) (fX9_readPlain_b4 rT rS fz) m = k
    unfold fX9_readPlain_b4 sNots
    rw [show (400 : Int32) = Int32.ofNat 400 from rfl, if_leT (by omega) (by omega)]
    cases p <;> rfl
  | succ f ih =>
    intro m j p st hf h
    rw [← Nat.add_assoc, lp_s]
    have ih := fun j p st => ih m j p st (by omega)
    generalize lp (fun _ _ _ _ => none) (fX9_readPlain_b4 rT rS fz) (m + 1 + f) = k at ih ⊢
    have hK := h.hB
    obtain ⟨p1, p2⟩ := h.passes (fz := fz) (c := 315) (by decide)
    by_cases hk : tK B L j = 315
    · obtain ⟨st1, g1, g2, g3⟩ := p1 hk (by decide)
      replace g1 : fX9_passes 315 fz st = some (1, st1) := g1
      obtain ⟨st2, s1, s2, s3⟩ := ih (j + 1) (!p) st1 g2
      have en : sNots (tK B L) (f + 1) j = sNots (tK B L) f (j + 1) + 1 := by
        show (if tK B L j = 315 then _ else _) = _
        rw [if_pos hk]
      refine ⟨st2, ?_, ?_, (CF_of g3 (by decide) (by decide) (by decide)).tr s3⟩
      · unfold fX9_readPlain_b4 fX9_readPlain_b30
        rw [show (400 : Int32) = Int32.ofNat 400 from rfl, if_leF (by omega) (by omega), g1, bd_v, i10, oN_s, show 400 - (f + 1) + 1 = 400 - f by omega]
        have e3 : ((!p) != (sNots (tK B L) f (j + 1) % 2 == 1)) = (p != (sNots (tK B L) (f + 1) j % 2 == 1)) := by
          rw [en]
          generalize sNots (tK B L) f (j + 1) = q
          have h2 : q % 2 = 0 ∨ q % 2 = 1 := by omega
          rcases h2 with e | e
          · have e' : (q + 1) % 2 = 1 := by omega
            rw [e, e']; cases p <;> rfl
          · have e' : (q + 1) % 2 = 0 := by omega
            rw [e, e']; cases p <;> rfl
        rw [← e3]
        cases p with
        | true => rw [ibT, i10, lt_v]; exact s1
        | false => rw [ibF, i00, lt_v]; exact s1
      · rw [en, show j + (sNots (tK B L) f (j + 1) + 1) = j + 1 + sNots (tK B L) f (j + 1) by omega]; exact s2
    · have g1 := p2 hk
      replace g1 : fX9_passes 315 fz st = some (0, st) := g1
      have en : sNots (tK B L) (f + 1) j = 0 := by
        show (if tK B L j = 315 then _ else _) = _
        rw [if_neg hk]
      refine ⟨st, ?_, by rw [en]; exact h, CF.rf⟩
      unfold fX9_readPlain_b4
      rw [show (400 : Int32) = Int32.ofNat 400 from rfl, if_leF (by omega) (by omega), g1, bd_v, i00, en]
      cases p <;> rfl
theorem csim_plain {lw : Bool} {B : Nat → Nat} {L T d0 : Nat} {fz : List FP} {sT' sS' : Rd} {rT rS : Int32 → St → Option (Int32 × St)} (hT : SimC lw B L T (d0 + 1) sT' rT) (hS : SimC lw B L T (d0 + 1) sS' rS) (hGT : Gr true lw sT') (hGS : Gr false lw sS') : SimC lw B L T d0 (sPlain lw (tK B L) (tV B L) sT' sS') (fun a st => fX9_readPlain rT rS a fz st) := by
  intro dep bm bc j n C st hd0 hd8 hbc h
  obtain ⟨st1, g1, g2, g3⟩ := c_nots (fz := fz) (rT := rT) (rS := rS) (dep := Int32.ofNat dep) 400 5599 j false st (Nat.le_refl _) h
  show (∀ r, _ → ∃ st', fX9_readPlain rT rS (Int32.ofNat dep) fz st = _ ∧ _) ∧ (∀ e, _ → ∃ st', fX9_readPlain rT rS (Int32.ofNat dep) fz st = _ ∧ _)
  have e0 : fX9_readPlain rT rS (Int32.ofNat dep) fz st = fX9_readPlain_b37 rT rS fz (Int32.ofNat dep) (if (false != (sNots (tK B L) 400 j % 2 == 1)) = true then 1 else 0) st1 := g1
  rw [e0]
  unfold sPlain
  generalize hnk : sNots (tK B L) 400 j = nk at g2 ⊢
  -- the base
  have hbase : (∀ r, sBase lw (tK B L) (tV B L) sT' sS' dep bm bc (j + nk) n = .ok r → (Gz (j + nk) n r) ∧ ∃ st', (∀ v, fX9_readPlain_b37 rT rS fz (Int32.ofNat dep) v st1 = fX9_readPlain_b61 rT rS fz v 1 st') ∧ Cp lw B L T r.1 r.2.1 (C ++ r.2.2.2.1) st' ∧ CF st1 st') ∧ (∀ e, sBase lw (tK B L) (tV B L) sT' sS' dep bm bc (j + nk) n = .error e → ∃ st', (∀ v, fX9_readPlain_b37 rT rS fz (Int32.ofNat dep) v st1 = fX9_readPlain_b61 rT rS fz v 0 st') ∧ Ce B L T e st' ∧ CF st1 st') := by
    have hk3 := tK_le (L := L) (j := j + nk) h.hB
    unfold sBase
    by_cases h40 : tK B L (j + nk) = 40
    · rw [if_pos h40]
      have e1 : ∀ v, fX9_readPlain_b37 rT rS fz (Int32.ofNat dep) v st1 = bd (fX9_readInBrackets rT rS 40 (Int32.ofNat dep) fz st1) (fun r5 st6 => fX9_readPlain_b61 rT rS fz v r5 st6) := by
        intro v
        unfold fX9_readPlain_b37
        rw [g2.kind, show (40 : Int32) = Int32.ofNat 40 from rfl, if_eqT h40]
      by_cases h8 : 8 ≤ dep
      · rw [if_pos h8]
        refine ⟨fun r hr => (by cases hr), fun e he => ?_⟩
        cases he
        refine ⟨st1, fun v => ?_, g2.err, CF.rf⟩
        rw [e1 v]
        unfold fX9_readInBrackets
        rw [show (8 : Int32) = Int32.ofNat 8 from rfl, if_ltF h8 (by omega), bd_v]
      · rw [if_neg h8]
        obtain ⟨st2, k1, k2, k3⟩ := g2.look (fz := fz) (by omega)
        have hk3 : CF st1 st2 := CF_of k3 (by decide) (by decide) (by decide)
        have e2 : fX9_readInBrackets rT rS 40 (Int32.ofNat dep) fz st1 = bd (rT (Int32.ofNat (dep + 1)) st2) (fun r7 st8 => if r7 = 0 then (fX9_readInBrackets_b47 rT rS fz st8) else (bd (fX9_passes (41 : Int32) fz st8) (fun r9 st10 => if r9 = 0 then (fX9_readInBrackets_b47 rT rS fz st10) else (fX9_readInBrackets_b75 rT rS fz (1 : Int32) st10)))) := by
          unfold fX9_readInBrackets
          rw [show (8 : Int32) = Int32.ofNat 8 from rfl, if_ltT (by omega) (by omega), k1, bd_v, if_pos rfl, oN_s]
        obtain ⟨p1, p2⟩ := hT (dep + 1) bm bc (j + nk + 1) n C st2 (by omega) (by omega) hbc k2
        constructor
        · intro r hr
          obtain ⟨a, ha1, ha2⟩ := exb_ok hr
          have hz := (sClose_ok (bm := bm) (bc := bc) ha2 (hGT _ _ _ _ _ _ ha1)).1
          refine ⟨hz, ?_⟩
          obtain ⟨st3, q1, q2, q3⟩ := p1 a ha1
          unfold sClose at ha2
          by_cases h41 : tK B L a.1 = 41
          · rw [if_pos h41] at ha2
            cases ha2
            obtain ⟨st4, r1, r2, r3⟩ := (q2.passes (fz := fz) (c := 41) (by decide)).1 h41 (by decide)
            replace r1 : fX9_passes 41 fz st3 = some (1, st4) := r1
            refine ⟨st4, fun v => ?_, r2, (hk3.tr q3).tr (CF_of r3 (by decide) (by decide) (by decide))⟩
            rw [e1 v, e2, q1, bd_v, i10, r1, bd_v, i10]
            rfl
          · rw [if_neg h41] at ha2; cases ha2
        · intro e he
          rcases exb_err he with he | ⟨a, ha1, ha2⟩
          · obtain ⟨st3, q1, q2, q3⟩ := p2 e he
            refine ⟨st3, fun v => ?_, q2, hk3.tr q3⟩
            rw [e1 v, e2, q1, bd_v, i00]
            rfl
          · obtain ⟨st3, q1, q2, q3⟩ := p1 a ha1
            unfold sClose at ha2
            by_cases h41 : tK B L a.1 = 41
            · rw [if_pos h41] at ha2; cases ha2
            · rw [if_neg h41] at ha2
              cases ha2
              have r1 := (q2.passes (fz := fz) (c := 41) (by decide)).2 h41
              replace r1 : fX9_passes 41 fz st3 = some (0, st3) := r1
              refine ⟨st3, fun v => ?_, q2.err, hk3.tr q3⟩
              rw [e1 v, e2, q1, bd_v, i10, r1, bd_v, i00]
              rfl
    · rw [if_neg h40]
      obtain ⟨p1, p2⟩ := csim_comp (fz := fz) (rT := rT) (d0 := d0) hS hGS dep bm bc (j + nk) n C st1 hd0 hd8 hbc g2
      have e1 : ∀ v, fX9_readPlain_b37 rT rS fz (Int32.ofNat dep) v st1 = bd (fX9_readComparison rT rS (Int32.ofNat dep) fz st1) (fun r5 st6 => fX9_readPlain_b61 rT rS fz v r5 st6) := by
        intro v
        unfold fX9_readPlain_b37
        rw [g2.kind, show (40 : Int32) = Int32.ofNat 40 from rfl, if_eqF h40 (by omega) (by omega)]
      constructor
      · intro r hr
        obtain ⟨st2, q1, q2, q3⟩ := p1 r hr
        replace q1 : fX9_readComparison rT rS (Int32.ofNat dep) fz st1 = some (1, st2) := q1
        exact ⟨(sComp_ok hGS _ _ _ _ _ _ hr).1, st2, fun v => by rw [e1 v, q1, bd_v], q2, q3⟩
      · intro e he
        obtain ⟨st2, q1, q2, q3⟩ := p2 e he
        replace q1 : fX9_readComparison rT rS (Int32.ofNat dep) fz st1 = some (0, st2) := q1
        exact ⟨st2, fun v => by rw [e1 v, q1, bd_v], q2, q3⟩
  have hpar : (false != (nk % 2 == 1)) = (nk % 2 == 1) := by cases (nk % 2 == 1) <;> rfl
  rw [hpar]
  constructor
  · intro r hr
    obtain ⟨a, ha1, ha2⟩ := exb_ok hr
    cases ha2
    obtain ⟨⟨z1, z2, z3, z4, z5⟩, st2, q1, q2, q3⟩ := hbase.1 a ha1
    rw [q1]
    unfold fX9_readPlain_b61 fX9_readPlain_b77
    by_cases hp : nk % 2 = 1
    · have hp2 : (nk % 2 == 1) = true := by rw [hp]; rfl
      rw [if_pos hp2, i10]
      obtain ⟨st3, l1, l2, l3⟩ := q2.add (fz := fz) (o := 10) (v := 0) (by have hx := h.2.2.2.2.2.2.2.2.2; rw [List.length_append]; omega) (by omega) (by omega)
      replace l1 : fX8_add 10 0 fz st2 = _ := l1
      refine ⟨st3, ?_, ?_, (g3.tr q3).tr (CF_of l3 (by decide) (by decide) (by decide))⟩
      · rw [l1, bd_v]; rfl
      · simp only [notR]
        rw [if_pos hp, ← List.append_assoc]
        exact l2
    · have hp2 : ¬ (nk % 2 == 1) = true := by simpa using hp
      rw [if_neg hp2, i00]
      refine ⟨st2, rfl, ?_, g3.tr q3⟩
      simp only [notR]
      rw [if_neg hp, List.append_nil]
      exact q2
  · intro e he
    rcases exb_err he with he | ⟨a, ha1, ha2⟩
    · obtain ⟨st2, q1, q2, q3⟩ := hbase.2 e he
      rw [q1]
      unfold fX9_readPlain_b61 fX9_readPlain_b77
      by_cases hp2 : (nk % 2 == 1) = true
      · rw [if_pos hp2, i10]
        obtain ⟨x, st3, l1, l2, l3⟩ := q2.add (fz := fz) (o := 10) (v := 0)
        refine ⟨st3, ?_, l2, (g3.tr q3).tr (CF_of l3 (by decide) (by decide) (by decide))⟩
        rw [l1, bd_v]; rfl
      · rw [if_neg hp2, i00]
        exact ⟨st2, rfl, q2, g3.tr q3⟩
    · cases ha2
/-- a loop of "and", "or" -/
theorem csim_loopJ {lw : Bool} {B : Nat → Nat} {L T d0 : Nat} {fz : List FP} {tk oc om : Nat} {cmb : Dn → Dn → Dn} {next : Rd} {nx : Int32 → St → Option (Int32 × St)} {body : (Int32 → Int32 → Int32 → St → Option (Int32 × St)) → Int32 → Int32 → Int32 → St → Option (Int32 × St)} (hn : SimC lw B L T d0 next nx) (hG : Gr true lw next) (ho : oc < 16) (htk : tk ≠ 257)
    (hstep : ∀ k dep v j n C st, v < 400 → Cp lw B L T j n C st → body k (Int32.ofNat dep) 1 (Int32.ofNat v) st = if tK B L j = tk then bd (fX9_lookAt (st.1 704 + 1) fz st) (fun _ st2 => bd (fX8_add (Int32.ofNat oc) 0 fz st2) (fun r3 st4 => bd (nx (Int32.ofNat dep) st4) (fun r5 st6 => bd (fX8_aim r3 fz st6) (fun _ st8 => k (Int32.ofNat dep) r5 (Int32.ofNat (v + 1)) st8)))) else some (1, st))
    (hfail : ∀ k dep v st, body k dep 0 v st = some (0, st)) {dep bm bc : Nat} {C : Cd} (hd0 : d0 ≤ dep) (hd8 : dep ≤ 8) (hbc : bc = C.length) :
    ∀ (f m : Nat) (r : Re) (st : St), 400 < r.1 + f → f ≤ 400 → Cp lw B L T r.1 r.2.1 (C ++ r.2.2.2.1) st →
    (∀ q, sLoopJ tk oc om cmb (tK B L) (next dep) bm bc f r = .ok q → ∃ st', lp (fun _ _ _ _ => none) body (m + 1 + f) (Int32.ofNat dep) 1 (Int32.ofNat (400 - f)) st = some (1, st') ∧ Cp lw B L T q.1 q.2.1 (C ++ q.2.2.2.1) st' ∧ CF st st') ∧
    (∀ e, sLoopJ tk oc om cmb (tK B L) (next dep) bm bc f r = .error e → ∃ st', lp (fun _ _ _ _ => none) body (m + 1 + f) (Int32.ofNat dep) 1 (Int32.ofNat (400 - f)) st = some (0, st') ∧ Ce B L T e st' ∧ CF st st') := by
  intro f
  induction f with
  | zero =>
    intro m r st hf _ h
    have := h.2.1
    have := h.T4
    omega
  | succ f ih =>
    intro m r st hf hf4 h
    rw [← Nat.add_assoc, lp_s, hstep _ dep (400 - (f + 1)) r.1 r.2.1 _ st (by omega) h]
    unfold sLoopJ
    by_cases hk : tK B L r.1 = tk
    · rw [if_pos hk, if_pos hk]
      have hcl : C.length + r.2.2.2.1.length ≤ r.1 := by have hx := h.2.2.2.2.2.2.2.2.2; rw [List.length_append] at hx; exact hx
      obtain ⟨st1, g1, g2, g3⟩ := h.look (fz := fz) (fun e => htk (by rw [← hk]; exact e))
      obtain ⟨st2, a1, a2, a3⟩ := g2.add (fz := fz) (o := oc) (v := 0) (by rw [List.length_append]; omega) ho (by omega)
      have hg3 : CF st st2 := (CF_of g3 (by decide) (by decide) (by decide)).tr (CF_of a3 (by decide) (by decide) (by decide))
      replace a1 : fX8_add (Int32.ofNat oc) 0 fz st1 = some (Int32.ofNat (C ++ r.2.2.2.1).length, st2) := a1
      rw [g1, bd_v, a1, bd_v]
      obtain ⟨p1, p2⟩ := hn dep (bm + r.2.2.1.length + 1) (bc + r.2.2.2.1.length + 1) (r.1 + 1) r.2.1 (C ++ r.2.2.2.1 ++ [(oc, 0)]) st2 hd0 hd8 (by simp [hbc]; omega) a2
      have e400 : 400 - (f + 1) + 1 = 400 - f := by omega
      have hT4 := h.T4
      have hrT := h.2.1
      have hgood : ∀ a, next dep (bm + r.2.2.1.length + 1) (bc + r.2.2.2.1.length + 1) (r.1 + 1) r.2.1 = .ok a → ∃ st3, (bd (nx (Int32.ofNat dep) st2) (fun r5 st6 => bd (fX8_aim (Int32.ofNat (C ++ r.2.2.2.1).length) fz st6) (fun _ st8 => lp (fun _ _ _ _ => none) body (m + 1 + f) (Int32.ofNat dep) r5 (Int32.ofNat (400 - (f + 1) + 1)) st8))) = lp (fun _ _ _ _ => none) body (m + 1 + f) (Int32.ofNat dep) 1 (Int32.ofNat (400 - f)) st3 ∧ Cp lw B L T a.1 a.2.1 (C ++ (jumpR oc om cmb bm bc r a).2.2.2.1) st3 ∧ CF st st3 ∧ r.1 < a.1 := by
        intro a ha
        obtain ⟨st3, q1, q2, q3⟩ := p1 a ha
        obtain ⟨z1, z2, z3, z4, z5⟩ := (hG _ _ _ _ _ _ ha).1
        have ea : C ++ r.2.2.2.1 ++ [(oc, 0)] ++ a.2.2.2.1 = (C ++ r.2.2.2.1) ++ (oc, 0) :: a.2.2.2.1 := by simp
        rw [ea] at q2
        obtain ⟨st4, k1, k2, k3⟩ := q2.aim (fz := fz) ho (by decide)
        refine ⟨st4, ?_, ?_, (hg3.tr q3).tr (CF_of k3 (by decide) (by decide) (by decide)), by omega⟩
        · rw [q1, bd_v, k1, bd_v, e400]
        · have e5 : C ++ (jumpR oc om cmb bm bc r a).2.2.2.1 = (C ++ r.2.2.2.1) ++ (oc, ((C ++ r.2.2.2.1) ++ (oc, 0) :: a.2.2.2.1).length) :: a.2.2.2.1 := by
            simp only [jumpR, List.append_assoc, List.length_append, List.length_cons]
            rw [hbc]
            congr 4
            omega
          rw [e5]
          exact k2
      constructor
      · intro q hq
        obtain ⟨a, ha1, ha2⟩ := exb_ok hq
        obtain ⟨st3, k1, k2, k3, k4⟩ := hgood a ha1
        obtain ⟨st4, s1, s2, s3⟩ := (ih m (jumpR oc om cmb bm bc r a) st3 (by show 400 < a.1 + f; omega) (by omega) k2).1 q ha2
        exact ⟨st4, k1.trans s1, s2, k3.tr s3⟩
      · intro e he
        rcases exb_err he with he | ⟨a, ha1, ha2⟩
        · obtain ⟨st3, q1, q2, q3⟩ := p2 e he
          obtain ⟨st4, k1, k2, k3⟩ := q2.aim (fz := fz) (p := (C ++ r.2.2.2.1).length) (by rw [List.length_append]; omega)
          refine ⟨st4, ?_, k2, (hg3.tr q3).tr (CF_of k3 (by decide) (by decide) (by decide))⟩
          rw [q1, bd_v, k1, bd_v, show m + 1 + f = (m + f) + 1 by omega, lp_s]
          exact hfail _ _ _ _
        · obtain ⟨st3, k1, k2, k3, k4⟩ := hgood a ha1
          obtain ⟨st4, s1, s2, s3⟩ := (ih m (jumpR oc om cmb bm bc r a) st3 (by show 400 < a.1 + f; omega) (by omega) k2).2 e ha2
          exact ⟨st4, k1.trans s1, s2, k3.tr s3⟩
    · rw [if_neg hk, if_neg hk]
      refine ⟨fun q hq => ?_, fun e he => (by cases he)⟩
      cases hq
      exact ⟨st, rfl, h, CF.rf⟩
theorem csim_chainJ {lw : Bool} {B : Nat → Nat} {L T d0 : Nat} {fz : List FP} {tk oc om : Nat} {cmb : Dn → Dn → Dn} {next : Rd} {nx : Int32 → St → Option (Int32 × St)} {body : (Int32 → Int32 → Int32 → St → Option (Int32 × St)) → Int32 → Int32 → Int32 → St → Option (Int32 × St)} (hn : SimC lw B L T d0 next nx) (hG : Gr true lw next) (ho : oc < 16) (htk : tk ≠ 257)
    (hstep : ∀ k dep v j n C st, v < 400 → Cp lw B L T j n C st → body k (Int32.ofNat dep) 1 (Int32.ofNat v) st = if tK B L j = tk then bd (fX9_lookAt (st.1 704 + 1) fz st) (fun _ st2 => bd (fX8_add (Int32.ofNat oc) 0 fz st2) (fun r3 st4 => bd (nx (Int32.ofNat dep) st4) (fun r5 st6 => bd (fX8_aim r3 fz st6) (fun _ st8 => k (Int32.ofNat dep) r5 (Int32.ofNat (v + 1)) st8)))) else some (1, st))
    (hfail : ∀ k dep v st, body k dep 0 v st = some (0, st)) : SimC lw B L T d0 (fun dep bm bc j n => (next dep bm bc j n).bind (sLoopJ tk oc om cmb (tK B L) (next dep) bm bc 400)) (fun a st => bd (nx a st) (fun r8 st9 => lp (fun _ _ _ _ => none) body 6000 a r8 (0 : Int32) st9)) := by
  intro dep bm bc j n C st hd0 hd8 hbc h
  obtain ⟨p1, p2⟩ := hn dep bm bc j n C st hd0 hd8 hbc h
  have hl := fun a st1 ha (h1 : Cp lw B L T a.1 a.2.1 (C ++ a.2.2.2.1) st1) => csim_loopJ (fz := fz) (om := om) (cmb := cmb) (bm := bm) hn hG ho htk hstep hfail hd0 hd8 hbc 400 5599 a st1 ha (Nat.le_refl _) h1
  constructor
  · intro r hr
    obtain ⟨a, ha1, ha2⟩ := exb_ok hr
    obtain ⟨st1, q1, q2, q3⟩ := p1 a ha1
    have hz := (hG _ _ _ _ _ _ ha1).1.2.2.1
    obtain ⟨st2, s1, s2, s3⟩ := (hl a st1 (by omega) q2).1 r ha2
    exact ⟨st2, by show bd (nx _ _) _ = _; rw [q1, bd_v]; exact s1, s2, q3.tr s3⟩
  · intro e he
    rcases exb_err he with he | ⟨a, ha1, ha2⟩
    · obtain ⟨st1, q1, q2, q3⟩ := p2 e he
      refine ⟨st1, ?_, q2, q3⟩
      show bd (nx _ _) _ = _
      rw [q1, bd_v]
      exact hfail _ _ _ _
    · obtain ⟨st1, q1, q2, q3⟩ := p1 a ha1
      have hz := (hG _ _ _ _ _ _ ha1).1.2.2.1
      obtain ⟨st2, s1, s2, s3⟩ := (hl a st1 (by omega) q2).2 e ha2
      exact ⟨st2, by show bd (nx _ _) _ = _; rw [q1, bd_v]; exact s1, s2, q3.tr s3⟩
theorem csim_test {lw : Bool} {B : Nat → Nat} {L T d0 : Nat} {fz : List FP} {sT' sS' : Rd} {rT rS : Int32 → St → Option (Int32 × St)} (hT : SimC lw B L T (d0 + 1) sT' rT) (hS : SimC lw B L T (d0 + 1) sS' rS) (hGT : Gr true lw sT') (hGS : Gr false lw sS') : SimC lw B L T d0 (sTest lw (tK B L) (tV B L) sT' sS') (fun a st => fX9_readTest rT rS a fz st) := by
  have hboth : SimC lw B L T d0 (sBoth lw (tK B L) (tV B L) sT' sS') (fun a st => fX9_readBoth rT rS a fz st) := by
    refine csim_chainJ (fz := fz) (tk := 314) (oc := 12) (body := fX9_readBoth_b8 rT rS fz) (csim_plain (fz := fz) hT hS hGT hGS) (sPlain_ok hGT hGS) (by decide) (by decide) ?_ ?_
    · intro k dep v j n C st hv h
      have hk3 := tK_le (L := L) (j := j) h.hB
      unfold fX9_readBoth_b8 fX9_readBoth_b62 fX9_passes
      rw [i10, show (400 : Int32) = Int32.ofNat 400 from rfl, if_leF (by omega) (by omega), h.kind, show (314 : Int32) = Int32.ofNat 314 from rfl, oN_s]
      by_cases e1 : tK B L j = 314
      · rw [if_eqT e1, if_pos e1]
        cases hl : fX9_lookAt (st.1 704 + 1) fz st with
        | none => rfl
        | some x => rfl
      · rw [if_eqF e1 (by omega) (by omega), if_neg e1]; rfl
    · intro k dep v st
      unfold fX9_readBoth_b8
      rw [i00]
      rfl
  refine csim_chainJ (fz := fz) (tk := 313) (oc := 11) (body := fX9_readTest_b8 rT rS fz) hboth (sBoth_ok hGT hGS) (by decide) (by decide) ?_ ?_
  · intro k dep v j n C st hv h
    have hk3 := tK_le (L := L) (j := j) h.hB
    unfold fX9_readTest_b8 fX9_readTest_b62 fX9_passes
    rw [i10, show (400 : Int32) = Int32.ofNat 400 from rfl, if_leF (by omega) (by omega), h.kind, show (313 : Int32) = Int32.ofNat 313 from rfl, oN_s]
    by_cases e1 : tK B L j = 313
    · rw [if_eqT e1, if_pos e1]
      cases hl : fX9_lookAt (st.1 704 + 1) fz st with
      | none => rfl
      | some x => rfl
    · rw [if_eqF e1 (by omega) (by omega), if_neg e1]; rfl
  · intro k dep v st
    unfold fX9_readTest_b8
    rw [i00]
    rfl
theorem SimC.up {lw : Bool} {B : Nat → Nat} {L T d0 d1 : Nat} {sp : Rd} {rd : Int32 → St → Option (Int32 × St)} (h : SimC lw B L T d0 sp rd) (hd : d0 ≤ d1) : SimC lw B L T d1 sp rd := fun dep bm bc j n C st hd0 => h dep bm bc j n C st (by omega)
theorem csim_ST {lw : Bool} {B : Nat → Nat} {L T : Nat} {fz : List FP} : ∀ l, SimC lw B L T (9 - l) (sT lw (tK B L) (tV B L) l) (rdT fz l) ∧ SimC lw B L T (9 - l) (sS lw (tK B L) (tV B L) l) (rdS fz l) := by
  intro l
  induction l with
  | zero => exact ⟨fun dep bm bc j n C st hd0 hd8 => by omega, fun dep bm bc j n C st hd0 hd8 => by omega⟩
  | succ l ih => exact ⟨csim_test (fz := fz) (ih.1.up (by omega)) (ih.2.up (by omega)) (sT_ok l) (sS_ok l), csim_sum (fz := fz) (rT := rdT fz l) (ih.2.up (by omega)) (sS_ok l)⟩
