/-! T2, the class's reader against the grammar: sums and tests -/
theorem CF_of {I J A : List Nat} {st st' : St} (h : fr I J A st st') (h1 : ∀ k, k ∈ I → k ∈ [703, 704, 705, 706, 604]) (h2 : ∀ k, k ∈ J → k ∈ ([] : List Nat)) (h3 : ∀ k, k ∈ A → k ∈ [603]) : CF st st' := h.up h1 h2 h3
theorem csim_part {lw : Bool} {B : Nat → Nat} {L T d0 : Nat} {fz : List FP} {sS' : Rd} {rT rS : Int32 → St → Option (Int32 × St)} (hS : SimC lw B L T (d0 + 1) sS' rS) : SimC lw B L T d0 (sPart lw (tK B L) (tV B L) sS') (fun a st => fX9_readPart rT rS a fz st) := by
  intro dep bm bc j n C st hd0 hd8 hbc h
  have hk3 := tK_le (L := L) (j := j) h.hB
  unfold sPart
  by_cases h91 : tK B L j = 91
  · rw [if_pos h91]
    have e0 : fX9_readPart rT rS (Int32.ofNat dep) fz st = bd (fX9_readInBrackets rT rS 91 (Int32.ofNat dep) fz st) (fun r12 st13 => gb r12 (some (r12, st13))) := by
      unfold fX9_readPart
      rw [h.kind, show (91 : Int32) = Int32.ofNat 91 from rfl, if_eqT h91]
    show (∀ r, _ → ∃ st', fX9_readPart rT rS (Int32.ofNat dep) fz st = _ ∧ _) ∧ (∀ e, _ → ∃ st', fX9_readPart rT rS (Int32.ofNat dep) fz st = _ ∧ _)
    rw [e0]
    unfold fX9_readInBrackets fX9_readInBrackets_b74 fX9_readInBrackets_b75
    by_cases h8 : 8 ≤ dep
    · rw [if_pos h8, show (8 : Int32) = Int32.ofNat 8 from rfl, if_ltF h8 (by omega), bd_v]
      refine ⟨fun r hr => (by cases hr), fun e he => ?_⟩
      cases he
      exact ⟨st, rfl, h.err, CF.rf⟩
    · rw [if_neg h8, show (8 : Int32) = Int32.ofNat 8 from rfl, if_ltT (by omega) (by omega)]
      obtain ⟨st1, g1, g2, g3⟩ := h.look (fz := fz) (by omega)
      rw [g1, bd_v, if_neg (show ¬ ((91 : Int32) = 40) by decide), oN_s]
      obtain ⟨p1, p2⟩ := hS (dep + 1) bm bc (j + 1) n C st1 (by omega) (by omega) hbc g2
      have hg3 : CF st st1 := CF_of g3 (by decide) (by decide) (by decide)
      constructor
      · intro r hr
        obtain ⟨a, ha1, ha2⟩ := exb_ok hr
        obtain ⟨st2, q1, q2, q3⟩ := p1 a ha1
        unfold sClose at ha2
        by_cases h93 : tK B L a.1 = 93
        · rw [if_pos h93] at ha2
          cases ha2
          obtain ⟨st3, r1, r2, r3⟩ := (q2.passes (fz := fz) (c := 93) (by decide)).1 h93 (by decide)
          replace r1 : fX9_passes 93 fz st2 = some (1, st3) := r1
          refine ⟨st3, ?_, r2, (hg3.tr q3).tr (CF_of r3 (by decide) (by decide) (by decide))⟩
          rw [q1, bd_v, i10, r1, bd_v, i10]
          rfl
        · rw [if_neg h93] at ha2; cases ha2
      · intro e he
        rcases exb_err he with he | ⟨a, ha1, ha2⟩
        · obtain ⟨st2, q1, q2, q3⟩ := p2 e he
          refine ⟨st2, ?_, q2, hg3.tr q3⟩
          rw [q1, bd_v, i00]
          rfl
        · obtain ⟨st2, q1, q2, q3⟩ := p1 a ha1
          unfold sClose at ha2
          by_cases h93 : tK B L a.1 = 93
          · rw [if_pos h93] at ha2; cases ha2
          · rw [if_neg h93] at ha2
            cases ha2
            have r1 := (q2.passes (fz := fz) (c := 93) (by decide)).2 h93
            replace r1 : fX9_passes 93 fz st2 = some (0, st2) := r1
            refine ⟨st2, ?_, q2.err, hg3.tr q3⟩
            rw [q1, bd_v, i10, r1, bd_v, i00]
            rfl
  · rw [if_neg h91]
    exact h.leaf h91
/-- a loop of operators -/
theorem csim_loop {lw : Bool} {B : Nat → Nat} {L T d0 : Nat} {fz : List FP} {op : Nat → Nat} {next : Rd} {nx : Int32 → St → Option (Int32 × St)} {body : (Int32 → Int32 → Int32 → St → Option (Int32 × St)) → Int32 → Int32 → Int32 → St → Option (Int32 × St)} (hn : SimC lw B L T d0 next nx) (hG : Gr false lw next) (hop : ∀ k, op k ≠ 0 → 2 ≤ op k ∧ op k ≤ 9) (hop2 : op 257 = 0)
    (hstep : ∀ k dep v j n C st, v < 400 → Cp lw B L T j n C st → body k (Int32.ofNat dep) 1 (Int32.ofNat v) st = if op (tK B L j) = 0 then some (1, st) else bd (fX9_lookAt (st.1 704 + 1) fz st) (fun _ st2 => bd (nx (Int32.ofNat dep) st2) (fun r3 st4 => bd (fX8_add (Int32.ofNat (op (tK B L j))) 0 fz st4) (fun _ st6 => k (Int32.ofNat dep) r3 (Int32.ofNat (v + 1)) st6))))
    (hfail : ∀ k dep v st, body k dep 0 v st = some (0, st)) {dep bm bc : Nat} {C : Cd} (hd0 : d0 ≤ dep) (hd8 : dep ≤ 8) (hbc : bc = C.length) :
    ∀ (f m : Nat) (r : Re) (st : St), 400 < r.1 + f → f ≤ 400 → Cp lw B L T r.1 r.2.1 (C ++ r.2.2.2.1) st →
    (∀ q, sLoop op (tK B L) (next dep) bm bc f r = .ok q → ∃ st', lp (fun _ _ _ _ => none) body (m + 1 + f) (Int32.ofNat dep) 1 (Int32.ofNat (400 - f)) st = some (1, st') ∧ Cp lw B L T q.1 q.2.1 (C ++ q.2.2.2.1) st' ∧ CF st st') ∧
    (∀ e, sLoop op (tK B L) (next dep) bm bc f r = .error e → ∃ st', lp (fun _ _ _ _ => none) body (m + 1 + f) (Int32.ofNat dep) 1 (Int32.ofNat (400 - f)) st = some (0, st') ∧ Ce B L T e st' ∧ CF st st') := by
  intro f
  induction f with
  | zero =>
    intro m r st hf _ h
    have := h.2.1
    have := h.T4
    omega
  | succ f ih =>
    intro m r st hf hf4 h
    rw [← Nat.add_assoc, lp_s, hstep _ dep (400 - (f + 1)) r.1 r.2.1 _ st (by omega) h]
    unfold sLoop
    by_cases ho : op (tK B L r.1) = 0
    · rw [if_pos ho, if_pos ho]
      refine ⟨fun q hq => ?_, fun e he => (by cases he)⟩
      cases hq
      exact ⟨st, rfl, h, CF.rf⟩
    · rw [if_neg ho, if_neg ho]
      obtain ⟨ho1, ho2⟩ := hop _ ho
      obtain ⟨st1, g1, g2, g3⟩ := h.look (fz := fz) (fun e => ho (by rw [e]; exact hop2))
      have hg3 : CF st st1 := CF_of g3 (by decide) (by decide) (by decide)
      rw [g1, bd_v]
      obtain ⟨p1, p2⟩ := hn dep (bm + r.2.2.1.length) (bc + r.2.2.2.1.length) (r.1 + 1) r.2.1 (C ++ r.2.2.2.1) st1 hd0 hd8 (by rw [List.length_append, hbc]) g2
      have e400 : 400 - (f + 1) + 1 = 400 - f := by omega
      have hgood : ∀ a, next dep (bm + r.2.2.1.length) (bc + r.2.2.2.1.length) (r.1 + 1) r.2.1 = .ok a → ∃ st3, (bd (nx (Int32.ofNat dep) st1) (fun r3 st4 => bd (fX8_add (Int32.ofNat (op (tK B L r.1))) 0 fz st4) (fun _ st6 => lp (fun _ _ _ _ => none) body (m + 1 + f) (Int32.ofNat dep) r3 (Int32.ofNat (400 - (f + 1) + 1)) st6))) = lp (fun _ _ _ _ => none) body (m + 1 + f) (Int32.ofNat dep) 1 (Int32.ofNat (400 - f)) st3 ∧ Cp lw B L T a.1 a.2.1 (C ++ (joinR (op (tK B L r.1)) r a).2.2.2.1) st3 ∧ CF st st3 ∧ r.1 < a.1 := by
        intro a ha
        obtain ⟨st2, q1, q2, q3⟩ := p1 a ha
        obtain ⟨z1, z2, z3, z4, z5⟩ := (hG _ _ _ _ _ _ ha).1
        obtain ⟨st3, k1, k2, k3⟩ := q2.add (fz := fz) (o := op (tK B L r.1)) (v := 0) (by have hx := h.2.2.2.2.2.2.2.2.2; rw [List.length_append] at hx; rw [List.length_append, List.length_append]; omega) (by omega) (by omega)
        refine ⟨st3, ?_, ?_, (hg3.tr q3).tr (CF_of k3 (by decide) (by decide) (by decide)), by omega⟩
        · replace k1 : fX8_add (Int32.ofNat (op (tK B L r.1))) 0 fz st2 = _ := k1
          rw [q1, bd_v, k1, bd_v, e400]
        · have e5 : C ++ (joinR (op (tK B L r.1)) r a).2.2.2.1 = C ++ r.2.2.2.1 ++ a.2.2.2.1 ++ [(op (tK B L r.1), 0)] := by simp only [joinR, List.append_assoc]
          rw [e5]
          exact k2
      constructor
      · intro q hq
        obtain ⟨a, ha1, ha2⟩ := exb_ok hq
        obtain ⟨st3, k1, k2, k3, k4⟩ := hgood a ha1
        obtain ⟨st4, s1, s2, s3⟩ := (ih m (joinR (op (tK B L r.1)) r a) st3 (by show 400 < a.1 + f; omega) (by omega) k2).1 q ha2
        exact ⟨st4, k1.trans s1, s2, k3.tr s3⟩
      · intro e he
        rcases exb_err he with he | ⟨a, ha1, ha2⟩
        · obtain ⟨st2, q1, q2, q3⟩ := p2 e he
          obtain ⟨x, st3, k1, k2, k3⟩ := q2.add (fz := fz) (o := Int32.ofNat (op (tK B L r.1))) (v := 0)
          refine ⟨st3, ?_, k2, (hg3.tr q3).tr (CF_of k3 (by decide) (by decide) (by decide))⟩
          rw [q1, bd_v, k1, bd_v, show m + 1 + f = (m + f) + 1 by omega, lp_s]
          exact hfail _ _ _ _
        · obtain ⟨st3, k1, k2, k3, k4⟩ := hgood a ha1
          obtain ⟨st4, s1, s2, s3⟩ := (ih m (joinR (op (tK B L r.1)) r a) st3 (by show 400 < a.1 + f; omega) (by omega) k2).2 e ha2
          exact ⟨st4, k1.trans s1, s2, k3.tr s3⟩
theorem csim_chain {lw : Bool} {B : Nat → Nat} {L T d0 : Nat} {fz : List FP} {op : Nat → Nat} {next : Rd} {nx : Int32 → St → Option (Int32 × St)} {body : (Int32 → Int32 → Int32 → St → Option (Int32 × St)) → Int32 → Int32 → Int32 → St → Option (Int32 × St)} (hn : SimC lw B L T d0 next nx) (hG : Gr false lw next) (hop : ∀ k, op k ≠ 0 → 2 ≤ op k ∧ op k ≤ 9) (hop2 : op 257 = 0)
    (hstep : ∀ k dep v j n C st, v < 400 → Cp lw B L T j n C st → body k (Int32.ofNat dep) 1 (Int32.ofNat v) st = if op (tK B L j) = 0 then some (1, st) else bd (fX9_lookAt (st.1 704 + 1) fz st) (fun _ st2 => bd (nx (Int32.ofNat dep) st2) (fun r3 st4 => bd (fX8_add (Int32.ofNat (op (tK B L j))) 0 fz st4) (fun _ st6 => k (Int32.ofNat dep) r3 (Int32.ofNat (v + 1)) st6))))
    (hfail : ∀ k dep v st, body k dep 0 v st = some (0, st)) : SimC lw B L T d0 (fun dep bm bc j n => (next dep bm bc j n).bind (sLoop op (tK B L) (next dep) bm bc 400)) (fun a st => bd (nx a st) (fun r8 st9 => lp (fun _ _ _ _ => none) body 6000 a r8 (0 : Int32) st9)) := by
  intro dep bm bc j n C st hd0 hd8 hbc h
  obtain ⟨p1, p2⟩ := hn dep bm bc j n C st hd0 hd8 hbc h
  have hl := fun a st1 ha (h1 : Cp lw B L T a.1 a.2.1 (C ++ a.2.2.2.1) st1) => csim_loop (fz := fz) (bm := bm) hn hG hop hop2 hstep hfail hd0 hd8 hbc 400 5599 a st1 ha (Nat.le_refl _) h1
  constructor
  · intro r hr
    obtain ⟨a, ha1, ha2⟩ := exb_ok hr
    obtain ⟨st1, q1, q2, q3⟩ := p1 a ha1
    have hz := (hG _ _ _ _ _ _ ha1).1.2.2.1
    obtain ⟨st2, s1, s2, s3⟩ := (hl a st1 (by omega) q2).1 r ha2
    exact ⟨st2, by show bd (nx _ _) _ = _; rw [q1, bd_v]; exact s1, s2, q3.tr s3⟩
  · intro e he
    rcases exb_err he with he | ⟨a, ha1, ha2⟩
    · obtain ⟨st1, q1, q2, q3⟩ := p2 e he
      refine ⟨st1, ?_, q2, q3⟩
      show bd (nx _ _) _ = _
      rw [q1, bd_v]
      exact hfail _ _ _ _
    · obtain ⟨st1, q1, q2, q3⟩ := p1 a ha1
      have hz := (hG _ _ _ _ _ _ ha1).1.2.2.1
      obtain ⟨st2, s1, s2, s3⟩ := (hl a st1 (by omega) q2).2 e ha2
      exact ⟨st2, by show bd (nx _ _) _ = _; rw [q1, bd_v]; exact s1, s2, q3.tr s3⟩
theorem csim_sum {lw : Bool} {B : Nat → Nat} {L T d0 : Nat} {fz : List FP} {sS' : Rd} {rT rS : Int32 → St → Option (Int32 × St)} (hS : SimC lw B L T (d0 + 1) sS' rS) (hGS : Gr false lw sS') : SimC lw B L T d0 (sSum lw (tK B L) (tV B L) sS') (fun a st => fX9_readSum rT rS a fz st) := by
  have hterm : SimC lw B L T d0 (sTerm lw (tK B L) (tV B L) sS') (fun a st => fX9_readTerm rT rS a fz st) := by
    refine csim_chain (fz := fz) (op := mulO) (body := fX9_readTerm_b8 rT rS fz) (csim_part (fz := fz) (rT := rT) hS) (sPart_ok hGS) mulO_b rfl ?_ ?_
    · intro k dep v j n C st hv h
      have hk3 := tK_le (L := L) (j := j) h.hB
      unfold fX9_readTerm_b8 fX9_readTerm_b46 fX9_readTerm_b74 fX9_readTerm_b109 mulO
      rw [i10, show (400 : Int32) = Int32.ofNat 400 from rfl, if_leF (by omega) (by omega), h.kind, show (42 : Int32) = Int32.ofNat 42 from rfl, show (47 : Int32) = Int32.ofNat 47 from rfl, show (37 : Int32) = Int32.ofNat 37 from rfl, oN_s]
      simp only [lt_v]
      by_cases e1 : tK B L j = 42
      · rw [if_eqT e1, if_eqT e1, if_pos e1, if_neg (by decide)]; rfl
      rw [if_eqF e1 (by omega) (by omega), if_eqF e1 (by omega) (by omega), if_neg e1]
      by_cases e2 : tK B L j = 47
      · rw [if_eqT e2, if_eqT e2, if_pos e2, if_neg (by decide)]; rfl
      rw [if_eqF e2 (by omega) (by omega), if_eqF e2 (by omega) (by omega), if_neg e2]
      by_cases e3 : tK B L j = 37
      · rw [if_eqT e3, if_pos e3, if_neg (by decide)]; rfl
      · rw [if_eqF e3 (by omega) (by omega), if_neg e3, if_pos rfl]; rfl
    · intro k dep v st
      unfold fX9_readTerm_b8
      rw [i00]
      rfl
  refine csim_chain (fz := fz) (op := addO) (body := fX9_readSum_b8 rT rS fz) hterm (sTerm_ok hGS) addO_b rfl ?_ ?_
  · intro k dep v j n C st hv h
    have hk3 := tK_le (L := L) (j := j) h.hB
    unfold fX9_readSum_b8 fX9_readSum_b37 fX9_readSum_b51 fX9_readSum_b86 addO
    rw [i10, show (400 : Int32) = Int32.ofNat 400 from rfl, if_leF (by omega) (by omega), h.kind, show (43 : Int32) = Int32.ofNat 43 from rfl, show (45 : Int32) = Int32.ofNat 45 from rfl, oN_s]
    simp only [lt_v]
    by_cases e1 : tK B L j = 43
    · rw [if_eqT e1, if_eqT e1, if_pos e1, if_neg (by decide)]; rfl
    rw [if_eqF e1 (by omega) (by omega), if_eqF e1 (by omega) (by omega), if_neg e1]
    by_cases e2 : tK B L j = 45
    · rw [if_eqT e2, if_pos e2, if_neg (by decide)]; rfl
    · rw [if_eqF e2 (by omega) (by omega), if_neg e2, if_pos rfl]; rfl
  · intro k dep v st
    unfold fX9_readSum_b8
    rw [i00]
    rfl
