/-! T2, the reference's reading machine: sums, against the grammar -/
abbrev rn (v1 : Int32) (m : Nat) (t : Int32) (st : St) : Option (Unit × St) := lp (fun _ _ _ => none) fX12_readExpression_b20 m v1 t st
def topb : Cd → Nat
  | [] => 0
  | x :: _ => bnd x.1
theorem setl_top {l : Nat} {P C : Cd} (h : topb P < l) : setl l P C = (P, C) := by
  cases P with
  | nil => rfl
  | cons x P =>
    unfold setl
    rw [if_neg (by have h : bnd x.1 < l := h; omega)]
theorem setl_comp {l l' : Nat} (h : l ≤ l') : ∀ (P C : Cd), setl l (setl l' P C).1 (setl l' P C).2 = setl l P C := by
  intro P
  induction P with
  | nil => intro C; rfl
  | cons x P ih =>
    intro C
    by_cases h1 : l' ≤ bnd x.1
    · have e : setl l' (x :: P) C = if x.1 = 29 ∨ x.1 = 30 then setl l' P (setA C x.2 C.length) else setl l' P (C ++ [(x.1, 0)]) := by
        show (if l' ≤ bnd x.1 then _ else _) = _
        rw [if_pos h1]
      have e2 : setl l (x :: P) C = if x.1 = 29 ∨ x.1 = 30 then setl l P (setA C x.2 C.length) else setl l P (C ++ [(x.1, 0)]) := by
        show (if l ≤ bnd x.1 then _ else _) = _
        rw [if_pos (by omega)]
      rw [e, e2]
      split
      · exact ih _
      · exact ih _
    · have e : setl l' (x :: P) C = (x :: P, C) := by
        show (if l' ≤ bnd x.1 then _ else _) = _
        rw [if_neg h1]
      rw [e]
theorem setl_innr {l : Nat} (hl : 1 ≤ l) : ∀ (P C : Cd), innr (setl l P C).1 = innr P := by
  intro P
  induction P with
  | nil => intro C; rfl
  | cons x P ih =>
    intro C
    by_cases h1 : l ≤ bnd x.1
    · have e : setl l (x :: P) C = if x.1 = 29 ∨ x.1 = 30 then setl l P (setA C x.2 C.length) else setl l P (C ++ [(x.1, 0)]) := by
        show (if l ≤ bnd x.1 then _ else _) = _
        rw [if_pos h1]
      have e2 : innr (x :: P) = innr P := by
        show (if 31 ≤ x.1 then _ else _) = _
        rw [if_neg (fun q => by unfold bnd at h1; rw [if_pos q] at h1; omega)]
      rw [e, e2]
      split
      · exact ih _
      · exact ih _
    · have e : setl l (x :: P) C = (x :: P, C) := by
        show (if l ≤ bnd x.1 then _ else _) = _
        rw [if_neg h1]
      rw [e]
theorem setl_cmpd {l : Nat} (hl : 5 ≤ l) : ∀ (P C : Cd), (∀ x ∈ P, 20 ≤ x.1) → cmpd (setl l P C).1 = cmpd P := by
  intro P
  induction P with
  | nil => intro C _; rfl
  | cons x P ih =>
    intro C hx
    have hx0 := hx x List.mem_cons_self
    by_cases h1 : l ≤ bnd x.1
    · have hb : x.1 ≤ 24 := by
        unfold bnd at h1
        repeat' split at h1
        all_goals omega
      have e : setl l (x :: P) C = setl l P (C ++ [(x.1, 0)]) := by
        show (if l ≤ bnd x.1 then _ else _) = _
        rw [if_pos h1, if_neg (by omega)]
      have e2 : cmpd (x :: P) = cmpd P := by
        show (if 20 ≤ x.1 ∧ x.1 ≤ 24 then _ else _) = _
        rw [if_pos ⟨hx0, hb⟩]
      rw [e, e2]
      exact ih _ (fun y hy => hx y (List.mem_cons_of_mem _ hy))
    · have e : setl l (x :: P) C = (x :: P, C) := by
        show (if l ≤ bnd x.1 then _ else _) = _
        rw [if_neg h1]
      rw [e]
def opO (k : Nat) : Nat := if addO k = 0 then mulO k else addO k
section Sim
variable {lw : Bool} {B : Nat → Nat} {L j n o : Nat} {P C : Cd} {st : St}
theorem Mp.ge20 (h : Mp lw B L j n P C o st) : ∀ x ∈ P, 20 ≤ x.1 := fun x hx => (h.q.2.2.2.2.2.2.2 x hx).1
theorem Mp.rn3 (h : Mp lw B L j n P C o st) (v1 : Int32) (m : Nat) : rn v1 (m + 1) 3 st = bd (fX12_behindSum v1 st) (fun r st' => rn v1 m r st') := by
  unfold rn
  rw [lp_s]
  generalize lp (fun _ _ _ => none) fX12_readExpression_b20 m = k
  unfold fX12_readExpression_b20
  rw [h.2.2.2.2.1, if_pos rfl, if_neg (by decide), if_neg (by decide), if_neg (by decide), if_pos rfl]
  rfl
theorem Mp.rn1 (h : Mp lw B L j n P C o st) (v1 : Int32) (m : Nat) : rn v1 (m + 1) 1 st = bd (fX12_readPart st) (fun r st' => rn v1 m r st') := by
  unfold rn
  rw [lp_s]
  generalize lp (fun _ _ _ => none) fX12_readExpression_b20 m = k
  unfold fX12_readExpression_b20
  rw [h.2.2.2.2.1, if_pos rfl, if_neg (by decide), if_neg (by decide), if_pos rfl]
  rfl
theorem Mp.rn0 (h : Mp lw B L j n P C o st) (v1 : Int32) (m : Nat) : rn v1 (m + 1) 0 st = bd (fX12_readPlain st) (fun r st' => rn v1 m r st') := by
  unfold rn
  rw [lp_s]
  generalize lp (fun _ _ _ => none) fX12_readExpression_b20 m = k
  unfold fX12_readExpression_b20
  rw [h.2.2.2.2.1, if_pos rfl, if_neg (by decide), if_pos rfl]
  rfl
theorem Mp.rn2 (h : Mp lw B L j n P C o st) (v1 : Int32) (m : Nat) : rn v1 (m + 1) 2 st = bd (fX12_behindTest st) (fun r st' => rn v1 m r st') := by
  unfold rn
  rw [lp_s]
  generalize lp (fun _ _ _ => none) fX12_readExpression_b20 m = k
  unfold fX12_readExpression_b20
  rw [h.2.2.2.2.1, if_pos rfl, if_neg (by decide), if_neg (by decide), if_neg (by decide), if_neg (by decide)]
  rfl
theorem Mp.behind (h : Mp lw B L j n P C o st) (v1 : Int32) : fX12_behindSum v1 st = fX12_behindSum_b71 v1 (if opO (tK B L j) = 0 then -1 else Int32.ofNat (opO (tK B L j) + 18)) st := by
  have hs := fun c hc => h.isSign (c := c) hc
  have h43 : fX12_isSign 43 st = some (if tK B L j = 43 then 1 else 0, st) := hs 43 (by decide)
  have h45 : fX12_isSign 45 st = some (if tK B L j = 45 then 1 else 0, st) := hs 45 (by decide)
  have h42 : fX12_isSign 42 st = some (if tK B L j = 42 then 1 else 0, st) := hs 42 (by decide)
  have h47 : fX12_isSign 47 st = some (if tK B L j = 47 then 1 else 0, st) := hs 47 (by decide)
  have h37 : fX12_isSign 37 st = some (if tK B L j = 37 then 1 else 0, st) := hs 37 (by decide)
  unfold fX12_behindSum opO addO mulO
  rw [h43, bd_v]
  by_cases e1 : tK B L j = 43
  · simp [e1]
  rw [if_neg e1, if_pos rfl, h45, bd_v]
  by_cases e2 : tK B L j = 45
  · simp [e2]
  rw [if_neg e2, if_pos rfl, h42, bd_v]
  by_cases e3 : tK B L j = 42
  · simp [e3]
  rw [if_neg e3, if_pos rfl, h47, bd_v]
  by_cases e4 : tK B L j = 47
  · simp [e4]
  rw [if_neg e4, if_pos rfl, h37, bd_v]
  by_cases e5 : tK B L j = 37
  · simp [e5]
  · simp [e1, e2, e3, e4, e5]
theorem opO_le (k : Nat) : opO k ≤ 6 := by
  unfold opO addO mulO
  repeat' split
  all_goals omega
/-- an operator of sums stands next -/
theorem Mp.stepOp (h : Mp lw B L j n P C o st) (ho : opO (tK B L j) ≠ 0) (v1 : Int32) : ∃ st', Mp lw B L (j + 1) n ((opO (tK B L j) + 18, 0) :: (setl (bnd (opO (tK B L j) + 18)) P C).1) (setl (bnd (opO (tK B L j) + 18)) P C).2 o st' ∧ PF st st' ∧ ∀ m, rn v1 (m + 1) 3 st = rn v1 m 1 st' := by
  have hk : tK B L j ≠ 257 := fun e => ho (by rw [e]; decide)
  have h6 := opO_le (tK B L j)
  have hb : 1 ≤ bnd (opO (tK B L j) + 18) := by
    unfold bnd
    repeat' split
    all_goals omega
  have hge : 2 ≤ opO (tK B L j) := by
    by_cases e : addO (tK B L j) = 0
    · have h1 : opO (tK B L j) = mulO (tK B L j) := by unfold opO; rw [if_pos e]
      have := mulO_b (tK B L j) (by rw [← h1]; exact ho)
      omega
    · have h1 : opO (tK B L j) = addO (tK B L j) := by unfold opO; rw [if_neg e]
      have := addO_b (tK B L j) e
      omega
  obtain ⟨st1, g1, g2, g3⟩ := h.settle (bnd_le _) hb
  obtain ⟨st2, st3, k1, k2, k3, k4⟩ := g2.pushNext (op := opO (tK B L j) + 18) (a := 0) hk (by omega) (by omega) (by omega)
  refine ⟨st3, k3, (g3.up (by decide) (by decide) (by decide)).tr k4, fun m => ?_⟩
  rw [h.rn3, h.behind, if_neg ho]
  unfold fX12_behindSum_b71
  rw [if_neg (oN_ne1 (by omega)), m_binds (by omega), bs_v, g1, bd_v]
  rw [show (Int32.ofNat 0) = (0 : Int32) from rfl] at k1
  rw [k1, bd_v, k2, bd_v, bd_v]
theorem Mp.close {op : Nat} {st' : St} (h : Mp lw B L j n ((op, 0) :: P) C (o + 1) st) (hs : st' = sI (sI st 29 (Int32.ofNat P.length)) 30 (Int32.ofNat o)) (hop : 29 ≤ op) : Mp lw B L j n P C o st' ∧ PF st st' := by
  have hf : fr [29, 30] [] [] st st' := by rw [hs]; exact (fr.sI (k := 29) (by decide)).tr (fr.sI (k := 30) (by decide))
  obtain ⟨a1, a2, a3, a4, a5, a6, a7, a8, a9, a10, a11⟩ := h
  obtain ⟨m1, m2, m3, m4, m5, m6, m7, m8⟩ := a10
  refine ⟨⟨a1.fr hf (by decide) (by decide), a2.fr hf (by decide) (by decide), a3.fr hf, by rw [hf.1 20 (by decide)]; exact a4, by rw [hf.1 19 (by decide)]; exact a5, by rw [hf.1 26 (by decide)]; exact a6, by rw [hs]; rfl, a8, by omega, ⟨by rw [hs]; rfl, ?_, ?_, ?_, ?_, ?_, m7, fun x hx => m8 x (List.mem_cons_of_mem _ hx)⟩, a11.1, by rw [hf.1 18 (by decide)]; exact a11.2⟩, hf.up (by decide) (by decide) (by decide)⟩
  · rw [hf.2.2.1 27 (by decide), hf.2.2.1 28 (by decide)]; exact m2.2.2
  · rw [hf.1 23 (by decide)]; exact m3
  · rw [hf.2.2.1 24 (by decide), hf.2.2.1 25 (by decide)]; exact m4
  · unfold cst at m5; omega
  · have : P.length + 1 ≤ j := m6
    omega
end Sim
def SimS (lw : Bool) (B : Nat → Nat) (L d0 : Nat) (sp : Rd) (lev : Nat) (X : Nat → Prop) : Prop :=
  ∀ (v1 : Int32) dep bm bc j n P C st, d0 ≤ dep → bm = C.length → Mp lw B L j n P C dep st → topb P < lev →
    (∀ r, sp dep bm bc j n = .ok r → ∃ k Q C1 st', 1 ≤ k ∧ k + 2 * j ≤ 2 * r.1 ∧ Mp lw B L r.1 r.2.1 Q C1 dep st' ∧ setl lev Q C1 = (P, C ++ r.2.2.1) ∧ X (tK B L r.1) ∧ PF st st' ∧ ∀ m, rn v1 (m + k) 1 st = rn v1 m 3 st') ∧
    (∀ e, sp dep bm bc j n = .error e → ∃ k st', 1 ≤ k ∧ k + 2 * j ≤ 2 * e + 2 ∧ Mb B L e st' ∧ PF st st' ∧ ∀ m, ∃ t, rn v1 (m + k) 1 st = rn v1 m t st')
theorem sLeaf_e {lw : Bool} {K V : Nat → Nat} {j n e : Nat} (h : sLeaf lw K V j n = .error e) : j ≤ e := by
  unfold sLeaf at h
  split at h
  · cases h; exact Nat.le_refl _
  split at h
  · cases h
  split at h
  · split at h
    · cases h
    · cases h; exact Nat.le_refl _
  split at h
  · cases h; exact Nat.le_refl _
  split at h
  · cases h
  by_cases hv : K (j + 1) = 256 ∧ V (j + 1) ≤ (if oWord (K j) = 6 then 3 else 5)
  · rw [if_pos hv] at h; cases h
  · rw [if_neg hv] at h; cases h; omega
theorem sim_part {lw : Bool} {B : Nat → Nat} {L d0 : Nat} {rS : Rd} (hS : SimS lw B L (d0 + 1) rS 5 (fun k => opO k = 0)) : SimS lw B L d0 (sPart lw (tK B L) (tV B L) rS) 7 (fun _ => True) := by
  intro v1 dep bm bc j n P C st hd0 hbm h _
  have htop : ∀ (P C : Cd), setl 7 P C = (P, C) := fun P C => setl_top (by cases P with | nil => exact (by decide : 0 < 7) | cons x P => exact Nat.lt_of_le_of_lt (bnd_le x.1) (by decide))
  unfold sPart
  by_cases h91 : tK B L j = 91
  · rw [if_pos h91]
    have e91 : fX12_isSign 91 st = some (1, st) := by
      have := h.isSign (c := 91) (by decide)
      rw [if_pos h91] at this
      exact this
    have hrp : fX12_readPart st = bd (fX12_openBracket 32 st) (fun r13 st14 => some ((1 : Int32), st14)) := by
      unfold fX12_readPart
      rw [e91, bd_v, if_neg (by decide)]
    by_cases h8 : 8 ≤ dep
    · rw [if_pos h8]
      refine ⟨fun r hr => (by cases hr), fun e he => ?_⟩
      cases he
      obtain ⟨st1, g1, g2, g3⟩ := h.brkBad (op := 32) h8
      refine ⟨1, st1, Nat.le_refl _, by omega, g2, g3, fun m => ⟨1, ?_⟩⟩
      rw [h.rn1, hrp, g1, bd_v, bd_v]
    · rw [if_neg h8]
      obtain ⟨st1, g1, g2, g3⟩ := h.brk (op := 32) (by omega) (by omega) (Or.inr rfl)
      replace g1 : fX12_openBracket 32 st = some ((), st1) := g1
      have hr1 : ∀ m, rn v1 (m + 1) 1 st = rn v1 m 1 st1 := fun m => by rw [h.rn1, hrp, g1, bd_v, bd_v]
      have hin := hS v1 (dep + 1) bm bc (j + 1) n ((32, 0) :: P) C st1 (by omega) hbm g2 (show bnd 32 < 5 by decide)
      constructor
      · intro r hr
        obtain ⟨a, ha1, ha2⟩ := exb_ok hr
        obtain ⟨k, Q, C1, st2, k1, k2, k3, k4, k5, k6, k7⟩ := hin.1 a ha1
        unfold sClose at ha2
        by_cases h93 : tK B L a.1 = 93
        · rw [if_pos h93] at ha2
          cases ha2
          have hin2 : innr Q = 32 := by
            rw [← setl_innr (l := 5) (by decide) Q C1, k4]; rfl
          have e93 : fX12_isSign 93 st2 = some (1, st2) := by
            have := k3.isSign (c := 93) (by decide)
            rw [if_pos h93] at this
            exact this
          obtain ⟨st3, p1, p2, p3⟩ := k3.must1 (by omega)
          obtain ⟨st4, q1, q2, q3⟩ := p2.settle (l := 5) (by decide) (by decide)
          rw [k4] at q2
          have q29 : st4.1 29 - 1 = Int32.ofNat P.length := by rw [q2.q.1]; show Int32.ofNat (P.length + 1) - 1 = _; rw [oN_lit, oN_sub (by omega)]; rfl
          have q30 : (sI st4 29 (Int32.ofNat P.length)).1 30 - 1 = Int32.ofNat dep := by show st4.1 30 - 1 = _; rw [q2.2.2.2.2.2.2.1, oN_lit, oN_sub (by omega)]; rfl
          obtain ⟨c1, c2⟩ := q2.close (st' := sI (sI st4 29 (Int32.ofNat P.length)) 30 (Int32.ofNat dep)) rfl (by decide)
          refine ⟨1 + k + 1, P, C ++ a.2.2.1, _, by omega, ?_, c1, htop _ _, trivial, (((g3.tr k6).tr (p3.up (by decide) (by decide) (by decide))).tr (q3.up (by decide) (by decide) (by decide))).tr c2, fun m => ?_⟩
          · show 1 + k + 1 + 2 * j ≤ 2 * (a.1 + 1); omega
          · rw [show m + (1 + k + 1) = (m + 1 + k) + 1 by omega, hr1, k7, k3.rn3, k3.behind, if_pos k5]
            unfold fX12_behindSum_b71
            rw [if_pos rfl, k3.q.inner, bd_v, hin2, if_pos rfl, e93, bd_v, p1, bd_v, p2.2.2.2.2.1, if_pos rfl]
            replace q1 : fX12_settle 5 st3 = some ((), st4) := q1
            rw [q1, bd_v, lt_v, q29, lt_v, q30]
            rfl
        · rw [if_neg h93] at ha2; cases ha2
      · intro e he
        rcases exb_err he with he | ⟨a, ha1, ha2⟩
        · obtain ⟨k, st2, k1, k2, k3, k4, k5⟩ := hin.2 e he
          refine ⟨k + 1, st2, by omega, by omega, k3, g3.tr k4, fun m => ?_⟩
          rw [← Nat.add_assoc, hr1]
          exact k5 m
        · obtain ⟨k, Q, C1, st2, k1, k2, k3, k4, k5, k6, k7⟩ := hin.1 a ha1
          unfold sClose at ha2
          by_cases h93 : tK B L a.1 = 93
          · rw [if_pos h93] at ha2; cases ha2
          · rw [if_neg h93] at ha2
            cases ha2
            have hin2 : innr Q = 32 := by
              rw [← setl_innr (l := 5) (by decide) Q C1, k4]; rfl
            have e93 : fX12_isSign 93 st2 = some (0, st2) := by
              have := k3.isSign (c := 93) (by decide)
              rw [if_neg h93] at this
              exact this
            obtain ⟨st3, p1, p2, p3, p4⟩ := k3.must0
            refine ⟨1 + k + 1, st3, by omega, by omega, p2, (g3.tr k6).tr (p3.up (by decide) (by decide) (by decide)), fun m => ⟨3, ?_⟩⟩
            rw [show m + (1 + k + 1) = (m + 1 + k) + 1 by omega, hr1, k7, k3.rn3, k3.behind, if_pos k5]
            unfold fX12_behindSum_b71
            rw [if_pos rfl, k3.q.inner, bd_v, hin2, if_pos rfl, e93, bd_v, p1, bd_v, p2.1, if_neg (by decide)]
            rfl
  · rw [if_neg h91]
    have hp := h.readPart h91
    constructor
    · intro r hr
      obtain ⟨st1, g1, g2, g3⟩ := hp.1 r hr
      have hz := (sLeaf_ok (bm := bm) (bc := bc) hr).1
      refine ⟨1, P, C ++ r.2.2.1, st1, Nat.le_refl _, by have := hz.2.2.1; omega, g2, htop _ _, trivial, g3, fun m => ?_⟩
      rw [h.rn1, g1, bd_v]
    · intro e he
      obtain ⟨st1, g1, g2, g3⟩ := hp.2 e he
      refine ⟨1, st1, Nat.le_refl _, by have := sLeaf_e he; omega, g2, g3, fun m => ⟨3, ?_⟩⟩
      rw [h.rn1, g1, bd_v]
theorem sim_loop {lw : Bool} {B : Nat → Nat} {L d0 : Nat} {op : Nat → Nat} {next : Rd} {lev : Nat} {X Y : Nat → Prop} (hn : SimS lw B L d0 next (lev + 1) X) (hop : ∀ k, op k ≠ 0 → opO k = op k ∧ bnd (op k + 18) = lev) (hY : ∀ k, X k → op k = 0 → Y k) (hl : 5 ≤ lev) {v1 : Int32} {dep bm bc j0 n0 : Nat} {P C : Cd} {st0 : St} (hd0 : d0 ≤ dep) (hbm : bm = C.length) (hP : topb P < lev) :
    ∀ (f : Nat) (r : Re) (k : Nat) (Q C1 : Cd) (st : St), 400 < r.1 + f → 1 ≤ k → k + 2 * j0 ≤ 2 * r.1 → Mp lw B L r.1 r.2.1 Q C1 dep st → setl lev Q C1 = (P, C ++ r.2.2.1) → X (tK B L r.1) → PF st0 st → (∀ m, rn v1 (m + k) 1 st0 = rn v1 m 3 st) →
    (∀ q, sLoop op (tK B L) (next dep) bm bc f r = .ok q → ∃ k Q C1 st', 1 ≤ k ∧ k + 2 * j0 ≤ 2 * q.1 ∧ Mp lw B L q.1 q.2.1 Q C1 dep st' ∧ setl lev Q C1 = (P, C ++ q.2.2.1) ∧ Y (tK B L q.1) ∧ PF st0 st' ∧ ∀ m, rn v1 (m + k) 1 st0 = rn v1 m 3 st') ∧
    (∀ e, sLoop op (tK B L) (next dep) bm bc f r = .error e → ∃ k st', 1 ≤ k ∧ k + 2 * j0 ≤ 2 * e + 2 ∧ Mb B L e st' ∧ PF st0 st' ∧ ∀ m, ∃ t, rn v1 (m + k) 1 st0 = rn v1 m t st') := by
  intro f
  induction f with
  | zero =>
    intro r k Q C1 st hf _ _ hM
    have := hM.j4
    omega
  | succ f ih =>
    intro r k Q C1 st hf hk1 hk2 hM hset hX hPF hrun
    unfold sLoop
    by_cases ho : op (tK B L r.1) = 0
    · rw [if_pos ho]
      refine ⟨fun q hq => ?_, fun e he => (by cases he)⟩
      cases hq
      exact ⟨k, Q, C1, st, hk1, hk2, hM, hset, hY _ hX ho, hPF, hrun⟩
    · rw [if_neg ho]
      obtain ⟨e1, e2⟩ := hop _ ho
      obtain ⟨st1, g1, g2, g3⟩ := hM.stepOp (by rw [e1]; exact ho) v1
      rw [e1, e2, hset] at g1
      have hin := hn v1 dep (bm + r.2.2.1.length) (bc + r.2.2.2.1.length) (r.1 + 1) r.2.1 ((op (tK B L r.1) + 18, 0) :: P) (C ++ r.2.2.1) st1 hd0 (by rw [List.length_append, hbm]) g1 (by show bnd _ < _; rw [e2]; exact Nat.lt_succ_self _)
      constructor
      · intro q hq
        obtain ⟨a, ha1, ha2⟩ := exb_ok hq
        obtain ⟨k', Q', C1', st2, k1, k2, k3, k4, k5, k6, k7⟩ := hin.1 a ha1
        refine (ih (joinR (op (tK B L r.1)) r a) (k + 1 + k') Q' C1' st2 ?_ (by omega) ?_ k3 ?_ k5 ((hPF.tr g2).tr k6) (fun m => ?_)).1 q ha2
        · show 400 < a.1 + f; omega
        · show k + 1 + k' + 2 * j0 ≤ 2 * a.1; omega
        · have hc := setl_comp (l := lev) (l' := lev + 1) (Nat.le_succ _) Q' C1'
          rw [k4] at hc
          rw [← hc]
          show setl lev ((op (tK B L r.1) + 18, 0) :: P) (C ++ r.2.2.1 ++ a.2.2.1) = _
          have hne : ¬ (op (tK B L r.1) + 18 = 29 ∨ op (tK B L r.1) + 18 = 30) := by
            intro q
            have := opO_le (tK B L r.1)
            omega
          show (if lev ≤ bnd (op (tK B L r.1) + 18) then _ else _) = _
          rw [if_pos (by omega), if_neg hne, setl_top hP]
          simp only [joinR, List.append_assoc]
        · rw [show m + (k + 1 + k') = (m + k' + 1) + k by omega, hrun, g3, k7]
      · intro e he
        rcases exb_err he with he | ⟨a, ha1, ha2⟩
        · obtain ⟨k', st2, k1, k2, k3, k4, k5⟩ := hin.2 e he
          refine ⟨k + 1 + k', st2, by omega, by omega, k3, (hPF.tr g2).tr k4, fun m => ?_⟩
          rw [show m + (k + 1 + k') = (m + k' + 1) + k by omega, hrun, g3]
          exact k5 m
        · obtain ⟨k', Q', C1', st2, k1, k2, k3, k4, k5, k6, k7⟩ := hin.1 a ha1
          refine (ih (joinR (op (tK B L r.1)) r a) (k + 1 + k') Q' C1' st2 ?_ (by omega) ?_ k3 ?_ k5 ((hPF.tr g2).tr k6) (fun m => ?_)).2 e ha2
          · show 400 < a.1 + f; omega
          · show k + 1 + k' + 2 * j0 ≤ 2 * a.1; omega
          · have hc := setl_comp (l := lev) (l' := lev + 1) (Nat.le_succ _) Q' C1'
            rw [k4] at hc
            rw [← hc]
            show setl lev ((op (tK B L r.1) + 18, 0) :: P) (C ++ r.2.2.1 ++ a.2.2.1) = _
            have hne : ¬ (op (tK B L r.1) + 18 = 29 ∨ op (tK B L r.1) + 18 = 30) := by
              intro q
              have := opO_le (tK B L r.1)
              omega
            show (if lev ≤ bnd (op (tK B L r.1) + 18) then _ else _) = _
            rw [if_pos (by omega), if_neg hne, setl_top hP]
            simp only [joinR, List.append_assoc]
          · rw [show m + (k + 1 + k') = (m + k' + 1) + k by omega, hrun, g3, k7]
theorem sim_chain {lw : Bool} {B : Nat → Nat} {L d0 : Nat} {op : Nat → Nat} {next : Rd} {lev : Nat} {X Y : Nat → Prop} (hn : SimS lw B L d0 next (lev + 1) X) (hop : ∀ k, op k ≠ 0 → opO k = op k ∧ bnd (op k + 18) = lev) (hY : ∀ k, X k → op k = 0 → Y k) (hl : 5 ≤ lev) : SimS lw B L d0 (fun dep bm bc j n => (next dep bm bc j n).bind (sLoop op (tK B L) (next dep) bm bc 400)) lev Y := by
  intro v1 dep bm bc j n P C st hd0 hbm h hP
  have h1 := hn v1 dep bm bc j n P C st hd0 hbm h (by omega)
  constructor
  · intro r hr
    obtain ⟨a, ha1, ha2⟩ := exb_ok hr
    obtain ⟨k, Q, C1, st2, k1, k2, k3, k4, k5, k6, k7⟩ := h1.1 a ha1
    have hc := setl_comp (l := lev) (l' := lev + 1) (Nat.le_succ _) Q C1
    rw [k4] at hc
    exact (sim_loop (n0 := 0) hn hop hY hl hd0 hbm hP 400 a k Q C1 st2 (by omega) k1 k2 k3 (by rw [← hc]; exact setl_top hP) k5 k6 k7).1 r ha2
  · intro e he
    rcases exb_err he with he | ⟨a, ha1, ha2⟩
    · exact h1.2 e he
    · obtain ⟨k, Q, C1, st2, k1, k2, k3, k4, k5, k6, k7⟩ := h1.1 a ha1
      have hc := setl_comp (l := lev) (l' := lev + 1) (Nat.le_succ _) Q C1
      rw [k4] at hc
      exact (sim_loop (n0 := 0) hn hop hY hl hd0 hbm hP 400 a k Q C1 st2 (by omega) k1 k2 k3 (by rw [← hc]; exact setl_top hP) k5 k6 k7).2 e ha2
theorem mul_op (k : Nat) (h : mulO k ≠ 0) : opO k = mulO k ∧ bnd (mulO k + 18) = 6 := by
  by_cases e1 : k = 42
  · subst e1; decide
  by_cases e2 : k = 47
  · subst e2; decide
  by_cases e3 : k = 37
  · subst e3; decide
  exact absurd (by unfold mulO; rw [if_neg e1, if_neg e2, if_neg e3]) h
theorem add_op (k : Nat) (h : addO k ≠ 0) : opO k = addO k ∧ bnd (addO k + 18) = 5 := by
  by_cases e1 : k = 43
  · subst e1; decide
  by_cases e2 : k = 45
  · subst e2; decide
  exact absurd (by unfold addO; rw [if_neg e1, if_neg e2]) h
theorem sim_sum {lw : Bool} {B : Nat → Nat} {L d0 : Nat} {rS : Rd} (hS : SimS lw B L (d0 + 1) rS 5 (fun k => opO k = 0)) : SimS lw B L d0 (sSum lw (tK B L) (tV B L) rS) 5 (fun k => opO k = 0) := by
  have h1 : SimS lw B L d0 (sTerm lw (tK B L) (tV B L) rS) 6 (fun k => mulO k = 0) := sim_chain (lev := 6) (sim_part hS) mul_op (fun _ _ h => h) (by decide)
  exact sim_chain (lev := 5) h1 add_op (fun k h1 h2 => by unfold opO; rw [if_pos h2]; exact h1) (by decide)
theorem SimS.up {lw : Bool} {B : Nat → Nat} {L d0 d1 : Nat} {sp : Rd} {lev : Nat} {X : Nat → Prop} (h : SimS lw B L d0 sp lev X) (hd : d0 ≤ d1) : SimS lw B L d1 sp lev X := fun v1 dep bm bc j n P C st hd0 => h v1 dep bm bc j n P C st (by omega)
theorem sim_S {lw : Bool} {B : Nat → Nat} {L : Nat} : ∀ l, SimS lw B L (9 - l) (sS lw (tK B L) (tV B L) l) 5 (fun k => opO k = 0) := by
  intro l
  induction l with
  | zero =>
    intro v1 dep bm bc j n P C st hd0 hbm h
    have : dep ≤ 8 := h.2.2.2.2.2.2.2.2.1
    omega
  | succ l ih => exact sim_sum (ih.up (by omega))
