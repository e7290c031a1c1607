/-! T2, the reference's reading machine: tests, against the grammar -/
section SimTest
variable {lw : Bool} {B : Nat → Nat} {L j n o : Nat} {P C : Cd} {st : St}
/-- behind the first sum of a comparison -/
theorem Mp.compare (h : Mp lw B L j n P C o st) (hop : opO (tK B L j) = 0) (hi : innr P ≠ 32) (hc : cmpd P = false) :
    (cmpO (tK B L j) = 0 → ∃ st', Mb B L j st' ∧ PF st st' ∧ ∀ m, rn 1 (m + 1) 3 st = rn 1 m 1 st') ∧
    (cmpO (tK B L j) ≠ 0 → ∃ st', Mp lw B L (j + 1) n ((cmpO (tK B L j) + 18, 0) :: (setl 5 P C).1) (setl 5 P C).2 o st' ∧ PF st st' ∧ ∀ m, rn 1 (m + 1) 3 st = rn 1 m 1 st') := by
  have hs := fun c hc => h.isSign (c := c) hc
  have h60 : fX12_isSign 60 st = some (if tK B L j = 60 then 1 else 0, st) := hs 60 (by decide)
  have h62 : fX12_isSign 62 st = some (if tK B L j = 62 then 1 else 0, st) := hs 62 (by decide)
  have h61 : fX12_isSign 61 st = some (if tK B L j = 61 then 1 else 0, st) := hs 61 (by decide)
  have hb163 : ∀ m, rn 1 (m + 1) 3 st = bd (fX12_behindSum_b163 st) (fun r st' => rn 1 m r st') := by
    intro m
    rw [h.rn3, h.behind, if_pos hop]
    unfold fX12_behindSum_b71
    rw [if_pos rfl, h.q.inner, bd_v, if_neg hi]
    by_cases e : innr P = -1
    · rw [if_pos e, if_neg (by decide)]
    · rw [if_neg e]
  have hb : fX12_behindSum_b163 st = if cmpO (tK B L j) = 0 then fX12_behindSum_b224 27 0 st else fX12_behindSum_b224 (Int32.ofNat (cmpO (tK B L j) + 18)) 1 st := by
    unfold fX12_behindSum_b163
    rw [h.q.isCompared, hc, if_neg (by decide), bd_v, if_pos rfl, h60, bd_v]
    unfold fX12_behindSum_b202 cmpO
    by_cases e1 : tK B L j = 60
    · rw [if_pos e1, if_neg (by decide), if_neg (by decide), if_pos e1, if_neg (by decide)]; rfl
    rw [if_neg e1, if_pos rfl, h62, bd_v, if_neg e1]
    by_cases e2 : tK B L j = 62
    · rw [if_pos e2, if_neg (by decide), if_neg (by decide), if_pos e2, if_neg (by decide)]; rfl
    rw [if_neg e2, if_pos rfl, if_pos rfl, h61, bd_v, if_neg e2]
    by_cases e3 : tK B L j = 61
    · rw [if_pos e3, if_neg (by decide), if_pos e3, if_neg (by decide)]; rfl
    · rw [if_neg e3, if_pos rfl, if_neg e3, if_pos rfl]
  constructor
  · intro h0
    obtain ⟨st1, g1, g2, g3, g4⟩ := h.must0
    refine ⟨st1, g2, g3.up (by decide) (by decide) (by decide), fun m => ?_⟩
    rw [hb163, hb, if_pos h0]
    unfold fX12_behindSum_b224
    rw [g1, bd_v, g2.1, if_neg (by decide)]
    rfl
  · intro h0
    have hk : tK B L j ≠ 257 := fun e => h0 (by rw [e]; decide)
    have hb2 := cmpO_b _ h0
    obtain ⟨st1, g1, g2, g3⟩ := h.must1 hk
    obtain ⟨st2, k1, k2, k3⟩ := (h.q.fr g3 (by decide) (by decide)).settle (l := 5) (by decide) (by decide)
    have hj := (h.lt hk).2
    have hM : Mp lw B L (j + 1) n (setl 5 P C).1 (setl 5 P C).2 o st2 := g2.code k3 (by decide) (by decide) (k2.up (Nat.le_succ j) hj)
    obtain ⟨st3, p1, p2, p3⟩ := hM.push (op := cmpO (tK B L j) + 18) (a := 0) (by have := k2.2.2.2.2.2.1; omega) (by have := k2.2.2.2.2.1; unfold cst; split <;> omega) (by omega) (by omega) (by omega)
    refine ⟨st3, p2, ((g3.up (by decide) (by decide) (by decide)).tr (k3.up (by decide) (by decide) (by decide))).tr (p3.up (by decide) (by decide) (by decide)), fun m => ?_⟩
    rw [hb163, hb, if_neg h0]
    unfold fX12_behindSum_b224
    replace k1 : fX12_settle 5 st1 = some ((), st2) := k1
    replace p1 : fX12_push (Int32.ofNat (cmpO (tK B L j) + 18)) 0 st2 = some ((), st3) := p1
    rw [g1, bd_v, g2.2.2.2.2.1, if_pos rfl, k1, bd_v, p1, bd_v]
    rfl
/-- behind the second sum -/
theorem Mp.compared (h : Mp lw B L j n P C o st) (hop : opO (tK B L j) = 0) (hi : innr P ≠ 32) (hc : cmpd P = true) (m : Nat) : rn 1 (m + 1) 3 st = rn 1 m 2 st := by
  rw [h.rn3, h.behind, if_pos hop]
  unfold fX12_behindSum_b71
  have hb : fX12_behindSum_b163 st = some (2, st) := by
    unfold fX12_behindSum_b163
    rw [h.q.isCompared, hc, if_pos rfl, bd_v, if_neg (by decide)]
  rw [if_pos rfl, h.q.inner, bd_v, if_neg hi, hb]
  by_cases e : innr P = -1
  · rw [if_pos e, if_neg (by decide), bd_v]
  · rw [if_neg e, bd_v]
/-- "not" -/
theorem Mp.stepNot (h : Mp lw B L j n P C o st) (hk : tK B L j = 315) : ∃ st', Mp lw B L (j + 1) n ((28, 0) :: P) C o st' ∧ PF st st' ∧ ∀ m, rn 1 (m + 1) 0 st = rn 1 m 0 st' := by
  obtain ⟨st1, st2, k1, k2, k3, k4⟩ := h.pushNext (op := 28) (a := 0) (by omega) (by decide) (by decide) (by decide)
  refine ⟨st2, k3, k4, fun m => ?_⟩
  have hw := h.isWord (i := 15) (a := 14836) (by decide) (by decide +kernel)
  rw [if_pos hk] at hw
  rw [h.rn0]
  unfold fX12_readPlain
  replace k1 : fX12_push 28 0 st = some ((), st1) := k1
  rw [hw, bd_v, if_neg (by decide), k1, bd_v, k2, bd_v, bd_v]
theorem Mp.plain (h : Mp lw B L j n P C o st) (hk : tK B L j ≠ 315) (hk2 : tK B L j ≠ 40) (m : Nat) : rn 1 (m + 1) 0 st = rn 1 (m + 1) 1 st := by
  have hw := h.isWord (i := 15) (a := 14836) (by decide) (by decide +kernel)
  rw [if_neg hk] at hw
  have h40 : fX12_isSign 40 st = some (0, st) := by
    have := h.isSign (c := 40) (by decide)
    rw [if_neg hk2] at this
    exact this
  rw [h.rn0, h.rn1]
  unfold fX12_readPlain
  rw [hw, bd_v, if_pos rfl, h40, bd_v, if_pos rfl]
  cases hr : fX12_readPart st with
  | none => rfl
  | some x => rfl
/-- "and" (tk 314, 29), "or" (313, 30): settled, pushed, emitted -/
theorem Mp.stepJ (h : Mp lw B L j n P C o st) {tk om l : Nat} (ho : (tk = 314 ∧ om = 29 ∧ l = 2) ∨ (tk = 313 ∧ om = 30 ∧ l = 1)) (hk : tK B L j = tk) : ∃ st', Mp lw B L (j + 1) n ((om, (setl l P C).2.length) :: (setl l P C).1) ((setl l P C).2 ++ [(om, 0)]) o st' ∧ PF st st' ∧ ∀ m, rn 1 (m + 1) 2 st = rn 1 m 0 st' := by
  have hk257 : tK B L j ≠ 257 := by rcases ho with q | q <;> omega
  have hj := (h.lt hk257).2
  have hom : ¬ om < 29 := by omega
  obtain ⟨st1, g1, g2, g3⟩ := h.settle (l := l) (by omega) (by omega)
  have hq := g2.q
  have hp : ∃ st', fX12_push (Int32.ofNat om) (Int32.ofNat (setl l P C).2.length) st1 = some ((), st') ∧ Mq true (j + 1) ((om, (setl l P C).2.length) :: (setl l P C).1) (setl l P C).2 st' ∧ fr [29] [] [27, 28] st1 st' := (hq.up (Nat.le_succ j) hj).push (by have := hq.2.2.2.2.2.1; omega) (by have := hq.2.2.2.2.1; unfold cst; rw [if_neg (show ¬ (om, (setl l P C).2.length).1 < 29 from hom)]; omega) (by omega) (by omega) (by have := hq.2.2.2.2.1; omega)
  obtain ⟨st2, k1, k2, k3⟩ := hp
  obtain ⟨st3, p1, p2, p3⟩ := k2.emit (o := om) (a := 0) (by have := hq.2.2.2.2.1; unfold cst; rw [if_neg (show ¬ (om, (setl l P C).2.length).1 < 29 from hom)]; omega)
  have hF : fr [23, 29] [] [24, 25, 27, 28] st1 st3 := (k3.up (by decide) (by decide) (by decide)).tr (p3.up (by decide) (by decide) (by decide))
  have e15 : st3.1 15 = Int32.ofNat (lxP B L (j + 1)) := by rw [hF.1 15 (by decide)]; exact g2.2.1.2.1
  have hf : fr [14, 15, 16] [17] [] st3 (tkS st3 (Int32.ofNat (tP B L (j + 1))) (Int32.ofNat (lxP B L (j + 1 + 1))) (Int32.ofNat (tSort B L (j + 1))) (tWorth B L (j + 1))) := by
    refine ⟨fun k hk => ?_, fun k hk => ?_, fun _ _ => rfl, rfl⟩
    · exact tkS_r (fun e => hk (by rw [e]; decide)) (fun e => hk (by rw [e]; decide)) (fun e => hk (by rw [e]; decide))
    · show va_up st3.2.1 17 _ k = _
      rw [vup_v, if_neg (fun e => hk (by rw [e]; decide))]
  have hlt := (h.lt hk257).1
  obtain ⟨a1, a2, a3, a4, a5, a6, a7, a8, a9, a10, a11⟩ := g2
  have ht : tpM B L st3 := a1.fr hF (by decide) (by decide)
  refine ⟨_, ⟨ht.fr hf (by decide) (by decide), ⟨rfl, rfl, rfl, rfl⟩, (a3.fr hF).fr hf, ?_, ?_, ?_, ?_, a8, a9, p2.fr hf (by decide) (by decide), ?_⟩, ((g3.up (by decide) (by decide) (by decide)).tr (hF.up (by decide) (by decide) (by decide))).tr (hf.up (by decide) (by decide) (by decide)), fun m => ?_⟩
  · rw [hf.1 20 (by decide), hF.1 20 (by decide)]; exact a4
  · rw [hf.1 19 (by decide), hF.1 19 (by decide)]; exact a5
  · rw [hf.1 26 (by decide), hF.1 26 (by decide)]; exact a6
  · rw [hf.1 30 (by decide), hF.1 30 (by decide)]; exact a7
  · refine ⟨?_, by rw [hf.1 18 (by decide), hF.1 18 (by decide)]; exact a11.2⟩
    intro i hi
    rcases Nat.lt_or_ge i j with h3 | h3
    · exact a11.1 i h3
    · rw [show i = j by omega]; exact hlt
  · have hnx := m_nextToken ht e15
    have wa := h.isWord (i := 14) (a := 1476) (by decide) (by decide +kernel)
    have wo := h.isWord (i := 13) (a := 498) (by decide) (by decide +kernel)
    rw [h.rn2]
    unfold fX12_behindTest fX12_behindTest_b22 fX12_behindTest_b32 fX12_behindTest_b47 fX12_behindTest_b66
    have h23 : st1.1 23 = Int32.ofNat (setl l P C).2.length := hq.2.2.1
    rcases ho with ⟨q1, q2, q3⟩ | ⟨q1, q2, q3⟩
    · subst q1 q2 q3
      rw [if_pos hk] at wa
      replace g1 : fX12_settle 2 st = some ((), st1) := g1
      replace k1 : fX12_push 29 (Int32.ofNat (setl 2 P C).2.length) st1 = some ((), st2) := k1
      replace p1 : fX12_emit 29 0 st2 = some ((), st3) := p1
      rw [wa, bd_v, if_neg (by decide), if_neg (by decide), g1, bd_v, if_neg (by decide), h23, k1, bd_v, if_neg (by decide), p1, bd_v, hnx, bd_v, bd_v]
    · subst q1 q2 q3
      rw [if_neg (by omega)] at wa
      rw [if_pos hk] at wo
      replace g1 : fX12_settle 1 st = some ((), st1) := g1
      replace k1 : fX12_push 30 (Int32.ofNat (setl 1 P C).2.length) st1 = some ((), st2) := k1
      replace p1 : fX12_emit 30 0 st2 = some ((), st3) := p1
      rw [wa, bd_v, if_pos rfl, wo, bd_v, if_neg (by decide), if_pos rfl, g1, bd_v, if_pos rfl, h23, k1, bd_v, if_pos rfl, p1, bd_v, hnx, bd_v, bd_v]
theorem mp_noJ (h : Mp lw B L j n P C o st) (h1 : tK B L j ≠ 314) (h2 : tK B L j ≠ 313) : fX12_behindTest st = if innr P = -1 then some (4, st) else bd (fX12_isSign 41 st) (fun r15 st16 => bd (fX12_must r15 st16) (fun r17 st18 => if (st18.1 19) = 0 then (bd (fX12_settle (1 : Int32) st18) (fun r19 st20 => lt (sI st20 29 ((st20.1 29) - (1 : Int32))) (fun st21 => lt (sI st21 30 ((st21.1 30) - (1 : Int32))) (fun st22 => fX12_behindTest_b128 st22)))) else (fX12_behindTest_b128 st18))) := by
  have wa := h.isWord (i := 14) (a := 1476) (by decide) (by decide +kernel)
  have wo := h.isWord (i := 13) (a := 498) (by decide) (by decide +kernel)
  rw [if_neg h1] at wa
  rw [if_neg h2] at wo
  unfold fX12_behindTest
  rw [wa, bd_v, if_pos rfl, wo, bd_v, if_pos rfl, h.q.inner, bd_v]
end SimTest
def SimT (lw : Bool) (B : Nat → Nat) (L d0 : Nat) (sp : Rd) (lev : Nat) (X : Nat → Prop) : Prop :=
  ∀ dep bm bc j n P C st, d0 ≤ dep → 1 ≤ j → bm = C.length → Mp lw B L j n P C dep st → topb P < lev → innr P ≠ 32 →
    (∀ r, sp dep bm bc j n = .ok r → ∃ k Q C1 st', 1 ≤ k ∧ k + 2 * j ≤ 2 * r.1 ∧ Mp lw B L r.1 r.2.1 Q C1 dep st' ∧ setl lev Q C1 = (P, C ++ r.2.2.1) ∧ X (tK B L r.1) ∧ PF st st' ∧ ∀ m, rn 1 (m + k) 0 st = rn 1 m 2 st') ∧
    (∀ e, sp dep bm bc j n = .error e → ∃ k st', 1 ≤ k ∧ k + 2 * j ≤ 2 * e + 2 ∧ Mb B L e st' ∧ PF st st' ∧ ∀ m, ∃ t, rn 1 (m + k) 0 st = rn 1 m t st')
theorem cmpd_top {P : Cd} (h : topb P < 4) (hx : ∀ x ∈ P, 20 ≤ x.1) : cmpd P = false := by
  cases P with
  | nil => rfl
  | cons x P =>
    have h : bnd x.1 < 4 := h
    have hx := hx x List.mem_cons_self
    have hb : 28 ≤ x.1 := by
      unfold bnd at h
      repeat' split at h
      all_goals omega
    show (if 20 ≤ x.1 ∧ x.1 ≤ 24 then _ else _) = _
    rw [if_neg (by omega)]
    exact decide_eq_false (by omega)
theorem sim_comp {lw : Bool} {B : Nat → Nat} {L d0 : Nat} {rS : Rd} (hS : SimS lw B L (d0 + 1) rS 5 (fun k => opO k = 0)) {dep bm bc j n : Nat} {P C : Cd} {st : St} (hd0 : d0 ≤ dep) (hbm : bm = C.length) (h : Mp lw B L j n P C dep st) (hP : topb P < 4) (hi : innr P ≠ 32) (hk1 : tK B L j ≠ 315) (hk2 : tK B L j ≠ 40) :
    (∀ r, sComp lw (tK B L) (tV B L) rS dep bm bc j n = .ok r → ∃ k Q C1 st', 1 ≤ k ∧ k + 2 * j ≤ 2 * r.1 ∧ Mp lw B L r.1 r.2.1 Q C1 dep st' ∧ setl 4 Q C1 = (P, C ++ r.2.2.1) ∧ PF st st' ∧ ∀ m, rn 1 (m + k) 0 st = rn 1 m 2 st') ∧
    (∀ e, sComp lw (tK B L) (tV B L) rS dep bm bc j n = .error e → ∃ k st', 1 ≤ k ∧ k + 2 * j ≤ 2 * e + 2 ∧ Mb B L e st' ∧ PF st st' ∧ ∀ m, ∃ t, rn 1 (m + k) 0 st = rn 1 m t st') := by
  have hsum := sim_sum hS
  have h1 := hsum 1 dep bm bc j n P C st hd0 hbm h (by omega)
  have hswap : ∀ k m, 1 ≤ k → rn 1 (m + k) 0 st = rn 1 (m + k) 1 st := fun k m hk => by
    rw [show m + k = (m + k - 1) + 1 by omega]; exact h.plain hk1 hk2 _
  unfold sComp
  -- the first sum
  have hmid : ∀ (a : Re) (k : Nat) (Q C1 : Cd) (st1 : St), Mp lw B L a.1 a.2.1 Q C1 dep st1 → setl 5 Q C1 = (P, C ++ a.2.2.1) → opO (tK B L a.1) = 0 → innr Q ≠ 32 ∧ cmpd Q = false := by
    intro a k Q C1 st1 g1 g2 g3
    refine ⟨?_, ?_⟩
    · rw [← setl_innr (l := 5) (by decide) Q C1, g2]; exact hi
    · rw [← setl_cmpd (l := 5) (by decide) Q C1 g1.ge20, g2]; exact cmpd_top hP h.ge20
  have hmore : ∀ (a : Re), sSum lw (tK B L) (tV B L) rS dep bm bc j n = .ok a → cmpO (tK B L a.1) ≠ 0 → ∃ k st2, 1 ≤ k ∧ k + 2 * j ≤ 2 * a.1 + 1 ∧ Mp lw B L (a.1 + 1) a.2.1 ((cmpO (tK B L a.1) + 18, 0) :: P) (C ++ a.2.2.1) dep st2 ∧ PF st st2 ∧ ∀ m, rn 1 (m + k) 0 st = rn 1 m 1 st2 := by
    intro a ha hc
    obtain ⟨k, Q, C1, st1, k1, k2, k3, k4, k5, k6, k7⟩ := h1.1 a ha
    obtain ⟨q1, q2⟩ := hmid a k Q C1 st1 k3 k4 k5
    obtain ⟨st2, p1, p2, p3⟩ := (k3.compare k5 q1 q2).2 hc
    rw [k4] at p1
    refine ⟨k + 1, st2, by omega, by omega, p1, k6.tr p2, fun m => ?_⟩
    rw [hswap (k + 1) m (by omega), show m + (k + 1) = (m + 1) + k by omega, k7, p3]
  constructor
  · intro r hr
    obtain ⟨a, ha1, ha2⟩ := exb_ok hr
    split at ha2
    · cases ha2
    · rename_i hc
      obtain ⟨b, hb1, hb2⟩ := exb_ok ha2
      cases hb2
      obtain ⟨k, st2, k1, k2, k3, k4, k5⟩ := hmore a ha1 hc
      have hb := cmpO_b _ hc
      have hbnd : bnd (cmpO (tK B L a.1) + 18) = 4 := by
        unfold bnd
        rw [if_neg (by omega), if_neg (by omega), if_neg (by omega), if_neg (by omega), if_pos (by omega)]
      have h2 := hsum 1 dep (bm + a.2.2.1.length) (bc + a.2.2.2.1.length) (a.1 + 1) a.2.1 ((cmpO (tK B L a.1) + 18, 0) :: P) (C ++ a.2.2.1) st2 hd0 (by rw [List.length_append, hbm]) k3 (by show bnd _ < 5; rw [hbnd]; decide)
      obtain ⟨k', Q, C1, st3, p1, p2, p3, p4, p5, p6, p7⟩ := h2.1 b hb1
      have hq1 : innr Q ≠ 32 := by
        rw [← setl_innr (l := 5) (by decide) Q C1, p4]
        show (if 31 ≤ cmpO (tK B L a.1) + 18 then _ else _) ≠ _
        rw [if_neg (by omega)]; exact hi
      have hq2 : cmpd Q = true := by
        rw [← setl_cmpd (l := 5) (by decide) Q C1 p3.ge20, p4]
        show (if 20 ≤ cmpO (tK B L a.1) + 18 ∧ cmpO (tK B L a.1) + 18 ≤ 24 then _ else _) = _
        rw [if_neg (by omega)]
        exact decide_eq_true (by omega)
      refine ⟨k + k' + 1, Q, C1, st3, by omega, ?_, p3, ?_, k4.tr p6, fun m => ?_⟩
      · show k + k' + 1 + 2 * j ≤ 2 * b.1; omega
      · have hcm := setl_comp (l := 4) (l' := 5) (by decide) Q C1
        rw [p4] at hcm
        rw [← hcm]
        show (if 4 ≤ bnd (cmpO (tK B L a.1) + 18) then _ else _) = _
        rw [if_pos (by omega), if_neg (by omega), setl_top hP]
        simp only [joinR, List.append_assoc]
      · rw [show m + (k + k' + 1) = (m + 1 + k') + k by omega, k5, p7]
        exact p3.compared p5 hq1 hq2 m
  · intro e he
    rcases exb_err he with he | ⟨a, ha1, ha2⟩
    · obtain ⟨k, st1, k1, k2, k3, k4, k5⟩ := h1.2 e he
      refine ⟨k, st1, k1, k2, k3, k4, fun m => ?_⟩
      rw [hswap k m k1]
      exact k5 m
    · split at ha2
      · rename_i hc
        cases ha2
        obtain ⟨k, Q, C1, st1, k1, k2, k3, k4, k5, k6, k7⟩ := h1.1 a ha1
        obtain ⟨q1, q2⟩ := hmid a k Q C1 st1 k3 k4 k5
        obtain ⟨st2, p1, p2, p3⟩ := (k3.compare k5 q1 q2).1 hc
        refine ⟨k + 1, st2, by omega, by omega, p1, k6.tr p2, fun m => ⟨1, ?_⟩⟩
        rw [hswap (k + 1) m (by omega), show m + (k + 1) = (m + 1) + k by omega, k7, p3]
      · rename_i hc
        rcases exb_err ha2 with hb1 | ⟨b, hb1, hb2⟩
        · obtain ⟨k, st2, k1, k2, k3, k4, k5⟩ := hmore a ha1 hc
          have hb := cmpO_b _ hc
          have hbnd : bnd (cmpO (tK B L a.1) + 18) = 4 := by
            unfold bnd
            rw [if_neg (by omega), if_neg (by omega), if_neg (by omega), if_neg (by omega), if_pos (by omega)]
          have h2 := hsum 1 dep (bm + a.2.2.1.length) (bc + a.2.2.2.1.length) (a.1 + 1) a.2.1 ((cmpO (tK B L a.1) + 18, 0) :: P) (C ++ a.2.2.1) st2 hd0 (by rw [List.length_append, hbm]) k3 (by show bnd _ < 5; rw [hbnd]; decide)
          obtain ⟨k', st3, p1, p2, p3, p4, p5⟩ := h2.2 e hb1
          refine ⟨k + k', st3, by omega, by omega, p3, k4.tr p4, fun m => ?_⟩
          rw [show m + (k + k') = (m + k') + k by omega, k5]
          exact p5 m
        · cases hb2
