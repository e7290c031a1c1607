/-! T2, the reference's reading machine: whole expressions -/
theorem innr_nots {P : Cd} : ∀ k, innr (List.replicate k (28, 0) ++ P) = innr P := by
  intro k
  induction k with
  | zero => rfl
  | succ k ih => exact ih
theorem topb_nots {P : Cd} (h : topb P < 3) : ∀ k, topb (List.replicate k (28, 0) ++ P) < 4 := by
  intro k
  cases k with
  | zero => show topb P < 4; omega
  | succ k => show bnd 28 < 4; decide
theorem setl_nots {P : Cd} (h : topb P < 3) : ∀ (k : Nat) (C : Cd), setl 3 (List.replicate k (28, 0) ++ P) C = (P, C ++ List.replicate k (28, 0)) := by
  intro k
  induction k with
  | zero => intro C; rw [List.replicate_zero, List.append_nil]; exact setl_top h
  | succ k ih =>
    intro C
    show (if 3 ≤ bnd 28 then _ else _) = _
    rw [if_pos (by decide), if_neg (by decide)]
    have := ih (C ++ [(28, 0)])
    refine this.trans ?_
    rw [List.append_assoc]
    rfl
theorem sim_nots {lw : Bool} {B : Nat → Nat} {L n dep : Nat} {C : Cd} : ∀ (f j : Nat) (P : Cd) (st : St), 400 < j + f → Mp lw B L j n P C dep st → ∃ st', Mp lw B L (j + sNots (tK B L) f j) n (List.replicate (sNots (tK B L) f j) (28, 0) ++ P) C dep st' ∧ tK B L (j + sNots (tK B L) f j) ≠ 315 ∧ PF st st' ∧ ∀ m, rn 1 (m + sNots (tK B L) f j) 0 st = rn 1 m 0 st' := by
  intro f
  induction f with
  | zero => intro j P st hf h; have := h.j4; omega
  | succ f ih =>
    intro j P st hf h
    unfold sNots
    by_cases hk : tK B L j = 315
    · rw [if_pos hk]
      obtain ⟨st1, g1, g2, g3⟩ := h.stepNot hk
      obtain ⟨st2, k1, k2, k3, k4⟩ := ih (j + 1) ((28, 0) :: P) st1 (by omega) g1
      have e : j + (sNots (tK B L) f (j + 1) + 1) = j + 1 + sNots (tK B L) f (j + 1) := by omega
      refine ⟨st2, ?_, by rw [e]; exact k2, g2.tr k3, fun m => ?_⟩
      · rw [e, List.replicate_succ', List.append_assoc]; exact k1
      · rw [show m + (sNots (tK B L) f (j + 1) + 1) = (m + sNots (tK B L) f (j + 1)) + 1 by omega, g3, k4]
    · rw [if_neg hk]
      exact ⟨st, h, hk, PF.rf, fun m => rfl⟩
theorem sim_plain {lw : Bool} {B : Nat → Nat} {L d0 : Nat} {rT rS : Rd} (hT : SimT lw B L (d0 + 1) rT 1 (fun k => k ≠ 314 ∧ k ≠ 313)) (hS : SimS lw B L (d0 + 1) rS 5 (fun k => opO k = 0)) : SimT lw B L d0 (sPlain lw (tK B L) (tV B L) rT rS) 3 (fun _ => True) := by
  intro dep bm bc j n P C st hd0 hj1 hbm h hP hi
  obtain ⟨st1, g1, g2, g3, g4⟩ := sim_nots 400 j P st (by omega) h
  unfold sPlain
  generalize hnk : sNots (tK B L) 400 j = nk at g1 g2 g4 ⊢
  have hP1 := topb_nots hP nk
  have hi1 : innr (List.replicate nk (28, 0) ++ P) ≠ 32 := by rw [innr_nots]; exact hi
  -- the base
  have hbase : (∀ r, sBase lw (tK B L) (tV B L) rT rS dep bm bc (j + nk) n = .ok r → ∃ k Q C1 st', 1 ≤ k ∧ k + 2 * (j + nk) ≤ 2 * r.1 ∧ Mp lw B L r.1 r.2.1 Q C1 dep st' ∧ setl 4 Q C1 = (List.replicate nk (28, 0) ++ P, C ++ r.2.2.1) ∧ PF st1 st' ∧ ∀ m, rn 1 (m + k) 0 st1 = rn 1 m 2 st') ∧ (∀ e, sBase lw (tK B L) (tV B L) rT rS dep bm bc (j + nk) n = .error e → ∃ k st', 1 ≤ k ∧ k + 2 * (j + nk) ≤ 2 * e + 2 ∧ Mb B L e st' ∧ PF st1 st' ∧ ∀ m, ∃ t, rn 1 (m + k) 0 st1 = rn 1 m t st') := by
    unfold sBase
    by_cases h40 : tK B L (j + nk) = 40
    · rw [if_pos h40]
      have hw := g1.isWord (i := 15) (a := 14836) (by decide) (by decide +kernel)
      rw [if_neg g2] at hw
      have e40 : fX12_isSign 40 st1 = some (1, st1) := by
        have := g1.isSign (c := 40) (by decide)
        rw [if_pos h40] at this
        exact this
      have hrp : ∀ m, rn 1 (m + 1) 0 st1 = bd (bd (fX12_openBracket 31 st1) (fun r7 st8 => some ((0 : Int32), st8))) (fun r st' => rn 1 m r st') := by
        intro m
        rw [g1.rn0]
        unfold fX12_readPlain
        rw [hw, bd_v, if_pos rfl, e40, bd_v, if_neg (by decide)]
      by_cases h8 : 8 ≤ dep
      · rw [if_pos h8]
        refine ⟨fun r hr => (by cases hr), fun e he => ?_⟩
        cases he
        obtain ⟨st2, p1, p2, p3⟩ := g1.brkBad (op := 31) h8
        exact ⟨1, st2, Nat.le_refl _, by omega, p2, p3, fun m => ⟨0, by rw [hrp, p1, bd_v, bd_v]⟩⟩
      · rw [if_neg h8]
        obtain ⟨st2, p1, p2, p3⟩ := g1.brk (op := 31) (by omega) (by omega) (Or.inl rfl)
        replace p1 : fX12_openBracket 31 st1 = some ((), st2) := p1
        have hr1 : ∀ m, rn 1 (m + 1) 0 st1 = rn 1 m 0 st2 := fun m => by rw [hrp, p1, bd_v, bd_v]
        have hin := hT (dep + 1) bm bc (j + nk + 1) n ((31, 0) :: (List.replicate nk (28, 0) ++ P)) C st2 (by omega) (by omega) hbm p2 (show bnd 31 < 1 by decide) (show (31 : Int32) ≠ 32 by decide)
        constructor
        · intro r hr
          obtain ⟨a, ha1, ha2⟩ := exb_ok hr
          obtain ⟨k, Q, C1, st3, k1, k2, k3, k4, k5, k6, k7⟩ := hin.1 a ha1
          unfold sClose at ha2
          by_cases h41 : tK B L a.1 = 41
          · rw [if_pos h41] at ha2
            cases ha2
            have hin2 : innr Q = 31 := by rw [← setl_innr (l := 1) (by decide) Q C1, k4]; rfl
            have e41 : fX12_isSign 41 st3 = some (1, st3) := by
              have := k3.isSign (c := 41) (by decide)
              rw [if_pos h41] at this
              exact this
            obtain ⟨st4, r1, r2, r3⟩ := k3.must1 (by omega)
            obtain ⟨st5, q1, q2, q3⟩ := r2.settle (l := 1) (by decide) (by decide)
            rw [k4] at q2
            have q29 : st5.1 29 - 1 = Int32.ofNat (List.replicate nk (28, 0) ++ P).length := by rw [q2.q.1]; show Int32.ofNat ((List.replicate nk (28, 0) ++ P).length + 1) - 1 = _; rw [oN_lit, oN_sub (by omega)]; rfl
            have q30 : (sI st5 29 (Int32.ofNat (List.replicate nk (28, 0) ++ P).length)).1 30 - 1 = Int32.ofNat dep := by show st5.1 30 - 1 = _; rw [q2.2.2.2.2.2.2.1, oN_lit, oN_sub (by omega)]; rfl
            obtain ⟨c1, c2⟩ := q2.close (st' := sI (sI st5 29 (Int32.ofNat (List.replicate nk (28, 0) ++ P).length)) 30 (Int32.ofNat dep)) rfl (by decide)
            refine ⟨1 + k + 1, _, C ++ a.2.2.1, _, by omega, ?_, c1, setl_top hP1, (((p3.tr k6).tr (r3.up (by decide) (by decide) (by decide))).tr (q3.up (by decide) (by decide) (by decide))).tr c2, fun m => ?_⟩
            · show 1 + k + 1 + 2 * (j + nk) ≤ 2 * (a.1 + 1); omega
            · rw [show m + (1 + k + 1) = (m + 1 + k) + 1 by omega, hr1, k7, k3.rn2, mp_noJ k3 k5.1 k5.2, hin2, if_neg (by decide), e41, bd_v, r1, bd_v, r2.2.2.2.2.1, if_pos rfl]
              replace q1 : fX12_settle 1 st4 = some ((), st5) := q1
              rw [q1, bd_v, lt_v, q29, lt_v, q30]
              rfl
          · rw [if_neg h41] at ha2; cases ha2
        · intro e he
          rcases exb_err he with he | ⟨a, ha1, ha2⟩
          · obtain ⟨k, st3, k1, k2, k3, k4, k5⟩ := hin.2 e he
            refine ⟨k + 1, st3, by omega, by omega, k3, p3.tr k4, fun m => ?_⟩
            rw [← Nat.add_assoc, hr1]
            exact k5 m
          · obtain ⟨k, Q, C1, st3, k1, k2, k3, k4, k5, k6, k7⟩ := hin.1 a ha1
            unfold sClose at ha2
            by_cases h41 : tK B L a.1 = 41
            · rw [if_pos h41] at ha2; cases ha2
            · rw [if_neg h41] at ha2
              cases ha2
              have hin2 : innr Q = 31 := by rw [← setl_innr (l := 1) (by decide) Q C1, k4]; rfl
              have e41 : fX12_isSign 41 st3 = some (0, st3) := by
                have := k3.isSign (c := 41) (by decide)
                rw [if_neg h41] at this
                exact this
              obtain ⟨st4, r1, r2, r3, r4⟩ := k3.must0
              refine ⟨1 + k + 1, st4, by omega, by omega, r2, (p3.tr k6).tr (r3.up (by decide) (by decide) (by decide)), fun m => ⟨2, ?_⟩⟩
              rw [show m + (1 + k + 1) = (m + 1 + k) + 1 by omega, hr1, k7, k3.rn2, mp_noJ k3 k5.1 k5.2, hin2, if_neg (by decide), e41, bd_v, r1, bd_v, r2.1, if_neg (by decide)]
              rfl
    · rw [if_neg h40]
      exact sim_comp hS hd0 hbm g1 hP1 hi1 g2 h40
  constructor
  · intro r hr
    obtain ⟨a, ha1, ha2⟩ := exb_ok hr
    cases ha2
    obtain ⟨k, Q, C1, st2, k1, k2, k3, k4, k5, k6⟩ := hbase.1 a ha1
    refine ⟨k + nk, Q, C1, st2, by omega, ?_, k3, ?_, trivial, g3.tr k5, fun m => ?_⟩
    · show k + nk + 2 * j ≤ 2 * a.1; omega
    · have hc := setl_comp (l := 3) (l' := 4) (by decide) Q C1
      rw [k4, setl_nots hP] at hc
      rw [← hc]
      simp only [notR, List.append_assoc]
    · rw [← Nat.add_assoc, g4, k6]
  · intro e he
    rcases exb_err he with he | ⟨a, ha1, ha2⟩
    · obtain ⟨k, st2, k1, k2, k3, k4, k5⟩ := hbase.2 e he
      refine ⟨k + nk, st2, by omega, by omega, k3, g3.tr k4, fun m => ?_⟩
      rw [← Nat.add_assoc, g4]
      exact k5 m
    · cases ha2
theorem sim_loopJ {lw : Bool} {B : Nat → Nat} {L d0 : Nat} {tk oc om lev : Nat} {cmb : Dn → Dn → Dn} {next : Rd} {X Y : Nat → Prop} (hn : SimT lw B L d0 next (lev + 1) X) (ho : (tk = 314 ∧ om = 29 ∧ lev = 2) ∨ (tk = 313 ∧ om = 30 ∧ lev = 1)) (hY : ∀ k, X k → k ≠ tk → Y k) {dep bm bc j0 : Nat} {P C : Cd} {st0 : St} (hd0 : d0 ≤ dep) (hbm : bm = C.length) (hP : topb P < lev) (hi : innr P ≠ 32) :
    ∀ (f : Nat) (r : Re) (k : Nat) (Q C1 : Cd) (st : St), 400 < r.1 + f → 1 ≤ k → k + 2 * j0 ≤ 2 * r.1 → Mp lw B L r.1 r.2.1 Q C1 dep st → setl lev Q C1 = (P, C ++ r.2.2.1) → X (tK B L r.1) → PF st0 st → (∀ m, rn 1 (m + k) 0 st0 = rn 1 m 2 st) →
    (∀ q, sLoopJ tk oc om cmb (tK B L) (next dep) bm bc f r = .ok q → ∃ k Q C1 st', 1 ≤ k ∧ k + 2 * j0 ≤ 2 * q.1 ∧ Mp lw B L q.1 q.2.1 Q C1 dep st' ∧ setl lev Q C1 = (P, C ++ q.2.2.1) ∧ Y (tK B L q.1) ∧ PF st0 st' ∧ ∀ m, rn 1 (m + k) 0 st0 = rn 1 m 2 st') ∧
    (∀ e, sLoopJ tk oc om cmb (tK B L) (next dep) bm bc f r = .error e → ∃ k st', 1 ≤ k ∧ k + 2 * j0 ≤ 2 * e + 2 ∧ Mb B L e st' ∧ PF st0 st' ∧ ∀ m, ∃ t, rn 1 (m + k) 0 st0 = rn 1 m t st') := by
  intro f
  induction f with
  | zero =>
    intro r k Q C1 st hf _ _ hM
    have := hM.j4
    omega
  | succ f ih =>
    intro r k Q C1 st hf hk1 hk2 hM hset hX hPF hrun
    unfold sLoopJ
    by_cases hk : tK B L r.1 = tk
    · rw [if_pos hk]
      obtain ⟨st1, g1, g2, g3⟩ := hM.stepJ (l := lev) ho hk
      rw [hset] at g1
      have hbo : bnd om = lev := by rcases ho with ⟨_, e, e2⟩ | ⟨_, e, e2⟩ <;> (subst e e2; decide)
      have hin := hn dep (bm + r.2.2.1.length + 1) (bc + r.2.2.2.1.length + 1) (r.1 + 1) r.2.1 ((om, (C ++ r.2.2.1).length) :: P) (C ++ r.2.2.1 ++ [(om, 0)]) st1 hd0 (by omega) (by simp [hbm]; omega) g1 (by show bnd om < _; rw [hbo]; exact Nat.lt_succ_self _) (by
        show (if 31 ≤ om then _ else _) ≠ _
        rw [if_neg (by omega)]; exact hi)
      have hset2 : ∀ (a : Re) (Q' C1' : Cd), setl (lev + 1) Q' C1' = ((om, (C ++ r.2.2.1).length) :: P, C ++ r.2.2.1 ++ [(om, 0)] ++ a.2.2.1) → setl lev Q' C1' = (P, C ++ (jumpR oc om cmb bm bc r a).2.2.1) := by
        intro a Q' C1' k4
        have hc := setl_comp (l := lev) (l' := lev + 1) (Nat.le_succ _) Q' C1'
        rw [k4] at hc
        rw [← hc]
        show (if lev ≤ bnd om then _ else _) = _
        rw [if_pos (by omega), if_pos (by omega), setl_top hP]
        have e1 : C ++ r.2.2.1 ++ [(om, 0)] ++ a.2.2.1 = (C ++ r.2.2.1) ++ (om, 0) :: a.2.2.1 := by simp
        rw [e1]
        show (P, setA ((C ++ r.2.2.1) ++ (om, 0) :: a.2.2.1) (C ++ r.2.2.1).length _) = _
        rw [setA_app]
        simp only [jumpR, List.append_assoc, List.length_append, List.length_cons]
        rw [hbm]
        congr 5
        omega
      constructor
      · intro q hq
        obtain ⟨a, ha1, ha2⟩ := exb_ok hq
        obtain ⟨k', Q', C1', st2, k1, k2, k3, k4, k5, k6, k7⟩ := hin.1 a ha1
        refine (ih (jumpR oc om cmb bm bc r a) (k + 1 + k') Q' C1' st2 ?_ (by omega) ?_ k3 (hset2 a Q' C1' k4) k5 ((hPF.tr g2).tr k6) (fun m => ?_)).1 q ha2
        · show 400 < a.1 + f; omega
        · show k + 1 + k' + 2 * j0 ≤ 2 * a.1; omega
        · rw [show m + (k + 1 + k') = (m + k' + 1) + k by omega, hrun, g3, k7]
      · intro e he
        rcases exb_err he with he | ⟨a, ha1, ha2⟩
        · obtain ⟨k', st2, k1, k2, k3, k4, k5⟩ := hin.2 e he
          refine ⟨k + 1 + k', st2, by omega, by omega, k3, (hPF.tr g2).tr k4, fun m => ?_⟩
          rw [show m + (k + 1 + k') = (m + k' + 1) + k by omega, hrun, g3]
          exact k5 m
        · obtain ⟨k', Q', C1', st2, k1, k2, k3, k4, k5, k6, k7⟩ := hin.1 a ha1
          refine (ih (jumpR oc om cmb bm bc r a) (k + 1 + k') Q' C1' st2 ?_ (by omega) ?_ k3 (hset2 a Q' C1' k4) k5 ((hPF.tr g2).tr k6) (fun m => ?_)).2 e ha2
          · show 400 < a.1 + f; omega
          · show k + 1 + k' + 2 * j0 ≤ 2 * a.1; omega
          · rw [show m + (k + 1 + k') = (m + k' + 1) + k by omega, hrun, g3, k7]
    · rw [if_neg hk]
      refine ⟨fun q hq => ?_, fun e he => (by cases he)⟩
      cases hq
      exact ⟨k, Q, C1, st, hk1, hk2, hM, hset, hY _ hX hk, hPF, hrun⟩
theorem sim_chainJ {lw : Bool} {B : Nat → Nat} {L d0 : Nat} {tk oc om lev : Nat} {cmb : Dn → Dn → Dn} {next : Rd} {X Y : Nat → Prop} (hn : SimT lw B L d0 next (lev + 1) X) (ho : (tk = 314 ∧ om = 29 ∧ lev = 2) ∨ (tk = 313 ∧ om = 30 ∧ lev = 1)) (hY : ∀ k, X k → k ≠ tk → Y k) : SimT lw B L d0 (fun dep bm bc j n => (next dep bm bc j n).bind (sLoopJ tk oc om cmb (tK B L) (next dep) bm bc 400)) lev Y := by
  intro dep bm bc j n P C st hd0 hj1 hbm h hP hi
  have h1 := hn dep bm bc j n P C st hd0 hj1 hbm h (by omega) hi
  constructor
  · intro r hr
    obtain ⟨a, ha1, ha2⟩ := exb_ok hr
    obtain ⟨k, Q, C1, st2, k1, k2, k3, k4, k5, k6, k7⟩ := h1.1 a ha1
    have hc := setl_comp (l := lev) (l' := lev + 1) (Nat.le_succ _) Q C1
    rw [k4] at hc
    exact (sim_loopJ hn ho hY hd0 hbm hP hi 400 a k Q C1 st2 (by omega) k1 k2 k3 (by rw [← hc]; exact setl_top hP) k5 k6 k7).1 r ha2
  · intro e he
    rcases exb_err he with he | ⟨a, ha1, ha2⟩
    · exact h1.2 e he
    · obtain ⟨k, Q, C1, st2, k1, k2, k3, k4, k5, k6, k7⟩ := h1.1 a ha1
      have hc := setl_comp (l := lev) (l' := lev + 1) (Nat.le_succ _) Q C1
      rw [k4] at hc
      exact (sim_loopJ hn ho hY hd0 hbm hP hi 400 a k Q C1 st2 (by omega) k1 k2 k3 (by rw [← hc]; exact setl_top hP) k5 k6 k7).2 e ha2
theorem sim_test {lw : Bool} {B : Nat → Nat} {L d0 : Nat} {rT rS : Rd} (hT : SimT lw B L (d0 + 1) rT 1 (fun k => k ≠ 314 ∧ k ≠ 313)) (hS : SimS lw B L (d0 + 1) rS 5 (fun k => opO k = 0)) : SimT lw B L d0 (sTest lw (tK B L) (tV B L) rT rS) 1 (fun k => k ≠ 314 ∧ k ≠ 313) := by
  have h1 : SimT lw B L d0 (sBoth lw (tK B L) (tV B L) rT rS) 2 (fun k => k ≠ 314) := sim_chainJ (lev := 2) (sim_plain hT hS) (Or.inl ⟨rfl, rfl, rfl⟩) (fun _ _ h => h)
  exact sim_chainJ (lev := 1) h1 (Or.inr ⟨rfl, rfl, rfl⟩) (fun _ h1 h2 => ⟨h1, h2⟩)
theorem SimT.up {lw : Bool} {B : Nat → Nat} {L d0 d1 : Nat} {sp : Rd} {lev : Nat} {X : Nat → Prop} (h : SimT lw B L d0 sp lev X) (hd : d0 ≤ d1) : SimT lw B L d1 sp lev X := fun dep bm bc j n P C st hd0 => h dep bm bc j n P C st (by omega)
theorem sim_T {lw : Bool} {B : Nat → Nat} {L : Nat} : ∀ l, SimT lw B L (9 - l) (sT lw (tK B L) (tV B L) l) 1 (fun k => k ≠ 314 ∧ k ≠ 313) := by
  intro l
  induction l with
  | zero =>
    intro dep bm bc j n P C st hd0 hj1 hbm h
    have : dep ≤ 8 := h.2.2.2.2.2.2.2.2.1
    omega
  | succ l ih => exact sim_test (ih.up (by omega)) ((sim_S l).up (by omega))
/-- an expression: a sum, or a test -/
theorem Mp.start {lw : Bool} {B : Nat → Nat} {L j n o : Nat} {P C : Cd} {st : St} (h : Mp lw B L j n P C o st) : Mp lw B L j n [] C 0 (sI (sI st 29 0) 30 0) ∧ PF st (sI (sI st 29 0) 30 0) := by
  have hf : fr [29, 30] [] [] st (sI (sI st 29 0) 30 0) := (fr.sI (k := 29) (by decide)).tr (fr.sI (k := 30) (by decide))
  obtain ⟨a1, a2, a3, a4, a5, a6, a7, a8, a9, a10, a11⟩ := h
  obtain ⟨m1, m2, m3, m4, m5, m6, m7, m8⟩ := a10
  exact ⟨⟨a1.fr hf (by decide) (by decide), a2.fr hf (by decide) (by decide), a3.fr hf, by rw [hf.1 20 (by decide)]; exact a4, by rw [hf.1 19 (by decide)]; exact a5, by rw [hf.1 26 (by decide)]; exact a6, rfl, a8, Nat.zero_le _, ⟨rfl, trivial, m3, m4, by show C.length + 0 ≤ j; omega, Nat.zero_le _, m7, fun x hx => (by cases hx)⟩, a11⟩, hf.up (by decide) (by decide) (by decide)⟩
theorem m_readSum {lw : Bool} {B : Nat → Nat} {L j n o bc : Nat} {P C : Cd} {st : St} (h : Mp lw B L j n P C o st) : (∀ r, sS lw (tK B L) (tV B L) 10 0 C.length bc j n = .ok r → ∃ st', fX12_readExpression 0 st = some ((), st') ∧ Mp lw B L r.1 r.2.1 [] (C ++ r.2.2.1) 0 st' ∧ PF st st') ∧ (∀ e, sS lw (tK B L) (tV B L) 10 0 C.length bc j n = .error e → ∃ st', fX12_readExpression 0 st = some ((), st') ∧ st'.1 19 = 1 ∧ st'.1 18 = Int32.ofNat (tP B L e) ∧ PF st st') := by
  obtain ⟨h0, hf0⟩ := h.start
  have hs := sim_S (lw := lw) (B := B) (L := L) 10 0 0 C.length bc j n [] C _ (by decide) rfl h0 (by decide)
  have hu : fX12_readExpression 0 st = rn 0 6000 1 (sI (sI st 29 0) 30 0) := by
    unfold fX12_readExpression fX12_readExpression_b19
    rw [lt_v, lt_v, if_pos rfl]
  rw [hu]
  constructor
  · intro r hr
    obtain ⟨k, Q, C1, st1, k1, k2, k3, k4, k5, k6, k7⟩ := hs.1 r hr
    have hj := k3.j4
    obtain ⟨st2, g1, g2, g3⟩ := k3.settle (l := 1) (by decide) (by decide)
    have hc := setl_comp (l := 1) (l' := 5) (by decide) Q C1
    rw [k4] at hc
    rw [← hc] at g2
    refine ⟨st2, ?_, ?_, (hf0.tr k6).tr (g3.up (by decide) (by decide) (by decide))⟩
    · have hin : innr Q = -1 := by rw [← setl_innr (l := 5) (by decide) Q C1, k4]; rfl
      rw [show (6000 : Nat) = (5998 - k + 2) + k by omega, k7, show 5998 - k + 2 = (5998 - k + 1) + 1 from rfl, k3.rn3, k3.behind, if_pos k5]
      unfold fX12_behindSum_b71
      rw [if_pos rfl, k3.q.inner, bd_v, hin, if_neg (by decide), if_pos rfl, if_pos rfl, bd_v]
      unfold rn
      rw [lp_s]
      generalize lp (fun _ _ _ => none) fX12_readExpression_b20 (5998 - k) = kk
      unfold fX12_readExpression_b20 fX12_readExpression_b76
      replace g1 : fX12_settle 1 st1 = some ((), st2) := g1
      rw [k3.2.2.2.2.1, if_pos rfl, if_pos rfl, g1]
      rfl
    · have hz : Mp lw B L r.1 r.2.1 [] (C ++ r.2.2.1) 0 st2 := g2
      exact hz
  · intro e he
    obtain ⟨k, st1, k1, k2, k3, k4, k5⟩ := hs.2 e he
    have he4 := k3.2.2.1
    obtain ⟨t, ht⟩ := k5 (5999 - k + 1)
    rw [show 5999 - k + 1 + k = 6000 by omega] at ht
    obtain ⟨st2, g1, g2, g3, g4⟩ := k3.over 0 t (5999 - k)
    exact ⟨st2, ht.trans g1, g2, g3, (hf0.tr k4).tr (g4.up (by decide) (by decide) (by decide))⟩
theorem m_readTest {lw : Bool} {B : Nat → Nat} {L j n o bc : Nat} {P C : Cd} {st : St} (h : Mp lw B L j n P C o st) (hj : 1 ≤ j) : (∀ r, sT lw (tK B L) (tV B L) 10 0 C.length bc j n = .ok r → ∃ st', fX12_readExpression 1 st = some ((), st') ∧ Mp lw B L r.1 r.2.1 [] (C ++ r.2.2.1) 0 st' ∧ PF st st') ∧ (∀ e, sT lw (tK B L) (tV B L) 10 0 C.length bc j n = .error e → ∃ st', fX12_readExpression 1 st = some ((), st') ∧ st'.1 19 = 1 ∧ st'.1 18 = Int32.ofNat (tP B L e) ∧ PF st st') := by
  obtain ⟨h0, hf0⟩ := h.start
  have hs := sim_T (lw := lw) (B := B) (L := L) 10 0 C.length bc j n [] C _ (by decide) hj rfl h0 (by decide) (by decide)
  have hu : fX12_readExpression 1 st = rn 1 6000 0 (sI (sI st 29 0) 30 0) := by
    unfold fX12_readExpression fX12_readExpression_b19
    rw [lt_v, lt_v, if_neg (by decide)]
  rw [hu]
  constructor
  · intro r hr
    obtain ⟨k, Q, C1, st1, k1, k2, k3, k4, k5, k6, k7⟩ := hs.1 r hr
    have hj := k3.j4
    obtain ⟨st2, g1, g2, g3⟩ := k3.settle (l := 1) (by decide) (by decide)
    rw [k4] at g2
    refine ⟨st2, ?_, g2, (hf0.tr k6).tr (g3.up (by decide) (by decide) (by decide))⟩
    have hin : innr Q = -1 := by rw [← setl_innr (l := 1) (by decide) Q C1, k4]; rfl
    rw [show (6000 : Nat) = (5998 - k + 2) + k by omega, k7, show 5998 - k + 2 = (5998 - k + 1) + 1 from rfl, k3.rn2, mp_noJ k3 k5.1 k5.2, if_pos hin, bd_v]
    unfold rn
    rw [lp_s]
    generalize lp (fun _ _ _ => none) fX12_readExpression_b20 (5998 - k) = kk
    unfold fX12_readExpression_b20 fX12_readExpression_b76
    replace g1 : fX12_settle 1 st1 = some ((), st2) := g1
    rw [k3.2.2.2.2.1, if_pos rfl, if_pos rfl, g1]
    rfl
  · intro e he
    obtain ⟨k, st1, k1, k2, k3, k4, k5⟩ := hs.2 e he
    have he4 := k3.2.2.1
    obtain ⟨t, ht⟩ := k5 (5999 - k + 1)
    rw [show 5999 - k + 1 + k = 6000 by omega] at ht
    obtain ⟨st2, g1, g2, g3, g4⟩ := k3.over 1 t (5999 - k)
    exact ⟨st2, ht.trans g1, g2, g3, (hf0.tr k4).tr (g4.up (by decide) (by decide) (by decide))⟩
