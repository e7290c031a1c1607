/-! T2, sieges as a call -/
section Sieges
variable {fz : List FP}
theorem sieg_l {n t : Nat} (hn1 : 1 ≤ n) (hn : n ≤ 6) (ht : t ≤ 60) : ∀ (k N v x : Nat) (c m : St), k ≤ t → v + k ≤ t → x < 1000003 → Rq fz c m → m.2.2.1 3 0 = Int32.ofNat n → c.2.1 1105 = Int64.ofNat x → m.2.1 50 = Int64.ofNat x → ∃ T c' m', T ≤ 60 ∧ lp (fun _ _ _ _ => none) (fX3_run_b25 fz) (N + 1 + k) (Int32.ofNat t) (Int32.ofNat v) (Int32.ofNat (t - k)) c = (bd (fX0_take__14_2 fz c') (fun r1 st2 => lt (sI st2 1104 (st2.1 108)) (fun st3 => bd (fX0_take__2_13 fz st3) (fun r4 st5 => some (Int32.ofNat T, st5))))) ∧ lp (fun _ _ _ _ => none) fX12_sieges_b68 (N + 1 + k) (Int32.ofNat t) (Int32.ofNat v) (Int32.ofNat (t - k)) m = lp (fun _ _ _ => none) fX12_sieges_b230 6000 (Int32.ofNat T) 0 (sI m' 52 (Int32.ofNat n)) ∧ Rq fz c' m' ∧ sfc c c' ∧ sfm m m' := by
  intro k
  induction k with
  | zero =>
    intro N v x c m _ hv hx h h0 s1 s2
    have e0 : m.2.2.1 3 (0 : Int32).toNatClampNeg = Int32.ofNat n := h0
    refine ⟨v, c, m, by omega, ?_, ?_, h, sfc.rf, sfm.rf⟩
    · rw [Nat.add_zero, Nat.sub_zero, lp_s]
      generalize lp (fun _ _ _ _ => none) (fX3_run_b25 fz) N = kk
      unfold fX3_run_b25
      rw [if_pos (Int32.le_refl _)]
    · rw [Nat.add_zero, Nat.sub_zero, lp_s]
      generalize lp (fun _ _ _ _ => none) fX12_sieges_b68 N = kk
      conv => lhs; unfold fX12_sieges_b68
      rw [if_pos (Int32.le_refl _), e0, lt_v]
  | succ k ih =>
    intro N v x c m hk hv hx h h0 s1 s2
    have e1 : t - k = (t - (k + 1)) + 1 := by omega
    have hi : t - (k + 1) < t := by omega
    have ih' := ih N
    rw [← Nat.add_assoc, lp_s, lp_s]
    generalize t - (k + 1) = i at e1 hi ⊢
    rw [e1] at ih'
    generalize lp (fun _ _ _ _ => none) (fX3_run_b25 fz) (N + 1 + k) = k1 at ih' ⊢
    generalize lp (fun _ _ _ _ => none) fX12_sieges_b68 (N + 1 + k) = k2 at ih' ⊢
    obtain ⟨w, y, c1, m1, hw, hy, a1, a2, a3, a4, a5, a6, a7⟩ := once_both (fz := fz) h h0 hn1 hn hx s1 s2
    have hle : ¬ (Int32.ofNat t ≤ Int32.ofNat i) := fun q => by have := (oN_le (by omega) (by omega)).mp q; omega
    have hcb : fX3_run_b25 fz k1 (Int32.ofNat t) (Int32.ofNat v) (Int32.ofNat i) c = k1 (Int32.ofNat t) (Int32.ofNat v + w) (Int32.ofNat (i + 1)) c1 := by
      unfold fX3_run_b25
      rw [if_neg hle, a1, bd_v, c_bit hw, bs_v, lt_v, lt_v, oN_s]
    rw [hcb, a2 k2 _ _ _ hle, oN_s]
    have h01 : m1.2.2.1 3 0 = Int32.ofNat n := (a7.2.2.2.2.2 0 (by omega)).trans h0
    rcases hw with e | e <;> subst e
    · rw [Int32.add_zero]
      obtain ⟨T, c', m', b0, b1, b2, b3, b4, b5⟩ := ih' v y c1 m1 (by omega) (by omega) hy a3 h01 a4 a5
      exact ⟨T, c', m', b0, b1, b2, b3, a6.tr b4, a7.tr b5⟩
    · rw [oN_s]
      obtain ⟨T, c', m', b0, b1, b2, b3, b4, b5⟩ := ih' (v + 1) y c1 m1 (by omega) (by omega) hy a3 h01 a4 a5
      exact ⟨T, c', m', b0, b1, b2, b3, a6.tr b4, a7.tr b5⟩
theorem drw_l {n : Nat} {v : Int32} (hn : n ≤ 6) : ∀ (k N : Nat) (m : St), k ≤ n → m.1 52 = Int32.ofNat n → ∃ m', lp (fun _ _ _ => none) fX12_sieges_b230 (N + 1 + k) v (Int32.ofNat (n - k)) m = lp (fun _ _ _ => none) fX12_sieges_b309 6000 v 0 m' ∧ fr [] [] [51] m m' ∧ (∀ f, n - k ≤ f → f < n → m'.2.2.1 51 (3 * f) = m.2.2.1 3 (13 + f) ∧ m'.2.2.1 51 (3 * f + 1) = m.2.2.1 3 (25 + f) ∧ m'.2.2.1 51 (3 * f + 2) = m.2.2.1 3 (19 + f)) ∧ (∀ j, j < 3 * (n - k) → m'.2.2.1 51 j = m.2.2.1 51 j) := by
  intro k
  induction k with
  | zero =>
    intro N m _ h52
    refine ⟨m, ?_, fr.rf, fun f h1 h2 => absurd h1 (by omega), fun _ _ => rfl⟩
    rw [Nat.add_zero, Nat.sub_zero, lp_s]
    generalize lp (fun _ _ _ => none) fX12_sieges_b230 N = kk
    conv => lhs; unfold fX12_sieges_b230
    rw [h52, if_pos (Int32.le_refl _)]
  | succ k ih =>
    intro N m hk h52
    have e1 : n - k = (n - (k + 1)) + 1 := by omega
    have hi : n - (k + 1) < n := by omega
    have ih' := ih N
    rw [← Nat.add_assoc, lp_s]
    generalize n - (k + 1) = i at e1 hi ⊢
    rw [e1] at ih'
    generalize lp (fun _ _ _ => none) fX12_sieges_b230 (N + 1 + k) = kk at ih' ⊢
    have i13 : (13 : Int32) + Int32.ofNat i = Int32.ofNat (13 + i) := oN_add 13 i
    have i25 : (25 : Int32) + Int32.ofNat i = Int32.ofNat (25 + i) := oN_add 25 i
    have i19 : (19 : Int32) + Int32.ofNat i = Int32.ofNat (19 + i) := oN_add 19 i
    have i0 : (3 : Int32) * Int32.ofNat i = Int32.ofNat (3 * i) := oN_mul 3 i
    have i1 : Int32.ofNat (3 * i) + (1 : Int32) = Int32.ofNat (3 * i + 1) := oN_s _
    have i2 : Int32.ofNat (3 * i) + (2 : Int32) = Int32.ofNat (3 * i + 2) := oN_add _ 2
    have t51 : ∀ (st : St) x, (sA st 51 x).2.2.1 51 = x := fun st x => by rw [sA_3, if_pos rfl]
    have t3 : ∀ (st : St) x, (sA st 51 x).2.2.1 3 = st.2.2.1 3 := fun st x => rfl
    let M : St := sA (sA (sA m 51 (upd (m.2.2.1 51) (3 * i) (m.2.2.1 3 (13 + i)))) 51 (upd (upd (m.2.2.1 51) (3 * i) (m.2.2.1 3 (13 + i))) (3 * i + 1) (m.2.2.1 3 (25 + i)))) 51 (upd (upd (upd (m.2.2.1 51) (3 * i) (m.2.2.1 3 (13 + i))) (3 * i + 1) (m.2.2.1 3 (25 + i))) (3 * i + 2) (m.2.2.1 3 (19 + i)))
    have hstep : fX12_sieges_b230 kk v (Int32.ofNat i) m = kk v (Int32.ofNat (i + 1)) M := by
      unfold fX12_sieges_b230
      rw [h52, if_leF hi (by omega)]
      simp only [lt_v, i13, i25, i19, i0, i1, i2, t51, t3, gi_N (show 13 + i < 5550 by omega) (show 5550 < 2147483648 by decide), gi_N (show 25 + i < 5550 by omega) (show 5550 < 2147483648 by decide), gi_N (show 19 + i < 5550 by omega) (show 5550 < 2147483648 by decide), gi_N (show 3 * i < 22 by omega) (show 22 < 2147483648 by decide), gi_N (show 3 * i + 1 < 22 by omega) (show 22 < 2147483648 by decide), gi_N (show 3 * i + 2 < 22 by omega) (show 22 < 2147483648 by decide), oN_tn (show 13 + i < 2147483648 by omega), oN_tn (show 25 + i < 2147483648 by omega), oN_tn (show 19 + i < 2147483648 by omega), oN_tn (show 3 * i < 2147483648 by omega), oN_tn (show 3 * i + 1 < 2147483648 by omega), oN_tn (show 3 * i + 2 < 2147483648 by omega), oN_s]
      rfl
    have fM : fr [] [] [51] m M := ((fr.sA (by decide)).tr (fr.sA (by decide))).tr (fr.sA (by decide))
    have M3 : M.2.2.1 3 = m.2.2.1 3 := rfl
    have M51 : M.2.2.1 51 = upd (upd (upd (m.2.2.1 51) (3 * i) (m.2.2.1 3 (13 + i))) (3 * i + 1) (m.2.2.1 3 (25 + i))) (3 * i + 2) (m.2.2.1 3 (19 + i)) := rfl
    obtain ⟨m', a1, a2, a3, a4⟩ := ih' M (by omega) h52
    refine ⟨m', hstep.trans a1, fM.tr a2, fun f h1 h2 => ?_, fun j hj => ?_⟩
    · by_cases e : f = i
      · subst e
        rw [a4 _ (by omega), a4 _ (by omega), a4 _ (by omega), M51]
        refine ⟨?_, ?_, ?_⟩
        · rw [upd_v, if_neg (by omega), upd_v, if_neg (by omega), upd_v, if_pos rfl]
        · rw [upd_v, if_neg (by omega), upd_v, if_pos rfl]
        · rw [upd_v, if_pos rfl]
      · rw [← M3]; exact a3 f (by omega) h2
    · rw [a4 j (by omega), M51, upd_v, if_neg (by omega), upd_v, if_neg (by omega), upd_v, if_neg (by omega)]
theorem drg_l {v : Int32} : ∀ (k N : Nat) (m : St), k ≤ 4 → ∃ m', lp (fun _ _ _ => none) fX12_sieges_b309 (N + 1 + k) v (Int32.ofNat (4 - k)) m = (bd (fX12_putBack (16 : Int32) m') (fun r3 st4 => bd (fX12_tell v st4) (fun r5 st6 => some (r5, st6)))) ∧ fr [] [] [51] m m' ∧ (∀ g, 4 - k ≤ g → g < 4 → m'.2.2.1 51 (18 + g) = m.2.2.1 3 (9 + g)) ∧ (∀ j, j < 18 + (4 - k) → m'.2.2.1 51 j = m.2.2.1 51 j) := by
  intro k
  induction k with
  | zero =>
    intro N m _
    refine ⟨m, ?_, fr.rf, fun f h1 h2 => absurd h1 (by omega), fun _ _ => rfl⟩
    rw [Nat.add_zero, Nat.sub_zero, lp_s]
    generalize lp (fun _ _ _ => none) fX12_sieges_b309 N = kk
    unfold fX12_sieges_b309
    rw [if_pos (show (4 : Int32) ≤ Int32.ofNat 4 by decide)]
  | succ k ih =>
    intro N m hk
    have e1 : 4 - k = (4 - (k + 1)) + 1 := by omega
    have hi : 4 - (k + 1) < 4 := by omega
    have ih' := ih N
    rw [← Nat.add_assoc, lp_s]
    generalize 4 - (k + 1) = i at e1 hi ⊢
    rw [e1] at ih'
    generalize lp (fun _ _ _ => none) fX12_sieges_b309 (N + 1 + k) = kk at ih' ⊢
    have i9 : (9 : Int32) + Int32.ofNat i = Int32.ofNat (9 + i) := oN_add 9 i
    have i18 : (18 : Int32) + Int32.ofNat i = Int32.ofNat (18 + i) := oN_add 18 i
    have hstep : fX12_sieges_b309 kk v (Int32.ofNat i) m = kk v (Int32.ofNat (i + 1)) (sA m 51 (upd (m.2.2.1 51) (18 + i) (m.2.2.1 3 (9 + i)))) := by
      unfold fX12_sieges_b309
      rw [if_neg (show ¬ ((4 : Int32) ≤ Int32.ofNat i) from fun q => by have := (oN_le (a := 4) (by decide) (by omega)).mp q; omega), i9, i18, gi_N (show 9 + i < 5550 by omega) (by decide), gi_N (show 18 + i < 22 by omega) (by decide), oN_tn (show 9 + i < 2147483648 by omega), oN_tn (show 18 + i < 2147483648 by omega), lt_v, lt_v, oN_s]
    obtain ⟨m', a1, a2, a3, a4⟩ := ih' (sA m 51 (upd (m.2.2.1 51) (18 + i) (m.2.2.1 3 (9 + i)))) (by omega)
    refine ⟨m', hstep.trans a1, (fr.sA (by decide)).tr a2, fun g h1 h2 => ?_, fun j hj => ?_⟩
    · by_cases e : g = i
      · subst e
        rw [a4 _ (by omega)]
        show upd (m.2.2.1 51) _ _ _ = _
        rw [upd_v, if_pos rfl]
      · exact a3 g (by omega) h2
    · rw [a4 j (by omega)]
      show upd (m.2.2.1 51) _ _ _ = _
      rw [upd_v, if_neg (by omega)]
theorem sieges_call {c m : St} (a b : Int32) (h : RR fz c m) : Cl fz c m (fX11_sieges a b fz c) (fX12_sieges a b m) := by
  have href := cl_refuse (n := 1) h (by decide) (by decide)
  have href3 := cl_refuse (n := 3) h (by decide) (by decide)
  unfold fX11_sieges fX12_sieges fX11_sieges_b20 fX12_sieges_b29 fX11_sieges_b58
  rw [lt_v (sI m 0 0), c_within, bs_v, c_within, bs_v, m_in32 a 0 1000000 0 1000000 rfl rfl, bs_v, m_in32 b 1 60 1 60 rfl rfl, bs_v]
  by_cases ha : ¬ ((0 : Int32) ≤ a ∧ a ≤ 1000000)
  · rw [if_neg ha, if_pos rfl, if_pos rfl]; exact href
  replace ha := Decidable.of_not_not ha
  rw [if_pos ha, if_neg one_ne0, if_neg one_ne0]
  by_cases hb : ¬ ((1 : Int32) ≤ b ∧ b ≤ 60)
  · rw [if_neg hb, if_pos rfl, if_pos rfl]; exact href
  replace hb := Decidable.of_not_not hb
  rw [if_pos hb, if_neg one_ne0, if_neg one_ne0]
  obtain ⟨x, hx, ex⟩ := oN_exb (b := 1000000) ha.1 (by decide) ha.2
  obtain ⟨t, ht, et⟩ := oN_exb (b := 60) (Int32.le_trans (by decide) hb.1) (by decide) hb.2
  obtain ⟨q0, n, hn, en⟩ := h.1.1.1
  have h108 : c.1 108 = Int32.ofNat n := q0.trans en
  have e0 : (sI m 0 0).2.2.1 3 (0 : Int32).toNatClampNeg = Int32.ofNat n := en
  rw [h108, e0]
  by_cases hn0 : n = 0
  · subst hn0
    rw [if_pos (show Int32.ofNat 0 = 0 from rfl), if_pos (show Int32.ofNat 0 = 0 from rfl)]
    exact href3
  have hz : ¬ (Int32.ofNat n = 0) := fun z => hn0 ((oN_eq (b := 0) (by omega) (by decide)).mp z)
  rw [if_neg hz, if_neg hz]
  -- the class's camp, the reference's snapshot
  obtain ⟨c1, u1, u2, u3⟩ := take13 (fz := fz) h.1.1
  obtain ⟨m1, w1, w2, w3⟩ := m_keep (m := sI m 0 0) (k := 16) (by omega)
  have w1' : fX12_keepAll 16 (sI m 0 0) = some ((), m1) := w1
  have r1 : m1.2.2.1 3 = m.2.2.1 3 := w2.2.2.1 3 (by decide)
  have F0 : ca c c1 := u3.ca (by decide) (by decide)
  have hq1 : Rq fz (sJ c1 1105 a.toInt64) (sJ m1 50 a.toInt64) := by
    have : Rq fz c1 m1 := ⟨h.1.1.a (fun k hk => F0.1 k (by revert hk; revert k; decide)) (fun k hk => F0.2.1 k (by revert hk; revert k; decide)) (fun k _ => by rw [r1]), h.1.2.1.a (fun k hk => F0.1 k (by revert hk; revert k; decide)) (by rw [F0.2.2]) (fun k _ => by rw [r1]), by rw [w2.1 20 (by decide)]; exact h.1.2.2⟩
    exact this
  have sd : a.toInt64 = Int64.ofNat x := by rw [ex, o64 (by omega)]
  obtain ⟨T, c2, m2, T60, a1, a2, a3, a4, a5⟩ := sieg_l (fz := fz) (n := n) (t := t) (by omega) hn ht t (5999 - t) 0 x (sJ c1 1105 a.toInt64) (sJ m1 50 a.toInt64) (Nat.le_refl _) (by omega) (by omega) hq1 (by rw [show (sJ m1 50 a.toInt64).2.2.1 3 = m1.2.2.1 3 from rfl, r1]; exact en) sd sd
  rw [show 5999 - t + 1 + t = 6000 by omega, Nat.sub_self] at a1 a2
  have k52 : ∀ (X : St) y, (sI X 52 y).1 52 = y := fun _ _ => rfl
  obtain ⟨m3, b1, b2, b3, b4⟩ := drw_l (v := Int32.ofNat T) hn n (5999 - n) (sI m2 52 (Int32.ofNat n)) (Nat.le_refl _) (k52 _ _)
  rw [show 5999 - n + 1 + n = 6000 by omega, Nat.sub_self] at b1
  obtain ⟨m4, d1, d2, d3, d4⟩ := drg_l (v := Int32.ofNat T) 4 5995 m3 (Nat.le_refl _)
  obtain ⟨m5, p1, p2, p3⟩ := m_put (m := m4) (k := 16) (by omega)
  have p1' : fX12_putBack 16 m4 = some ((), m5) := p1
  obtain ⟨c3, g1, g2, g3⟩ := take14 (fz := fz) a3.1
  have hcm : Cm13 (sI c3 1104 (Int32.ofNat n)) (m.2.2.1 3) := by
    have e1 : ∀ k, k ∈ [1300, 1301, 1302, 1303] → c3.2.2.1 k = c1.2.2.1 k := fun k hk => by
      rw [g3.2.2.1 k (by revert hk; revert k; decide), a4.2.2.1 k (by revert hk; revert k; decide)]; rfl
    have e2 : c3.1 1304 = c1.1 1304 := by
      rw [g3.1 1304 (by decide), a4.1 1304 (by decide)]; rfl
    have : Cm13 c3 (m.2.2.1 3) := by
      unfold Cm13
      rw [e2, e1 1300 (by decide), e1 1301 (by decide), e1 1302 (by decide), e1 1303 (by decide)]
      exact u2
    exact this
  obtain ⟨c4, y1, y2, y3⟩ := back13 (fz := fz) hcm
  have c108 : c3.1 108 = Int32.ofNat n := by
    rw [g3.1 108 (by decide), a4.1 108 (by decide)]
    show c1.1 108 = _
    rw [F0.1 108 (by decide)]; exact h108
  have hcl : fX3_run a b fz c = some (Int32.ofNat T, c4) := by
    unfold fX3_run
    rw [u1, bd_v, lt_v, et]
    have a1' : lp (fun _ _ _ _ => none) (fX3_run_b25 fz) 6000 (Int32.ofNat t) 0 0 (sJ c1 1105 a.toInt64) = _ := a1
    rw [a1', g1, bd_v, lt_v, c108, y1, bd_v]
  have hmo : lp (fun _ _ _ _ => none) fX12_sieges_b68 6000 b 0 0 (sJ m1 50 a.toInt64) = bd (fX12_tell (Int32.ofNat T) m5) (fun r5 st6 => some (r5, st6)) := by
    rw [et]
    have a2' : lp (fun _ _ _ _ => none) fX12_sieges_b68 6000 (Int32.ofNat t) 0 0 (sJ m1 50 a.toInt64) = _ := a2
    have d1' : lp (fun _ _ _ => none) fX12_sieges_b309 6000 (Int32.ofNat T) 0 m3 = _ := d1
    have b1' : lp (fun _ _ _ => none) fX12_sieges_b230 6000 (Int32.ofNat T) 0 (sI m2 52 (Int32.ofNat n)) = _ := b1
    rw [a2', b1', d1', p1', bd_v]
  rw [hcl, bd_v, settle_nn (oN_nn (by omega)), bd_v, w1', bd_v, lt_v, hmo, tell_nn (oN_nn (by omega)), bd_v]
  -- what stands at the end
  have row : m5.2.2.1 3 = m.2.2.1 3 := by
    funext k
    rw [p3 k]
    by_cases z : 6 ≤ k ∧ k < 31
    · rw [if_pos z, d2.2.2.1 6 (by decide), b2.2.2.1 6 (by decide)]
      show m2.2.2.1 6 _ = _
      rw [a5.2.2.1 6 (by decide)]
      show m1.2.2.1 6 _ = _
      rw [w3, if_pos (by omega), show 6 + (25 * 16 + (k - 6) - 25 * 16) = k by omega]; rfl
    · rw [if_neg z, d2.2.2.1 3 (by decide), b2.2.2.1 3 (by decide)]
      show m2.2.2.1 3 k = _
      rw [a5.2.2.2.2.2 k (by omega)]
      show m1.2.2.1 3 k = _
      rw [r1]
  have mI5 : ∀ k, k ∉ [0, 34, 38, 52] → m5.1 k = m.1 k := by
    intro k hk
    have hne : ∀ q, q ∈ [0, 34, 38, 52] → k ≠ q := fun q hq e => hk (by rw [e]; exact hq)
    rw [p2.1 k (by intro e; cases e), d2.1 k (by intro e; cases e), b2.1 k (by intro e; cases e), sI_1, if_neg (hne 52 (by decide)), a5.1 k (fun e => by
      have : k = 34 ∨ k = 38 := by simpa using e
      rcases this with z | z
      · exact hne 34 (by decide) z
      · exact hne 38 (by decide) z)]
    show m1.1 k = _
    rw [w2.1 k (by intro e; cases e), sI_1, if_neg (hne 0 (by decide))]
  have mA5 : ∀ k, k ∉ [3, 6, 51] → m5.2.2.1 k = m.2.2.1 k := by
    intro k hk
    have hne : ∀ q, q ∈ [3, 6, 51] → k ≠ q := fun q hq e => hk (by rw [e]; exact hq)
    rw [p2.2.2.1 k (fun e => hne 3 (by decide) (by simpa using e)), d2.2.2.1 k (fun e => hne 51 (by decide) (by simpa using e)), b2.2.2.1 k (fun e => hne 51 (by decide) (by simpa using e))]
    show m2.2.2.1 k = _
    rw [a5.2.2.1 k (fun e => hne 3 (by decide) (by simpa using e))]
    show m1.2.2.1 k = _
    rw [w2.2.2.1 k (fun e => hne 6 (by decide) (by simpa using e))]; rfl
  have mL5 : ∀ k, k ∉ [35, 37] → m5.2.2.2.1 k = m.2.2.2.1 k := by
    intro k hk
    rw [p2.2.2.2, d2.2.2.2, b2.2.2.2]
    show m2.2.2.2.1 k = _
    rw [a5.2.2.2.1 k hk]
    show m1.2.2.2.1 k = _
    rw [w2.2.2.2]; rfl
  have m66 : ∀ j, j < 400 → m5.2.2.1 6 j = m.2.2.1 6 j := by
    intro j hj
    rw [p2.2.2.1 6 (by decide), d2.2.2.1 6 (by decide), b2.2.2.1 6 (by decide)]
    show m2.2.2.1 6 j = _
    rw [a5.2.2.1 6 (by decide)]
    show m1.2.2.1 6 j = _
    rw [w3, if_neg (by omega)]; rfl
  have cI4 : ∀ k, k ∉ [204, 1104, 1304, 1404] → c4.1 k = c.1 k := by
    intro k hk
    have hne : ∀ q, q ∈ [204, 1104, 1304, 1404] → k ≠ q := fun q hq e => hk (by rw [e]; exact hq)
    rw [y3.1 k (fun e => hne 204 (by decide) (by simpa using e)), sI_1, if_neg (hne 1104 (by decide)), g3.1 k (fun e => hne 1404 (by decide) (by simpa using e)), a4.1 k (fun e => hne 204 (by decide) (by simpa using e))]
    show c1.1 k = _
    rw [u3.1 k (fun e => hne 1304 (by decide) (by simpa using e))]
  have cA4 : ∀ k, k ∉ [200, 201, 202, 203, 801, 1300, 1301, 1302, 1303, 1400, 1401, 1402, 1403] → c4.2.2.1 k = c.2.2.1 k := by
    intro k hk
    have hne : ∀ l : List Nat, (∀ q, q ∈ l → q ∈ [200, 201, 202, 203, 801, 1300, 1301, 1302, 1303, 1400, 1401, 1402, 1403]) → k ∉ l := fun l hl e => hk (hl k e)
    rw [y3.2.2.1 k (hne _ (by decide))]
    show c3.2.2.1 k = _
    rw [g3.2.2.1 k (hne _ (by decide)), a4.2.2.1 k (hne _ (by decide))]
    show c1.2.2.1 k = _
    rw [u3.2.2.1 k (hne _ (by decide))]
  have cR4 : c4.2.2.2.2 = c.2.2.2.2 := by
    rw [y3.2.2.2]
    show c3.2.2.2.2 = _
    rw [g3.2.2.2, a4.2.2.2.2]
    show c1.2.2.2.2 = _
    rw [u3.2.2.2]
  have c1104 : c4.1 1104 = Int32.ofNat n := by rw [y3.1 1104 (by decide)]; rfl
  have m52 : m5.1 52 = Int32.ofNat n := by rw [p2.1 52 (by decide), d2.1 52 (by decide), b2.1 52 (by decide)]; rfl
  have c14 : ∀ k, k ∈ [1400, 1401, 1402, 1403] → c4.2.2.1 k = c3.2.2.1 k := fun k hk => by
    rw [y3.2.2.1 k (by revert hk; revert k; decide)]; rfl
  have m51 : m5.2.2.1 51 = m4.2.2.1 51 := p2.2.2.1 51 (by decide)
  obtain ⟨hq, hs, hL, h6, h7, h8, h9, h10, h11⟩ := h
  refine ⟨_, _, _, rfl, rfl, ⟨⟨?_, ?_, ?_⟩, ⟨rfl, fun i hi => ?_⟩, ?_, ?_, ?_, ?_, Or.inr ⟨n, by omega, hn, ?_, ?_, fun k hk => ⟨?_, ?_, ?_⟩, fun g hg => ?_⟩, ?_, ?_⟩, ?_, ?_, ?_⟩
  · show Rl 0 (sI c4 9 0) (m5.2.2.1 3)
    rw [row]
    have : Rl 0 c4 (m.2.2.1 3) := Rl.back hq.1 y2 (fun k hk => cI4 k (by revert hk; revert k; decide)) (fun k hk => cA4 k (by revert hk; revert k; decide))
    exact this
  · show Rw 0 fz (sI c4 9 0) (m5.2.2.1 3)
    rw [row]
    have : Rw 0 fz c4 (m.2.2.1 3) := hq.2.1.a (fun k hk => cI4 k (by revert hk; revert k; decide)) (by rw [cR4]) (fun _ _ => rfl)
    exact this
  · show m5.1 20 = 0
    rw [mI5 20 (by decide)]; exact hq.2.2
  · show c4.2.2.1 8 i = m5.2.2.1 2 i
    rw [cA4 8 (by decide), mA5 2 (by decide)]; exact hs.2 i hi
  · exact hL.a (cI4 504 (by decide)) (cA4 500 (by decide)) (mI5 13 (by decide)) (mA5 12 (by decide))
  · have := h6.a (c' := c4) (r' := m5.2.2.1 3) (fun k hk => cI4 k (by revert hk; revert k; decide)) (fun k hk => cA4 k (by revert hk; revert k; decide)) (fun k _ => by rw [row])
    exact this
  · have := h7.a (c' := c4) (r' := m5.2.2.1 3) (cI4 404 (by decide)) (fun k hk => cA4 k (by revert hk; revert k; decide)) (fun k _ => by rw [row])
    exact this
  · have := h8.b (c' := c4) (m' := m5) (cI4 905 (by decide)) (cA4 902 (by decide)) (mI5 8 (by decide)) m66 (mA5 7 (by decide)) (fun k _ => by rw [row])
    exact this
  · exact c1104
  · exact m52
  · show c4.2.2.1 1400 k = m5.2.2.1 51 (3 * k)
    rw [c14 1400 (by decide), m51, d4 _ (by omega), (b3 k (by omega) hk).1, (g2.2.2 k (by omega)).1]; rfl
  · show c4.2.2.1 1402 k = m5.2.2.1 51 (3 * k + 1)
    rw [c14 1402 (by decide), m51, d4 _ (by omega), (b3 k (by omega) hk).2.1, (g2.2.2 k (by omega)).2.2]; rfl
  · show c4.2.2.1 1401 k = m5.2.2.1 51 (3 * k + 2)
    rw [c14 1401 (by decide), m51, d4 _ (by omega), (b3 k (by omega) hk).2.2, (g2.2.2 k (by omega)).2.1]; rfl
  · show c4.2.2.1 1403 g = m5.2.2.1 51 (18 + g)
    rw [c14 1403 (by decide), m51, d3 g (by omega) hg, g2.2.1 g hg, b2.2.2.1 3 (by decide)]; rfl
  · have := h10.a (c' := c4) (m' := m5) (fun k hk => cI4 k (by revert hk; revert k; decide)) (fun k hk => mI5 k (by revert hk; revert k; decide))
    exact this
  · exact h11.a (fun k hk => mL5 k (by revert hk; revert k; decide))
  · show c4.2.2.2.2 1 = _
    rw [cR4]
  · show m5.2.2.1 4 = _
    exact mA5 4 (by decide)
  · show m5.2.2.1 5 = _
    exact mA5 5 (by decide)
end Sieges
