/-! T2, what a clause of a law is worth: the reference -/
def eS (m : St) (b : Int32) (s : Nat → Int64) (v u : Int64) : St := (va_up m.1 38 b, va_up (va_up m.2.1 39 v) 40 u, m.2.2.1, va_up m.2.2.2.1 37 s, m.2.2.2.2)
theorem eS_self (m : St) : m = eS m (m.1 38) (m.2.2.2.1 37) (m.2.1 39) (m.2.1 40) := by
  unfold eS
  have h : ∀ {α : Type} (f : Nat → α) (k : Nat), va_up f k (f k) = f := by
    intro α f k
    funext q
    rw [vup_v]
    split
    · rename_i h; rw [h]
    · rfl
  rw [h, h, h, h]
theorem eS_mS (m : St) (b : Int32) (s : Nat → Int64) (v u : Int64) : eS m b s v u = mS (sJ (sJ m 39 v) 40 u) b s := rfl
theorem eS_38 {m : St} {b b' : Int32} {s : Nat → Int64} {v u : Int64} : sI (eS m b s v u) 38 b' = eS m b' s v u := by
  rw [eS_mS, mS_38]; rfl
theorem eS_39 {m : St} {b : Int32} {s : Nat → Int64} {v u v' : Int64} : sJ (eS m b s v u) 39 v' = eS m b s v' u := by
  unfold eS sJ
  congr 2
  funext q
  simp only [vup_v]
  by_cases h : q = 39
  · subst h; rfl
  · simp only [if_neg h]
theorem eS_40 {m : St} {b : Int32} {s : Nat → Int64} {v u u' : Int64} : sJ (eS m b s v u) 40 u' = eS m b s v u' := by
  unfold eS sJ
  congr 2
  funext q
  simp only [vup_v]
  split <;> rfl
theorem m_reckonL {m : St} {base a b : Nat} {Cm : Cd} {w : Nat → Int64} {D : Dn} (h20 : m.1 20 = 0) (h34 : m.1 34 = Int32.ofNat base) (hb : base ≤ 4650) (hrow : ∀ q x, Cm[q]? = some x → m.2.2.1 3 (base + 98 + 2 * q) = Int32.ofNat x.1 ∧ m.2.2.1 3 (base + 98 + 2 * q + 1) = Int32.ofNat x.2) (hset : ∀ o, 1 ≤ o → o ≤ 10 → m.2.2.2.1 35 o = w (o - 1)) (hlt : a < b) (hbl : b ≤ Cm.length) (hl4 : Cm.length ≤ 400) (hD : DenM true (cdOf Cm) a b 50 D) (bb : Int32) (s : Nat → Int64) (v u : Int64) : ∃ s' v', fX12_reckonAll (Int32.ofNat a) (Int32.ofNat b) (eS m bb s v u) = some ((), eS m (if D w = none then 1 else 0) s' v' u) ∧ (∀ x, D w = some x → v' = x) := by
  have e0 : fX12_reckonAll (Int32.ofNat a) (Int32.ofNat b) (eS m bb s v u) = lp (fun _ _ _ _ => none) fX12_reckonAll_b10 6000 (Int32.ofNat b) (Int32.ofNat 0) (Int32.ofNat a) (mS (sJ (sJ m 39 v) 40 u) 0 s) := by
    unfold fX12_reckonAll
    rw [lt_v, eS_38]
    rfl
  rw [e0]
  generalize hst : sJ (sJ m 39 v) 40 u = st
  have s20 : ∀ s, (mS st 0 s).1 20 = 0 := fun s => by rw [← hst]; exact h20
  have s38 : ∀ s, (mS st 0 s).1 38 = 0 := fun s => rfl
  have s34 : ∀ s, (mS st 0 s).1 34 = Int32.ofNat base := fun s => by rw [← hst]; exact h34
  have s3 : ∀ s, (mS st 0 s).2.2.1 3 = m.2.2.1 3 := fun s => by rw [← hst]; rfl
  have s35 : ∀ s, (mS st 0 s).2.2.2.1 35 = m.2.2.2.1 35 := fun s => by rw [← hst]; rfl
  have hstep := KM_step (lw := true) (st := st) (stop := b) (cd := cdOf Cm) (w := w) (by omega) (by
    intro k t q s hq
    obtain ⟨r1, r2⟩ := hrow q _ (cdOf_at (by omega))
    have e98 : Int32.ofNat base + 98 + 2 * Int32.ofNat q = Int32.ofNat (base + 98 + 2 * q) := by
      rw [show (98 : Int32) = Int32.ofNat 98 from rfl, show (2 : Int32) = Int32.ofNat 2 from rfl, oN_mul, oN_add, oN_add]
    unfold fX12_reckonAll_b10 fX12_reckonAll_b57
    rw [if_leF hq (by omega), s38, if_pos rfl, s20, if_pos rfl, s34, e98, gi_N (by omega) (by omega), s3, oN_tn (by omega), r1, if_pos rfl, oN_s, gi_N (by omega) (by omega), oN_tn (by omega), r2]) (by
    intro k t q s o x hq hl
    have hl' : 1 ≤ o ∧ o ≤ 10 := hl
    have ew : wi true o x = o - 1 := by unfold wi; rw [if_pos (Or.inl rfl)]
    unfold fX12_reckonAll_b95
    rw [lt_v, show (20 : Int32) = Int32.ofNat 20 from rfl, if_leF (by omega) (by omega), if_neg (show ¬ (Int32.ofNat o = 0) from fun q => by have := (oN_eq (b := 0) (by omega) (by omega)).mp q; omega), s20, if_pos rfl, gi_N (by omega) (by omega), oN_tn (by omega), s35, hset o hl'.1 hl'.2, ew, oN_s])
  have hrun := hD.2 _ w b _ _ hstep (Nat.le_refl _)
  cases hv : D w with
  | none =>
    have := (hrun (5998 - (b - a) + 1) 0 s (by decide)).2 hv
    rw [show 5998 - (b - a) + 1 + 1 + (b - a) = 6000 by omega] at this
    obtain ⟨s', v', h'⟩ := this
    refine ⟨s', v', ?_, fun x hx => by cases hx⟩
    rw [h', ← hst, if_pos rfl, ← eS_mS, eS_39]
  | some x =>
    obtain ⟨n', s', h1, h2, h3, h4⟩ := (hrun (5999 - (b - a) + 1) 0 s (by decide)).1 x hv
    rw [show 5999 - (b - a) + 1 + (b - a) = 6000 by omega] at h4
    have hend := KM_end (st := st) (stop := b) (t := 1) (n := n' - 1) (s := s') (by omega) (by decide) (by decide)
    rw [show n' - 1 + 1 = n' by omega, h2] at hend
    refine ⟨s', x, ?_, fun y hy => by cases hy; rfl⟩
    rw [if_neg (by intro q; cases q)]
    refine (h4.trans hend).trans ?_
    rw [← hst, ← eS_mS, eS_39]
/-- whether a clause holds, and what it tells -/
theorem m_isSo {m : St} {base i h bm am dm : Nat} {Cm : Cd} {w : Nat → Int64} {D1 D2 : Dn} (h20 : m.1 20 = 0) (h34 : m.1 34 = Int32.ofNat base) (hb : base ≤ 4650) (hi : i < 12) (hrow : ∀ q x, Cm[q]? = some x → m.2.2.1 3 (base + 98 + 2 * q) = Int32.ofNat x.1 ∧ m.2.2.1 3 (base + 98 + 2 * q + 1) = Int32.ofNat x.2) (hset : ∀ o, 1 ≤ o → o ≤ 10 → m.2.2.2.1 35 o = w (o - 1)) (hl4 : Cm.length ≤ 400) (hh : h ≤ 3)
    (t0 : m.2.2.1 3 (base + 2 + 8 * i) = Int32.ofNat h) (t3 : m.2.2.1 3 (base + 2 + 8 * i + 3) = Int32.ofNat bm) (t4 : m.2.2.1 3 (base + 2 + 8 * i + 4) = Int32.ofNat (bm + am)) (t5 : m.2.2.1 3 (base + 2 + 8 * i + 5) = Int32.ofNat (bm + am)) (t6 : m.2.2.1 3 (base + 2 + 8 * i + 6) = Int32.ofNat (bm + am + dm)) (hl : bm + am + dm ≤ Cm.length)
    (h1 : h ≠ 3 → 0 < am ∧ DenM true (cdOf Cm) bm (bm + am) 50 D1) (h2 : (dm = 0 ∧ ∀ w, D2 w = some 1) ∨ (0 < dm ∧ DenM true (cdOf Cm) (bm + am) (bm + am + dm) 50 D2 ∧ Bv D2)) (bb : Int32) (s : Nat → Int64) (v u : Int64) :
    ∃ bb' s' v' u', fX12_isSo (Int32.ofNat (base + 2 + 8 * i)) (eS m bb s v u) = some (if D2 w = some 1 ∧ (h = 3 ∨ D1 w ≠ none) then 1 else 0, eS m bb' s' v' u') ∧ (D2 w = some 1 → h ≠ 3 → ∀ x, D1 w = some x → u' = x) := by
  have s3 : ∀ bb s v u, (eS m bb s v u).2.2.1 3 = m.2.2.1 3 := fun _ _ _ _ => rfl
  have s38 : ∀ bb s v u, (eS m bb s v u).1 38 = bb := fun _ _ _ _ => rfl
  have s39 : ∀ bb s v u, (eS m bb s v u).2.1 39 = v := fun _ _ _ _ => rfl
  -- the sum
  have hsum : ∀ bb s v u, ∃ bb' s' v' u', fX12_isSo_b59 (Int32.ofNat (base + 2 + 8 * i)) (eS m bb s v u) = some (if h = 3 ∨ D1 w ≠ none then 1 else 0, eS m bb' s' v' u') ∧ (h ≠ 3 → ∀ x, D1 w = some x → u' = x) := by
    intro bb s v u
    unfold fX12_isSo_b59
    rw [gi_N (by omega) (by omega), s3, oN_tn (by omega), t0, show (3 : Int32) = Int32.ofNat 3 from rfl]
    by_cases h3 : h = 3
    · rw [if_eqT h3]
      refine ⟨bb, s, v, u, ?_, fun q => absurd h3 q⟩
      rw [if_pos (Or.inl h3)]
    · rw [if_eqF h3 (by omega) (by omega), oN_add, show (4 : Int32) = Int32.ofNat 4 from rfl, oN_add, gi_N (by omega) (by omega), gi_N (by omega) (by omega), oN_tn (by omega), oN_tn (by omega), t3, t4]
      obtain ⟨g1, g2⟩ := h1 h3
      obtain ⟨s', v', k1, k2⟩ := m_reckonL h20 h34 hb hrow hset (by omega) (by omega) hl4 g2 bb s v u
      unfold fX12_isSo_b109
      by_cases hn : D1 w = none
      · rw [if_pos hn] at k1
        rw [k1, bd_v, s39, eS_40, lt_v, s38]
        refine ⟨1, s', v', v', ?_, fun _ x hx => k2 x hx⟩
        rw [i10, if_neg (fun q => q.elim h3 (fun r => r hn))]; rfl
      · rw [if_neg hn] at k1
        rw [k1, bd_v, s39, eS_40, lt_v, s38]
        refine ⟨0, s', v', v', ?_, fun _ x hx => k2 x hx⟩
        rw [i00, if_pos (Or.inr hn)]; rfl
  unfold fX12_isSo
  rw [show (5 : Int32) = Int32.ofNat 5 from rfl, show (6 : Int32) = Int32.ofNat 6 from rfl, oN_add, oN_add, gi_N (by omega) (by omega), gi_N (by omega) (by omega), s3, oN_tn (by omega), oN_tn (by omega), t5, t6]
  rcases h2 with ⟨d0, hD⟩ | ⟨d0, hD, hB⟩
  · rw [if_leT (by omega) (by omega)]
    obtain ⟨bb', s', v', u', k1, k2⟩ := hsum bb s v u
    refine ⟨bb', s', v', u', ?_, fun _ => k2⟩
    rw [k1]
    by_cases hc : h = 3 ∨ D1 w ≠ none
    · rw [if_pos hc, if_pos ⟨hD w, hc⟩]
    · rw [if_neg hc, if_neg (fun q => hc q.2)]
  · rw [if_leF (by omega) (by omega), gi_N (by omega) (by omega), gi_N (by omega) (by omega)]
    obtain ⟨s1, v1, k1, k2⟩ := m_reckonL h20 h34 hb hrow hset (by omega) (by omega) hl4 hD bb s v u
    unfold fX12_isSo_b57
    cases hv : D2 w with
    | none =>
      rw [hv, if_pos rfl] at k1
      rw [k1, bd_v, s38, s39]
      refine ⟨1, s1, v1, u, ?_, fun q => by cases q⟩
      rw [i10, if_neg (fun q => by cases q.1)]
    | some x =>
      rw [hv, if_neg (show ¬ (some x = (none : Option Int64)) from fun q => by cases q)] at k1
      rw [k1, bd_v, s38, s39, i00, k2 x hv]
      rcases hB w x hv with e | e
      · subst e
        refine ⟨0, s1, 0, u, ?_, fun q => by cases q⟩
        rw [if_pos ((cmp_eq _ _).mpr rfl), if_neg (fun q => by cases q.1)]
      · subst e
        rw [if_neg (fun q => by have := (cmp_eq _ _).mp q; exact absurd this (by decide))]
        obtain ⟨bb', s', v', u', k3, k4⟩ := hsum 0 s1 1 u
        refine ⟨bb', s', v', u', ?_, fun _ => k4⟩
        rw [k3]
        by_cases hc : h = 3 ∨ D1 w ≠ none
        · rw [if_pos hc, if_pos ⟨rfl, hc⟩]
        · rw [if_neg hc, if_neg (fun q => hc q.2)]
