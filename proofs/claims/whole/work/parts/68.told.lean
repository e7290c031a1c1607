/-! T2, what a law tells: both -/
def LwR (P : FP) (t : Nat → Int32) : Prop := ∃ k Cm Cc, Pk P Cc k ∧ t 1 = Int32.ofNat k ∧ Cm.length ≤ 400 ∧ (∀ q x, Cm[q]? = some x → t (98 + 2 * q) = Int32.ofNat x.1 ∧ t (98 + 2 * q + 1) = Int32.ofNat x.2) ∧ ∀ i, i < k → ClL Cm Cc i (fun q => t (2 + q)) (P.2.2.2.2.1 0) (P.2.2.2.2.1 2)
theorem small32 {v : Int64} (h : -1000000000 ≤ v ∧ v ≤ 1000000000) : v.toInt32.toInt = v.toInt := by
  have h1 := Int64.le_iff_toInt_le.mp h.1
  have h2 := Int64.le_iff_toInt_le.mp h.2
  have e1 : (-1000000000 : Int64).toInt = -1000000000 := by decide
  have e2 : (1000000000 : Int64).toInt = 1000000000 := by decide
  rw [Int64.toInt_toInt32, Int.bmod_eq_of_le (by omega) (by omega)]
theorem enc_min {v : Int64} (h : -1000000000 ≤ v ∧ v ≤ 1000000000) : v.toInt32 ≠ -2147483648 := by
  intro q
  have := congrArg Int32.toInt q
  rw [small32 h] at this
  have h1 := Int64.le_iff_toInt_le.mp h.1
  have e1 : (-1000000000 : Int64).toInt = -1000000000 := by decide
  have e2 : (-2147483648 : Int32).toInt = -2147483648 := by decide
  omega
theorem clause_both {P : FP} {Cm Cc : Cd} {k i hd base : Nat} {fz : List FP} {c m : St} {w : Nat → Int64} {a1 a2 a3 : Int32} (hP : Pk P Cc k) (hi : i < k) (hhd : hd ≤ 3) (hl4 : Cm.length ≤ 400) (hcl : ClL Cm Cc i (fun q => m.2.2.1 3 (base + (2 + q))) (P.2.2.2.2.1 0) (P.2.2.2.2.1 2)) (hwc : ∀ k, k < 10 → w k = (c.2.2.1 801 k).toInt64) (hwb : ∀ k, -1000000000 ≤ w k ∧ w k ≤ 1000000000)
    (h20 : m.1 20 = 0) (h34 : m.1 34 = Int32.ofNat base) (hb : base ≤ 4650) (hk1 : m.2.2.1 3 (base + 1) = Int32.ofNat k) (hrow : ∀ q x, Cm[q]? = some x → m.2.2.1 3 (base + 98 + 2 * q) = Int32.ofNat x.1 ∧ m.2.2.1 3 (base + 98 + 2 * q + 1) = Int32.ofNat x.2) (hset : ∀ o, 1 ≤ o → o ≤ 10 → m.2.2.2.1 35 o = w (o - 1)) :
    ∃ x : Option Int64, (∀ s, ∃ s', ∀ kk : Int32 → Int32 → Int32 → Int32 → FP → Int32 → St → Option (Int32 × St), fX5_told_b25 fz kk (Int32.ofNat (300 + hd)) a1 a2 a3 P (Int32.ofNat i) (sB c 803 s) = mo x (kk (Int32.ofNat (300 + hd)) a1 a2 a3 P (Int32.ofNat i + -1) (sB c 803 s')) (fun v => some (clmp a2 a3 v.toInt32, sB c 803 s'))) ∧
      (∀ bb s v u, ∃ bb' s' v' u', ∀ (kk : Int32 → Int64 → Int32 → St → Option (Int64 × St)) told, fX12_tells_b158 kk (Int32.ofNat hd) told (Int32.ofNat i) (eS m bb s v u) = kk (Int32.ofNat hd) (x.getD told) (Int32.ofNat (i + 1)) (eS m bb' s' v' u')) ∧ (∀ v, x = some v → (-1000000000 ≤ v ∧ v ≤ 1000000000) ∧ (hd = 3 → v = 1)) := by
  obtain ⟨h, bm, am, dm, bc, ac, dc, D1, D2, e1, e2, e3, e4, e5, e6, e7, e8, e9, e10, e11, e12, e13, e14, e15, e16⟩ := hcl
  have hk12 := hP.1
  have hP7 := hP.2.2.2.2.2.2.1
  -- the test, as such
  have hT : ∃ D2', (dm = 0 ∧ dc = 0 ∧ ∀ w, D2' w = some 1) ∨ (0 < dm ∧ 0 < dc ∧ DenM true (cdOf Cm) (bm + am) (bm + am + dm) 50 D2' ∧ DenC (cdOf Cc) 10 (bc + ac) (bc + ac + dc) 50 D2' ∧ Bv D2') := by
    rcases e16 with ⟨q1, q2⟩ | ⟨⟨q1, q2, q3, q4, q5, q6, q7⟩, q8⟩
    · exact ⟨fun _ => some 1, Or.inl ⟨q1, q2, fun _ => rfl⟩⟩
    · exact ⟨D2, Or.inr ⟨q1, q2, q6 _ (cdOf_has _), q7 _ (cdOf_has _), q8⟩⟩
  obtain ⟨D2', hT⟩ := hT
  have hBT : ∀ v, D2' w = some v → v = 0 ∨ v = 1 := by
    rcases hT with ⟨_, _, q⟩ | ⟨_, _, _, _, q⟩
    · intro v hv; rw [q w] at hv; cases hv; exact Or.inr rfl
    · exact q w
  -- the class's two values
  have wT : ∀ s, ∃ s', fX8_worth__law_801_803 P (Int32.ofNat i) (2 : Int32) fz (sB c 803 s) = some (enc (D2' w), sB c 803 s') := by
    intro s
    refine c_worthL (sec := 2) (a := bc + ac) (b := bc + ac + dc) hP hi (by decide) e10 e11 (by omega) (by omega) hwc ?_
    rcases hT with ⟨_, q1, q2⟩ | ⟨_, q1, _, q2, _⟩
    · exact Or.inl ⟨by omega, q2⟩
    · exact Or.inr ⟨by omega, q2⟩
  have wS : ∀ s, ∃ s', fX8_worth__law_801_803 P (Int32.ofNat i) (0 : Int32) fz (sB c 803 s) = some (enc (if h = 3 then some 1 else D1 w), sB c 803 s') := by
    intro s
    by_cases h3 : h = 3
    · rw [if_pos h3]
      refine c_worthL (sec := 0) (a := bc) (b := bc + ac) (D := fun _ => some 1) hP hi (by decide) e8 e9 (by omega) (by omega) hwc (Or.inl ⟨?_, fun _ => rfl⟩)
      have := (e14 h3).2; omega
    · rw [if_neg h3]
      obtain ⟨q1, q2, q3, q4, q5, q6, q7⟩ := e15 h3
      exact c_worthL (sec := 0) (a := bc) (b := bc + ac) hP hi (by decide) e8 e9 (by omega) (by omega) hwc (Or.inr ⟨by omega, q7 _ (cdOf_has _)⟩)
  have hLv : ∀ v, (if h = 3 then some 1 else D1 w) = some v → -1000000000 ≤ v ∧ v ≤ 1000000000 := by
    intro v hv
    by_cases h3 : h = 3
    · rw [if_pos h3] at hv; cases hv; decide
    · rw [if_neg h3] at hv; exact (e15 h3).2.2.2.2.1 w v hwb hv
  refine ⟨if h = hd ∧ D2' w = some 1 then (if h = 3 then some 1 else D1 w) else none, ?_, ?_, ?_⟩
  · intro s
    obtain ⟨s1, k1⟩ := wT s
    obtain ⟨s2, k2⟩ := wS s1
    have hbody : ∀ kk, fX5_told_b25 fz kk (Int32.ofNat (300 + hd)) a1 a2 a3 P (Int32.ofNat i) (sB c 803 s) = if h = hd then (bd (fX8_worth__law_801_803 P (Int32.ofNat i) (2 : Int32) fz (sB c 803 s)) (fun r2 st3 => if r2 = (1 : Int32) then (bd (fX8_worth__law_801_803 P (Int32.ofNat i) (0 : Int32) fz st3) (fun r4 st5 => if r4 = (-2147483648 : Int32) then (fX5_told_b99 fz kk (Int32.ofNat (300 + hd)) a1 a2 a3 P (Int32.ofNat i) st5) else (some (clmp a2 a3 r4, st5)))) else (fX5_told_b99 fz kk (Int32.ofNat (300 + hd)) a1 a2 a3 P (Int32.ofNat i) st3))) else fX5_told_b99 fz kk (Int32.ofNat (300 + hd)) a1 a2 a3 P (Int32.ofNat i) (sB c 803 s) := by
      intro kk
      unfold fX5_told_b25
      rw [if_neg (oN_neg (by omega)), hP.2.2.1, gi_N hi (by omega), oN_tn (by omega), e7]
      by_cases hh : h = hd
      · rw [if_eqT (by omega), if_pos hh]; rfl
      · rw [if_eqF (by omega) (by omega) (by omega), if_neg hh]
    have h99 : ∀ kk s, fX5_told_b99 fz kk (Int32.ofNat (300 + hd)) a1 a2 a3 P (Int32.ofNat i) (sB c 803 s) = kk (Int32.ofNat (300 + hd)) a1 a2 a3 P (Int32.ofNat i + -1) (sB c 803 s) := fun _ _ => rfl
    by_cases hh : h = hd
    · by_cases ht : D2' w = some 1
      · rw [if_pos ⟨hh, ht⟩]
        refine ⟨s2, fun kk => ?_⟩
        rw [hbody kk, if_pos hh, k1, bd_v, ht]
        have e1' : enc (some 1) = 1 := rfl
        rw [e1', if_pos rfl, k2, bd_v]
        cases hv : (if h = 3 then some 1 else D1 w) with
        | none =>
          show (if (-2147483648 : Int32) = -2147483648 then _ else _) = _
          rw [if_pos rfl, h99, mo_n]
        | some v =>
          show (if v.toInt32 = -2147483648 then _ else _) = _
          rw [if_neg (enc_min (hLv v hv)), mo_s]
          rfl
      · rw [if_neg (fun q => ht q.2)]
        refine ⟨s1, fun kk => ?_⟩
        rw [hbody kk, if_pos hh, k1, bd_v]
        have : enc (D2' w) ≠ 1 := by
          cases hv : D2' w with
          | none => decide
          | some v =>
            rcases hBT v hv with e | e
            · subst e; decide
            · subst e; exact absurd hv ht
        rw [if_neg this, h99, mo_n]
    · rw [if_neg (fun q => hh q.1)]
      refine ⟨s, fun kk => ?_⟩
      rw [hbody kk, if_neg hh, h99, mo_n]
  · intro bb s v u
    have s3 : ∀ bb s v u, (eS m bb s v u).2.2.1 3 = m.2.2.1 3 := fun _ _ _ _ => rfl
    have s34 : ∀ bb s v u, (eS m bb s v u).1 34 = Int32.ofNat base := fun _ _ _ _ => h34
    have s40 : ∀ bb s v u, (eS m bb s v u).2.1 40 = u := fun _ _ _ _ => rfl
    have a0 : ∀ q, base + (2 + q) = base + 2 + q := fun q => by omega
    dsimp only at e2 e3 e4 e5 e6
    rw [a0] at e2 e3 e4 e5 e6
    obtain ⟨bb', s', v', u', k1, k2⟩ := m_isSo (h := h) (bm := bm) (am := am) (dm := dm) (D1 := D1) (D2 := D2') (w := w) (i := i) h20 h34 hb (by omega) hrow hset hl4 e1 e2 e3 e4 e5 e6 e12 (fun h3 => ⟨(e15 h3).1, (e15 h3).2.2.2.2.2.1 _ (cdOf_has _)⟩) (by
      rcases hT with ⟨q1, _, q2⟩ | ⟨q1, _, q2, _, q3⟩
      · exact Or.inl ⟨q1, q2⟩
      · exact Or.inr ⟨q1, q2, q3⟩) bb s v u
    have hbody : ∀ (kk : Int32 → Int64 → Int32 → St → Option (Int64 × St)) told, fX12_tells_b158 kk (Int32.ofNat hd) told (Int32.ofNat i) (eS m bb s v u) = if h = hd then (bd (fX12_isSo (Int32.ofNat (base + 2 + 8 * i)) (eS m bb s v u)) (fun r3 st4 => if r3 = 0 then (fX12_tells_b223 kk (Int32.ofNat hd) told (Int32.ofNat i) st4) else (if Int32.ofNat hd = (3 : Int32) then (fX12_tells_b221 kk (Int32.ofNat hd) (Int32.ofNat i) (1 : Int64) st4) else (fX12_tells_b221 kk (Int32.ofNat hd) (Int32.ofNat i) (st4.2.1 40) st4)))) else fX12_tells_b223 kk (Int32.ofNat hd) told (Int32.ofNat i) (eS m bb s v u) := by
      intro kk told
      unfold fX12_tells_b158
      rw [s34, oN_s, gi_N (by omega) (by omega), s3, oN_tn (by omega), hk1, if_leF hi (by omega), lt_v, show (2 : Int32) = Int32.ofNat 2 from rfl, show (8 : Int32) = Int32.ofNat 8 from rfl, oN_mul, oN_add, oN_add, gi_N (by omega) (by omega), oN_tn (by omega), e2]
      by_cases hh : h = hd
      · rw [if_eqT hh, if_pos hh]
      · rw [if_eqF hh (by omega) (by omega), if_neg hh]
    have h223 : ∀ (kk : Int32 → Int64 → Int32 → St → Option (Int64 × St)) told X, fX12_tells_b223 kk (Int32.ofNat hd) told (Int32.ofNat i) X = kk (Int32.ofNat hd) told (Int32.ofNat (i + 1)) X := fun kk told X => by unfold fX12_tells_b223; rw [lt_v, oN_s]
    by_cases hh : h = hd
    · refine ⟨bb', s', v', u', fun kk told => ?_⟩
      rw [hbody, if_pos hh, k1, bd_v]
      by_cases ht : D2' w = some 1 ∧ (h = 3 ∨ D1 w ≠ none)
      · rw [if_pos ht, i10, if_pos (show h = hd ∧ D2' w = some 1 from ⟨hh, ht.1⟩)]
        unfold fX12_tells_b221
        by_cases h3 : h = 3
        · rw [if_pos (show Int32.ofNat hd = (3 : Int32) by rw [← hh, h3]; rfl), h223, if_pos h3]; rfl
        · have h3' : ¬ (Int32.ofNat hd = (3 : Int32)) := fun q => by have := (oN_eq (b := 3) (by omega) (by omega)).mp q; omega
          rw [if_neg h3', h223, s40, if_neg h3]
          cases hv : D1 w with
          | none => exact absurd hv (ht.2.resolve_left h3)
          | some x => rw [k2 ht.1 h3 x hv]; rfl
      · rw [if_neg ht, i00, h223]
        by_cases ht2 : D2' w = some 1
        · have h3 : ¬ h = 3 := fun q => ht ⟨ht2, Or.inl q⟩
          have hn : D1 w = none := Decidable.byContradiction (fun q => ht ⟨ht2, Or.inr q⟩)
          rw [if_pos ⟨hh, ht2⟩, if_neg h3, hn]; rfl
        · rw [if_neg (fun q => ht2 q.2)]; rfl
    · refine ⟨bb, s, v, u, fun kk told => ?_⟩
      rw [hbody, if_neg hh, h223, if_neg (fun q => hh q.1)]; rfl
  · intro v hv
    by_cases hc : h = hd ∧ D2' w = some 1
    · rw [if_pos hc] at hv
      refine ⟨hLv v hv, fun h3 => ?_⟩
      rw [if_pos (hc.1.trans h3)] at hv
      cases hv; rfl
    · rw [if_neg hc] at hv; cases hv
