/-! T2, told is tells -/
def tS (m : St) (x : Int32) (g : Nat → Int64) : St := sB (sI m 34 x) 35 g
theorem m_tells_l {m : St} {hd base k : Nat} {H : Nat → Option Int64} {d : Int64} (h34 : m.1 34 = Int32.ofNat base) (hb : base ≤ 4650) (hk1 : m.2.2.1 3 (base + 1) = Int32.ofNat k) (hk : k ≤ 12)
    (hs : ∀ i, i < k → ∀ bb s v u, ∃ bb' s' v' u', ∀ (kk : Int32 → Int64 → Int32 → St → Option (Int64 × St)) told, fX12_tells_b158 kk (Int32.ofNat hd) told (Int32.ofNat i) (eS m bb s v u) = kk (Int32.ofNat hd) ((H i).getD told) (Int32.ofNat (i + 1)) (eS m bb' s' v' u')) :
    ∀ (f i n : Nat) (bb : Int32) (s : Nat → Int64) (v u : Int64), i + f = k → ∃ bb' s' v' u', lp (fun _ _ _ _ => none) fX12_tells_b158 (n + 1 + f) (Int32.ofNat hd) (lastV H d i) (Int32.ofNat i) (eS m bb s v u) = some (lastV H d k, eS m bb' s' v' u') := by
  intro f
  induction f with
  | zero =>
    intro i n bb s v u hi
    have hi : i = k := by omega
    subst hi
    refine ⟨bb, s, v, u, ?_⟩
    rw [Nat.add_zero, lp_s]
    generalize lp (fun _ _ _ _ => none) fX12_tells_b158 n = kk
    unfold fX12_tells_b158
    have s3 : (eS m bb s v u).2.2.1 3 = m.2.2.1 3 := rfl
    have s34 : (eS m bb s v u).1 34 = Int32.ofNat base := h34
    rw [s34, oN_s, gi_N (by omega) (by omega), s3, oN_tn (by omega), hk1, if_leT (Nat.le_refl _) (by omega)]
  | succ f ih =>
    intro i n bb s v u hi
    obtain ⟨bb1, s1, v1, u1, h1⟩ := hs i (by omega) bb s v u
    obtain ⟨bb2, s2, v2, u2, h2⟩ := ih (i + 1) n bb1 s1 v1 u1 (by omega)
    refine ⟨bb2, s2, v2, u2, ?_⟩
    rw [← Nat.add_assoc, lp_s, h1]
    exact h2
theorem lastV_none {H : Nat → Option Int64} {d : Int64} : ∀ k, (∀ q, q < k → H q = none) → lastV H d k = d := by
  intro k
  induction k with
  | zero => intro _; rfl
  | succ k ih =>
    intro h
    show (H k).getD _ = _
    rw [h k (by omega)]
    exact ih (fun q hq => h q (by omega))
theorem lastV_some {H : Nat → Option Int64} {d d' : Int64} : ∀ k, ¬ (∀ q, q < k → H q = none) → lastV H d k = lastV H d' k := by
  intro k
  induction k with
  | zero => intro h; exact absurd (fun q hq => absurd hq (Nat.not_lt_zero q)) h
  | succ k ih =>
    intro h
    show (H k).getD _ = (H k).getD _
    cases hk : H k with
    | some v => rfl
    | none =>
      refine ih (fun q => h (fun r hr => ?_))
      rcases Nat.lt_or_ge r k with h3 | h3
      · exact q r h3
      · rw [show r = k by omega]; exact hk
theorem lastV_small {H : Nat → Option Int64} {d : Int64} (hH : ∀ i v, H i = some v → -1000000000 ≤ v ∧ v ≤ 1000000000) (hd : -1000000000 ≤ d ∧ d ≤ 1000000000) : ∀ k, -1000000000 ≤ lastV H d k ∧ lastV H d k ≤ 1000000000 := by
  intro k
  induction k with
  | zero => exact hd
  | succ k ih =>
    show -1000000000 ≤ (H k).getD _ ∧ (H k).getD _ ≤ 1000000000
    cases hk : H k with
    | some v => exact hH k v hk
    | none => exact ih
/-- clamped, the reference's way -/
theorem m_within_clmp {v : Int64} {lo hi : Int32} (hv : -1000000000 ≤ v ∧ v ≤ 1000000000) (hlh : lo ≤ hi) : fX12_within v lo hi = some (clmp lo hi v.toInt32) := by
  have e := small32 hv
  unfold fX12_within fX12_within_b24 clmp
  simp only [cmp_ge, cmp_le]
  have h1 : (lo.toInt64 ≤ v) ↔ lo.toInt ≤ v.toInt := by rw [Int64.le_iff_toInt_le, Int32.toInt_toInt64]
  have h2 : (v ≤ hi.toInt64) ↔ v.toInt ≤ hi.toInt := by rw [Int64.le_iff_toInt_le, Int32.toInt_toInt64]
  have h3 : (v.toInt32 < hi) ↔ v.toInt < hi.toInt := by rw [Int32.lt_iff_toInt_lt, e]
  have hlh' := Int32.le_iff_toInt_le.mp hlh
  by_cases c1 : lo.toInt64 ≤ v
  · rw [if_pos c1]
    have c1' := h1.mp c1
    by_cases c2 : v ≤ hi.toInt64
    · rw [if_pos c2]
      have c2' := h2.mp c2
      congr 1
      by_cases c3 : v.toInt32 < hi
      · rw [if_pos c3]
        by_cases c4 : lo < v.toInt32
        · rw [if_pos c4]
        · rw [if_neg c4]
          have c4' : ¬ (lo.toInt < v.toInt) := fun q => c4 (by rw [Int32.lt_iff_toInt_lt, e]; exact q)
          rw [← Int32.toInt_inj, e]; omega
      · rw [if_neg c3]
        have c3' : ¬ (v.toInt < hi.toInt) := fun q => c3 (h3.mpr q)
        have e2 : v.toInt32 = hi := by rw [← Int32.toInt_inj, e]; omega
        rw [e2]
        by_cases c4 : lo < hi
        · rw [if_pos c4]
        · rw [if_neg c4]
          have c4' : ¬ (lo.toInt < hi.toInt) := fun q => c4 (Int32.lt_iff_toInt_lt.mpr q)
          rw [← Int32.toInt_inj]; omega
    · rw [if_neg c2]
      have c2' : ¬ (v.toInt ≤ hi.toInt) := fun q => c2 (h2.mpr q)
      have c3 : ¬ (v.toInt32 < hi) := fun q => by have := h3.mp q; omega
      rw [if_neg c3]
      congr 1
      by_cases c4 : lo < hi
      · rw [if_pos c4]
      · rw [if_neg c4]
        have c4' : ¬ (lo.toInt < hi.toInt) := fun q => c4 (Int32.lt_iff_toInt_lt.mpr q)
        rw [← Int32.toInt_inj]; omega
  · rw [if_neg c1]
    have c1' : ¬ (lo.toInt ≤ v.toInt) := fun q => c1 (h1.mpr q)
    congr 1
    have c3 : v.toInt32 < hi := h3.mpr (by omega)
    rw [if_pos c3, if_neg]
    rw [Int32.lt_iff_toInt_lt, e]; omega
theorem clmp_in {lo hi v : Int32} (h1 : lo ≤ v) (h2 : v ≤ hi) : clmp lo hi v = v := by
  have h1' := Int32.le_iff_toInt_le.mp h1
  have h2' := Int32.le_iff_toInt_le.mp h2
  unfold clmp
  by_cases c3 : v < hi
  · rw [if_pos c3]
    by_cases c4 : lo < v
    · rw [if_pos c4]
    · rw [if_neg c4]
      have c4' : ¬ (lo.toInt < v.toInt) := fun q => c4 (Int32.lt_iff_toInt_lt.mpr q)
      rw [← Int32.toInt_inj]; omega
  · rw [if_neg c3]
    have c3' : ¬ (v.toInt < hi.toInt) := fun q => c3 (Int32.lt_iff_toInt_lt.mpr q)
    have e2 : hi = v := by rw [← Int32.toInt_inj]; omega
    rw [e2]
    by_cases c4 : lo < v
    · rw [if_pos c4]
    · rw [if_neg c4]
      have c4' : ¬ (lo.toInt < v.toInt) := fun q => c4 (Int32.lt_iff_toInt_lt.mpr q)
      rw [← Int32.toInt_inj]; omega
theorem lastV_one {H : Nat → Option Int64} {d : Int64} (h : ∀ i v, H i = some v → v = 1) : ∀ k, lastV H d k = d ∨ lastV H d k = 1 := by
  intro k
  induction k with
  | zero => exact Or.inl rfl
  | succ k ih =>
    show (H k).getD (lastV H d k) = d ∨ (H k).getD (lastV H d k) = 1
    cases hv : H k with
    | none => exact ih
    | some v => exact Or.inr (h k v hv)
/-- the class's told and the reference's loop of tells, over one law -/
theorem told_loop {P : FP} {fz : List FP} {c m : St} {hd base : Nat} {w : Nat → Int64} {a1 a2 a3 : Int32} {d : Int64} (hR : LwR P (fun q => m.2.2.1 3 (base + q))) (hhd : hd ≤ 3) (hwc : ∀ k, k < 10 → w k = (c.2.2.1 801 k).toInt64) (hwb : ∀ k, -1000000000 ≤ w k ∧ w k ≤ 1000000000) (h20 : m.1 20 = 0) (h34 : m.1 34 = Int32.ofNat base) (hb : base ≤ 4650) (hset : ∀ o, 1 ≤ o → o ≤ 10 → m.2.2.2.1 35 o = w (o - 1)) (hd1 : d = a1.toInt64) (h23 : a2 ≤ a1 ∧ a1 ≤ a3) (hdb : -1000000000 ≤ d ∧ d ≤ 1000000000) :
    ∃ x s' bb' s2 v' u' k, P.2.2.1 5 = Int32.ofNat k ∧ k ≤ 12 ∧ (∀ s, ∃ s', lp (fun _ _ _ _ _ _ _ => none) (fX5_told_b25 fz) 6000 (Int32.ofNat (300 + hd)) a1 a2 a3 P (Int32.ofNat k - 1) (sB c 803 s) = some (clmp a2 a3 x.toInt32, sB c 803 s')) ∧ lp (fun _ _ _ _ => none) fX12_tells_b158 6000 (Int32.ofNat hd) d 0 m = some (x, eS m bb' s2 v' u') ∧ (-1000000000 ≤ x ∧ x ≤ 1000000000) ∧ (s' = (0 : Nat) ∧ (hd = 3 → x = d ∨ x = 1)) := by
  obtain ⟨k, Cm, Cc, hP, ht1, hl4, hrow, hcl⟩ := hR
  have hk := hP.1
  have hrow' : ∀ q x, Cm[q]? = some x → m.2.2.1 3 (base + 98 + 2 * q) = Int32.ofNat x.1 ∧ m.2.2.1 3 (base + 98 + 2 * q + 1) = Int32.ofNat x.2 := by
    intro q x hx
    have := hrow q x hx
    dsimp only at this
    rw [show base + (98 + 2 * q) = base + 98 + 2 * q by omega, show base + (98 + 2 * q + 1) = base + 98 + 2 * q + 1 by omega] at this
    exact this
  have hall := fun i (hi : i < k) => clause_both (fz := fz) (a1 := a1) (a2 := a2) (a3 := a3) hP hi hhd hl4 (hcl i hi) hwc hwb h20 h34 hb ht1 hrow' hset
  let H : Nat → Option Int64 := fun i => if hi : i < k then Classical.choose (hall i hi) else none
  have hH : ∀ i, ∀ hi : i < k, H i = Classical.choose (hall i hi) := fun i hi => dif_pos hi
  have hHs : ∀ i v, H i = some v → -1000000000 ≤ v ∧ v ≤ 1000000000 := by
    intro i v hv
    by_cases hi : i < k
    · rw [hH i hi] at hv
      exact ((Classical.choose_spec (hall i hi)).2.2 v hv).1
    · have : H i = none := dif_neg hi
      rw [this] at hv; cases hv
  have hm := m_tells_l (H := H) (d := d) (hd := hd) h34 hb ht1 hk (fun i hi => by rw [hH i hi]; exact (Classical.choose_spec (hall i hi)).2.1) k 0 (5999 - k) (m.1 38) (m.2.2.2.1 37) (m.2.1 39) (m.2.1 40) (by omega)
  obtain ⟨bb', s2, v', u', hm⟩ := hm
  rw [← eS_self m, show 5999 - k + 1 + k = 6000 by omega] at hm
  refine ⟨lastV H d k, 0, bb', s2, v', u', k, hP.2.1, hk, fun s => ?_, hm, lastV_small hHs hdb k, rfl, fun h3 => lastV_one (fun i v hv => by
    by_cases hi : i < k
    · rw [hH i hi] at hv
      exact ((Classical.choose_spec (hall i hi)).2.2 v hv).2 h3
    · have : H i = none := dif_neg hi
      rw [this] at hv; cases hv) k⟩
  have hc := c_told_l (H := H) (fz := fz) (st := c) (hd := hd) (a1 := a1) (a2 := a2) (a3 := a3) hP (fun i hi => by rw [hH i hi]; exact (Classical.choose_spec (hall i hi)).1) k (5999 - k) s (Nat.le_refl _)
  obtain ⟨s', hc⟩ := hc
  rw [show 5999 - k + 1 + k = 6000 by omega] at hc
  refine ⟨s', ?_⟩
  rw [hc]
  by_cases hn : ∀ q, q < k → H q = none
  · rw [if_pos hn, lastV_none k hn, hd1, Int32.toInt32_toInt64, clmp_in h23.1 h23.2]
  · rw [if_neg hn, lastV_some (d' := d) k hn]
