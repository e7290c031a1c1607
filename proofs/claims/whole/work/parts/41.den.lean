/-! T2, evaluating: what a piece of code is worth, said once for both -/
abbrev Dn : Type := (Nat → Int64) → Option Int64
abbrev Cd : Type := List (Nat × Nat)
def jr (o : Nat) (a b : Int64) : Int64 :=
  if o = 2 then a + b else if o = 3 then a - b else if o = 4 then a * b else if o = 5 then a / b else if o = 6 then a - a / b * b else if o = 7 then (if a < b then 1 else 0) else if o = 8 then (if b < a then 1 else 0) else (if a = b then 1 else 0)
/-- two numbers joined (none: broken); o as the class has it, 2 .. 9 -/
def jn (o : Nat) (a b : Int64) : Option Int64 :=
  if (o = 5 ∨ o = 6) ∧ b = 0 then none else if -1000000000 ≤ jr o a b ∧ jr o a b ≤ 1000000000 then some (jr o a b) else none
def dBin (o : Nat) (D E : Dn) : Dn := fun w => (D w).bind fun a => (E w).bind fun b => jn o a b
def dNot (D : Dn) : Dn := fun w => (D w).bind fun a => some (1 - a)
def dOr (D E : Dn) : Dn := fun w => (D w).bind fun a => if a = 0 then E w else some a
def dAnd (D E : Dn) : Dn := fun w => (D w).bind fun a => if a = 0 then some a else E w
/-- what it tells is 0 or 1 -/
def Bv (D : Dn) : Prop := ∀ w v, D w = some v → v = 0 ∨ v = 1
/-- what it tells is no more than the words and the bound -/
def Lv (D : Dn) : Prop := ∀ w v, (∀ k, -1000000000 ≤ w k ∧ w k ≤ 1000000000) → D w = some v → -1000000000 ≤ v ∧ v ≤ 1000000000
theorem jn_L {o : Nat} {a b r : Int64} (h : jn o a b = some r) : -1000000000 ≤ r ∧ r ≤ 1000000000 := by
  unfold jn at h
  split at h
  · cases h
  · split at h
    · rename_i h2; cases h; exact h2
    · cases h
theorem Lv.bin {o : Nat} {D E : Dn} : Lv (dBin o D E) := by
  intro w v _ h
  unfold dBin at h
  cases hD : D w with
  | none => rw [hD] at h; cases h
  | some a =>
    rw [hD] at h
    cases hE : E w with
    | none => rw [hE] at h; cases h
    | some b => rw [hE] at h; exact jn_L h
theorem Bv.cmp {o : Nat} {D E : Dn} (h1 : 7 ≤ o) : Bv (dBin o D E) := by
  intro w v h
  unfold dBin at h
  cases hD : D w with
  | none => rw [hD] at h; cases h
  | some a =>
    rw [hD] at h
    cases hE : E w with
    | none => rw [hE] at h; cases h
    | some b =>
      rw [hE] at h
      replace h : jn o a b = some v := h
      unfold jn at h
      rw [if_neg (by omega)] at h
      split at h
      · cases h
        unfold jr
        rw [if_neg (by omega), if_neg (by omega), if_neg (by omega), if_neg (by omega), if_neg (by omega)]
        split
        · split <;> simp
        · split
          · split <;> simp
          · split <;> simp
      · cases h
theorem Bv.not {D : Dn} (h : Bv D) : Bv (dNot D) := by
  intro w v h2
  unfold dNot at h2
  cases hD : D w with
  | none => rw [hD] at h2; cases h2
  | some a =>
    rw [hD] at h2
    cases h2
    rcases h w a hD with e | e <;> subst e
    · exact Or.inr rfl
    · exact Or.inl rfl
theorem Bv.orr {D E : Dn} (h : Bv D) (h2 : Bv E) : Bv (dOr D E) := by
  intro w v h3
  unfold dOr at h3
  cases hD : D w with
  | none => rw [hD] at h3; cases h3
  | some a =>
    rw [hD] at h3
    replace h3 : (if a = 0 then E w else some a) = some v := h3
    split at h3
    · exact h2 w v h3
    · cases h3; exact h w v hD
theorem Bv.andd {D E : Dn} (h : Bv D) (h2 : Bv E) : Bv (dAnd D E) := by
  intro w v h3
  unfold dAnd at h3
  cases hD : D w with
  | none => rw [hD] at h3; cases h3
  | some a =>
    rw [hD] at h3
    replace h3 : (if a = 0 then some a else E w) = some v := h3
    split at h3
    · cases h3; exact h w v hD
    · exact h2 w v h3
theorem dNot2 {D : Dn} (h : Bv D) : dNot (dNot D) = D := by
  funext w
  unfold dNot
  cases hD : D w with
  | none => rfl
  | some a => rcases h w a hD with e | e <;> subst e <;> rfl
/-! the class's machine -/
def StepC {α : Type} (cd : Nat → Nat × Nat) (w : Nat → Int64) (nW stop : Nat) (K : Nat → Nat → Nat → Nat → (Nat → Int64) → α) (bk : α → Prop) : Prop :=
  (∀ n t go q s, q < stop → q < go → go ≤ 400 → K (n + 1) t go q s = K n t go (q + 1) s) ∧
  (∀ n t go q s v, q < stop → go ≤ q → cd q = (0, v) → v ≤ 1000 → t < 64 → K (n + 1) t go q s = K n (t + 1) go (q + 1) (vp_updL s t (Int64.ofNat v))) ∧
  (∀ n t go q s k, q < stop → go ≤ q → cd q = (1, k) → k < nW → t < 64 → K (n + 1) t go q s = K n (t + 1) go (q + 1) (vp_updL s t (w k))) ∧
  (∀ n t go q s o x, q < stop → go ≤ q → cd q = (o, x) → 2 ≤ o → o ≤ 9 → t + 2 ≤ 64 → (∀ r, jn o (s t) (s (t + 1)) = some r → K (n + 1) (t + 2) go q s = K n (t + 1) go (q + 1) (vp_updL s t r)) ∧ (jn o (s t) (s (t + 1)) = none → bk (K (n + 1) (t + 2) go q s))) ∧
  (∀ n t go q s x, q < stop → go ≤ q → cd q = (10, x) → t + 1 ≤ 64 → K (n + 1) (t + 1) go q s = K n (t + 1) go (q + 1) (vp_updL s t (1 - s t))) ∧
  (∀ n t go q s x, q < stop → go ≤ q → cd q = (11, x) → x ≤ 400 → t + 1 ≤ 64 → K (n + 1) (t + 1) go q s = if s t = 0 then K n t go (q + 1) s else K n (t + 1) x (q + 1) s) ∧
  (∀ n t go q s x, q < stop → go ≤ q → cd q = (12, x) → x ≤ 400 → t + 1 ≤ 64 → K (n + 1) (t + 1) go q s = if s t = 0 then K n (t + 1) x (q + 1) s else K n t go (q + 1) s)
def DenC (cd : Nat → Nat × Nat) (nW a b d : Nat) (D : Dn) : Prop :=
  a ≤ b ∧ ∀ (α : Type) (w : Nat → Int64) (stop : Nat) (K : Nat → Nat → Nat → Nat → (Nat → Int64) → α) (bk : α → Prop), StepC cd w nW stop K bk → b ≤ stop → ∀ n t go s, go ≤ a → t + d ≤ 64 →
    (∀ v, D w = some v → ∃ go' s', go' ≤ b ∧ s' t = v ∧ (∀ i, i < t → s' i = s i) ∧ K (n + (b - a)) t go a s = K n (t + 1) go' b s') ∧ (D w = none → bk (K (n + (b - a)) t go a s))
theorem updL_ne {s : Nat → Int64} {k : Nat} {x : Int64} {j : Nat} (h : j ≠ k) : vp_updL s k x j = s j := by rw [updL_v, if_neg h]
theorem updL_eq {s : Nat → Int64} {k : Nat} {x : Int64} : vp_updL s k x k = x := by rw [updL_v, if_pos rfl]
theorem DenC.push {cd : Nat → Nat × Nat} {nW a v : Nat} (h : cd a = (0, v)) (hv : v ≤ 1000) : DenC cd nW a (a + 1) 1 (fun _ => some (Int64.ofNat v)) := by
  refine ⟨Nat.le_succ a, fun α w stop K bk hs hb n t go s hg ht => ⟨fun v2 h2 => ?_, fun h2 => by cases h2⟩⟩
  cases h2
  refine ⟨go, _, by omega, updL_eq, fun i hi => updL_ne (Nat.ne_of_lt hi), ?_⟩
  rw [show n + (a + 1 - a) = n + 1 by omega]
  exact hs.2.1 n t go a s v (by omega) hg h hv (by omega)
theorem DenC.look {cd : Nat → Nat × Nat} {nW a k : Nat} (h : cd a = (1, k)) (hk : k < nW) : DenC cd nW a (a + 1) 1 (fun w => some (w k)) := by
  refine ⟨Nat.le_succ a, fun α w stop K bk hs hb n t go s hg ht => ⟨fun v2 h2 => ?_, fun h2 => by cases h2⟩⟩
  cases h2
  refine ⟨go, _, by omega, updL_eq, fun i hi => updL_ne (Nat.ne_of_lt hi), ?_⟩
  rw [show n + (a + 1 - a) = n + 1 by omega]
  exact hs.2.2.1 n t go a s k (by omega) hg h hk (by omega)
theorem DenC.bin {cd : Nat → Nat × Nat} {nW a m b d1 d2 o x : Nat} {D E : Dn} (h1 : DenC cd nW a m d1 D) (h2 : DenC cd nW m b d2 E) (h : cd b = (o, x)) (ho : 2 ≤ o) (ho2 : o ≤ 9) (hd : 1 ≤ d1) (hd2 : 1 ≤ d2) : DenC cd nW a (b + 1) (d1 + d2) (dBin o D E) := by
  obtain ⟨l1, h1⟩ := h1
  obtain ⟨l2, h2⟩ := h2
  refine ⟨by omega, fun α w stop K bk hs hb n t go s hg ht => ?_⟩
  have e1 : n + (b + 1 - a) = ((n + 1) + (b - m)) + (m - a) := by omega
  have g1 := h1 α w stop K bk hs (by omega) ((n + 1) + (b - m)) t go s hg (by omega)
  rw [e1]
  unfold dBin
  cases hD : D w with
  | none =>
    refine ⟨fun v hv => (by cases hv), fun _ => g1.2 hD⟩
  | some u =>
    obtain ⟨go1, s1, q1, q2, q3, q4⟩ := g1.1 u hD
    have g2 := h2 α w stop K bk hs (by omega) (n + 1) (t + 1) go1 s1 q1 (by omega)
    rw [q4]
    cases hE : E w with
    | none => refine ⟨fun v hv => (by cases hv), fun _ => g2.2 hE⟩
    | some u2 =>
      obtain ⟨go2, s2, r1, r2, r3, r4⟩ := g2.1 u2 hE
      rw [r4]
      have g3 := hs.2.2.2.1 n t go2 b s2 o x (by omega) r1 h ho ho2 (by omega)
      rw [r3 t (by omega), q2, r2] at g3
      refine ⟨fun v hv => ?_, fun hv => g3.2 hv⟩
      refine ⟨go2, _, by omega, updL_eq, fun i hi => ?_, g3.1 v hv⟩
      rw [updL_ne (Nat.ne_of_lt hi), r3 i (by omega), q3 i hi]
theorem DenC.not {cd : Nat → Nat × Nat} {nW a b d x : Nat} {D : Dn} (h1 : DenC cd nW a b d D) (h : cd b = (10, x)) (hd : 1 ≤ d) : DenC cd nW a (b + 1) d (dNot D) := by
  obtain ⟨l1, h1⟩ := h1
  refine ⟨by omega, fun α w stop K bk hs hb n t go s hg ht => ?_⟩
  have e1 : n + (b + 1 - a) = (n + 1) + (b - a) := by omega
  have g1 := h1 α w stop K bk hs (by omega) (n + 1) t go s hg (by omega)
  rw [e1]
  unfold dNot
  cases hD : D w with
  | none => refine ⟨fun v hv => (by cases hv), fun _ => g1.2 hD⟩
  | some u =>
    obtain ⟨go1, s1, q1, q2, q3, q4⟩ := g1.1 u hD
    rw [q4]
    refine ⟨fun v hv => ?_, fun hv => by cases hv⟩
    cases hv
    refine ⟨go1, vp_updL s1 t (1 - u), by omega, updL_eq, fun i hi => by rw [updL_ne (Nat.ne_of_lt hi), q3 i hi], ?_⟩
    have := hs.2.2.2.2.1 n t go1 b s1 x (by omega) q1 h (by omega)
    rw [q2] at this
    exact this
theorem StepC.skips {α : Type} {cd : Nat → Nat × Nat} {w : Nat → Int64} {nW stop : Nat} {K : Nat → Nat → Nat → Nat → (Nat → Int64) → α} {bk : α → Prop} (hs : StepC cd w nW stop K bk) {n t go : Nat} {s : Nat → Int64} (b : Nat) (hg : b ≤ go) (hg4 : go ≤ 400) (hb : b ≤ stop) : ∀ (k q : Nat), q + k = b → K (n + k) t go q s = K n t go b s := by
  intro k
  induction k with
  | zero => intro q hq; rw [show q = b by omega]; rfl
  | succ k ih =>
    intro q hq
    rw [← Nat.add_assoc, hs.1 (n + k) t go q s (by omega) (by omega) hg4]
    exact ih (q + 1) (by omega)
theorem DenC.orr {cd : Nat → Nat × Nat} {nW a m b d1 d2 : Nat} {D E : Dn} (h1 : DenC cd nW a m d1 D) (h : cd m = (11, b)) (h2 : DenC cd nW (m + 1) b d2 E) (hb4 : b ≤ 400) (hd : 1 ≤ d1) : DenC cd nW a b (d1 + d2) (dOr D E) := by
  obtain ⟨l1, h1⟩ := h1
  obtain ⟨l2, h2⟩ := h2
  refine ⟨by omega, fun α w stop K bk hs hb n t go s hg ht => ?_⟩
  have e1 : n + (b - a) = ((n + (b - (m + 1))) + 1) + (m - a) := by omega
  have g1 := h1 α w stop K bk hs (by omega) ((n + (b - (m + 1))) + 1) t go s hg (by omega)
  rw [e1]
  unfold dOr
  cases hD : D w with
  | none => refine ⟨fun v hv => (by cases hv), fun _ => g1.2 hD⟩
  | some u =>
    obtain ⟨go1, s1, q1, q2, q3, q4⟩ := g1.1 u hD
    rw [q4]
    have g3 := hs.2.2.2.2.2.1 (n + (b - (m + 1))) t go1 m s1 b (by omega) q1 h hb4 (by omega)
    rw [g3, q2]
    show (∀ v, (if u = 0 then E w else some u) = some v → _) ∧ ((if u = 0 then E w else some u) = none → _)
    by_cases hu : u = 0
    · rw [if_pos hu, if_pos hu]
      have g2 := h2 α w stop K bk hs (by omega) n t go1 s1 (by omega) (by omega)
      refine ⟨fun v hv => ?_, g2.2⟩
      obtain ⟨go2, s2, r1, r2, r3, r4⟩ := g2.1 v hv
      exact ⟨go2, s2, r1, r2, fun i hi => by rw [r3 i hi, q3 i hi], r4⟩
    · rw [if_neg hu, if_neg hu]
      refine ⟨fun v hv => ?_, fun hv => by cases hv⟩
      cases hv
      exact ⟨b, s1, Nat.le_refl b, q2, q3, hs.skips b (Nat.le_refl b) hb4 hb _ (m + 1) (by omega)⟩
theorem DenC.andd {cd : Nat → Nat × Nat} {nW a m b d1 d2 : Nat} {D E : Dn} (h1 : DenC cd nW a m d1 D) (h : cd m = (12, b)) (h2 : DenC cd nW (m + 1) b d2 E) (hb4 : b ≤ 400) (hd : 1 ≤ d1) : DenC cd nW a b (d1 + d2) (dAnd D E) := by
  obtain ⟨l1, h1⟩ := h1
  obtain ⟨l2, h2⟩ := h2
  refine ⟨by omega, fun α w stop K bk hs hb n t go s hg ht => ?_⟩
  have e1 : n + (b - a) = ((n + (b - (m + 1))) + 1) + (m - a) := by omega
  have g1 := h1 α w stop K bk hs (by omega) ((n + (b - (m + 1))) + 1) t go s hg (by omega)
  rw [e1]
  unfold dAnd
  cases hD : D w with
  | none => refine ⟨fun v hv => (by cases hv), fun _ => g1.2 hD⟩
  | some u =>
    obtain ⟨go1, s1, q1, q2, q3, q4⟩ := g1.1 u hD
    rw [q4]
    have g3 := hs.2.2.2.2.2.2 (n + (b - (m + 1))) t go1 m s1 b (by omega) q1 h hb4 (by omega)
    rw [g3, q2]
    show (∀ v, (if u = 0 then some u else E w) = some v → _) ∧ ((if u = 0 then some u else E w) = none → _)
    by_cases hu : u = 0
    · rw [if_pos hu, if_pos hu]
      refine ⟨fun v hv => ?_, fun hv => by cases hv⟩
      cases hv
      exact ⟨b, s1, Nat.le_refl b, q2, q3, hs.skips b (Nat.le_refl b) hb4 hb _ (m + 1) (by omega)⟩
    · rw [if_neg hu, if_neg hu]
      have g2 := h2 α w stop K bk hs (by omega) n t go1 s1 (by omega) (by omega)
      refine ⟨fun v hv => ?_, g2.2⟩
      obtain ⟨go2, s2, r1, r2, r3, r4⟩ := g2.1 v hv
      exact ⟨go2, s2, r1, r2, fun i hi => by rw [r3 i hi, q3 i hi], r4⟩
theorem DenC.mono {cd : Nat → Nat × Nat} {nW a b d d' : Nat} {D : Dn} (h : DenC cd nW a b d D) (hd : d ≤ d') : DenC cd nW a b d' D := ⟨h.1, fun α w stop K bk hs hb n t go s hg ht => h.2 α w stop K bk hs hb n t go s hg (by omega)⟩
/-! the reference's machine; wi: which word a leaf (op, arg) looks at -/
def wi (lw : Bool) (o x : Nat) : Nat := if lw = true ∨ o < 4 then o - 1 else if o = 4 then 3 + x else if o = 5 then 9 + x else 15 + x
def leafM (lw : Bool) (o x : Nat) : Prop := 1 ≤ o ∧ (if lw = true then o ≤ 10 else o ≤ 3 ∨ (o = 4 ∧ x ≤ 5) ∨ (o = 5 ∧ x ≤ 5) ∨ (o = 6 ∧ x ≤ 3))
def StepM {α : Type} (lw : Bool) (cd : Nat → Nat × Nat) (w : Nat → Int64) (stop : Nat) (K : Nat → Nat → Nat → (Nat → Int64) → α) (bk : α → Prop) : Prop :=
  (∀ n t q s v, q < stop → cd q = (0, v) → v ≤ 1000 → t < 400 → K (n + 1) t q s = K n (t + 1) (q + 1) (vp_updL s t (Int64.ofNat v))) ∧
  (∀ n t q s o x, q < stop → cd q = (o, x) → leafM lw o x → t < 400 → K (n + 1) t q s = K n (t + 1) (q + 1) (vp_updL s t (w (wi lw o x)))) ∧
  (∀ n t q s o x, q < stop → cd q = (o + 18, x) → 2 ≤ o → o ≤ 9 → t + 2 ≤ 400 → (∀ r, jn o (s t) (s (t + 1)) = some r → K (n + 1) (t + 2) q s = K n (t + 1) (q + 1) (vp_updL s t r)) ∧ (jn o (s t) (s (t + 1)) = none → bk (K (n + 2) (t + 2) q s))) ∧
  (∀ n t q s x, q < stop → cd q = (28, x) → t + 1 ≤ 400 → K (n + 1) (t + 1) q s = K n (t + 1) (q + 1) (vp_updL s t (1 - s t))) ∧
  (∀ n t q s x, q < stop → cd q = (30, x) → t + 1 ≤ 400 → x ≤ 400 → K (n + 1) (t + 1) q s = if s t = 1 then K n (t + 1) x s else K n t (q + 1) s) ∧
  (∀ n t q s x, q < stop → cd q = (29, x) → t + 1 ≤ 400 → x ≤ 400 → K (n + 1) (t + 1) q s = if s t = 0 then K n (t + 1) x s else K n t (q + 1) s)
def DenM (lw : Bool) (cd : Nat → Nat × Nat) (a b d : Nat) (D : Dn) : Prop :=
  a ≤ b ∧ ∀ (α : Type) (w : Nat → Int64) (stop : Nat) (K : Nat → Nat → Nat → (Nat → Int64) → α) (bk : α → Prop), StepM lw cd w stop K bk → b ≤ stop → ∀ n t s, t + d ≤ 400 →
    (∀ v, D w = some v → ∃ n' s', n ≤ n' ∧ s' t = v ∧ (∀ i, i < t → s' i = s i) ∧ K (n + (b - a)) t a s = K n' (t + 1) b s') ∧ (D w = none → bk (K (n + 1 + (b - a)) t a s))
theorem DenM.push {lw : Bool} {cd : Nat → Nat × Nat} {a v : Nat} (h : cd a = (0, v)) (hv : v ≤ 1000) : DenM lw cd a (a + 1) 1 (fun _ => some (Int64.ofNat v)) := by
  refine ⟨Nat.le_succ a, fun α w stop K bk hs hb n t s ht => ⟨fun v2 h2 => ?_, fun h2 => by cases h2⟩⟩
  cases h2
  refine ⟨n, _, Nat.le_refl n, updL_eq, fun i hi => updL_ne (Nat.ne_of_lt hi), ?_⟩
  rw [show n + (a + 1 - a) = n + 1 by omega]
  exact hs.1 n t a s v (by omega) h hv (by omega)
theorem DenM.look {lw : Bool} {cd : Nat → Nat × Nat} {a o x : Nat} (h : cd a = (o, x)) (hk : leafM lw o x) : DenM lw cd a (a + 1) 1 (fun w => some (w (wi lw o x))) := by
  refine ⟨Nat.le_succ a, fun α w stop K bk hs hb n t s ht => ⟨fun v2 h2 => ?_, fun h2 => by cases h2⟩⟩
  cases h2
  refine ⟨n, _, Nat.le_refl n, updL_eq, fun i hi => updL_ne (Nat.ne_of_lt hi), ?_⟩
  rw [show n + (a + 1 - a) = n + 1 by omega]
  exact hs.2.1 n t a s o x (by omega) h hk (by omega)
theorem DenM.bin {lw : Bool} {cd : Nat → Nat × Nat} {a m b d1 d2 o x : Nat} {D E : Dn} (h1 : DenM lw cd a m d1 D) (h2 : DenM lw cd m b d2 E) (h : cd b = (o + 18, x)) (ho : 2 ≤ o) (ho2 : o ≤ 9) (hd : 1 ≤ d1) (hd2 : 1 ≤ d2) : DenM lw cd a (b + 1) (d1 + d2) (dBin o D E) := by
  obtain ⟨l1, h1⟩ := h1
  obtain ⟨l2, h2⟩ := h2
  refine ⟨by omega, fun α w stop K bk hs hb n t s ht => ?_⟩
  unfold dBin
  cases hD : D w with
  | none =>
    refine ⟨fun v hv => (by cases hv), fun _ => ?_⟩
    have := (h1 α w stop K bk hs (by omega) (n + (b + 1 - m)) t s (by omega)).2 hD
    rw [show n + 1 + (b + 1 - a) = n + (b + 1 - m) + 1 + (m - a) by omega]
    exact this
  | some u =>
    cases hE : E w with
    | none =>
      refine ⟨fun v hv => (by cases hv), fun _ => ?_⟩
      obtain ⟨n1, s1, q1, q2, q3, q4⟩ := (h1 α w stop K bk hs (by omega) (n + 2 + (b - m)) t s (by omega)).1 u hD
      rw [show n + 1 + (b + 1 - a) = n + 2 + (b - m) + (m - a) by omega, q4]
      have := (h2 α w stop K bk hs (by omega) (n1 - 1 - (b - m)) (t + 1) s1 (by omega)).2 hE
      rw [show n1 - 1 - (b - m) + 1 + (b - m) = n1 by omega] at this
      exact this
    | some u2 =>
      constructor
      · intro v hv
        obtain ⟨n1, s1, q1, q2, q3, q4⟩ := (h1 α w stop K bk hs (by omega) (n + 1 + (b - m)) t s (by omega)).1 u hD
        obtain ⟨n2, s2, r1, r2, r3, r4⟩ := (h2 α w stop K bk hs (by omega) (n1 - (b - m)) (t + 1) s1 (by omega)).1 u2 hE
        rw [show n1 - (b - m) + (b - m) = n1 by omega] at r4
        have g3 := hs.2.2.1 (n2 - 1) t b s2 o x (by omega) h ho ho2 (by omega)
        rw [r3 t (by omega), q2, r2, show n2 - 1 + 1 = n2 by omega] at g3
        refine ⟨n2 - 1, vp_updL s2 t v, by omega, updL_eq, fun i hi => ?_, ?_⟩
        · rw [updL_ne (Nat.ne_of_lt hi), r3 i (by omega), q3 i hi]
        · rw [show n + (b + 1 - a) = n + 1 + (b - m) + (m - a) by omega, q4, r4]
          exact g3.1 v hv
      · intro hv
        obtain ⟨n1, s1, q1, q2, q3, q4⟩ := (h1 α w stop K bk hs (by omega) (n + 2 + (b - m)) t s (by omega)).1 u hD
        obtain ⟨n2, s2, r1, r2, r3, r4⟩ := (h2 α w stop K bk hs (by omega) (n1 - (b - m)) (t + 1) s1 (by omega)).1 u2 hE
        rw [show n1 - (b - m) + (b - m) = n1 by omega] at r4
        have g3 := hs.2.2.1 (n2 - 2) t b s2 o x (by omega) h ho ho2 (by omega)
        rw [r3 t (by omega), q2, r2, show n2 - 2 + 2 = n2 by omega] at g3
        rw [show n + 1 + (b + 1 - a) = n + 2 + (b - m) + (m - a) by omega, q4, r4]
        exact g3.2 hv
theorem DenM.not {lw : Bool} {cd : Nat → Nat × Nat} {a b d x : Nat} {D : Dn} (h1 : DenM lw cd a b d D) (h : cd b = (28, x)) (hd : 1 ≤ d) : DenM lw cd a (b + 1) d (dNot D) := by
  obtain ⟨l1, h1⟩ := h1
  refine ⟨by omega, fun α w stop K bk hs hb n t s ht => ?_⟩
  unfold dNot
  cases hD : D w with
  | none =>
    refine ⟨fun v hv => (by cases hv), fun _ => ?_⟩
    have := (h1 α w stop K bk hs (by omega) (n + 1) t s (by omega)).2 hD
    rw [show n + 1 + (b + 1 - a) = n + 1 + 1 + (b - a) by omega]
    exact this
  | some u =>
    refine ⟨fun v hv => ?_, fun hv => by cases hv⟩
    cases hv
    obtain ⟨n1, s1, q1, q2, q3, q4⟩ := (h1 α w stop K bk hs (by omega) (n + 1) t s (by omega)).1 u hD
    refine ⟨n1 - 1, vp_updL s1 t (1 - u), by omega, updL_eq, fun i hi => by rw [updL_ne (Nat.ne_of_lt hi), q3 i hi], ?_⟩
    rw [show n + (b + 1 - a) = n + 1 + (b - a) by omega, q4]
    have := hs.2.2.2.1 (n1 - 1) t b s1 x (by omega) h (by omega)
    rw [q2, show n1 - 1 + 1 = n1 by omega] at this
    exact this
theorem DenM.orr {lw : Bool} {cd : Nat → Nat × Nat} {a m b d1 d2 : Nat} {D E : Dn} (h1 : DenM lw cd a m d1 D) (hB : Bv D) (h : cd m = (30, b)) (h2 : DenM lw cd (m + 1) b d2 E) (hb4 : b ≤ 400) (hd : 1 ≤ d1) : DenM lw cd a b (d1 + d2) (dOr D E) := by
  obtain ⟨l1, h1⟩ := h1
  obtain ⟨l2, h2⟩ := h2
  refine ⟨by omega, fun α w stop K bk hs hb n t s ht => ?_⟩
  unfold dOr
  cases hD : D w with
  | none =>
    refine ⟨fun v hv => (by cases hv), fun _ => ?_⟩
    have := (h1 α w stop K bk hs (by omega) (n + (b - m)) t s (by omega)).2 hD
    rw [show n + 1 + (b - a) = n + (b - m) + 1 + (m - a) by omega]
    exact this
  | some u =>
    show (∀ v, (if u = 0 then E w else some u) = some v → _) ∧ ((if u = 0 then E w else some u) = none → _)
    rcases hB w u hD with hu | hu
    · subst hu
      rw [if_pos rfl]
      constructor
      · intro v hv
        obtain ⟨n1, s1, q1, q2, q3, q4⟩ := (h1 α w stop K bk hs (by omega) (n + (b - m)) t s (by omega)).1 0 hD
        have g3 := hs.2.2.2.2.1 (n1 - 1) t m s1 b (by omega) h (by omega) hb4
        rw [q2, if_neg (by decide), show n1 - 1 + 1 = n1 by omega] at g3
        obtain ⟨n2, s2, r1, r2, r3, r4⟩ := (h2 α w stop K bk hs (by omega) (n1 - 1 - (b - (m + 1))) t s1 (by omega)).1 v hv
        rw [show n1 - 1 - (b - (m + 1)) + (b - (m + 1)) = n1 - 1 by omega] at r4
        exact ⟨n2, s2, by omega, r2, fun i hi => by rw [r3 i hi, q3 i hi], by rw [show n + (b - a) = n + (b - m) + (m - a) by omega, q4, g3, r4]⟩
      · intro hv
        obtain ⟨n1, s1, q1, q2, q3, q4⟩ := (h1 α w stop K bk hs (by omega) (n + 1 + (b - m)) t s (by omega)).1 0 hD
        have g3 := hs.2.2.2.2.1 (n1 - 1) t m s1 b (by omega) h (by omega) hb4
        rw [q2, if_neg (by decide), show n1 - 1 + 1 = n1 by omega] at g3
        have r4 := (h2 α w stop K bk hs (by omega) (n1 - 2 - (b - (m + 1))) t s1 (by omega)).2 hv
        rw [show n1 - 2 - (b - (m + 1)) + 1 + (b - (m + 1)) = n1 - 1 by omega] at r4
        rw [show n + 1 + (b - a) = n + 1 + (b - m) + (m - a) by omega, q4, g3]
        exact r4
    · subst hu
      rw [if_neg (by decide)]
      refine ⟨fun v hv => ?_, fun hv => by cases hv⟩
      cases hv
      obtain ⟨n1, s1, q1, q2, q3, q4⟩ := (h1 α w stop K bk hs (by omega) (n + (b - m)) t s (by omega)).1 1 hD
      have g3 := hs.2.2.2.2.1 (n1 - 1) t m s1 b (by omega) h (by omega) hb4
      rw [q2, if_pos rfl, show n1 - 1 + 1 = n1 by omega] at g3
      exact ⟨n1 - 1, s1, by omega, q2, q3, by rw [show n + (b - a) = n + (b - m) + (m - a) by omega, q4, g3]⟩
theorem DenM.andd {lw : Bool} {cd : Nat → Nat × Nat} {a m b d1 d2 : Nat} {D E : Dn} (h1 : DenM lw cd a m d1 D) (hB : Bv D) (h : cd m = (29, b)) (h2 : DenM lw cd (m + 1) b d2 E) (hb4 : b ≤ 400) (hd : 1 ≤ d1) : DenM lw cd a b (d1 + d2) (dAnd D E) := by
  obtain ⟨l1, h1⟩ := h1
  obtain ⟨l2, h2⟩ := h2
  refine ⟨by omega, fun α w stop K bk hs hb n t s ht => ?_⟩
  unfold dAnd
  cases hD : D w with
  | none =>
    refine ⟨fun v hv => (by cases hv), fun _ => ?_⟩
    have := (h1 α w stop K bk hs (by omega) (n + (b - m)) t s (by omega)).2 hD
    rw [show n + 1 + (b - a) = n + (b - m) + 1 + (m - a) by omega]
    exact this
  | some u =>
    show (∀ v, (if u = 0 then some u else E w) = some v → _) ∧ ((if u = 0 then some u else E w) = none → _)
    rcases hB w u hD with hu | hu
    · subst hu
      rw [if_pos rfl]
      refine ⟨fun v hv => ?_, fun hv => by cases hv⟩
      cases hv
      obtain ⟨n1, s1, q1, q2, q3, q4⟩ := (h1 α w stop K bk hs (by omega) (n + (b - m)) t s (by omega)).1 0 hD
      have g3 := hs.2.2.2.2.2 (n1 - 1) t m s1 b (by omega) h (by omega) hb4
      rw [q2, if_pos rfl, show n1 - 1 + 1 = n1 by omega] at g3
      exact ⟨n1 - 1, s1, by omega, q2, q3, by rw [show n + (b - a) = n + (b - m) + (m - a) by omega, q4, g3]⟩
    · subst hu
      rw [if_neg (by decide)]
      constructor
      · intro v hv
        obtain ⟨n1, s1, q1, q2, q3, q4⟩ := (h1 α w stop K bk hs (by omega) (n + (b - m)) t s (by omega)).1 1 hD
        have g3 := hs.2.2.2.2.2 (n1 - 1) t m s1 b (by omega) h (by omega) hb4
        rw [q2, if_neg (by decide), show n1 - 1 + 1 = n1 by omega] at g3
        obtain ⟨n2, s2, r1, r2, r3, r4⟩ := (h2 α w stop K bk hs (by omega) (n1 - 1 - (b - (m + 1))) t s1 (by omega)).1 v hv
        rw [show n1 - 1 - (b - (m + 1)) + (b - (m + 1)) = n1 - 1 by omega] at r4
        exact ⟨n2, s2, by omega, r2, fun i hi => by rw [r3 i hi, q3 i hi], by rw [show n + (b - a) = n + (b - m) + (m - a) by omega, q4, g3, r4]⟩
      · intro hv
        obtain ⟨n1, s1, q1, q2, q3, q4⟩ := (h1 α w stop K bk hs (by omega) (n + 1 + (b - m)) t s (by omega)).1 1 hD
        have g3 := hs.2.2.2.2.2 (n1 - 1) t m s1 b (by omega) h (by omega) hb4
        rw [q2, if_neg (by decide), show n1 - 1 + 1 = n1 by omega] at g3
        have r4 := (h2 α w stop K bk hs (by omega) (n1 - 2 - (b - (m + 1))) t s1 (by omega)).2 hv
        rw [show n1 - 2 - (b - (m + 1)) + 1 + (b - (m + 1)) = n1 - 1 by omega] at r4
        rw [show n + 1 + (b - a) = n + 1 + (b - m) + (m - a) by omega, q4, g3]
        exact r4
