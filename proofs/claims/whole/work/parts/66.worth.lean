/-! T2, what a clause of a law is worth: the class -/
/-- a list of code as a table -/
def cdOf (C : Cd) (q : Nat) : Nat × Nat := (C[q]?).getD (0, 0)
theorem cdOf_has (C : Cd) : has (cdOf C) 0 C := by
  intro i x hx
  unfold cdOf
  rw [Nat.zero_add, hx]
  rfl
theorem cdOf_at {C : Cd} {q : Nat} (h : q < C.length) : C[q]? = some (cdOf C q) := by
  unfold cdOf
  rw [List.getElem?_eq_getElem h]
  rfl
def enc (x : Option Int64) : Int32 := match x with
  | none => -2147483648
  | some v => v.toInt32
/-- a law's code, as the class has it -/
def Pk (P : FP) (Cc : Cd) (k : Nat) : Prop := k ≤ 12 ∧ P.2.2.1 5 = Int32.ofNat k ∧ P.2.1 0 = k ∧ P.2.1 2 = 4 * k ∧ P.2.1 3 = Cc.length ∧ P.2.2.1 4 = Int32.ofNat Cc.length ∧ Cc.length ≤ 400 ∧ ∀ i x, Cc[i]? = some x → P.2.2.2.2.1 3 i = cell x ∧ x.1 < 16 ∧ x.2 < 100000
theorem c_worthL {P : FP} {Cc : Cd} {k i sec a b : Nat} {fz : List FP} {st : St} {s : Nat → Int64} {w : Nat → Int64} (hP : Pk P Cc k) (hi : i < k) (hs : sec ≤ 2) (ha : P.2.2.2.2.1 2 (4 * i + sec) = Int32.ofNat a) (hb : P.2.2.2.2.1 2 (4 * i + sec + 1) = Int32.ofNat b) (hab : a ≤ b) (hbl : b ≤ Cc.length) (hw : ∀ k, k < 10 → w k = (st.2.2.1 801 k).toInt64) {D : Dn} (hD : (a = b ∧ ∀ w, D w = some 1) ∨ (a < b ∧ DenC (cdOf Cc) 10 a b 50 D)) : ∃ s', fX8_worth__law_801_803 P (Int32.ofNat i) (Int32.ofNat sec) fz (sB st 803 s) = some (enc (D w), sB st 803 s') := by
  obtain ⟨p1, p2, p3, p4, p5, p6, p7, p8⟩ := hP
  have e4 : Int32.ofNat i * 4 + Int32.ofNat sec = Int32.ofNat (4 * i + sec) := by
    rw [show (4 : Int32) = Int32.ofNat 4 from rfl, oN_mul, oN_add]; congr 1; omega
  have hmin : (if Int32.ofNat Cc.length < Int32.ofNat b then Int32.ofNat Cc.length else Int32.ofNat b) = Int32.ofNat b := if_ltF hbl (by omega)
  have main : fX8_worth__law_801_803 P (Int32.ofNat i) (Int32.ofNat sec) fz (sB st 803 s) = lp (fun _ _ _ _ _ => none) (fX8_worth__law_801_803_b74 P fz) 6000 (Int32.ofNat b) 0 0 (Int32.ofNat a) (sB st 803 s) := by
    unfold fX8_worth__law_801_803
    rw [lt_v, if_neg (oN_neg (by omega)), p2, if_leF (by omega) (by omega), if_neg (oN_neg (by omega)), show (2 : Int32) = Int32.ofNat 2 from rfl, if_ltF (by omega) (by omega), e4, gi_N (by omega) (by omega), oN_tn (by omega), ha, if_pos (oN_nn (by omega)), oN_s, gi_N (by omega) (by omega), oN_tn (by omega), p6, hb, hmin, lt_v, gi_N (by omega) (by omega), lt_v]
  rw [main]
  rcases hD with ⟨e, hD⟩ | ⟨hlt, hD⟩
  · subst e
    refine ⟨s, ?_⟩
    have := KL_end (P := P) (fz := fz) (st := st) (stop := a) (n := 5999) (t := 0) (go := 0) (s := s) (by omega) (by omega)
    rw [hD w]
    exact this
  · have hstep := KL_step (P := P) (fz := fz) (st := st) (stop := b) (cd := cdOf Cc) (w := w) (by omega) (fun q hq => p8 q _ (cdOf_at (by omega))) (by omega) (by omega) hw
    have hrun := hD.2 _ w b _ _ hstep (Nat.le_refl _) (5999 - (b - a) + 1) 0 0 s (Nat.zero_le _) (by decide)
    rw [show 5999 - (b - a) + 1 + (b - a) = 6000 by omega] at hrun
    cases hv : D w with
    | none =>
      obtain ⟨s', hs'⟩ := hrun.2 hv
      exact ⟨s', hs'⟩
    | some v =>
      obtain ⟨go', s', h1, h2, h3, h4⟩ := hrun.1 v hv
      refine ⟨s', ?_⟩
      have hend := KL_end (P := P) (fz := fz) (st := st) (stop := b) (n := 5999 - (b - a)) (t := 1) (go := go') (s := s') (by omega) (by omega)
      rw [if_neg (by decide), show (1 : Nat) - 1 = 0 from rfl, h2] at hend
      exact h4.trans hend
/-- what one clause tells, if it is of the kind and holds -/
def tellV (h hd : Nat) (D1 D2 : Dn) (w : Nat → Int64) : Option Int64 := if hd = h ∧ D2 w = some 1 then (if h = 3 then some 1 else D1 w) else none
def lastV (H : Nat → Option Int64) (d : Int64) : Nat → Int64
  | 0 => d
  | k + 1 => (H k).getD (lastV H d k)
def clmp (lo hi v : Int32) : Int32 := if lo < (if v < hi then v else hi) then (if v < hi then v else hi) else lo
def mo {α : Type} (x : Option Int64) (n : α) (f : Int64 → α) : α := match x with
  | none => n
  | some v => f v
theorem mo_n {α : Type} (n : α) (f : Int64 → α) : mo none n f = n := rfl
theorem mo_s {α : Type} (v : Int64) (n : α) (f : Int64 → α) : mo (some v) n f = f v := rfl
theorem c_told_l {P : FP} {Cc : Cd} {k hd : Nat} {fz : List FP} {st : St} {a1 a2 a3 : Int32} {H : Nat → Option Int64} (hP : Pk P Cc k) (hcl : ∀ i, i < k → ∀ s, ∃ s', (∀ kk : Int32 → Int32 → Int32 → Int32 → FP → Int32 → St → Option (Int32 × St), fX5_told_b25 fz kk (Int32.ofNat (300 + hd)) a1 a2 a3 P (Int32.ofNat i) (sB st 803 s) = mo (H i) (kk (Int32.ofNat (300 + hd)) a1 a2 a3 P (Int32.ofNat i + -1) (sB st 803 s')) (fun v => some (clmp a2 a3 v.toInt32, sB st 803 s')))) :
    ∀ (i n : Nat) (s : Nat → Int64), i ≤ k → ∃ s', lp (fun _ _ _ _ _ _ _ => none) (fX5_told_b25 fz) (n + 1 + i) (Int32.ofNat (300 + hd)) a1 a2 a3 P (Int32.ofNat i - 1) (sB st 803 s) = some (if ∀ q, q < i → H q = none then a1 else clmp a2 a3 (lastV H 0 i).toInt32, sB st 803 s') := by
  intro i
  induction i with
  | zero =>
    intro n s _
    refine ⟨s, ?_⟩
    rw [if_pos (fun q hq => absurd hq (Nat.not_lt_zero q)), Nat.add_zero, lp_s]
    generalize lp (fun _ _ _ _ _ _ _ => none) (fX5_told_b25 fz) n = kk
    unfold fX5_told_b25
    rw [if_pos (by decide)]
  | succ i ih =>
    intro n s hi
    have e1 : Int32.ofNat (i + 1) - 1 = Int32.ofNat i := by rw [show (1 : Int32) = Int32.ofNat 1 from rfl, oN_sub (by omega)]; rfl
    obtain ⟨s1, h1⟩ := hcl i (by omega) s
    rw [← Nat.add_assoc, lp_s, e1, h1]
    cases hv : H i with
    | some v =>
      refine ⟨s1, ?_⟩
      rw [mo_s, if_neg (fun q => by have := q i (by omega); rw [hv] at this; cases this)]
      show some (clmp a2 a3 v.toInt32, _) = some (clmp a2 a3 ((H i).getD _).toInt32, _)
      rw [hv]
      rfl
    | none =>
      obtain ⟨s2, h2⟩ := ih n s1 (by omega)
      refine ⟨s2, ?_⟩
      have e2 : Int32.ofNat i + -1 = Int32.ofNat i - 1 := by rw [Int32.sub_eq_add_neg]
      rw [mo_n, e2, h2]
      have e3 : lastV H 0 (i + 1) = lastV H 0 i := by show (H i).getD _ = _; rw [hv]; rfl
      rw [e3]
      have e5 : (if ∀ q, q < i → H q = none then a1 else clmp a2 a3 (lastV H 0 i).toInt32) = (if ∀ q, q < i + 1 → H q = none then a1 else clmp a2 a3 (lastV H 0 i).toInt32) := by
        by_cases hall : ∀ q, q < i → H q = none
        · rw [if_pos hall, if_pos (fun q hq => by
            rcases Nat.lt_or_ge q i with h3 | h3
            · exact hall q h3
            · rw [show q = i by omega]; exact hv)]
        · rw [if_neg hall, if_neg (fun q => hall (fun r hr => q r (by omega)))]
      rw [e5]
