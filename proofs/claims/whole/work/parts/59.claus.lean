/-! T2, one clause of a law: the grammar, the reference, the class -/
theorem sA_sA (st : St) (k : Nat) (f g : Nat → Int32) : sA (sA st k f) k g = sA st k g := by
  unfold sA
  congr 3
  funext j
  simp only [vup_v]
  split <;> rfl
abbrev Lr : Type := Nat × Re × Bool × Re
def sIf (lw : Bool) (K V : Nat → Nat) (bm bc : Nat) (r : Re) : Except Nat (Bool × Re) :=
  if K r.1 = 312 then (sT lw K V 10 0 (bm + r.2.2.1.length) (bc + r.2.2.2.1.length) (r.1 + 1) r.2.1).bind fun t => .ok (true, t) else .ok (false, (r.1, r.2.1, [], [], fun _ => some 1))
def sLawC (K V : Nat → Nat) (k bm bc j n : Nat) : Except Nat Lr :=
  if ¬ (300 ≤ K j ∧ K j ≤ 303) ∨ 12 ≤ k then .error j
  else ((if K j = 303 then .ok (j + 1, n, [], [], fun _ => some 1) else sS true K V 10 0 bm bc (j + 1) n : Ps).bind fun r => (sIf true K V bm bc r).bind fun t => .ok (K j - 300, r, t.1, t.2))
/-! the reference -/
def LF : St → St → Prop := fr [14, 15, 16, 18, 19, 21, 23, 26, 29, 30] [17] [22, 24, 25, 27, 28]
theorem LF.rf {st : St} : LF st st := fr.rf
theorem LF.tr {a b c : St} (h : LF a b) (k : LF b c) : LF a c := fr.tr h k
theorem PF.lf {a b : St} (h : PF a b) : LF a b := fr.up h (by decide) (by decide) (by decide)
section LawM
variable {lw : Bool} {B : Nat → Nat} {L j n o : Nat} {P C : Cd} {st : St}
theorem Mp.keep (h : Mp lw B L j n P C o st) {st' : St} {I A : List Nat} (f : fr I [] A st st') (hI : 13 ∉ I ∧ 14 ∉ I ∧ 15 ∉ I ∧ 16 ∉ I ∧ 20 ∉ I ∧ 19 ∉ I ∧ 26 ∉ I ∧ 30 ∉ I ∧ 29 ∉ I ∧ 23 ∉ I ∧ 18 ∉ I) (hA : 12 ∉ A ∧ 24 ∉ A ∧ 25 ∉ A ∧ 27 ∉ A ∧ 28 ∉ A) : Mp lw B L j n P C o st' := by
  obtain ⟨i1, i2, i3, i4, i5, i6, i7, i8, i9, i10, i18⟩ := hI
  obtain ⟨x1, x2, x3, x4, x5⟩ := hA
  exact h.code f ⟨i1, i2, i3, i4, i5, i6, i7, i8, i18⟩ x1 (h.q.fr f ⟨i9, i10⟩ ⟨x2, x3, x4, x5⟩)
theorem m_headAt (h : Mp lw B L j n P C o st) : lp (fun _ _ _ => none) fX12_readLaw_b4 6000 (-1 : Int32) (0 : Int32) st = (if 300 ≤ tK B L j ∧ tK B L j ≤ 303 then (if 12 ≤ (st.1 21) then fX12_readLaw_b53 (Int32.ofNat (tK B L j - 300)) st else fX12_readLaw_b54 (Int32.ofNat (tK B L j - 300)) 1 st) else fX12_readLaw_b53 (-1) st) := by
  have hloop : ∀ (k m : Nat), k ≤ 4 → lp (fun _ _ _ => none) fX12_readLaw_b4 (m + k) (if 300 ≤ tK B L j ∧ tK B L j < 304 - k then Int32.ofNat (tK B L j - 300) else -1) (Int32.ofNat (4 - k)) st = lp (fun _ _ _ => none) fX12_readLaw_b4 m (if 300 ≤ tK B L j ∧ tK B L j < 304 then Int32.ofNat (tK B L j - 300) else -1) (Int32.ofNat 4) st := by
    intro k
    induction k with
    | zero => intro m _; rfl
    | succ k ih =>
      intro m hk
      rw [← ih m (by omega), ← Nat.add_assoc, lp_s]
      generalize lp (fun _ _ _ => none) fX12_readLaw_b4 (m + k) = kk
      conv => lhs; unfold fX12_readLaw_b4
      rw [oN_lit, if_leF (by omega) (by omega), gi_N (by omega) (by omega), oN_tn (by omega), h.2.2.1.2.2.1 _ (by omega), h.isWord (i := 4 - (k + 1)) (by omega) rfl, bd_v]
      unfold fX12_readLaw_b27
      have e10 : 4 - (k + 1) + 1 = 4 - k := by omega
      by_cases hc : tK B L j = 300 + (4 - (k + 1))
      · rw [if_pos hc]
        rw [if_neg (show ¬ ((1 : Int32) = 0) by decide), lt_v, oN_s, e10]
        rw [if_pos (show 300 ≤ tK B L j ∧ tK B L j < 304 - k by omega), show tK B L j - 300 = 4 - (k + 1) by omega]
      · rw [if_neg hc, if_pos rfl, lt_v, oN_s, e10]
        by_cases hd : 300 ≤ tK B L j ∧ tK B L j < 304 - (k + 1)
        · rw [if_pos hd, if_pos (show 300 ≤ tK B L j ∧ tK B L j < 304 - k by omega)]
        · rw [if_neg hd, if_neg (show ¬ (300 ≤ tK B L j ∧ tK B L j < 304 - k) by omega)]
  have := hloop 4 5996 (Nat.le_refl _)
  rw [if_neg (show ¬ (300 ≤ tK B L j ∧ tK B L j < 304 - 4) by omega)] at this
  refine this.trans ?_
  rw [show (5996 : Nat) = 5995 + 1 from rfl, lp_s]
  generalize lp (fun _ _ _ => none) fX12_readLaw_b4 5995 = kk
  unfold fX12_readLaw_b4
  rw [show (4 : Int32) = Int32.ofNat 4 from rfl, if_leT (Nat.le_refl _) (by omega)]
  by_cases hd : 300 ≤ tK B L j ∧ tK B L j < 304
  · rw [if_pos hd, if_pos (show 300 ≤ tK B L j ∧ tK B L j ≤ 303 by omega), if_neg (oN_ne1 (by omega))]
  · rw [if_neg hd, if_neg (show ¬ (300 ≤ tK B L j ∧ tK B L j ≤ 303) by omega), if_pos rfl]
/-- eight numbers of a clause are cleared -/
theorem m_clear {v1 : Int32} {k : Nat} (hk : k < 12) : ∀ (f i m : Nat) (st : St), i + f = 8 → ∃ g, lp (fun _ _ _ _ => none) fX12_readLaw_b75 (m + f) v1 (Int32.ofNat (8 * k)) (Int32.ofNat i) st = lp (fun _ _ _ _ => none) fX12_readLaw_b75 m v1 (Int32.ofNat (8 * k)) (Int32.ofNat 8) (sA st 22 g) ∧ ∀ q, q < 8 * k → g q = st.2.2.1 22 q := by
  intro f
  induction f with
  | zero =>
    intro i m st hi
    refine ⟨st.2.2.1 22, ?_, fun _ _ => rfl⟩
    have e : sA st 22 (st.2.2.1 22) = st := by
      unfold sA
      have : va_up st.2.2.1 22 (st.2.2.1 22) = st.2.2.1 := by
        funext q
        rw [vup_v]
        split
        · rename_i h; rw [h]
        · rfl
      rw [this]
    rw [e, show i = 8 by omega]
    rfl
  | succ f ih =>
    intro i m st hi
    obtain ⟨g, g1, g2⟩ := ih (i + 1) m (sA st 22 (upd (st.2.2.1 22) (8 * k + i) 0)) (by omega)
    refine ⟨g, ?_, fun q hq => ?_⟩
    · rw [sA_sA] at g1
      rw [← g1, ← Nat.add_assoc, lp_s]
      generalize lp (fun _ _ _ _ => none) fX12_readLaw_b75 (m + f) = kk
      conv => lhs; unfold fX12_readLaw_b75
      rw [show (8 : Int32) = Int32.ofNat 8 from rfl, if_leF (by omega) (by omega), oN_add, gi_N (by omega) (by omega), oN_tn (by omega), lt_v, lt_v, oN_s]
    · rw [g2 q hq]
      show upd (st.2.2.1 22) (8 * k + i) 0 q = _
      rw [upd_v, if_neg (by omega)]
end LawM
/-- what a clause leaves in the reference's table -/
def lawT (bm k h a b : Nat) (st : St) : Prop := st.2.2.1 22 (8 * k) = Int32.ofNat h ∧ st.2.2.1 22 (8 * k + 3) = Int32.ofNat bm ∧ st.2.2.1 22 (8 * k + 4) = Int32.ofNat (bm + a) ∧ st.2.2.1 22 (8 * k + 5) = Int32.ofNat (bm + a) ∧ st.2.2.1 22 (8 * k + 6) = Int32.ofNat (bm + a + b)
theorem m_readLaw {B : Nat → Nat} {L j n o k bc : Nat} {P C : Cd} {st : St} (h : Mp true B L j n P C o st) (h21 : st.1 21 = Int32.ofNat k) (hk : k ≤ 12) :
    (∀ x, sLawC (tK B L) (tV B L) k C.length bc j n = .ok x → ∃ st' P' o', fX12_readLaw st = some ((), st') ∧ Mp true B L x.2.2.2.1 x.2.2.2.2.1 P' (C ++ x.2.1.2.2.1 ++ x.2.2.2.2.2.1) o' st' ∧ st'.1 21 = Int32.ofNat (k + 1) ∧ lawT C.length k x.1 x.2.1.2.2.1.length x.2.2.2.2.2.1.length st' ∧ (∀ q, q < 8 * k → st'.2.2.1 22 q = st.2.2.1 22 q) ∧ LF st st') ∧
    (∀ e, sLawC (tK B L) (tV B L) k C.length bc j n = .error e → ∃ st', fX12_readLaw st = some ((), st') ∧ st'.1 19 = 1 ∧ st'.1 18 = Int32.ofNat (tP B L e) ∧ LF st st') := by
  have hu : fX12_readLaw st = lp (fun _ _ _ => none) fX12_readLaw_b4 6000 (-1 : Int32) (0 : Int32) st := rfl
  rw [hu, m_headAt h]
  unfold sLawC
  -- the fault at the head
  have hbad : ∀ v, ∃ st', fX12_readLaw_b53 v st = some ((), st') ∧ st'.1 19 = 1 ∧ st'.1 18 = Int32.ofNat (tP B L j) ∧ LF st st' := by
    intro v
    obtain ⟨st1, g1, g2, g3, g4⟩ := h.must0
    refine ⟨st1, ?_, g2.1, g2.2.1, g3.up (by decide) (by decide) (by decide)⟩
    unfold fX12_readLaw_b53 fX12_readLaw_b54
    rw [g1, bd_v, g2.1, if_neg (by decide)]
  by_cases hh : ¬ (300 ≤ tK B L j ∧ tK B L j ≤ 303)
  · rw [if_neg hh, if_pos (Or.inl hh)]
    refine ⟨fun x hx => (by cases hx), fun e he => ?_⟩
    cases he
    exact hbad _
  replace hh := Decidable.not_not.mp hh
  rw [if_pos hh, h21, show (12 : Int32) = Int32.ofNat 12 from rfl]
  by_cases hk12 : 12 ≤ k
  · rw [if_leT hk12 (by omega), if_pos (Or.inr hk12)]
    refine ⟨fun x hx => (by cases hx), fun e he => ?_⟩
    cases he
    exact hbad _
  rw [if_leF (by omega) (by omega), if_neg (by omega)]
  obtain ⟨st1, g1, g2, g3⟩ := h.must1 (by omega)
  have e21 : st1.1 21 = Int32.ofNat k := by rw [g3.1 21 (by decide)]; exact h21
  obtain ⟨g, c1, c2⟩ := m_clear (v1 := Int32.ofNat (tK B L j - 300)) (k := k) (by omega) 8 0 5992 st1 (by omega)
  -- up to the clause's start
  have hst : fX12_readLaw_b54 (Int32.ofNat (tK B L j - 300)) 1 st = lp (fun _ _ _ _ => none) fX12_readLaw_b75 5992 (Int32.ofNat (tK B L j - 300)) (Int32.ofNat (8 * k)) (Int32.ofNat 8) (sA st1 22 g) := by
    unfold fX12_readLaw_b54
    rw [g1, bd_v, g2.2.2.2.2.1, if_pos rfl, lt_v, e21, show (8 : Int32) = Int32.ofNat 8 from rfl, oN_mul]
    exact c1
  rw [hst, show (5992 : Nat) = 5991 + 1 from rfl, lp_s]
  generalize lp (fun _ _ _ _ => none) fX12_readLaw_b75 5991 = kk
  unfold fX12_readLaw_b75
  rw [show (8 : Int32) = Int32.ofNat 8 from rfl, if_leT (Nat.le_refl _) (by omega), gi_N (by omega) (by omega), oN_tn (by omega), lt_v, lt_v]
  have q21 : ∀ f, (sA (sA st1 22 g) 22 f).1 21 = Int32.ofNat k := fun _ => e21
  rw [q21, oN_s, show (3 : Int32) = Int32.ofNat 3 from rfl, oN_add, gi_N (by omega) (by omega), oN_tn (by omega), lt_v]
  have q23 : ∀ f, (sI (sA (sA st1 22 g) 22 f) 21 (Int32.ofNat (k + 1))).1 23 = Int32.ofNat C.length := fun _ => g2.q.2.2.1
  rw [q23]
  -- the state ahead of the sum
  generalize hs2 : sA (sI (sA (sA st1 22 g) 22 (upd ((sA st1 22 g).2.2.1 22) (8 * k) (Int32.ofNat (tK B L j - 300)))) 21 (Int32.ofNat (k + 1))) 22 (upd ((sI (sA (sA st1 22 g) 22 (upd ((sA st1 22 g).2.2.1 22) (8 * k) (Int32.ofNat (tK B L j - 300)))) 21 (Int32.ofNat (k + 1))).2.2.1 22) (8 * k + 3) (Int32.ofNat C.length)) = st2
  have hf2 : fr [21] [] [22] st1 st2 := by
    rw [← hs2]
    exact (((fr.sA (k := 22) (by decide)).tr (fr.sA (k := 22) (by decide))).tr (fr.sI (k := 21) (by decide))).tr (fr.sA (k := 22) (by decide))
  have hM2 : Mp true B L (j + 1) n P C o st2 := g2.keep hf2 (by decide) (by decide)
  have t21 : st2.1 21 = Int32.ofNat (k + 1) := by rw [← hs2]; rfl
  have t0 : st2.2.2.1 22 (8 * k) = Int32.ofNat (tK B L j - 300) := by
    rw [← hs2]
    show upd (upd g (8 * k) _) (8 * k + 3) _ (8 * k) = _
    rw [upd_v, if_neg (by omega), upd_v, if_pos rfl]
  have t3 : st2.2.2.1 22 (8 * k + 3) = Int32.ofNat C.length := by
    rw [← hs2]
    show upd (upd g (8 * k) _) (8 * k + 3) _ (8 * k + 3) = _
    rw [upd_v, if_pos rfl]
  have told : ∀ q, q < 8 * k → st2.2.2.1 22 q = st.2.2.1 22 q := by
    intro q hq
    rw [← hs2]
    show upd (upd g (8 * k) _) (8 * k + 3) _ q = _
    rw [upd_v, if_neg (by omega), upd_v, if_neg (by omega), c2 q hq, g3.2.2.1 22 (by decide)]
  have hF2 : LF st st2 := (g3.up (by decide) (by decide) (by decide)).tr (hf2.up (by decide) (by decide) (by decide))
  clear hs2 hst c1 c2
  -- behind the sum
  have rest : ∀ (r : Re) (st3 : St), (∃ P o, Mp true B L r.1 r.2.1 P (C ++ r.2.2.1) o st3) → 1 ≤ r.1 → LF st2 st3 → st3.1 21 = st2.1 21 → st3.2.2.1 22 = st2.2.2.1 22 →
      (∀ t, sIf true (tK B L) (tV B L) C.length bc r = .ok t → ∃ st' P' o', fX12_readLaw_b135 (Int32.ofNat (8 * k)) st3 = some ((), st') ∧ Mp true B L t.2.1 t.2.2.1 P' (C ++ r.2.2.1 ++ t.2.2.2.1) o' st' ∧ st'.1 21 = Int32.ofNat (k + 1) ∧ lawT C.length k (tK B L j - 300) r.2.2.1.length t.2.2.2.1.length st' ∧ (∀ q, q < 8 * k → st'.2.2.1 22 q = st.2.2.1 22 q) ∧ LF st st') ∧
      (∀ e, sIf true (tK B L) (tV B L) C.length bc r = .error e → ∃ st', fX12_readLaw_b135 (Int32.ofNat (8 * k)) st3 = some ((), st') ∧ st'.1 19 = 1 ∧ st'.1 18 = Int32.ofNat (tP B L e) ∧ LF st st') := by
    intro r st3 hM hr1 hL3 h21' h22'
    obtain ⟨P3, o3, hM3⟩ := hM
    have h23 : st3.1 23 = Int32.ofNat (C.length + r.2.2.1.length) := by rw [hM3.q.2.2.1, List.length_append]
    have hcap : C.length + r.2.2.1.length ≤ 400 := by have := hM3.q.2.2.2.2.1; have := hM3.j4; rw [List.length_append] at *; omega
    unfold fX12_readLaw_b135
    rw [show (4 : Int32) = Int32.ofNat 4 from rfl, show (5 : Int32) = Int32.ofNat 5 from rfl, oN_add, oN_add, gi_N (by omega) (by omega), oN_tn (by omega), lt_v, gi_N (by omega) (by omega), oN_tn (by omega), lt_v]
    have q23 : ∀ f, (sA st3 22 f).1 23 = Int32.ofNat (C.length + r.2.2.1.length) := fun _ => h23
    rw [h23, q23]
    generalize hs4 : sA (sA st3 22 (upd (st3.2.2.1 22) (8 * k + 4) (Int32.ofNat (C.length + r.2.2.1.length)))) 22 (upd ((sA st3 22 (upd (st3.2.2.1 22) (8 * k + 4) (Int32.ofNat (C.length + r.2.2.1.length)))).2.2.1 22) (8 * k + 5) (Int32.ofNat (C.length + r.2.2.1.length))) = st4
    have hf4 : fr [] [] [22] st3 st4 := by rw [← hs4]; exact (fr.sA (k := 22) (by decide)).tr (fr.sA (k := 22) (by decide))
    have hM4 : Mp true B L r.1 r.2.1 P3 (C ++ r.2.2.1) o3 st4 := hM3.keep hf4 (by decide) (by decide)
    have hF4 : LF st st4 := (hF2.tr hL3).tr (hf4.up (by decide) (by decide) (by decide))
    have e22 : st4.2.2.1 22 = upd (upd (st2.2.2.1 22) (8 * k + 4) (Int32.ofNat (C.length + r.2.2.1.length))) (8 * k + 5) (Int32.ofNat (C.length + r.2.2.1.length)) := by rw [← hs4, ← h22']; rfl
    have e21 : st4.1 21 = Int32.ofNat (k + 1) := by rw [hf4.1 21 (by decide), h21', t21]
    clear hs4
    -- the end of the clause
    have fin : ∀ (st5 : St) (bl : Nat), st5.1 23 = Int32.ofNat (C.length + r.2.2.1.length + bl) → st5.1 21 = Int32.ofNat (k + 1) → st5.2.2.1 22 = st4.2.2.1 22 → LF st st5 → ∃ st', fX12_readLaw_b185 (Int32.ofNat (8 * k)) st5 = some ((), st') ∧ fr [] [] [22] st5 st' ∧ st'.1 21 = Int32.ofNat (k + 1) ∧ lawT C.length k (tK B L j - 300) r.2.2.1.length bl st' ∧ (∀ q, q < 8 * k → st'.2.2.1 22 q = st.2.2.1 22 q) ∧ LF st st' := by
      intro st5 bl f1 f2 f3 f4
      have hf6 : fr [] [] [22] st5 (sA st5 22 (upd (st5.2.2.1 22) (8 * k + 6) (Int32.ofNat (C.length + r.2.2.1.length + bl)))) := fr.sA (by decide)
      refine ⟨_, ?_, hf6, f2, ⟨?_, ?_, ?_, ?_, ?_⟩, fun q hq => ?_, f4.tr (hf6.up (by decide) (by decide) (by decide))⟩
      · unfold fX12_readLaw_b185
        rw [show (6 : Int32) = Int32.ofNat 6 from rfl, oN_add, gi_N (by omega) (by omega), oN_tn (by omega), lt_v, f1]
      · show upd (st5.2.2.1 22) (8 * k + 6) _ (8 * k) = _
        rw [upd_v, if_neg (by omega), f3, e22, upd_v, if_neg (by omega), upd_v, if_neg (by omega), t0]
      · show upd (st5.2.2.1 22) (8 * k + 6) _ (8 * k + 3) = _
        rw [upd_v, if_neg (by omega), f3, e22, upd_v, if_neg (by omega), upd_v, if_neg (by omega), t3]
      · show upd (st5.2.2.1 22) (8 * k + 6) _ (8 * k + 4) = _
        rw [upd_v, if_neg (by omega), f3, e22, upd_v, if_neg (by omega), upd_v, if_pos rfl]
      · show upd (st5.2.2.1 22) (8 * k + 6) _ (8 * k + 5) = _
        rw [upd_v, if_neg (by omega), f3, e22, upd_v, if_pos rfl]
      · show upd (st5.2.2.1 22) (8 * k + 6) _ (8 * k + 6) = _
        rw [upd_v, if_pos rfl]
      · show upd (st5.2.2.1 22) (8 * k + 6) _ q = _
        rw [upd_v, if_neg (by omega), f3, e22, upd_v, if_neg (by omega), upd_v, if_neg (by omega), told q hq]
    have hw := hM4.isWord (i := 12) (a := 294) (by decide) (by decide +kernel)
    rw [hM4.2.2.2.2.1, if_pos rfl, hw, bd_v]
    unfold sIf
    by_cases hif : tK B L r.1 = 312
    · rw [if_pos hif, if_pos (show tK B L r.1 = 300 + 12 from hif), if_neg (show ¬ ((1 : Int32) = 0) by decide)]
      obtain ⟨st5, n1, n2, n3⟩ := hM4.next (by omega)
      rw [n1, bd_v]
      have hN3 : LF st st5 := hF4.tr (n3.up (by decide) (by decide) (by decide))
      obtain ⟨p1, p2⟩ := m_readTest (bc := bc + r.2.2.2.1.length) n2 (by omega)
      rw [List.length_append] at p1 p2
      constructor
      · intro t ht
        obtain ⟨a, ha1, ha2⟩ := exb_ok ht
        cases ha2
        obtain ⟨st6, q1, q2, q3⟩ := p1 a ha1
        rw [q1, bd_v]
        obtain ⟨st7, s1, s2, s3, s4, s5, s6⟩ := fin st6 a.2.2.1.length (by rw [q2.q.2.2.1, List.length_append, List.length_append]) (by rw [q3.1 21 (by decide), n3.1 21 (by decide)]; exact e21) (by rw [q3.2.2.1 22 (by decide), n3.2.2.1 22 (by decide)]) (hN3.tr q3.lf)
        exact ⟨st7, _, _, s1, q2.keep s2 (by decide) (by decide), s3, s4, s5, s6⟩
      · intro e he
        rcases exb_err he with he | ⟨a, ha1, ha2⟩
        · obtain ⟨st6, q1, q2, q3, q4⟩ := p2 e he
          rw [q1, bd_v]
          have hf6 : ∀ f, fr [] [] [22] st6 (sA st6 22 f) := fun f => fr.sA (by decide)
          refine ⟨_, ?_, ?_, ?_, (hN3.tr q4.lf).tr ((hf6 (upd (st6.2.2.1 22) (8 * k + 6) (st6.1 23))).up (by decide) (by decide) (by decide))⟩
          · unfold fX12_readLaw_b185
            rw [show (6 : Int32) = Int32.ofNat 6 from rfl, oN_add, gi_N (by omega) (by omega), oN_tn (by omega), lt_v]
          · exact q2
          · exact q3
        · cases ha2
    · rw [if_neg hif, if_neg (show ¬ (tK B L r.1 = 300 + 12) from hif), if_pos rfl]
      refine ⟨fun t ht => ?_, fun e he => (by cases he)⟩
      cases ht
      obtain ⟨st7, s1, s2, s3, s4, s5, s6⟩ := fin st4 0 (by rw [hM4.q.2.2.1, List.length_append]; rfl) e21 rfl hF4
      exact ⟨st7, P3, o3, s1, by rw [List.append_nil]; exact hM4.keep s2 (by decide) (by decide), s3, s4, s5, s6⟩
  have hbad2 : ∀ (st3 : St), st3.1 19 = 1 → ∃ st', fX12_readLaw_b135 (Int32.ofNat (8 * k)) st3 = some ((), st') ∧ fr [] [] [22] st3 st' := by
    intro st3 h19
    unfold fX12_readLaw_b135
    rw [show (4 : Int32) = Int32.ofNat 4 from rfl, show (5 : Int32) = Int32.ofNat 5 from rfl, oN_add, oN_add, gi_N (by omega) (by omega), lt_v, gi_N (by omega) (by omega), lt_v]
    have q19 : ∀ f g, (sA (sA st3 22 f) 22 g).1 19 = 1 := fun _ _ => h19
    rw [q19, if_neg (by decide)]
    unfold fX12_readLaw_b185
    rw [show (6 : Int32) = Int32.ofNat 6 from rfl, oN_add, gi_N (by omega) (by omega), lt_v]
    exact ⟨_, rfl, ((fr.sA (k := 22) (by decide)).tr (fr.sA (k := 22) (by decide))).tr (fr.sA (k := 22) (by decide))⟩
  have e303 : (Int32.ofNat (tK B L j - 300) = Int32.ofNat 3) ↔ tK B L j = 303 := by rw [oN_eq (by omega) (by omega)]; omega
  by_cases hbar : tK B L j = 303
  · simp only [if_pos (e303.mpr hbar), if_pos hbar]
    obtain ⟨r1, r2⟩ := rest (j + 1, n, [], [], fun _ => some 1) st2 ⟨P, o, by rw [List.append_nil]; exact hM2⟩ (by show 1 ≤ j + 1; omega) LF.rf rfl rfl
    constructor
    · intro x hx
      obtain ⟨a, ha1, ha2⟩ := exb_ok hx
      cases ha1
      obtain ⟨t, ht1, ht2⟩ := exb_ok ha2
      have ht2 := Except.ok.inj ht2
      subst ht2
      exact r1 t ht1
    · intro e he
      rcases exb_err he with he | ⟨a, ha1, ha2⟩
      · cases he
      · cases ha1
        rcases exb_err ha2 with he | ⟨t, ht1, ht2⟩
        · exact r2 e he
        · cases ht2
  · simp only [if_neg (fun q => hbar (e303.mp q)), if_neg hbar]
    obtain ⟨p1, p2⟩ := m_readSum (bc := bc) hM2
    constructor
    · intro x hx
      obtain ⟨a, ha1, ha2⟩ := exb_ok hx
      obtain ⟨t, ht1, ht2⟩ := exb_ok ha2
      have ht2 := Except.ok.inj ht2
      subst ht2
      obtain ⟨st3, q1, q2, q3⟩ := p1 a ha1
      rw [q1, bd_v]
      have hz := (sS_ok 10 _ _ _ _ _ _ ha1).1.2.2.1
      exact (rest a st3 ⟨_, _, q2⟩ (by omega) q3.lf (q3.1 21 (by decide)) (q3.2.2.1 22 (by decide))).1 t ht1
    · intro e he
      rcases exb_err he with he | ⟨a, ha1, ha2⟩
      · obtain ⟨st3, q1, q2, q3, q4⟩ := p2 e he
        rw [q1, bd_v]
        obtain ⟨st4, s1, s2⟩ := hbad2 st3 q2
        exact ⟨st4, s1, by rw [s2.1 19 (by decide)]; exact q2, by rw [s2.1 18 (by decide)]; exact q3, (hF2.tr q4.lf).tr (s2.up (by decide) (by decide) (by decide))⟩
      · rcases exb_err ha2 with he | ⟨t, ht1, ht2⟩
        · obtain ⟨st3, q1, q2, q3⟩ := p1 a ha1
          rw [q1, bd_v]
          have hz := (sS_ok 10 _ _ _ _ _ _ ha1).1.2.2.1
          exact (rest a st3 ⟨_, _, q2⟩ (by omega) q3.lf (q3.1 21 (by decide)) (q3.2.2.1 22 (by decide))).2 e he
        · cases ht2
