/-! T2, one clause of a law: the class -/
theorem sA_self (st : St) (k : Nat) : sA st k (st.2.2.1 k) = st := by
  unfold sA
  have : va_up st.2.2.1 k (st.2.2.1 k) = st.2.2.1 := by
    funext q
    rw [vup_v]
    split
    · rename_i h; rw [h]
    · rfl
  rw [this]
def HF : St → St → Prop := fr [703, 704, 705, 706, 604, 605] [] [600, 601, 602, 603]
theorem HF.rf {st : St} : HF st st := fr.rf
theorem HF.tr {a b c : St} (h : HF a b) (k : HF b c) : HF a c := fr.tr h k
theorem CF.hf {a b : St} (h : CF a b) : HF a b := fr.up h (by decide) (by decide) (by decide)
theorem c_begin_l {fz : List FP} {k c : Nat} (hk : k < 12) : ∀ (f a m : Nat) (st : St), a + f = 4 → st.1 605 = Int32.ofNat (k + 1) → st.1 604 = Int32.ofNat c → ∃ g, lp (fun _ _ => none) (fX8_begin_b2 fz) (m + 1 + f) (Int32.ofNat a) st = some ((), sA st 602 g) ∧ ∀ i, g i = if 4 * k + a ≤ i ∧ i < 4 * k + 4 then Int32.ofNat c else st.2.2.1 602 i := by
  intro f
  induction f with
  | zero =>
    intro a m st ha h5 h4
    refine ⟨st.2.2.1 602, ?_, fun i => by rw [if_neg (by omega)]⟩
    rw [sA_self, Nat.add_zero, lp_s]
    generalize lp (fun _ _ => none) (fX8_begin_b2 fz) m = kk
    unfold fX8_begin_b2
    rw [show (4 : Int32) = Int32.ofNat 4 from rfl, if_leT (by omega) (by omega)]
    rfl
  | succ f ih =>
    intro a m st ha h5 h4
    obtain ⟨g, g1, g2⟩ := ih (a + 1) m (sA st 602 (upd (st.2.2.1 602) (4 * k + a) (Int32.ofNat c))) (by omega) h5 h4
    refine ⟨g, ?_, fun i => ?_⟩
    · rw [sA_sA] at g1
      rw [← g1, ← Nat.add_assoc, lp_s]
      generalize lp (fun _ _ => none) (fX8_begin_b2 fz) (m + 1 + f) = kk
      have e0 : ¬ (Int32.ofNat (k + 1) ≤ 0) := fun q => by have := (oN_le (b := 0) (by omega) (by omega)).mp q; omega
      have e1 : (Int32.ofNat (k + 1) - 1) * 4 + Int32.ofNat a = Int32.ofNat (4 * k + a) := by
        rw [show (1 : Int32) = Int32.ofNat 1 from rfl, oN_sub (by omega), show (4 : Int32) = Int32.ofNat 4 from rfl, oN_mul, oN_add]
        congr 1; omega
      conv => lhs; unfold fX8_begin_b2
      rw [show (4 : Int32) = Int32.ofNat 4 from rfl, if_leF (by omega) (by omega), h5, if_neg e0, ← show (4 : Int32) = Int32.ofNat 4 from rfl, e1, gi_N (by omega) (by omega), oN_tn (by omega), lt_v, h4, lt_v, oN_s]
    · rw [g2 i]
      show (if 4 * k + (a + 1) ≤ i ∧ i < 4 * k + 4 then Int32.ofNat c else upd (st.2.2.1 602) (4 * k + a) (Int32.ofNat c) i) = _
      rw [upd_v]
      by_cases e : i = 4 * k + a
      · rw [if_neg (by omega), if_pos e, if_pos (by omega)]
      · rw [if_neg e]
        by_cases q : 4 * k + (a + 1) ≤ i ∧ i < 4 * k + 4
        · rw [if_pos q, if_pos (by omega)]
        · rw [if_neg q, if_neg (by omega)]
theorem c_begin {fz : List FP} {k c a : Nat} {st : St} (hk : k < 12) (ha : a ≤ 4) (h5 : st.1 605 = Int32.ofNat (k + 1)) (h4 : st.1 604 = Int32.ofNat c) : ∃ g, fX8_begin (Int32.ofNat a) fz st = some ((), sA st 602 g) ∧ ∀ i, g i = if 4 * k + a ≤ i ∧ i < 4 * k + 4 then Int32.ofNat c else st.2.2.1 602 i := by
  have := c_begin_l (fz := fz) (c := c) hk (4 - a) a (5999 - (4 - a)) st (by omega) h5 h4
  rw [show 5999 - (4 - a) + 1 + (4 - a) = 6000 by omega] at this
  exact this
section LawC
variable {lw : Bool} {B : Nat → Nat} {L T j n : Nat} {C : Cd} {st : St} {fz : List FP}
theorem Cp.keep (h : Cp lw B L T j n C st) {st' : St} {I A : List Nat} (f : fr I [] A st st') (hI : 505 ∉ I ∧ 704 ∉ I ∧ 705 ∉ I ∧ 706 ∉ I ∧ 703 ∉ I ∧ 702 ∉ I ∧ 604 ∉ I) (hA : 501 ∉ A ∧ 502 ∉ A ∧ 503 ∉ A ∧ 603 ∉ A) : Cp lw B L T j n C st' := by
  obtain ⟨a1, a2, a3, a4, a5, a6, a7, a8, a9, a10⟩ := h
  obtain ⟨i1, i2, i3, i4, i5, i6, i7⟩ := hI
  obtain ⟨x1, x2, x3, x4⟩ := hA
  refine ⟨a1.fr f i1 ⟨x1, x2, x3⟩, a2, ?_, ?_, ?_, ?_, a7, ?_, ⟨?_, ?_⟩, a10⟩
  · rw [f.1 704 i2]; exact a3
  · rw [f.1 705 i3]; exact a4
  · rw [f.1 706 i4]; exact a5
  · rw [f.1 703 i5]; exact a6
  · rw [f.1 702 i6]; exact a8
  · rw [f.1 604 i7]; exact a9.1
  · rw [f.2.2.1 603 x4]; exact a9.2
theorem Ce.keep {e : Nat} (h : Ce B L T e st) {st' : St} {I A : List Nat} (f : fr I [] A st st') (hI : 505 ∉ I ∧ 704 ∉ I ∧ 604 ∉ I) (hA : 501 ∉ A ∧ 502 ∉ A ∧ 503 ∉ A) : Ce B L T e st' := by
  obtain ⟨a1, a2, a3, c, hc, a4⟩ := h
  exact ⟨a1.fr f hI.1 hA, a2, by rw [f.1 704 hI.2.1]; exact a3, c, hc, by rw [f.1 604 hI.2.2]; exact a4⟩
/-- a clause is begun -/
theorem Cp.opens (h : Cp lw B L T j n C st) {k hd : Nat} (h5 : st.1 605 = Int32.ofNat k) (hk : k < 12) : ∃ st', fX8_open (Int32.ofNat hd) fz st = some ((), st') ∧ Cp lw B L T j n C st' ∧ st'.1 605 = Int32.ofNat (k + 1) ∧ st'.2.2.1 600 k = Int32.ofNat hd ∧ st'.2.2.1 601 k = 1 ∧ st'.2.2.1 602 (4 * k) = Int32.ofNat C.length ∧ (∀ q, q < k → st'.2.2.1 600 q = st.2.2.1 600 q ∧ st'.2.2.1 601 q = st.2.2.1 601 q) ∧ (∀ q, q < 4 * k → st'.2.2.1 602 q = st.2.2.1 602 q) ∧ fr [605] [] [600, 601, 602] st st' := by
  have h4 : st.1 604 = Int32.ofNat C.length := h.2.2.2.2.2.2.2.2.1.1
  obtain ⟨g, g1, g2⟩ := c_begin (fz := fz) (k := k) (c := C.length) (a := 0) (st := sI (sA (sA st 600 (upd (st.2.2.1 600) k (Int32.ofNat hd))) 601 (upd (st.2.2.1 601) k 1)) 605 (Int32.ofNat (k + 1))) hk (by omega) rfl h4
  have hf : fr [605] [] [600, 601, 602] st (sA (sI (sA (sA st 600 (upd (st.2.2.1 600) k (Int32.ofNat hd))) 601 (upd (st.2.2.1 601) k 1)) 605 (Int32.ofNat (k + 1))) 602 g) := (((fr.sA (k := 600) (by decide)).tr (fr.sA (k := 601) (by decide))).tr (fr.sI (k := 605) (by decide))).tr (fr.sA (k := 602) (by decide))
  refine ⟨_, ?_, h.keep hf (by decide) (by decide), rfl, ?_, ?_, ?_, fun q hq => ⟨?_, ?_⟩, fun q hq => ?_, hf⟩
  · unfold fX8_open
    rw [h5, show (12 : Int32) = Int32.ofNat 12 from rfl, if_leF (by omega) (by omega), gi_N (by omega) (by omega), oN_tn (by omega), lt_v]
    have e5 : ∀ f, (sA st 600 f).1 605 = Int32.ofNat k := fun _ => h5
    rw [e5, gi_N (by omega) (by omega), oN_tn (by omega), lt_v]
    have e6 : ∀ f g, (sA (sA st 600 f) 601 g).1 605 = Int32.ofNat k := fun _ _ => h5
    rw [e6, oN_s, lt_v]
    replace g1 : fX8_begin 0 fz _ = _ := g1
    have e7 : (sA st 600 (upd (st.2.2.1 600) k (Int32.ofNat hd))).2.2.1 601 = st.2.2.1 601 := rfl
    rw [e7, g1, bd_v]
    rfl
  · show upd (st.2.2.1 600) k _ k = _; rw [upd_v, if_pos rfl]
  · show upd (st.2.2.1 601) k _ k = _; rw [upd_v, if_pos rfl]
  · show g (4 * k) = _; rw [g2, if_pos (by omega)]
  · show upd (st.2.2.1 600) k _ q = _; rw [upd_v, if_neg (by omega)]
  · show upd (st.2.2.1 601) k _ q = _; rw [upd_v, if_neg (by omega)]
  · show g q = _; rw [g2, if_neg (by omega)]; rfl
/-- the "if" of a clause -/
theorem c_readIf {bm bc : Nat} {r : Re} {k : Nat} (h : Cp lw B L T r.1 r.2.1 C st) (h5 : st.1 605 = Int32.ofNat (k + 1)) (hk : k < 12) (hbc : bc + r.2.2.2.1.length = C.length) :
    (∀ t, sIf lw (tK B L) (tV B L) bm bc r = .ok t → ∃ st', fX9_readIf fz st = some (1, st') ∧ Cp lw B L T t.2.1 t.2.2.1 (C ++ t.2.2.2.2.1) st' ∧ st'.1 605 = Int32.ofNat (k + 1) ∧ (∀ q, st'.2.2.1 602 q = if q = 4 * k + 2 then Int32.ofNat C.length else if q = 4 * k + 3 then Int32.ofNat (C.length + t.2.2.2.2.1.length) else st.2.2.1 602 q) ∧ fr [703, 704, 705, 706, 604] [] [602, 603] st st') ∧
    (∀ e, sIf lw (tK B L) (tV B L) bm bc r = .error e → ∃ st', fX9_readIf fz st = some (0, st') ∧ Ce B L T e st' ∧ fr [703, 704, 705, 706, 604] [] [602, 603] st st') := by
  obtain ⟨g, g1, g2⟩ := c_begin (fz := fz) (k := k) (c := C.length) (a := 2) (st := st) hk (by omega) h5 h.2.2.2.2.2.2.2.2.1.1
  replace g1 : fX8_begin 2 fz st = _ := g1
  have hf1 : fr [] [] [602] st (sA st 602 g) := fr.sA (by decide)
  have h1 := h.keep hf1 (by decide) (by decide)
  generalize hs1 : sA st 602 g = st1 at g1 hf1 h1
  have e602 : st1.2.2.1 602 = g := by rw [← hs1]; rfl
  have h51 : st1.1 605 = Int32.ofNat (k + 1) := by rw [hf1.1 605 (by decide)]; exact h5
  clear hs1
  -- the clause's end
  have fin : ∀ (st2 : St) (D : Cd) (j' n' : Nat), Cp lw B L T j' n' (C ++ D) st2 → st2.1 605 = Int32.ofNat (k + 1) → st2.2.2.1 602 = g → fr [703, 704, 705, 706, 604] [] [602, 603] st st2 → ∃ st', fX9_readIf_b28 fz st2 = some (1, st') ∧ Cp lw B L T j' n' (C ++ D) st' ∧ st'.1 605 = Int32.ofNat (k + 1) ∧ (∀ q, st'.2.2.1 602 q = if q = 4 * k + 2 then Int32.ofNat C.length else if q = 4 * k + 3 then Int32.ofNat (C.length + D.length) else st.2.2.1 602 q) ∧ fr [703, 704, 705, 706, 604] [] [602, 603] st st' := by
    intro st2 D j' n' hC h52 h62 hf2
    obtain ⟨g', k1, k2⟩ := c_begin (fz := fz) (k := k) (c := (C ++ D).length) (a := 3) (st := st2) hk (by omega) h52 hC.2.2.2.2.2.2.2.2.1.1
    replace k1 : fX8_begin 3 fz st2 = _ := k1
    have hf3 : fr [] [] [602] st2 (sA st2 602 g') := fr.sA (by decide)
    refine ⟨sA st2 602 g', ?_, hC.keep hf3 (by decide) (by decide), h52, fun q => ?_, hf2.tr (hf3.up (by decide) (by decide) (by decide))⟩
    · unfold fX9_readIf_b28
      rw [k1, bd_v]
    · show g' q = _
      rw [k2 q, h62, g2 q, List.length_append]
      by_cases e1 : q = 4 * k + 2
      · rw [if_neg (by omega), if_pos (by omega), if_pos e1]
      · rw [if_neg e1]
        by_cases e2 : q = 4 * k + 3
        · rw [if_pos (by omega), if_pos e2]
        · rw [if_neg (by omega), if_neg (by omega), if_neg e2]
  have hp := h1.passes (fz := fz) (c := 312) (by decide)
  unfold fX9_readIf sIf
  rw [g1, bd_v]
  by_cases hif : tK B L r.1 = 312
  · rw [if_pos hif]
    obtain ⟨st2, q1, q2, q3⟩ := hp.1 hif (by decide)
    replace q1 : fX9_passes 312 fz st1 = some (1, st2) := q1
    rw [q1, bd_v, i10]
    obtain ⟨p1, p2⟩ := (csim_ST (lw := lw) (B := B) (L := L) (T := T) (fz := fz) 10).1 0 (bm + r.2.2.1.length) (bc + r.2.2.2.1.length) (r.1 + 1) r.2.1 C st2 (by decide) (by decide) hbc q2
    have hF : fr [703, 704, 705, 706, 604] [] [602, 603] st st2 := (hf1.up (by decide) (by decide) (by decide)).tr (q3.up (by decide) (by decide) (by decide))
    constructor
    · intro t ht
      obtain ⟨a, ha1, ha2⟩ := exb_ok ht
      have ha2 := Except.ok.inj ha2
      subst ha2
      obtain ⟨st3, s1, s2, s3⟩ := p1 a ha1
      replace s1 : rdT fz 10 0 st2 = some (1, st3) := s1
      rw [s1, bd_v, i10]
      exact fin st3 a.2.2.2.1 _ _ s2 (by rw [s3.1 605 (by decide), q3.1 605 (by decide)]; exact h51) (by rw [s3.2.2.1 602 (by decide), q3.2.2.1 602 (by decide)]; exact e602) (hF.tr (fr.up s3 (by decide) (by decide) (by decide)))
    · intro e he
      rcases exb_err he with he | ⟨a, ha1, ha2⟩
      · obtain ⟨st3, s1, s2, s3⟩ := p2 e he
        replace s1 : rdT fz 10 0 st2 = some (0, st3) := s1
        rw [s1, bd_v, i00]
        exact ⟨st3, rfl, s2, hF.tr (fr.up s3 (by decide) (by decide) (by decide))⟩
      · cases ha2
  · rw [if_neg hif]
    have q1 := hp.2 hif
    replace q1 : fX9_passes 312 fz st1 = some (0, st1) := q1
    rw [q1, bd_v, i00]
    refine ⟨fun t ht => ?_, fun e he => (by cases he)⟩
    have ht := Except.ok.inj ht
    subst ht
    exact fin st1 [] _ _ (by rw [List.append_nil]; exact h1) h51 e602 (hf1.up (by decide) (by decide) (by decide))
end LawC
/-- what a clause leaves in the class's program -/
def lawC (bc k h a b : Nat) (st : St) : Prop := st.2.2.1 600 k = Int32.ofNat (300 + h) ∧ st.2.2.1 602 (4 * k) = Int32.ofNat bc ∧ st.2.2.1 602 (4 * k + 1) = Int32.ofNat (bc + a) ∧ st.2.2.1 602 (4 * k + 2) = Int32.ofNat (bc + a) ∧ st.2.2.1 602 (4 * k + 3) = Int32.ofNat (bc + a + b)
theorem c_readLaw {B : Nat → Nat} {L T j n k bm : Nat} {C : Cd} {st : St} {fz : List FP} (h : Cp true B L T j n C st) (h5 : st.1 605 = Int32.ofNat k) (hk : k < 12) :
    (∀ x, sLawC (tK B L) (tV B L) k bm C.length j n = .ok x → ∃ st1 st2, fX9_readLawHead fz st = some (1, st1) ∧ fX9_readIf fz st1 = some (1, st2) ∧ Cp true B L T x.2.2.2.1 x.2.2.2.2.1 (C ++ x.2.1.2.2.2.1 ++ x.2.2.2.2.2.2.1) st2 ∧ st2.1 605 = Int32.ofNat (k + 1) ∧ lawC C.length k x.1 x.2.1.2.2.2.1.length x.2.2.2.2.2.2.1.length st2 ∧ (∀ q, q < k → st2.2.2.1 600 q = st.2.2.1 600 q) ∧ (∀ q, q < 4 * k → st2.2.2.1 602 q = st.2.2.1 602 q) ∧ HF st st2) ∧
    (∀ e, sLawC (tK B L) (tV B L) k bm C.length j n = .error e → (∃ st1, fX9_readLawHead fz st = some (0, st1) ∧ Ce B L T e st1 ∧ HF st st1) ∨ (∃ st1 st2, fX9_readLawHead fz st = some (1, st1) ∧ fX9_readIf fz st1 = some (0, st2) ∧ Ce B L T e st2 ∧ HF st st2)) := by
  have hk3 := tK_le (L := L) (j := j) h.hB
  have ec : (300 ≤ Int32.ofNat (tK B L j) ∧ Int32.ofNat (tK B L j) ≤ 303) ↔ (300 ≤ tK B L j ∧ tK B L j ≤ 303) := by
    rw [show (300 : Int32) = Int32.ofNat 300 from rfl, show (303 : Int32) = Int32.ofNat 303 from rfl, oN_le (by omega) (by omega), oN_le (by omega) (by omega)]
  unfold sLawC
  by_cases hh : ¬ (300 ≤ tK B L j ∧ tK B L j ≤ 303)
  · rw [if_pos (Or.inl hh)]
    refine ⟨fun x hx => (by cases hx), fun e he => ?_⟩
    cases he
    refine Or.inl ⟨st, ?_, h.err, HF.rf⟩
    unfold fX9_readLawHead
    rw [lt_v, h.kind, c_within, bs_v, if_neg (fun q => hh (ec.mp q)), i00]
  replace hh := Decidable.not_not.mp hh
  rw [if_neg (show ¬ (¬ (300 ≤ tK B L j ∧ tK B L j ≤ 303) ∨ 12 ≤ k) by omega)]
  obtain ⟨st1, o1, o2, o3, o4, o5, o6, o7, o8, o9⟩ := h.opens (fz := fz) (hd := tK B L j) h5 hk
  obtain ⟨st2, g1, g2, g3⟩ := o2.look (fz := fz) (by omega)
  have e0 : fX9_readLawHead fz st = if Int32.ofNat (tK B L j) = 303 then fX9_readLawHead_b53 fz st2 else bd (rdS fz 10 (0 : Int32) st2) (fun r9 st10 => if r9 = 0 then (fX9_readLawHead_b58 fz (0 : Int32) st10) else (fX9_readLawHead_b53 fz st10)) := by
    unfold fX9_readLawHead
    rw [lt_v, h.kind, c_within, bs_v, if_pos (ec.mpr hh), i10, o1, bd_v, g1, bd_v]
  have hF2 : HF st st2 := (o9.up (by decide) (by decide) (by decide)).tr (g3.up (by decide) (by decide) (by decide))
  have h52 : st2.1 605 = Int32.ofNat (k + 1) := by rw [g3.1 605 (by decide)]; exact o3
  have h602 : st2.2.2.1 602 = st1.2.2.1 602 := g3.2.2.1 602 (by decide)
  have h600 : st2.2.2.1 600 = st1.2.2.1 600 := g3.2.2.1 600 (by decide)
  -- behind the sum
  have rest : ∀ (r : Re) (st3 : St), Cp true B L T r.1 r.2.1 (C ++ r.2.2.2.1) st3 → CF st2 st3 → ∃ st4, fX9_readLawHead_b53 fz st3 = some (1, st4) ∧
      (∀ t, sIf true (tK B L) (tV B L) bm C.length r = .ok t → ∃ st5, fX9_readIf fz st4 = some (1, st5) ∧ Cp true B L T t.2.1 t.2.2.1 (C ++ r.2.2.2.1 ++ t.2.2.2.2.1) st5 ∧ st5.1 605 = Int32.ofNat (k + 1) ∧ lawC C.length k (tK B L j - 300) r.2.2.2.1.length t.2.2.2.2.1.length st5 ∧ (∀ q, q < k → st5.2.2.1 600 q = st.2.2.1 600 q) ∧ (∀ q, q < 4 * k → st5.2.2.1 602 q = st.2.2.1 602 q) ∧ HF st st5) ∧
      (∀ e, sIf true (tK B L) (tV B L) bm C.length r = .error e → ∃ st5, fX9_readIf fz st4 = some (0, st5) ∧ Ce B L T e st5 ∧ HF st st5) := by
    intro r st3 hC3 hF3
    have h53 : st3.1 605 = Int32.ofNat (k + 1) := by rw [hF3.1 605 (by decide)]; exact h52
    obtain ⟨g, b1, b2⟩ := c_begin (fz := fz) (k := k) (c := (C ++ r.2.2.2.1).length) (a := 1) (st := st3) hk (by omega) h53 hC3.2.2.2.2.2.2.2.2.1.1
    replace b1 : fX8_begin 1 fz st3 = _ := b1
    have hf4 : fr [] [] [602] st3 (sA st3 602 g) := fr.sA (by decide)
    refine ⟨sA st3 602 g, ?_, ?_⟩
    · unfold fX9_readLawHead_b53 fX9_readLawHead_b58
      rw [b1, bd_v]
      rfl
    · have hC4 := hC3.keep hf4 (by decide) (by decide)
      have hF4 : HF st (sA st3 602 g) := (hF2.tr hF3.hf).tr (hf4.up (by decide) (by decide) (by decide))
      obtain ⟨p1, p2⟩ := c_readIf (fz := fz) (bm := bm) (bc := C.length) (r := r) hC4 (k := k) (by rw [hf4.1 605 (by decide)]; exact h53) hk (by rw [List.length_append])
      constructor
      · intro t ht
        obtain ⟨st5, s1, s2, s3, s4, s5⟩ := p1 t ht
        have e602 : ∀ q, (sA st3 602 g).2.2.1 602 q = if 4 * k + 1 ≤ q ∧ q < 4 * k + 4 then Int32.ofNat (C.length + r.2.2.2.1.length) else st1.2.2.1 602 q := by
          intro q
          show g q = _
          rw [b2 q, List.length_append, hF3.2.2.1 602 (by decide), h602]
        have e600 : st5.2.2.1 600 = st1.2.2.1 600 := by
          rw [s5.2.2.1 600 (by decide), hf4.2.2.1 600 (by decide), hF3.2.2.1 600 (by decide), h600]
        refine ⟨st5, s1, s2, s3, ⟨?_, ?_, ?_, ?_, ?_⟩, fun q hq => ?_, fun q hq => ?_, hF4.tr (fr.up s5 (by decide) (by decide) (by decide))⟩
        · rw [e600, o4, show 300 + (tK B L j - 300) = tK B L j by omega]
        · rw [s4, if_neg (by omega), if_neg (by omega), e602, if_neg (by omega)]; exact o6
        · rw [s4, if_neg (by omega), if_neg (by omega), e602, if_pos (by omega)]
        · rw [s4, if_pos rfl, List.length_append]
        · rw [s4, if_neg (by omega), if_pos rfl, List.length_append]
        · rw [e600, (o7 q hq).1]
        · rw [s4, if_neg (by omega), if_neg (by omega), e602, if_neg (by omega), o8 q hq]
      · intro e he
        obtain ⟨st5, s1, s2, s3⟩ := p2 e he
        exact ⟨st5, s1, s2, hF4.tr (fr.up s3 (by decide) (by decide) (by decide))⟩
  rw [e0]
  by_cases hbar : tK B L j = 303
  · rw [show (303 : Int32) = Int32.ofNat 303 from rfl, if_eqT hbar]
    simp only [if_pos hbar]
    obtain ⟨st4, r0, r1, r2⟩ := rest (j + 1, n, [], [], fun _ => some 1) st2 (by rw [List.append_nil]; exact g2) CF.rf
    constructor
    · intro x hx
      obtain ⟨a, ha1, ha2⟩ := exb_ok hx
      cases ha1
      obtain ⟨t, ht1, ht2⟩ := exb_ok ha2
      have ht2 := Except.ok.inj ht2
      subst ht2
      obtain ⟨st5, s⟩ := r1 t ht1
      exact ⟨st4, st5, r0, s⟩
    · intro e he
      rcases exb_err he with he | ⟨a, ha1, ha2⟩
      · cases he
      · cases ha1
        rcases exb_err ha2 with he | ⟨t, ht1, ht2⟩
        · obtain ⟨st5, s⟩ := r2 e he
          exact Or.inr ⟨st4, st5, r0, s⟩
        · cases ht2
  · rw [show (303 : Int32) = Int32.ofNat 303 from rfl, if_eqF hbar (by omega) (by omega)]
    simp only [if_neg hbar]
    obtain ⟨p1, p2⟩ := (csim_ST (lw := true) (B := B) (L := L) (T := T) (fz := fz) 10).2 0 bm C.length (j + 1) n C st2 (by decide) (by decide) rfl g2
    constructor
    · intro x hx
      obtain ⟨a, ha1, ha2⟩ := exb_ok hx
      obtain ⟨t, ht1, ht2⟩ := exb_ok ha2
      have ht2 := Except.ok.inj ht2
      subst ht2
      obtain ⟨st3, q1, q2, q3⟩ := p1 a ha1
      replace q1 : rdS fz 10 0 st2 = some (1, st3) := q1
      rw [q1, bd_v, i10]
      obtain ⟨st4, r0, r1, r2⟩ := rest a st3 q2 q3
      obtain ⟨st5, s⟩ := r1 t ht1
      exact ⟨st4, st5, r0, s⟩
    · intro e he
      rcases exb_err he with he | ⟨a, ha1, ha2⟩
      · obtain ⟨st3, q1, q2, q3⟩ := p2 e he
        replace q1 : rdS fz 10 0 st2 = some (0, st3) := q1
        rw [q1, bd_v, i00]
        obtain ⟨c, hc, h64⟩ := q2.2.2.2
        obtain ⟨g, b1, b2⟩ := c_begin (fz := fz) (k := k) (c := c) (a := 1) (st := st3) hk (by omega) (by rw [q3.1 605 (by decide)]; exact h52) h64
        replace b1 : fX8_begin 1 fz st3 = _ := b1
        have hf4 : fr [] [] [602] st3 (sA st3 602 g) := fr.sA (by decide)
        refine Or.inl ⟨sA st3 602 g, ?_, q2.keep hf4 (by decide) (by decide), (hF2.tr q3.hf).tr (hf4.up (by decide) (by decide) (by decide))⟩
        unfold fX9_readLawHead_b58
        rw [b1, bd_v]
        rfl
      · rcases exb_err ha2 with he | ⟨t, ht1, ht2⟩
        · obtain ⟨st3, q1, q2, q3⟩ := p1 a ha1
          replace q1 : rdS fz 10 0 st2 = some (1, st3) := q1
          rw [q1, bd_v, i10]
          obtain ⟨st4, r0, r1, r2⟩ := rest a st3 q2 q3
          obtain ⟨st5, s⟩ := r2 e he
          exact Or.inr ⟨st4, st5, r0, s⟩
        · cases ht2
