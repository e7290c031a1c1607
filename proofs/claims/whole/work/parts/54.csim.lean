/-! T2, the class's reader against the grammar -/
theorem i10 {α : Type} {x y : α} : (if (1 : Int32) = 0 then x else y) = y := if_neg (by decide)
theorem i00 {α : Type} {x y : α} : (if (0 : Int32) = 0 then x else y) = x := if_pos rfl
theorem ibT {α : Type} {x y : α} : (if true = true then x else y) = x := if_pos rfl
theorem ibF {α : Type} {x y : α} : (if false = true then x else y) = y := if_neg (by decide)
def SimC (lw : Bool) (B : Nat → Nat) (L T d0 : Nat) (sp : Rd) (rd : Int32 → St → Option (Int32 × St)) : Prop :=
  ∀ dep bm bc j n C st, d0 ≤ dep → dep ≤ 8 → bc = C.length → Cp lw B L T j n C st →
    (∀ r, sp dep bm bc j n = .ok r → ∃ st', rd (Int32.ofNat dep) st = some (1, st') ∧ Cp lw B L T r.1 r.2.1 (C ++ r.2.2.2.1) st' ∧ CF st st') ∧
    (∀ e, sp dep bm bc j n = .error e → ∃ st', rd (Int32.ofNat dep) st = some (0, st') ∧ Ce B L T e st' ∧ CF st st')
section CLeaf
variable {lw : Bool} {B : Nat → Nat} {L T j n : Nat} {C : Cd} {st : St} {fz : List FP}
theorem Cp.parts (h : Cp lw B L T j n C st) (hn : n < 50) : Cp lw B L T j (n + 1) C (sI st 703 (Int32.ofNat (n + 1))) ∧ CF st (sI st 703 (Int32.ofNat (n + 1))) := by
  have hf : fr [703] [] [] st (sI st 703 (Int32.ofNat (n + 1))) := fr.sI (by decide)
  obtain ⟨a1, a2, a3, a4, a5, a6, a7, a8, a9, a10⟩ := h
  exact ⟨⟨a1.fr hf (by decide) (by decide), a2, a3, a4, a5, rfl, by omega, a8, a9, a10⟩, hf.up (by decide) (by decide) (by decide)⟩
theorem Cp.wordOf0 (h : Cp lw B L T j n C st) (hk : tK B L j ≠ 257) {w : Nat} (hw : w < 20) : ∃ st', fX9_readWordOf (Int32.ofNat w) 0 fz st = some (1, st') ∧ Cp lw B L T (j + 1) n (C ++ [(1, w)]) st' ∧ CF st st' := by
  obtain ⟨st1, g1, g2, g3⟩ := h.look (fz := fz) hk
  obtain ⟨st2, k1, k2, k3⟩ := g2.add (fz := fz) (o := 1) (v := w) (by have := h.2.2.2.2.2.2.2.2.2; omega) (by decide) (by omega)
  refine ⟨st2, ?_, k2, (g3.up (by decide) (by decide) (by decide)).tr (k3.up (by decide) (by decide) (by decide))⟩
  unfold fX9_readWordOf
  replace k1 : fX8_add 1 (Int32.ofNat w) fz st1 = some (Int32.ofNat C.length, st2) := k1
  rw [g1, bd_v, if_pos rfl, k1, bd_v]
theorem Cp.wordOfN (h : Cp lw B L T j n C st) (hk : tK B L j ≠ 257) {w m : Nat} (hw : w < 20) (hm : 1 ≤ m) (hm2 : m ≤ 6) : (tK B L (j + 1) = 256 ∧ tV B L (j + 1) ≤ m - 1 → ∃ st', fX9_readWordOf (Int32.ofNat w) (Int32.ofNat m) fz st = some (1, st') ∧ Cp lw B L T (j + 2) n (C ++ [(1, w + tV B L (j + 1))]) st' ∧ CF st st') ∧ (¬ (tK B L (j + 1) = 256 ∧ tV B L (j + 1) ≤ m - 1) → ∃ st', fX9_readWordOf (Int32.ofNat w) (Int32.ofNat m) fz st = some (0, st') ∧ Ce B L T (j + 1) st' ∧ CF st st') := by
  obtain ⟨st1, g1, g2, g3⟩ := h.look (fz := fz) hk
  have hnum := g2.isNumber (fz := fz) (lo := 0) (hi := m - 1) (by omega) (by omega)
  have e0 : fX9_readWordOf (Int32.ofNat w) (Int32.ofNat m) fz st = bd (fX9_isNumber (Int32.ofNat 0) (Int32.ofNat (m - 1)) fz st1) (fun r3 st4 => if r3 = 0 then (some ((0 : Int32), st4)) else (bd (fX8_add (1 : Int32) (Int32.ofNat w + (st4.1 706)) fz st4) (fun r5 st6 => bd (fX9_lookAt ((st6.1 704) + (1 : Int32)) fz st6) (fun r7 st8 => some ((1 : Int32), st8))))) := by
    unfold fX9_readWordOf
    rw [g1, bd_v, if_neg (fun q => by have := (oN_eq (b := 0) (by omega) (by omega)).mp q; omega)]
    rw [show (1 : Int32) = Int32.ofNat 1 from rfl, oN_sub hm]
    rfl
  constructor
  · intro hv
    rw [if_pos ⟨hv.1, Nat.zero_le _, hv.2⟩] at hnum
    obtain ⟨r, st2, st3, k1, k2, k3, k4⟩ := g2.addLook (fz := fz) (o := 1) (v := w + tV B L (j + 1)) (by omega) (by decide) (by omega)
    refine ⟨st3, ?_, k3, (g3.up (by decide) (by decide) (by decide)).tr k4⟩
    rw [e0, hnum, bd_v, if_neg (by decide), g2.2.2.2.2.1 hv.1, oN_add]
    replace k1 : fX8_add 1 (Int32.ofNat (w + tV B L (j + 1))) fz st1 = some (r, st2) := k1
    rw [k1, bd_v, k2, bd_v]
  · intro hv
    rw [if_neg (fun q => hv ⟨q.1, q.2.2⟩)] at hnum
    refine ⟨st1, ?_, g2.err, g3.up (by decide) (by decide) (by decide)⟩
    rw [e0, hnum, bd_v, if_pos rfl]
theorem Cp.leaf {rT rS : Int32 → St → Option (Int32 × St)} {a : Int32} (h : Cp lw B L T j n C st) (hk : tK B L j ≠ 91) : (∀ r, sLeaf lw (tK B L) (tV B L) j n = .ok r → ∃ st', fX9_readPart rT rS a fz st = some (1, st') ∧ Cp lw B L T r.1 r.2.1 (C ++ r.2.2.2.1) st' ∧ CF st st') ∧ (∀ e, sLeaf lw (tK B L) (tV B L) j n = .error e → ∃ st', fX9_readPart rT rS a fz st = some (0, st') ∧ Ce B L T e st' ∧ CF st st') := by
  have hk3 := tK_le (L := L) (j := j) h.hB
  have hn50 : n ≤ 50 := h.2.2.2.2.2.2.1
  unfold fX9_readPart sLeaf
  rw [h.kind, show (91 : Int32) = Int32.ofNat 91 from rfl, if_eqF hk (by omega) (by omega), h.2.2.2.2.2.1, show (50 : Int32) = Int32.ofNat 50 from rfl]
  by_cases h50 : 50 ≤ n
  · rw [if_ltF h50 (by omega), if_pos h50]
    refine ⟨fun r hr => (by cases hr), fun e he => ?_⟩
    cases he
    exact ⟨st, rfl, h.err, CF.rf⟩
  rw [if_ltT (by omega) (by omega), if_neg h50, oN_s, lt_v]
  obtain ⟨h1, hf1⟩ := h.parts (by omega)
  generalize sI st 703 (Int32.ofNat (n + 1)) = st1 at h1 hf1 ⊢
  have hnum := h1.isNumber (fz := fz) (lo := 0) (hi := 1000) (by omega) (by omega)
  replace hnum : fX9_isNumber 0 1000 fz st1 = _ := hnum
  rw [hnum, bd_v]
  by_cases hd : tK B L j = 256 ∧ tV B L j ≤ 1000
  · rw [if_pos (show tK B L j = 256 ∧ 0 ≤ tV B L j ∧ tV B L j ≤ 1000 from ⟨hd.1, Nat.zero_le _, hd.2⟩), i10, if_pos hd]
    refine ⟨fun r hr => ?_, fun e he => (by cases he)⟩
    cases hr
    obtain ⟨r, st2, st3, k1, k2, k3, k4⟩ := h1.addLook (fz := fz) (o := 0) (v := tV B L j) (by omega) (by decide) (by omega)
    refine ⟨st3, ?_, k3, hf1.tr k4⟩
    replace k1 : fX8_add 0 (Int32.ofNat (tV B L j)) fz st1 = some (r, st2) := k1
    rw [h1.2.2.2.2.1 hd.1, k1, bd_v, k2, bd_v]
  rw [if_neg (show ¬ (tK B L j = 256 ∧ 0 ≤ tV B L j ∧ tV B L j ≤ 1000) from fun q => hd ⟨q.1, q.2.2⟩), i00, if_neg hd, h1.2.2.2.2.2.2.2.1]
  unfold fX9_readPart_b92
  cases lw with
  | true =>
    simp only [ibT, i10]
    unfold fX9_readLawWord
    rw [h1.kind, c_within, bs_v]
    have ec : (316 ≤ Int32.ofNat (tK B L j) ∧ Int32.ofNat (tK B L j) ≤ 325) ↔ (316 ≤ tK B L j ∧ tK B L j ≤ 325) := by
      rw [show (316 : Int32) = Int32.ofNat 316 from rfl, show (325 : Int32) = Int32.ofNat 325 from rfl, oN_le (by omega) (by omega), oN_le (by omega) (by omega)]
    by_cases hw : 316 ≤ tK B L j ∧ tK B L j ≤ 325
    · rw [if_pos hw]
      refine ⟨fun r hr => ?_, fun e he => (by cases he)⟩
      cases hr
      obtain ⟨r, st2, st3, k1, k2, k3, k4⟩ := h1.addLook (fz := fz) (o := 1) (v := tK B L j - 316) (by omega) (by decide) (by omega)
      refine ⟨st3, ?_, k3, hf1.tr k4⟩
      replace k1 : fX8_add 1 (Int32.ofNat (tK B L j - 316)) fz st1 = some (r, st2) := k1
      rw [if_pos (ec.mpr hw), i10, show (316 : Int32) = Int32.ofNat 316 from rfl, oN_sub hw.1, k1, bd_v, k2, bd_v, bd_v]
      rfl
    · rw [if_neg hw]
      refine ⟨fun r hr => (by cases hr), fun e he => ?_⟩
      cases he
      rw [if_neg (fun q => hw (ec.mp q)), i00, bd_v]
      exact ⟨st1, rfl, h1.err, hf1⟩
  | false =>
    simp only [ibF, i00]
    unfold fX9_readOrderWord
    rw [h1.kind, lt_v]
    have hW0 := fun w hw hk => h1.wordOf0 (fz := fz) hk (w := w) hw
    have hWN := fun w m hw hm hm2 hk => h1.wordOfN (fz := fz) hk (w := w) (m := m) hw hm hm2
    -- fame, men, day, done, latest, shown
    have fin : ∀ (x : Option (Int32 × St)) (r : Re) (v : Int32), (v = 0 ∨ v = 1) → ∀ st2, x = some (v, st2) → bd (bd x (fun r2 st3 => gb r2 (some (r2, st3)))) (fun r4 st5 => gb r4 (some (r4, st5))) = some (v, st2) := by
      intro x r v hv st2 hx
      rw [hx, bd_v]
      rcases hv with e | e <;> (subst e; rfl)
    by_cases e1 : tK B L j = 302
    · rw [show (302 : Int32) = Int32.ofNat 302 from rfl, if_eqT e1]
      have ho : oWord (tK B L j) = 6 := by rw [e1]; decide
      rw [ho, if_neg (show ¬ (6 = 0) by decide), if_neg (show ¬ (6 ≤ 3) by decide), if_pos (show 6 = 6 from rfl)]
      obtain ⟨p1, p2⟩ := hWN 15 4 (by decide) (by decide) (by decide) (by omega)
      by_cases hv : tK B L (j + 1) = 256 ∧ tV B L (j + 1) ≤ 3
      · rw [if_pos hv]
        refine ⟨fun r hr => ?_, fun e he => (by cases he)⟩
        cases hr
        obtain ⟨st2, q1, q2, q3⟩ := p1 hv
        exact ⟨st2, fin _ (0, 0, [], [], fun _ => none) 1 (Or.inr rfl) st2 q1, q2, hf1.tr q3⟩
      · rw [if_neg hv]
        refine ⟨fun r hr => (by cases hr), fun e he => ?_⟩
        cases he
        obtain ⟨st2, q1, q2, q3⟩ := p2 hv
        exact ⟨st2, fin _ (0, 0, [], [], fun _ => none) 0 (Or.inl rfl) st2 q1, q2, hf1.tr q3⟩
    rw [show (302 : Int32) = Int32.ofNat 302 from rfl, if_eqF e1 (by omega) (by omega)]
    by_cases e2 : tK B L j = 317
    · rw [show (317 : Int32) = Int32.ofNat 317 from rfl, if_eqT e2]
      have ho : oWord (tK B L j) = 4 := by rw [e2]; decide
      rw [ho, if_neg (show ¬ (4 = 0) by decide), if_neg (show ¬ (4 ≤ 3) by decide), if_neg (show ¬ (4 = 6) by decide)]
      obtain ⟨p1, p2⟩ := hWN 3 6 (by decide) (by decide) (by decide) (by omega)
      by_cases hv : tK B L (j + 1) = 256 ∧ tV B L (j + 1) ≤ 5
      · rw [if_pos hv]
        refine ⟨fun r hr => ?_, fun e he => (by cases he)⟩
        cases hr
        obtain ⟨st2, q1, q2, q3⟩ := p1 hv
        exact ⟨st2, fin _ (0, 0, [], [], fun _ => none) 1 (Or.inr rfl) st2 q1, q2, hf1.tr q3⟩
      · rw [if_neg hv]
        refine ⟨fun r hr => (by cases hr), fun e he => ?_⟩
        cases he
        obtain ⟨st2, q1, q2, q3⟩ := p2 hv
        exact ⟨st2, fin _ (0, 0, [], [], fun _ => none) 0 (Or.inl rfl) st2 q1, q2, hf1.tr q3⟩
    rw [show (317 : Int32) = Int32.ofNat 317 from rfl, if_eqF e2 (by omega) (by omega)]
    by_cases e3 : tK B L j = 324
    · rw [show (324 : Int32) = Int32.ofNat 324 from rfl, if_eqT e3]
      have ho : oWord (tK B L j) = 1 := by rw [e3]; decide
      rw [ho, if_neg (show ¬ (1 = 0) by decide), if_pos (show 1 ≤ 3 by decide)]
      refine ⟨fun r hr => ?_, fun e he => (by cases he)⟩
      cases hr
      obtain ⟨st2, q1, q2, q3⟩ := hW0 0 (by decide) (by omega)
      exact ⟨st2, fin _ (0, 0, [], [], fun _ => none) 1 (Or.inr rfl) st2 q1, q2, hf1.tr q3⟩
    rw [show (324 : Int32) = Int32.ofNat 324 from rfl, if_eqF e3 (by omega) (by omega)]
    by_cases e4 : tK B L j = 326
    · rw [show (326 : Int32) = Int32.ofNat 326 from rfl, if_eqT e4]
      have ho : oWord (tK B L j) = 2 := by rw [e4]; decide
      rw [ho, if_neg (show ¬ (2 = 0) by decide), if_pos (show 2 ≤ 3 by decide)]
      refine ⟨fun r hr => ?_, fun e he => (by cases he)⟩
      cases hr
      obtain ⟨st2, q1, q2, q3⟩ := hW0 1 (by decide) (by omega)
      exact ⟨st2, fin _ (0, 0, [], [], fun _ => none) 1 (Or.inr rfl) st2 q1, q2, hf1.tr q3⟩
    rw [show (326 : Int32) = Int32.ofNat 326 from rfl, if_eqF e4 (by omega) (by omega)]
    by_cases e5 : tK B L j = 327
    · rw [show (327 : Int32) = Int32.ofNat 327 from rfl, if_eqT e5]
      have ho : oWord (tK B L j) = 3 := by rw [e5]; decide
      rw [ho, if_neg (show ¬ (3 = 0) by decide), if_pos (show 3 ≤ 3 by decide)]
      refine ⟨fun r hr => ?_, fun e he => (by cases he)⟩
      cases hr
      obtain ⟨st2, q1, q2, q3⟩ := hW0 2 (by decide) (by omega)
      exact ⟨st2, fin _ (0, 0, [], [], fun _ => none) 1 (Or.inr rfl) st2 q1, q2, hf1.tr q3⟩
    rw [show (327 : Int32) = Int32.ofNat 327 from rfl, if_eqF e5 (by omega) (by omega)]
    by_cases e6 : tK B L j = 328
    · rw [show (328 : Int32) = Int32.ofNat 328 from rfl, if_eqT e6]
      have ho : oWord (tK B L j) = 5 := by rw [e6]; decide
      rw [ho, if_neg (show ¬ (5 = 0) by decide), if_neg (show ¬ (5 ≤ 3) by decide), if_neg (show ¬ (5 = 6) by decide)]
      obtain ⟨p1, p2⟩ := hWN 9 6 (by decide) (by decide) (by decide) (by omega)
      by_cases hv : tK B L (j + 1) = 256 ∧ tV B L (j + 1) ≤ 5
      · rw [if_pos hv]
        refine ⟨fun r hr => ?_, fun e he => (by cases he)⟩
        cases hr
        obtain ⟨st2, q1, q2, q3⟩ := p1 hv
        exact ⟨st2, fin _ (0, 0, [], [], fun _ => none) 1 (Or.inr rfl) st2 q1, q2, hf1.tr q3⟩
      · rw [if_neg hv]
        refine ⟨fun r hr => (by cases hr), fun e he => ?_⟩
        cases he
        obtain ⟨st2, q1, q2, q3⟩ := p2 hv
        exact ⟨st2, fin _ (0, 0, [], [], fun _ => none) 0 (Or.inl rfl) st2 q1, q2, hf1.tr q3⟩
    rw [show (328 : Int32) = Int32.ofNat 328 from rfl, if_eqF e6 (by omega) (by omega)]
    have ho : oWord (tK B L j) = 0 := by unfold oWord; rw [if_neg e3, if_neg e4, if_neg e5, if_neg e2, if_neg e6, if_neg e1]
    rw [ho, if_pos rfl]
    refine ⟨fun r hr => (by cases hr), fun e he => ?_⟩
    cases he
    exact ⟨st1, rfl, h1.err, hf1⟩
end CLeaf
