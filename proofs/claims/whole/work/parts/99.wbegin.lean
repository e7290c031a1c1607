/-! T2, both readers at a text's start -/
section Begin
variable {fz : List FP} {c m : St}
def bB (m : St) (i : Nat) : Nat := if i < 400 then (m.2.2.1 12 i).toNatClampNeg else 0
theorem Rt.tp (h : Rt c m) : ∃ L, tpC (bB m) L c ∧ tpM (bB m) L m := by
  obtain ⟨L, hL, h1, h2, h3⟩ := h
  have hb : ∀ i, bB m i < 256 := by
    intro i
    unfold bB
    split
    · rename_i hi
      obtain ⟨q1, q2⟩ := ((h3 i hi).2).le (by decide)
      omega
    · omega
  have hv : ∀ i, i < 400 → m.2.2.1 12 i = Int32.ofNat (bB m i) := by
    intro i hi
    unfold bB
    rw [if_pos hi]
    exact (((h3 i hi).2).le (by decide)).2
  exact ⟨L, ⟨hL, h1, fun i hi => by rw [(h3 i hi).1]; exact hv i hi, hb⟩, ⟨hL, h2, hv, hb⟩⟩
theorem m_start {lw : Bool} {B : Nat → Nat} {L : Nat} (h : tpM B L m) (hw : wdM m) : ∃ m', fX12_beginText (if lw = true then 0 else 1) m = some ((), m') ∧ Mv lw B L 0 0 [] [] 0 m' ∧ m'.1 21 = Int32.ofNat 0 ∧ m'.1 18 = -1 ∧ fr [14, 15, 16, 18, 19, 20, 21, 23, 26] [17] [] m m' := by
  generalize ha : (if lw = true then (0 : Int32) else 1) = a
  have hgb : ∀ {α : Type} (x : Option α), gb a x = x := fun x => by
    rw [← ha]
    cases lw <;> rfl
  let m1 : St := sI (sI (sI (sI m 20 a) 15 0) 19 0) 18 (-1)
  have h1 : tpM B L m1 := h
  have h15 : m1.1 15 = Int32.ofNat (lxP B L 0) := rfl
  have hn := m_nextToken (j := 0) h1 h15
  refine ⟨sI (sI (sI (tkS m1 (Int32.ofNat (tP B L 0)) (Int32.ofNat (lxP B L (0 + 1))) (Int32.ofNat (tSort B L 0)) (tWorth B L 0)) 21 0) 23 0) 26 0, ?_, ⟨h, ⟨rfl, rfl, rfl, rfl⟩, hw, ?_, rfl, rfl, rfl, by omega, trivial, ⟨rfl, trivial, rfl, (fun _ i x hx => by cases hx), Nat.le_refl _, trivial, by omega, trivial⟩, (fun i hi => absurd hi (by omega)), rfl⟩, rfl, rfl, ?_⟩
  · unfold fX12_beginText fX12_begin
    rw [hgb, lt_v, lt_v, lt_v, lt_v]
    rw [hn, bd_v, bd_v, lt_v, lt_v, lt_v]
  · exact ha.symm
  · have f1 : fr [14, 15, 16, 18, 19, 20, 21, 23, 26] [17] [] m m1 := (((fr.sI (by decide)).tr (fr.sI (by decide))).tr (fr.sI (by decide))).tr (fr.sI (by decide))
    have f2 : fr [14, 15, 16, 18, 19, 20, 21, 23, 26] [17] [] m1 (tkS m1 (Int32.ofNat (tP B L 0)) (Int32.ofNat (lxP B L (0 + 1))) (Int32.ofNat (tSort B L 0)) (tWorth B L 0)) := by
      refine ⟨fun k hk => ?_, fun k hk => ?_, fun _ _ => rfl, rfl⟩
      · exact tkS_r (fun e => hk (by rw [e]; decide)) (fun e => hk (by rw [e]; decide)) (fun e => hk (by rw [e]; decide))
      · show va_up m1.2.1 17 _ k = _
        rw [vup_v, if_neg (fun e => hk (by rw [e]; decide))]
    exact (((f1.tr f2).tr (fr.sI (by decide))).tr (fr.sI (by decide))).tr (fr.sI (by decide))
theorem c_start {lw : Bool} {B : Nat → Nat} {L : Nat} (h : tpC B L c) : ∃ T c', (∀ K : St → Option (Int32 × St), bd (fX10_split fz c) (fun _ st11 => bd (fX8_clear fz st11) (fun _ st13 => gb (if lw = true then (1 : Int32) else 0) (lt (sI st13 702 (if lw = true then (1 : Int32) else 0)) (fun st14 => lt (sI st14 703 (0 : Int32)) (fun st15 => bd (fX9_lookAt (0 : Int32) fz st15) (fun _ st17 => K st17)))))) = K c') ∧ Cp lw B L T 0 0 [] c' ∧ c'.1 605 = Int32.ofNat 0 ∧ fr [505, 604, 605, 702, 703, 704, 705, 706] [] [501, 502, 503] c c' := by
  obtain ⟨c1, T, a1, a2, a3, a4, a5, a6⟩ := c_split (fz := fz) h
  generalize ha : (if lw = true then (1 : Int32) else 0) = a
  have hgb : ∀ {α : Type} (x : Option α), gb a x = x := fun x => by
    rw [← ha]
    cases lw <;> rfl
  let c2 : St := sI (sI (sI (sI c1 604 0) 605 0) 702 a) 703 0
  obtain ⟨k0, k1, k2⟩ := a2.2 0 (by omega)
  have h505 : c2.1 505 = Int32.ofNat (T + 1) := a2.1
  refine ⟨T, sI (sI (sI c2 704 0) 705 (c1.2.2.1 501 0)) 706 (c1.2.2.1 503 0), fun K => ?_, ⟨⟨⟨a2.1, a2.2⟩, a3, a4, a5, h.2.2.2⟩, Nat.zero_le _, rfl, k0, k2, rfl, by omega, ha.symm, ⟨rfl, (fun i x hx => by cases hx)⟩, Nat.le_refl _⟩, rfl, ?_⟩
  · unfold fX8_clear fX9_lookAt fX9_lookAt_b42
    rw [a1, bd_v, lt_v, lt_v, bd_v, hgb, lt_v, lt_v]
    rw [h505, if_neg (show ¬ (Int32.ofNat (T + 1) ≤ 0) from fun q => by have := (oN_le (b := 0) (by omega) (by decide)).mp q; omega), lt_v, show (0 : Int32) = Int32.ofNat 0 from rfl, gi_N (show 0 < 401 by decide) (by decide), lt_v, gi_N (show 0 < 401 by decide) (by decide), lt_v, bd_v]
    rfl
  · have f1 : fr [505, 604, 605, 702, 703, 704, 705, 706] [] [501, 502, 503] c c1 := a6.up (by decide) (by decide) (by decide)
    exact ((((((f1.tr (fr.sI (by decide))).tr (fr.sI (by decide))).tr (fr.sI (by decide))).tr (fr.sI (by decide))).tr (fr.sI (by decide))).tr (fr.sI (by decide))).tr (fr.sI (by decide))
end Begin
