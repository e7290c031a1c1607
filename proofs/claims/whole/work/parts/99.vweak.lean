/-! T2, the reference's reader over any pile: written by mk99v.py out of parts 46, 47, 59, 61, 63, 64, 65 -/
def Mqv (bb : Bool) (j : Nat) (P C : Cd) (st : St) : Prop := (P = P) ∧ True ∧ st.1 23 = Int32.ofNat C.length ∧ (bb = true → codeR (st.2.2.1 24) (st.2.2.1 25) C) ∧ C.length ≤ j ∧ True ∧ j ≤ 400 ∧ True
def Mv (lw : Bool) (B : Nat → Nat) (L j n : Nat) (P C : Cd) (o : Nat) (st : St) : Prop := tpM B L st ∧ tokM B L j st ∧ wdM st ∧ st.1 20 = (if lw = true then 0 else 1) ∧ st.1 19 = 0 ∧ st.1 26 = Int32.ofNat n ∧ (o = o) ∧ n ≤ 50 ∧ True ∧ Mqv true j P C st ∧ (∀ i, i < j → tP B L i < L) ∧ st.1 18 = -1
def Mbv (B : Nat → Nat) (L e : Nat) (st : St) : Prop := st.1 19 = 1 ∧ st.1 18 = Int32.ofNat (tP B L e) ∧ e ≤ 400 ∧ ∃ j P C, Mqv false j P C st
theorem Mqv.fr {bb : Bool} {j : Nat} {P C : Cd} {st st' : St} {I J A : List Nat} (h : Mqv bb j P C st) (f : fr I J A st st') (hI : 29 ∉ I ∧ 23 ∉ I) (hA : 24 ∉ A ∧ 25 ∉ A ∧ 27 ∉ A ∧ 28 ∉ A) : Mqv bb j P C st' := by
  obtain ⟨h1, h2, h3, h4, h5⟩ := h
  exact ⟨h1, h2, by rw [f.1 23 hI.2]; exact h3, fun hb => by rw [f.2.2.1 24 hA.1, f.2.2.1 25 hA.2.1]; exact h4 hb, h5⟩
theorem Mqv.up {bb : Bool} {j j' : Nat} {P C : Cd} {st : St} (h : Mqv bb j P C st) (h1 : j ≤ j') (h2 : j' ≤ 400) : Mqv bb j' P C st := ⟨h.1, trivial, h.2.2.1, h.2.2.2.1, Nat.le_trans h.2.2.2.2.1 h1, trivial, h2, trivial⟩
theorem Mqv.weak {bb : Bool} {j : Nat} {P C : Cd} {st : St} (h : Mqv bb j P C st) : Mqv false j P C st := ⟨h.1, trivial, h.2.2.1, (fun q => by cases q), h.2.2.2.2.1, trivial, h.2.2.2.2.2.2.1, trivial⟩
theorem Mp.v {lw : Bool} {B : Nat → Nat} {L j n o o' : Nat} {P P' C : Cd} {st : St} (h : Mp lw B L j n P C o st) : Mv lw B L j n P' C o' st := by
  obtain ⟨a1, a2, a3, a4, a5, a6, a7, a8, a9, a10, a11⟩ := h
  exact ⟨a1, a2, a3, a4, a5, a6, rfl, a8, trivial, ⟨rfl, trivial, a10.2.2.1, a10.2.2.2.1, Nat.le_trans (Nat.le_add_right _ _) a10.2.2.2.2.1, trivial, a10.2.2.2.2.2.2.1, trivial⟩, a11⟩
theorem Mv.start {lw : Bool} {B : Nat → Nat} {L j n o : Nat} {P C : Cd} {st : St} (h : Mv lw B L j n P C o st) : Mp lw B L j n [] C 0 (sI (sI st 29 0) 30 0) ∧ PF st (sI (sI st 29 0) 30 0) := by
  have hf : fr [29, 30] [] [] st (sI (sI st 29 0) 30 0) := (fr.sI (k := 29) (by decide)).tr (fr.sI (k := 30) (by decide))
  obtain ⟨a1, a2, a3, a4, a5, a6, a7, a8, a9, a10, a11⟩ := h
  obtain ⟨m1, m2, m3, m4, m5, m6, m7, m8⟩ := a10
  exact ⟨⟨a1.fr hf (by decide) (by decide), a2.fr hf (by decide) (by decide), a3.fr hf, by rw [hf.1 20 (by decide)]; exact a4, by rw [hf.1 19 (by decide)]; exact a5, by rw [hf.1 26 (by decide)]; exact a6, rfl, a8, Nat.zero_le _, ⟨rfl, trivial, m3, m4, by show C.length + 0 ≤ j; omega, Nat.zero_le _, m7, fun x hx => (by cases hx)⟩, a11⟩, fr.up hf (by decide) (by decide) (by decide)⟩
theorem z_z {st : St} : sI (sI (sI (sI st 29 0) 30 0) 29 0) 30 0 = sI (sI st 29 0) 30 0 := by
  unfold sI
  have : va_up (va_up (va_up (va_up st.1 29 0) 30 0) 29 0) 30 0 = va_up (va_up st.1 29 0) 30 (0 : Int32) := by
    funext k
    simp only [vup_v]
    by_cases h1 : k = 30
    · simp only [if_pos h1]
    · simp only [if_neg h1]
      by_cases h2 : k = 29
      · simp only [if_pos h2]
      · simp only [if_neg h2]
  rw [this]
theorem rxp_z {v : Int32} {st : St} : fX12_readExpression v st = fX12_readExpression v (sI (sI st 29 0) 30 0) := by
  unfold fX12_readExpression
  simp only [lt_v, z_z]
theorem m_readSumV {lw : Bool} {B : Nat → Nat} {L j n o bc : Nat} {P C : Cd} {st : St} (h : Mv lw B L j n P C o st) : (∀ r, sS lw (tK B L) (tV B L) 10 0 C.length bc j n = .ok r → ∃ st', fX12_readExpression 0 st = some ((), st') ∧ Mv lw B L r.1 r.2.1 [] (C ++ r.2.2.1) 0 st' ∧ PF st st') ∧ (∀ e, sS lw (tK B L) (tV B L) 10 0 C.length bc j n = .error e → ∃ st', fX12_readExpression 0 st = some ((), st') ∧ st'.1 19 = 1 ∧ st'.1 18 = Int32.ofNat (tP B L e) ∧ PF st st') := by
  obtain ⟨h0, hf0⟩ := h.start
  rw [rxp_z]
  obtain ⟨g1, g2⟩ := m_readSum (bc := bc) h0
  refine ⟨fun r hr => ?_, fun e he => ?_⟩
  · obtain ⟨st', a1, a2, a3⟩ := g1 r hr
    exact ⟨st', a1, a2.v, hf0.tr a3⟩
  · obtain ⟨st', a1, a2, a3, a4⟩ := g2 e he
    exact ⟨st', a1, a2, a3, hf0.tr a4⟩
theorem m_readTestV {lw : Bool} {B : Nat → Nat} {L j n o bc : Nat} {P C : Cd} {st : St} (h : Mv lw B L j n P C o st) (hj : 1 ≤ j) : (∀ r, sT lw (tK B L) (tV B L) 10 0 C.length bc j n = .ok r → ∃ st', fX12_readExpression 1 st = some ((), st') ∧ Mv lw B L r.1 r.2.1 [] (C ++ r.2.2.1) 0 st' ∧ PF st st') ∧ (∀ e, sT lw (tK B L) (tV B L) 10 0 C.length bc j n = .error e → ∃ st', fX12_readExpression 1 st = some ((), st') ∧ st'.1 19 = 1 ∧ st'.1 18 = Int32.ofNat (tP B L e) ∧ PF st st') := by
  obtain ⟨h0, hf0⟩ := h.start
  rw [rxp_z]
  obtain ⟨g1, g2⟩ := m_readTest (bc := bc) h0 hj
  refine ⟨fun r hr => ?_, fun e he => ?_⟩
  · obtain ⟨st', a1, a2, a3⟩ := g1 r hr
    exact ⟨st', a1, a2.v, hf0.tr a3⟩
  · obtain ⟨st', a1, a2, a3, a4⟩ := g2 e he
    exact ⟨st', a1, a2, a3, hf0.tr a4⟩
theorem Mv.hB {lw : Bool} {B : Nat → Nat} {L j n o : Nat} {P C : Cd} {st : St} (h : Mv lw B L j n P C o st) : ∀ i, B i < 256 := h.1.2.2.2
theorem Mv.q {lw : Bool} {B : Nat → Nat} {L j n o : Nat} {P C : Cd} {st : St} (h : Mv lw B L j n P C o st) : Mqv true j P C st := h.2.2.2.2.2.2.2.2.2.1
theorem Mv.j4 {lw : Bool} {B : Nat → Nat} {L j n o : Nat} {P C : Cd} {st : St} (h : Mv lw B L j n P C o st) : j ≤ 400 := h.q.2.2.2.2.2.2.1
theorem Mv.lt {lw : Bool} {B : Nat → Nat} {L j n o : Nat} {P C : Cd} {st : St} (h : Mv lw B L j n P C o st) (hk : tK B L j ≠ 257) : tP B L j < L ∧ j + 1 ≤ 400 := by
  have h1 : tP B L j < L := by
    rcases Nat.lt_or_ge (tP B L j) L with h2 | h2
    · exact h2
    · exact absurd ((tok_end h.hB).mp (by unfold tSort; rw [if_pos h2])) hk
  refine ⟨h1, ?_⟩
  have h2 := lxP_j (B := B) (L := L) (j + 1) (fun i hi => by
    rcases Nat.lt_or_ge i j with h3 | h3
    · exact h.2.2.2.2.2.2.2.2.2.2.1 i h3
    · rw [show i = j by omega]; exact h1)
  have h3 := @lxP_le B L (j + 1)
  have h4 := h.1.1
  omega
theorem Mv.isWord {lw : Bool} {B : Nat → Nat} {L j n o : Nat} {P C : Cd} {st : St} (h : Mv lw B L j n P C o st) {i : Nat} (hi : i < 29) {a : Int64} (ha : a = Int64.ofNat (wcd i)) : fX12_isWord a st = some (if tK B L j = 300 + i then 1 else 0, st) := by
  unfold fX12_isWord
  have hw := tok_word (L := L) (j := j) h.hB hi
  obtain ⟨-, ⟨t1, t2, t3, t4⟩, -⟩ := h
  have h3 := @tSort_le B L j
  rw [t3, t4, ha, oN_lit]
  by_cases hk : tK B L j = 300 + i
  · obtain ⟨h1, h2⟩ := hw.mpr hk
    rw [if_eqT h1, if_pos ((cmp_eq _ _).mpr h2), if_pos hk]
    rfl
  · rw [if_neg hk]
    by_cases h1 : tSort B L j = 1
    · rw [if_eqT h1, if_neg (fun q => hk (hw.mp ⟨h1, (cmp_eq _ _).mp q⟩))]
      rfl
    · rw [if_eqF h1 (by omega) (by omega)]
      rfl
theorem Mv.isSign {lw : Bool} {B : Nat → Nat} {L j n o : Nat} {P C : Cd} {st : St} (h : Mv lw B L j n P C o st) {c : Nat} (hc : c < 256) : fX12_isSign (Int32.ofNat c) st = some (if tK B L j = c then 1 else 0, st) := by
  unfold fX12_isSign
  have hw := tok_sign (L := L) (j := j) h.hB hc
  obtain ⟨-, ⟨t1, t2, t3, t4⟩, -⟩ := h
  have h3 := @tSort_le B L j
  rw [t3, t4, o64 (by omega), oN_lit]
  by_cases hk : tK B L j = c
  · obtain ⟨h1, h2⟩ := hw.mpr hk
    rw [if_eqT h1, if_pos ((cmp_eq _ _).mpr h2), if_pos hk]
    rfl
  · rw [if_neg hk]
    by_cases h1 : tSort B L j = 3
    · rw [if_eqT h1, if_neg (fun q => hk (hw.mp ⟨h1, (cmp_eq _ _).mp q⟩))]
      rfl
    · rw [if_eqF h1 (by omega) (by omega)]
      rfl
theorem Mv.next {lw : Bool} {B : Nat → Nat} {L j n o : Nat} {P C : Cd} {st : St} (h : Mv lw B L j n P C o st) (hk : tK B L j ≠ 257) : ∃ st', fX12_nextToken st = some ((), st') ∧ Mv lw B L (j + 1) n P C o st' ∧ fr [14, 15, 16] [17] [] st st' := by
  obtain ⟨hl, hl2⟩ := h.lt hk
  have hq := h.q
  obtain ⟨a1, a2, a3, a4, a5, a6, a7, a8, a9, a10, a11⟩ := h
  have hf : fr [14, 15, 16] [17] [] st (tkS st (Int32.ofNat (tP B L (j + 1))) (Int32.ofNat (lxP B L (j + 1 + 1))) (Int32.ofNat (tSort B L (j + 1))) (tWorth B L (j + 1))) := by
    refine ⟨fun k hk => ?_, fun k hk => ?_, fun _ _ => rfl, rfl⟩
    · exact tkS_r (fun e => hk (by rw [e]; decide)) (fun e => hk (by rw [e]; decide)) (fun e => hk (by rw [e]; decide))
    · show va_up st.2.1 17 _ k = _
      rw [vup_v, if_neg (fun e => hk (by rw [e]; decide))]
  refine ⟨_, m_nextToken a1 a2.2.1, ⟨a1.fr hf (by decide) (by decide), ⟨rfl, rfl, rfl, rfl⟩, a3.fr hf, ?_, ?_, ?_, ?_, a8, a9, (a10.fr hf (by decide) (by decide)).up (Nat.le_succ j) hl2, ?_⟩, hf⟩
  · rw [hf.1 20 (by decide)]; exact a4
  · rw [hf.1 19 (by decide)]; exact a5
  · rw [hf.1 26 (by decide)]; exact a6
  · exact a7
  · refine ⟨?_, by rw [hf.1 18 (by decide)]; exact a11.2⟩
    intro i hi
    rcases Nat.lt_or_ge i j with h3 | h3
    · exact a11.1 i h3
    · rw [show i = j by omega]; exact hl
theorem Mv.must1 {lw : Bool} {B : Nat → Nat} {L j n o : Nat} {P C : Cd} {st : St} (h : Mv lw B L j n P C o st) (hk : tK B L j ≠ 257) : ∃ st', fX12_must 1 st = some ((), st') ∧ Mv lw B L (j + 1) n P C o st' ∧ fr [14, 15, 16] [17] [] st st' := by
  obtain ⟨st', g1, g2, g3⟩ := h.next hk
  refine ⟨st', ?_, g2, g3⟩
  unfold fX12_must fX12_must_b24
  rw [h.2.2.2.2.1, if_pos rfl, if_neg (by decide), if_pos rfl, g1]
  rfl
theorem Mv.must0 {lw : Bool} {B : Nat → Nat} {L j n o : Nat} {P C : Cd} {st : St} (h : Mv lw B L j n P C o st) : ∃ st', fX12_must 0 st = some ((), st') ∧ Mbv B L j st' ∧ fr [18, 19] [] [] st st' ∧ Mqv true j P C st' := by
  have hf : fr [18, 19] [] [] st (sI (sI st 19 1) 18 (st.1 14)) := (fr.sI (k := 19) (by decide)).tr (fr.sI (k := 18) (by decide))
  have hq := h.q.fr hf (by decide) (by decide)
  refine ⟨sI (sI st 19 1) 18 (st.1 14), ?_, ⟨rfl, h.2.1.1, h.j4, j, P, C, hq.weak⟩, hf, hq⟩
  unfold fX12_must fX12_must_b24
  rw [h.2.2.2.2.1, if_pos rfl, if_pos rfl, lt_v, lt_v]
  rfl
theorem Mv.code {lw : Bool} {B : Nat → Nat} {L j n o : Nat} {P C : Cd} {st : St} (h : Mv lw B L j n P C o st) {st' : St} {P' C' : Cd} {I : List Nat} {A : List Nat} (f : fr I [] A st st') (hI : 13 ∉ I ∧ 14 ∉ I ∧ 15 ∉ I ∧ 16 ∉ I ∧ 20 ∉ I ∧ 19 ∉ I ∧ 26 ∉ I ∧ 30 ∉ I ∧ 18 ∉ I) (hA : 12 ∉ A) (hq : Mqv true j P' C' st') : Mv lw B L j n P' C' o st' := by
  obtain ⟨a1, a2, a3, a4, a5, a6, a7, a8, a9, a10, a11⟩ := h
  obtain ⟨i13, i14, i15, i16, i20, i19, i26, i30, i18⟩ := hI
  exact ⟨a1.fr f i13 hA, a2.fr f ⟨i14, i15, i16⟩ (by decide), a3.fr f, by rw [f.1 20 i20]; exact a4, by rw [f.1 19 i19]; exact a5, by rw [f.1 26 i26]; exact a6, a7, a8, a9, hq, a11.1, by rw [f.1 18 i18]; exact a11.2⟩
theorem Mv.number {lw : Bool} {B : Nat → Nat} {L j n o : Nat} {P C : Cd} {st : St} (h : Mv lw B L j n P C o st) {lo hi : Nat} (hl : lo ≤ 1) (hh : hi ≤ 20) (hk : tK B L j = 256) (h1 : lo ≤ tV B L j) (h2 : tV B L j ≤ hi) : ∃ st', fX12_number (Int64.ofNat lo) (Int64.ofNat hi) st = some (Int32.ofNat (tV B L j), st') ∧ Mv lw B L (j + 1) n P C o st' ∧ fr [14, 15, 16] [17] [] st st' := by
  obtain ⟨st1, g1, g2, g3⟩ := h.must1 (by omega)
  have hs := (tok_num h.hB).mpr hk
  obtain ⟨v1, v2, v3⟩ := tok_val (m := hi) hs (by omega)
  have ev := v2 h2
  refine ⟨st1, ?_, g2, g3⟩
  unfold fX12_number fX12_number_b33
  have e16 : st.1 16 = 2 := by rw [h.2.1.2.2.1, hs]; rfl
  have e17 : st.2.1 17 = Int64.ofNat (tV B L j) := by rw [h.2.1.2.2.2]; exact ev
  have eT : (Int64.ofNat (tV B L j)).toInt32 = Int32.ofNat (tV B L j) := by
    rw [← o64 (by omega)]; exact Int32.toInt32_toInt64 _
  have ein : fX12_in (Int64.ofNat (tV B L j)) (Int64.ofNat lo) (Int64.ofNat hi) = some 1 := by
    rw [m_in, if_pos]
    constructor
    · rw [Int64.le_iff_toInt_le, Int64.toInt_ofNat_of_lt (by omega), Int64.toInt_ofNat_of_lt (by omega)]; omega
    · rw [Int64.le_iff_toInt_le, Int64.toInt_ofNat_of_lt (by omega), Int64.toInt_ofNat_of_lt (by omega)]; omega
  rw [lt_v, e16, if_pos rfl, e17, ein, bs_v, if_neg (by decide), g1, bd_v, eT]
theorem Mv.numberBad {lw : Bool} {B : Nat → Nat} {L j n o : Nat} {P C : Cd} {st : St} (h : Mv lw B L j n P C o st) {lo hi : Nat} (hl : lo ≤ 1) (hh : hi ≤ 20) (hb : ¬ (tK B L j = 256 ∧ lo ≤ tV B L j ∧ tV B L j ≤ hi)) : ∃ st', fX12_number (Int64.ofNat lo) (Int64.ofNat hi) st = some ((tWorth B L j).toInt32, st') ∧ Mbv B L j st' ∧ fr [18, 19] [] [] st st' ∧ Mqv true j P C st' := by
  obtain ⟨st1, g1, g2, g3, g4⟩ := h.must0
  refine ⟨st1, ?_, g2, g3, g4⟩
  unfold fX12_number fX12_number_b32 fX12_number_b33
  have h3 := @tSort_le B L j
  rw [lt_v, h.2.1.2.2.1, h.2.1.2.2.2, oN_lit]
  by_cases hs : tSort B L j = 2
  · obtain ⟨v1, v2, v3⟩ := tok_val (m := hi) hs (by omega)
    obtain ⟨w1, w2, w3⟩ := tok_val (m := 1000) hs (by omega)
    have hk := (tok_num h.hB).mp hs
    have ein : fX12_in (tWorth B L j) (Int64.ofNat lo) (Int64.ofNat hi) = some 0 := by
      rw [m_in, if_neg]
      intro q
      have q2 := v1.mp q.2
      have q3 := v2 q2
      have q1 := q.1
      rw [q3, Int64.le_iff_toInt_le, Int64.toInt_ofNat_of_lt (by omega), Int64.toInt_ofNat_of_lt (by omega)] at q1
      exact hb ⟨hk, by omega, q2⟩
    rw [if_eqT hs, ein, bs_v, if_pos rfl, g1, bd_v]
  · rw [if_eqF hs (by omega) (by omega), g1, bd_v]
section LawMV
variable {lw : Bool} {B : Nat → Nat} {L j n o : Nat} {P C : Cd} {st : St}
theorem Mv.keep (h : Mv lw B L j n P C o st) {st' : St} {I A : List Nat} (f : fr I [] A st st') (hI : 13 ∉ I ∧ 14 ∉ I ∧ 15 ∉ I ∧ 16 ∉ I ∧ 20 ∉ I ∧ 19 ∉ I ∧ 26 ∉ I ∧ 30 ∉ I ∧ 29 ∉ I ∧ 23 ∉ I ∧ 18 ∉ I) (hA : 12 ∉ A ∧ 24 ∉ A ∧ 25 ∉ A ∧ 27 ∉ A ∧ 28 ∉ A) : Mv lw B L j n P C o st' := by
  obtain ⟨i1, i2, i3, i4, i5, i6, i7, i8, i9, i10, i18⟩ := hI
  obtain ⟨x1, x2, x3, x4, x5⟩ := hA
  exact h.code f ⟨i1, i2, i3, i4, i5, i6, i7, i8, i18⟩ x1 (h.q.fr f ⟨i9, i10⟩ ⟨x2, x3, x4, x5⟩)
theorem m_headAtV (h : Mv lw B L j n P C o st) : lp (fun _ _ _ => none) fX12_readLaw_b4 6000 (-1 : Int32) (0 : Int32) st = (if 300 ≤ tK B L j ∧ tK B L j ≤ 303 then (if 12 ≤ (st.1 21) then fX12_readLaw_b53 (Int32.ofNat (tK B L j - 300)) st else fX12_readLaw_b54 (Int32.ofNat (tK B L j - 300)) 1 st) else fX12_readLaw_b53 (-1) st) := by
  have hloop : ∀ (k m : Nat), k ≤ 4 → lp (fun _ _ _ => none) fX12_readLaw_b4 (m + k) (if 300 ≤ tK B L j ∧ tK B L j < 304 - k then Int32.ofNat (tK B L j - 300) else -1) (Int32.ofNat (4 - k)) st = lp (fun _ _ _ => none) fX12_readLaw_b4 m (if 300 ≤ tK B L j ∧ tK B L j < 304 then Int32.ofNat (tK B L j - 300) else -1) (Int32.ofNat 4) st := by
    intro k
    induction k with
    | zero => intro m _; rfl
    | succ k ih =>
      intro m hk
      rw [← ih m (by omega), ← Nat.add_assoc, lp_s]
      generalize lp (fun _ _ _ => none) fX12_readLaw_b4 (m + k) = kk
      conv => lhs; unfold fX12_readLaw_b4
      rw [oN_lit, if_leF (by omega) (by omega), gi_N (by omega) (by omega), oN_tn (by omega), h.2.2.1.2.2.1 _ (by omega), h.isWord (i := 4 - (k + 1)) (by omega) rfl, bd_v]
      unfold fX12_readLaw_b27
      have e10 : 4 - (k + 1) + 1 = 4 - k := by omega
      by_cases hc : tK B L j = 300 + (4 - (k + 1))
      · rw [if_pos hc]
        rw [if_neg (show ¬ ((1 : Int32) = 0) by decide), lt_v, oN_s, e10]
        rw [if_pos (show 300 ≤ tK B L j ∧ tK B L j < 304 - k by omega), show tK B L j - 300 = 4 - (k + 1) by omega]
      · rw [if_neg hc, if_pos rfl, lt_v, oN_s, e10]
        by_cases hd : 300 ≤ tK B L j ∧ tK B L j < 304 - (k + 1)
        · rw [if_pos hd, if_pos (show 300 ≤ tK B L j ∧ tK B L j < 304 - k by omega)]
        · rw [if_neg hd, if_neg (show ¬ (300 ≤ tK B L j ∧ tK B L j < 304 - k) by omega)]
  have := hloop 4 5996 (Nat.le_refl _)
  rw [if_neg (show ¬ (300 ≤ tK B L j ∧ tK B L j < 304 - 4) by omega)] at this
  refine this.trans ?_
  rw [show (5996 : Nat) = 5995 + 1 from rfl, lp_s]
  generalize lp (fun _ _ _ => none) fX12_readLaw_b4 5995 = kk
  unfold fX12_readLaw_b4
  rw [show (4 : Int32) = Int32.ofNat 4 from rfl, if_leT (Nat.le_refl _) (by omega)]
  by_cases hd : 300 ≤ tK B L j ∧ tK B L j < 304
  · rw [if_pos hd, if_pos (show 300 ≤ tK B L j ∧ tK B L j ≤ 303 by omega), if_neg (oN_ne1 (by omega))]
  · rw [if_neg hd, if_neg (show ¬ (300 ≤ tK B L j ∧ tK B L j ≤ 303) by omega), if_pos rfl]
end LawMV
theorem m_readLawV {B : Nat → Nat} {L j n o k bc : Nat} {P C : Cd} {st : St} (h : Mv true B L j n P C o st) (h21 : st.1 21 = Int32.ofNat k) (hk : k ≤ 12) :
    (∀ x, sLawC (tK B L) (tV B L) k C.length bc j n = .ok x → ∃ st' P' o', fX12_readLaw st = some ((), st') ∧ Mv true B L x.2.2.2.1 x.2.2.2.2.1 P' (C ++ x.2.1.2.2.1 ++ x.2.2.2.2.2.1) o' st' ∧ st'.1 21 = Int32.ofNat (k + 1) ∧ lawT C.length k x.1 x.2.1.2.2.1.length x.2.2.2.2.2.1.length st' ∧ (∀ q, q < 8 * k → st'.2.2.1 22 q = st.2.2.1 22 q) ∧ LF st st') ∧
    (∀ e, sLawC (tK B L) (tV B L) k C.length bc j n = .error e → ∃ st', fX12_readLaw st = some ((), st') ∧ st'.1 19 = 1 ∧ st'.1 18 = Int32.ofNat (tP B L e) ∧ LF st st') := by
  have hu : fX12_readLaw st = lp (fun _ _ _ => none) fX12_readLaw_b4 6000 (-1 : Int32) (0 : Int32) st := rfl
  rw [hu, m_headAtV h]
  unfold sLawC
  -- the fault at the head
  have hbad : ∀ v, ∃ st', fX12_readLaw_b53 v st = some ((), st') ∧ st'.1 19 = 1 ∧ st'.1 18 = Int32.ofNat (tP B L j) ∧ LF st st' := by
    intro v
    obtain ⟨st1, g1, g2, g3, g4⟩ := h.must0
    refine ⟨st1, ?_, g2.1, g2.2.1, g3.up (by decide) (by decide) (by decide)⟩
    unfold fX12_readLaw_b53 fX12_readLaw_b54
    rw [g1, bd_v, g2.1, if_neg (by decide)]
  by_cases hh : ¬ (300 ≤ tK B L j ∧ tK B L j ≤ 303)
  · rw [if_neg hh, if_pos (Or.inl hh)]
    refine ⟨fun x hx => (by cases hx), fun e he => ?_⟩
    cases he
    exact hbad _
  replace hh := Decidable.not_not.mp hh
  rw [if_pos hh, h21, show (12 : Int32) = Int32.ofNat 12 from rfl]
  by_cases hk12 : 12 ≤ k
  · rw [if_leT hk12 (by omega), if_pos (Or.inr hk12)]
    refine ⟨fun x hx => (by cases hx), fun e he => ?_⟩
    cases he
    exact hbad _
  rw [if_leF (by omega) (by omega), if_neg (by omega)]
  obtain ⟨st1, g1, g2, g3⟩ := h.must1 (by omega)
  have e21 : st1.1 21 = Int32.ofNat k := by rw [g3.1 21 (by decide)]; exact h21
  obtain ⟨g, c1, c2⟩ := m_clear (v1 := Int32.ofNat (tK B L j - 300)) (k := k) (by omega) 8 0 5992 st1 (by omega)
  -- up to the clause's start
  have hst : fX12_readLaw_b54 (Int32.ofNat (tK B L j - 300)) 1 st = lp (fun _ _ _ _ => none) fX12_readLaw_b75 5992 (Int32.ofNat (tK B L j - 300)) (Int32.ofNat (8 * k)) (Int32.ofNat 8) (sA st1 22 g) := by
    unfold fX12_readLaw_b54
    rw [g1, bd_v, g2.2.2.2.2.1, if_pos rfl, lt_v, e21, show (8 : Int32) = Int32.ofNat 8 from rfl, oN_mul]
    exact c1
  rw [hst, show (5992 : Nat) = 5991 + 1 from rfl, lp_s]
  generalize lp (fun _ _ _ _ => none) fX12_readLaw_b75 5991 = kk
  unfold fX12_readLaw_b75
  rw [show (8 : Int32) = Int32.ofNat 8 from rfl, if_leT (Nat.le_refl _) (by omega), gi_N (by omega) (by omega), oN_tn (by omega), lt_v, lt_v]
  have q21 : ∀ f, (sA (sA st1 22 g) 22 f).1 21 = Int32.ofNat k := fun _ => e21
  rw [q21, oN_s, show (3 : Int32) = Int32.ofNat 3 from rfl, oN_add, gi_N (by omega) (by omega), oN_tn (by omega), lt_v]
  have q23 : ∀ f, (sI (sA (sA st1 22 g) 22 f) 21 (Int32.ofNat (k + 1))).1 23 = Int32.ofNat C.length := fun _ => g2.q.2.2.1
  rw [q23]
  -- the state ahead of the sum
  generalize hs2 : sA (sI (sA (sA st1 22 g) 22 (upd ((sA st1 22 g).2.2.1 22) (8 * k) (Int32.ofNat (tK B L j - 300)))) 21 (Int32.ofNat (k + 1))) 22 (upd ((sI (sA (sA st1 22 g) 22 (upd ((sA st1 22 g).2.2.1 22) (8 * k) (Int32.ofNat (tK B L j - 300)))) 21 (Int32.ofNat (k + 1))).2.2.1 22) (8 * k + 3) (Int32.ofNat C.length)) = st2
  have hf2 : fr [21] [] [22] st1 st2 := by
    rw [← hs2]
    exact (((fr.sA (k := 22) (by decide)).tr (fr.sA (k := 22) (by decide))).tr (fr.sI (k := 21) (by decide))).tr (fr.sA (k := 22) (by decide))
  have hM2 : Mv true B L (j + 1) n P C o st2 := g2.keep hf2 (by decide) (by decide)
  have t21 : st2.1 21 = Int32.ofNat (k + 1) := by rw [← hs2]; rfl
  have t0 : st2.2.2.1 22 (8 * k) = Int32.ofNat (tK B L j - 300) := by
    rw [← hs2]
    show upd (upd g (8 * k) _) (8 * k + 3) _ (8 * k) = _
    rw [upd_v, if_neg (by omega), upd_v, if_pos rfl]
  have t3 : st2.2.2.1 22 (8 * k + 3) = Int32.ofNat C.length := by
    rw [← hs2]
    show upd (upd g (8 * k) _) (8 * k + 3) _ (8 * k + 3) = _
    rw [upd_v, if_pos rfl]
  have told : ∀ q, q < 8 * k → st2.2.2.1 22 q = st.2.2.1 22 q := by
    intro q hq
    rw [← hs2]
    show upd (upd g (8 * k) _) (8 * k + 3) _ q = _
    rw [upd_v, if_neg (by omega), upd_v, if_neg (by omega), c2 q hq, g3.2.2.1 22 (by decide)]
  have hF2 : LF st st2 := (g3.up (by decide) (by decide) (by decide)).tr (hf2.up (by decide) (by decide) (by decide))
  clear hs2 hst c1 c2
  -- behind the sum
  have rest : ∀ (r : Re) (st3 : St), (∃ P o, Mv true B L r.1 r.2.1 P (C ++ r.2.2.1) o st3) → 1 ≤ r.1 → LF st2 st3 → st3.1 21 = st2.1 21 → st3.2.2.1 22 = st2.2.2.1 22 →
      (∀ t, sIf true (tK B L) (tV B L) C.length bc r = .ok t → ∃ st' P' o', fX12_readLaw_b135 (Int32.ofNat (8 * k)) st3 = some ((), st') ∧ Mv true B L t.2.1 t.2.2.1 P' (C ++ r.2.2.1 ++ t.2.2.2.1) o' st' ∧ st'.1 21 = Int32.ofNat (k + 1) ∧ lawT C.length k (tK B L j - 300) r.2.2.1.length t.2.2.2.1.length st' ∧ (∀ q, q < 8 * k → st'.2.2.1 22 q = st.2.2.1 22 q) ∧ LF st st') ∧
      (∀ e, sIf true (tK B L) (tV B L) C.length bc r = .error e → ∃ st', fX12_readLaw_b135 (Int32.ofNat (8 * k)) st3 = some ((), st') ∧ st'.1 19 = 1 ∧ st'.1 18 = Int32.ofNat (tP B L e) ∧ LF st st') := by
    intro r st3 hM hr1 hL3 h21' h22'
    obtain ⟨P3, o3, hM3⟩ := hM
    have h23 : st3.1 23 = Int32.ofNat (C.length + r.2.2.1.length) := by rw [hM3.q.2.2.1, List.length_append]
    have hcap : C.length + r.2.2.1.length ≤ 400 := by have := hM3.q.2.2.2.2.1; have := hM3.j4; rw [List.length_append] at *; omega
    unfold fX12_readLaw_b135
    rw [show (4 : Int32) = Int32.ofNat 4 from rfl, show (5 : Int32) = Int32.ofNat 5 from rfl, oN_add, oN_add, gi_N (by omega) (by omega), oN_tn (by omega), lt_v, gi_N (by omega) (by omega), oN_tn (by omega), lt_v]
    have q23 : ∀ f, (sA st3 22 f).1 23 = Int32.ofNat (C.length + r.2.2.1.length) := fun _ => h23
    rw [h23, q23]
    generalize hs4 : sA (sA st3 22 (upd (st3.2.2.1 22) (8 * k + 4) (Int32.ofNat (C.length + r.2.2.1.length)))) 22 (upd ((sA st3 22 (upd (st3.2.2.1 22) (8 * k + 4) (Int32.ofNat (C.length + r.2.2.1.length)))).2.2.1 22) (8 * k + 5) (Int32.ofNat (C.length + r.2.2.1.length))) = st4
    have hf4 : fr [] [] [22] st3 st4 := by rw [← hs4]; exact (fr.sA (k := 22) (by decide)).tr (fr.sA (k := 22) (by decide))
    have hM4 : Mv true B L r.1 r.2.1 P3 (C ++ r.2.2.1) o3 st4 := hM3.keep hf4 (by decide) (by decide)
    have hF4 : LF st st4 := (hF2.tr hL3).tr (hf4.up (by decide) (by decide) (by decide))
    have e22 : st4.2.2.1 22 = upd (upd (st2.2.2.1 22) (8 * k + 4) (Int32.ofNat (C.length + r.2.2.1.length))) (8 * k + 5) (Int32.ofNat (C.length + r.2.2.1.length)) := by rw [← hs4, ← h22']; rfl
    have e21 : st4.1 21 = Int32.ofNat (k + 1) := by rw [hf4.1 21 (by decide), h21', t21]
    clear hs4
    -- the end of the clause
    have fin : ∀ (st5 : St) (bl : Nat), st5.1 23 = Int32.ofNat (C.length + r.2.2.1.length + bl) → st5.1 21 = Int32.ofNat (k + 1) → st5.2.2.1 22 = st4.2.2.1 22 → LF st st5 → ∃ st', fX12_readLaw_b185 (Int32.ofNat (8 * k)) st5 = some ((), st') ∧ fr [] [] [22] st5 st' ∧ st'.1 21 = Int32.ofNat (k + 1) ∧ lawT C.length k (tK B L j - 300) r.2.2.1.length bl st' ∧ (∀ q, q < 8 * k → st'.2.2.1 22 q = st.2.2.1 22 q) ∧ LF st st' := by
      intro st5 bl f1 f2 f3 f4
      have hf6 : fr [] [] [22] st5 (sA st5 22 (upd (st5.2.2.1 22) (8 * k + 6) (Int32.ofNat (C.length + r.2.2.1.length + bl)))) := fr.sA (by decide)
      refine ⟨_, ?_, hf6, f2, ⟨?_, ?_, ?_, ?_, ?_⟩, fun q hq => ?_, f4.tr (hf6.up (by decide) (by decide) (by decide))⟩
      · unfold fX12_readLaw_b185
        rw [show (6 : Int32) = Int32.ofNat 6 from rfl, oN_add, gi_N (by omega) (by omega), oN_tn (by omega), lt_v, f1]
      · show upd (st5.2.2.1 22) (8 * k + 6) _ (8 * k) = _
        rw [upd_v, if_neg (by omega), f3, e22, upd_v, if_neg (by omega), upd_v, if_neg (by omega), t0]
      · show upd (st5.2.2.1 22) (8 * k + 6) _ (8 * k + 3) = _
        rw [upd_v, if_neg (by omega), f3, e22, upd_v, if_neg (by omega), upd_v, if_neg (by omega), t3]
      · show upd (st5.2.2.1 22) (8 * k + 6) _ (8 * k + 4) = _
        rw [upd_v, if_neg (by omega), f3, e22, upd_v, if_neg (by omega), upd_v, if_pos rfl]
      · show upd (st5.2.2.1 22) (8 * k + 6) _ (8 * k + 5) = _
        rw [upd_v, if_neg (by omega), f3, e22, upd_v, if_pos rfl]
      · show upd (st5.2.2.1 22) (8 * k + 6) _ (8 * k + 6) = _
        rw [upd_v, if_pos rfl]
      · show upd (st5.2.2.1 22) (8 * k + 6) _ q = _
        rw [upd_v, if_neg (by omega), f3, e22, upd_v, if_neg (by omega), upd_v, if_neg (by omega), told q hq]
    have hw := hM4.isWord (i := 12) (a := 294) (by decide) (by decide +kernel)
    rw [hM4.2.2.2.2.1, if_pos rfl, hw, bd_v]
    unfold sIf
    by_cases hif : tK B L r.1 = 312
    · rw [if_pos hif, if_pos (show tK B L r.1 = 300 + 12 from hif), if_neg (show ¬ ((1 : Int32) = 0) by decide)]
      obtain ⟨st5, n1, n2, n3⟩ := hM4.next (by omega)
      rw [n1, bd_v]
      have hN3 : LF st st5 := hF4.tr (n3.up (by decide) (by decide) (by decide))
      obtain ⟨p1, p2⟩ := m_readTestV (bc := bc + r.2.2.2.1.length) n2 (by omega)
      rw [List.length_append] at p1 p2
      constructor
      · intro t ht
        obtain ⟨a, ha1, ha2⟩ := exb_ok ht
        cases ha2
        obtain ⟨st6, q1, q2, q3⟩ := p1 a ha1
        rw [q1, bd_v]
        obtain ⟨st7, s1, s2, s3, s4, s5, s6⟩ := fin st6 a.2.2.1.length (by rw [q2.q.2.2.1, List.length_append, List.length_append]) (by rw [q3.1 21 (by decide), n3.1 21 (by decide)]; exact e21) (by rw [q3.2.2.1 22 (by decide), n3.2.2.1 22 (by decide)]) (hN3.tr q3.lf)
        exact ⟨st7, _, _, s1, q2.keep s2 (by decide) (by decide), s3, s4, s5, s6⟩
      · intro e he
        rcases exb_err he with he | ⟨a, ha1, ha2⟩
        · obtain ⟨st6, q1, q2, q3, q4⟩ := p2 e he
          rw [q1, bd_v]
          have hf6 : ∀ f, fr [] [] [22] st6 (sA st6 22 f) := fun f => fr.sA (by decide)
          refine ⟨_, ?_, ?_, ?_, (hN3.tr q4.lf).tr ((hf6 (upd (st6.2.2.1 22) (8 * k + 6) (st6.1 23))).up (by decide) (by decide) (by decide))⟩
          · unfold fX12_readLaw_b185
            rw [show (6 : Int32) = Int32.ofNat 6 from rfl, oN_add, gi_N (by omega) (by omega), oN_tn (by omega), lt_v]
          · exact q2
          · exact q3
        · cases ha2
    · rw [if_neg hif, if_neg (show ¬ (tK B L r.1 = 300 + 12) from hif), if_pos rfl]
      refine ⟨fun t ht => ?_, fun e he => (by cases he)⟩
      cases ht
      obtain ⟨st7, s1, s2, s3, s4, s5, s6⟩ := fin st4 0 (by rw [hM4.q.2.2.1, List.length_append]; rfl) e21 rfl hF4
      exact ⟨st7, P3, o3, s1, by rw [List.append_nil]; exact hM4.keep s2 (by decide) (by decide), s3, s4, s5, s6⟩
  have hbad2 : ∀ (st3 : St), st3.1 19 = 1 → ∃ st', fX12_readLaw_b135 (Int32.ofNat (8 * k)) st3 = some ((), st') ∧ fr [] [] [22] st3 st' := by
    intro st3 h19
    unfold fX12_readLaw_b135
    rw [show (4 : Int32) = Int32.ofNat 4 from rfl, show (5 : Int32) = Int32.ofNat 5 from rfl, oN_add, oN_add, gi_N (by omega) (by omega), lt_v, gi_N (by omega) (by omega), lt_v]
    have q19 : ∀ f g, (sA (sA st3 22 f) 22 g).1 19 = 1 := fun _ _ => h19
    rw [q19, if_neg (by decide)]
    unfold fX12_readLaw_b185
    rw [show (6 : Int32) = Int32.ofNat 6 from rfl, oN_add, gi_N (by omega) (by omega), lt_v]
    exact ⟨_, rfl, ((fr.sA (k := 22) (by decide)).tr (fr.sA (k := 22) (by decide))).tr (fr.sA (k := 22) (by decide))⟩
  have e303 : (Int32.ofNat (tK B L j - 300) = Int32.ofNat 3) ↔ tK B L j = 303 := by rw [oN_eq (by omega) (by omega)]; omega
  by_cases hbar : tK B L j = 303
  · simp only [if_pos (e303.mpr hbar), if_pos hbar]
    obtain ⟨r1, r2⟩ := rest (j + 1, n, [], [], fun _ => some 1) st2 ⟨P, o, by rw [List.append_nil]; exact hM2⟩ (by show 1 ≤ j + 1; omega) LF.rf rfl rfl
    constructor
    · intro x hx
      obtain ⟨a, ha1, ha2⟩ := exb_ok hx
      cases ha1
      obtain ⟨t, ht1, ht2⟩ := exb_ok ha2
      have ht2 := Except.ok.inj ht2
      subst ht2
      exact r1 t ht1
    · intro e he
      rcases exb_err he with he | ⟨a, ha1, ha2⟩
      · cases he
      · cases ha1
        rcases exb_err ha2 with he | ⟨t, ht1, ht2⟩
        · exact r2 e he
        · cases ht2
  · simp only [if_neg (fun q => hbar (e303.mp q)), if_neg hbar]
    obtain ⟨p1, p2⟩ := m_readSumV (bc := bc) hM2
    constructor
    · intro x hx
      obtain ⟨a, ha1, ha2⟩ := exb_ok hx
      obtain ⟨t, ht1, ht2⟩ := exb_ok ha2
      have ht2 := Except.ok.inj ht2
      subst ht2
      obtain ⟨st3, q1, q2, q3⟩ := p1 a ha1
      rw [q1, bd_v]
      have hz := (sS_ok 10 _ _ _ _ _ _ ha1).1.2.2.1
      exact (rest a st3 ⟨_, _, q2⟩ (by omega) q3.lf (q3.1 21 (by decide)) (q3.2.2.1 22 (by decide))).1 t ht1
    · intro e he
      rcases exb_err he with he | ⟨a, ha1, ha2⟩
      · obtain ⟨st3, q1, q2, q3, q4⟩ := p2 e he
        rw [q1, bd_v]
        obtain ⟨st4, s1, s2⟩ := hbad2 st3 q2
        exact ⟨st4, s1, by rw [s2.1 19 (by decide)]; exact q2, by rw [s2.1 18 (by decide)]; exact q3, (hF2.tr q4.lf).tr (s2.up (by decide) (by decide) (by decide))⟩
      · rcases exb_err ha2 with he | ⟨t, ht1, ht2⟩
        · obtain ⟨st3, q1, q2, q3⟩ := p1 a ha1
          rw [q1, bd_v]
          have hz := (sS_ok 10 _ _ _ _ _ _ ha1).1.2.2.1
          exact (rest a st3 ⟨_, _, q2⟩ (by omega) q3.lf (q3.1 21 (by decide)) (q3.2.2.1 22 (by decide))).2 e he
        · cases ht2
section OrdMV
variable {lw : Bool} {B : Nat → Nat} {L j n o : Nat} {P C : Cd} {st : St}
theorem m_actAtV (h : Mv lw B L j n P C o st) : lp (fun _ _ _ => none) fX12_readOrder_b4 6000 (-1 : Int32) (0 : Int32) st = (if 304 ≤ tK B L j ∧ tK B L j ≤ 307 then (if 12 ≤ (st.1 21) then fX12_readOrder_b53 (Int32.ofNat (actO (tK B L j))) st else fX12_readOrder_b54 (Int32.ofNat (actO (tK B L j))) 1 st) else fX12_readOrder_b53 (-1) st) := by
  have ha3 := actO_le (tK B L j)
  have hlt : ∀ q, q < 4 → [4, 5, 7, 6].getD q 0 < 29 := by decide
  have hin : ∀ q, q < 4 → 4 ≤ [4, 5, 7, 6].getD q 0 ∧ [4, 5, 7, 6].getD q 0 ≤ 7 := by decide
  have hloop : ∀ (k m : Nat), k ≤ 4 → lp (fun _ _ _ => none) fX12_readOrder_b4 (m + k) (if (304 ≤ tK B L j ∧ tK B L j ≤ 307) ∧ actO (tK B L j) < 4 - k then Int32.ofNat (actO (tK B L j)) else -1) (Int32.ofNat (4 - k)) st = lp (fun _ _ _ => none) fX12_readOrder_b4 m (if (304 ≤ tK B L j ∧ tK B L j ≤ 307) ∧ actO (tK B L j) < 4 then Int32.ofNat (actO (tK B L j)) else -1) (Int32.ofNat 4) st := by
    intro k
    induction k with
    | zero => intro m _; rfl
    | succ k ih =>
      intro m hk
      rw [← ih m (by omega), ← Nat.add_assoc, lp_s]
      generalize lp (fun _ _ _ => none) fX12_readOrder_b4 (m + k) = kk
      conv => lhs; unfold fX12_readOrder_b4
      rw [oN_lit, if_leF (by omega) (by omega), gi_N (by omega) (by omega), oN_tn (by omega), h.2.2.1.2.2.2 _ (by omega), h.isWord (hlt _ (by omega)) rfl, bd_v]
      unfold fX12_readOrder_b27
      have e10 : 4 - (k + 1) + 1 = 4 - k := by omega
      have hin2 := hin (4 - (k + 1)) (by omega)
      by_cases hc : tK B L j = 300 + [4, 5, 7, 6].getD (4 - (k + 1)) 0
      · have ha := (actO_at (tK B L j) (4 - (k + 1)) (by omega) (by omega)).mp hc
        rw [if_pos hc]
        rw [if_neg (show ¬ ((1 : Int32) = 0) by decide), lt_v, oN_s, e10]
        rw [if_pos (show (304 ≤ tK B L j ∧ tK B L j ≤ 307) ∧ actO (tK B L j) < 4 - k by omega), ha]
      · rw [if_neg hc, if_pos rfl, lt_v, oN_s, e10]
        by_cases hd : (304 ≤ tK B L j ∧ tK B L j ≤ 307) ∧ actO (tK B L j) < 4 - (k + 1)
        · rw [if_pos hd, if_pos (show (304 ≤ tK B L j ∧ tK B L j ≤ 307) ∧ actO (tK B L j) < 4 - k by omega)]
        · have hne : ¬ ((304 ≤ tK B L j ∧ tK B L j ≤ 307) ∧ actO (tK B L j) < 4 - k) := by
            intro q
            have : ¬ actO (tK B L j) = 4 - (k + 1) := fun e => hc ((actO_at (tK B L j) (4 - (k + 1)) (by omega) q.1).mpr e)
            exact hd ⟨q.1, by omega⟩
          rw [if_neg hd, if_neg hne]
  have := hloop 4 5996 (Nat.le_refl _)
  rw [if_neg (show ¬ ((304 ≤ tK B L j ∧ tK B L j ≤ 307) ∧ actO (tK B L j) < 4 - 4) by omega)] at this
  refine this.trans ?_
  rw [show (5996 : Nat) = 5995 + 1 from rfl, lp_s]
  generalize lp (fun _ _ _ => none) fX12_readOrder_b4 5995 = kk
  unfold fX12_readOrder_b4
  rw [show (4 : Int32) = Int32.ofNat 4 from rfl, if_leT (Nat.le_refl _) (by omega)]
  by_cases hd : 304 ≤ tK B L j ∧ tK B L j ≤ 307
  · rw [if_pos (show (304 ≤ tK B L j ∧ tK B L j ≤ 307) ∧ actO (tK B L j) < 4 by omega), if_pos hd, if_neg (oN_ne1 (by omega))]
  · rw [if_neg (show ¬ ((304 ≤ tK B L j ∧ tK B L j ≤ 307) ∧ actO (tK B L j) < 4) from fun q => hd q.1), if_neg hd, if_pos rfl]
theorem Mv.w45 (h : Mv lw B L j n P C o st) {f : Nat → Int32} : Mv lw B L j n P C o (sA st 45 f) ∧ fr [] [] [45] st (sA st 45 f) := by
  have hf : fr [] [] [45] st (sA st 45 f) := fr.sA (by decide)
  exact ⟨h.keep hf (by decide) (by decide), hf⟩
end OrdMV
theorem m_ordIfV {B : Nat → Nat} {L n o k bm bc : Nat} {P C : Cd} {st : St} {r : Re} (h : Mv false B L r.1 r.2.1 P C o st) (hn : r.2.1 = n) (hr1 : 1 ≤ r.1) (hk : k < 12) (hbm : C.length = bm + r.2.2.1.length) :
    (∀ t, sIf false (tK B L) (tV B L) bm bc r = .ok t → ∃ st' P' o', fX12_readOrder_b215 (Int32.ofNat (8 * k)) st = some ((), st') ∧ Mv false B L t.2.1 t.2.2.1 P' (C ++ t.2.2.2.1) o' st' ∧ (∀ q, st'.2.2.1 45 q = if q = 8 * k + 6 then Int32.ofNat (C.length + t.2.2.2.1.length) else if q = 8 * k + 5 then Int32.ofNat C.length else st.2.2.1 45 q) ∧ st'.1 21 = st.1 21 ∧ OF st st') ∧
    (∀ e, sIf false (tK B L) (tV B L) bm bc r = .error e → ∃ st', fX12_readOrder_b215 (Int32.ofNat (8 * k)) st = some ((), st') ∧ st'.1 19 = 1 ∧ st'.1 18 = Int32.ofNat (tP B L e) ∧ OF st st') := by
  unfold fX12_readOrder_b215
  have h23 : st.1 23 = Int32.ofNat C.length := h.q.2.2.1
  rw [show (5 : Int32) = Int32.ofNat 5 from rfl, oN_add, gi_N (by omega) (by omega), oN_tn (by omega), lt_v, h23]
  obtain ⟨h1, hf1⟩ := h.w45 (f := upd (st.2.2.1 45) (8 * k + 5) (Int32.ofNat C.length))
  generalize hs1 : sA st 45 (upd (st.2.2.1 45) (8 * k + 5) (Int32.ofNat C.length)) = st1 at h1 hf1 ⊢
  have e45 : st1.2.2.1 45 = upd (st.2.2.1 45) (8 * k + 5) (Int32.ofNat C.length) := by rw [← hs1]; rfl
  clear hs1
  have fin : ∀ (st5 : St) (D : Cd) (P5 : Cd) (o5 j5 n5 : Nat), Mv false B L j5 n5 P5 (C ++ D) o5 st5 → st5.2.2.1 45 = st1.2.2.1 45 → st5.1 21 = st.1 21 → OF st st5 → ∃ st' P' o', fX12_readOrder_b253 (Int32.ofNat (8 * k)) st5 = some ((), st') ∧ Mv false B L j5 n5 P' (C ++ D) o' st' ∧ (∀ q, st'.2.2.1 45 q = if q = 8 * k + 6 then Int32.ofNat (C.length + D.length) else if q = 8 * k + 5 then Int32.ofNat C.length else st.2.2.1 45 q) ∧ st'.1 21 = st.1 21 ∧ OF st st' := by
    intro st5 D P5 o5 j5 n5 hM f3 f2 f4
    obtain ⟨h6, hf6⟩ := hM.w45 (f := upd (st5.2.2.1 45) (8 * k + 6) (Int32.ofNat (C.length + D.length)))
    refine ⟨_, P5, o5, ?_, h6, fun q => ?_, f2, f4.tr (hf6.up (by decide) (by decide) (by decide))⟩
    · unfold fX12_readOrder_b253
      have h235 : st5.1 23 = Int32.ofNat (C.length + D.length) := by rw [hM.q.2.2.1, List.length_append]
      rw [show (6 : Int32) = Int32.ofNat 6 from rfl, oN_add, gi_N (by omega) (by omega), oN_tn (by omega), lt_v, h235]
    · show upd (st5.2.2.1 45) (8 * k + 6) _ q = _
      rw [upd_v, f3, e45]
      by_cases e1 : q = 8 * k + 6
      · rw [if_pos e1, if_pos e1]
      · rw [if_neg e1, if_neg e1, upd_v]
  have hw := h1.isWord (i := 12) (a := 294) (by decide) (by decide +kernel)
  have hF1 : OF st st1 := hf1.up (by decide) (by decide) (by decide)
  rw [h1.2.2.2.2.1, if_pos rfl, hw, bd_v]
  unfold sIf
  by_cases hif : tK B L r.1 = 312
  · rw [if_pos hif, if_pos (show tK B L r.1 = 300 + 12 from hif), if_neg (show ¬ ((1 : Int32) = 0) by decide)]
    obtain ⟨st5, n1, n2, n3⟩ := h1.next (by omega)
    rw [n1, bd_v]
    have hN3 : OF st st5 := hF1.tr (n3.up (by decide) (by decide) (by decide))
    obtain ⟨p1, p2⟩ := m_readTestV (bc := bc + r.2.2.2.1.length) n2 (by omega)
    rw [hbm] at p1 p2
    constructor
    · intro t ht
      obtain ⟨a, ha1, ha2⟩ := exb_ok ht
      have ha2 := Except.ok.inj ha2
      subst ha2
      obtain ⟨st6, q1, q2, q3⟩ := p1 a ha1
      rw [q1, bd_v]
      exact fin st6 a.2.2.1 _ _ _ _ q2 (by rw [q3.2.2.1 45 (by decide), n3.2.2.1 45 (by decide)]) (by rw [q3.1 21 (by decide), n3.1 21 (by decide), hf1.1 21 (by decide)]) (hN3.tr q3.of)
    · intro e he
      rcases exb_err he with he | ⟨a, ha1, ha2⟩
      · obtain ⟨st6, q1, q2, q3, q4⟩ := p2 e he
        rw [q1, bd_v]
        have hf6 : ∀ f, fr [] [] [45] st6 (sA st6 45 f) := fun f => fr.sA (by decide)
        refine ⟨_, ?_, ?_, ?_, (hN3.tr q4.of).tr ((hf6 (upd (st6.2.2.1 45) (8 * k + 6) (st6.1 23))).up (by decide) (by decide) (by decide))⟩
        · unfold fX12_readOrder_b253
          rw [show (6 : Int32) = Int32.ofNat 6 from rfl, oN_add, gi_N (by omega) (by omega), oN_tn (by omega), lt_v]
        · exact q2
        · exact q3
      · cases ha2
  · rw [if_neg hif, if_neg (show ¬ (tK B L r.1 = 300 + 12) from hif), if_pos rfl]
    refine ⟨fun t ht => ?_, fun e he => (by cases he)⟩
    have ht := Except.ok.inj ht
    subst ht
    exact fin st1 [] P o _ _ (by rw [List.append_nil]; exact h1) rfl (hf1.1 21 (by decide)) hF1
theorem m_ordTimesV {B : Nat → Nat} {L j n o k : Nat} {P C : Cd} {st : St} (h : Mv false B L j n P C o st) (hk : k < 12) :
    (∀ tm, sTimes (tK B L) (tV B L) j = .ok tm → ∃ st' , (if (st.1 19) = 0 then (bd (fX12_isWord (21279923 : Int64) st) (fun r12 st13 => if r12 = 0 then (fX12_readOrder_b215 (Int32.ofNat (8 * k)) st13) else (bd (fX12_nextToken st13) (fun r14 st15 => bd (fX12_number (1 : Int64) (20 : Int64) st15) (fun r16 st17 => gi (Int32.ofNat (8 * k) + (7 : Int32)) 96 (lt (sA st17 45 (upd (st17.2.2.1 45) (Int32.ofNat (8 * k) + (7 : Int32)).toNatClampNeg r16)) (fun st18 => fX12_readOrder_b215 (Int32.ofNat (8 * k)) st18))))))) else (fX12_readOrder_b215 (Int32.ofNat (8 * k)) st)) = fX12_readOrder_b215 (Int32.ofNat (8 * k)) st' ∧ Mv false B L tm.2 n P C o st' ∧ (∀ q, st'.2.2.1 45 q = if q = 8 * k + 7 ∧ tK B L j = 311 then Int32.ofNat tm.1 else st.2.2.1 45 q) ∧ st'.1 21 = st.1 21 ∧ OF st st' ∧ j ≤ tm.2 ∧ (tK B L j = 311 ∨ tm.1 = 1)) ∧
    (∀ e, sTimes (tK B L) (tV B L) j = .error e → ∃ st', (if (st.1 19) = 0 then (bd (fX12_isWord (21279923 : Int64) st) (fun r12 st13 => if r12 = 0 then (fX12_readOrder_b215 (Int32.ofNat (8 * k)) st13) else (bd (fX12_nextToken st13) (fun r14 st15 => bd (fX12_number (1 : Int64) (20 : Int64) st15) (fun r16 st17 => gi (Int32.ofNat (8 * k) + (7 : Int32)) 96 (lt (sA st17 45 (upd (st17.2.2.1 45) (Int32.ofNat (8 * k) + (7 : Int32)).toNatClampNeg r16)) (fun st18 => fX12_readOrder_b215 (Int32.ofNat (8 * k)) st18))))))) else (fX12_readOrder_b215 (Int32.ofNat (8 * k)) st)) = some ((), st') ∧ st'.1 19 = 1 ∧ st'.1 18 = Int32.ofNat (tP B L e) ∧ OF st st') := by
  have hw := h.isWord (i := 11) (a := 21279923) (by decide) (by decide +kernel)
  rw [h.2.2.2.2.1, if_pos rfl, hw, bd_v]
  unfold sTimes
  by_cases ht : tK B L j = 311
  · rw [if_pos ht, if_pos (show tK B L j = 300 + 11 from ht), if_neg (show ¬ ((1 : Int32) = 0) by decide)]
    obtain ⟨st1, n1, n2, n3⟩ := h.next (by omega)
    rw [n1, bd_v, show (7 : Int32) = Int32.ofNat 7 from rfl, oN_add]
    have hN : OF st st1 := n3.up (by decide) (by decide) (by decide)
    by_cases hv : tK B L (j + 1) = 256 ∧ 1 ≤ tV B L (j + 1) ∧ tV B L (j + 1) ≤ 20
    · rw [if_pos hv]
      refine ⟨fun tm htm => ?_, fun e he => (by cases he)⟩
      have htm := Except.ok.inj htm
      subst htm
      obtain ⟨st2, k1, k2, k3⟩ := n2.number (lo := 1) (hi := 20) (by decide) (by decide) hv.1 hv.2.1 hv.2.2
      replace k1 : fX12_number 1 20 st1 = _ := k1
      obtain ⟨h3, hf3⟩ := k2.w45 (f := upd (st2.2.2.1 45) (8 * k + 7) (Int32.ofNat (tV B L (j + 1))))
      refine ⟨_, ?_, h3, fun q => ?_, ?_, (hN.tr (k3.up (by decide) (by decide) (by decide))).tr (hf3.up (by decide) (by decide) (by decide)), by show j ≤ j + 2; omega, Or.inl ht⟩
      · rw [k1, bd_v, gi_N (by omega) (by omega), lt_v, oN_tn (by omega)]
      · show upd (st2.2.2.1 45) (8 * k + 7) _ q = _
        rw [upd_v, k3.2.2.1 45 (by decide), n3.2.2.1 45 (by decide)]
        by_cases e : q = 8 * k + 7
        · rw [if_pos e, if_pos ⟨e, ht⟩]
        · rw [if_neg e, if_neg (fun q => e q.1)]
      · rw [hf3.1 21 (by decide), k3.1 21 (by decide), n3.1 21 (by decide)]
    · rw [if_neg hv]
      refine ⟨fun tm htm => (by cases htm), fun e he => ?_⟩
      cases he
      obtain ⟨st2, k1, k2, k3, k4⟩ := n2.numberBad (lo := 1) (hi := 20) (by decide) (by decide) hv
      replace k1 : fX12_number 1 20 st1 = _ := k1
      rw [k1, bd_v, gi_N (by omega) (by omega), lt_v]
      have hf3 : ∀ f, fr [] [] [45] st2 (sA st2 45 f) := fun f => fr.sA (by decide)
      obtain ⟨st4, b1, b2⟩ := m_badO2 (st := sA st2 45 (upd (st2.2.2.1 45) (Int32.ofNat (8 * k + 7)).toNatClampNeg (tWorth B L (j + 1)).toInt32)) hk k2.1
      refine ⟨st4, b1, ?_, ?_, ((hN.tr (k3.up (by decide) (by decide) (by decide))).tr ((hf3 _).up (by decide) (by decide) (by decide))).tr (b2.up (by decide) (by decide) (by decide))⟩
      · rw [b2.1 19 (by decide)]; exact k2.1
      · rw [b2.1 18 (by decide)]; exact k2.2.1
  · rw [if_neg ht, if_neg (show ¬ (tK B L j = 300 + 11) from ht), if_pos rfl]
    refine ⟨fun tm htm => ?_, fun e he => (by cases he)⟩
    have htm := Except.ok.inj htm
    subst htm
    exact ⟨st, rfl, h, fun q => by rw [if_neg (fun q => ht q.2)], rfl, OF.rf, Nat.le_refl _, Or.inr rfl⟩
theorem m_sumsV {B : Nat → Nat} {L : Nat} (a : Nat) (j' n' : Nat) (C' P' : Cd) (o' : Nat) (bc' : Nat) (st3 : St) (ha : a + 1 ≤ 95) (hM : Mv false B L j' n' P' C' o' st3) :
      (∀ r, sS false (tK B L) (tV B L) 10 0 C'.length bc' j' n' = .ok r → ∃ st', fX12_readSum (Int32.ofNat a) st3 = some ((), st') ∧ Mv false B L r.1 r.2.1 [] (C' ++ r.2.2.1) 0 st' ∧ (∀ q, st'.2.2.1 45 q = if q = a + 1 then Int32.ofNat (C'.length + r.2.2.1.length) else if q = a then Int32.ofNat C'.length else st3.2.2.1 45 q) ∧ st'.1 21 = st3.1 21 ∧ OF st3 st') ∧
      (∀ e, sS false (tK B L) (tV B L) 10 0 C'.length bc' j' n' = .error e → ∃ st', fX12_readSum (Int32.ofNat a) st3 = some ((), st') ∧ st'.1 19 = 1 ∧ st'.1 18 = Int32.ofNat (tP B L e) ∧ OF st3 st') := by
  have h23 : st3.1 23 = Int32.ofNat C'.length := hM.q.2.2.1
  unfold fX12_readSum
  rw [gi_N (by omega) (by omega), lt_v, oN_tn (by omega), h23]
  obtain ⟨h4, hf4⟩ := hM.w45 (f := upd (st3.2.2.1 45) a (Int32.ofNat C'.length))
  generalize hs4 : sA st3 45 (upd (st3.2.2.1 45) a (Int32.ofNat C'.length)) = st4 at h4 hf4 ⊢
  have e45 : st4.2.2.1 45 = upd (st3.2.2.1 45) a (Int32.ofNat C'.length) := by rw [← hs4]; rfl
  clear hs4
  rw [h4.2.2.2.2.1, if_pos rfl]
  obtain ⟨p1, p2⟩ := m_readSumV (bc := bc') h4
  unfold fX12_readSum_b22
  constructor
  · intro r hr
    obtain ⟨st5, q1, q2, q3⟩ := p1 r hr
    rw [q1, bd_v, oN_s, gi_N (by omega) (by omega), lt_v, oN_tn (by omega), q2.q.2.2.1]
    obtain ⟨h6, hf6⟩ := q2.w45 (f := upd (st5.2.2.1 45) (a + 1) (Int32.ofNat (C' ++ r.2.2.1).length))
    refine ⟨_, rfl, h6, fun q => ?_, ?_, ((hf4.up (by decide) (by decide) (by decide)).tr q3.of).tr (hf6.up (by decide) (by decide) (by decide))⟩
    · show upd (st5.2.2.1 45) (a + 1) _ q = _
      rw [upd_v, List.length_append, q3.2.2.1 45 (by decide), e45]
      by_cases e1 : q = a + 1
      · rw [if_pos e1, if_pos e1]
      · rw [if_neg e1, if_neg e1, upd_v]
    · rw [hf6.1 21 (by decide), q3.1 21 (by decide), hf4.1 21 (by decide)]
  · intro e he
    obtain ⟨st5, q1, q2, q3, q4⟩ := p2 e he
    rw [q1, bd_v, oN_s, gi_N (by omega) (by omega), lt_v]
    have hf6 : ∀ f, fr [] [] [45] st5 (sA st5 45 f) := fun f => fr.sA (by decide)
    exact ⟨_, rfl, q2, q3, ((hf4.up (by decide) (by decide) (by decide)).tr q4.of).tr ((hf6 _).up (by decide) (by decide) (by decide))⟩
theorem m_ord160V {B : Nat → Nat} {L n o k bm bc : Nat} {P C : Cd} {st : St} {r1 : Re} (h : Mv false B L (r1.1 + 1) r1.2.1 P C o st) (hk : k < 12) (hC : C.length = bm + r1.2.2.1.length) :
    (∀ r2 tm t, sS false (tK B L) (tV B L) 10 0 (bm + r1.2.2.1.length) (bc + r1.2.2.2.1.length) (r1.1 + 1) r1.2.1 = .ok r2 → sTimes (tK B L) (tV B L) r2.1 = .ok tm → sIf false (tK B L) (tV B L) bm bc (both2 r1 r2 tm.2) = .ok t → ∃ st' P' o', fX12_readOrder_b160 (Int32.ofNat (8 * k)) st = some ((), st') ∧ Mv false B L t.2.1 t.2.2.1 P' (C ++ r2.2.2.1 ++ t.2.2.2.1) o' st' ∧ (∀ q, st'.2.2.1 45 q = if q = 8 * k + 6 then Int32.ofNat (C.length + r2.2.2.1.length + t.2.2.2.1.length) else if q = 8 * k + 5 then Int32.ofNat (C.length + r2.2.2.1.length) else if q = 8 * k + 7 then Int32.ofNat tm.1 else if q = 8 * k + 4 then Int32.ofNat (C.length + r2.2.2.1.length) else if q = 8 * k + 3 then Int32.ofNat C.length else st.2.2.1 45 q) ∧ st'.1 21 = st.1 21 ∧ OF st st') ∧
    (∀ e, (sS false (tK B L) (tV B L) 10 0 (bm + r1.2.2.1.length) (bc + r1.2.2.2.1.length) (r1.1 + 1) r1.2.1 = .error e ∨ (∃ r2, sS false (tK B L) (tV B L) 10 0 (bm + r1.2.2.1.length) (bc + r1.2.2.2.1.length) (r1.1 + 1) r1.2.1 = .ok r2 ∧ (sTimes (tK B L) (tV B L) r2.1 = .error e ∨ ∃ tm, sTimes (tK B L) (tV B L) r2.1 = .ok tm ∧ sIf false (tK B L) (tV B L) bm bc (both2 r1 r2 tm.2) = .error e))) → ∃ st', fX12_readOrder_b160 (Int32.ofNat (8 * k)) st = some ((), st') ∧ st'.1 19 = 1 ∧ st'.1 18 = Int32.ofNat (tP B L e) ∧ OF st st') := by
  obtain ⟨p1, p2⟩ := m_sumsV (8 * k + 3) (r1.1 + 1) r1.2.1 C P o (bc + r1.2.2.2.1.length) st (by omega) h
  rw [hC] at p1 p2
  unfold fX12_readOrder_b160
  rw [show (3 : Int32) = Int32.ofNat 3 from rfl, oN_add]
  -- behind the second sum, up to "times"
  have mid : ∀ r2, sS false (tK B L) (tV B L) 10 0 (bm + r1.2.2.1.length) (bc + r1.2.2.2.1.length) (r1.1 + 1) r1.2.1 = .ok r2 → ∃ st8, Mv false B L r2.1 r2.2.1 [] (C ++ r2.2.2.1) 0 st8 ∧ (∀ q, st8.2.2.1 45 q = if q = 8 * k + 7 then 1 else if q = 8 * k + 4 then Int32.ofNat (C.length + r2.2.2.1.length) else if q = 8 * k + 3 then Int32.ofNat C.length else st.2.2.1 45 q) ∧ st8.1 21 = st.1 21 ∧ OF st st8 ∧ 1 ≤ r2.1 ∧ (bd (fX12_readSum (Int32.ofNat (8 * k + 3)) st) fun r9 st10 => gi (Int32.ofNat (8 * k) + 7) 96 (lt (sA st10 45 (upd (st10.2.2.1 45) (Int32.ofNat (8 * k) + 7).toNatClampNeg 1)) fun st11 => if st11.1 19 = 0 then bd (fX12_isWord 21279923 st11) fun r12 st13 => if r12 = 0 then fX12_readOrder_b215 (Int32.ofNat (8 * k)) st13 else bd (fX12_nextToken st13) fun r14 st15 => bd (fX12_number 1 20 st15) fun r16 st17 => gi (Int32.ofNat (8 * k) + 7) 96 (lt (sA st17 45 (upd (st17.2.2.1 45) (Int32.ofNat (8 * k) + 7).toNatClampNeg r16)) fun st18 => fX12_readOrder_b215 (Int32.ofNat (8 * k)) st18) else fX12_readOrder_b215 (Int32.ofNat (8 * k)) st11)) = (if (st8.1 19) = 0 then (bd (fX12_isWord (21279923 : Int64) st8) (fun r12 st13 => if r12 = 0 then (fX12_readOrder_b215 (Int32.ofNat (8 * k)) st13) else (bd (fX12_nextToken st13) (fun r14 st15 => bd (fX12_number (1 : Int64) (20 : Int64) st15) (fun r16 st17 => gi (Int32.ofNat (8 * k) + (7 : Int32)) 96 (lt (sA st17 45 (upd (st17.2.2.1 45) (Int32.ofNat (8 * k) + (7 : Int32)).toNatClampNeg r16)) (fun st18 => fX12_readOrder_b215 (Int32.ofNat (8 * k)) st18))))))) else (fX12_readOrder_b215 (Int32.ofNat (8 * k)) st8)) := by
    intro r2 hr2
    obtain ⟨st7, q1, q2, q3, q4, q5⟩ := p1 r2 hr2
    obtain ⟨h8, hf8⟩ := q2.w45 (f := upd (st7.2.2.1 45) (8 * k + 7) 1)
    have hz := (sS_ok 10 _ _ _ _ _ _ hr2).1.2.2.1
    have e7 : Int32.ofNat (8 * k) + 7 = Int32.ofNat (8 * k + 7) := oN_add _ _
    refine ⟨sA st7 45 (upd (st7.2.2.1 45) (8 * k + 7) 1), h8, fun q => ?_, q4, q5.tr (hf8.up (by decide) (by decide) (by decide)), by omega, ?_⟩
    · show upd (st7.2.2.1 45) (8 * k + 7) 1 q = _
      rw [upd_v, q3 q, hC]
    · rw [q1, bd_v, e7, gi_N (by omega) (by omega), oN_tn (by omega), lt_v]
  constructor
  · intro r2 tm t hr2 htm ht
    obtain ⟨st8, a1, a2, a3, a4, a5, a6⟩ := mid r2 hr2
    rw [a6]
    obtain ⟨st9, b1, b2, b3, b4, b5, b6, b7⟩ := (m_ordTimesV (k := k) a1 hk).1 tm htm
    rw [b1]
    obtain ⟨st10, P', o', c1, c2, c3, c4, c5⟩ := (m_ordIfV (bm := bm) (bc := bc) (r := both2 r1 r2 tm.2) (n := r2.2.1) b2 rfl (by show 1 ≤ tm.2; omega) hk (by rw [List.length_append, hC]; show _ = bm + (r1.2.2.1 ++ r2.2.2.1).length; rw [List.length_append]; omega)).1 t ht
    refine ⟨st10, P', o', c1, c2, fun q => ?_, by rw [c4, b4, a3], (a4.tr b5).tr c5⟩
    rw [c3 q, List.length_append]
    by_cases e1 : q = 8 * k + 6
    · rw [if_pos e1, if_pos e1]
    rw [if_neg e1, if_neg e1]
    by_cases e2 : q = 8 * k + 5
    · rw [if_pos e2, if_pos e2]
    rw [if_neg e2, if_neg e2, b3 q]
    by_cases e3 : q = 8 * k + 7
    · rw [if_pos e3]
      by_cases e4 : tK B L r2.1 = 311
      · rw [if_pos ⟨e3, e4⟩]
      · rw [if_neg (fun q => e4 q.2), a2 q, if_pos e3]
        rcases b7 with b7 | b7
        · exact absurd b7 e4
        · rw [b7]; rfl
    · rw [if_neg (fun q => e3 q.1), if_neg e3, a2 q, if_neg e3]
  · intro e he
    rcases he with he | ⟨r2, hr2, he⟩
    · obtain ⟨st7, q1, q2, q3, q4⟩ := p2 e he
      rw [q1, bd_v, show (7 : Int32) = Int32.ofNat 7 from rfl, oN_add, gi_N (by omega) (by omega), lt_v]
      have q19 : ∀ f, (sA st7 45 f).1 19 = 1 := fun _ => q2
      rw [q19, if_neg (by decide)]
      have hf8 : ∀ f, fr [] [] [45] st7 (sA st7 45 f) := fun f => fr.sA (by decide)
      obtain ⟨st9, b1, b2⟩ := m_badO2 (st := sA st7 45 (upd (st7.2.2.1 45) (Int32.ofNat (8 * k + 7)).toNatClampNeg 1)) hk q2
      exact ⟨st9, b1, by rw [b2.1 19 (by decide)]; exact q2, by rw [b2.1 18 (by decide)]; exact q3, (q4.tr ((hf8 _).up (by decide) (by decide) (by decide))).tr (b2.up (by decide) (by decide) (by decide))⟩
    · obtain ⟨st8, a1, a2, a3, a4, a5, a6⟩ := mid r2 hr2
      rw [a6]
      rcases he with he | ⟨tm, htm, he⟩
      · obtain ⟨st9, b1, b2, b3, b4⟩ := (m_ordTimesV (k := k) a1 hk).2 e he
        exact ⟨st9, b1, b2, b3, a4.tr b4⟩
      · obtain ⟨st9, b1, b2, b3, b4, b5, b6, b7⟩ := (m_ordTimesV (k := k) a1 hk).1 tm htm
        rw [b1]
        obtain ⟨st10, c1, c2, c3, c4⟩ := (m_ordIfV (bm := bm) (bc := bc) (r := both2 r1 r2 tm.2) (n := r2.2.1) b2 rfl (by show 1 ≤ tm.2; omega) hk (by rw [List.length_append, hC]; show _ = bm + (r1.2.2.1 ++ r2.2.2.1).length; rw [List.length_append]; omega)).2 e he
        exact ⟨st10, c1, c2, c3, (a4.tr b5).tr c4⟩
theorem m_readOrderV {B : Nat → Nat} {L j n o k bc : Nat} {P C : Cd} {st : St} (h : Mv false B L j n P C o st) (h21 : st.1 21 = Int32.ofNat k) (hk : k ≤ 12) :
    (∀ x, sOrdC (tK B L) (tV B L) k C.length bc j n = .ok x → ∃ st' P' o', fX12_readOrder st = some ((), st') ∧ Mv false B L x.2.2.2.2.2.1 x.2.2.2.2.2.2.1 P' (C ++ x.2.1.2.2.1 ++ x.2.2.1.2.2.1 ++ x.2.2.2.2.2.2.2.1) o' st' ∧ st'.1 21 = Int32.ofNat (k + 1) ∧ ordT C.length k (actO x.1) x.2.1.2.2.1.length x.2.2.1.2.2.1.length x.2.2.2.1 x.2.2.2.2.2.2.2.1.length st' ∧ (∀ q, q < 8 * k → st'.2.2.1 45 q = st.2.2.1 45 q) ∧ OF st st') ∧
    (∀ e, sOrdC (tK B L) (tV B L) k C.length bc j n = .error e → ∃ st', fX12_readOrder st = some ((), st') ∧ st'.1 19 = 1 ∧ st'.1 18 = Int32.ofNat (tP B L e) ∧ OF st st') := by
  have hu : fX12_readOrder st = lp (fun _ _ _ => none) fX12_readOrder_b4 6000 (-1 : Int32) (0 : Int32) st := rfl
  rw [hu, m_actAtV h]
  unfold sOrdC
  have ha3 := actO_le (tK B L j)
  have hbad : ∀ v, ∃ st', fX12_readOrder_b53 v st = some ((), st') ∧ st'.1 19 = 1 ∧ st'.1 18 = Int32.ofNat (tP B L j) ∧ OF st st' := by
    intro v
    obtain ⟨st1, g1, g2, g3, g4⟩ := h.must0
    refine ⟨st1, ?_, g2.1, g2.2.1, g3.up (by decide) (by decide) (by decide)⟩
    unfold fX12_readOrder_b53 fX12_readOrder_b54
    rw [g1, bd_v, g2.1, if_neg (by decide)]
  by_cases hh : ¬ (304 ≤ tK B L j ∧ tK B L j ≤ 307)
  · rw [if_neg hh, if_pos (Or.inl hh)]
    refine ⟨fun x hx => (by cases hx), fun e he => ?_⟩
    cases he
    exact hbad _
  replace hh := Decidable.not_not.mp hh
  rw [if_pos hh, h21, show (12 : Int32) = Int32.ofNat 12 from rfl]
  by_cases hk12 : 12 ≤ k
  · rw [if_leT hk12 (by omega), if_pos (Or.inr hk12)]
    refine ⟨fun x hx => (by cases hx), fun e he => ?_⟩
    cases he
    exact hbad _
  rw [if_leF (by omega) (by omega), if_neg (by omega)]
  obtain ⟨st1, g1, g2, g3⟩ := h.must1 (by omega)
  have e21 : st1.1 21 = Int32.ofNat k := by rw [g3.1 21 (by decide)]; exact h21
  obtain ⟨g, c1, c2⟩ := m_clearO (v1 := Int32.ofNat (actO (tK B L j))) (k := k) (by omega) 8 0 5992 (sI st1 21 (Int32.ofNat (k + 1))) (by omega)
  have hst : fX12_readOrder_b54 (Int32.ofNat (actO (tK B L j))) 1 st = lp (fun _ _ _ _ => none) fX12_readOrder_b85 5992 (Int32.ofNat (actO (tK B L j))) (Int32.ofNat (8 * k)) (Int32.ofNat 8) (sA (sI st1 21 (Int32.ofNat (k + 1))) 45 g) := by
    unfold fX12_readOrder_b54
    rw [g1, bd_v, g2.2.2.2.2.1, if_pos rfl, lt_v, e21, show (8 : Int32) = Int32.ofNat 8 from rfl, oN_mul, lt_v, oN_s]
    exact c1
  rw [hst, show (5992 : Nat) = 5991 + 1 from rfl, lp_s]
  generalize lp (fun _ _ _ _ => none) fX12_readOrder_b85 5991 = kk
  unfold fX12_readOrder_b85
  rw [show (8 : Int32) = Int32.ofNat 8 from rfl, if_leT (Nat.le_refl _) (by omega), gi_N (by omega) (by omega), oN_tn (by omega), lt_v, oN_s]
  -- the state ahead of the first sum
  generalize hs2 : sA (sA (sI st1 21 (Int32.ofNat (k + 1))) 45 g) 45 (upd ((sA (sI st1 21 (Int32.ofNat (k + 1))) 45 g).2.2.1 45) (8 * k) (Int32.ofNat (actO (tK B L j)))) = st2
  have hf2 : fr [21] [] [45] st1 st2 := by
    rw [← hs2]
    exact ((fr.sI (k := 21) (by decide)).tr (fr.sA (k := 45) (by decide))).tr (fr.sA (k := 45) (by decide))
  have hM2 : Mv false B L (j + 1) n P C o st2 := g2.keep hf2 (by decide) (by decide)
  have t21 : st2.1 21 = Int32.ofNat (k + 1) := by rw [← hs2]; rfl
  have t0 : st2.2.2.1 45 (8 * k) = Int32.ofNat (actO (tK B L j)) := by
    rw [← hs2]
    show upd g (8 * k) _ (8 * k) = _
    rw [upd_v, if_pos rfl]
  have told : ∀ q, q < 8 * k → st2.2.2.1 45 q = st.2.2.1 45 q := by
    intro q hq
    rw [← hs2]
    show upd g (8 * k) _ q = _
    rw [upd_v, if_neg (by omega), c2 q hq]
    show st1.2.2.1 45 q = _
    rw [g3.2.2.1 45 (by decide)]
  have hF2 : OF st st2 := (g3.up (by decide) (by decide) (by decide)).tr (hf2.up (by decide) (by decide) (by decide))
  clear hs2 hst c1 c2
  obtain ⟨p1, p2⟩ := m_sumsV (8 * k + 1) (j + 1) n C P o bc st2 (by omega) hM2
  -- the joint, and what follows
  have ejoint : ∀ (st5 : St), (if (2 : Int32) ≤ Int32.ofNat (actO (tK B L j)) then (if Int32.ofNat (actO (tK B L j)) = (2 : Int32) then (fX12_readOrder_b154 (Int32.ofNat (8 * k)) (655 : Int64) st5) else (fX12_readOrder_b154 (Int32.ofNat (8 * k)) (89 : Int64) st5)) else (fX12_readOrder_b154 (Int32.ofNat (8 * k)) (52 : Int64) st5)) = fX12_readOrder_b154 (Int32.ofNat (8 * k)) (Int64.ofNat (wcd (jointO (tK B L j) - 300))) st5 := by
    intro st5
    have h1 : tK B L j = 304 ∨ tK B L j = 305 ∨ tK B L j = 306 ∨ tK B L j = 307 := by omega
    have w8 : (52 : Int64) = Int64.ofNat (wcd 8) := by decide +kernel
    have w9 : (655 : Int64) = Int64.ofNat (wcd 9) := by decide +kernel
    have w10 : (89 : Int64) = Int64.ofNat (wcd 10) := by decide +kernel
    rcases h1 with e | e | e | e
    · rw [e, w8]; rfl
    · rw [e, w8]; rfl
    · rw [e, w10]; rfl
    · rw [e, w9]; rfl
  have hj3 : 308 ≤ jointO (tK B L j) ∧ jointO (tK B L j) ≤ 310 := by unfold jointO; split <;> (try split) <;> omega
  have hjn : ∀ (r1 : Re) (st5 : St), Mv false B L r1.1 r1.2.1 [] (C ++ r1.2.2.1) 0 st5 → (tK B L r1.1 = jointO (tK B L j) → ∃ st6, fX12_readOrder_b154 (Int32.ofNat (8 * k)) (Int64.ofNat (wcd (jointO (tK B L j) - 300))) st5 = fX12_readOrder_b160 (Int32.ofNat (8 * k)) st6 ∧ Mv false B L (r1.1 + 1) r1.2.1 [] (C ++ r1.2.2.1) 0 st6 ∧ fr [14, 15, 16] [17] [] st5 st6) ∧ (tK B L r1.1 ≠ jointO (tK B L j) → ∃ st6, fX12_readOrder_b154 (Int32.ofNat (8 * k)) (Int64.ofNat (wcd (jointO (tK B L j) - 300))) st5 = some ((), st6) ∧ st6.1 19 = 1 ∧ st6.1 18 = Int32.ofNat (tP B L r1.1) ∧ OF st5 st6) := by
    intro r1 st5 hM
    have hw := hM.isWord (i := jointO (tK B L j) - 300) (by omega) rfl
    rw [show 300 + (jointO (tK B L j) - 300) = jointO (tK B L j) by omega] at hw
    unfold fX12_readOrder_b154
    rw [hw, bd_v]
    constructor
    · intro e
      rw [if_pos e]
      obtain ⟨st6, m1, m2, m3⟩ := hM.must1 (by omega)
      exact ⟨st6, by rw [m1, bd_v], m2, m3⟩
    · intro e
      rw [if_neg e]
      obtain ⟨st6, m1, m2, m3, m4⟩ := hM.must0
      obtain ⟨st7, b1, b2⟩ := m_badO (st := st6) (k := k) (by omega) m2.1
      exact ⟨st7, by rw [m1, bd_v]; exact b1, by rw [b2.1 19 (by decide)]; exact m2.1, by rw [b2.1 18 (by decide)]; exact m2.2.1, (m3.up (by decide) (by decide) (by decide)).tr (b2.up (by decide) (by decide) (by decide))⟩
  constructor
  · intro x hx
    obtain ⟨r1, hr1, hx⟩ := exb_ok hx
    by_cases hjo : tK B L r1.1 = jointO (tK B L j)
    · rw [if_pos hjo] at hx
      obtain ⟨r2, hr2, hx⟩ := exb_ok hx
      obtain ⟨tm, htm, hx⟩ := exb_ok hx
      obtain ⟨t, ht, hx⟩ := exb_ok hx
      have hx := Except.ok.inj hx
      subst hx
      obtain ⟨st5, q1, q2, q3, q4, q5⟩ := p1 r1 hr1
      obtain ⟨st6, s1, s2, s3⟩ := (hjn r1 st5 q2).1 hjo
      rw [q1, bd_v, q2.2.2.2.2.1, if_pos rfl, ejoint, s1]
      obtain ⟨st7, P', o', c1, c2, c3, c4, c5⟩ := (m_ord160V (n := n) (bc := bc) (bm := C.length) (k := k) s2 (by omega) (by rw [List.length_append])).1 r2 tm t hr2 htm ht
      have e45 : ∀ q, st6.2.2.1 45 q = if q = 8 * k + 1 + 1 then Int32.ofNat (C.length + r1.2.2.1.length) else if q = 8 * k + 1 then Int32.ofNat C.length else st2.2.2.1 45 q := fun q => by rw [s3.2.2.1 45 (by decide)]; exact q3 q
      rw [List.length_append] at c3
      refine ⟨st7, P', o', c1, c2, by rw [c4, s3.1 21 (by decide), q4, t21], ⟨?_, ?_, ?_, ?_, ?_, ?_, ?_, ?_⟩, fun q hq => ?_, ((hF2.tr q5).tr (s3.up (by decide) (by decide) (by decide))).tr c5⟩
      · rw [c3, if_neg (by omega), if_neg (by omega), if_neg (by omega), if_neg (by omega), if_neg (by omega), e45, if_neg (by omega), if_neg (by omega)]; exact t0
      · rw [c3, if_neg (by omega), if_neg (by omega), if_neg (by omega), if_neg (by omega), if_neg (by omega), e45, if_neg (by omega), if_pos rfl]
      · rw [c3, if_neg (by omega), if_neg (by omega), if_neg (by omega), if_neg (by omega), if_neg (by omega), e45, if_pos rfl]
      · rw [c3, if_neg (by omega), if_neg (by omega), if_neg (by omega), if_neg (by omega), if_pos rfl]
      · rw [c3, if_neg (by omega), if_neg (by omega), if_neg (by omega), if_pos rfl]
      · rw [c3, if_neg (by omega), if_neg (by omega), if_pos rfl]
      · rw [c3, if_neg (by omega), if_pos rfl]
      · rw [c3, if_pos rfl]
      · rw [c3, if_neg (by omega), if_neg (by omega), if_neg (by omega), if_neg (by omega), if_neg (by omega), e45, if_neg (by omega), if_neg (by omega), told q hq]
    · rw [if_neg hjo] at hx; cases hx
  · intro e he
    rcases exb_err he with he | ⟨r1, hr1, he⟩
    · obtain ⟨st5, q1, q2, q3, q4⟩ := p2 e he
      rw [q1, bd_v, q2, if_neg (by decide)]
      obtain ⟨st7, b1, b2⟩ := m_badO (st := st5) (k := k) (by omega) q2
      exact ⟨st7, b1, by rw [b2.1 19 (by decide)]; exact q2, by rw [b2.1 18 (by decide)]; exact q3, (hF2.tr q4).tr (b2.up (by decide) (by decide) (by decide))⟩
    · obtain ⟨st5, q1, q2, q3, q4, q5⟩ := p1 r1 hr1
      rw [q1, bd_v, q2.2.2.2.2.1, if_pos rfl, ejoint]
      by_cases hjo : tK B L r1.1 = jointO (tK B L j)
      · rw [if_pos hjo] at he
        obtain ⟨st6, s1, s2, s3⟩ := (hjn r1 st5 q2).1 hjo
        rw [s1]
        have hchain : sS false (tK B L) (tV B L) 10 0 (C.length + r1.2.2.1.length) (bc + r1.2.2.2.1.length) (r1.1 + 1) r1.2.1 = .error e ∨ (∃ r2, sS false (tK B L) (tV B L) 10 0 (C.length + r1.2.2.1.length) (bc + r1.2.2.2.1.length) (r1.1 + 1) r1.2.1 = .ok r2 ∧ (sTimes (tK B L) (tV B L) r2.1 = .error e ∨ ∃ tm, sTimes (tK B L) (tV B L) r2.1 = .ok tm ∧ sIf false (tK B L) (tV B L) C.length bc (both2 r1 r2 tm.2) = .error e)) := by
          rcases exb_err he with he | ⟨r2, hr2, he⟩
          · exact Or.inl he
          · rcases exb_err he with he | ⟨tm, htm, he⟩
            · exact Or.inr ⟨r2, hr2, Or.inl he⟩
            · rcases exb_err he with he | ⟨t, ht, he⟩
              · exact Or.inr ⟨r2, hr2, Or.inr ⟨tm, htm, he⟩⟩
              · cases he
        obtain ⟨st7, c1, c2, c3, c4⟩ := (m_ord160V (n := n) (bc := bc) (bm := C.length) (k := k) s2 (by omega) (by rw [List.length_append])).2 e hchain
        exact ⟨st7, c1, c2, c3, ((hF2.tr q5).tr (s3.up (by decide) (by decide) (by decide))).tr c4⟩
      · rw [if_neg hjo] at he
        have he := Except.error.inj he
        subst he
        obtain ⟨st6, s1, s2, s3, s4⟩ := (hjn r1 st5 q2).2 hjo
        exact ⟨st6, s1, s2, s3, (hF2.tr q5).tr s4⟩
def JLV (B : Nat → Nat) (L T k j n : Nat) (Cm Cc : Cd) (c m : St) : Prop := (∃ P o, Mv true B L j n P Cm o m) ∧ Cp true B L T j n Cc c ∧ m.1 21 = Int32.ofNat k ∧ c.1 605 = Int32.ofNat k ∧ k ≤ 12 ∧ ∀ i, i < k → ClL Cm Cc i (m.2.2.1 22) (c.2.2.1 600) (c.2.2.1 602)
theorem law_stepV {B : Nat → Nat} {L T k j n : Nat} {Cm Cc : Cd} {c m : St} {fz : List FP} (h : JLV B L T k j n Cm Cc c m) (hk : k < 12) {x : Lr} (hx : sLawC (tK B L) (tV B L) k Cm.length Cc.length j n = .ok x) : ∃ c1 c2 m', fX9_readLawHead fz c = some (1, c1) ∧ fX9_readIf fz c1 = some (1, c2) ∧ fX12_readLaw m = some ((), m') ∧ JLV B L T (k + 1) x.2.2.2.1 x.2.2.2.2.1 (Cm ++ x.2.1.2.2.1 ++ x.2.2.2.2.2.1) (Cc ++ x.2.1.2.2.2.1 ++ x.2.2.2.2.2.2.1) c2 m' ∧ HF c c2 ∧ LF m m' := by
  obtain ⟨⟨P, o, h1⟩, h2, h3, h4, h5, h6⟩ := h
  obtain ⟨m', P', o', a1, a2, a3, a4, a5, a6⟩ := (m_readLawV (bc := Cc.length) h1 h3 h5).1 x hx
  obtain ⟨c1, c2, b1, b2, b3, b4, b5, b6, b7, b8⟩ := (c_readLaw (fz := fz) (bm := Cm.length) h2 h4 hk).1 x hx
  have hl4 : (Cm ++ x.2.1.2.2.1 ++ x.2.2.2.2.2.1).length ≤ 400 := by have := a2.q.2.2.2.2.1; have := a2.j4; omega
  have hl5 : (Cc ++ x.2.1.2.2.2.1 ++ x.2.2.2.2.2.2.1).length ≤ 400 := by have := b3.2.2.2.2.2.2.2.2.2; have := b3.2.1; have := b3.T4; omega
  refine ⟨c1, c2, m', b1, b2, a1, ⟨⟨P', o', a2⟩, b3, a3, b4, by omega, fun i hi => ?_⟩, b8, a6⟩
  rcases Nat.lt_or_ge i k with q | q
  · have := h6 i q
    have h7 := ClL.app (x := x.2.1.2.2.1 ++ x.2.2.2.2.2.1) (y := x.2.1.2.2.2.1 ++ x.2.2.2.2.2.2.1) this (t' := m'.2.2.1 22) (a' := c2.2.2.1 600) (b' := c2.2.2.1 602) (fun q hq => a5 q (by omega)) (b6 i q) (fun q hq => b7 q (by omega))
    rw [← List.append_assoc, ← List.append_assoc] at h7
    exact h7
  · rw [show i = k by omega]
    exact sLawC_cl hx a4 b5 hl4 hl5
theorem law_loopV {B : Nat → Nat} {L T : Nat} {fz : List FP} {Nc Nm : Nat} : ∀ (f k j n : Nat) (Cm Cc : Cd) (c m : St), k + f = 12 → JLV B L T k j n Cm Cc c m →
    ∃ v c' m', lp (fun _ _ _ _ => none) (fX9_read_b33 fz) (Nc + f + 2) 1 1 (Int32.ofNat k) c = some (v, c') ∧ (bd (fX12_readLaw m) (fun _ m2 => lp (fun _ => none) fX12_law_b37 (Nm + f + 2) m2)) = fX12_law_b64 m' ∧ HF c c' ∧ LF m m' ∧
      ((v = -1 ∧ ∃ k' j' n' Cm' Cc', JLV B L T k' j' n' Cm' Cc' c' m' ∧ tK B L j' = 257) ∨ (∃ e, v = Int32.ofNat (tP B L e) ∧ m'.1 19 = 1 ∧ m'.1 18 = Int32.ofNat (tP B L e)) ∨ (∃ e n P C o, v = Int32.ofNat (tP B L e) ∧ Mv true B L e n P C o m' ∧ tK B L e ≠ 257)) := by
  intro f
  induction f with
  | zero =>
    intro k j n Cm Cc c m hk h
    have hk : k = 12 := by omega
    subst hk
    obtain ⟨⟨P, o, h1⟩, h2, h3, h4, h5, h6⟩ := h
    have herr : sLawC (tK B L) (tV B L) 12 Cm.length Cc.length j n = .error j := by unfold sLawC; rw [if_pos (Or.inr (Nat.le_refl _))]
    obtain ⟨m', a1, a2, a3, a4⟩ := (m_readLawV (bc := Cc.length) h1 h3 h5).2 j herr
    refine ⟨Int32.ofNat (tP B L j), c, m', ?_, ?_, HF.rf, a4, Or.inr (Or.inl ⟨j, rfl, a2, a3⟩)⟩
    · rw [show Nc + 0 + 2 = (Nc + 1) + 1 by omega, lp_s]
      generalize lp (fun _ _ _ _ => none) (fX9_read_b33 fz) (Nc + 1) = kk
      unfold fX9_read_b33 fX9_read_b98 fX9_read_b112 fX9_read_b128
      rw [i10, show (12 : Int32) = Int32.ofNat 12 from rfl, if_leT (Nat.le_refl _) (by omega), i10]
      exact h2.err.place (fz := fz)
    · rw [a1, bd_v, show Nm + 0 + 2 = (Nm + 1) + 1 by omega, lp_s]
      generalize lp (fun _ => none) fX12_law_b37 (Nm + 1) = kk
      unfold fX12_law_b37
      rw [a2, if_neg (by decide)]
  | succ f ih =>
    intro k j n Cm Cc c m hk h
    have hJ := h
    obtain ⟨⟨P, o, h1⟩, h2, h3, h4, h5, h6⟩ := h
    have hbody : lp (fun _ _ _ _ => none) (fX9_read_b33 fz) (Nc + (f + 1) + 2) 1 1 (Int32.ofNat k) c = bd (fX9_readLawHead fz c) (fun r8 st9 => fX9_read_b58 fz (lp (fun _ _ _ _ => none) (fX9_read_b33 fz) (Nc + f + 2)) 1 (Int32.ofNat k) r8 st9) := by
      rw [show Nc + (f + 1) + 2 = (Nc + f + 2) + 1 by omega, lp_s]
      generalize lp (fun _ _ _ _ => none) (fX9_read_b33 fz) (Nc + f + 2) = kk
      unfold fX9_read_b33
      rw [i10, show (12 : Int32) = Int32.ofNat 12 from rfl, if_leF (by omega) (by omega), i10]
    cases hx : sLawC (tK B L) (tV B L) k Cm.length Cc.length j n with
    | error e =>
      obtain ⟨m', a1, a2, a3, a4⟩ := (m_readLawV (bc := Cc.length) h1 h3 h5).2 e hx
      have hm : (bd (fX12_readLaw m) (fun _ m2 => lp (fun _ => none) fX12_law_b37 (Nm + (f + 1) + 2) m2)) = fX12_law_b64 m' := by
        rw [a1, bd_v, show Nm + (f + 1) + 2 = (Nm + f + 2) + 1 by omega, lp_s]
        generalize lp (fun _ => none) fX12_law_b37 (Nm + f + 2) = kk
        unfold fX12_law_b37
        rw [a2, if_neg (by decide)]
      rcases (c_readLaw (fz := fz) (bm := Cm.length) h2 h4 (by omega)).2 e hx with ⟨c1, b1, b2, b3⟩ | ⟨c1, c2, b1, b2, b3, b4⟩
      · refine ⟨Int32.ofNat (tP B L e), c1, m', ?_, hm, b3, a4, Or.inr (Or.inl ⟨e, rfl, a2, a3⟩)⟩
        rw [hbody, b1, bd_v]
        unfold fX9_read_b58 fX9_read_b72
        rw [i00]
        exact b2.place (fz := fz)
      · refine ⟨Int32.ofNat (tP B L e), c2, m', ?_, hm, b4, a4, Or.inr (Or.inl ⟨e, rfl, a2, a3⟩)⟩
        rw [hbody, b1, bd_v]
        unfold fX9_read_b58 fX9_read_b72
        rw [i10, b2, bd_v, i00]
        exact b3.place (fz := fz)
    | ok x =>
      obtain ⟨c1, c2, m', b1, b2, a1, hJ2, b8, a6⟩ := law_stepV (fz := fz) hJ (by omega) hx
      have hJ3 := hJ2
      obtain ⟨⟨P', o', d1⟩, d2, d3, d4, d5, d6⟩ := hJ3
      have hs := d1.isSign (c := 59) (by decide)
      have hp := d2.passes (fz := fz) (c := 59) (by decide)
      have hbody2 : lp (fun _ _ _ _ => none) (fX9_read_b33 fz) (Nc + (f + 1) + 2) 1 1 (Int32.ofNat k) c = bd (fX9_passes 59 fz c2) (fun r3 st4 => lp (fun _ _ _ _ => none) (fX9_read_b33 fz) (Nc + f + 2) 1 r3 (Int32.ofNat (k + 1)) st4) := by
        rw [hbody, b1, bd_v]
        unfold fX9_read_b58
        rw [i10, b2, bd_v, i10, oN_s]
        rfl
      have hmb : (bd (fX12_readLaw m) (fun _ m2 => lp (fun _ => none) fX12_law_b37 (Nm + (f + 1) + 2) m2)) = bd (fX12_isSign 59 m') (fun r15 st16 => if r15 = 0 then (fX12_law_b64 st16) else (bd (fX12_nextToken st16) (fun r17 st18 => bd (fX12_readLaw st18) (fun r19 st20 => lp (fun _ => none) fX12_law_b37 (Nm + f + 2) st20)))) := by
        rw [a1, bd_v, show Nm + (f + 1) + 2 = (Nm + f + 2) + 1 by omega, lp_s]
        generalize lp (fun _ => none) fX12_law_b37 (Nm + f + 2) = kk
        unfold fX12_law_b37
        rw [d1.2.2.2.2.1, if_pos rfl]
      by_cases h59 : tK B L x.2.2.2.1 = 59
      · obtain ⟨c3, e1, e2, e3⟩ := hp.1 h59 (by decide)
        replace e1 : fX9_passes 59 fz c2 = some (1, c3) := e1
        rw [if_pos h59] at hs
        replace hs : fX12_isSign 59 m' = some (1, m') := hs
        obtain ⟨m3, f1, f2, f3⟩ := d1.next (by omega)
        have hJ4 : JLV B L T (k + 1) (x.2.2.2.1 + 1) x.2.2.2.2.1 (Cm ++ x.2.1.2.2.1 ++ x.2.2.2.2.2.1) (Cc ++ x.2.1.2.2.2.1 ++ x.2.2.2.2.2.2.1) c3 m3 := by
          refine ⟨⟨P', o', f2⟩, e2, by rw [f3.1 21 (by decide)]; exact d3, by rw [e3.1 605 (by decide)]; exact d4, d5, fun i hi => ?_⟩
          rw [f3.2.2.1 22 (by decide), e3.2.2.1 600 (by decide), e3.2.2.1 602 (by decide)]
          exact d6 i hi
        obtain ⟨v, c', m4, g1, g2, g3, g4, g5⟩ := ih (k + 1) _ _ _ _ c3 m3 (by omega) hJ4
        refine ⟨v, c', m4, ?_, ?_, (b8.tr (e3.up (by decide) (by decide) (by decide))).tr g3, (a6.tr (f3.up (by decide) (by decide) (by decide))).tr g4, g5⟩
        · rw [hbody2, e1, bd_v]; exact g1
        · rw [hmb, hs, bd_v, i10, f1, bd_v]; exact g2
      · have e1 := hp.2 h59
        replace e1 : fX9_passes 59 fz c2 = some (0, c2) := e1
        rw [if_neg h59] at hs
        replace hs : fX12_isSign 59 m' = some (0, m') := hs
        have hm : (bd (fX12_readLaw m) (fun _ m2 => lp (fun _ => none) fX12_law_b37 (Nm + (f + 1) + 2) m2)) = fX12_law_b64 m' := by rw [hmb, hs, bd_v, i00]
        have hk3 := tK_le (L := L) (j := x.2.2.2.1) d2.hB
        have hc : lp (fun _ _ _ _ => none) (fX9_read_b33 fz) (Nc + (f + 1) + 2) 1 1 (Int32.ofNat k) c = if tK B L x.2.2.2.1 = 257 then some (-1, c2) else some (Int32.ofNat (tP B L x.2.2.2.1), c2) := by
          rw [hbody2, e1, bd_v, show Nc + f + 2 = (Nc + f + 1) + 1 by omega, lp_s]
          generalize lp (fun _ _ _ _ => none) (fX9_read_b33 fz) (Nc + f + 1) = kk
          unfold fX9_read_b33 fX9_read_b98 fX9_read_b112 fX9_read_b128
          rw [i00, i00, d2.kind, show (257 : Int32) = Int32.ofNat 257 from rfl]
          by_cases h257 : tK B L x.2.2.2.1 = 257
          · rw [if_eqT h257, if_pos h257]
          · rw [if_eqF h257 (by omega) (by omega), if_neg h257]
            exact d2.err.place (fz := fz)
        by_cases h257 : tK B L x.2.2.2.1 = 257
        · rw [if_pos h257] at hc
          exact ⟨-1, c2, m', hc, hm, b8, a6, Or.inl ⟨rfl, _, _, _, _, _, hJ2, h257⟩⟩
        · rw [if_neg h257] at hc
          exact ⟨_, c2, m', hc, hm, b8, a6, Or.inr (Or.inr ⟨_, _, P', _, o', rfl, d1, h257⟩)⟩
theorem m_endGoodV {B : Nat → Nat} {L j n o : Nat} {lw : Bool} {P C : Cd} {m : St} (h : Mv lw B L j n P C o m) (hk : tK B L j = 257) : fX12_endText m = some ((), sI (sI m 20 0) 13 0) := by
  have hs := (tok_end h.hB).mpr hk
  have e16 : m.1 16 = 0 := by rw [h.2.1.2.2.1, hs]; rfl
  unfold fX12_endText fX12_endText_b19
  rw [h.2.2.2.2.1, if_pos rfl, e16, if_pos rfl, lt_v, lt_v]
theorem m_endBadV {B : Nat → Nat} {L j n o : Nat} {lw : Bool} {P C : Cd} {m : St} (h : Mv lw B L j n P C o m) (hk : tK B L j ≠ 257) : ∃ m', fX12_endText m = some ((), m') ∧ m'.1 19 = 1 ∧ m'.1 18 = Int32.ofNat (tP B L j) ∧ fr [13, 18, 19, 20] [] [] m m' ∧ m'.1 13 = 0 ∧ m'.1 20 = 0 := by
  have hs : tSort B L j ≠ 0 := fun e => hk ((tok_end h.hB).mp e)
  have h3 := @tSort_le B L j
  have e16 : ¬ m.1 16 = 0 := by
    rw [h.2.1.2.2.1]
    exact fun q => hs ((oN_eq (b := 0) (by omega) (by omega)).mp q)
  obtain ⟨m1, g1, g2, g3, g4⟩ := h.must0
  have hf : fr [13, 18, 19, 20] [] [] m (sI (sI m1 20 0) 13 0) := ((g3.up (by decide) (by decide) (by decide)).tr (fr.sI (k := 20) (by decide))).tr (fr.sI (k := 13) (by decide))
  refine ⟨sI (sI m1 20 0) 13 0, ?_, g2.1, g2.2.1, hf, rfl, rfl⟩
  unfold fX12_endText fX12_endText_b19
  rw [h.2.2.2.2.1, if_pos rfl, if_neg e16, g1, bd_v, lt_v, lt_v]
def JOV (B : Nat → Nat) (L T k j n : Nat) (Cm Cc : Cd) (c m : St) : Prop := (∃ P o, Mv false B L j n P Cm o m) ∧ Cp false B L T j n Cc c ∧ m.1 21 = Int32.ofNat k ∧ c.1 605 = Int32.ofNat k ∧ k ≤ 12 ∧ ∀ i, i < k → ClO Cm Cc i (m.2.2.1 45) (c.2.2.1 600) (c.2.2.1 601) (c.2.2.1 602)
theorem ord_stepV {B : Nat → Nat} {L T k j n : Nat} {Cm Cc : Cd} {c m : St} {fz : List FP} (h : JOV B L T k j n Cm Cc c m) (hk : k < 12) {x : Or'} (hx : sOrdC (tK B L) (tV B L) k Cm.length Cc.length j n = .ok x) : ∃ c1 c2 m', fX9_readOrderHead fz c = some (1, c1) ∧ fX9_readIf fz c1 = some (1, c2) ∧ fX12_readOrder m = some ((), m') ∧ JOV B L T (k + 1) x.2.2.2.2.2.1 x.2.2.2.2.2.2.1 (Cm ++ x.2.1.2.2.1 ++ x.2.2.1.2.2.1 ++ x.2.2.2.2.2.2.2.1) (Cc ++ x.2.1.2.2.2.1 ++ x.2.2.1.2.2.2.1 ++ x.2.2.2.2.2.2.2.2.1) c2 m' ∧ HF c c2 ∧ OF m m' := by
  obtain ⟨⟨P, o, h1⟩, h2, h3, h4, h5, h6⟩ := h
  obtain ⟨m', P', o', a1, a2, a3, a4, a5, a6⟩ := (m_readOrderV (bc := Cc.length) h1 h3 h5).1 x hx
  obtain ⟨c1, c2, b1, b2, b3, b4, b5, b6, b7, b8⟩ := (c_readOrder (fz := fz) (bm := Cm.length) h2 h4 hk).1 x hx
  have hl4 : (Cm ++ x.2.1.2.2.1 ++ x.2.2.1.2.2.1 ++ x.2.2.2.2.2.2.2.1).length ≤ 400 := by have := a2.q.2.2.2.2.1; have := a2.j4; omega
  have hl5 : (Cc ++ x.2.1.2.2.2.1 ++ x.2.2.1.2.2.2.1 ++ x.2.2.2.2.2.2.2.2.1).length ≤ 400 := by have := b3.2.2.2.2.2.2.2.2.2; have := b3.2.1; have := b3.T4; omega
  refine ⟨c1, c2, m', b1, b2, a1, ⟨⟨P', o', a2⟩, b3, a3, b4, by omega, fun i hi => ?_⟩, b8, a6⟩
  rcases Nat.lt_or_ge i k with q | q
  · have := h6 i q
    have h7 := ClO.app (x := x.2.1.2.2.1 ++ (x.2.2.1.2.2.1 ++ x.2.2.2.2.2.2.2.1)) (y := x.2.1.2.2.2.1 ++ (x.2.2.1.2.2.2.1 ++ x.2.2.2.2.2.2.2.2.1)) this (t' := m'.2.2.1 45) (a' := c2.2.2.1 600) (s' := c2.2.2.1 601) (b' := c2.2.2.1 602) (fun q hq => a5 q (by omega)) (b6 i q).1 (b6 i q).2 (fun q hq => b7 q (by omega))
    rw [← List.append_assoc, ← List.append_assoc, ← List.append_assoc, ← List.append_assoc] at h7
    exact h7
  · rw [show i = k by omega]
    exact sOrdC_cl hx a4 b5 hl4 hl5
theorem ord_loopV {B : Nat → Nat} {L T : Nat} {fz : List FP} {Nc Nm : Nat} : ∀ (f k j n : Nat) (Cm Cc : Cd) (c m : St), k + f = 12 → JOV B L T k j n Cm Cc c m →
    ∃ v c' m', lp (fun _ _ _ _ => none) (fX9_read_b33 fz) (Nc + f + 2) 0 1 (Int32.ofNat k) c = some (v, c') ∧ (bd (fX12_readOrder m) (fun _ m2 => lp (fun _ => none) fX12_orders_b19 (Nm + f + 2) m2)) = fX12_orders_b46 m' ∧ HF c c' ∧ OF m m' ∧
      ((v = -1 ∧ ∃ k' j' n' Cm' Cc', JOV B L T k' j' n' Cm' Cc' c' m' ∧ tK B L j' = 257) ∨ (∃ e, v = Int32.ofNat (tP B L e) ∧ m'.1 19 = 1 ∧ m'.1 18 = Int32.ofNat (tP B L e)) ∨ (∃ e n P C o, v = Int32.ofNat (tP B L e) ∧ Mv false B L e n P C o m' ∧ tK B L e ≠ 257)) := by
  intro f
  induction f with
  | zero =>
    intro k j n Cm Cc c m hk h
    have hk : k = 12 := by omega
    subst hk
    obtain ⟨⟨P, o, h1⟩, h2, h3, h4, h5, h6⟩ := h
    have herr : sOrdC (tK B L) (tV B L) 12 Cm.length Cc.length j n = .error j := by unfold sOrdC; rw [if_pos (Or.inr (Nat.le_refl _))]
    obtain ⟨m', a1, a2, a3, a4⟩ := (m_readOrderV (bc := Cc.length) h1 h3 h5).2 j herr
    refine ⟨Int32.ofNat (tP B L j), c, m', ?_, ?_, HF.rf, a4, Or.inr (Or.inl ⟨j, rfl, a2, a3⟩)⟩
    · rw [show Nc + 0 + 2 = (Nc + 1) + 1 by omega, lp_s]
      generalize lp (fun _ _ _ _ => none) (fX9_read_b33 fz) (Nc + 1) = kk
      unfold fX9_read_b33 fX9_read_b98 fX9_read_b112 fX9_read_b128
      rw [i10, show (12 : Int32) = Int32.ofNat 12 from rfl, if_leT (Nat.le_refl _) (by omega), i10]
      exact h2.err.place (fz := fz)
    · rw [a1, bd_v, show Nm + 0 + 2 = (Nm + 1) + 1 by omega, lp_s]
      generalize lp (fun _ => none) fX12_orders_b19 (Nm + 1) = kk
      unfold fX12_orders_b19
      rw [a2, if_neg (by decide)]
  | succ f ih =>
    intro k j n Cm Cc c m hk h
    have hJ := h
    obtain ⟨⟨P, o, h1⟩, h2, h3, h4, h5, h6⟩ := h
    have hbody : lp (fun _ _ _ _ => none) (fX9_read_b33 fz) (Nc + (f + 1) + 2) 0 1 (Int32.ofNat k) c = bd (fX9_readOrderHead fz c) (fun r8 st9 => fX9_read_b58 fz (lp (fun _ _ _ _ => none) (fX9_read_b33 fz) (Nc + f + 2)) 0 (Int32.ofNat k) r8 st9) := by
      rw [show Nc + (f + 1) + 2 = (Nc + f + 2) + 1 by omega, lp_s]
      generalize lp (fun _ _ _ _ => none) (fX9_read_b33 fz) (Nc + f + 2) = kk
      unfold fX9_read_b33
      rw [i10, show (12 : Int32) = Int32.ofNat 12 from rfl, if_leF (by omega) (by omega), i00]
    cases hx : sOrdC (tK B L) (tV B L) k Cm.length Cc.length j n with
    | error e =>
      obtain ⟨m', a1, a2, a3, a4⟩ := (m_readOrderV (bc := Cc.length) h1 h3 h5).2 e hx
      have hm : (bd (fX12_readOrder m) (fun _ m2 => lp (fun _ => none) fX12_orders_b19 (Nm + (f + 1) + 2) m2)) = fX12_orders_b46 m' := by
        rw [a1, bd_v, show Nm + (f + 1) + 2 = (Nm + f + 2) + 1 by omega, lp_s]
        generalize lp (fun _ => none) fX12_orders_b19 (Nm + f + 2) = kk
        unfold fX12_orders_b19
        rw [a2, if_neg (by decide)]
      rcases (c_readOrder (fz := fz) (bm := Cm.length) h2 h4 (by omega)).2 e hx with ⟨c1, b1, b2, b3⟩ | ⟨c1, c2, b1, b2, b3, b4⟩
      · refine ⟨Int32.ofNat (tP B L e), c1, m', ?_, hm, b3, a4, Or.inr (Or.inl ⟨e, rfl, a2, a3⟩)⟩
        rw [hbody, b1, bd_v]
        unfold fX9_read_b58 fX9_read_b72
        rw [i00]
        exact b2.place (fz := fz)
      · refine ⟨Int32.ofNat (tP B L e), c2, m', ?_, hm, b4, a4, Or.inr (Or.inl ⟨e, rfl, a2, a3⟩)⟩
        rw [hbody, b1, bd_v]
        unfold fX9_read_b58 fX9_read_b72
        rw [i10, b2, bd_v, i00]
        exact b3.place (fz := fz)
    | ok x =>
      obtain ⟨c1, c2, m', b1, b2, a1, hJ2, b8, a6⟩ := ord_stepV (fz := fz) hJ (by omega) hx
      have hJ3 := hJ2
      obtain ⟨⟨P', o', d1⟩, d2, d3, d4, d5, d6⟩ := hJ3
      have hs := d1.isSign (c := 59) (by decide)
      have hp := d2.passes (fz := fz) (c := 59) (by decide)
      have hbody2 : lp (fun _ _ _ _ => none) (fX9_read_b33 fz) (Nc + (f + 1) + 2) 0 1 (Int32.ofNat k) c = bd (fX9_passes 59 fz c2) (fun r3 st4 => lp (fun _ _ _ _ => none) (fX9_read_b33 fz) (Nc + f + 2) 0 r3 (Int32.ofNat (k + 1)) st4) := by
        rw [hbody, b1, bd_v]
        unfold fX9_read_b58
        rw [i10, b2, bd_v, i10, oN_s]
        rfl
      have hmb : (bd (fX12_readOrder m) (fun _ m2 => lp (fun _ => none) fX12_orders_b19 (Nm + (f + 1) + 2) m2)) = bd (fX12_isSign 59 m') (fun r15 st16 => if r15 = 0 then (fX12_orders_b46 st16) else (bd (fX12_nextToken st16) (fun r17 st18 => bd (fX12_readOrder st18) (fun r19 st20 => lp (fun _ => none) fX12_orders_b19 (Nm + f + 2) st20)))) := by
        rw [a1, bd_v, show Nm + (f + 1) + 2 = (Nm + f + 2) + 1 by omega, lp_s]
        generalize lp (fun _ => none) fX12_orders_b19 (Nm + f + 2) = kk
        unfold fX12_orders_b19
        rw [d1.2.2.2.2.1, if_pos rfl]
      by_cases h59 : tK B L x.2.2.2.2.2.1 = 59
      · obtain ⟨c3, e1, e2, e3⟩ := hp.1 h59 (by decide)
        replace e1 : fX9_passes 59 fz c2 = some (1, c3) := e1
        rw [if_pos h59] at hs
        replace hs : fX12_isSign 59 m' = some (1, m') := hs
        obtain ⟨m3, f1, f2, f3⟩ := d1.next (by omega)
        have hJ4 : JOV B L T (k + 1) (x.2.2.2.2.2.1 + 1) x.2.2.2.2.2.2.1 (Cm ++ x.2.1.2.2.1 ++ x.2.2.1.2.2.1 ++ x.2.2.2.2.2.2.2.1) (Cc ++ x.2.1.2.2.2.1 ++ x.2.2.1.2.2.2.1 ++ x.2.2.2.2.2.2.2.2.1) c3 m3 := by
          refine ⟨⟨P', o', f2⟩, e2, by rw [f3.1 21 (by decide)]; exact d3, by rw [e3.1 605 (by decide)]; exact d4, d5, fun i hi => ?_⟩
          rw [f3.2.2.1 45 (by decide), e3.2.2.1 600 (by decide), e3.2.2.1 601 (by decide), e3.2.2.1 602 (by decide)]
          exact d6 i hi
        obtain ⟨v, c', m4, g1, g2, g3, g4, g5⟩ := ih (k + 1) _ _ _ _ c3 m3 (by omega) hJ4
        refine ⟨v, c', m4, ?_, ?_, (b8.tr (e3.up (by decide) (by decide) (by decide))).tr g3, (a6.tr (f3.up (by decide) (by decide) (by decide))).tr g4, g5⟩
        · rw [hbody2, e1, bd_v]; exact g1
        · rw [hmb, hs, bd_v, i10, f1, bd_v]; exact g2
      · have e1 := hp.2 h59
        replace e1 : fX9_passes 59 fz c2 = some (0, c2) := e1
        rw [if_neg h59] at hs
        replace hs : fX12_isSign 59 m' = some (0, m') := hs
        have hm : (bd (fX12_readOrder m) (fun _ m2 => lp (fun _ => none) fX12_orders_b19 (Nm + (f + 1) + 2) m2)) = fX12_orders_b46 m' := by rw [hmb, hs, bd_v, i00]
        have hk3 := tK_le (L := L) (j := x.2.2.2.2.2.1) d2.hB
        have hc : lp (fun _ _ _ _ => none) (fX9_read_b33 fz) (Nc + (f + 1) + 2) 0 1 (Int32.ofNat k) c = if tK B L x.2.2.2.2.2.1 = 257 then some (-1, c2) else some (Int32.ofNat (tP B L x.2.2.2.2.2.1), c2) := by
          rw [hbody2, e1, bd_v, show Nc + f + 2 = (Nc + f + 1) + 1 by omega, lp_s]
          generalize lp (fun _ _ _ _ => none) (fX9_read_b33 fz) (Nc + f + 1) = kk
          unfold fX9_read_b33 fX9_read_b98 fX9_read_b112 fX9_read_b128
          rw [i00, i00, d2.kind, show (257 : Int32) = Int32.ofNat 257 from rfl]
          by_cases h257 : tK B L x.2.2.2.2.2.1 = 257
          · rw [if_eqT h257, if_pos h257]
          · rw [if_eqF h257 (by omega) (by omega), if_neg h257]
            exact d2.err.place (fz := fz)
        by_cases h257 : tK B L x.2.2.2.2.2.1 = 257
        · rw [if_pos h257] at hc
          exact ⟨-1, c2, m', hc, hm, b8, a6, Or.inl ⟨rfl, _, _, _, _, _, hJ2, h257⟩⟩
        · rw [if_neg h257] at hc
          exact ⟨_, c2, m', hc, hm, b8, a6, Or.inr (Or.inr ⟨_, _, P', _, o', rfl, d1, h257⟩)⟩
