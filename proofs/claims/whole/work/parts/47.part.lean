/-! T2, the reference's reading machine: parts -/
section Part
variable {lw : Bool} {B : Nat → Nat} {L j n o : Nat} {P C : Cd} {st : St}
theorem Mp.code (h : Mp lw B L j n P C o st) {st' : St} {P' C' : Cd} {I : List Nat} {A : List Nat} (f : fr I [] A st st') (hI : 13 ∉ I ∧ 14 ∉ I ∧ 15 ∉ I ∧ 16 ∉ I ∧ 20 ∉ I ∧ 19 ∉ I ∧ 26 ∉ I ∧ 30 ∉ I ∧ 18 ∉ I) (hA : 12 ∉ A) (hq : Mq true j P' C' st') : Mp lw B L j n P' C' o st' := by
  obtain ⟨a1, a2, a3, a4, a5, a6, a7, a8, a9, a10, a11⟩ := h
  obtain ⟨i13, i14, i15, i16, i20, i19, i26, i30, i18⟩ := hI
  exact ⟨a1.fr f i13 hA, a2.fr f ⟨i14, i15, i16⟩ (by decide), a3.fr f, by rw [f.1 20 i20]; exact a4, by rw [f.1 19 i19]; exact a5, by rw [f.1 26 i26]; exact a6, by rw [f.1 30 i30]; exact a7, a8, a9, hq, a11.1, by rw [f.1 18 i18]; exact a11.2⟩
theorem Mp.settle (h : Mp lw B L j n P C o st) {l : Nat} (hl : l ≤ 6) (hl1 : 1 ≤ l) : ∃ st', fX12_settle (Int32.ofNat l) st = some ((), st') ∧ Mp lw B L j n (setl l P C).1 (setl l P C).2 o st' ∧ fr [23, 29] [] [24, 25] st st' := by
  obtain ⟨st', g1, g2, g3⟩ := h.q.settle hl hl1
  exact ⟨st', g1, h.code g3 (by decide) (by decide) g2, g3⟩
theorem Mp.push (h : Mp lw B L j n P C o st) {op a : Nat} (hp : P.length + 1 ≤ j) (hc : C.length + cst ((op, a) :: P) ≤ j) (ho : 20 ≤ op) (ho2 : op ≤ 32) (ha : a < 400) : ∃ st', fX12_push (Int32.ofNat op) (Int32.ofNat a) st = some ((), st') ∧ Mp lw B L j n ((op, a) :: P) C o st' ∧ fr [29] [] [27, 28] st st' := by
  obtain ⟨st', g1, g2, g3⟩ := h.q.push hp hc ho ho2 ha
  exact ⟨st', g1, h.code g3 (by decide) (by decide) g2, g3⟩
theorem Mp.emit (h : Mp lw B L j n P C o st) {op a : Nat} (hc : C.length + 1 + cst P ≤ j) : ∃ st', fX12_emit (Int32.ofNat op) (Int32.ofNat a) st = some ((), st') ∧ Mp lw B L j n P (C ++ [(op, a)]) o st' ∧ fr [23] [] [24, 25] st st' := by
  obtain ⟨st', g1, g2, g3⟩ := h.q.emit (o := op) (a := a) hc
  exact ⟨st', g1, h.code g3 (by decide) (by decide) g2, g3⟩
/-- pushed, then the next token: the room is the next token's -/
theorem Mp.pushNext (h : Mp lw B L j n P C o st) {op a : Nat} (hk : tK B L j ≠ 257) (ho : 20 ≤ op) (ho2 : op ≤ 32) (ha : a < 400) : ∃ st' st'', fX12_push (Int32.ofNat op) (Int32.ofNat a) st = some ((), st') ∧ fX12_nextToken st' = some ((), st'') ∧ Mp lw B L (j + 1) n ((op, a) :: P) C o st'' ∧ PF st st'' := by
  obtain ⟨hl, hl2⟩ := h.lt hk
  have hq := h.q
  obtain ⟨st', g1, g2, g3⟩ := (hq.up (Nat.le_succ j) hl2).push (o := op) (a := a) (by have := hq.2.2.2.2.2.1; omega) (by have := hq.2.2.2.2.1; unfold cst; split <;> omega) ho ho2 ha
  have e15 : st'.1 15 = Int32.ofNat (lxP B L (j + 1)) := by rw [g3.1 15 (by decide)]; exact h.2.1.2.1
  have hf : fr [14, 15, 16] [17] [] st' (tkS st' (Int32.ofNat (tP B L (j + 1))) (Int32.ofNat (lxP B L (j + 1 + 1))) (Int32.ofNat (tSort B L (j + 1))) (tWorth B L (j + 1))) := by
    refine ⟨fun k hk => ?_, fun k hk => ?_, fun _ _ => rfl, rfl⟩
    · exact tkS_r (fun e => hk (by rw [e]; decide)) (fun e => hk (by rw [e]; decide)) (fun e => hk (by rw [e]; decide))
    · show va_up st'.2.1 17 _ k = _
      rw [vup_v, if_neg (fun e => hk (by rw [e]; decide))]
  obtain ⟨a1, a2, a3, a4, a5, a6, a7, a8, a9, a10, a11⟩ := h
  have ht : tpM B L st' := a1.fr g3 (by decide) (by decide)
  refine ⟨st', _, g1, m_nextToken ht e15, ⟨ht.fr hf (by decide) (by decide), ⟨rfl, rfl, rfl, rfl⟩, (a3.fr g3).fr hf, ?_, ?_, ?_, ?_, a8, a9, g2.fr hf (by decide) (by decide), ?_⟩, (g3.up (by decide) (by decide) (by decide)).tr (hf.up (by decide) (by decide) (by decide))⟩
  · rw [hf.1 20 (by decide), g3.1 20 (by decide)]; exact a4
  · rw [hf.1 19 (by decide), g3.1 19 (by decide)]; exact a5
  · rw [hf.1 26 (by decide), g3.1 26 (by decide)]; exact a6
  · rw [hf.1 30 (by decide), g3.1 30 (by decide)]; exact a7
  · refine ⟨?_, by rw [hf.1 18 (by decide), g3.1 18 (by decide)]; exact a11.2⟩
    intro i hi
    rcases Nat.lt_or_ge i j with h3 | h3
    · exact a11.1 i h3
    · rw [show i = j by omega]; exact hl
theorem Mp.leaf (h : Mp lw B L j n P C o st) {op a : Nat} (hk : tK B L j ≠ 257) (hn : n < 50) : ∃ st', fX12_leaf 1 (Int32.ofNat op) (Int32.ofNat a) st = some ((), st') ∧ Mp lw B L (j + 1) (n + 1) P (C ++ [(op, a)]) o st' ∧ PF st st' := by
  obtain ⟨st1, g1, g2, g3⟩ := h.must1 hk
  obtain ⟨st2, k1, k2, k3⟩ := g2.emit (op := op) (a := a) (by have := h.q.2.2.2.2.1; omega)
  have hf : fr [26] [] [] st2 (sI st2 26 (Int32.ofNat (n + 1))) := fr.sI (by decide)
  refine ⟨sI st2 26 (Int32.ofNat (n + 1)), ?_, ?_, ?_⟩
  · unfold fX12_leaf fX12_leaf_b19
    rw [if_neg (by decide), h.2.2.2.2.2.1, oN_lit, if_leF (by omega) (by omega), g1, bd_v, g2.2.2.2.2.1, if_pos rfl, k1, bd_v, lt_v, k2.2.2.2.2.2.1, oN_lit, oN_add]
    rfl
  · obtain ⟨a1, a2, a3, a4, a5, a6, a7, a8, a9, a10, a11⟩ := k2
    exact ⟨a1.fr hf (by decide) (by decide), a2.fr hf (by decide) (by decide), a3.fr hf, a4, a5, rfl, a7, by omega, a9, a10.fr hf (by decide) (by decide), a11⟩
  · exact ((g3.up (by decide) (by decide) (by decide)).tr (k3.up (by decide) (by decide) (by decide))).tr (hf.up (by decide) (by decide) (by decide))
theorem Mp.leafBad (h : Mp lw B L j n P C o st) {op a is : Int32} (hb : is = 0 ∨ 50 ≤ n) : ∃ st', fX12_leaf is op a st = some ((), st') ∧ Mb B L j st' ∧ PF st st' ∧ Mq true j P C st' := by
  obtain ⟨st1, g1, g2, g3, g4⟩ := h.must0
  have hn : n ≤ 50 := h.2.2.2.2.2.2.2.1
  refine ⟨st1, ?_, g2, g3.up (by decide) (by decide) (by decide), g4⟩
  have e19 : fX12_leaf_b19 op a 0 st = some ((), st1) := by
    unfold fX12_leaf_b19
    rw [g1, bd_v, g2.1, if_neg (by decide)]
    rfl
  unfold fX12_leaf fX12_leaf_b18
  by_cases e : is = 0
  · rw [if_pos e]; exact e19
  · rw [if_neg e, h.2.2.2.2.2.1, oN_lit, if_leT (Or.resolve_left hb e) (by omega)]; exact e19
theorem Mp.brk (h : Mp lw B L j n P C o st) {op : Nat} (hk : tK B L j ≠ 257) (ho : o < 8) (hop : op = 31 ∨ op = 32) : ∃ st', fX12_openBracket (Int32.ofNat op) st = some ((), st') ∧ Mp lw B L (j + 1) n ((op, 0) :: P) C (o + 1) st' ∧ PF st st' := by
  obtain ⟨st1, g1, g2, g3⟩ := h.must1 hk
  have hf : fr [30] [] [] st1 (sI st1 30 (Int32.ofNat (o + 1))) := fr.sI (by decide)
  have hM : Mp lw B L (j + 1) n P C (o + 1) (sI st1 30 (Int32.ofNat (o + 1))) := by
    obtain ⟨a1, a2, a3, a4, a5, a6, a7, a8, a9, a10, a11⟩ := g2
    exact ⟨a1.fr hf (by decide) (by decide), a2.fr hf (by decide) (by decide), a3.fr hf, a4, a5, a6, rfl, a8, by omega, a10.fr hf (by decide) (by decide), a11⟩
  obtain ⟨st2, k1, k2, k3⟩ := hM.push (op := op) (a := 0) (by have := h.q.2.2.2.2.2.1; omega) (by have := h.q.2.2.2.2.1; unfold cst; rw [if_neg (by rcases hop with e | e <;> rw [e] <;> decide)]; omega) (by omega) (by omega) (by omega)
  refine ⟨st2, ?_, k2, ((g3.up (by decide) (by decide) (by decide)).tr (hf.up (by decide) (by decide) (by decide))).tr (k3.up (by decide) (by decide) (by decide))⟩
  unfold fX12_openBracket fX12_openBracket_b15
  rw [h.2.2.2.2.2.2.1, oN_lit, if_leF (by omega) (by omega), g1, bd_v, g2.2.2.2.2.1, if_pos rfl, lt_v, g2.2.2.2.2.2.2.1, oN_s]
  rw [show (Int32.ofNat 0) = (0 : Int32) from rfl] at k1
  rw [k1, bd_v]
  rfl
theorem Mp.brkBad (h : Mp lw B L j n P C o st) {op : Int32} (ho : 8 ≤ o) : ∃ st', fX12_openBracket op st = some ((), st') ∧ Mb B L j st' ∧ PF st st' := by
  obtain ⟨st1, g1, g2, g3, g4⟩ := h.must0
  have ho8 : o ≤ 8 := h.2.2.2.2.2.2.2.2.1
  refine ⟨st1, ?_, g2, g3.up (by decide) (by decide) (by decide)⟩
  unfold fX12_openBracket fX12_openBracket_b15
  rw [h.2.2.2.2.2.2.1, oN_lit, if_leT ho (by omega), g1, bd_v, g2.1, if_neg (by decide)]
  rfl
/-- a number in bounds that stands next -/
theorem Mp.number (h : Mp lw B L j n P C o st) {lo hi : Nat} (hl : lo ≤ 1) (hh : hi ≤ 20) (hk : tK B L j = 256) (h1 : lo ≤ tV B L j) (h2 : tV B L j ≤ hi) : ∃ st', fX12_number (Int64.ofNat lo) (Int64.ofNat hi) st = some (Int32.ofNat (tV B L j), st') ∧ Mp lw B L (j + 1) n P C o st' ∧ fr [14, 15, 16] [17] [] st st' := by
  obtain ⟨st1, g1, g2, g3⟩ := h.must1 (by omega)
  have hs := (tok_num h.hB).mpr hk
  obtain ⟨v1, v2, v3⟩ := tok_val (m := hi) hs (by omega)
  have ev := v2 h2
  refine ⟨st1, ?_, g2, g3⟩
  unfold fX12_number fX12_number_b33
  have e16 : st.1 16 = 2 := by rw [h.2.1.2.2.1, hs]; rfl
  have e17 : st.2.1 17 = Int64.ofNat (tV B L j) := by rw [h.2.1.2.2.2]; exact ev
  have eT : (Int64.ofNat (tV B L j)).toInt32 = Int32.ofNat (tV B L j) := by
    rw [← o64 (by omega)]; exact Int32.toInt32_toInt64 _
  have ein : fX12_in (Int64.ofNat (tV B L j)) (Int64.ofNat lo) (Int64.ofNat hi) = some 1 := by
    rw [m_in, if_pos]
    constructor
    · rw [Int64.le_iff_toInt_le, Int64.toInt_ofNat_of_lt (by omega), Int64.toInt_ofNat_of_lt (by omega)]; omega
    · rw [Int64.le_iff_toInt_le, Int64.toInt_ofNat_of_lt (by omega), Int64.toInt_ofNat_of_lt (by omega)]; omega
  rw [lt_v, e16, if_pos rfl, e17, ein, bs_v, if_neg (by decide), g1, bd_v, eT]
theorem Mp.numberBad (h : Mp lw B L j n P C o st) {lo hi : Nat} (hl : lo ≤ 1) (hh : hi ≤ 20) (hb : ¬ (tK B L j = 256 ∧ lo ≤ tV B L j ∧ tV B L j ≤ hi)) : ∃ st', fX12_number (Int64.ofNat lo) (Int64.ofNat hi) st = some ((tWorth B L j).toInt32, st') ∧ Mb B L j st' ∧ fr [18, 19] [] [] st st' ∧ Mq true j P C st' := by
  obtain ⟨st1, g1, g2, g3, g4⟩ := h.must0
  refine ⟨st1, ?_, g2, g3, g4⟩
  unfold fX12_number fX12_number_b32 fX12_number_b33
  have h3 := @tSort_le B L j
  rw [lt_v, h.2.1.2.2.1, h.2.1.2.2.2, oN_lit]
  by_cases hs : tSort B L j = 2
  · obtain ⟨v1, v2, v3⟩ := tok_val (m := hi) hs (by omega)
    obtain ⟨w1, w2, w3⟩ := tok_val (m := 1000) hs (by omega)
    have hk := (tok_num h.hB).mp hs
    have ein : fX12_in (tWorth B L j) (Int64.ofNat lo) (Int64.ofNat hi) = some 0 := by
      rw [m_in, if_neg]
      intro q
      have q2 := v1.mp q.2
      have q3 := v2 q2
      have q1 := q.1
      rw [q3, Int64.le_iff_toInt_le, Int64.toInt_ofNat_of_lt (by omega), Int64.toInt_ofNat_of_lt (by omega)] at q1
      exact hb ⟨hk, by omega, q2⟩
    rw [if_eqT hs, ein, bs_v, if_pos rfl, g1, bd_v]
  · rw [if_eqF hs (by omega) (by omega), g1, bd_v]
/-- one part: what the reference does, against the grammar -/
theorem Mp.readPart (h : Mp lw B L j n P C o st) (hk : tK B L j ≠ 91) : (∀ r, sLeaf lw (tK B L) (tV B L) j n = .ok r → ∃ st', fX12_readPart st = some (3, st') ∧ Mp lw B L r.1 r.2.1 P (C ++ r.2.2.1) o st' ∧ PF st st') ∧ (∀ e, sLeaf lw (tK B L) (tV B L) j n = .error e → ∃ st', fX12_readPart st = some (3, st') ∧ Mb B L e st' ∧ PF st st') := by
  have hn50 : n ≤ 50 := h.2.2.2.2.2.2.2.1
  have e91 : fX12_isSign 91 st = some (0, st) := by
    have := h.isSign (c := 91) (by decide)
    rw [if_neg hk] at this
    exact this
  have h3 := @tSort_le B L j
  have e16 := h.2.1.2.2.1
  have e17 := h.2.1.2.2.2
  -- its: which word; what follows
  have hbase : ∀ its : Int32, (if st.1 20 = 0 then fX12_partAt st else fX12_orderPartAt st) = some (its, st) → fX12_readPart st = fX12_readPart_b35 its st := by
    intro its hi
    unfold fX12_readPart
    rw [e91, bd_v, if_pos rfl]
    by_cases h20 : st.1 20 = 0
    · rw [if_pos h20] at hi
      rw [if_pos h20, hi, bd_v]
    · rw [if_neg h20] at hi
      rw [if_neg h20, hi, bd_v]
  have hdig : ∀ its : Int32, fX12_readPart_b35 its st = if tK B L j = 256 ∧ tV B L j ≤ 1000 then fX12_readPart_b60 its 1 st else fX12_readPart_b60 its 0 st := by
    intro its
    unfold fX12_readPart_b35 fX12_readPart_b59
    rw [e16, oN_lit]
    by_cases hs : tSort B L j = 2
    · obtain ⟨v1, v2, v3⟩ := tok_val (m := 1000) hs (by omega)
      have hk2 := (tok_num h.hB).mp hs
      replace v1 : tWorth B L j ≤ (1000 : Int64) ↔ tV B L j ≤ 1000 := v1
      rw [if_eqT hs, e17]
      by_cases hv : tV B L j ≤ 1000
      · rw [if_neg (fun q => Int64.not_lt.mpr (v1.mpr hv) ((cmp_gt _ _).mp q)), if_pos ⟨hk2, hv⟩]
      · rw [if_pos ((cmp_gt _ _).mpr (Int64.not_le.mp (fun q => hv (v1.mp q)))), if_neg (fun q => hv q.2)]
    · rw [if_eqF hs (by omega) (by omega), if_neg (fun q => hs ((tok_num h.hB).mpr q.1))]
  -- nothing that can stand there
  have hbad : ∀ (is op a : Int32) (its : Int32), (is = 0 ∨ 50 ≤ n) → ∃ st', fX12_readPart_b99 its a op is st = some (3, st') ∧ Mb B L j st' ∧ PF st st' := by
    intro is op a its hb
    obtain ⟨st1, g1, g2, g3, g4⟩ := h.leafBad (op := op) (a := a) hb
    refine ⟨st1, ?_, g2, g3⟩
    unfold fX12_readPart_b99
    rw [g1, bd_v, g2.1]
    split
    · rfl
    · split
      · rfl
      · rw [if_neg (by decide)]; rfl
  have hall : ∀ (its : Int32) (d : Int32), ∃ is op a, fX12_readPart_b60 its d st = fX12_readPart_b99 its a op is st := by
    intro its d
    unfold fX12_readPart_b60 fX12_readPart_b71 fX12_readPart_b76 fX12_readPart_b86
    by_cases e1 : its = -1
    · by_cases e2 : d = 0
      · simp only [if_pos e1, if_pos e2]; exact ⟨_, _, _, rfl⟩
      · simp only [if_pos e1, if_neg e2]; exact ⟨_, _, _, rfl⟩
    · by_cases e2 : d = 0
      · simp only [if_neg e1, if_pos e2]; exact ⟨_, _, _, rfl⟩
      · simp only [if_neg e1, if_neg e2]; exact ⟨_, _, _, rfl⟩
  have hits : ∃ its, (if st.1 20 = 0 then fX12_partAt st else fX12_orderPartAt st) = some (its, st) ∧ its = (if lw = true then (if 316 ≤ tK B L j ∧ tK B L j ≤ 325 then Int32.ofNat (tK B L j - 315) else -1) else (if oWord (tK B L j) = 0 then -1 else Int32.ofNat (oWord (tK B L j)))) := by
    have h20 := h.2.2.2.1
    cases lw with
    | true =>
      rw [if_pos rfl] at h20 ⊢
      rw [if_pos h20]
      exact ⟨_, h.partAt, rfl⟩
    | false =>
      rw [if_neg (by decide)] at h20
      rw [if_neg (show ¬ st.1 20 = 0 by rw [h20]; decide)]
      exact ⟨_, h.orderPartAt, (if_neg Bool.false_ne_true).symm⟩
  obtain ⟨its, hi1, hi2⟩ := hits
  rw [hbase its hi1, hdig its]
  unfold sLeaf
  by_cases h50 : 50 ≤ n
  · rw [if_pos h50]
    refine ⟨fun r hr => (by cases hr), fun e he => ?_⟩
    cases he
    split
    · obtain ⟨is, op, a, q⟩ := hall its 1
      rw [q]; exact hbad is op a its (Or.inr h50)
    · obtain ⟨is, op, a, q⟩ := hall its 0
      rw [q]; exact hbad is op a its (Or.inr h50)
  rw [if_neg h50]
  by_cases hd : tK B L j = 256 ∧ tV B L j ≤ 1000
  · rw [if_pos hd, if_pos hd]
    have hw0 : oWord (tK B L j) = 0 := by rw [hd.1]; decide
    have hits1 : its = -1 := by
      rw [hi2, if_pos hw0, if_neg (show ¬ (316 ≤ tK B L j ∧ tK B L j ≤ 325) by omega)]
      split <;> rfl
    refine ⟨fun r hr => ?_, fun e he => by cases he⟩
    cases hr
    subst hits1
    obtain ⟨st1, g1, g2, g3⟩ := h.leaf (op := 0) (a := tV B L j) (by omega) (by omega)
    refine ⟨st1, ?_, g2, g3⟩
    have hs := (tok_num h.hB).mpr hd.1
    obtain ⟨v1, v2, v3⟩ := tok_val (m := 1000) hs (by omega)
    have eT : (st.2.1 17).toInt32 = Int32.ofNat (tV B L j) := by
      rw [e17, v2 hd.2, ← o64 (by omega)]; exact Int32.toInt32_toInt64 _
    unfold fX12_readPart_b60 fX12_readPart_b71 fX12_readPart_b76 fX12_readPart_b86 fX12_readPart_b99
    rw [if_pos rfl, if_neg (by decide), if_pos rfl, if_neg (by decide), eT]
    rw [show (Int32.ofNat 0) = (0 : Int32) from rfl] at g1
    rw [g1, bd_v]
    split
    · rfl
    · rw [if_pos (by decide)]; rfl
  rw [if_neg hd, if_neg hd]
  cases lw with
  | true =>
    rw [if_pos rfl] at hi2
    rw [if_pos rfl]
    by_cases hw : 316 ≤ tK B L j ∧ tK B L j ≤ 325
    · rw [if_pos hw] at hi2
      rw [if_pos hw]
      refine ⟨fun r hr => ?_, fun e he => by cases he⟩
      cases hr
      obtain ⟨st1, g1, g2, g3⟩ := h.leaf (op := tK B L j - 315) (a := 0) (by omega) (by omega)
      refine ⟨st1, ?_, g2, g3⟩
      subst hi2
      have h20 : st1.1 20 = 0 := g2.2.2.2.1
      unfold fX12_readPart_b60 fX12_readPart_b71 fX12_readPart_b76 fX12_readPart_b86 fX12_readPart_b99
      rw [if_neg (oN_ne1 (by omega)), if_neg (oN_ne1 (by omega)), if_pos rfl]
      rw [show (Int32.ofNat 0) = (0 : Int32) from rfl] at g1
      rw [g1, bd_v, if_pos h20]
      rfl
    · rw [if_neg hw] at hi2
      rw [if_neg hw]
      refine ⟨fun r hr => (by cases hr), fun e he => ?_⟩
      cases he
      subst hi2
      unfold fX12_readPart_b60 fX12_readPart_b76 fX12_readPart_b86
      rw [if_pos rfl, if_pos rfl, if_pos rfl, if_pos rfl]
      exact hbad 0 0 0 _ (Or.inl rfl)
  | false =>
    rw [if_neg (by decide)] at hi2
    rw [if_neg (by decide)]
    have h6 := oWord_le (tK B L j)
    by_cases hw : oWord (tK B L j) = 0
    · rw [if_pos hw] at hi2
      rw [if_pos hw]
      refine ⟨fun r hr => (by cases hr), fun e he => ?_⟩
      cases he
      subst hi2
      unfold fX12_readPart_b60 fX12_readPart_b76 fX12_readPart_b86
      rw [if_pos rfl, if_pos rfl, if_pos rfl, if_pos rfl]
      exact hbad 0 0 0 _ (Or.inl rfl)
    rw [if_neg hw] at hi2
    rw [if_neg hw]
    have hk257 : tK B L j ≠ 257 := fun e => hw (by rw [e]; decide)
    by_cases hw3 : oWord (tK B L j) ≤ 3
    · rw [if_pos hw3]
      refine ⟨fun r hr => ?_, fun e he => by cases he⟩
      cases hr
      obtain ⟨st1, g1, g2, g3⟩ := h.leaf (op := oWord (tK B L j)) (a := 0) hk257 (by omega)
      refine ⟨st1, ?_, g2, g3⟩
      subst hi2
      have h20 : st1.1 20 = 1 := g2.2.2.2.1
      unfold fX12_readPart_b60 fX12_readPart_b71 fX12_readPart_b76 fX12_readPart_b86 fX12_readPart_b99
      rw [if_neg (oN_ne1 (by omega)), if_neg (oN_ne1 (by omega)), if_pos rfl]
      rw [show (Int32.ofNat 0) = (0 : Int32) from rfl] at g1
      rw [g1, bd_v, h20, if_neg (by decide), oN_lit, if_ltT (by omega) (by omega)]
      rfl
    · rw [if_neg hw3]
      obtain ⟨st1, g1, g2, g3⟩ := h.leaf (op := oWord (tK B L j)) (a := 0) hk257 (by omega)
      subst hi2
      have h20 : st1.1 20 = 1 := g2.2.2.2.1
      have h23 : st1.1 23 = Int32.ofNat (C.length + 1) := by rw [g2.q.2.2.1, List.length_append]; rfl
      have hc4 : C.length + 1 ≤ 400 := by have := g2.q.2.2.2.2.1; have := g2.j4; rw [List.length_append] at *; simp at *; omega
      have e99 : fX12_readPart_b60 (Int32.ofNat (oWord (tK B L j))) 0 st = fX12_readPart_b150 (Int64.ofNat (if oWord (tK B L j) = 6 then 3 else 5)) (Int64.ofNat 0) (Int32.ofNat C.length) st1 := by
        unfold fX12_readPart_b60 fX12_readPart_b71 fX12_readPart_b76 fX12_readPart_b86 fX12_readPart_b99
        rw [if_neg (oN_ne1 (by omega)), if_neg (oN_ne1 (by omega)), if_pos rfl]
        rw [show (Int32.ofNat 0) = (0 : Int32) from rfl] at g1
        rw [g1, bd_v, h20, if_neg (by decide), oN_lit, if_ltF (by omega) (by omega), g2.2.2.2.2.1, if_pos rfl, lt_v, h23, oN_lit, oN_lit, oN_sub (by omega)]
        by_cases e6 : oWord (tK B L j) = 6
        · rw [if_eqT e6, if_pos e6]; rfl
        · rw [if_eqF e6 (by omega) (by omega), if_neg e6]; rfl
      rw [e99]
      have hlim : (if oWord (tK B L j) = 6 then 3 else 5) ≤ 20 := by split <;> omega
      by_cases hv : tK B L (j + 1) = 256 ∧ tV B L (j + 1) ≤ (if oWord (tK B L j) = 6 then 3 else 5)
      · rw [if_pos hv]
        refine ⟨fun r hr => ?_, fun e he => by cases he⟩
        cases hr
        obtain ⟨st2, k1, k2, k3⟩ := g2.number (lo := 0) (hi := if oWord (tK B L j) = 6 then 3 else 5) (by omega) hlim hv.1 (Nat.zero_le _) hv.2
        have hf : fr [] [] [25] st2 (sA st2 25 (upd (st2.2.2.1 25) C.length (Int32.ofNat (tV B L (j + 1))))) := fr.sA (by decide)
        refine ⟨sA st2 25 (upd (st2.2.2.1 25) C.length (Int32.ofNat (tV B L (j + 1)))), ?_, ?_, (g3.tr (k3.up (by decide) (by decide) (by decide))).tr (hf.up (by decide) (by decide) (by decide))⟩
        · unfold fX12_readPart_b150
          rw [k1, bd_v, gi_N (by omega) (by omega), lt_v, oN_tn (by omega)]
          rfl
        · refine k2.code (P' := P) hf (by decide) (by decide) ?_
          obtain ⟨m1, m2, m3, m4, m5, m6, m7, m8⟩ := k2.q
          have e := setA_app C (oWord (tK B L j), 0) [] (tV B L (j + 1))
          rw [← e]
          refine ⟨m1, m2, ?_, fun q => codeR_set (m4 q), ?_, m6, m7, m8⟩
          · rw [setA_len]; exact m3
          · rw [setA_len]; exact m5
      · rw [if_neg hv]
        refine ⟨fun r hr => (by cases hr), fun e he => ?_⟩
        cases he
        obtain ⟨st2, k1, k2, k3, k4⟩ := g2.numberBad (lo := 0) (hi := if oWord (tK B L j) = 6 then 3 else 5) (by omega) hlim (fun q => hv ⟨q.1, q.2.2⟩)
        have hf : fr [] [] [25] st2 (sA st2 25 (upd (st2.2.2.1 25) C.length (tWorth B L (j + 1)).toInt32)) := fr.sA (by decide)
        refine ⟨sA st2 25 (upd (st2.2.2.1 25) C.length (tWorth B L (j + 1)).toInt32), ?_, ⟨k2.1, k2.2.1, k2.2.2.1, j + 1, P, C ++ [(oWord (tK B L j), 0)], ?_⟩, (g3.tr (k3.up (by decide) (by decide) (by decide))).tr (hf.up (by decide) (by decide) (by decide))⟩
        · unfold fX12_readPart_b150
          rw [k1, bd_v, gi_N (by omega) (by omega), lt_v, oN_tn (by omega)]
          rfl
        · obtain ⟨m1, m2, m3, m4, m5⟩ := k4
          exact ⟨m1, m2, m3, fun q => (by cases q), m5⟩
end Part
