/-! T2, the reference's reading machine: tokens and turns -/
def tokM (B : Nat → Nat) (L j : Nat) (st : St) : Prop := st.1 14 = Int32.ofNat (tP B L j) ∧ st.1 15 = Int32.ofNat (lxP B L (j + 1)) ∧ st.1 16 = Int32.ofNat (tSort B L j) ∧ st.2.1 17 = tWorth B L j
/-- tables of words -/
def wdM (st : St) : Prop := (∀ k, k < 10 → st.2.2.2.1 31 k = Int64.ofNat (wcd (16 + k))) ∧ (∀ k, k < 6 → st.2.2.2.1 32 k = Int64.ofNat (wcd ([24, 26, 27, 17, 28, 2].getD k 0))) ∧ (∀ k, k < 4 → st.2.2.2.1 33 k = Int64.ofNat (wcd k)) ∧ (∀ k, k < 4 → st.2.2.2.1 44 k = Int64.ofNat (wcd ([4, 5, 7, 6].getD k 0)))
def Mp (lw : Bool) (B : Nat → Nat) (L j n : Nat) (P C : Cd) (o : Nat) (st : St) : Prop := tpM B L st ∧ tokM B L j st ∧ wdM st ∧ st.1 20 = (if lw = true then 0 else 1) ∧ st.1 19 = 0 ∧ st.1 26 = Int32.ofNat n ∧ st.1 30 = Int32.ofNat o ∧ n ≤ 50 ∧ o ≤ 8 ∧ Mq true j P C st ∧ (∀ i, i < j → tP B L i < L) ∧ st.1 18 = -1
/-- a fault was found -/
def Mb (B : Nat → Nat) (L e : Nat) (st : St) : Prop := st.1 19 = 1 ∧ st.1 18 = Int32.ofNat (tP B L e) ∧ e ≤ 400 ∧ ∃ j P C, Mq false j P C st
def PF : St → St → Prop := fr [14, 15, 16, 18, 19, 23, 26, 29, 30] [17] [24, 25, 27, 28]
theorem PF.rf {st : St} : PF st st := fr.rf
theorem PF.tr {a b c : St} (h : PF a b) (k : PF b c) : PF a c := fr.tr h k
theorem tpM.fr {B : Nat → Nat} {L : Nat} {st st' : St} {I J A : List Nat} (h : tpM B L st) (f : fr I J A st st') (h1 : 13 ∉ I) (h2 : 12 ∉ A) : tpM B L st' := ⟨h.1, by rw [f.1 13 h1]; exact h.2.1, by rw [f.2.2.1 12 h2]; exact h.2.2.1, h.2.2.2⟩
theorem tokM.fr {B : Nat → Nat} {L j : Nat} {st st' : St} {I J A : List Nat} (h : tokM B L j st) (f : fr I J A st st') (h1 : 14 ∉ I ∧ 15 ∉ I ∧ 16 ∉ I) (h2 : 17 ∉ J) : tokM B L j st' := ⟨by rw [f.1 14 h1.1]; exact h.1, by rw [f.1 15 h1.2.1]; exact h.2.1, by rw [f.1 16 h1.2.2]; exact h.2.2.1, by rw [f.2.1 17 h2]; exact h.2.2.2⟩
theorem wdM.fr {st st' : St} {I J A : List Nat} (h : wdM st) (f : fr I J A st st') : wdM st' := by unfold wdM; rw [f.2.2.2]; exact h
section Turn
variable {lw : Bool} {B : Nat → Nat} {L j n o : Nat} {P C : Cd} {st : St}
theorem Mp.hB (h : Mp lw B L j n P C o st) : ∀ i, B i < 256 := h.1.2.2.2
theorem Mp.q (h : Mp lw B L j n P C o st) : Mq true j P C st := h.2.2.2.2.2.2.2.2.2.1
theorem Mp.j4 (h : Mp lw B L j n P C o st) : j ≤ 400 := h.q.2.2.2.2.2.2.1
theorem Mp.lt (h : Mp lw B L j n P C o st) (hk : tK B L j ≠ 257) : tP B L j < L ∧ j + 1 ≤ 400 := by
  have h1 : tP B L j < L := by
    rcases Nat.lt_or_ge (tP B L j) L with h2 | h2
    · exact h2
    · exact absurd ((tok_end h.hB).mp (by unfold tSort; rw [if_pos h2])) hk
  refine ⟨h1, ?_⟩
  have h2 := lxP_j (B := B) (L := L) (j + 1) (fun i hi => by
    rcases Nat.lt_or_ge i j with h3 | h3
    · exact h.2.2.2.2.2.2.2.2.2.2.1 i h3
    · rw [show i = j by omega]; exact h1)
  have h3 := @lxP_le B L (j + 1)
  have h4 := h.1.1
  omega
theorem Mp.isWord (h : Mp lw B L j n P C o st) {i : Nat} (hi : i < 29) {a : Int64} (ha : a = Int64.ofNat (wcd i)) : fX12_isWord a st = some (if tK B L j = 300 + i then 1 else 0, st) := by
  unfold fX12_isWord
  have hw := tok_word (L := L) (j := j) h.hB hi
  obtain ⟨-, ⟨t1, t2, t3, t4⟩, -⟩ := h
  have h3 := @tSort_le B L j
  rw [t3, t4, ha, oN_lit]
  by_cases hk : tK B L j = 300 + i
  · obtain ⟨h1, h2⟩ := hw.mpr hk
    rw [if_eqT h1, if_pos ((cmp_eq _ _).mpr h2), if_pos hk]
    rfl
  · rw [if_neg hk]
    by_cases h1 : tSort B L j = 1
    · rw [if_eqT h1, if_neg (fun q => hk (hw.mp ⟨h1, (cmp_eq _ _).mp q⟩))]
      rfl
    · rw [if_eqF h1 (by omega) (by omega)]
      rfl
theorem Mp.isSign (h : Mp lw B L j n P C o st) {c : Nat} (hc : c < 256) : fX12_isSign (Int32.ofNat c) st = some (if tK B L j = c then 1 else 0, st) := by
  unfold fX12_isSign
  have hw := tok_sign (L := L) (j := j) h.hB hc
  obtain ⟨-, ⟨t1, t2, t3, t4⟩, -⟩ := h
  have h3 := @tSort_le B L j
  rw [t3, t4, o64 (by omega), oN_lit]
  by_cases hk : tK B L j = c
  · obtain ⟨h1, h2⟩ := hw.mpr hk
    rw [if_eqT h1, if_pos ((cmp_eq _ _).mpr h2), if_pos hk]
    rfl
  · rw [if_neg hk]
    by_cases h1 : tSort B L j = 3
    · rw [if_eqT h1, if_neg (fun q => hk (hw.mp ⟨h1, (cmp_eq _ _).mp q⟩))]
      rfl
    · rw [if_eqF h1 (by omega) (by omega)]
      rfl
theorem Mp.next (h : Mp lw B L j n P C o st) (hk : tK B L j ≠ 257) : ∃ st', fX12_nextToken st = some ((), st') ∧ Mp lw B L (j + 1) n P C o st' ∧ fr [14, 15, 16] [17] [] st st' := by
  obtain ⟨hl, hl2⟩ := h.lt hk
  have hq := h.q
  obtain ⟨a1, a2, a3, a4, a5, a6, a7, a8, a9, a10, a11⟩ := h
  have hf : fr [14, 15, 16] [17] [] st (tkS st (Int32.ofNat (tP B L (j + 1))) (Int32.ofNat (lxP B L (j + 1 + 1))) (Int32.ofNat (tSort B L (j + 1))) (tWorth B L (j + 1))) := by
    refine ⟨fun k hk => ?_, fun k hk => ?_, fun _ _ => rfl, rfl⟩
    · exact tkS_r (fun e => hk (by rw [e]; decide)) (fun e => hk (by rw [e]; decide)) (fun e => hk (by rw [e]; decide))
    · show va_up st.2.1 17 _ k = _
      rw [vup_v, if_neg (fun e => hk (by rw [e]; decide))]
  refine ⟨_, m_nextToken a1 a2.2.1, ⟨a1.fr hf (by decide) (by decide), ⟨rfl, rfl, rfl, rfl⟩, a3.fr hf, ?_, ?_, ?_, ?_, a8, a9, (a10.fr hf (by decide) (by decide)).up (Nat.le_succ j) hl2, ?_⟩, hf⟩
  · rw [hf.1 20 (by decide)]; exact a4
  · rw [hf.1 19 (by decide)]; exact a5
  · rw [hf.1 26 (by decide)]; exact a6
  · rw [hf.1 30 (by decide)]; exact a7
  · refine ⟨?_, by rw [hf.1 18 (by decide)]; exact a11.2⟩
    intro i hi
    rcases Nat.lt_or_ge i j with h3 | h3
    · exact a11.1 i h3
    · rw [show i = j by omega]; exact hl
theorem Mp.must1 (h : Mp lw B L j n P C o st) (hk : tK B L j ≠ 257) : ∃ st', fX12_must 1 st = some ((), st') ∧ Mp lw B L (j + 1) n P C o st' ∧ fr [14, 15, 16] [17] [] st st' := by
  obtain ⟨st', g1, g2, g3⟩ := h.next hk
  refine ⟨st', ?_, g2, g3⟩
  unfold fX12_must fX12_must_b24
  rw [h.2.2.2.2.1, if_pos rfl, if_neg (by decide), if_pos rfl, g1]
  rfl
theorem Mp.must0 (h : Mp lw B L j n P C o st) : ∃ st', fX12_must 0 st = some ((), st') ∧ Mb B L j st' ∧ fr [18, 19] [] [] st st' ∧ Mq true j P C st' := by
  have hf : fr [18, 19] [] [] st (sI (sI st 19 1) 18 (st.1 14)) := (fr.sI (k := 19) (by decide)).tr (fr.sI (k := 18) (by decide))
  have hq := h.q.fr hf (by decide) (by decide)
  refine ⟨sI (sI st 19 1) 18 (st.1 14), ?_, ⟨rfl, h.2.1.1, h.j4, j, P, C, hq.weak⟩, hf, hq⟩
  unfold fX12_must fX12_must_b24
  rw [h.2.2.2.2.1, if_pos rfl, if_pos rfl, lt_v, lt_v]
  rfl
/-- at the machine's end after a fault -/
theorem Mb.over {e : Nat} (h : Mb B L e st) (v1 t : Int32) (m : Nat) : ∃ st', lp (fun _ _ _ => none) fX12_readExpression_b20 (m + 1) v1 t st = some ((), st') ∧ st'.1 19 = 1 ∧ st'.1 18 = Int32.ofNat (tP B L e) ∧ fr [23, 29] [] [24, 25] st st' := by
  obtain ⟨h1, h2, -, j, P, C, hq⟩ := h
  obtain ⟨st', g1, g2, g3⟩ := hq.settle (l := 1) (by decide) (by decide)
  refine ⟨st', ?_, by rw [g3.1 19 (by decide)]; exact h1, by rw [g3.1 18 (by decide)]; exact h2, g3⟩
  rw [lp_s]
  generalize lp (fun _ _ _ => none) fX12_readExpression_b20 m = k
  unfold fX12_readExpression_b20 fX12_readExpression_b76
  rw [h1, if_neg (by decide), show (1 : Int32) = Int32.ofNat 1 from rfl, g1]
  rfl
theorem Mp.partAt (h : Mp lw B L j n P C o st) : fX12_partAt st = some (if 316 ≤ tK B L j ∧ tK B L j ≤ 325 then Int32.ofNat (tK B L j - 315) else -1, st) := by
  have hloop : ∀ (k m : Nat), k ≤ 10 → lp (fun _ _ _ => none) fX12_partAt_b4 (m + k) (if 316 ≤ tK B L j ∧ tK B L j < 326 - k then Int32.ofNat (tK B L j - 315) else -1) (Int32.ofNat (10 - k)) st = lp (fun _ _ _ => none) fX12_partAt_b4 m (if 316 ≤ tK B L j ∧ tK B L j < 326 then Int32.ofNat (tK B L j - 315) else -1) (Int32.ofNat 10) st := by
    intro k
    induction k with
    | zero => intro m _; rfl
    | succ k ih =>
      intro m hk
      rw [← ih m (by omega), ← Nat.add_assoc, lp_s]
      generalize lp (fun _ _ _ => none) fX12_partAt_b4 (m + k) = kk
      conv => lhs; unfold fX12_partAt_b4
      rw [oN_lit, if_leF (by omega) (by omega), gi_N (by omega) (by omega), oN_tn (by omega), h.2.2.1.1 _ (by omega), h.isWord (i := 16 + (10 - (k + 1))) (by omega) rfl, bd_v]
      unfold fX12_partAt_b30
      have e10 : 10 - (k + 1) + 1 = 10 - k := by omega
      by_cases hc : tK B L j = 300 + (16 + (10 - (k + 1)))
      · rw [if_pos hc]
        rw [if_neg (by decide), lt_v, oN_lit, oN_add, e10]
        rw [if_pos (show 316 ≤ tK B L j ∧ tK B L j < 326 - k by omega), show tK B L j - 315 = 10 - k by omega]
      · rw [if_neg hc, if_pos rfl, lt_v, oN_lit, oN_add, e10]
        by_cases hd : 316 ≤ tK B L j ∧ tK B L j < 326 - (k + 1)
        · rw [if_pos hd, if_pos (show 316 ≤ tK B L j ∧ tK B L j < 326 - k by omega)]
        · rw [if_neg hd, if_neg (show ¬ (316 ≤ tK B L j ∧ tK B L j < 326 - k) by omega)]
  have := hloop 10 5990 (Nat.le_refl _)
  unfold fX12_partAt
  rw [if_neg (show ¬ (316 ≤ tK B L j ∧ tK B L j < 326 - 10) by omega)] at this
  refine this.trans ?_
  rw [show (5990 : Nat) = 5989 + 1 from rfl, lp_s]
  generalize lp (fun _ _ _ => none) fX12_partAt_b4 5989 = kk
  unfold fX12_partAt_b4
  rw [oN_lit, if_leT (Nat.le_refl _) (by omega)]
  by_cases hd : 316 ≤ tK B L j ∧ tK B L j < 326
  · rw [if_pos hd, if_pos (show 316 ≤ tK B L j ∧ tK B L j ≤ 325 by omega)]
  · rw [if_neg hd, if_neg (show ¬ (316 ≤ tK B L j ∧ tK B L j ≤ 325) by omega)]
theorem oWord_at (K k : Nat) (hk : k < 6) : K = 300 + [24, 26, 27, 17, 28, 2].getD k 0 ↔ oWord K = k + 1 := by
  have hall : ∀ k, k < 6 → oWord (300 + [24, 26, 27, 17, 28, 2].getD k 0) = k + 1 := by decide
  constructor
  · intro e; rw [e]; exact hall k hk
  · intro e
    unfold oWord at e
    have h6 : k = 0 ∨ k = 1 ∨ k = 2 ∨ k = 3 ∨ k = 4 ∨ k = 5 := by omega
    rcases h6 with rfl | rfl | rfl | rfl | rfl | rfl <;> simp only [List.getD_cons_zero, List.getD_cons_succ] <;> (repeat' split at e) <;> omega
theorem Mp.orderPartAt (h : Mp lw B L j n P C o st) : fX12_orderPartAt st = some (if oWord (tK B L j) = 0 then -1 else Int32.ofNat (oWord (tK B L j)), st) := by
  have h6 := oWord_le (tK B L j)
  have hw := oWord_at (tK B L j)
  generalize oWord (tK B L j) = w at h6 hw ⊢
  have hloop : ∀ (k m : Nat), k ≤ 6 → lp (fun _ _ _ => none) fX12_orderPartAt_b4 (m + k) (if w = 0 ∨ 6 - k < w then -1 else Int32.ofNat w) (Int32.ofNat (6 - k)) st = lp (fun _ _ _ => none) fX12_orderPartAt_b4 m (if w = 0 ∨ 6 < w then -1 else Int32.ofNat w) (Int32.ofNat 6) st := by
    intro k
    induction k with
    | zero => intro m _; rfl
    | succ k ih =>
      intro m hk
      rw [← ih m (by omega), ← Nat.add_assoc, lp_s]
      generalize lp (fun _ _ _ => none) fX12_orderPartAt_b4 (m + k) = kk
      conv => lhs; unfold fX12_orderPartAt_b4
      have hlt : [24, 26, 27, 17, 28, 2].getD (6 - (k + 1)) 0 < 29 := by
        have : ∀ q, q < 6 → [24, 26, 27, 17, 28, 2].getD q 0 < 29 := by decide
        exact this _ (by omega)
      rw [oN_lit, if_leF (by omega) (by omega), gi_N (by omega) (by omega), oN_tn (by omega), h.2.2.1.2.1 _ (by omega), h.isWord hlt rfl, bd_v]
      unfold fX12_orderPartAt_b30
      have e10 : 6 - (k + 1) + 1 = 6 - k := by omega
      have hw1 := hw (6 - (k + 1)) (by omega)
      by_cases hc : tK B L j = 300 + [24, 26, 27, 17, 28, 2].getD (6 - (k + 1)) 0
      · have hw2 := hw1.mp hc
        rw [if_pos hc]
        rw [if_neg (by decide), lt_v, oN_lit, oN_add, e10]
        rw [if_neg (show ¬ (w = 0 ∨ 6 - k < w) by omega), show w = 6 - k by omega]
      · have hw2 : ¬ w = 6 - (k + 1) + 1 := fun e => hc (hw1.mpr e)
        rw [if_neg hc, if_pos rfl, lt_v, oN_lit, oN_add, e10]
        by_cases hd : w = 0 ∨ 6 - (k + 1) < w
        · rw [if_pos hd, if_pos (show w = 0 ∨ 6 - k < w by omega)]
        · rw [if_neg hd, if_neg (show ¬ (w = 0 ∨ 6 - k < w) by omega)]
  have := hloop 6 5994 (Nat.le_refl _)
  unfold fX12_orderPartAt
  rw [if_pos (show w = 0 ∨ 6 - 6 < w by omega)] at this
  refine this.trans ?_
  rw [show (5994 : Nat) = 5993 + 1 from rfl, lp_s]
  generalize lp (fun _ _ _ => none) fX12_orderPartAt_b4 5993 = kk
  unfold fX12_orderPartAt_b4
  rw [oN_lit, if_leT (Nat.le_refl _) (by omega)]
  by_cases hd : w = 0
  · rw [if_pos hd, if_pos (Or.inl hd)]
  · rw [if_neg hd, if_neg (by omega)]
end Turn
