/-! T2, tokens of a tape: B its bytes, L how many -/
def isLb (b : Nat) : Bool := decide (97 ≤ b ∧ b ≤ 122)
def isDb (b : Nat) : Bool := decide (48 ≤ b ∧ b ≤ 57)
def lxR (q : Nat → Bool) (B : Nat → Nat) (L : Nat) : Nat → Nat → Nat
  | 0, p => p
  | f + 1, p => if p < L ∧ q (B p) = true then lxR q B L f (p + 1) else p
def isBl (b : Nat) : Bool := decide (b = 32)
def lxS (B : Nat → Nat) (L p : Nat) : Nat := lxR isBl B L 401 p
def lxE (B : Nat → Nat) (L p : Nat) : Nat := if L ≤ p then p else if isLb (B p) = true then lxR isLb B L 401 (p + 1) else if isDb (B p) = true then lxR isDb B L 401 (p + 1) else p + 1
def lxP (B : Nat → Nat) (L : Nat) : Nat → Nat
  | 0 => 0
  | j + 1 => lxE B L (lxS B L (lxP B L j))
def tP (B : Nat → Nat) (L j : Nat) : Nat := lxS B L (lxP B L j)
def lxW (B : Nat → Nat) (p : Nat) : Nat → Int64
  | 0 => 0
  | k + 1 => if k < 10 then lxW B p k * 32 + Int64.ofNat (B (p + k)) - 96 else -1
def lxN (B : Nat → Nat) (p : Nat) : Nat → Int64
  | 0 => 0
  | k + 1 => if lxN B p k ≤ 1000000 then lxN B p k * 10 + Int64.ofNat (B (p + k)) - 48 else lxN B p k
def tSort (B : Nat → Nat) (L j : Nat) : Nat := if L ≤ tP B L j then 0 else if isLb (B (tP B L j)) = true then 1 else if isDb (B (tP B L j)) = true then 2 else 3
def tWorth (B : Nat → Nat) (L j : Nat) : Int64 := if tSort B L j = 0 then 0 else if tSort B L j = 1 then lxW B (tP B L j) (lxP B L (j + 1) - tP B L j) else if tSort B L j = 2 then lxN B (tP B L j) (lxP B L (j + 1) - tP B L j) else Int64.ofNat (B (tP B L j))
theorem lxR_ge {q : Nat → Bool} {B : Nat → Nat} {L : Nat} : ∀ f p, p ≤ lxR q B L f p := by
  intro f
  induction f with
  | zero => intro p; exact Nat.le_refl p
  | succ f ih =>
    intro p
    unfold lxR
    split
    · exact Nat.le_trans (Nat.le_succ p) (ih (p + 1))
    · exact Nat.le_refl p
theorem lxR_le {q : Nat → Bool} {B : Nat → Nat} {L : Nat} : ∀ f p, p ≤ L → lxR q B L f p ≤ L := by
  intro f
  induction f with
  | zero => intro p h; exact h
  | succ f ih =>
    intro p h
    unfold lxR
    split
    · rename_i h2; exact ih (p + 1) h2.1
    · exact h
theorem lxR_end {q : Nat → Bool} {B : Nat → Nat} {L : Nat} : ∀ f p, L < p + f → ¬ (lxR q B L f p < L ∧ q (B (lxR q B L f p)) = true) := by
  intro f
  induction f with
  | zero => intro p h h2; have := h2.1; unfold lxR at this; omega
  | succ f ih =>
    intro p h
    unfold lxR
    split
    · exact ih (p + 1) (by omega)
    · rename_i h2; exact h2
theorem lxR_all {q : Nat → Bool} {B : Nat → Nat} {L : Nat} : ∀ f p i, p ≤ i → i < lxR q B L f p → i < L ∧ q (B i) = true := by
  intro f
  induction f with
  | zero => intro p i h h2; unfold lxR at h2; omega
  | succ f ih =>
    intro p i h h2
    unfold lxR at h2
    split at h2
    · rename_i h3
      by_cases e : i = p
      · subst e; exact h3
      · exact ih (p + 1) i (by omega) h2
    · omega
theorem lxE_gt {B : Nat → Nat} {L p : Nat} (h : p < L) : p < lxE B L p := by
  unfold lxE
  rw [if_neg (by omega)]
  split
  · exact lxR_ge 401 (p + 1)
  · split
    · exact lxR_ge 401 (p + 1)
    · omega
theorem lxE_le {B : Nat → Nat} {L p : Nat} (h : p ≤ L) : lxE B L p ≤ L := by
  unfold lxE
  split
  · exact h
  · split
    · exact lxR_le 401 (p + 1) (by omega)
    · split
      · exact lxR_le 401 (p + 1) (by omega)
      · omega
theorem lxP_le {B : Nat → Nat} {L : Nat} : ∀ j, lxP B L j ≤ L := by
  intro j
  induction j with
  | zero => exact Nat.zero_le L
  | succ j ih => exact lxE_le (lxR_le 401 _ ih)
theorem tP_le {B : Nat → Nat} {L j : Nat} : tP B L j ≤ L := lxR_le 401 _ (lxP_le j)
theorem tP_ge {B : Nat → Nat} {L j : Nat} : lxP B L j ≤ tP B L j := lxR_ge 401 _
theorem lxP_gt {B : Nat → Nat} {L j : Nat} (h : tP B L j < L) : tP B L j < lxP B L (j + 1) := lxE_gt h
theorem lxP_j {B : Nat → Nat} {L : Nat} : ∀ j, (∀ i, i < j → tP B L i < L) → j ≤ lxP B L j := by
  intro j
  induction j with
  | zero => intro _; exact Nat.zero_le _
  | succ j ih =>
    intro h
    have h1 := ih (fun i hi => h i (by omega))
    have h2 := lxP_gt (h j (by omega))
    have h3 := @tP_ge B L j
    omega
/-! one number after the other: what the reference's nextToken writes -/
theorem sI_sI (st : St) (k : Nat) (a b : Int32) : sI (sI st k a) k b = sI st k b := by
  unfold sI
  congr 1
  funext j
  simp only [vup_v]
  split <;> rfl
def tkS (st : St) (a b s : Int32) (w : Int64) : St := (va_up (va_up (va_up st.1 14 a) 15 b) 16 s, va_up st.2.1 17 w, st.2.2)
theorem tkS_14 {st : St} {a b s x : Int32} {w : Int64} : sI (tkS st a b s w) 14 x = tkS st x b s w := by
  unfold sI tkS
  congr 1
  funext j
  simp only [vup_v]
  by_cases h : j = 14
  · subst h; rfl
  · simp only [if_neg h]
theorem tkS_15 {st : St} {a b s x : Int32} {w : Int64} : sI (tkS st a b s w) 15 x = tkS st a x s w := by
  unfold sI tkS
  congr 1
  funext j
  simp only [vup_v]
  by_cases h : j = 15
  · subst h; rfl
  · simp only [if_neg h]
theorem tkS_16 {st : St} {a b s x : Int32} {w : Int64} : sI (tkS st a b s w) 16 x = tkS st a b x w := by
  unfold sI tkS
  congr 1
  funext j
  simp only [vup_v]
  by_cases h : j = 16
  · subst h; rfl
  · simp only [if_neg h]
theorem tkS_17 {st : St} {a b s : Int32} {w x : Int64} : sJ (tkS st a b s w) 17 x = tkS st a b s x := by
  unfold sJ tkS
  congr 2
  funext j
  simp only [vup_v]
  split <;> rfl
theorem tkS_r14 {st : St} {a b s : Int32} {w : Int64} : (tkS st a b s w).1 14 = a := rfl
theorem tkS_r15 {st : St} {a b s : Int32} {w : Int64} : (tkS st a b s w).1 15 = b := rfl
theorem tkS_r16 {st : St} {a b s : Int32} {w : Int64} : (tkS st a b s w).1 16 = s := rfl
theorem tkS_r17 {st : St} {a b s : Int32} {w : Int64} : (tkS st a b s w).2.1 17 = w := rfl
theorem tkS_r {st : St} {a b s : Int32} {w : Int64} {k : Nat} (h : k ≠ 14) (h2 : k ≠ 15) (h3 : k ≠ 16) : (tkS st a b s w).1 k = st.1 k := by
  unfold tkS
  simp only [vup_v, if_neg h, if_neg h2, if_neg h3]
theorem tkS_rA {st : St} {a b s : Int32} {w : Int64} : (tkS st a b s w).2.2 = st.2.2 := rfl
theorem tkS_self {st : St} : st = tkS st (st.1 14) (st.1 15) (st.1 16) (st.2.1 17) := by
  unfold tkS
  have e1 : va_up (va_up (va_up st.1 14 (st.1 14)) 15 (st.1 15)) 16 (st.1 16) = st.1 := by
    funext j
    simp only [vup_v]
    split
    · rename_i h; rw [h]
    · split
      · rename_i h; rw [h]
      · split
        · rename_i h; rw [h]
        · rfl
  have e2 : va_up st.2.1 17 (st.2.1 17) = st.2.1 := by
    funext j
    simp only [vup_v]
    split
    · rename_i h; rw [h]
    · rfl
  rw [e1, e2]
/-- the reference's tape -/
def tpM (B : Nat → Nat) (L : Nat) (st : St) : Prop := L ≤ 400 ∧ st.1 13 = Int32.ofNat L ∧ (∀ i, i < 400 → st.2.2.1 12 i = Int32.ofNat (B i)) ∧ ∀ i, B i < 256
theorem tpM.tk {B : Nat → Nat} {L : Nat} {st : St} {a b s : Int32} {w : Int64} (h : tpM B L st) : tpM B L (tkS st a b s w) := ⟨h.1, by rw [tkS_r (by decide) (by decide) (by decide)]; exact h.2.1, h.2.2.1, h.2.2.2⟩
theorem m_isSmall {b : Nat} (hb : b < 256) : fX12_isSmall (Int32.ofNat b) = some (if isLb b = true then 1 else 0) := by
  unfold fX12_isSmall fX12_isSmall_b16 fX12_isSmall_b17 isLb
  simp only [oN_lit, decide_eq_true_eq]
  by_cases h1 : b < 97
  · rw [if_ltT h1 (by omega), if_neg (by omega)]; rfl
  · rw [if_ltF (by omega) (by omega)]
    by_cases h2 : 122 < b
    · rw [if_ltT h2 (by omega), if_neg (by omega)]; rfl
    · rw [if_ltF (by omega) (by omega), if_pos (by omega)]; rfl
theorem m_isDigit {b : Nat} (hb : b < 256) : fX12_isDigit (Int32.ofNat b) = some (if isDb b = true then 1 else 0) := by
  unfold fX12_isDigit fX12_isDigit_b16 fX12_isDigit_b17 isDb
  simp only [oN_lit, decide_eq_true_eq]
  by_cases h1 : b < 48
  · rw [if_ltT h1 (by omega), if_neg (by omega)]; rfl
  · rw [if_ltF (by omega) (by omega)]
    by_cases h2 : 57 < b
    · rw [if_ltT h2 (by omega), if_neg (by omega)]; rfl
    · rw [if_ltF (by omega) (by omega), if_pos (by omega)]; rfl
theorem m_isSmallT {b : Nat} (hb : b < 256) (h : isLb b = true) : fX12_isSmall (Int32.ofNat b) = some 1 := by rw [m_isSmall hb, if_pos h]
theorem m_isSmallF {b : Nat} (hb : b < 256) (h : ¬ isLb b = true) : fX12_isSmall (Int32.ofNat b) = some 0 := by rw [m_isSmall hb, if_neg h]
theorem m_isDigitT {b : Nat} (hb : b < 256) (h : isDb b = true) : fX12_isDigit (Int32.ofNat b) = some 1 := by rw [m_isDigit hb, if_pos h]
theorem m_isDigitF {b : Nat} (hb : b < 256) (h : ¬ isDb b = true) : fX12_isDigit (Int32.ofNat b) = some 0 := by rw [m_isDigit hb, if_neg h]
theorem nx_l1 {B : Nat → Nat} {L : Nat} {st : St} (ht : tpM B L st) : ∀ (f p n : Nat) (b s : Int32) (w : Int64), L < p + f → p ≤ L → lp (fun _ => none) fX12_nextToken_b8 (n + f) (tkS st (Int32.ofNat p) b s w) = fX12_nextToken_b46 (tkS st (Int32.ofNat (lxR isBl B L f p)) b s w) := by
  intro f
  induction f with
  | zero => intro p n b s w h h2; omega
  | succ f ih =>
    intro p n b s w h h2
    obtain ⟨hL, h13, h12, hB⟩ := ht
    rw [← Nat.add_assoc, lp_s]
    have ih := ih (p + 1) n b s w
    generalize lp (fun _ => none) fX12_nextToken_b8 (n + f) = k at ih ⊢
    unfold fX12_nextToken_b8 lxR
    rw [tkS_r14, tkS_r (by decide) (by decide) (by decide), h13, tkS_rA, oN_tn (by omega)]
    by_cases hp : L ≤ p
    · rw [if_leT hp (by omega), if_neg (by omega)]
    · rw [if_leF (by omega) (by omega), gi_N (by omega) (by omega), h12 p (by omega), oN_lit]
      by_cases hb : B p = 32
      · rw [if_eqT hb, if_pos ⟨by omega, by unfold isBl; exact decide_eq_true hb⟩, lt_v, tkS_14, oN_lit, oN_add]
        exact ih (by omega) (by omega)
      · rw [if_eqF hb (by have := hB p; omega) (by omega), if_neg (fun h => hb (of_decide_eq_true h.2))]
theorem nx_l3 {B : Nat → Nat} {L : Nat} {st : St} (ht : tpM B L st) {a : Nat} : ∀ (f p n : Nat), L < p + f → p ≤ L → a ≤ p → lp (fun _ => none) fX12_nextToken_b243 (n + f) (tkS st (Int32.ofNat a) (Int32.ofNat p) 2 (lxN B a (p - a))) = some ((), tkS st (Int32.ofNat a) (Int32.ofNat (lxR isDb B L f p)) 2 (lxN B a (lxR isDb B L f p - a))) := by
  intro f
  induction f with
  | zero => intro p n h h2; omega
  | succ f ih =>
    intro p n h h2 h3
    have ht' := ht
    obtain ⟨hL, h13, h12, hB⟩ := ht'
    rw [← Nat.add_assoc, lp_s]
    have e2 := ih (p + 1) n (by omega)
    generalize lp (fun _ => none) fX12_nextToken_b243 (n + f) = k at e2 ⊢
    unfold fX12_nextToken_b243 lxR
    rw [tkS_r16, if_pos rfl, tkS_r15, tkS_r17, tkS_r (by decide) (by decide) (by decide), h13, tkS_rA, oN_tn (by omega)]
    by_cases hp : L ≤ p
    · rw [if_leT hp (by omega), if_neg (by omega)]; rfl
    · rw [if_leF (by omega) (by omega), gi_N (by omega) (by omega), h12 p (by omega)]
      by_cases hb : isDb (B p) = true
      · rw [m_isDigitT (hB p) hb, bs_v, if_neg (by decide), if_pos (show p < L ∧ isDb (B p) = true from ⟨by omega, hb⟩)]
        have e : lxN B a (p + 1 - a) = if lxN B a (p - a) ≤ 1000000 then lxN B a (p - a) * 10 + Int64.ofNat (B p) - 48 else lxN B a (p - a) := by
          rw [show p + 1 - a = (p - a) + 1 by omega]
          show (if lxN B a (p - a) ≤ 1000000 then lxN B a (p - a) * 10 + Int64.ofNat (B (a + (p - a))) - 48 else lxN B a (p - a)) = _
          rw [show a + (p - a) = p by omega]
        have e2 := e2 (by omega) (by omega)
        rw [e] at e2
        unfold fX12_nextToken_b319
        by_cases hw : lxN B a (p - a) ≤ 1000000
        · rw [if_pos hw] at e2
          rw [if_pos ((cmp_le _ _).mpr hw), gi_N (by omega) (by omega), lt_v, lt_v, tkS_17, tkS_r15, tkS_15, oN_lit, oN_add, o64 (by have := hB p; omega)]
          exact e2
        · rw [if_neg hw] at e2
          rw [if_neg (fun q => hw ((cmp_le _ _).mp q)), lt_v, lt_v, tkS_17, tkS_r15, tkS_15, oN_lit, oN_add]
          exact e2
      · rw [m_isDigitF (hB p) hb, bs_v, if_pos rfl, if_neg (show ¬ (p < L ∧ isDb (B p) = true) from fun h => hb h.2)]; rfl
theorem nx_l3n {st : St} {a b s : Int32} {w : Int64} {n : Nat} (h : s ≠ 2) : lp (fun _ => none) fX12_nextToken_b243 (n + 1) (tkS st a b s w) = some ((), tkS st a b s w) := by
  rw [lp_s]
  generalize lp (fun _ => none) fX12_nextToken_b243 n = k
  unfold fX12_nextToken_b243
  rw [tkS_r16, if_neg h]
  rfl
theorem nx_l2 {B : Nat → Nat} {L : Nat} {st : St} (ht : tpM B L st) {a : Nat} : ∀ (f p n : Nat), L < p + f → p ≤ L → a ≤ p → lp (fun _ => none) fX12_nextToken_b149 (n + f) (tkS st (Int32.ofNat a) (Int32.ofNat p) 1 (lxW B a (p - a))) = some ((), tkS st (Int32.ofNat a) (Int32.ofNat (lxR isLb B L f p)) 1 (lxW B a (lxR isLb B L f p - a))) := by
  intro f
  induction f with
  | zero => intro p n h h2; omega
  | succ f ih =>
    intro p n h h2 h3
    have ht' := ht
    obtain ⟨hL, h13, h12, hB⟩ := ht'
    rw [← Nat.add_assoc, lp_s]
    have e2 := ih (p + 1) n (by omega)
    generalize lp (fun _ => none) fX12_nextToken_b149 (n + f) = k at e2 ⊢
    unfold fX12_nextToken_b149 lxR
    rw [tkS_r16, if_pos rfl, tkS_r15, tkS_r14, tkS_r17, tkS_r (by decide) (by decide) (by decide), h13, tkS_rA, oN_tn (by omega)]
    by_cases hp : L ≤ p
    · rw [if_leT hp (by omega), if_neg (by omega)]; exact nx_l3n (n := 5999) (by decide)
    · rw [if_leF (by omega) (by omega), gi_N (by omega) (by omega), h12 p (by omega)]
      by_cases hb : isLb (B p) = true
      · rw [m_isSmallT (hB p) hb, bs_v, if_neg (by decide), if_pos (show p < L ∧ isLb (B p) = true from ⟨by omega, hb⟩)]
        have e : lxW B a (p + 1 - a) = if p - a < 10 then lxW B a (p - a) * 32 + Int64.ofNat (B p) - 96 else -1 := by
          rw [show p + 1 - a = (p - a) + 1 by omega]
          show (if p - a < 10 then lxW B a (p - a) * 32 + Int64.ofNat (B (a + (p - a))) - 96 else -1) = _
          rw [show a + (p - a) = p by omega]
        have e2 := e2 (by omega) (by omega)
        rw [e] at e2
        rw [oN_sub h3, oN_lit]
        unfold fX12_nextToken_b227
        by_cases hw : p - a < 10
        · rw [if_pos hw] at e2
          rw [if_leF (by omega) (by omega), gi_N (by omega) (by omega), lt_v, lt_v, tkS_17, tkS_r15, tkS_15, oN_lit, oN_add, o64 (by have := hB p; omega)]
          exact e2
        · rw [if_neg hw] at e2
          rw [if_leT (by omega) (by omega), lt_v, lt_v, tkS_17, tkS_r15, tkS_15, oN_lit, oN_add]
          exact e2
      · rw [m_isSmallF (hB p) hb, bs_v, if_pos rfl, if_neg (show ¬ (p < L ∧ isLb (B p) = true) from fun h => hb h.2)]; exact nx_l3n (n := 5999) (by decide)
theorem nx_l2n {st : St} {a b s : Int32} {w : Int64} {n : Nat} (h : s ≠ 1) : lp (fun _ => none) fX12_nextToken_b149 (n + 1) (tkS st a b s w) = lp (fun _ => none) fX12_nextToken_b243 6000 (tkS st a b s w) := by
  rw [lp_s]
  generalize lp (fun _ => none) fX12_nextToken_b149 n = k
  unfold fX12_nextToken_b149
  rw [tkS_r16, if_neg h]
theorem m_nextToken {B : Nat → Nat} {L j : Nat} {st : St} (ht : tpM B L st) (h15 : st.1 15 = Int32.ofNat (lxP B L j)) : fX12_nextToken st = some ((), tkS st (Int32.ofNat (tP B L j)) (Int32.ofNat (lxP B L (j + 1))) (Int32.ofNat (tSort B L j)) (tWorth B L j)) := by
  have ht' := ht
  obtain ⟨hL, h13, h12, hB⟩ := ht'
  unfold fX12_nextToken
  rw [lt_v, h15]
  have e0 : sI st 14 (Int32.ofNat (lxP B L j)) = tkS st (Int32.ofNat (lxP B L j)) (st.1 15) (st.1 16) (st.2.1 17) := by
    conv => lhs; rw [tkS_self (st := st)]
    rw [tkS_14]
  have hle := @lxP_le B L j
  have htl := @tP_le B L j
  rw [e0, nx_l1 ht 401 (lxP B L j) 5599 _ _ _ (by omega) hle]
  show fX12_nextToken_b46 (tkS st (Int32.ofNat (tP B L j)) _ _ _) = _
  unfold fX12_nextToken_b46
  rw [lt_v, lt_v, tkS_r14, tkS_15, tkS_17, tkS_r14, tkS_r (by decide) (by decide) (by decide), h13, tkS_rA, oN_tn (by omega)]
  have eP : lxP B L (j + 1) = lxE B L (tP B L j) := rfl
  by_cases hp : L ≤ tP B L j
  · have e1 : tSort B L j = 0 := by unfold tSort; rw [if_pos hp]
    have e2 : tWorth B L j = 0 := by unfold tWorth; rw [if_pos e1]
    have e3 : lxP B L (j + 1) = tP B L j := by rw [eP]; unfold lxE; rw [if_pos hp]
    rw [if_eqT (by omega), e1, e2, e3]
    unfold fX12_nextToken_b114
    rw [lt_v, tkS_16, tkS_r16, if_neg (by decide)]
    rw [nx_l2n (n := 5999) (by decide), nx_l3n (n := 5999) (by decide)]
    rfl
  · have hlt := lxE_gt (B := B) (L := L) (p := tP B L j) (by omega)
    have hle2 := lxE_le (B := B) (L := L) (p := tP B L j) (by omega)
    rw [if_eqF (by omega) (by omega) (by omega), gi_N (by omega) (by omega), h12 _ (by omega)]
    by_cases hl : isLb (B (tP B L j)) = true
    · have e1 : tSort B L j = 1 := by unfold tSort; rw [if_neg hp, if_pos hl]
      have e2 : tWorth B L j = lxW B (tP B L j) (lxP B L (j + 1) - tP B L j) := by unfold tWorth; rw [if_neg (by omega), if_pos e1]
      rw [m_isSmallT (hB _) hl, bs_v, if_neg (by decide), e1, e2]
      unfold fX12_nextToken_b114
      rw [lt_v, tkS_16, tkS_r16, if_neg (by decide)]
      have := nx_l2 ht (a := tP B L j) 402 (tP B L j) 5598 (by omega) (by omega) (Nat.le_refl _)
      rw [Nat.sub_self] at this
      rw [show (6000 : Nat) = 5598 + 402 from rfl]
      refine this.trans ?_
      have e4 : lxR isLb B L 402 (tP B L j) = lxP B L (j + 1) := by
        rw [eP]
        unfold lxE
        rw [if_neg hp, if_pos hl]
        show (if tP B L j < L ∧ isLb (B (tP B L j)) = true then lxR isLb B L 401 (tP B L j + 1) else _) = _
        rw [if_pos ⟨by omega, hl⟩]
      rw [e4]; rfl
    · rw [m_isSmallF (hB _) hl, bs_v, if_pos rfl, gi_N (by omega) (by omega)]
      by_cases hd : isDb (B (tP B L j)) = true
      · have e1 : tSort B L j = 2 := by unfold tSort; rw [if_neg hp, if_neg hl, if_pos hd]
        have e2 : tWorth B L j = lxN B (tP B L j) (lxP B L (j + 1) - tP B L j) := by unfold tWorth; rw [if_neg (by omega), if_neg (by omega), if_pos e1]
        rw [m_isDigitT (hB _) hd, bs_v, if_neg (by decide), e1, e2]
        unfold fX12_nextToken_b114
        rw [lt_v, tkS_16, tkS_r16, if_neg (by decide)]
        rw [nx_l2n (n := 5999) (by decide)]
        have := nx_l3 ht (a := tP B L j) 402 (tP B L j) 5598 (by omega) (by omega) (Nat.le_refl _)
        rw [Nat.sub_self] at this
        rw [show (6000 : Nat) = 5598 + 402 from rfl]
        refine this.trans ?_
        have e4 : lxR isDb B L 402 (tP B L j) = lxP B L (j + 1) := by
          rw [eP]
          unfold lxE
          rw [if_neg hp, if_neg hl, if_pos hd]
          show (if tP B L j < L ∧ isDb (B (tP B L j)) = true then lxR isDb B L 401 (tP B L j + 1) else _) = _
          rw [if_pos ⟨by omega, hd⟩]
        rw [e4]; rfl
      · have e1 : tSort B L j = 3 := by unfold tSort; rw [if_neg hp, if_neg hl, if_neg hd]
        have e2 : tWorth B L j = Int64.ofNat (B (tP B L j)) := by unfold tWorth; rw [if_neg (by omega), if_neg (by omega), if_neg (by omega)]
        have e3 : lxP B L (j + 1) = tP B L j + 1 := by rw [eP]; unfold lxE; rw [if_neg hp, if_neg hl, if_neg hd]
        rw [m_isDigitF (hB _) hd, bs_v, if_pos rfl, e1, e2, e3]
        unfold fX12_nextToken_b114
        rw [lt_v, tkS_16, tkS_r16, if_pos rfl, tkS_r14, gi_N (by omega) (by omega), tkS_rA, oN_tn (by omega), h12 _ (by omega), lt_v, lt_v, tkS_17, tkS_r15, tkS_15, oN_lit, oN_add]
        rw [nx_l2n (n := 5999) (by decide), nx_l3n (n := 5999) (by decide)]
        have e3 : (Int32.ofNat (B (tP B L j))).toInt64 = Int64.ofNat (B (tP B L j)) := by
          rw [← Int64.toInt_inj, Int32.toInt_toInt64, oN_ti (by have := hB (tP B L j); omega), Int64.toInt_ofNat_of_lt (by have := hB (tP B L j); omega)]
        rw [e3]; rfl
