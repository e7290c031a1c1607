/-! T2, the relation of both states: the land; belief -/
def nb (b : Nat) (x : Int32) : Prop := ∃ n, n ≤ b ∧ x = Int32.ofNat n
/-- the class's land at offset off (0: the land, 1400: an image) against the reference's row r -/
def Rl (off : Nat) (c : St) (r : Nat → Int32) : Prop :=
  (c.1 (108 + off) = r 0 ∧ nb 6 (r 0)) ∧ (c.1 (204 + off) = r 6 ∧ nb 999 (r 6)) ∧ (c.1 (109 + off) = r 7 ∧ nb 1000 (r 7)) ∧ (c.1 (110 + off) = r 8 ∧ nb 9 (r 8)) ∧
  (∀ i, i < 4 → c.2.2.1 (203 + off) i = r (9 + i) ∧ nb 100 (r (9 + i))) ∧ (∀ i, i < 6 → c.2.2.1 (200 + off) i = r (13 + i) ∧ nb 99 (r (13 + i))) ∧ (∀ i, i < 6 → c.2.2.1 (201 + off) i = r (19 + i) ∧ nb 63 (r (19 + i))) ∧ (∀ i, i < 6 → c.2.2.1 (202 + off) i = r (25 + i) ∧ nb 1 (r (25 + i))) ∧ (∀ i, i < 6 → c.2.2.1 (103 + off) i = r (31 + i) ∧ nb 3 (r (31 + i))) ∧ (∀ i, i < 18 → c.2.2.1 (104 + off) i = r (37 + i) ∧ nb (if i < 12 then 10 else 99) (r (37 + i))) ∧ (∀ i, i < 36 → c.2.2.1 (105 + off) i = r (55 + i) ∧ nb 99 (r (55 + i)))
/-- products of signs: base 37 (full), 43 (empty) -/
def flI (r : Nat → Int32) (sh : Int32) (base : Nat) (p : Int64) : Nat → Int64
  | 0 => p
  | k + 1 => flI r sh base p k * (if ((sh >>> (Int32.ofNat k &&& 31)) &&& (1 : Int32)) = (1 : Int32) then (r (base + k)).toInt64 else ((10 : Int32) - r (base + k)).toInt64)
def byI (full empty even : Int64) : Int64 := if full + empty = 0 then even else full * 1000000 / (full + empty)
/-- BELIEF, as both reckon it -/
def blf (r : Nat → Int32) (f : Nat) (sh : Int32) : Int64 :=
  ((r (9 + (r (31 + f)).toNatClampNeg)).toInt64 * byI (flI r sh 37 (r 7).toInt64 6) (flI r sh 43 ((1000 : Int64) - (r 7).toInt64) 6) ((r 7).toInt64 * 1000) + ((100 : Int32) - r (9 + (r (31 + f)).toNatClampNeg)).toInt64 * ((r 7).toInt64 * 1000)) / 100
theorem c_belief_l {c : St} {r : Nat → Int32} {fz : List FP} {f : Nat} {sh : Int32} {even p q : Int64} (hR : ∀ i, i < 12 → c.2.2.1 104 i = r (37 + i)) : ∀ (k n : Nat), k ≤ 6 → lp (fun _ _ _ _ _ _ _ => none) (fX5_belief_b40 fz) (n + k) (Int32.ofNat f) sh even (flI r sh 37 p (6 - k)) (flI r sh 43 q (6 - k)) (Int32.ofNat (6 - k)) c = lp (fun _ _ _ _ _ _ _ => none) (fX5_belief_b40 fz) n (Int32.ofNat f) sh even (flI r sh 37 p 6) (flI r sh 43 q 6) (Int32.ofNat 6) c := by
  intro k
  induction k with
  | zero => intro n _; rfl
  | succ k ih =>
    intro n hk
    rw [← ih n (by omega), ← Nat.add_assoc, lp_s]
    generalize lp (fun _ _ _ _ _ _ _ => none) (fX5_belief_b40 fz) (n + k) = kk
    have e1 : 6 - k = (6 - (k + 1)) + 1 := by omega
    generalize 6 - (k + 1) = i at e1 ⊢
    have hi : i < 6 := by omega
    rw [e1]
    conv => lhs; unfold fX5_belief_b40
    have e0 : (0 : Int32) + Int32.ofNat i = Int32.ofNat i := by rw [show (0 : Int32) = Int32.ofNat 0 from rfl, oN_add, Nat.zero_add]
    have e6 : (6 : Int32) + Int32.ofNat i = Int32.ofNat (6 + i) := oN_add 6 i
    rw [if_neg (show ¬ ((6 : Int32) ≤ Int32.ofNat i) from fun q => by have := (oN_le (a := 6) (by decide) (by omega)).mp q; omega), e0, gi_N (by omega) (by omega), oN_tn (by omega), hR i (by omega), lt_v, e6, gi_N (by omega) (by omega), oN_tn (by omega), hR (6 + i) (by omega), lt_v, show 37 + (6 + i) = 43 + i by omega]
    unfold fX5_belief_b91 fX5_belief_b112 fX5_belief_b134
    show _ = kk (Int32.ofNat f) sh even (flI r sh 37 p i * _) (flI r sh 43 q i * _) (Int32.ofNat (i + 1)) c
    by_cases hb : ((sh >>> (Int32.ofNat i &&& 31)) &&& (1 : Int32)) = (1 : Int32)
    · rw [if_pos hb, if_pos hb, if_pos hb, i10, lt_v, i10, lt_v, lt_v, oN_s]
    · rw [if_neg hb, if_neg hb, if_neg hb, i00, lt_v, i00, lt_v, lt_v, oN_s]
theorem nb.le {b : Nat} {x : Int32} (h : nb b x) (hb : b < 2147483648) : x.toNatClampNeg ≤ b ∧ x = Int32.ofNat x.toNatClampNeg := by
  obtain ⟨n, h1, h2⟩ := h
  rw [h2, oN_tn (by omega)]
  exact ⟨h1, rfl⟩
theorem c_belief {c : St} {r : Nat → Int32} {fz : List FP} {f : Nat} {sh : Int32} (hR : Rl 0 c r) (hf : f < 6) : fX5_belief (Int32.ofNat f) sh fz c = some ((blf r f sh).toInt32, c) := by
  obtain ⟨-, -, ⟨h7, h7b⟩, -, hfame, -, -, -, hgen, hsg, -⟩ := hR
  obtain ⟨p, hp, ep⟩ := h7b
  have h109 : c.1 109 = r 7 := h7
  have hl := c_belief_l (c := c) (r := r) (fz := fz) (f := f) (sh := sh) (even := (r 7).toInt64 * 1000) (p := (r 7).toInt64) (q := (1000 : Int64) - (r 7).toInt64) (fun i hi => (hsg i (by omega)).1) 6 5994 (Nat.le_refl _)
  unfold fX5_belief
  have e1000 : ((1000 : Int32) - r 7).toInt64 = (1000 : Int64) - (r 7).toInt64 := by
    rw [ep, show (1000 : Int32) = Int32.ofNat 1000 from rfl, oN_sub hp, o64 (by omega), o64 (by omega), show (1000 : Int64) = Int64.ofNat 1000 from rfl, ← Int64.ofNat_sub _ _ hp]
  rw [lt_v, lt_v, lt_v, h109, e1000]
  refine hl.trans ?_
  rw [show (5994 : Nat) = 5993 + 1 from rfl, lp_s]
  generalize lp (fun _ _ _ _ _ _ _ => none) (fX5_belief_b40 fz) 5993 = kk
  obtain ⟨hg1, hg2⟩ := (hgen f hf).2.le (by decide)
  have hg : c.2.2.1 103 f = r (31 + f) := (hgen f hf).1
  have hfa : c.2.2.1 203 (r (31 + f)).toNatClampNeg = r (9 + (r (31 + f)).toNatClampNeg) := (hfame _ (by omega)).1
  have e170 : ∀ x, fX5_belief_b170 fz (Int32.ofNat f) ((r 7).toInt64 * 1000) x c = some ((((r (9 + (r (31 + f)).toNatClampNeg)).toInt64 * x + ((100 : Int32) - r (9 + (r (31 + f)).toNatClampNeg)).toInt64 * ((r 7).toInt64 * 1000)) / 100).toInt32, c) := by
    intro x
    unfold fX5_belief_b170
    rw [gi_N (by omega) (by omega), oN_tn (by omega), hg, lt_v, hfa]
    have : gi (r (31 + f)) 4 (some ((((r (9 + (r (31 + f)).toNatClampNeg)).toInt64 * x + ((100 : Int32) - r (9 + (r (31 + f)).toNatClampNeg)).toInt64 * ((r 7).toInt64 * 1000)) / 100).toInt32, c)) = some ((((r (9 + (r (31 + f)).toNatClampNeg)).toInt64 * x + ((100 : Int32) - r (9 + (r (31 + f)).toNatClampNeg)).toInt64 * ((r 7).toInt64 * 1000)) / 100).toInt32, c) := by
      refine gi_ok ?_ (by omega)
      rw [hg2]; exact oN_nn (by omega)
    exact this
  unfold fX5_belief_b40 blf byI
  rw [if_pos (show (6 : Int32) ≤ Int32.ofNat 6 by decide), lt_v]
  by_cases h0 : flI r sh 37 (r 7).toInt64 6 + flI r sh 43 ((1000 : Int64) - (r 7).toInt64) 6 = 0
  · rw [if_pos ((cmp_eq _ _).mpr h0), if_pos h0, e170]
  · rw [if_neg (fun q => h0 ((cmp_eq _ _).mp q)), if_neg h0, gzl_ok h0, e170]
theorem m_belief_l {m : St} {f : Nat} {sh : Int32} {even p q : Int64} : ∀ (k n : Nat), k ≤ 6 → lp (fun _ _ _ _ _ _ _ => none) fX12_beliefBy_b26 (n + k) (Int32.ofNat f) sh (flI (m.2.2.1 3) sh 37 p (6 - k)) (flI (m.2.2.1 3) sh 43 q (6 - k)) even (Int32.ofNat (6 - k)) m = lp (fun _ _ _ _ _ _ _ => none) fX12_beliefBy_b26 n (Int32.ofNat f) sh (flI (m.2.2.1 3) sh 37 p 6) (flI (m.2.2.1 3) sh 43 q 6) even (Int32.ofNat 6) m := by
  intro k
  induction k with
  | zero => intro n _; rfl
  | succ k ih =>
    intro n hk
    rw [← ih n (by omega), ← Nat.add_assoc, lp_s]
    generalize lp (fun _ _ _ _ _ _ _ => none) fX12_beliefBy_b26 (n + k) = kk
    have e1 : 6 - k = (6 - (k + 1)) + 1 := by omega
    generalize 6 - (k + 1) = i at e1 ⊢
    have hi : i < 6 := by omega
    rw [e1]
    conv => lhs; unfold fX12_beliefBy_b26
    have e37 : (37 : Int32) + Int32.ofNat i = Int32.ofNat (37 + i) := oN_add 37 i
    have e43 : (43 : Int32) + Int32.ofNat i = Int32.ofNat (43 + i) := oN_add 43 i
    rw [if_neg (show ¬ ((6 : Int32) ≤ Int32.ofNat i) from fun q => by have := (oN_le (a := 6) (by decide) (by omega)).mp q; omega), m_is, bs_v, e37, gi_N (by omega) (by omega), gi_N (by omega) (by omega), oN_tn (by omega)]
    unfold fX12_beliefBy_b71 fX12_beliefBy_b112
    rw [m_is, e43]
    show _ = kk (Int32.ofNat f) sh (flI (m.2.2.1 3) sh 37 p i * _) (flI (m.2.2.1 3) sh 43 q i * _) even (Int32.ofNat (i + 1)) m
    by_cases hb : ((sh >>> (Int32.ofNat i &&& 31)) &&& (1 : Int32)) = (1 : Int32)
    · rw [if_pos hb, if_pos hb, if_pos hb, i10, lt_v, bs_v, i10, gi_N (by omega) (by omega), lt_v, lt_v, oN_s, oN_tn (by omega)]
    · rw [if_neg hb, if_neg hb, if_neg hb, i00, lt_v, bs_v, i00, gi_N (by omega) (by omega), lt_v, lt_v, oN_s, oN_tn (by omega)]
theorem m_fameOf {m : St} {f : Nat} (hf : f < 6) (hg : nb 3 (m.2.2.1 3 (31 + f))) : fX12_fameOf (Int32.ofNat f) m = some (m.2.2.1 3 (9 + (m.2.2.1 3 (31 + f)).toNatClampNeg), m) := by
  obtain ⟨hg1, hg2⟩ := hg.le (by decide)
  unfold fX12_fameOf
  have e31 : (31 : Int32) + Int32.ofNat f = Int32.ofNat (31 + f) := oN_add 31 f
  rw [e31, gi_N (by omega) (by omega), oN_tn (by omega)]
  have e9 : (9 : Int32) + m.2.2.1 3 (31 + f) = Int32.ofNat (9 + (m.2.2.1 3 (31 + f)).toNatClampNeg) := by
    conv => lhs; rw [hg2]
    exact oN_add 9 _
  rw [e9, gi_N (by omega) (by omega), oN_tn (by omega)]
theorem m_belief {m : St} {f : Nat} {sh : Int32} (hf : f < 6) (hg : nb 3 (m.2.2.1 3 (31 + f))) : fX12_beliefBy (Int32.ofNat f) sh m = some (blf (m.2.2.1 3) f sh, m) := by
  have hl := m_belief_l (m := m) (f := f) (sh := sh) (even := (m.2.2.1 3 7).toInt64 * 1000) (p := (m.2.2.1 3 7).toInt64) (q := (1000 : Int64) - (m.2.2.1 3 7).toInt64) 6 5994 (Nat.le_refl _)
  unfold fX12_beliefBy
  rw [lt_v, lt_v, lt_v]
  refine hl.trans ?_
  rw [show (5994 : Nat) = 5993 + 1 from rfl, lp_s]
  generalize lp (fun _ _ _ _ _ _ _ => none) fX12_beliefBy_b26 5993 = kk
  have e145 : ∀ x, fX12_beliefBy_b145 (Int32.ofNat f) ((m.2.2.1 3 7).toInt64 * 1000) x m = some (((m.2.2.1 3 (9 + (m.2.2.1 3 (31 + f)).toNatClampNeg)).toInt64 * x + ((100 : Int32) - m.2.2.1 3 (9 + (m.2.2.1 3 (31 + f)).toNatClampNeg)).toInt64 * ((m.2.2.1 3 7).toInt64 * 1000)) / 100, m) := by
    intro x
    unfold fX12_beliefBy_b145
    rw [m_fameOf hf hg, bd_v, m_fameOf hf hg, bd_v]
  unfold fX12_beliefBy_b26 blf byI
  rw [if_pos (show (6 : Int32) ≤ Int32.ofNat 6 by decide)]
  by_cases h0 : flI (m.2.2.1 3) sh 37 (m.2.2.1 3 7).toInt64 6 + flI (m.2.2.1 3) sh 43 ((1000 : Int64) - (m.2.2.1 3 7).toInt64) 6 = 0
  · rw [if_pos ((cmp_eq _ _).mpr h0), if_pos h0, e145]
  · rw [if_neg (fun q => h0 ((cmp_eq _ _).mp q)), if_neg h0, gzl_ok h0, e145]
