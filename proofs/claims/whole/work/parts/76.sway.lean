/-! T2, calls that only ask: scout -/
def bit1 (k : Nat) : Int32 := (1 : Int32) <<< (Int32.ofNat k &&& 31)
def swD (r : Nat → Int32) (f k : Nat) : Int32 := (blf r f (r (19 + f) ||| bit1 k)).toInt32 - (blf r f (r (19 + f) &&& (bit1 k ^^^ (-1 : Int32)))).toInt32
def swI (r : Nat → Int32) (f k : Nat) : Int32 := if 0 ≤ swD r f k then swD r f k else -(swD r f k)
set_option maxRecDepth 100000 in
theorem bit_off : ∀ s : Fin 64, ∀ k : Fin 6, (Int32.ofNat s.1 ||| bit1 k.1) - bit1 k.1 = Int32.ofNat s.1 &&& (bit1 k.1 ^^^ (-1 : Int32)) := by decide
theorem bit_offN {x : Int32} {k : Nat} (h : nb 63 x) (hk : k < 6) : (x ||| bit1 k) - bit1 k = x &&& (bit1 k ^^^ (-1 : Int32)) := by
  obtain ⟨s, hs, e⟩ := h
  subst e
  exact bit_off ⟨s, by omega⟩ ⟨k, hk⟩
theorem swI_nn {c : St} {r : Nat → Int32} {f k : Nat} (h : Rl 0 c r) (hf : f < 6) : 0 ≤ swI r f k := by
  unfold swI
  by_cases q : 0 ≤ swD r f k
  · rw [if_pos q]; exact q
  · rw [if_neg q]
    obtain ⟨b1, h1, e1⟩ := blf_nat (sh := r (19 + f) ||| bit1 k) h hf
    obtain ⟨b2, h2, e2⟩ := blf_nat (sh := r (19 + f) &&& (bit1 k ^^^ (-1 : Int32))) h hf
    unfold swD at q ⊢
    rw [e1, e2, o32 (by omega), o32 (by omega)] at q ⊢
    by_cases hb : b2 ≤ b1
    · rw [oN_sub hb] at q
      exact absurd (oN_nn (by omega)) q
    · rw [Int32.neg_sub, oN_sub (by omega)]
      exact oN_nn (by omega)
theorem c_sway {fz : List FP} {c : St} {r : Nat → Int32} {f k : Nat} (h : Rl 0 c r) (hf : f < 6) : fX5_swayOf (Int32.ofNat f) (Int32.ofNat k) fz c = some (swI r f k, c) := by
  have q201 : c.2.2.1 201 f = r (19 + f) := (h.2.2.2.2.2.2.1 f hf).1
  unfold fX5_swayOf
  rw [gi_N hf (by decide), lt_v, lt_v, oN_tn (by omega), q201]
  show bd (fX5_belief (Int32.ofNat f) (r (19 + f) ||| bit1 k) fz c) (fun r3 st4 => bd (fX5_belief (Int32.ofNat f) (r (19 + f) &&& (bit1 k ^^^ (-1 : Int32))) fz st4) (fun r5 st6 => some ((if 0 ≤ (r3 - r5) then (r3 - r5) else 0 - (r3 - r5)), st6))) = _
  rw [c_belief h hf, bd_v, c_belief h hf, bd_v, Int32.zero_sub]
  rfl
def bst (sw : Nat → Int32) : Nat → Nat
  | 0 => 0
  | k + 1 => if sw (k + 1) ≤ sw (bst sw k) then bst sw k else k + 1
theorem bst_s (sw : Nat → Int32) (k : Nat) : bst sw (k + 1) = if sw (k + 1) ≤ sw (bst sw k) then bst sw k else k + 1 := rfl
theorem c_scout_l {fz : List FP} {c : St} {r : Nat → Int32} {f : Nat} {a : Int32} (h : Rl 0 c r) (hf : f < 6) : ∀ (k n : Nat), k ≤ 5 → lp (fun _ _ _ _ _ => none) (fX11_scout_b27 fz) (n + 1 + k) (Int32.ofNat f) a (Int32.ofNat (bst (swI r f) (5 - k))) (Int32.ofNat (6 - k)) c = some (if a = 0 then Int32.ofNat (bst (swI r f) 5) else swI r f (bst (swI r f) 5), c) := by
  intro k
  induction k with
  | zero =>
    intro n _
    rw [Nat.add_zero, lp_s]
    unfold fX11_scout_b27 fX11_scout_b82
    rw [if_pos (show (6 : Int32) ≤ Int32.ofNat (6 - 0) by decide), c_sway h hf, bd_v, Nat.sub_zero]
    by_cases q : a = 0
    · rw [if_pos q, if_pos q]
    · rw [if_neg q, if_neg q]
  | succ k ih =>
    intro n hk
    rw [← Nat.add_assoc, lp_s]
    have ih' := ih n (by omega)
    generalize lp (fun _ _ _ _ _ => none) (fX11_scout_b27 fz) (n + 1 + k) = kk at ih' ⊢
    have e1 : 5 - k = (5 - (k + 1)) + 1 := by omega
    have e2 : 6 - k = (5 - (k + 1)) + 1 + 1 := by omega
    have e3 : 6 - (k + 1) = (5 - (k + 1)) + 1 := by omega
    rw [e1, e2] at ih'
    rw [e3]
    generalize hj : 5 - (k + 1) = j at ih' ⊢
    have n1 : ¬ ((6 : Int32) ≤ Int32.ofNat (j + 1)) := fun q => by have := (oN_le (a := 6) (by decide) (by omega)).mp q; omega
    unfold fX11_scout_b27 fX11_scout_b59
    rw [if_neg n1, c_sway h hf, bd_v, c_sway h hf, bd_v, lt_v, lt_v, oN_s, ← ih']
    rw [bst_s]
    by_cases q : swI r f (j + 1) ≤ swI r f (bst (swI r f) j)
    · rw [if_pos q, if_pos q]
    · rw [if_neg q, if_neg q]
theorem m_scout_s {c m : St} {f k : Nat} {a v w : Int32} {kk : Int32 → Int32 → Int32 → Int32 → Int32 → St → Option (Int32 × St)} (h : Rl 0 c (m.2.2.1 3)) (hf : f < 6) (hk : k < 6) : fX12_scout_b33 kk (Int32.ofNat f) a v w (Int32.ofNat k) m = if swI (m.2.2.1 3) f k ≤ v then kk (Int32.ofNat f) a v w (Int32.ofNat (k + 1)) m else kk (Int32.ofNat f) a (swI (m.2.2.1 3) f k) (Int32.ofNat k) (Int32.ofNat (k + 1)) m := by
  have n1 : ¬ ((6 : Int32) ≤ Int32.ofNat k) := fun q => by have := (oN_le (a := 6) (by decide) (by omega)).mp q; omega
  have e19 : (19 : Int32) + Int32.ofNat f = Int32.ofNat (19 + f) := oN_add 19 f
  have hg := (h.2.2.2.2.2.2.2.2.1 f hf).2
  have hs := (h.2.2.2.2.2.2.1 f hf).2
  have u92 : ∀ x, fX12_scout_b92 kk (Int32.ofNat f) a v w (Int32.ofNat k) x m = if x ≤ v then kk (Int32.ofNat f) a v w (Int32.ofNat (k + 1)) m else kk (Int32.ofNat f) a x (Int32.ofNat k) (Int32.ofNat (k + 1)) m := by
    intro x
    unfold fX12_scout_b92 fX12_scout_b107 fX12_scout_b121
    rw [lt_v, lt_v, lt_v, lt_v, oN_s]
    by_cases q : x ≤ v
    · rw [if_pos q, if_pos q, if_pos q]
    · rw [if_neg q, if_neg q, if_neg q]
  unfold fX12_scout_b33
  rw [if_neg n1, e19, gi_N (by omega) (by decide), oN_tn (by omega), lt_v]
  show bd (fX12_beliefBy (Int32.ofNat f) (m.2.2.1 3 (19 + f) ||| bit1 k) m) (fun r3 st4 => bd (fX12_beliefBy (Int32.ofNat f) ((m.2.2.1 3 (19 + f) ||| bit1 k) - bit1 k) st4) (fun r5 st6 => lt ((r3 - r5).toInt32) (fun x7 => if 0 ≤ x7 then (fX12_scout_b92 kk (Int32.ofNat f) a v w (Int32.ofNat k) x7 st6) else (fX12_scout_b92 kk (Int32.ofNat f) a v w (Int32.ofNat k) (-x7) st6)))) = _
  rw [bit_offN hs hk, m_belief hf hg, bd_v, m_belief hf hg, bd_v, lt_v, Int64.toInt32_sub, u92, u92]
  show (if 0 ≤ swD (m.2.2.1 3) f k then (if swD (m.2.2.1 3) f k ≤ v then _ else _) else (if -(swD (m.2.2.1 3) f k) ≤ v then _ else _)) = _
  unfold swI
  by_cases q : 0 ≤ swD (m.2.2.1 3) f k
  · rw [if_pos q, if_pos q]; rfl
  · rw [if_neg q, if_neg q]; rfl
theorem m_scout_l {c m : St} {f : Nat} {a : Int32} (h : Rl 0 c (m.2.2.1 3)) (hf : f < 6) : ∀ (k n : Nat), k ≤ 5 → lp (fun _ _ _ _ _ _ => none) fX12_scout_b33 (n + 1 + k) (Int32.ofNat f) a (swI (m.2.2.1 3) f (bst (swI (m.2.2.1 3) f) (5 - k))) (Int32.ofNat (bst (swI (m.2.2.1 3) f) (5 - k))) (Int32.ofNat (6 - k)) m = some (if a = 0 then Int32.ofNat (bst (swI (m.2.2.1 3) f) 5) else swI (m.2.2.1 3) f (bst (swI (m.2.2.1 3) f) 5), m) := by
  intro k
  induction k with
  | zero =>
    intro n _
    rw [Nat.add_zero, lp_s]
    unfold fX12_scout_b33 fX12_scout_b138
    rw [if_pos (show (6 : Int32) ≤ Int32.ofNat (6 - 0) by decide), Nat.sub_zero]
    by_cases q : a = 0
    · rw [if_pos q, if_pos q]
    · rw [if_neg q, if_neg q]
  | succ k ih =>
    intro n hk
    rw [← Nat.add_assoc, lp_s]
    have ih' := ih n (by omega)
    generalize lp (fun _ _ _ _ _ _ => none) fX12_scout_b33 (n + 1 + k) = kk at ih' ⊢
    have e1 : 5 - k = (5 - (k + 1)) + 1 := by omega
    have e2 : 6 - k = (5 - (k + 1)) + 1 + 1 := by omega
    have e3 : 6 - (k + 1) = (5 - (k + 1)) + 1 := by omega
    rw [e1, e2] at ih'
    rw [e3]
    generalize hj : 5 - (k + 1) = j at ih' ⊢
    rw [m_scout_s h hf (by omega), ← ih']
    rw [bst_s]
    by_cases q : swI (m.2.2.1 3) f (j + 1) ≤ swI (m.2.2.1 3) f (bst (swI (m.2.2.1 3) f) j)
    · rw [if_pos q, if_pos q]
    · rw [if_neg q, if_neg q]
theorem scout_both {fz : List FP} {c m : St} (a b : Int32) (h : Rq fz c m) : Sm c (sI m 0 0) (fX11_scout a b fz c) (fX12_scout a b m) := by
  have h' : Rq fz c (sI m 0 0) := h
  obtain ⟨v, e1, e2, hv⟩ := has_both a h'
  unfold fX11_scout fX12_scout
  rw [e1, bd_v, lt_v, e2, bd_v]
  rcases hv with hv | ⟨hv, f, hf, -, ea⟩
  · rw [if_pos hv, if_pos hv]; exact Sm.rf
  subst ea
  subst hv
  rw [if_neg one_ne0, if_neg one_ne0, c_within, bs_v, m_in32 b 0 1 0 1 rfl rfl, bs_v]
  by_cases hb : (0 : Int32) ≤ b ∧ b ≤ 1
  · rw [if_pos hb, if_neg one_ne0, if_neg one_ne0]
    have h1 := c_scout_l (fz := fz) (a := b) h'.1 hf 5 5994 (Nat.le_refl _)
    have h2 := m_scout_l (a := b) h'.1 hf 5 5993 (Nat.le_refl _)
    have h3 := m_scout_s (m := sI m 0 0) (k := 0) (a := b) (v := -1) (w := -1) (kk := lp (fun _ _ _ _ _ _ => none) fX12_scout_b33 5999) h'.1 hf (by decide)
    have hn := swI_nn (k := 0) h'.1 hf
    have hn' : ¬ (swI ((sI m 0 0).2.2.1 3) f 0 ≤ -1) := fun q => absurd (Int32.le_trans hn q) (by decide)
    rw [if_neg hn'] at h3
    exact ⟨_, c, sI m 0 0, h1, h3.trans h2, cq.rf, mq.rf⟩
  · rw [if_neg hb, if_pos rfl, if_pos rfl]; exact Sm.rf
