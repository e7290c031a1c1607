/-! T2, what is seen from hills; enough, fits -/
/-- fires of the set s that are seen from hill h, of n -/
def sv (r : Nat → Int32) (n h s : Nat) : Nat := pc (s &&& sb r h n) 10
theorem sv_le (r : Nat → Int32) (n h s : Nat) : sv r n h s ≤ 10 := pc_le _ _
theorem pc_up {x n : Nat} (hx : x < 2 ^ n) : ∀ k, n ≤ k → pc x k = pc x n := by
  intro k
  induction k with
  | zero => intro h; rw [show n = 0 by omega]
  | succ k ih =>
    intro h
    by_cases e : n = k + 1
    · rw [e]
    · show pc x k + _ = _
      rw [if_neg (by rw [Nat.testBit_lt_two_pow (Nat.lt_of_lt_of_le hx (Nat.pow_le_pow_right (by omega) (show n ≤ k by omega)))]; decide), Nat.add_zero]
      exact ih (by omega)
theorem pw10 {n s : Nat} (hn : n ≤ 10) (hs : s < 2 ^ n) : s < 1024 := Nat.lt_of_lt_of_le hs (show 2 ^ n ≤ 2 ^ 10 from Nat.pow_le_pow_right (by omega) hn)
section Seen
variable {fz : List FP} {c m : St}
theorem m_seen_l {r : Nat → Int32} {n h s : Nat} (er : m.2.2.1 3 = r) (hn : n ≤ 10) (e2 : r 2 = Int32.ofNat n) (hf : ∀ f, f < 10 → nb 63 (r (91 + f))) (hh : h < 6) (hs : s < 1024) : ∀ (k N : Nat), k ≤ n → lp (fun _ _ _ _ _ => none) fX12_seenFrom_b5 (N + k) (Int32.ofNat h) (Int32.ofNat s) (Int32.ofNat (pc (s &&& sb r h n) (n - k))) (Int32.ofNat (n - k)) m = lp (fun _ _ _ _ _ => none) fX12_seenFrom_b5 N (Int32.ofNat h) (Int32.ofNat s) (Int32.ofNat (pc (s &&& sb r h n) n)) (Int32.ofNat n) m := by
  intro k
  induction k with
  | zero => intro N _; rfl
  | succ k ih =>
    intro N hk
    rw [← ih N (by omega), ← Nat.add_assoc, lp_s]
    generalize lp (fun _ _ _ _ _ => none) fX12_seenFrom_b5 (N + k) = kk
    have e1 : n - k = (n - (k + 1)) + 1 := by omega
    have hi : n - (k + 1) < n := by omega
    generalize n - (k + 1) = i at e1 hi ⊢
    rw [e1]
    obtain ⟨a, ha, ea⟩ := hf i (by omega)
    have e91 : (91 : Int32) + Int32.ofNat i = Int32.ofNat (91 + i) := oN_add 91 i
    have e2' : m.2.2.1 3 (2 : Int32).toNatClampNeg = Int32.ofNat n := by rw [er]; exact e2
    have hbit : (s &&& sb r h n).testBit i = (s.testBit i && a.testBit h) := by
      rw [Nat.testBit_and, sb_bit r h n i hi, ea, oN_tn (by omega)]
    unfold fX12_seenFrom_b5 fX12_seenFrom_b47 fX12_seenFrom_b48
    rw [e2', if_neg (show ¬ (Int32.ofNat n ≤ Int32.ofNat i) from fun q => by have := (oN_le (by omega) (by omega)).mp q; omega), m_is, bs_v, bitN hs (by omega), e91, gi_N (by omega) (by decide), oN_tn (by omega), er, ea, m_is, bs_v, bitN (by omega) (by omega)]
    show _ = kk (Int32.ofNat h) (Int32.ofNat s) (Int32.ofNat (pc (s &&& sb r h n) i + (if (s &&& sb r h n).testBit i = true then 1 else 0))) (Int32.ofNat (i + 1)) m
    rw [hbit]
    by_cases b1 : s.testBit i = true
    · rw [if_pos b1, if_pos rfl, if_neg one_ne0, b1]
      by_cases b2 : a.testBit h = true
      · rw [if_pos b2, if_pos rfl, if_neg one_ne0, b2, lt_v, lt_v, oN_s, oN_s]; rfl
      · have b3 : a.testBit h = false := by cases hq : a.testBit h with
          | false => rfl
          | true => exact absurd hq b2
        rw [b3]
        show lt _ _ = _
        rw [lt_v, lt_v, oN_s, Int32.add_zero]; rfl
    · have b3 : s.testBit i = false := by cases hq : s.testBit i with
        | false => rfl
        | true => exact absurd hq b1
      rw [b3]
      show lt _ _ = _
      rw [lt_v, lt_v, oN_s, Int32.add_zero]; rfl
theorem m_seen {r : Nat → Int32} {n h s : Nat} (er : m.2.2.1 3 = r) (hn : n ≤ 10) (e2 : r 2 = Int32.ofNat n) (hf : ∀ f, f < 10 → nb 63 (r (91 + f))) (hh : h < 6) (hs : s < 1024) : fX12_seenFrom (Int32.ofNat h) (Int32.ofNat s) m = some (Int32.ofNat (sv r n h s), m) := by
  have hl := m_seen_l er hn e2 hf hh hs n (6000 - n) (Nat.le_refl _)
  rw [Nat.sub_self, show 6000 - n + n = 6000 by omega] at hl
  unfold fX12_seenFrom
  refine hl.trans ?_
  rw [show 6000 - n = (5999 - n) + 1 by omega, lp_s]
  generalize lp (fun _ _ _ _ _ => none) fX12_seenFrom_b5 (5999 - n) = kk
  have e2' : m.2.2.1 3 (2 : Int32).toNatClampNeg = Int32.ofNat n := by rw [er]; exact e2
  unfold fX12_seenFrom_b5 sv
  rw [e2', if_pos (show Int32.ofNat n ≤ Int32.ofNat n from Int32.le_refl _), pc_up (n := n) (x := s &&& sb r h n) ?_ 10 hn]
  exact Nat.lt_of_le_of_lt Nat.and_le_right (sb_lt r h n)
theorem c_seen {r : Nat → Int32} {n h s : Nat} (e3 : c.2.2.1 300 h = Int32.ofNat (sb r h n)) (hs : s < 1024) : fJ6_bitCount_0f7a4 (Int32.ofNat s &&& c.2.2.1 300 h) = some (Int32.ofNat (sv r n h s)) := by
  rw [e3, oN_and, bcN (Nat.lt_of_le_of_lt Nat.and_le_left hs)]
  rfl
/-- the set s suffices the first k hills -/
def su (r : Nat → Int32) (n s : Nat) : Nat → Bool
  | 0 => true
  | k + 1 => su r n s k && decide ((r (101 + k)).toNatClampNeg ≤ sv r n k s)
theorem su_f {r : Nat → Int32} {n s k : Nat} (h : su r n s k = false) : ∀ j, k ≤ j → su r n s j = false := by
  intro j
  induction j with
  | zero => intro hk; rw [show (0 : Nat) = k by omega]; exact h
  | succ j ih =>
    intro hk
    by_cases e : k = j + 1
    · rw [← e]; exact h
    · show (su r n s j && _) = false
      rw [ih (by omega)]; rfl
theorem c_suf_l {r : Nat → Int32} {n s : Nat} (e3 : ∀ h, h < 6 → c.2.2.1 300 h = Int32.ofNat (sb r h n)) (e4 : ∀ i, i < 6 → c.2.2.1 301 i = r (101 + i) ∧ nb 9 (r (101 + i))) (hs : s < 1024) : ∀ (k N : Nat), k ≤ 6 → su r n s (6 - k) = true → lp (fun _ _ _ => none) (fX4_suffices_b2 fz) (N + 1 + k) (Int32.ofNat s) (Int32.ofNat (6 - k)) c = some ((if su r n s 6 = true then 1 else 0), c) := by
  intro k
  induction k with
  | zero =>
    intro N _ h
    rw [Nat.add_zero, lp_s]
    generalize lp (fun _ _ _ => none) (fX4_suffices_b2 fz) N = kk
    unfold fX4_suffices_b2
    rw [if_pos (show (6 : Int32) ≤ Int32.ofNat (6 - 0) by decide)]
    have h' : su r n s 6 = true := h
    rw [if_pos h']
  | succ k ih =>
    intro N hk h
    have e1 : 6 - k = (6 - (k + 1)) + 1 := by omega
    have hi : 6 - (k + 1) < 6 := by omega
    have ih' := ih N (by omega)
    rw [← Nat.add_assoc, lp_s]
    generalize lp (fun _ _ _ => none) (fX4_suffices_b2 fz) (N + 1 + k) = kk at ih' ⊢
    generalize 6 - (k + 1) = i at e1 hi h ⊢
    rw [e1] at ih'
    obtain ⟨q1, w, hw, ew⟩ := e4 i hi
    have su1 : su r n s (i + 1) = decide (w ≤ sv r n i s) := by
      show (su r n s i && _) = _
      rw [h, ew, oN_tn (by omega)]; rfl
    have hsv := sv_le r n i s
    unfold fX4_suffices_b2
    rw [if_neg (show ¬ ((6 : Int32) ≤ Int32.ofNat i) from fun q => by have := (oN_le (a := 6) (by decide) (by omega)).mp q; omega), gi_N hi (by decide), oN_tn (by omega), c_seen (e3 i hi) hs, bs_v, gi_N hi (by decide), q1, ew]
    by_cases q : w ≤ sv r n i s
    · rw [if_leT q (by omega), lt_v, oN_s]
      exact ih' (by rw [su1]; exact decide_eq_true q)
    · rw [if_leF (by omega) (by omega)]
      have : su r n s 6 = false := su_f (k := i + 1) (by rw [su1]; exact decide_eq_false q) 6 (by omega)
      rw [this]; rfl
theorem c_suf {r : Nat → Int32} {n s : Nat} (e3 : ∀ h, h < 6 → c.2.2.1 300 h = Int32.ofNat (sb r h n)) (e4 : ∀ i, i < 6 → c.2.2.1 301 i = r (101 + i) ∧ nb 9 (r (101 + i))) (hs : s < 1024) : fX4_suffices (Int32.ofNat s) fz c = some ((if su r n s 6 = true then 1 else 0), c) := c_suf_l (fz := fz) e3 e4 hs 6 5993 (Nat.le_refl _) rfl
theorem m_suf_l {r : Nat → Int32} {n s : Nat} {K : Int32 → Int32 → Int32 → Int32 → St → Option (Int32 × St)} {v1 v2 v3 : Int32} (er : m.2.2.1 3 = r) (hn : n ≤ 10) (e2 : r 2 = Int32.ofNat n) (hf : ∀ f, f < 10 → nb 63 (r (91 + f))) (e4 : ∀ i, i < 6 → nb 9 (r (101 + i))) (hs : s < 1024) : ∀ (k N : Nat), k ≤ 6 → su r n s (6 - k) = true → lp (fun _ _ _ _ _ _ _ => none) (fX12_enough_b58 K) (N + 2 + k) v1 v2 v3 (Int32.ofNat s) 1 (Int32.ofNat (6 - k)) m = fX12_enough_b104 K v1 v2 v3 (Int32.ofNat s) (if su r n s 6 = true then 1 else 0) m := by
  intro k
  induction k with
  | zero =>
    intro N _ h
    rw [Nat.add_zero, show N + 2 = N + 1 + 1 from rfl, lp_s]
    generalize lp (fun _ _ _ _ _ _ _ => none) (fX12_enough_b58 K) (N + 1) = kk
    conv => lhs; unfold fX12_enough_b58
    rw [if_pos (show (6 : Int32) ≤ Int32.ofNat (6 - 0) by decide)]
    have h' : su r n s 6 = true := h
    rw [if_pos h']
  | succ k ih =>
    intro N hk h
    have e1 : 6 - k = (6 - (k + 1)) + 1 := by omega
    have hi : 6 - (k + 1) < 6 := by omega
    have ih' := ih N (by omega)
    have hstop : ∀ x, lp (fun _ _ _ _ _ _ _ => none) (fX12_enough_b58 K) (N + 2 + k) v1 v2 v3 (Int32.ofNat s) 0 x m = fX12_enough_b104 K v1 v2 v3 (Int32.ofNat s) 0 m := by
      intro x
      rw [show N + 2 + k = (N + 1 + k) + 1 by omega, lp_s]
      generalize lp (fun _ _ _ _ _ _ _ => none) (fX12_enough_b58 K) (N + 1 + k) = k3
      unfold fX12_enough_b58
      rw [if_pos (show (0 : Int32) = 0 from rfl)]
      split <;> rfl
    rw [← Nat.add_assoc, lp_s]
    generalize lp (fun _ _ _ _ _ _ _ => none) (fX12_enough_b58 K) (N + 2 + k) = kk at ih' hstop ⊢
    generalize 6 - (k + 1) = i at e1 hi h ⊢
    rw [e1] at ih'
    obtain ⟨w, hw, ew⟩ := e4 i hi
    have su1 : su r n s (i + 1) = decide (w ≤ sv r n i s) := by
      show (su r n s i && _) = _
      rw [h, ew, oN_tn (by omega)]; rfl
    have hsv := sv_le r n i s
    have e101 : (101 : Int32) + Int32.ofNat i = Int32.ofNat (101 + i) := oN_add 101 i
    conv => lhs; unfold fX12_enough_b58 fX12_enough_b96
    rw [if_neg (show ¬ ((6 : Int32) ≤ Int32.ofNat i) from fun q => by have := (oN_le (a := 6) (by decide) (by omega)).mp q; omega), if_neg one_ne0, m_seen er hn e2 hf hi hs, bd_v, e101, gi_N (by omega) (by decide), oN_tn (by omega), er, ew]
    by_cases q : w ≤ sv r n i s
    · rw [if_ltF q (by omega), lt_v, oN_s]
      exact ih' (by rw [su1]; exact decide_eq_true q)
    · rw [if_ltT (by omega) (by omega), lt_v]
      have : su r n s 6 = false := su_f (k := i + 1) (by rw [su1]; exact decide_eq_false q) 6 (by omega)
      rw [this, hstop]; rfl
/-- class's best, reference's fewest and best -/
def eB (n : Nat) (b f i : Int32) : Prop := (b = -1 ∧ i = -1 ∧ f = 100000000) ∨ ∃ x, x < 2 ^ n ∧ b = Int32.ofNat x ∧ i = Int32.ofNat x ∧ f = Int32.ofNat (pc x 10)
theorem enough_l {r : Nat → Int32} {n : Nat} {a : Int32} (er : m.2.2.1 3 = r) (hn : n ≤ 10) (e2 : r 2 = Int32.ofNat n) (h305 : c.1 305 = Int32.ofNat n) (hf : ∀ f, f < 10 → nb 63 (r (91 + f))) (e3 : ∀ h, h < 6 → c.2.2.1 300 h = Int32.ofNat (sb r h n)) (e4 : ∀ i, i < 6 → c.2.2.1 301 i = r (101 + i) ∧ nb 9 (r (101 + i))) : ∀ (k N : Nat) (b f i : Int32), k ≤ 2 ^ n → eB n b f i → ∃ b' f' i', eB n b' f' i' ∧ lp (fun _ _ _ => none) (fX4_fewestFires_b4 fz) (N + 1 + k) b (Int32.ofNat (2 ^ n - k)) c = some (b', c) ∧ lp (fun _ _ _ _ _ => none) fX12_enough_b26 (N + 1 + k) a f i (Int32.ofNat (2 ^ n - k)) m = (if i' = -1 then some (i', m) else if a = 1 then some (i', m) else some (f', m)) := by
  have hp : 2 ^ n ≤ 1024 := show 2 ^ n ≤ 2 ^ 10 from Nat.pow_le_pow_right (by omega) hn
  have e2' : m.2.2.1 3 (2 : Int32).toNatClampNeg = Int32.ofNat n := by rw [er]; exact e2
  intro k
  induction k with
  | zero =>
    intro N b f i _ hb
    refine ⟨b, f, i, hb, ?_, ?_⟩
    · rw [Nat.add_zero, Nat.sub_zero, lp_s]
      generalize lp (fun _ _ _ => none) (fX4_fewestFires_b4 fz) N = kk
      unfold fX4_fewestFires_b4
      rw [h305, pwN hn, if_pos (Int32.le_refl _)]
    · rw [Nat.add_zero, Nat.sub_zero, lp_s]
      generalize lp (fun _ _ _ _ _ => none) fX12_enough_b26 N = kk
      unfold fX12_enough_b26 fX12_enough_b147 fX12_enough_b152
      rw [e2', pwN hn, if_pos (Int32.le_refl _)]
  | succ k ih =>
    intro N b f i hk hb
    have e1 : 2 ^ n - k = (2 ^ n - (k + 1)) + 1 := by omega
    have hs : 2 ^ n - (k + 1) < 2 ^ n := by omega
    generalize hsg : 2 ^ n - (k + 1) = s at e1 hs ⊢
    have hs' : s < 1024 := by omega
    have ihk := fun b f i hb => ih N b f i (by omega) hb
    rw [← Nat.add_assoc, lp_s, lp_s]
    rw [e1] at ihk
    generalize lp (fun _ _ _ => none) (fX4_fewestFires_b4 fz) (N + 1 + k) = kc at ihk ⊢
    generalize lp (fun _ _ _ _ _ => none) fX12_enough_b26 (N + 1 + k) = km at ihk ⊢
    have hle : ¬ (Int32.ofNat (2 ^ n) ≤ Int32.ofNat s) := fun q => by have := (oN_le (by omega) (by omega)).mp q; omega
    have hps := pc_le s 10
    -- one round, if s is tried
    have tried : ∀ (f i : Int32), eB n b f i → ∃ b' f' i', eB n b' f' i' ∧ fX4_fewestFires_b35 fz kc b (Int32.ofNat s) 1 c = some (b', c) ∧ fX12_enough_b53 km a f i (Int32.ofNat s) 1 m = (if i' = -1 then some (i', m) else if a = 1 then some (i', m) else some (f', m)) := by
      intro f i hb
      have hsu := m_suf_l (K := km) (v1 := a) (v2 := f) (v3 := i) er hn e2 hf (fun i hi => (e4 i hi).2) hs' 6 5992 (Nat.le_refl _) rfl
      unfold fX4_fewestFires_b35 fX12_enough_b53
      rw [if_neg one_ne0, c_suf e3 e4 hs', bd_v, show (6000 : Nat) = 5992 + 2 + 6 from rfl]
      have hsu' : lp (fun _ _ _ _ _ _ _ => none) (fX12_enough_b58 km) (5992 + 2 + 6) a f i (Int32.ofNat s) 1 0 m = fX12_enough_b104 km a f i (Int32.ofNat s) (if su r n s 6 = true then 1 else 0) m := hsu
      rw [hsu']
      unfold fX4_fewestFires_b50 fX12_enough_b104 fX12_enough_b115 fX12_enough_b130
      by_cases q : su r n s 6 = true
      · rw [if_pos q, if_neg one_ne0, if_neg one_ne0, if_neg one_ne0, m_ones hs', bs_v, lt_v, lt_v, oN_s]
        exact ihk _ _ _ (Or.inr ⟨s, hs, rfl, rfl, rfl⟩)
      · rw [if_neg q, if_pos rfl, if_pos rfl, if_pos rfl, lt_v, lt_v, oN_s]
        exact ihk _ _ _ hb
    have skipped : ∀ (f i : Int32), eB n b f i → ∃ b' f' i', eB n b' f' i' ∧ fX4_fewestFires_b35 fz kc b (Int32.ofNat s) 0 c = some (b', c) ∧ fX12_enough_b53 km a f i (Int32.ofNat s) 0 m = (if i' = -1 then some (i', m) else if a = 1 then some (i', m) else some (f', m)) := by
      intro f i hb
      unfold fX4_fewestFires_b35 fX12_enough_b53
      rw [if_pos rfl, show (6000 : Nat) = 5999 + 1 from rfl, lp_s]
      generalize lp (fun _ _ _ _ _ _ _ => none) (fX12_enough_b58 km) 5999 = k3
      unfold fX12_enough_b58
      rw [if_neg (show ¬ ((6 : Int32) ≤ 0) by decide), if_pos (show (0 : Int32) = 0 from rfl)]
      unfold fX4_fewestFires_b50 fX12_enough_b104 fX12_enough_b115 fX12_enough_b130
      rw [if_pos rfl, if_pos rfl, lt_v, lt_v, oN_s]
      exact ihk _ _ _ hb
    unfold fX4_fewestFires_b4 fX12_enough_b26 fX4_fewestFires_b30
    rw [h305, e2', pwN hn, if_neg hle, if_neg hle, m_ones hs', bs_v, bcN hs', bs_v]
    rcases hb with ⟨hb1, hb2, hb3⟩ | ⟨x, hx, hb1, hb2, hb3⟩
    · subst hb1; subst hb2; subst hb3
      rw [if_pos rfl, if_neg (show ¬ ((100000000 : Int32) ≤ Int32.ofNat (pc s 10)) from fun q => by have := (oN_le (a := 100000000) (by decide) (by omega)).mp q; omega)]
      exact tried _ _ (Or.inl ⟨rfl, rfl, rfl⟩)
    · have hb : eB n b f i := Or.inr ⟨x, hx, hb1, hb2, hb3⟩
      have hx' : x < 1024 := by omega
      have hpx := pc_le x 10
      rw [hb1, if_neg (oN_ne1 (by omega)), bcN hx', bs_v]
      rw [← hb1]
      by_cases q : pc x 10 ≤ pc s 10
      · rw [if_leT q (by omega), if_pos (show f ≤ Int32.ofNat (pc s 10) by rw [hb3]; exact (oN_le (by omega) (by omega)).mpr q)]
        exact skipped _ _ hb
      · rw [if_leF (by omega) (by omega), if_neg (show ¬ (f ≤ Int32.ofNat (pc s 10)) by rw [hb3]; exact fun w => q ((oN_le (by omega) (by omega)).mp w))]
        exact tried _ _ hb
theorem enough_call (a : Int32) (h : RR fz c m) : Cl fz c m (fX11_enough a fz c) (fX12_enough a m) := by
  obtain ⟨⟨n, hn, en, q305, g1⟩, g2, g3, g4, g5⟩ := h.2.2.2.1
  unfold fX11_enough fX12_enough fX11_enough_b32 fX11_enough_b40
  rw [lt_v (sI m 0 0), c_within, bs_v, m_in32 a 0 1 0 1 rfl rfl, bs_v]
  by_cases ha : ¬ ((0 : Int32) ≤ a ∧ a ≤ 1)
  · rw [if_neg ha, if_pos rfl, if_pos rfl]; exact Cl.of h
  replace ha := Decidable.of_not_not ha
  rw [if_pos ha, if_neg one_ne0, if_neg one_ne0]
  have hp : 2 ^ n ≤ 1024 := show 2 ^ n ≤ 2 ^ 10 from Nat.pow_le_pow_right (by omega) hn
  obtain ⟨b, f, i, hb, k1, k2⟩ := enough_l (fz := fz) (c := c) (m := sI m 0 0) (a := a) rfl hn en q305 g5 g1 g3 (2 ^ n) (5999 - 2 ^ n) (-1) 100000000 (-1) (Nat.le_refl _) (Or.inl ⟨rfl, rfl, rfl⟩)
  rw [show 5999 - 2 ^ n + 1 + 2 ^ n = 6000 by omega, Nat.sub_self] at k1 k2
  have k1' : fX4_fewestFires fz c = some (b, c) := k1
  have k2' : lp (fun _ _ _ _ _ => none) fX12_enough_b26 6000 a 100000000 (-1) 0 (sI m 0 0) = _ := k2
  rw [k1', bd_v, k2']
  rcases hb with ⟨hb1, hb2, hb3⟩ | ⟨x, hx, hb1, hb2, hb3⟩
  · rw [hb1, hb2, if_pos rfl, if_pos rfl]; exact Cl.of h
  · have hx' : x < 1024 := by omega
    rw [hb1, hb2, if_neg (oN_ne1 (by omega)), if_neg (oN_ne1 (by omega))]
    by_cases q : a = 1
    · rw [if_pos q, if_pos q]; exact Cl.of h
    · rw [if_neg q, if_neg q, bcN hx', bs_v, hb3]; exact Cl.of h
end Seen
