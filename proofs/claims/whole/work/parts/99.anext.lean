/-! T2, next -/
/-- both tallies are x -/
def Tl (x : Nat → Nat) (c m : St) : Prop := ∀ i, i < 66 → c.2.2.1 304 i = Int32.ofNat (x i) ∧ m.2.2.1 43 i = Int32.ofNat (x i)
def mx (x : Nat → Nat) (h : Nat) : Nat → Nat
  | 0 => 0
  | k + 1 => if mx x h k < x (11 * h + k) then x (11 * h + k) else mx x h k
theorem mx_le {x : Nat → Nat} {h B : Nat} (hx : ∀ i, i < 66 → x i ≤ B) (hh : h < 6) : ∀ k, k ≤ 11 → mx x h k ≤ B := by
  intro k
  induction k with
  | zero => intro _; exact Nat.zero_le _
  | succ k ih =>
    intro hk
    unfold mx
    split
    · exact hx _ (by omega)
    · exact ih (by omega)
theorem mx_0 {x : Nat → Nat} {h : Nat} (hx : ∀ i, i < 66 → x i = 0) (hh : h < 6) : mx x h 11 = 0 := by
  have := mx_le (x := x) (B := 0) (fun i hi => by rw [hx i hi]; exact Nat.le_refl _) hh 11 (Nat.le_refl _)
  omega
theorem mx_p {x : Nat → Nat} {h j : Nat} (hj : 0 < x (11 * h + j)) : ∀ k, j < k → 0 < mx x h k := by
  intro k
  induction k with
  | zero => intro h; omega
  | succ k ih =>
    intro hk
    unfold mx
    by_cases e : j = k
    · subst e
      split <;> omega
    · have := ih (by omega)
      split <;> omega
section Next
variable {fz : List FP} {r : Nat → Int32} {n t : Nat}
theorem Hq.f {c m c' m' : St} (H : Hq r n t c m) (f : fr [] [] [304] c c') (g : fr [] [] [43] m m') : Hq r n t c' m' := by
  unfold Hq
  rw [g.2.2.1 3 (by decide), f.1 305 (by decide), f.1 306 (by decide), f.2.2.1 300 (by decide), f.2.2.1 302 (by decide), f.2.2.1 303 (by decide)]
  exact H
theorem tally_l {s B : Nat} {v1 : Int32} {kc : Int32 → St → Option (Unit × St)} {km : Int32 → Int32 → St → Option (Int32 × St)} (hs : s < 1024) (hB : B ≤ 10000) (hag : ag r n s t = true) : ∀ (k N : Nat) (c m : St) (x : Nat → Nat), k ≤ 6 → Hq r n t c m → Tl x c m → (∀ i, i < 66 → x i ≤ B + (6 - k)) → (∀ h, h < 6 - k → ∃ j, j < 11 ∧ 0 < x (11 * h + j)) → ∃ c' m' x', lp (fun _ _ _ => none) (fX4_tallyFitting_b30 fz kc) (N + 1 + k) (Int32.ofNat s) (Int32.ofNat (6 - k)) c = kc (Int32.ofNat (s + 1)) c' ∧ lp (fun _ _ _ _ => none) (fX12_next_b54 km) (N + 1 + k) v1 (Int32.ofNat s) (Int32.ofNat (6 - k)) m = km v1 (Int32.ofNat (s + 1)) m' ∧ Tl x' c' m' ∧ (∀ i, i < 66 → x' i ≤ B + 6) ∧ (∀ h, h < 6 → ∃ j, j < 11 ∧ 0 < x' (11 * h + j)) ∧ fr [] [] [304] c c' ∧ fr [] [] [43] m m' := by
  intro k
  induction k with
  | zero =>
    intro N c m x _ _ hT hb hp
    refine ⟨c, m, x, ?_, ?_, hT, hb, hp, fr.rf, fr.rf⟩
    · rw [Nat.add_zero, lp_s]
      generalize lp (fun _ _ _ => none) (fX4_tallyFitting_b30 fz kc) N = kk
      unfold fX4_tallyFitting_b30 fX4_tallyFitting_b67
      rw [if_pos (show (6 : Int32) ≤ Int32.ofNat (6 - 0) by decide), lt_v, oN_s]
    · rw [Nat.add_zero, lp_s]
      generalize lp (fun _ _ _ _ => none) (fX12_next_b54 km) N = kk
      unfold fX12_next_b54 fX12_next_b94
      rw [if_pos (show (6 : Int32) ≤ Int32.ofNat (6 - 0) by decide), lt_v, oN_s]
  | succ k ih =>
    intro N c m x hk H hT hb hp
    have H0 := H
    obtain ⟨er, hn, e2, h305, hf, e3, ht, e4, h306, e5⟩ := H
    have e1 : 6 - k = (6 - (k + 1)) + 1 := by omega
    have hi : 6 - (k + 1) < 6 := by omega
    have ih' := ih N
    rw [← Nat.add_assoc, lp_s, lp_s]
    generalize 6 - (k + 1) = i at e1 hi hb hp ⊢
    rw [e1] at ih'
    generalize lp (fun _ _ _ => none) (fX4_tallyFitting_b30 fz kc) (N + 1 + k) = k1 at ih' ⊢
    generalize lp (fun _ _ _ _ => none) (fX12_next_b54 km) (N + 1 + k) = k2 at ih' ⊢
    have hsv := sv_le r n i s
    have hix : 11 * i + sv r n i s < 66 := by omega
    have i1 : Int32.ofNat i * (11 : Int32) + Int32.ofNat (sv r n i s) = Int32.ofNat (11 * i + sv r n i s) := by rw [show (11 : Int32) = Int32.ofNat 11 from rfl, oN_mul, oN_add, Nat.mul_comm]
    have i2 : (11 : Int32) * Int32.ofNat i + Int32.ofNat (sv r n i s) = Int32.ofNat (11 * i + sv r n i s) := by rw [show (11 : Int32) = Int32.ofNat 11 from rfl, oN_mul, oN_add]
    have hle : ¬ ((6 : Int32) ≤ Int32.ofNat i) := fun q => by have := (oN_le (a := 6) (by decide) (by omega)).mp q; omega
    obtain ⟨t1, t2⟩ := hT _ hix
    unfold fX4_tallyFitting_b30 fX12_next_b54
    rw [if_neg hle, if_neg hle, gi_N hi (by decide), oN_tn (show i < 2147483648 by omega), c_seen (e3 i hi) hs, bs_v, i1, gi_N hix (by decide), gi_N hix (by decide), oN_tn (show 11 * i + sv r n i s < 2147483648 by omega), m_agr H0 hs, bd_v, if_pos hag, if_neg one_ne0, m_seen er hn e2 hf hi hs, bd_v, i2, gi_N hix (by decide), gi_N hix (by decide), oN_tn (show 11 * i + sv r n i s < 2147483648 by omega), t1, t2, lt_v, lt_v, lt_v, lt_v, oN_s, oN_s]
    have fc : fr [] [] [304] c (sA c 304 (upd (c.2.2.1 304) (11 * i + sv r n i s) (Int32.ofNat (x (11 * i + sv r n i s) + 1)))) := fr.sA (by decide)
    have fm : fr [] [] [43] m (sA m 43 (upd (m.2.2.1 43) (11 * i + sv r n i s) (Int32.ofNat (x (11 * i + sv r n i s) + 1)))) := fr.sA (by decide)
    obtain ⟨c', m', x', a1, a2, a3, a4, a5, a6, a7⟩ := ih' _ _ (fun j => if j = 11 * i + sv r n i s then x j + 1 else x j) (by omega) (H0.f fc fm) (by
      intro j hj
      show upd (c.2.2.1 304) _ _ j = Int32.ofNat (if j = 11 * i + sv r n i s then x j + 1 else x j) ∧ upd (m.2.2.1 43) _ _ j = Int32.ofNat (if j = 11 * i + sv r n i s then x j + 1 else x j)
      rw [upd_v, upd_v]
      by_cases q : j = 11 * i + sv r n i s
      · rw [if_pos q, if_pos q, if_pos q, q]; exact ⟨rfl, rfl⟩
      · rw [if_neg q, if_neg q, if_neg q]; exact hT j hj) (by
      intro j hj
      have := hb j hj
      split <;> omega) (by
      intro h hh
      by_cases q : h = i
      · subst q
        refine ⟨sv r n h s, by omega, ?_⟩
        rw [if_pos rfl]; omega
      · obtain ⟨j, j1, j2⟩ := hp h (by omega)
        refine ⟨j, j1, ?_⟩
        split <;> omega)
    exact ⟨c', m', x', a1, a2, a3, a4, a5, fc.tr a6, fm.tr a7⟩
theorem tally_o {v1 : Int32} : ∀ (k N : Nat) (c m : St) (x : Nat → Nat), k ≤ 2 ^ n → Hq r n t c m → Tl x c m → (∀ i, i < 66 → x i ≤ 6 * (2 ^ n - k)) → ((∀ i, i < 66 → x i = 0) ∨ (∀ h, h < 6 → ∃ j, j < 11 ∧ 0 < x (11 * h + j))) → ∃ c' m' x', lp (fun _ _ => none) (fX4_tallyFitting_b10 fz) (N + 1 + k) (Int32.ofNat (2 ^ n - k)) c = some ((), c') ∧ lp (fun _ _ _ => none) fX12_next_b40 (N + 1 + k) v1 (Int32.ofNat (2 ^ n - k)) m = lp (fun _ _ _ _ _ => none) fX12_next_b109 6000 v1 100000000 (-1) 0 m' ∧ Tl x' c' m' ∧ (∀ i, i < 66 → x' i ≤ 6144) ∧ ((∀ i, i < 66 → x' i = 0) ∨ (∀ h, h < 6 → ∃ j, j < 11 ∧ 0 < x' (11 * h + j))) ∧ fr [] [] [304] c c' ∧ fr [] [] [43] m m' := by
  intro k
  induction k with
  | zero =>
    intro N c m x _ H hT hb hp
    obtain ⟨er, hn, e2, h305, hf, e3, ht, e4, h306, e5⟩ := H
    have hp2 : 2 ^ n ≤ 1024 := show 2 ^ n ≤ 2 ^ 10 from Nat.pow_le_pow_right (by omega) hn
    have e2' : m.2.2.1 3 (2 : Int32).toNatClampNeg = Int32.ofNat n := by rw [er]; exact e2
    refine ⟨c, m, x, ?_, ?_, hT, fun i hi => by have := hb i hi; omega, hp, fr.rf, fr.rf⟩
    · rw [Nat.add_zero, Nat.sub_zero, lp_s]
      generalize lp (fun _ _ => none) (fX4_tallyFitting_b10 fz) N = kk
      unfold fX4_tallyFitting_b10
      rw [h305, pwN hn, if_pos (Int32.le_refl _)]
    · rw [Nat.add_zero, Nat.sub_zero, lp_s]
      generalize lp (fun _ _ _ => none) fX12_next_b40 N = kk
      conv => lhs; unfold fX12_next_b40
      rw [e2', pwN hn, if_pos (Int32.le_refl _)]
  | succ k ih =>
    intro N c m x hk H hT hb hp
    have H0 := H
    obtain ⟨er, hn, e2, h305, hf, e3, ht, e4, h306, e5⟩ := H
    have hp2 : 2 ^ n ≤ 1024 := show 2 ^ n ≤ 2 ^ 10 from Nat.pow_le_pow_right (by omega) hn
    have e2' : m.2.2.1 3 (2 : Int32).toNatClampNeg = Int32.ofNat n := by rw [er]; exact e2
    have e1 : 2 ^ n - k = (2 ^ n - (k + 1)) + 1 := by omega
    have hs : 2 ^ n - (k + 1) < 2 ^ n := by omega
    have ih' := ih N
    rw [← Nat.add_assoc, lp_s, lp_s]
    generalize 2 ^ n - (k + 1) = s at e1 hs hb ⊢
    rw [e1] at ih'
    generalize lp (fun _ _ => none) (fX4_tallyFitting_b10 fz) (N + 1 + k) = kc at ih' ⊢
    generalize lp (fun _ _ _ => none) fX12_next_b40 (N + 1 + k) = km at ih' ⊢
    have hle : ¬ (Int32.ofNat (2 ^ n) ≤ Int32.ofNat s) := fun q => by have := (oN_le (by omega) (by omega)).mp q; omega
    have hs' : s < 1024 := by omega
    have hcb : fX4_tallyFitting_b10 fz kc (Int32.ofNat s) c = (if ag r n s t = true then lp (fun _ _ _ => none) (fX4_tallyFitting_b30 fz kc) 6000 (Int32.ofNat s) 0 c else kc (Int32.ofNat (s + 1)) c) := by
      unfold fX4_tallyFitting_b10
      rw [h305, pwN hn, if_neg hle, c_agr H0 hs', bd_v]
      by_cases w : ag r n s t = true
      · rw [if_pos w, if_neg one_ne0, if_pos w]
      · rw [if_neg w, if_pos rfl, if_neg w]
        unfold fX4_tallyFitting_b67
        rw [lt_v, oN_s]
    have hmb : fX12_next_b40 km v1 (Int32.ofNat s) m = lp (fun _ _ _ _ => none) (fX12_next_b54 km) 6000 v1 (Int32.ofNat s) 0 m := by
      conv => lhs; unfold fX12_next_b40
      rw [e2', pwN hn, if_neg hle]
    rw [hcb, hmb]
    by_cases w : ag r n s t = true
    · rw [if_pos w]
      obtain ⟨c1, m1, x1, a1, a2, a3, a4, a5, a6, a7⟩ := tally_l (fz := fz) (B := 6 * s) (v1 := v1) (kc := kc) (km := km) hs' (by omega) w 6 5993 c m x (Nat.le_refl _) H0 hT (fun i hi => by have := hb i hi; omega) (fun h hh => absurd hh (by omega))
      have a1' : lp (fun _ _ _ => none) (fX4_tallyFitting_b30 fz kc) 6000 (Int32.ofNat s) 0 c = _ := a1
      have a2' : lp (fun _ _ _ _ => none) (fX12_next_b54 km) 6000 v1 (Int32.ofNat s) 0 m = _ := a2
      rw [a1', a2']
      obtain ⟨c', m', x', b1, b2, b3, b4, b5, b6, b7⟩ := ih' c1 m1 x1 (by omega) (H0.f a6 a7) a3 (fun i hi => by have := a4 i hi; omega) (Or.inr a5)
      exact ⟨c', m', x', b1, b2, b3, b4, b5, a6.tr b6, a7.tr b7⟩
    · rw [if_neg w]
      have hm2 : lp (fun _ _ _ _ => none) (fX12_next_b54 km) 6000 v1 (Int32.ofNat s) 0 m = km v1 (Int32.ofNat (s + 1)) m := by
        rw [show (6000 : Nat) = 5999 + 1 from rfl, lp_s]
        generalize lp (fun _ _ _ _ => none) (fX12_next_b54 km) 5999 = k3
        unfold fX12_next_b54 fX12_next_b94
        rw [if_neg (show ¬ ((6 : Int32) ≤ 0) by decide), m_agr H0 hs', bd_v, if_neg w, if_pos rfl, lt_v, oN_s]
      rw [hm2]
      exact ih' c m x (by omega) H0 hT (fun i hi => by have := hb i hi; omega) hp
theorem c_most_l {c m : St} {x : Nat → Nat} {h : Nat} (hT : Tl x c m) (hb : ∀ i, i < 66 → x i ≤ 6144) (hh : h < 6) : ∀ (k N : Nat), k ≤ 11 → lp (fun _ _ _ _ => none) (fX4_mostAlike_b4 fz) (N + 1 + k) (Int32.ofNat h) (Int32.ofNat (mx x h (11 - k))) (Int32.ofNat (11 - k)) c = some (Int32.ofNat (mx x h 11), c) := by
  intro k
  induction k with
  | zero =>
    intro N _
    rw [Nat.add_zero, Nat.sub_zero, lp_s]
    generalize lp (fun _ _ _ _ => none) (fX4_mostAlike_b4 fz) N = kk
    unfold fX4_mostAlike_b4
    rw [if_pos (show (10 : Int32) < Int32.ofNat 11 by decide)]
  | succ k ih =>
    intro N hk
    have e1 : 11 - k = (11 - (k + 1)) + 1 := by omega
    have hi : 11 - (k + 1) < 11 := by omega
    have ih' := ih N (by omega)
    rw [← Nat.add_assoc, lp_s]
    generalize 11 - (k + 1) = i at e1 hi ⊢
    rw [e1] at ih'
    generalize lp (fun _ _ _ _ => none) (fX4_mostAlike_b4 fz) (N + 1 + k) = kk at ih' ⊢
    have i1 : Int32.ofNat h * (11 : Int32) + Int32.ofNat i = Int32.ofNat (11 * h + i) := by rw [show (11 : Int32) = Int32.ofNat 11 from rfl, oN_mul, oN_add, Nat.mul_comm]
    have hm := mx_le hb hh i (by omega)
    have hx := hb (11 * h + i) (by omega)
    unfold fX4_mostAlike_b4
    rw [if_neg (show ¬ ((10 : Int32) < Int32.ofNat i) from fun q => by have := (oN_lt (a := 10) (by decide) (by omega)).mp q; omega), i1, gi_N (show 11 * h + i < 66 by omega) (by decide), oN_tn (show 11 * h + i < 2147483648 by omega), (hT _ (show 11 * h + i < 66 by omega)).1, lt_v, lt_v, oN_s, ← ih']
    congr 1
    show _ = Int32.ofNat (if mx x h i < x (11 * h + i) then x (11 * h + i) else mx x h i)
    by_cases q : mx x h i < x (11 * h + i)
    · rw [if_ltT q (by omega), if_pos q]
    · rw [if_ltF (by omega) (by omega), if_neg q]
theorem c_most {c m : St} {x : Nat → Nat} {h : Nat} (hT : Tl x c m) (hb : ∀ i, i < 66 → x i ≤ 6144) (hh : h < 6) : fX4_mostAlike (Int32.ofNat h) fz c = some (Int32.ofNat (mx x h 11), c) := c_most_l (fz := fz) hT hb hh 11 5988 (Nat.le_refl _)
/-- how the reference's round over a hill ends -/
def nxE (km : Int32 → Int32 → Int32 → Int32 → St → Option (Int32 × St)) (v1 v2 v3 : Int32) (h M : Nat) (m : St) : Option (Int32 × St) := if M = 0 then km v1 v2 v3 (Int32.ofNat (h + 1)) m else if v2 ≤ Int32.ofNat M then km v1 v2 v3 (Int32.ofNat (h + 1)) m else km v1 (Int32.ofNat M) (Int32.ofNat h) (Int32.ofNat (h + 1)) m
theorem m_most_l {c m : St} {x : Nat → Nat} {h : Nat} {v1 v2 v3 : Int32} {km : Int32 → Int32 → Int32 → Int32 → St → Option (Int32 × St)} (hT : Tl x c m) (hb : ∀ i, i < 66 → x i ≤ 6144) (hh : h < 6) : ∀ (k N : Nat), k ≤ 11 → lp (fun _ _ _ _ _ _ _ => none) (fX12_next_b122 km) (N + 1 + k) v1 v2 v3 (Int32.ofNat h) (Int32.ofNat (mx x h (11 - k))) (Int32.ofNat (11 - k)) m = nxE km v1 v2 v3 h (mx x h 11) m := by
  intro k
  induction k with
  | zero =>
    intro N _
    rw [Nat.add_zero, Nat.sub_zero, lp_s]
    generalize lp (fun _ _ _ _ _ _ _ => none) (fX12_next_b122 km) N = kk
    have hm := mx_le hb hh 11 (by omega)
    unfold fX12_next_b122 fX12_next_b189 fX12_next_b190 fX12_next_b207 fX12_next_b208 nxE
    rw [if_pos (show (11 : Int32) ≤ Int32.ofNat 11 by decide), lt_v, lt_v, oN_s]
    generalize mx x h 11 = M at hm ⊢
    by_cases q : M = 0
    · have q' : Int32.ofNat M ≤ 0 := (oN_le (b := 0) (by omega) (by decide)).mpr (by omega)
      rw [if_pos q', if_pos q', if_pos q]
    · have q' : ¬ (Int32.ofNat M ≤ 0) := fun w => by have := (oN_le (b := 0) (by omega) (by decide)).mp w; omega
      rw [if_neg q', if_neg q', if_neg q]
      by_cases w : v2 ≤ Int32.ofNat M
      · simp only [if_pos w, if_neg q', lt_v]
      · simp only [if_neg w, if_neg q', lt_v]
  | succ k ih =>
    intro N hk
    have e1 : 11 - k = (11 - (k + 1)) + 1 := by omega
    have hi : 11 - (k + 1) < 11 := by omega
    have ih' := ih N (by omega)
    rw [← Nat.add_assoc, lp_s]
    generalize 11 - (k + 1) = i at e1 hi ⊢
    rw [e1] at ih'
    generalize lp (fun _ _ _ _ _ _ _ => none) (fX12_next_b122 km) (N + 1 + k) = kk at ih' ⊢
    have i1 : (11 : Int32) * Int32.ofNat h + Int32.ofNat i = Int32.ofNat (11 * h + i) := by rw [show (11 : Int32) = Int32.ofNat 11 from rfl, oN_mul, oN_add]
    have hm := mx_le hb hh i (by omega)
    have hx := hb (11 * h + i) (by omega)
    have hmx : mx x h (i + 1) = if mx x h i < x (11 * h + i) then x (11 * h + i) else mx x h i := rfl
    rw [← ih', hmx]
    unfold fX12_next_b122 fX12_next_b165
    rw [if_neg (show ¬ ((11 : Int32) ≤ Int32.ofNat i) from fun q => by have := (oN_le (a := 11) (by decide) (by omega)).mp q; omega), i1, gi_N (show 11 * h + i < 66 by omega) (by decide), gi_N (show 11 * h + i < 66 by omega) (by decide), oN_tn (show 11 * h + i < 2147483648 by omega), (hT _ (show 11 * h + i < 66 by omega)).2, lt_v, lt_v, oN_s]
    by_cases q : mx x h i < x (11 * h + i)
    · rw [if_leF q (by omega), if_pos q]
    · rw [if_leT (by omega) (by omega), if_neg q]
theorem m_b109 {c m : St} {x : Nat → Nat} {h : Nat} {v1 v2 v3 : Int32} {km : Int32 → Int32 → Int32 → Int32 → St → Option (Int32 × St)} (hT : Tl x c m) (hb : ∀ i, i < 66 → x i ≤ 6144) (hh : h < 6) : fX12_next_b109 km v1 v2 v3 (Int32.ofNat h) m = nxE km v1 v2 v3 h (mx x h 11) m := by
  have hl := m_most_l (v1 := v1) (v2 := v2) (v3 := v3) (km := km) hT hb hh 11 5988 (Nat.le_refl _)
  have hl' : lp (fun _ _ _ _ _ _ _ => none) (fX12_next_b122 km) 6000 v1 v2 v3 (Int32.ofNat h) 0 0 m = _ := hl
  unfold fX12_next_b109
  rw [if_neg (show ¬ ((6 : Int32) ≤ Int32.ofNat h) from fun q => by have := (oN_le (a := 6) (by decide) (by omega)).mp q; omega), hl']
theorem next_z {c m : St} {x : Nat → Nat} {v1 : Int32} (hT : Tl x c m) (hx : ∀ i, i < 66 → x i = 0) : ∀ (k N : Nat), k ≤ 5 → lp (fun _ _ _ _ => none) (fX11_next_b25 fz) (N + 1 + k) v1 0 (Int32.ofNat (6 - k)) c = some (-1, c) ∧ lp (fun _ _ _ _ _ => none) fX12_next_b109 (N + 1 + k) v1 100000000 (-1) (Int32.ofNat (6 - k)) m = some (-1, m) := by
  have hb : ∀ i, i < 66 → x i ≤ 6144 := fun i hi => by rw [hx i hi]; omega
  have h0 : fX4_mostAlike 0 fz c = some (0, c) := by
    have := c_most (fz := fz) (h := 0) hT hb (by omega)
    rw [mx_0 hx (by omega)] at this
    exact this
  intro k
  induction k with
  | zero =>
    intro N _
    rw [Nat.add_zero, lp_s, lp_s]
    generalize lp (fun _ _ _ _ => none) (fX11_next_b25 fz) N = k1
    generalize lp (fun _ _ _ _ _ => none) fX12_next_b109 N = k2
    refine ⟨?_, ?_⟩
    · unfold fX11_next_b25 fX11_next_b93
      rw [if_pos (show (6 : Int32) ≤ Int32.ofNat (6 - 0) by decide), h0, bd_v, if_pos rfl]
    · unfold fX12_next_b109 fX12_next_b224 fX12_next_b229
      rw [if_pos (show (6 : Int32) ≤ Int32.ofNat (6 - 0) by decide), if_pos rfl]
  | succ k ih =>
    intro N hk
    have e1 : 6 - k = (6 - (k + 1)) + 1 := by omega
    have hi : 6 - (k + 1) < 6 := by omega
    have ih' := ih N (by omega)
    rw [← Nat.add_assoc, lp_s, lp_s]
    generalize 6 - (k + 1) = i at e1 hi ⊢
    rw [e1] at ih'
    generalize lp (fun _ _ _ _ => none) (fX11_next_b25 fz) (N + 1 + k) = k1 at ih' ⊢
    generalize lp (fun _ _ _ _ _ => none) fX12_next_b109 (N + 1 + k) = k2 at ih' ⊢
    have hi0 : fX4_mostAlike (Int32.ofNat i) fz c = some (0, c) := by
      have := c_most (fz := fz) hT hb hi
      rw [mx_0 hx hi] at this
      exact this
    refine ⟨?_, ?_⟩
    · unfold fX11_next_b25 fX11_next_b58
      rw [if_neg (show ¬ ((6 : Int32) ≤ Int32.ofNat i) from fun q => by have := (oN_le (a := 6) (by decide) (by omega)).mp q; omega), hi0, bd_v, h0, bd_v, if_pos (Int32.le_refl _), lt_v, oN_s]
      exact ih'.1
    · rw [m_b109 hT hb hi, mx_0 hx hi]
      unfold nxE
      rw [if_pos rfl]
      exact ih'.2
theorem next_p {c m : St} {x : Nat → Nat} {v1 : Int32} (hT : Tl x c m) (hb : ∀ i, i < 66 → x i ≤ 6144) (hx : ∀ h, h < 6 → 0 < mx x h 11) : ∀ (k b : Nat), k ≤ 5 → b < 6 → ∃ v, (∀ N, lp (fun _ _ _ _ => none) (fX11_next_b25 fz) (N + 1 + k) v1 (Int32.ofNat b) (Int32.ofNat (6 - k)) c = some (v, c)) ∧ ∀ N, lp (fun _ _ _ _ _ => none) fX12_next_b109 (N + 1 + k) v1 (Int32.ofNat (mx x b 11)) (Int32.ofNat b) (Int32.ofNat (6 - k)) m = some (v, m) := by
  intro k
  induction k with
  | zero =>
    intro b _ hb6
    have hm := mx_le hb hb6 11 (by omega)
    have hxb := hx b hb6
    refine ⟨if v1 = 0 then Int32.ofNat b else Int32.ofNat (mx x b 11), fun N => ?_, fun N => ?_⟩
    · rw [Nat.add_zero, lp_s]
      generalize lp (fun _ _ _ _ => none) (fX11_next_b25 fz) N = k1
      unfold fX11_next_b25 fX11_next_b93
      rw [if_pos (show (6 : Int32) ≤ Int32.ofNat (6 - 0) by decide), c_most hT hb hb6, bd_v, if_neg (show ¬ (Int32.ofNat (mx x b 11) = 0) from fun q => by have := (oN_eq (b := 0) (by omega) (by decide)).mp q; omega)]
      split <;> rfl
    · rw [Nat.add_zero, lp_s]
      generalize lp (fun _ _ _ _ _ => none) fX12_next_b109 N = k2
      unfold fX12_next_b109 fX12_next_b224 fX12_next_b229
      rw [if_pos (show (6 : Int32) ≤ Int32.ofNat (6 - 0) by decide), if_neg (oN_ne1 (by omega))]
      split <;> rfl
  | succ k ih =>
    intro b hk hb6
    have e1 : 6 - k = (6 - (k + 1)) + 1 := by omega
    have hi : 6 - (k + 1) < 6 := by omega
    have ih' := fun b hb => ih b (by omega) hb
    generalize 6 - (k + 1) = i at e1 hi ⊢
    rw [e1] at ih'
    have hm := mx_le hb hb6 11 (by omega)
    have hm2 := mx_le hb hi 11 (by omega)
    have hxi := hx i hi
    have hle : ¬ ((6 : Int32) ≤ Int32.ofNat i) := fun q => by have := (oN_le (a := 6) (by decide) (by omega)).mp q; omega
    have cs1 : ∀ kk, fX11_next_b25 fz kk v1 (Int32.ofNat b) (Int32.ofNat i) c = if mx x b 11 ≤ mx x i 11 then kk v1 (Int32.ofNat b) (Int32.ofNat (i + 1)) c else kk v1 (Int32.ofNat i) (Int32.ofNat (i + 1)) c := by
      intro kk
      unfold fX11_next_b25 fX11_next_b58
      rw [if_neg hle, c_most hT hb hi, bd_v, c_most hT hb hb6, bd_v, lt_v, lt_v, oN_s]
      by_cases q : mx x b 11 ≤ mx x i 11
      · rw [if_leT q (by omega), if_pos q]
      · rw [if_leF (by omega) (by omega), if_neg q]
    have ms1 : ∀ kk, fX12_next_b109 kk v1 (Int32.ofNat (mx x b 11)) (Int32.ofNat b) (Int32.ofNat i) m = if mx x b 11 ≤ mx x i 11 then kk v1 (Int32.ofNat (mx x b 11)) (Int32.ofNat b) (Int32.ofNat (i + 1)) m else kk v1 (Int32.ofNat (mx x i 11)) (Int32.ofNat i) (Int32.ofNat (i + 1)) m := by
      intro kk
      rw [m_b109 hT hb hi]
      unfold nxE
      rw [if_neg (show ¬ (mx x i 11 = 0) by omega)]
      by_cases q : mx x b 11 ≤ mx x i 11
      · rw [if_leT q (by omega), if_pos q]
      · rw [if_leF (by omega) (by omega), if_neg q]
    by_cases q : mx x b 11 ≤ mx x i 11
    · obtain ⟨v, i1, i2⟩ := ih' b hb6
      refine ⟨v, fun N => ?_, fun N => ?_⟩
      · rw [← Nat.add_assoc, lp_s, cs1, if_pos q]; exact i1 N
      · rw [← Nat.add_assoc, lp_s, ms1, if_pos q]; exact i2 N
    · obtain ⟨v, i1, i2⟩ := ih' i hi
      refine ⟨v, fun N => ?_, fun N => ?_⟩
      · rw [← Nat.add_assoc, lp_s, cs1, if_neg q]; exact i1 N
      · rw [← Nat.add_assoc, lp_s, ms1, if_neg q]; exact i2 N
theorem c_tz : ∀ (k N : Nat) (st : St), k ≤ 66 → (∀ h, h < 66 - k → st.2.2.1 304 h = 0) → ∃ st', lp (fun _ _ _ _ => none) (fJ7_fill_53178__304_b5 fz) (N + 1 + k) 0 (Int32.ofNat (66 - k)) 66 st = some ((), st') ∧ fr [] [] [304] st st' ∧ ∀ h, h < 66 → st'.2.2.1 304 h = 0 := by
  intro k
  induction k with
  | zero =>
    intro N st _ h
    refine ⟨st, ?_, fr.rf, h⟩
    rw [Nat.add_zero, lp_s]
    generalize lp (fun _ _ _ _ => none) (fJ7_fill_53178__304_b5 fz) N = kk
    unfold fJ7_fill_53178__304_b5
    rw [if_pos (show (66 : Int32) ≤ Int32.ofNat (66 - 0) by decide)]
  | succ k ih =>
    intro N st hk h
    have e1 : 66 - k = (66 - (k + 1)) + 1 := by omega
    have hi : 66 - (k + 1) < 66 := by omega
    generalize 66 - (k + 1) = i at e1 hi h ⊢
    obtain ⟨st', j1, j2, j3⟩ := ih N (sA st 304 (upd (st.2.2.1 304) i 0)) (by omega) (by
      intro q hq
      show upd (st.2.2.1 304) i _ q = _
      rw [upd_v]
      by_cases e : q = i
      · rw [if_pos e]
      · rw [if_neg e]; exact h q (by omega))
    refine ⟨st', ?_, (fr.sA (by decide)).tr j2, j3⟩
    rw [← j1, ← Nat.add_assoc, lp_s]
    generalize lp (fun _ _ _ _ => none) (fJ7_fill_53178__304_b5 fz) (N + 1 + k) = kk
    unfold fJ7_fill_53178__304_b5
    rw [if_neg (show ¬ ((66 : Int32) ≤ Int32.ofNat i) from fun q => by have := (oN_le (a := 66) (by decide) (by omega)).mp q; omega), gi_N hi (by decide), oN_tn (by omega), lt_v, lt_v, oN_s, e1]
theorem m_tz {v1 : Int32} : ∀ (k N : Nat) (st : St), k ≤ 66 → (∀ h, h < 66 - k → st.2.2.1 43 h = 0) → ∃ st', lp (fun _ _ _ => none) fX12_next_b19 (N + 1 + k) v1 (Int32.ofNat (66 - k)) st = lp (fun _ _ _ => none) fX12_next_b40 6000 v1 0 st' ∧ fr [] [] [43] st st' ∧ ∀ h, h < 66 → st'.2.2.1 43 h = 0 := by
  intro k
  induction k with
  | zero =>
    intro N st _ h
    refine ⟨st, ?_, fr.rf, h⟩
    rw [Nat.add_zero, lp_s]
    generalize lp (fun _ _ _ => none) fX12_next_b19 N = kk
    conv => lhs; unfold fX12_next_b19
    rw [if_pos (show (66 : Int32) ≤ Int32.ofNat (66 - 0) by decide)]
  | succ k ih =>
    intro N st hk h
    have e1 : 66 - k = (66 - (k + 1)) + 1 := by omega
    have hi : 66 - (k + 1) < 66 := by omega
    generalize 66 - (k + 1) = i at e1 hi h ⊢
    obtain ⟨st', j1, j2, j3⟩ := ih N (sA st 43 (upd (st.2.2.1 43) i 0)) (by omega) (by
      intro q hq
      show upd (st.2.2.1 43) i _ q = _
      rw [upd_v]
      by_cases e : q = i
      · rw [if_pos e]
      · rw [if_neg e]; exact h q (by omega))
    refine ⟨st', ?_, (fr.sA (by decide)).tr j2, j3⟩
    rw [← j1, ← Nat.add_assoc, lp_s]
    generalize lp (fun _ _ _ => none) fX12_next_b19 (N + 1 + k) = kk
    conv => lhs; unfold fX12_next_b19
    rw [if_neg (show ¬ ((66 : Int32) ≤ Int32.ofNat i) from fun q => by have := (oN_le (a := 66) (by decide) (by omega)).mp q; omega), gi_N hi (by decide), oN_tn (by omega), lt_v, lt_v, oN_s, e1]
theorem next_call {c m : St} (a : Int32) (h : RR fz c m) : Cl fz c m (fX11_next a fz c) (fX12_next a m) := by
  unfold fX11_next fX12_next
  rw [lt_v (sI m 0 0), c_within, bs_v, m_in32 a 0 1 0 1 rfl rfl, bs_v]
  by_cases ha : ¬ ((0 : Int32) ≤ a ∧ a ≤ 1)
  · rw [if_neg ha, if_pos rfl, if_pos rfl]; exact Cl.of h
  replace ha := Decidable.of_not_not ha
  rw [if_pos ha, if_neg one_ne0, if_neg one_ne0]
  obtain ⟨n, t, H⟩ := Rh.hq (m := sI m 0 0) h.2.2.2.1
  have hn := H.2.1
  have hp : 2 ^ n ≤ 1024 := show 2 ^ n ≤ 2 ^ 10 from Nat.pow_le_pow_right (by omega) hn
  obtain ⟨c1, u1, u2, u3⟩ := c_tz (fz := fz) 66 5933 c (Nat.le_refl _) (fun _ hh => absurd hh (by omega))
  obtain ⟨m1, w1, w2, w3⟩ := m_tz (v1 := a) 66 5933 (sI m 0 0) (Nat.le_refl _) (fun _ hh => absurd hh (by omega))
  obtain ⟨c2, m2, x, a1, a2, a3, a4, a5, a6, a7⟩ := tally_o (fz := fz) (v1 := a) (2 ^ n) (5999 - 2 ^ n) c1 m1 (fun _ => 0) (Nat.le_refl _) (H.f u2 w2) (fun i hi => ⟨u3 i hi, w3 i hi⟩) (fun i hi => Nat.zero_le _) (Or.inl (fun _ _ => rfl))
  rw [show 5999 - 2 ^ n + 1 + 2 ^ n = 6000 by omega, Nat.sub_self] at a1 a2
  have hc : fX4_tallyFitting fz c = some ((), c2) := by
    unfold fX4_tallyFitting fJ7_fill_53178__304
    have u1' : lp (fun _ _ _ _ => none) (fJ7_fill_53178__304_b5 fz) 6000 0 0 66 c = some ((), c1) := u1
    rw [u1', bd_v]; exact a1
  have hm : lp (fun _ _ _ => none) fX12_next_b19 6000 a 0 (sI m 0 0) = lp (fun _ _ _ _ _ => none) fX12_next_b109 6000 a 100000000 (-1) 0 m2 := w1.trans a2
  rw [hc, bd_v, hm]
  have hfin : ∃ v, lp (fun _ _ _ _ => none) (fX11_next_b25 fz) 6000 a 0 1 c2 = some (v, c2) ∧ lp (fun _ _ _ _ _ => none) fX12_next_b109 6000 a 100000000 (-1) 0 m2 = some (v, m2) := by
    rcases a5 with hz | hpz
    · have hz1 := next_z (fz := fz) (v1 := a) a3 hz 5 5994 (Nat.le_refl _)
      refine ⟨-1, hz1.1, ?_⟩
      have hz2 : lp (fun _ _ _ _ _ => none) fX12_next_b109 6000 a 100000000 (-1) (Int32.ofNat 0) m2 = some (-1, m2) := by
        have hz3 := (next_z (fz := fz) (v1 := a) a3 hz 5 5993 (Nat.le_refl _)).2
        rw [show (6000 : Nat) = 5999 + 1 from rfl, lp_s, m_b109 a3 (fun i hi => by rw [hz i hi]; omega) (by omega), mx_0 hz (by omega)]
        unfold nxE
        rw [if_pos rfl]
        exact hz3
      exact hz2
    · have hpos : ∀ q, q < 6 → 0 < mx x q 11 := fun q hq => by
        obtain ⟨j, j1, j2⟩ := hpz q hq
        exact mx_p j2 11 j1
      obtain ⟨v, b1, b2⟩ := next_p (fz := fz) (v1 := a) a3 a4 hpos 5 0 (Nat.le_refl _) (by omega)
      have hl := mx_le a4 (h := 0) (by omega) 11 (by omega)
      have h0 := hpos 0 (by omega)
      have q2 : lp (fun _ _ _ _ _ => none) fX12_next_b109 6000 a 100000000 (-1) (Int32.ofNat 0) m2 = some (v, m2) := by
        rw [show (6000 : Nat) = 5999 + 1 from rfl, lp_s, m_b109 a3 a4 (by omega)]
        unfold nxE
        rw [if_neg (show ¬ (mx x 0 11 = 0) by omega), if_neg (show ¬ ((100000000 : Int32) ≤ Int32.ofNat (mx x 0 11)) from fun q => by have := (oN_le (a := 100000000) (by decide) (by omega)).mp q; omega)]
        exact b2 5993
      exact ⟨v, b1 5994, q2⟩
  obtain ⟨v, f1, f2⟩ := hfin
  have R1 := h.a (((u2.tr a6)).ca (by decide) (by decide)) (m' := m2) (((fr.sI (I := [0]) (J := []) (A := [43]) (by decide)).tr ((w2.tr a7).up (by decide) (by decide) (by decide))).ma (by decide) (by decide))
  exact ⟨v, c2, m2, f1, f2, R1.1, R1.2⟩
end Next
