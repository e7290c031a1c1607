/-! T2, count, drawn; feed, end, force as calls -/
section Count
variable {fz : List FP} {c m : St}
theorem tkn_l {n : Nat} (hn : n ≤ 6) (h108 : c.1 108 = Int32.ofNat n) (h0 : m.2.2.1 3 0 = Int32.ofNat n) (he : ∀ i, i < 6 → c.2.2.1 202 i = m.2.2.1 3 (25 + i)) : ∀ (k N : Nat) (v : Int32), k ≤ n → ∃ x, lp (fun _ _ _ => none) (fX6_takenForts_b4 fz) (N + 1 + k) v (Int32.ofNat (n - k)) c = some (x, c) ∧ lp (fun _ _ _ => none) fX12_takenForts_b4 (N + 1 + k) v (Int32.ofNat (n - k)) m = some (x, m) := by
  have h0' : m.2.2.1 3 (0 : Int32).toNatClampNeg = Int32.ofNat n := h0
  intro k
  induction k with
  | zero =>
    intro N v _
    refine ⟨v, ?_, ?_⟩
    · rw [Nat.add_zero, Nat.sub_zero, lp_s]
      generalize lp (fun _ _ _ => none) (fX6_takenForts_b4 fz) N = kk
      unfold fX6_takenForts_b4
      rw [h108, if_pos (Int32.le_refl _)]
    · rw [Nat.add_zero, Nat.sub_zero, lp_s]
      generalize lp (fun _ _ _ => none) fX12_takenForts_b4 N = kk
      unfold fX12_takenForts_b4
      rw [h0', if_pos (Int32.le_refl _)]
  | succ k ih =>
    intro N v hk
    have e1 : n - k = (n - (k + 1)) + 1 := by omega
    have hi : n - (k + 1) < n := by omega
    have ih' := fun v => ih N v (by omega)
    rw [← Nat.add_assoc, lp_s, lp_s]
    generalize n - (k + 1) = i at e1 hi ⊢
    rw [e1] at ih'
    generalize lp (fun _ _ _ => none) (fX6_takenForts_b4 fz) (N + 1 + k) = k1 at ih' ⊢
    generalize lp (fun _ _ _ => none) fX12_takenForts_b4 (N + 1 + k) = k2 at ih' ⊢
    have e25 : (25 : Int32) + Int32.ofNat i = Int32.ofNat (25 + i) := oN_add 25 i
    unfold fX6_takenForts_b4 fX12_takenForts_b4
    rw [h108, h0', if_leF hi (by omega), if_leF hi (by omega), gi_N (show i < 6 by omega) (by decide), oN_tn (show i < 2147483648 by omega), e25, gi_N (show 25 + i < 5550 by omega) (by decide), oN_tn (show 25 + i < 2147483648 by omega), he i (by omega), lt_v, lt_v, lt_v, lt_v, oN_s]
    exact ih' _
theorem tkn_both (h : Rq fz c m) : ∃ x, fX6_takenForts fz c = some (x, c) ∧ fX12_takenForts m = some (x, m) := by
  obtain ⟨h0, n, hn, en⟩ := h.1.1
  have h108 : c.1 108 = Int32.ofNat n := h0.trans en
  obtain ⟨x, k1, k2⟩ := tkn_l (fz := fz) hn h108 en (fun i hi => (h.1.2.2.2.2.2.2.2.1 i hi).1) n (5999 - n) 0 (Nat.le_refl _)
  rw [show 5999 - n + 1 + n = 6000 by omega, Nat.sub_self] at k1 k2
  exact ⟨x, k1, k2⟩
theorem count_call (a : Int32) (h : RR fz c m) : Cl fz c m (fX11_count a fz c) (fX12_count a m) := by
  obtain ⟨x, k1, k2⟩ := tkn_both (m := sI m 0 0) h.1
  have hs := h.2.1.2
  obtain ⟨⟨hl0, -⟩, ⟨hl1, -⟩, ⟨hl2, -⟩, ⟨hl3, -⟩, hl4, -⟩ := h.1.1
  have hf0 := (hl4 0 (by decide)).1
  have hf1 := (hl4 1 (by decide)).1
  have hf2 := (hl4 2 (by decide)).1
  have hf3 := (hl4 3 (by decide)).1
  have q108 : c.1 108 = m.2.2.1 3 0 := hl0
  have q204 : c.1 204 = m.2.2.1 3 6 := hl1
  have q109 : c.1 109 = m.2.2.1 3 7 := hl2
  have q110 : c.1 110 = m.2.2.1 3 8 := hl3
  have q404 : c.1 404 = m.2.2.1 3 1 := h.2.2.2.2.1.1.1
  obtain ⟨⟨nf, -, ef, ef2, -⟩, ⟨q306', -⟩, -⟩ := h.2.2.2.1
  have q305 : c.1 305 = m.2.2.1 3 2 := ef2.trans ef.symm
  have q306 : c.1 306 = m.2.2.1 3 3 := q306'
  have q111 : c.1 111 = m.2.2.1 3 4 := h.1.2.1.1.1
  have q112 : c.1 112 = m.2.2.1 3 5 := h.1.2.1.2.1
  obtain ⟨nu, -, u1, u2, -⟩ := h.2.2.2.2.2.1
  have q905 : c.1 905 = m.1 8 := u1.trans u2.symm
  obtain ⟨L, -, l1, l2, -⟩ := h.2.2.1
  have q504 : c.1 504 = m.1 13 := l1.trans l2.symm
  by_cases hr : (0 : Int32) ≤ a ∧ a ≤ 20
  · obtain ⟨n, hn, en⟩ := oN_exb (b := 20) hr.1 (by decide) hr.2
    subst en
    have hx : ∀ v, fX11_count (Int32.ofNat n) fz c = some (v, c) → fX12_count (Int32.ofNat n) m = some (v, sI m 0 0) → Cl fz c m (fX11_count (Int32.ofNat n) fz c) (fX12_count (Int32.ofNat n) m) := by
      intro v e1 e2
      rw [e1, e2]; exact Cl.of h
    have hn2 : n = 0 ∨ n = 1 ∨ n = 2 ∨ n = 3 ∨ n = 4 ∨ n = 5 ∨ n = 6 ∨ n = 7 ∨ n = 8 ∨ n = 9 ∨ n = 10 ∨ n = 11 ∨ n = 12 ∨ n = 13 ∨ n = 14 ∨ n = 15 ∨ n = 16 ∨ n = 17 ∨ n = 18 ∨ n = 19 ∨ n = 20 := by omega
    rcases hn2 with e | e | e | e | e | e | e | e | e | e | e | e | e | e | e | e | e | e | e | e | e <;> subst e
    · exact hx (m.2.2.1 3 0) (by rw [← q108]; rfl) rfl
    · refine hx x ?_ ?_
      · show bd (fX6_takenForts fz c) _ = _
        rw [k1, bd_v]
      · show bd (fX12_takenForts (sI m 0 0)) _ = _
        rw [k2, bd_v]
    · exact hx (m.2.2.1 3 1) (by rw [← q404]; rfl) rfl
    · exact hx (m.2.2.1 3 2) (by rw [← q305]; rfl) rfl
    · exact hx (m.2.2.1 3 3) (by rw [← q306]; rfl) rfl
    · exact hx (m.2.2.1 3 4) (by rw [← q111]; rfl) rfl
    · exact hx (m.1 8) (by rw [← q905]; rfl) rfl
    · exact hx (m.1 13) (by rw [← q504]; rfl) rfl
    · exact hx (m.2.2.1 2 1) (by rw [← hs 1 (by decide)]; rfl) rfl
    · exact hx (m.2.2.1 2 2) (by rw [← hs 2 (by decide)]; rfl) rfl
    · exact hx (m.2.2.1 2 3) (by rw [← hs 3 (by decide)]; rfl) rfl
    · exact hx (m.2.2.1 2 5) (by rw [← hs 5 (by decide)]; rfl) rfl
    · exact hx (m.2.2.1 2 6) (by rw [← hs 6 (by decide)]; rfl) rfl
    · exact hx (m.2.2.1 3 5) (by rw [← q112]; rfl) rfl
    · exact hx (m.2.2.1 3 6) (by rw [← q204]; rfl) rfl
    · exact hx (m.2.2.1 3 7) (by rw [← q109]; rfl) rfl
    · exact hx (m.2.2.1 3 8) (by rw [← q110]; rfl) rfl
    · exact hx (m.2.2.1 3 9) (by rw [← hf0]; rfl) rfl
    · exact hx (m.2.2.1 3 10) (by rw [← hf1]; rfl) rfl
    · exact hx (m.2.2.1 3 11) (by rw [← hf2]; rfl) rfl
    · exact hx (m.2.2.1 3 12) (by rw [← hf3]; rfl) rfl
  · have ne : ∀ k : Nat, k ≤ 20 → ¬ (a = Int32.ofNat k) := fun k hk e => hr (by rw [e]; exact ⟨oN_nn (by omega), (oN_le (b := 20) (by omega) (by decide)).mpr hk⟩)
    have no : ∀ lo hi : Nat, hi ≤ 20 → ¬ (Int32.ofNat lo ≤ a ∧ a ≤ Int32.ofNat hi) ∨ 2147483648 ≤ lo := by
      intro lo hi hh
      by_cases hl : 2147483648 ≤ lo
      · exact Or.inr hl
      · refine Or.inl (fun q => hr ⟨Int32.le_trans (oN_nn (by omega)) q.1, Int32.le_trans q.2 ((oN_le (b := 20) (by omega) (by decide)).mpr hh)⟩)
    have w1 : ¬ ((8 : Int32) ≤ a ∧ a ≤ 12) := (no 8 12 (by decide)).resolve_right (by decide)
    have w2 : ¬ ((14 : Int32) ≤ a ∧ a ≤ 16) := (no 14 16 (by decide)).resolve_right (by decide)
    have w3 : ¬ ((17 : Int32) ≤ a ∧ a ≤ 20) := (no 17 20 (by decide)).resolve_right (by decide)
    have n0 : ¬ (a = 0) := ne 0 (by decide)
    have n1 : ¬ (a = 1) := ne 1 (by decide)
    have n2 : ¬ (a = 2) := ne 2 (by decide)
    have n3 : ¬ (a = 3) := ne 3 (by decide)
    have n4 : ¬ (a = 4) := ne 4 (by decide)
    have n5 : ¬ (a = 5) := ne 5 (by decide)
    have n6 : ¬ (a = 6) := ne 6 (by decide)
    have n7 : ¬ (a = 7) := ne 7 (by decide)
    have n8 : ¬ (a = 8) := ne 8 (by decide)
    have n9 : ¬ (a = 9) := ne 9 (by decide)
    have n10 : ¬ (a = 10) := ne 10 (by decide)
    have n11 : ¬ (a = 11) := ne 11 (by decide)
    have n12 : ¬ (a = 12) := ne 12 (by decide)
    have n13 : ¬ (a = 13) := ne 13 (by decide)
    unfold fX11_count fX12_count fX12_count_b228
    rw [lt_v (sI m 0 0), c_within, bs_v, if_neg w1, if_pos rfl, c_within, bs_v, if_neg w2, if_pos rfl, c_within, bs_v, if_neg w3, if_pos rfl, m_in32 a 14 16 14 16 rfl rfl, bs_v, if_neg w2, m_in32 a 17 20 17 20 rfl rfl, bs_v, if_neg w3]
    simp only [if_neg n0, if_neg n1, if_neg n2, if_neg n3, if_neg n4, if_neg n5, if_neg n6, if_neg n7, if_neg n8, if_neg n9, if_neg n10, if_neg n11, if_neg n12, if_neg n13, if_true]
    exact Cl.of h
theorem drawn_call (a b : Int32) (h : RR fz c m) : Cl fz c m (fX11_drawn a b fz c) (fX12_drawn a b m) := by
  have hd := h.2.2.2.2.2.2.1
  unfold fX11_drawn fX12_drawn fX11_drawn_b10 fX12_drawn_b52 fX11_drawn_b46
  rw [lt_v (sI m 0 0)]
  rcases hd with ⟨d1, d2⟩ | ⟨n, n1, n6, d1, d2, d3, d4⟩
  · have d2' : (sI m 0 0).1 52 = -1 := d2
    rw [d1, d2', if_pos rfl, if_pos rfl, if_pos rfl]
    split <;> exact Cl.of h
  · have d2' : (sI m 0 0).1 52 = Int32.ofNat n := d2
    have z1 : ¬ (Int32.ofNat n = 0) := fun z => by have := (oN_eq (b := 0) (by omega) (by omega)).mp z; omega
    have e1 : Int32.ofNat n - 1 = Int32.ofNat (n - 1) := by rw [show (1 : Int32) = Int32.ofNat 1 from rfl, oN_sub (by omega)]
    rw [d1, d2', if_neg z1, if_neg z1, if_neg (oN_ne1 (by omega)), if_neg one_ne0, if_pos rfl, m_in32 b 0 3 0 3 rfl rfl, bs_v, n64_1 n6, e1]
    by_cases b3 : b = 3
    · subst b3
      rw [if_pos rfl, if_pos rfl, if_pos (show (0 : Int32) ≤ 3 ∧ (3 : Int32) ≤ 3 by decide), if_neg one_ne0]
      unfold fX11_drawn_b40 fX12_drawn_b46 fX12_drawn_b81 fX11_drawn_b46 fX12_drawn_b52
      rw [c_within, bs_v, m_in32 a 0 3 0 3 rfl rfl, bs_v]
      by_cases ha : ¬ ((0 : Int32) ≤ a ∧ a ≤ 3)
      · rw [if_neg ha, if_pos rfl, if_pos rfl]; exact Cl.of h
      replace ha := Decidable.of_not_not ha
      obtain ⟨g, hg, eg⟩ := oN_exb (b := 3) ha.1 (by decide) ha.2
      rw [if_pos ha, if_neg one_ne0, if_neg one_ne0, if_pos rfl, if_neg (show ¬ ((3 : Int32) = 0) by decide), if_neg (show ¬ ((3 : Int32) = 1) by decide), if_neg (show ¬ ((3 : Int32) = 2) by decide), if_pos rfl]
      subst eg
      have e18 : (18 : Int32) + Int32.ofNat g = Int32.ofNat (18 + g) := oN_add 18 g
      rw [gi_N (show g < 4 by omega) (by decide), e18, gi_N (show 18 + g < 22 by omega) (by decide), oN_tn (show g < 2147483648 by omega), oN_tn (show 18 + g < 2147483648 by omega), d4 g (by omega)]
      exact Cl.of h
    · rw [if_neg b3, if_neg b3]
      unfold fX11_drawn_b40 fX12_drawn_b46 fX12_drawn_b81 fX11_drawn_b46 fX12_drawn_b52
      rw [c_within, bs_v, m_in32 a 0 (Int32.ofNat (n - 1)) 0 _ rfl rfl, bs_v]
      by_cases ha : ¬ ((0 : Int32) ≤ a ∧ a ≤ Int32.ofNat (n - 1))
      · rw [if_neg ha, if_pos rfl, if_pos rfl]
        split <;> exact Cl.of h
      replace ha := Decidable.of_not_not ha
      obtain ⟨k, hk, ek⟩ := oN_exb ha.1 (by omega) ha.2
      rw [if_pos ha, if_neg one_ne0, if_neg one_ne0, if_neg b3, if_neg b3]
      subst ek
      obtain ⟨x1, x2, x3⟩ := d3 k (by omega)
      rw [gi_N (show k < 6 by omega) (by decide), gi_N (show k < 6 by omega) (by decide), gi_N (show k < 6 by omega) (by decide), oN_tn (show k < 2147483648 by omega), x1, x2, x3]
      have i0 : (3 : Int32) * Int32.ofNat k = Int32.ofNat (3 * k) := oN_mul 3 k
      by_cases hb : ¬ ((0 : Int32) ≤ b ∧ b ≤ 3)
      · have w0 : ¬ (b = 0) := fun e => hb (by rw [e]; decide)
        have w1 : ¬ (b = 1) := fun e => hb (by rw [e]; decide)
        have w2 : ¬ (b = 2) := fun e => hb (by rw [e]; decide)
        rw [if_neg hb, if_pos rfl, if_neg w0, if_neg w1, if_neg w2]; exact Cl.of h
      replace hb := Decidable.of_not_not hb
      obtain ⟨j, hj, ej⟩ := oN_exb (b := 3) hb.1 (by decide) hb.2
      rw [if_pos hb, if_neg one_ne0, i0]
      subst ej
      have hj3 : j = 0 ∨ j = 1 ∨ j = 2 ∨ j = 3 := by omega
      rw [oN_add, gi_N (show 3 * k + j < 22 by omega) (by decide), oN_tn (show 3 * k + j < 2147483648 by omega)]
      rcases hj3 with e | e | e | e <;> subst e
      · rw [if_pos (show Int32.ofNat 0 = 0 from rfl)]; exact Cl.of h
      · rw [if_neg (show ¬ (Int32.ofNat 1 = 0) by decide), if_pos (show Int32.ofNat 1 = 1 from rfl)]; exact Cl.of h
      · rw [if_neg (show ¬ (Int32.ofNat 2 = 0) by decide), if_neg (show ¬ (Int32.ofNat 2 = 1) by decide), if_pos (show Int32.ofNat 2 = 2 from rfl)]; exact Cl.of h
      · exact absurd rfl b3
/-- calls that write the tape alone -/
theorem Cl.t {x y : Option (Int32 × St)} (h : RR fz c m) (k : ∃ v c' m', x = some (v, c') ∧ y = some (v, m') ∧ Rt c' m' ∧ fr [504] [] [500] c c' ∧ fr [0, 13] [] [12] m m') : Cl fz c m x y := by
  obtain ⟨v, c', m', e1, e2, t, f, g⟩ := k
  obtain ⟨⟨h1, h2, h3⟩, h4, -, h6, h7, h8, h9, h10, h11⟩ := h
  have e3 : m'.2.2.1 3 = m.2.2.1 3 := g.2.2.1 3 (by decide)
  have e : ∀ k, m'.2.2.1 3 k = m.2.2.1 3 k := fun k => by rw [e3]
  have fi : ∀ {l : List Nat}, (∀ x, x ∈ l → x ∉ [504]) → ∀ x, x ∈ l → c'.1 x = c.1 x := fun s x hx => f.1 x (s x hx)
  have fa : ∀ {l : List Nat}, (∀ x, x ∈ l → x ∉ [500]) → ∀ x, x ∈ l → c'.2.2.1 x = c.2.2.1 x := fun s x hx => f.2.2.1 x (s x hx)
  have gi1 : ∀ {l : List Nat}, (∀ x, x ∈ l → x ∉ [0, 13]) → ∀ x, x ∈ l → m'.1 x = m.1 x := fun s x hx => g.1 x (s x hx)
  refine ⟨v, c', m', e1, e2, ⟨⟨?_, ?_, ?_⟩, ?_, t, ?_, ?_, ?_, ?_, ?_, ?_⟩, by rw [f.2.2.2], g.2.2.1 4 (by decide), g.2.2.1 5 (by decide)⟩
  · exact h1.a (fi (by decide)) (fa (by decide)) (fun k hk => e k)
  · exact h2.a (fi (by decide)) (by rw [f.2.2.2]) (fun k hk => e k)
  · rw [g.1 20 (by decide)]; exact h3
  · exact h4.a (f.1 9 (by decide)) (f.2.2.1 8 (by decide)) (g.1 1 (by decide)) (g.2.2.1 2 (by decide))
  · exact h6.a (fi (by decide)) (fa (by decide)) (fun k hk => e k)
  · exact h7.a (f.1 404 (by decide)) (fa (by decide)) (fun k hk => e k)
  · exact h8.a (f.1 905 (by decide)) (f.2.2.1 902 (by decide)) (g.1 8 (by decide)) (g.2.2.1 6 (by decide)) (g.2.2.1 7 (by decide)) (fun k _ => e k)
  · exact h9.a (f.1 1104 (by decide)) (fa (by decide)) (g.1 52 (by decide)) (g.2.2.1 51 (by decide))
  · exact h10.a (fi (by decide)) (gi1 (by decide))
  · exact h11.a (fun k _ => by rw [g.2.2.2])
theorem Cl.f {x y : Option (Int32 × St)} (h : RR fz c m) (k : ∃ v c' m', x = some (v, c') ∧ y = some (v, m') ∧ Rq fz c' m' ∧ Rs c' m' ∧ fr [9, 112] [] [8] c c' ∧ fr [0, 1] [] [2, 3] m m' ∧ (∀ k, k ≠ 5 → m'.2.2.1 3 k = m.2.2.1 3 k)) : Cl fz c m x y := by
  obtain ⟨v, c', m', e1, e2, q, s, f, g, e⟩ := k
  obtain ⟨-, -, h5, h6, h7, h8, h9, h10, h11⟩ := h
  have fi : ∀ {l : List Nat}, (∀ x, x ∈ l → x ∉ [9, 112]) → ∀ x, x ∈ l → c'.1 x = c.1 x := fun s x hx => f.1 x (s x hx)
  have fa : ∀ {l : List Nat}, (∀ x, x ∈ l → x ∉ [8]) → ∀ x, x ∈ l → c'.2.2.1 x = c.2.2.1 x := fun s x hx => f.2.2.1 x (s x hx)
  have gi1 : ∀ {l : List Nat}, (∀ x, x ∈ l → x ∉ [0, 1]) → ∀ x, x ∈ l → m'.1 x = m.1 x := fun s x hx => g.1 x (s x hx)
  refine ⟨v, c', m', e1, e2, ⟨q, s, ?_, ?_, ?_, ?_, ?_, ?_, ?_⟩, by rw [f.2.2.2], g.2.2.1 4 (by decide), g.2.2.1 5 (by decide)⟩
  · exact h5.a (f.1 504 (by decide)) (f.2.2.1 500 (by decide)) (g.1 13 (by decide)) (g.2.2.1 12 (by decide))
  · exact h6.a (fi (by decide)) (fa (by decide)) (fun k hk => e k (by omega))
  · exact h7.a (f.1 404 (by decide)) (fa (by decide)) (fun k hk => e k (by omega))
  · obtain ⟨n, q1, q2, q3, q4⟩ := h8
    have e6 : m'.2.2.1 6 = m.2.2.1 6 := g.2.2.1 6 (by decide)
    have se : ∀ j i, sn m' n j i = sn m n j i := by
      intro j i
      unfold sn
      rw [e (6 + i) (by omega), e6]
    refine ⟨n, q1, by rw [f.1 905 (by decide)]; exact q2, by rw [g.1 8 (by decide)]; exact q3, fun j hj => ?_⟩
    obtain ⟨⟨F, f1, f2, f3, f4⟩, q5, q6⟩ := q4 j hj
    rw [f.2.2.1 902 (by decide), g.2.2.1 7 (by decide)]
    refine ⟨⟨F, f1, by rw [e 0 (by omega)]; exact f2, f3, fun i hi => ?_⟩, q5, fun i hi => ?_⟩
    · rw [se j i, e (31 + F) (by omega), pt_e (se (j + 1) i)]; exact f4 i hi
    · rw [se j i]; exact q6 i hi
  · exact h9.a (f.1 1104 (by decide)) (fa (by decide)) (g.1 52 (by decide)) (g.2.2.1 51 (by decide))
  · exact h10.a (fi (by decide)) (gi1 (by decide))
  · exact h11.a (fun k _ => by rw [g.2.2.2])
end Count
