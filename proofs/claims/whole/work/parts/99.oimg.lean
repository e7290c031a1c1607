/-! T2, a land taken over: written by mk99o.py -/
def tkI : List Nat := [108, 204, 109, 110, 111, 112, 305, 306, 404]
def tkR : List (Nat × Nat) := [(203, 4), (200, 6), (201, 6), (202, 6), (103, 6), (104, 18), (105, 36), (300, 6), (301, 6), (302, 8), (303, 8), (400, 8), (401, 8), (402, 8)]
/-- the land at offset d is the one that was at offset s -/
def Cpy (d s : Nat) (c c' : St) : Prop := (∀ k, k ∈ tkI → c'.1 (k + d) = c.1 (k + s)) ∧ (∀ p, p ∈ tkR → ∀ i, i < p.2 → c'.2.2.1 (p.1 + d) i = c.2.2.1 (p.1 + s) i) ∧ ∀ i, i < 6 → c'.2.2.2.2 (107 + d) i = c.2.2.2.2 (107 + s) i
/-- nothing else has changed -/
def Cpf (d : Nat) (c c' : St) : Prop := (∀ k, (∀ j, j ∈ tkI → k ≠ j + d) → c'.1 k = c.1 k) ∧ c'.2.1 = c.2.1 ∧ (∀ k, (∀ p, p ∈ tkR → k ≠ p.1 + d) → c'.2.2.1 k = c.2.2.1 k) ∧ c'.2.2.2.1 = c.2.2.2.1 ∧ ∀ k, k ≠ 107 + d → c'.2.2.2.2 k = c.2.2.2.2 k
/-- all that an image keeps -/
def Im (off : Nat) (fz : List FP) (c : St) (r : Nat → Int32) : Prop := Rl off c r ∧ Rw off fz c r ∧ Rh off c r ∧ Rc off c r
theorem Im.cp {d s : Nat} {fz : List FP} {c c' : St} {r : Nat → Int32} (h : Im s fz c r) (k : Cpy d s c c') : Im d fz c' r := by
  obtain ⟨k1, k2, k3⟩ := k
  obtain ⟨⟨h0, h1, h2, h3, h4, h5, h6, h7, h8, h9, h10⟩, ⟨w1, w2, w3, w4⟩, ⟨⟨n, n1, n2, n3, n4⟩, g2, g3, g4, g5⟩, ⟨r1, r2⟩⟩ := h
  refine ⟨⟨?_, ?_, ?_, ?_, fun j hj => ?_, fun j hj => ?_, fun j hj => ?_, fun j hj => ?_, fun j hj => ?_, fun j hj => ?_, fun j hj => ?_⟩, ⟨?_, ?_, w3, fun i hi => ?_⟩, ⟨⟨n, n1, n2, ?_, fun q hq => ?_⟩, ?_, fun i hi => ?_, fun i hi => ?_, g5⟩, ⟨?_, fun i hi => ?_⟩⟩
  · rw [k1 108 (by decide)]; exact h0
  · rw [k1 204 (by decide)]; exact h1
  · rw [k1 109 (by decide)]; exact h2
  · rw [k1 110 (by decide)]; exact h3
  · rw [k2 (203, 4) (by decide) j hj]; exact h4 j hj
  · rw [k2 (200, 6) (by decide) j hj]; exact h5 j hj
  · rw [k2 (201, 6) (by decide) j hj]; exact h6 j hj
  · rw [k2 (202, 6) (by decide) j hj]; exact h7 j hj
  · rw [k2 (103, 6) (by decide) j hj]; exact h8 j hj
  · rw [k2 (104, 18) (by decide) j hj]; exact h9 j hj
  · rw [k2 (105, 36) (by decide) j hj]; exact h10 j hj
  · rw [k1 111 (by decide)]; exact w1
  · rw [k1 112 (by decide)]; exact w2
  · rw [k3 i hi]; exact w4 i hi
  · rw [k1 305 (by decide)]; exact n3
  · rw [k2 (300, 6) (by decide) q hq]; exact n4 q hq
  · rw [k1 306 (by decide)]; exact g2
  · rw [k2 (301, 6) (by decide) i hi]; exact g3 i hi
  · rw [k2 (302, 8) (by decide) i hi, k2 (303, 8) (by decide) i hi]; exact g4 i hi
  · rw [k1 404 (by decide)]; exact r1
  · rw [k2 (400, 8) (by decide) i hi, k2 (401, 8) (by decide) i hi, k2 (402, 8) (by decide) i hi]; exact r2 i hi
section Take
variable {fz : List FP} {c : St}
theorem tkw_15_1 : ∀ (k N : Nat) (st : St), k ≤ 6 → (∀ i, i < 6 → st.2.2.2.2 107 i = none ∨ ∃ q P, st.2.2.2.2 107 i = some q ∧ fzGet fz q = some P ∧ P.1 99 = q) → (∀ i, i < 6 - k → st.2.2.2.2 1507 i = st.2.2.2.2 107 i) → ∃ st', lp (fun _ _ => none) (fX6_takei__15_1_b80 fz) (N + 1 + k) (Int32.ofNat (6 - k)) st = some ((), st') ∧ st'.1 = (sI (sI (sI (sI (sI st 1508 (st.1 108)) 1509 (st.1 109)) 1510 (st.1 110)) 1511 (st.1 111)) 1512 (st.1 112)).1 ∧ st'.2.1 = st.2.1 ∧ st'.2.2.1 = st.2.2.1 ∧ st'.2.2.2.1 = st.2.2.2.1 ∧ (∀ k, k ≠ 1507 → st'.2.2.2.2 k = st.2.2.2.2 k) ∧ ∀ i, i < 6 → st'.2.2.2.2 1507 i = st.2.2.2.2 107 i := by
  intro k
  induction k with
  | zero =>
    intro N st _ hw hd
    refine ⟨sI (sI (sI (sI (sI st 1508 (st.1 108)) 1509 (st.1 109)) 1510 (st.1 110)) 1511 (st.1 111)) 1512 (st.1 112), ?_, rfl, rfl, rfl, rfl, fun _ _ => rfl, hd⟩
    rw [Nat.add_zero, lp_s]
    generalize lp (fun _ _ => none) (fX6_takei__15_1_b80 fz) N = kk
    unfold fX6_takei__15_1_b80
    rw [if_pos (show (6 : Int32) ≤ Int32.ofNat (6 - 0) by decide), lt_v, lt_v, lt_v, lt_v, lt_v]
    rfl
  | succ k ih =>
    intro N st hk hw hd
    have e1 : 6 - k = (6 - (k + 1)) + 1 := by omega
    have hi : 6 - (k + 1) < 6 := by omega
    have ih' := ih N
    rw [← Nat.add_assoc, lp_s]
    generalize 6 - (k + 1) = i at e1 hi hd ⊢
    rw [e1] at ih'
    generalize lp (fun _ _ => none) (fX6_takei__15_1_b80 fz) (N + 1 + k) = kk at ih' ⊢
    have hz : ∀ x : Option Nat, (sR st 1507 (va_up (st.2.2.2.2 1507) i x)).2.2.2.2 107 = st.2.2.2.2 107 := fun x => rfl
    have hq : ∀ x : Option Nat, (sR st 1507 (va_up (st.2.2.2.2 1507) i x)).2.2.2.2 1507 = va_up (st.2.2.2.2 1507) i x := fun x => rfl
    have step : fX6_takei__15_1_b80 fz kk (Int32.ofNat i) st = kk (Int32.ofNat (i + 1)) (sR st 1507 (va_up (st.2.2.2.2 1507) i (st.2.2.2.2 107 i))) := by
      unfold fX6_takei__15_1_b80
      rw [if_neg (show ¬ ((6 : Int32) ≤ Int32.ofNat i) from fun q => by have := (oN_le (a := 6) (by decide) (by omega)).mp q; omega), gi_N hi (by decide), oN_tn (show i < 2147483648 by omega)]
      rcases hw i hi with e | ⟨x, P, e, e2, e3⟩
      · rw [e]
        show gi _ 6 _ = _
        rw [gi_N hi (by decide), lt_v, lt_v, oN_s]
      · rw [e]
        show bs (fzGet fz x) _ = _
        rw [e2, bs_v, gi_N hi (by decide), lt_v, lt_v, oN_s, e3]
    obtain ⟨st', a1, a2, a3, a4, a5, a6, a7⟩ := ih' (sR st 1507 (va_up (st.2.2.2.2 1507) i (st.2.2.2.2 107 i))) (by omega) (by rw [hz]; exact hw) (by
      intro j hj
      rw [hz, hq, vup_v]
      by_cases e : j = i
      · rw [if_pos e, e]
      · rw [if_neg e]; exact hd j (by omega))
    refine ⟨st', step.trans a1, a2, a3, a4, a5, fun k hk => ?_, fun j hj => ?_⟩
    · rw [a6 k hk]
      show va_up st.2.2.2.2 1507 _ k = _
      rw [vup_v, if_neg hk]
    · rw [a7 j hj, hz]
theorem tkl_15_1 (hw : ∀ i, i < 6 → c.2.2.2.2 107 i = none ∨ ∃ q P, c.2.2.2.2 107 i = some q ∧ fzGet fz q = some P ∧ P.1 99 = q) : ∃ c', fX6_takei__15_1 fz c = some ((), c') ∧ Cpy 1400 0 c c' ∧ Cpf 1400 c c' := by
  have n0 : (0 : Int32).toNatClampNeg = 0 := rfl
  have n4 : (4 : Int32).toNatClampNeg = 4 := rfl
  have n6 : (6 : Int32).toNatClampNeg = 6 := rfl
  have n8 : (8 : Int32).toNatClampNeg = 8 := rfl
  have n18 : (18 : Int32).toNatClampNeg = 18 := rfl
  have n36 : (36 : Int32).toNatClampNeg = 36 := rfl
  have cp : ∀ (f g : Nat → Int32) n k, k < n → va_cpy f g 0 0 n k = f k := fun f g n k hk => by
    rw [cpy_v, if_pos (by omega), show 0 + (k - 0) = k by omega]
  unfold fX6_takei__15_1 fX0_takei__16_2 fX4_takei__17_3 fX1_takei__18_4
  simp only [n0, n4, n6, n8, n18, n36, lt_v, bd_v]
  generalize hX : sA (sA (sA (sI (sA (sA (sA (sI (sI (sA (sA (sA (sA (sI (sA (sA (sA (sA c 1600 _) 1601 _) 1602 _) 1603 _) 1604 _) 1700 _) 1701 _) 1702 _) 1703 _) 1705 _) 1706 _) 1800 _) 1801 _) 1802 _) 1804 _) 1503 _) 1504 _) 1505 _ = X
  have x1 : ∀ k, k ∈ [204, 305, 306, 404] → X.1 (k + 1400) = c.1 (k + 0) := by
    intro k hk
    have : k = 204 ∨ k = 305 ∨ k = 306 ∨ k = 404 := by simpa using hk
    rw [← hX]
    rcases this with e | e | e | e <;> subst e <;> rfl
  have x2 : ∀ k, k ≠ 1604 → k ≠ 1705 → k ≠ 1706 → k ≠ 1804 → X.1 k = c.1 k := by
    intro k h1 h2 h3 h4
    rw [← hX]
    show va_up (va_up (va_up (va_up c.1 1604 _) 1705 _) 1706 _) 1804 _ k = _
    rw [vup_v, if_neg h4, vup_v, if_neg h3, vup_v, if_neg h2, vup_v, if_neg h1]
  have x3 : ∀ p, p ∈ tkR → ∀ i, i < p.2 → X.2.2.1 (p.1 + 1400) i = c.2.2.1 (p.1 + 0) i := by
    intro p hp i hi
    have : p = (203, 4) ∨ p = (200, 6) ∨ p = (201, 6) ∨ p = (202, 6) ∨ p = (103, 6) ∨ p = (104, 18) ∨ p = (105, 36) ∨ p = (300, 6) ∨ p = (301, 6) ∨ p = (302, 8) ∨ p = (303, 8) ∨ p = (400, 8) ∨ p = (401, 8) ∨ p = (402, 8) := by simpa [tkR] using hp
    rw [← hX]
    rcases this with e | e | e | e | e | e | e | e | e | e | e | e | e | e <;> subst e <;> exact cp _ _ _ _ hi
  have x4 : ∀ k, (∀ p, p ∈ tkR → k ≠ p.1 + 1400) → X.2.2.1 k = c.2.2.1 k := by
    intro k hk
    rw [← hX]
    show va_up (va_up (va_up (va_up (va_up (va_up (va_up (va_up (va_up (va_up (va_up (va_up (va_up (va_up c.2.2.1 1600 _) 1601 _) 1602 _) 1603 _) 1700 _) 1701 _) 1702 _) 1703 _) 1800 _) 1801 _) 1802 _) 1503 _) 1504 _) 1505 _ k = _
    rw [vup_v, if_neg (show k ≠ 1505 from hk (105, 36) (by decide)), vup_v, if_neg (show k ≠ 1504 from hk (104, 18) (by decide)), vup_v, if_neg (show k ≠ 1503 from hk (103, 6) (by decide)), vup_v, if_neg (show k ≠ 1802 from hk (402, 8) (by decide)), vup_v, if_neg (show k ≠ 1801 from hk (401, 8) (by decide)), vup_v, if_neg (show k ≠ 1800 from hk (400, 8) (by decide)), vup_v, if_neg (show k ≠ 1703 from hk (303, 8) (by decide)), vup_v, if_neg (show k ≠ 1702 from hk (302, 8) (by decide)), vup_v, if_neg (show k ≠ 1701 from hk (301, 6) (by decide)), vup_v, if_neg (show k ≠ 1700 from hk (300, 6) (by decide)), vup_v, if_neg (show k ≠ 1603 from hk (203, 4) (by decide)), vup_v, if_neg (show k ≠ 1602 from hk (202, 6) (by decide)), vup_v, if_neg (show k ≠ 1601 from hk (201, 6) (by decide)), vup_v, if_neg (show k ≠ 1600 from hk (200, 6) (by decide))]
  have x5 : X.2.1 = c.2.1 := by rw [← hX]; rfl
  have x6 : X.2.2.2 = c.2.2.2 := by rw [← hX]; rfl
  obtain ⟨c', a1, a2, a3, a4, a5, a6, a7⟩ := tkw_15_1 (fz := fz) 6 5993 X (Nat.le_refl _) (by rw [x6]; exact hw) (fun i hi => absurd hi (by omega))
  refine ⟨c', a1, ⟨fun k hk => ?_, fun p hp i hi => ?_, fun i hi => ?_⟩, ⟨fun k hk => ?_, a3.trans x5, fun k hk => ?_, ?_, fun k hk => ?_⟩⟩
  · have : k = 108 ∨ k = 204 ∨ k = 109 ∨ k = 110 ∨ k = 111 ∨ k = 112 ∨ k = 305 ∨ k = 306 ∨ k = 404 := by simpa [tkI] using hk
    rw [a2]
    rcases this with e | e | e | e | e | e | e | e | e <;> subst e
    · exact x2 108 (by decide) (by decide) (by decide) (by decide)
    · exact x1 204 (by decide)
    · exact x2 109 (by decide) (by decide) (by decide) (by decide)
    · exact x2 110 (by decide) (by decide) (by decide) (by decide)
    · exact x2 111 (by decide) (by decide) (by decide) (by decide)
    · exact x2 112 (by decide) (by decide) (by decide) (by decide)
    · exact x1 305 (by decide)
    · exact x1 306 (by decide)
    · exact x1 404 (by decide)
  · rw [a4]; exact x3 p hp i hi
  · rw [a7 i hi, x6]
  · rw [a2]
    show va_up (va_up (va_up (va_up (va_up X.1 1508 _) 1509 _) 1510 _) 1511 _) 1512 _ k = _
    rw [vup_v, if_neg (hk 112 (by decide)), vup_v, if_neg (hk 111 (by decide)), vup_v, if_neg (hk 110 (by decide)), vup_v, if_neg (hk 109 (by decide)), vup_v, if_neg (hk 108 (by decide))]
    exact x2 k (hk 204 (by decide)) (hk 305 (by decide)) (hk 306 (by decide)) (hk 404 (by decide))
  · rw [a4]; exact x4 k hk
  · rw [a5, x6]
  · rw [a6 k hk, x6]
theorem tkw_1_15 : ∀ (k N : Nat) (st : St), k ≤ 6 → (∀ i, i < 6 → st.2.2.2.2 1507 i = none ∨ ∃ q P, st.2.2.2.2 1507 i = some q ∧ fzGet fz q = some P ∧ P.1 99 = q) → (∀ i, i < 6 - k → st.2.2.2.2 107 i = st.2.2.2.2 1507 i) → ∃ st', lp (fun _ _ => none) (fX6_takei__1_15_b80 fz) (N + 1 + k) (Int32.ofNat (6 - k)) st = some ((), st') ∧ st'.1 = (sI (sI (sI (sI (sI st 108 (st.1 1508)) 109 (st.1 1509)) 110 (st.1 1510)) 111 (st.1 1511)) 112 (st.1 1512)).1 ∧ st'.2.1 = st.2.1 ∧ st'.2.2.1 = st.2.2.1 ∧ st'.2.2.2.1 = st.2.2.2.1 ∧ (∀ k, k ≠ 107 → st'.2.2.2.2 k = st.2.2.2.2 k) ∧ ∀ i, i < 6 → st'.2.2.2.2 107 i = st.2.2.2.2 1507 i := by
  intro k
  induction k with
  | zero =>
    intro N st _ hw hd
    refine ⟨sI (sI (sI (sI (sI st 108 (st.1 1508)) 109 (st.1 1509)) 110 (st.1 1510)) 111 (st.1 1511)) 112 (st.1 1512), ?_, rfl, rfl, rfl, rfl, fun _ _ => rfl, hd⟩
    rw [Nat.add_zero, lp_s]
    generalize lp (fun _ _ => none) (fX6_takei__1_15_b80 fz) N = kk
    unfold fX6_takei__1_15_b80
    rw [if_pos (show (6 : Int32) ≤ Int32.ofNat (6 - 0) by decide), lt_v, lt_v, lt_v, lt_v, lt_v]
    rfl
  | succ k ih =>
    intro N st hk hw hd
    have e1 : 6 - k = (6 - (k + 1)) + 1 := by omega
    have hi : 6 - (k + 1) < 6 := by omega
    have ih' := ih N
    rw [← Nat.add_assoc, lp_s]
    generalize 6 - (k + 1) = i at e1 hi hd ⊢
    rw [e1] at ih'
    generalize lp (fun _ _ => none) (fX6_takei__1_15_b80 fz) (N + 1 + k) = kk at ih' ⊢
    have hz : ∀ x : Option Nat, (sR st 107 (va_up (st.2.2.2.2 107) i x)).2.2.2.2 1507 = st.2.2.2.2 1507 := fun x => rfl
    have hq : ∀ x : Option Nat, (sR st 107 (va_up (st.2.2.2.2 107) i x)).2.2.2.2 107 = va_up (st.2.2.2.2 107) i x := fun x => rfl
    have step : fX6_takei__1_15_b80 fz kk (Int32.ofNat i) st = kk (Int32.ofNat (i + 1)) (sR st 107 (va_up (st.2.2.2.2 107) i (st.2.2.2.2 1507 i))) := by
      unfold fX6_takei__1_15_b80
      rw [if_neg (show ¬ ((6 : Int32) ≤ Int32.ofNat i) from fun q => by have := (oN_le (a := 6) (by decide) (by omega)).mp q; omega), gi_N hi (by decide), oN_tn (show i < 2147483648 by omega)]
      rcases hw i hi with e | ⟨x, P, e, e2, e3⟩
      · rw [e]
        show gi _ 6 _ = _
        rw [gi_N hi (by decide), lt_v, lt_v, oN_s]
      · rw [e]
        show bs (fzGet fz x) _ = _
        rw [e2, bs_v, gi_N hi (by decide), lt_v, lt_v, oN_s, e3]
    obtain ⟨st', a1, a2, a3, a4, a5, a6, a7⟩ := ih' (sR st 107 (va_up (st.2.2.2.2 107) i (st.2.2.2.2 1507 i))) (by omega) (by rw [hz]; exact hw) (by
      intro j hj
      rw [hz, hq, vup_v]
      by_cases e : j = i
      · rw [if_pos e, e]
      · rw [if_neg e]; exact hd j (by omega))
    refine ⟨st', step.trans a1, a2, a3, a4, a5, fun k hk => ?_, fun j hj => ?_⟩
    · rw [a6 k hk]
      show va_up st.2.2.2.2 107 _ k = _
      rw [vup_v, if_neg hk]
    · rw [a7 j hj, hz]
theorem tkl_1_15 (hw : ∀ i, i < 6 → c.2.2.2.2 1507 i = none ∨ ∃ q P, c.2.2.2.2 1507 i = some q ∧ fzGet fz q = some P ∧ P.1 99 = q) : ∃ c', fX6_takei__1_15 fz c = some ((), c') ∧ Cpy 0 1400 c c' ∧ Cpf 0 c c' := by
  have n0 : (0 : Int32).toNatClampNeg = 0 := rfl
  have n4 : (4 : Int32).toNatClampNeg = 4 := rfl
  have n6 : (6 : Int32).toNatClampNeg = 6 := rfl
  have n8 : (8 : Int32).toNatClampNeg = 8 := rfl
  have n18 : (18 : Int32).toNatClampNeg = 18 := rfl
  have n36 : (36 : Int32).toNatClampNeg = 36 := rfl
  have cp : ∀ (f g : Nat → Int32) n k, k < n → va_cpy f g 0 0 n k = f k := fun f g n k hk => by
    rw [cpy_v, if_pos (by omega), show 0 + (k - 0) = k by omega]
  unfold fX6_takei__1_15 fX0_takei__2_16 fX4_takei__3_17 fX1_takei__4_18
  simp only [n0, n4, n6, n8, n18, n36, lt_v, bd_v]
  generalize hX : sA (sA (sA (sI (sA (sA (sA (sI (sI (sA (sA (sA (sA (sI (sA (sA (sA (sA c 200 _) 201 _) 202 _) 203 _) 204 _) 300 _) 301 _) 302 _) 303 _) 305 _) 306 _) 400 _) 401 _) 402 _) 404 _) 103 _) 104 _) 105 _ = X
  have x1 : ∀ k, k ∈ [204, 305, 306, 404] → X.1 (k + 0) = c.1 (k + 1400) := by
    intro k hk
    have : k = 204 ∨ k = 305 ∨ k = 306 ∨ k = 404 := by simpa using hk
    rw [← hX]
    rcases this with e | e | e | e <;> subst e <;> rfl
  have x2 : ∀ k, k ≠ 204 → k ≠ 305 → k ≠ 306 → k ≠ 404 → X.1 k = c.1 k := by
    intro k h1 h2 h3 h4
    rw [← hX]
    show va_up (va_up (va_up (va_up c.1 204 _) 305 _) 306 _) 404 _ k = _
    rw [vup_v, if_neg h4, vup_v, if_neg h3, vup_v, if_neg h2, vup_v, if_neg h1]
  have x3 : ∀ p, p ∈ tkR → ∀ i, i < p.2 → X.2.2.1 (p.1 + 0) i = c.2.2.1 (p.1 + 1400) i := by
    intro p hp i hi
    have : p = (203, 4) ∨ p = (200, 6) ∨ p = (201, 6) ∨ p = (202, 6) ∨ p = (103, 6) ∨ p = (104, 18) ∨ p = (105, 36) ∨ p = (300, 6) ∨ p = (301, 6) ∨ p = (302, 8) ∨ p = (303, 8) ∨ p = (400, 8) ∨ p = (401, 8) ∨ p = (402, 8) := by simpa [tkR] using hp
    rw [← hX]
    rcases this with e | e | e | e | e | e | e | e | e | e | e | e | e | e <;> subst e <;> exact cp _ _ _ _ hi
  have x4 : ∀ k, (∀ p, p ∈ tkR → k ≠ p.1 + 0) → X.2.2.1 k = c.2.2.1 k := by
    intro k hk
    rw [← hX]
    show va_up (va_up (va_up (va_up (va_up (va_up (va_up (va_up (va_up (va_up (va_up (va_up (va_up (va_up c.2.2.1 200 _) 201 _) 202 _) 203 _) 300 _) 301 _) 302 _) 303 _) 400 _) 401 _) 402 _) 103 _) 104 _) 105 _ k = _
    rw [vup_v, if_neg (show k ≠ 105 from hk (105, 36) (by decide)), vup_v, if_neg (show k ≠ 104 from hk (104, 18) (by decide)), vup_v, if_neg (show k ≠ 103 from hk (103, 6) (by decide)), vup_v, if_neg (show k ≠ 402 from hk (402, 8) (by decide)), vup_v, if_neg (show k ≠ 401 from hk (401, 8) (by decide)), vup_v, if_neg (show k ≠ 400 from hk (400, 8) (by decide)), vup_v, if_neg (show k ≠ 303 from hk (303, 8) (by decide)), vup_v, if_neg (show k ≠ 302 from hk (302, 8) (by decide)), vup_v, if_neg (show k ≠ 301 from hk (301, 6) (by decide)), vup_v, if_neg (show k ≠ 300 from hk (300, 6) (by decide)), vup_v, if_neg (show k ≠ 203 from hk (203, 4) (by decide)), vup_v, if_neg (show k ≠ 202 from hk (202, 6) (by decide)), vup_v, if_neg (show k ≠ 201 from hk (201, 6) (by decide)), vup_v, if_neg (show k ≠ 200 from hk (200, 6) (by decide))]
  have x5 : X.2.1 = c.2.1 := by rw [← hX]; rfl
  have x6 : X.2.2.2 = c.2.2.2 := by rw [← hX]; rfl
  obtain ⟨c', a1, a2, a3, a4, a5, a6, a7⟩ := tkw_1_15 (fz := fz) 6 5993 X (Nat.le_refl _) (by rw [x6]; exact hw) (fun i hi => absurd hi (by omega))
  refine ⟨c', a1, ⟨fun k hk => ?_, fun p hp i hi => ?_, fun i hi => ?_⟩, ⟨fun k hk => ?_, a3.trans x5, fun k hk => ?_, ?_, fun k hk => ?_⟩⟩
  · have : k = 108 ∨ k = 204 ∨ k = 109 ∨ k = 110 ∨ k = 111 ∨ k = 112 ∨ k = 305 ∨ k = 306 ∨ k = 404 := by simpa [tkI] using hk
    rw [a2]
    rcases this with e | e | e | e | e | e | e | e | e <;> subst e
    · exact x2 1508 (by decide) (by decide) (by decide) (by decide)
    · exact x1 204 (by decide)
    · exact x2 1509 (by decide) (by decide) (by decide) (by decide)
    · exact x2 1510 (by decide) (by decide) (by decide) (by decide)
    · exact x2 1511 (by decide) (by decide) (by decide) (by decide)
    · exact x2 1512 (by decide) (by decide) (by decide) (by decide)
    · exact x1 305 (by decide)
    · exact x1 306 (by decide)
    · exact x1 404 (by decide)
  · rw [a4]; exact x3 p hp i hi
  · rw [a7 i hi, x6]
  · rw [a2]
    show va_up (va_up (va_up (va_up (va_up X.1 108 _) 109 _) 110 _) 111 _) 112 _ k = _
    rw [vup_v, if_neg (hk 112 (by decide)), vup_v, if_neg (hk 111 (by decide)), vup_v, if_neg (hk 110 (by decide)), vup_v, if_neg (hk 109 (by decide)), vup_v, if_neg (hk 108 (by decide))]
    exact x2 k (hk 204 (by decide)) (hk 305 (by decide)) (hk 306 (by decide)) (hk 404 (by decide))
  · rw [a4]; exact x4 k hk
  · rw [a5, x6]
  · rw [a6 k hk, x6]
end Take
