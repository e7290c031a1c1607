/-! T2, camps taken aside and put back: written by mk99m.py -/
section Camps
variable {fz : List FP} {c : St} {r : Nat → Int32}
def Cm12 (c : St) (r : Nat → Int32) : Prop := c.1 1204 = r 6 ∧ (∀ i, i < 4 → c.2.2.1 1203 i = r (9 + i)) ∧ ∀ i, i < 6 → c.2.2.1 1200 i = r (13 + i) ∧ c.2.2.1 1201 i = r (19 + i) ∧ c.2.2.1 1202 i = r (25 + i)
theorem take12 (h : Rl 0 c r) : ∃ c', fX0_take__12_2 fz c = some ((), c') ∧ Cm12 c' r ∧ fr [1204] [] [1200, 1201, 1202, 1203] c c' := by
  obtain ⟨-, h1, -, -, h4, h5, h6, h7, -⟩ := h
  have n0 : (0 : Int32).toNatClampNeg = 0 := rfl
  have n6 : (6 : Int32).toNatClampNeg = 6 := rfl
  have n4 : (4 : Int32).toNatClampNeg = 4 := rfl
  have cp : ∀ (f g : Nat → Int32) n k, k < n → va_cpy f g 0 0 n k = f k := fun f g n k hk => by
    rw [cpy_v, if_pos (by omega), show 0 + (k - 0) = k by omega]
  unfold fX0_take__12_2
  simp only [n0, n6, n4, lt_v]
  refine ⟨_, rfl, ⟨?_, fun i hi => ?_, fun i hi => ⟨?_, ?_, ?_⟩⟩, (((((fr.sA (by decide)).tr (fr.sA (by decide))).tr (fr.sA (by decide))).tr (fr.sA (by decide))).tr (fr.sI (by decide)))⟩
  · exact h1.1
  · show va_cpy (c.2.2.1 203) (c.2.2.1 1203) 0 0 4 i = _
    rw [cp _ _ _ _ hi]; exact (h4 i hi).1
  · show va_cpy (c.2.2.1 200) (c.2.2.1 1200) 0 0 6 i = _
    rw [cp _ _ _ _ hi]; exact (h5 i hi).1
  · show va_cpy (c.2.2.1 201) (c.2.2.1 1201) 0 0 6 i = _
    rw [cp _ _ _ _ hi]; exact (h6 i hi).1
  · show va_cpy (c.2.2.1 202) (c.2.2.1 1202) 0 0 6 i = _
    rw [cp _ _ _ _ hi]; exact (h7 i hi).1
theorem back12 (h : Cm12 c r) : ∃ c', fX0_take__2_12 fz c = some ((), c') ∧ (c'.1 204 = r 6 ∧ (∀ i, i < 4 → c'.2.2.1 203 i = r (9 + i)) ∧ ∀ i, i < 6 → c'.2.2.1 200 i = r (13 + i) ∧ c'.2.2.1 201 i = r (19 + i) ∧ c'.2.2.1 202 i = r (25 + i)) ∧ fr [204] [] [200, 201, 202, 203] c c' := by
  obtain ⟨h1, h4, h5⟩ := h
  have n0 : (0 : Int32).toNatClampNeg = 0 := rfl
  have n6 : (6 : Int32).toNatClampNeg = 6 := rfl
  have n4 : (4 : Int32).toNatClampNeg = 4 := rfl
  have cp : ∀ (f g : Nat → Int32) n k, k < n → va_cpy f g 0 0 n k = f k := fun f g n k hk => by
    rw [cpy_v, if_pos (by omega), show 0 + (k - 0) = k by omega]
  unfold fX0_take__2_12
  simp only [n0, n6, n4, lt_v]
  refine ⟨_, rfl, ⟨?_, fun i hi => ?_, fun i hi => ⟨?_, ?_, ?_⟩⟩, (((((fr.sA (by decide)).tr (fr.sA (by decide))).tr (fr.sA (by decide))).tr (fr.sA (by decide))).tr (fr.sI (by decide)))⟩
  · exact h1
  · show va_cpy (c.2.2.1 1203) (c.2.2.1 203) 0 0 4 i = _
    rw [cp _ _ _ _ hi]; exact h4 i hi
  · show va_cpy (c.2.2.1 1200) (c.2.2.1 200) 0 0 6 i = _
    rw [cp _ _ _ _ hi]; exact (h5 i hi).1
  · show va_cpy (c.2.2.1 1201) (c.2.2.1 201) 0 0 6 i = _
    rw [cp _ _ _ _ hi]; exact (h5 i hi).2.1
  · show va_cpy (c.2.2.1 1202) (c.2.2.1 202) 0 0 6 i = _
    rw [cp _ _ _ _ hi]; exact (h5 i hi).2.2
def Cm13 (c : St) (r : Nat → Int32) : Prop := c.1 1304 = r 6 ∧ (∀ i, i < 4 → c.2.2.1 1303 i = r (9 + i)) ∧ ∀ i, i < 6 → c.2.2.1 1300 i = r (13 + i) ∧ c.2.2.1 1301 i = r (19 + i) ∧ c.2.2.1 1302 i = r (25 + i)
theorem take13 (h : Rl 0 c r) : ∃ c', fX0_take__13_2 fz c = some ((), c') ∧ Cm13 c' r ∧ fr [1304] [] [1300, 1301, 1302, 1303] c c' := by
  obtain ⟨-, h1, -, -, h4, h5, h6, h7, -⟩ := h
  have n0 : (0 : Int32).toNatClampNeg = 0 := rfl
  have n6 : (6 : Int32).toNatClampNeg = 6 := rfl
  have n4 : (4 : Int32).toNatClampNeg = 4 := rfl
  have cp : ∀ (f g : Nat → Int32) n k, k < n → va_cpy f g 0 0 n k = f k := fun f g n k hk => by
    rw [cpy_v, if_pos (by omega), show 0 + (k - 0) = k by omega]
  unfold fX0_take__13_2
  simp only [n0, n6, n4, lt_v]
  refine ⟨_, rfl, ⟨?_, fun i hi => ?_, fun i hi => ⟨?_, ?_, ?_⟩⟩, (((((fr.sA (by decide)).tr (fr.sA (by decide))).tr (fr.sA (by decide))).tr (fr.sA (by decide))).tr (fr.sI (by decide)))⟩
  · exact h1.1
  · show va_cpy (c.2.2.1 203) (c.2.2.1 1303) 0 0 4 i = _
    rw [cp _ _ _ _ hi]; exact (h4 i hi).1
  · show va_cpy (c.2.2.1 200) (c.2.2.1 1300) 0 0 6 i = _
    rw [cp _ _ _ _ hi]; exact (h5 i hi).1
  · show va_cpy (c.2.2.1 201) (c.2.2.1 1301) 0 0 6 i = _
    rw [cp _ _ _ _ hi]; exact (h6 i hi).1
  · show va_cpy (c.2.2.1 202) (c.2.2.1 1302) 0 0 6 i = _
    rw [cp _ _ _ _ hi]; exact (h7 i hi).1
theorem back13 (h : Cm13 c r) : ∃ c', fX0_take__2_13 fz c = some ((), c') ∧ (c'.1 204 = r 6 ∧ (∀ i, i < 4 → c'.2.2.1 203 i = r (9 + i)) ∧ ∀ i, i < 6 → c'.2.2.1 200 i = r (13 + i) ∧ c'.2.2.1 201 i = r (19 + i) ∧ c'.2.2.1 202 i = r (25 + i)) ∧ fr [204] [] [200, 201, 202, 203] c c' := by
  obtain ⟨h1, h4, h5⟩ := h
  have n0 : (0 : Int32).toNatClampNeg = 0 := rfl
  have n6 : (6 : Int32).toNatClampNeg = 6 := rfl
  have n4 : (4 : Int32).toNatClampNeg = 4 := rfl
  have cp : ∀ (f g : Nat → Int32) n k, k < n → va_cpy f g 0 0 n k = f k := fun f g n k hk => by
    rw [cpy_v, if_pos (by omega), show 0 + (k - 0) = k by omega]
  unfold fX0_take__2_13
  simp only [n0, n6, n4, lt_v]
  refine ⟨_, rfl, ⟨?_, fun i hi => ?_, fun i hi => ⟨?_, ?_, ?_⟩⟩, (((((fr.sA (by decide)).tr (fr.sA (by decide))).tr (fr.sA (by decide))).tr (fr.sA (by decide))).tr (fr.sI (by decide)))⟩
  · exact h1
  · show va_cpy (c.2.2.1 1303) (c.2.2.1 203) 0 0 4 i = _
    rw [cp _ _ _ _ hi]; exact h4 i hi
  · show va_cpy (c.2.2.1 1300) (c.2.2.1 200) 0 0 6 i = _
    rw [cp _ _ _ _ hi]; exact (h5 i hi).1
  · show va_cpy (c.2.2.1 1301) (c.2.2.1 201) 0 0 6 i = _
    rw [cp _ _ _ _ hi]; exact (h5 i hi).2.1
  · show va_cpy (c.2.2.1 1302) (c.2.2.1 202) 0 0 6 i = _
    rw [cp _ _ _ _ hi]; exact (h5 i hi).2.2
def Cm14 (c : St) (r : Nat → Int32) : Prop := c.1 1404 = r 6 ∧ (∀ i, i < 4 → c.2.2.1 1403 i = r (9 + i)) ∧ ∀ i, i < 6 → c.2.2.1 1400 i = r (13 + i) ∧ c.2.2.1 1401 i = r (19 + i) ∧ c.2.2.1 1402 i = r (25 + i)
theorem take14 (h : Rl 0 c r) : ∃ c', fX0_take__14_2 fz c = some ((), c') ∧ Cm14 c' r ∧ fr [1404] [] [1400, 1401, 1402, 1403] c c' := by
  obtain ⟨-, h1, -, -, h4, h5, h6, h7, -⟩ := h
  have n0 : (0 : Int32).toNatClampNeg = 0 := rfl
  have n6 : (6 : Int32).toNatClampNeg = 6 := rfl
  have n4 : (4 : Int32).toNatClampNeg = 4 := rfl
  have cp : ∀ (f g : Nat → Int32) n k, k < n → va_cpy f g 0 0 n k = f k := fun f g n k hk => by
    rw [cpy_v, if_pos (by omega), show 0 + (k - 0) = k by omega]
  unfold fX0_take__14_2
  simp only [n0, n6, n4, lt_v]
  refine ⟨_, rfl, ⟨?_, fun i hi => ?_, fun i hi => ⟨?_, ?_, ?_⟩⟩, (((((fr.sA (by decide)).tr (fr.sA (by decide))).tr (fr.sA (by decide))).tr (fr.sA (by decide))).tr (fr.sI (by decide)))⟩
  · exact h1.1
  · show va_cpy (c.2.2.1 203) (c.2.2.1 1403) 0 0 4 i = _
    rw [cp _ _ _ _ hi]; exact (h4 i hi).1
  · show va_cpy (c.2.2.1 200) (c.2.2.1 1400) 0 0 6 i = _
    rw [cp _ _ _ _ hi]; exact (h5 i hi).1
  · show va_cpy (c.2.2.1 201) (c.2.2.1 1401) 0 0 6 i = _
    rw [cp _ _ _ _ hi]; exact (h6 i hi).1
  · show va_cpy (c.2.2.1 202) (c.2.2.1 1402) 0 0 6 i = _
    rw [cp _ _ _ _ hi]; exact (h7 i hi).1
/-- the land is as it was, once the camp is put back -/
theorem Rl.back {c' : St} (h : Rl 0 c r) (k : c'.1 204 = r 6 ∧ (∀ i, i < 4 → c'.2.2.1 203 i = r (9 + i)) ∧ ∀ i, i < 6 → c'.2.2.1 200 i = r (13 + i) ∧ c'.2.2.1 201 i = r (19 + i) ∧ c'.2.2.1 202 i = r (25 + i)) (i1 : ∀ k, k ∈ [108, 109, 110] → c'.1 k = c.1 k) (a1 : ∀ k, k ∈ [103, 104, 105] → c'.2.2.1 k = c.2.2.1 k) : Rl 0 c' r := by
  obtain ⟨h0, h1, h2, h3, h4, h5, h6, h7, h8, h9, h10⟩ := h
  refine ⟨?_, ⟨k.1, h1.2⟩, ?_, ?_, fun j hj => ⟨k.2.1 j hj, (h4 j hj).2⟩, fun j hj => ⟨(k.2.2 j hj).1, (h5 j hj).2⟩, fun j hj => ⟨(k.2.2 j hj).2.1, (h6 j hj).2⟩, fun j hj => ⟨(k.2.2 j hj).2.2, (h7 j hj).2⟩, fun j hj => ?_, fun j hj => ?_, fun j hj => ?_⟩
  · rw [i1 (108 + 0) (by decide)]; exact h0
  · rw [i1 (109 + 0) (by decide)]; exact h2
  · rw [i1 (110 + 0) (by decide)]; exact h3
  · rw [a1 (103 + 0) (by decide)]; exact h8 j hj
  · rw [a1 (104 + 0) (by decide)]; exact h9 j hj
  · rw [a1 (105 + 0) (by decide)]; exact h10 j hj
end Camps
/-- the log, where only what stands behind it has changed -/
theorem Ru.b {c c' m m' : St} (h : Ru c m) (c1 : c'.1 905 = c.1 905) (c2 : c'.2.2.1 902 = c.2.2.1 902) (m1 : m'.1 8 = m.1 8) (m6 : ∀ j, j < 400 → m'.2.2.1 6 j = m.2.2.1 6 j) (m7 : m'.2.2.1 7 = m.2.2.1 7) (e : ∀ k, k < 37 → m'.2.2.1 3 k = m.2.2.1 3 k) : Ru c' m' := by
  obtain ⟨n, h1, h2, h3, h4⟩ := h
  have se : ∀ j i, j ≤ n → i < 25 → sn m' n j i = sn m n j i := by
    intro j i hj hi
    unfold sn
    by_cases z : j = n
    · rw [if_pos z, if_pos z, e (6 + i) (by omega)]
    · rw [if_neg z, if_neg z, m6 _ (by omega)]
  refine ⟨n, h1, by rw [c1]; exact h2, by rw [m1]; exact h3, fun j hj => ?_⟩
  obtain ⟨⟨f, f1, f2, f3, f4⟩, h5, h6⟩ := h4 j hj
  rw [c2, m7]
  refine ⟨⟨f, f1, ?_, f3, fun i hi => ?_⟩, h5, fun i hi => ?_⟩
  · rw [e 0 (by omega)]; exact f2
  · rw [se j i (by omega) hi, e (31 + f) (by omega), pt_e (se (j + 1) i (by omega) hi)]; exact f4 i hi
  · rw [se j i (by omega) hi]; exact h6 i hi
