/-! T1, both sides at their start are alike -/
def adI (h0 : Nat) (u : Nat → Nat) : Nat → Nat := fun q => if q = 99 then h0 else if q = 199 then u 0 else if q = 299 then u 1 else if q = 200 then u 2 else if q = 201 then u 3 else if q = 202 then u 4 else if q = 203 then u 5 else if q = 399 then u 6 else if q = 300 then u 7 else if q = 301 then u 8 else if q = 302 then u 9 else if q = 303 then u 10 else if q = 304 then u 11 else if q = 499 then u 12 else if q = 400 then u 13 else if q = 401 then u 14 else if q = 402 then u 15 else if q = 403 then u 16 else if q = 103 then u 17 else if q = 104 then u 18 else if q = 105 then u 19 else if q = 106 then u 20 else if q = 107 then u 21 else if q = 1 then u 22 else if q = 599 then u 23 else if q = 500 then u 24 else if q = 501 then u 25 else if q = 502 then u 26 else if q = 503 then u 27 else if q = 699 then u 28 else if q = 600 then u 29 else if q = 601 then u 30 else if q = 602 then u 31 else if q = 603 then u 32 else if q = 799 then u 33 else if q = 899 then u 34 else if q = 801 then u 35 else if q = 802 then u 36 else if q = 803 then u 37 else if q = 999 then u 38 else if q = 902 then u 39 else if q = 903 then u 40 else if q = 1099 then u 41 else if q = 1299 then u 42 else if q = 1200 then u 43 else if q = 1201 then u 44 else if q = 1202 then u 45 else if q = 1203 then u 46 else if q = 1004 then u 47 else if q = 1005 then u 48 else if q = 1199 then u 49 else if q = 1399 then u 50 else if q = 1300 then u 51 else if q = 1301 then u 52 else if q = 1302 then u 53 else if q = 1303 then u 54 else if q = 1499 then u 55 else if q = 1400 then u 56 else if q = 1401 then u 57 else if q = 1402 then u 58 else if q = 1403 then u 59 else if q = 8 then u 60 else 0
def cSt : St := (fun q => if q = 11 then -1 else if q = 12 then -1 else if q = 109 then 500 else if q = 112 then -1 else 0, fun _ => 0, fun q => if q = 203 then filled 0 4 50 (fun _ => 0) else if q = 104 then filled 12 18 1 (filled 0 12 5 (fun _ => 0)) else fun _ => 0, fun _ _ => 0, fun _ _ => none)
abbrev cPl : List Nat := [0, 23, 61, 1, 18, 19, 20, 21, 22, 2, 3, 4, 5, 6, 7, 8, 9, 10, 11, 12, 13, 14, 15, 16, 17, 24, 25, 26, 27, 28, 29, 30, 31, 32, 33, 34, 35, 36, 37, 38, 39, 40, 41, 42, 48, 49, 50, 43, 44, 45, 46, 47, 51, 52, 53, 54, 55, 56, 57, 58, 59, 60]
set_option maxRecDepth 100000 in
theorem cx_I (cy : Nat → ClassId) (h0 : Nat) (u : Nat → Nat) : cPl.filterMap (fun i => (wX11_init cy h0 u)[i]?) = cx cy (adI h0 u) [] cSt := rfl
set_option maxRecDepth 100000 in
theorem cx_I2 (cy : Nat → ClassId) (h0 : Nat) (u : Nat → Nat) : cPl.map (fun i => (wX11_init cy h0 u)[i]?) = (cx cy (adI h0 u) [] cSt).map some := rfl
def rI (k : Nat) : Int32 := if k = 5 then -1 else if k = 7 then 500 else if 9 ≤ k ∧ k < 13 then 50 else if 37 ≤ k ∧ k < 49 then 5 else if 49 ≤ k ∧ k < 55 then 1 else 0
set_option maxRecDepth 100000 in
theorem rI_all : ∀ k, k < 150 → mSt1.2.2.1 3 k = rI k := by decide +kernel
def nbD (b : Nat) (x : Int32) : Prop := x.toNatClampNeg ≤ b ∧ x = Int32.ofNat x.toNatClampNeg
theorem nbD.nb {b : Nat} {x : Int32} (h : nbD b x) : nb b x := ⟨_, h.1, h.2⟩
set_option maxRecDepth 100000 in
theorem i_tape : ∀ i, i < 400 → mSt1.2.2.1 12 i = 0 := by decide +kernel
set_option maxRecDepth 100000 in
theorem i_wd : wdM mSt1 := ⟨by decide +kernel, by decide +kernel, by decide +kernel, by decide +kernel⟩
theorem i_l1 : ∀ i, i < 4 → cSt.2.2.1 203 i = rI (9 + i) ∧ (rI (9 + i)).toNatClampNeg ≤ 100 ∧ rI (9 + i) = Int32.ofNat (rI (9 + i)).toNatClampNeg := by decide +kernel
theorem i_l2 : ∀ i, i < 18 → cSt.2.2.1 104 i = rI (37 + i) ∧ (rI (37 + i)).toNatClampNeg ≤ (if i < 12 then 10 else 99) ∧ rI (37 + i) = Int32.ofNat (rI (37 + i)).toNatClampNeg := by decide +kernel
theorem i_z : ∀ k, k < 150 → (k = 0 ∨ k = 1 ∨ k = 2 ∨ k = 3 ∨ k = 4 ∨ k = 6 ∨ k = 8 ∨ (13 ≤ k ∧ k < 37) ∨ 55 ≤ k) → rI k = 0 := by decide +kernel
theorem nb0 (b : Nat) : nb b 0 := ⟨0, Nat.zero_le _, rfl⟩
theorem i_RR : RR [] cSt mSt1 := by
  have z : ∀ k, k < 150 → (k = 0 ∨ k = 1 ∨ k = 2 ∨ k = 3 ∨ k = 4 ∨ k = 6 ∨ k = 8 ∨ (13 ≤ k ∧ k < 37) ∨ 55 ≤ k) → mSt1.2.2.1 3 k = 0 := fun k h1 h2 => (rI_all k h1).trans (i_z k h1 h2)
  have e5 : mSt1.2.2.1 3 5 = -1 := rI_all 5 (by decide)
  have e7 : mSt1.2.2.1 3 7 = 500 := rI_all 7 (by decide)
  have zz : ∀ (b k : Nat), k < 150 → (k = 0 ∨ k = 1 ∨ k = 2 ∨ k = 3 ∨ k = 4 ∨ k = 6 ∨ k = 8 ∨ (13 ≤ k ∧ k < 37) ∨ 55 ≤ k) → (0 : Int32) = mSt1.2.2.1 3 k ∧ nb b (mSt1.2.2.1 3 k) := fun b k h1 h2 => by
    rw [z k h1 h2]; exact ⟨rfl, nb0 b⟩
  refine ⟨⟨⟨?_, ?_, ?_, ?_, ?_, ?_, ?_, ?_, ?_, ?_, ?_⟩, ⟨?_, ?_, ?_, ?_⟩, ?_⟩, ⟨?_, ?_⟩, ⟨0, by decide, rfl, ?_, ?_⟩, ⟨⟨0, by decide, ?_, rfl, fun _ _ => rfl⟩, ?_, ?_, ?_, ?_⟩, ⟨?_, ?_⟩, Ru.z rfl ?_, Or.inl ⟨rfl, ?_⟩, ⟨?_, ?_, ?_⟩, i_wd⟩
  · exact zz 6 0 (by omega) (by omega)
  · exact zz 999 6 (by omega) (by omega)
  · rw [e7]; exact ⟨rfl, 500, by decide, rfl⟩
  · exact zz 9 8 (by omega) (by omega)
  · intro i hi
    obtain ⟨q1, q2⟩ := i_l1 i hi
    rw [rI_all (9 + i) (by omega)]
    exact ⟨q1, nbD.nb q2⟩
  · exact fun i hi => zz 99 (13 + i) (by omega) (by omega)
  · exact fun i hi => zz 63 (19 + i) (by omega) (by omega)
  · exact fun i hi => zz 1 (25 + i) (by omega) (by omega)
  · exact fun i hi => zz 3 (31 + i) (by omega) (by omega)
  · intro i hi
    obtain ⟨q1, q2⟩ := i_l2 i hi
    rw [rI_all (37 + i) (by omega)]
    exact ⟨q1, nbD.nb q2⟩
  · exact fun i hi => zz 99 (55 + i) (by omega) (by omega)
  · exact zz 6 4 (by omega) (by omega)
  · rw [e5]; rfl
  · exact Or.inl e5
  · intro i hi
    refine ⟨fun h => ?_, Or.inl rfl⟩
    rw [z 4 (by omega) (by omega)] at h
    exact absurd h (by simp)
  · decide +kernel
  · decide +kernel
  · decide +kernel
  · decide +kernel
  · intro i hi
    rw [i_tape i hi]
    exact ⟨rfl, nb0 _⟩
  · rw [z 2 (by omega) (by omega)]; rfl
  · exact zz 8 3 (by omega) (by omega)
  · exact fun i hi => zz 9 (101 + i) (by omega) (by omega)
  · exact fun i hi => ⟨zz 5 (107 + 2 * i) (by omega) (by omega), zz 9 (108 + 2 * i) (by omega) (by omega)⟩
  · exact fun i hi => (zz 63 (91 + i) (by omega) (by omega)).2
  · exact zz 8 1 (by omega) (by omega)
  · exact fun i hi => ⟨zz 99 (123 + 3 * i) (by omega) (by omega), zz 10 (124 + 3 * i) (by omega) (by omega), zz 999 (125 + 3 * i) (by omega) (by omega)⟩
  · decide +kernel
  · decide +kernel
  · decide +kernel
  · decide +kernel
  · decide +kernel
theorem i_I0 : IRk [] 0 none cSt mSt1 := ⟨rfl, by decide +kernel⟩
theorem i_I1 : IRk [] 1 none cSt mSt1 := ⟨rfl, by decide +kernel⟩
