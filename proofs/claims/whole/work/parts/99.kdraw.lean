/-! T2, sieges: draws and one round -/
theorem upd_self {r : Nat → Int32} {k : Nat} : upd r k (r k) = r := by
  funext j
  rw [upd_v]
  split
  · rename_i e; rw [e]
  · rfl
theorem l_mod {a b : Nat} (ha : a < 2 ^ 62) (hb : b < 2 ^ 62) (hb0 : 0 < b) : Int64.ofNat a - Int64.ofNat a / Int64.ofNat b * Int64.ofNat b = Int64.ofNat (a % b) := by
  have h1 : a / b * b ≤ a := Nat.div_mul_le_self a b
  rw [← Int64.ofNat_div (by omega) (by omega), ← Int64.ofNat_mul, ← Int64.ofNat_sub _ _ h1]
  congr 1
  have := Nat.div_add_mod a b
  rw [Nat.mul_comm] at this
  omega
section Draw
variable {fz : List FP} {c m : St}
theorem draw_both {x n : Nat} (hx : x < 1000003) (hn1 : 1 ≤ n) (hn2 : n ≤ 99) (h1 : c.2.1 1105 = Int64.ofNat x) (h2 : m.2.1 50 = Int64.ofNat x) : ∃ y, y < 1000003 ∧ fX3_draw (Int32.ofNat n) fz c = some (Int32.ofNat (y % n), sJ c 1105 (Int64.ofNat y)) ∧ fX12_draw (Int32.ofNat n) m = some (Int32.ofNat (y % n), sJ m 50 (Int64.ofNat y)) := by
  have hy : (x * 1103 + 12345) % 1000003 < 1000003 := Nat.mod_lt _ (by decide)
  have e0 : Int64.ofNat x * (1103 : Int64) + (12345 : Int64) = Int64.ofNat (x * 1103 + 12345) := by rw [show (1103 : Int64) = Int64.ofNat 1103 from rfl, show (12345 : Int64) = Int64.ofNat 12345 from rfl, ← Int64.ofNat_mul, ← Int64.ofNat_add]
  have e1 : Int64.ofNat (x * 1103 + 12345) - Int64.ofNat (x * 1103 + 12345) / (1000003 : Int64) * (1000003 : Int64) = Int64.ofNat ((x * 1103 + 12345) % 1000003) := l_mod (b := 1000003) (by omega) (by decide) (by decide)
  refine ⟨(x * 1103 + 12345) % 1000003, hy, ?_, ?_⟩
  · unfold fX3_draw fX3_draw_b36
    generalize (x * 1103 + 12345) % 1000003 = y at hy e1 ⊢
    have t : (sJ c 1105 (Int64.ofNat y)).2.1 1105 = Int64.ofNat y := rfl
    have hm : y % n < n := Nat.mod_lt _ (by omega)
    rw [h1, e0, e1, lt_v, if_pos (show (0 : Int32) < Int32.ofNat n from (oN_lt (a := 0) (by decide) (by omega)).mpr (by omega)), t, o64 (by omega), gzl_ok (fun z => by
      have := congrArg Int64.toInt z
      rw [Int64.toInt_ofNat_of_lt (by omega)] at this
      have z0 : (0 : Int64).toInt = 0 := by decide
      omega), l_mod (by omega) (by omega) (by omega), o32 (by omega)]
  · unfold fX12_draw
    generalize (x * 1103 + 12345) % 1000003 = y at hy e1 ⊢
    have t : (sJ m 50 (Int64.ofNat y)).2.1 50 = Int64.ofNat y := rfl
    have hm : y % n < n := Nat.mod_lt _ (by omega)
    rw [h2, e0, e1, lt_v, t, o64 (by omega), gzl_ok (fun z => by
      have := congrArg Int64.toInt z
      rw [Int64.toInt_ofNat_of_lt (by omega)] at this
      have z0 : (0 : Int64).toInt = 0 := by decide
      omega), l_mod (by omega) (by omega) (by omega), o32 (by omega)]
theorem has_1 {f n : Nat} (h108 : c.1 108 = Int32.ofNat n) (hn : n ≤ 6) (hf : f < n) : fX6_has (Int32.ofNat f) fz c = some (1, c) := by
  have e1 : Int32.ofNat n - 1 = Int32.ofNat (n - 1) := by rw [show (1 : Int32) = Int32.ofNat 1 from rfl, oN_sub (by omega)]
  unfold fX6_has
  rw [c_within, bs_v, h108, e1, if_pos (show (0 : Int32) ≤ Int32.ofNat f ∧ Int32.ofNat f ≤ Int32.ofNat (n - 1) from ⟨oN_nn (by omega), (oN_le (by omega) (by omega)).mpr (by omega)⟩), gb_1]
/-- a deed is refused at a taken fort -/
theorem rf_taken {d f n : Nat} {v : Int32} (hd : d ≤ 3) (h108 : c.1 108 = Int32.ofNat n) (hn : n ≤ 6) (hf : f < n) (hv : leastF d ≤ v ∧ v ≤ mostF d) (ht : c.2.2.1 202 f = 1) : fX2_refusalOf (Int32.ofNat d) (Int32.ofNat f) v fz c = some (-3, c) := by
  unfold fX2_refusalOf
  rw [c_within, bs_v, if_pos (show (0 : Int32) ≤ Int32.ofNat d ∧ Int32.ofNat d ≤ 3 from ⟨oN_nn (by omega), (oN_le (b := 3) (by omega) (by decide)).mpr hd⟩), if_neg one_ne0, gi_N (show d < 4 by omega) (by decide), gi_N (show d < 4 by omega) (by decide), oN_tn (by omega), c_within, bs_v, if_pos hv, if_neg one_ne0, has_1 h108 hn hf, bd_v, if_neg one_ne0, gi_N (show f < 6 by omega) (by decide), oN_tn (by omega), ht, if_neg one_ne0]
theorem rf_hide {f n s : Nat} (h108 : c.1 108 = Int32.ofNat n) (hn : n ≤ 6) (hf : f < n) (hs : s < 6) (ht : c.2.2.1 202 f = 0) (hb : ((c.2.2.1 201 f >>> (Int32.ofNat s &&& 31)) &&& 1) = 1) : fX2_refusalOf 1 (Int32.ofNat f) (Int32.ofNat s) fz c = some (0, c) := by
  unfold fX2_refusalOf fX2_refusalOf_b146 fX2_refusalOf_b180 fX2_refusalOf_b182 fX2_refusalOf_b193
  rw [c_within, bs_v, if_pos (show (0 : Int32) ≤ 1 ∧ (1 : Int32) ≤ 3 by decide), if_neg one_ne0, show (1 : Int32) = Int32.ofNat 1 from rfl, gi_N (show 1 < 4 by decide) (by decide), gi_N (show 1 < 4 by decide) (by decide), show leastF (Int32.ofNat 1).toNatClampNeg = 0 from rfl, show mostF (Int32.ofNat 1).toNatClampNeg = 5 from rfl, show Int32.ofNat 1 = (1 : Int32) from rfl, c_within, bs_v, if_pos (show (0 : Int32) ≤ Int32.ofNat s ∧ Int32.ofNat s ≤ 5 from ⟨oN_nn (by omega), (oN_le (b := 5) (by omega) (by decide)).mpr (by omega)⟩), has_1 h108 hn hf, bd_v, gi_N (show f < 6 by omega) (by decide), gi_N (show f < 6 by omega) (by decide), oN_tn (show f < 2147483648 by omega), ht]
  simp only [if_pos hb, eq_self, if_true, if_neg one_ne0, if_neg z12, if_neg z13, gi_N (show f < 6 by omega) (show 6 < 2147483648 by decide)]
theorem rf_show {f n s : Nat} (h : Rq fz c m) (h108 : c.1 108 = Int32.ofNat n) (hn : n ≤ 6) (hf : f < n) (hs : s < 6) (ht : c.2.2.1 202 f = 0) (hb : ¬ ((c.2.2.1 201 f >>> (Int32.ofNat s &&& 31)) &&& 1) = 1) : ∃ w c1 m1, (w = 0 ∨ w = 1) ∧ fX2_refusalOf 0 (Int32.ofNat f) (Int32.ofNat s) fz c = some (if w = 0 then 0 else -3, c1) ∧ fX12_isBarred (Int32.ofNat f) (Int32.ofNat s) m = some (w, m1) ∧ cq c c1 ∧ mq m m1 := by
  obtain ⟨w, c1, m1, k1, k2, k3, k4, k5⟩ := bars_both (s := s) h (show f < 6 by omega) hs
  refine ⟨w, c1, m1, k5, ?_, k2, k3, k4⟩
  unfold fX2_refusalOf fX2_refusalOf_b146 fX2_refusalOf_b179 fX2_refusalOf_b180 fX2_refusalOf_b182 fX2_refusalOf_b193
  rw [c_within, bs_v, if_pos (show (0 : Int32) ≤ 0 ∧ (0 : Int32) ≤ 3 by decide), if_neg one_ne0, show (0 : Int32) = Int32.ofNat 0 from rfl, gi_N (show 0 < 4 by decide) (by decide), gi_N (show 0 < 4 by decide) (by decide), show leastF (Int32.ofNat 0).toNatClampNeg = 0 from rfl, show mostF (Int32.ofNat 0).toNatClampNeg = 5 from rfl, show Int32.ofNat 0 = (0 : Int32) from rfl, c_within, bs_v, if_pos (show (0 : Int32) ≤ Int32.ofNat s ∧ Int32.ofNat s ≤ 5 from ⟨oN_nn (by omega), (oN_le (b := 5) (by omega) (by decide)).mpr (by omega)⟩), has_1 h108 hn hf, bd_v, gi_N (show f < 6 by omega) (by decide), gi_N (show f < 6 by omega) (by decide), oN_tn (show f < 2147483648 by omega), ht]
  simp only [if_neg hb, eq_self, if_true, if_neg one_ne0, if_neg z01, if_neg z02, if_neg z03, k1, bd_v, gi_N (show f < 6 by omega) (show 6 < 2147483648 by decide)]
  rcases k5 with e | e <;> subst e <;> simp only [eq_self, if_true, if_neg one_ne0]
theorem rf_march {f n d : Nat} {v : Int32} (h108 : c.1 108 = Int32.ofNat n) (hn : n ≤ 6) (hf : f < n) (hv : (1 : Int32) ≤ v ∧ v ≤ 99) (ht : c.2.2.1 202 f = 0) (hd : c.1 204 = Int32.ofNat d) (hd9 : d ≤ 999) : fX2_refusalOf 3 (Int32.ofNat f) v fz c = some (if d < 999 then 0 else -3, c) := by
  unfold fX2_refusalOf fX2_refusalOf_b86 fX2_refusalOf_b182 fX2_refusalOf_b193
  rw [c_within, bs_v, if_pos (show (0 : Int32) ≤ 3 ∧ (3 : Int32) ≤ 3 by decide), if_neg one_ne0, show (3 : Int32) = Int32.ofNat 3 from rfl, gi_N (show 3 < 4 by decide) (by decide), gi_N (show 3 < 4 by decide) (by decide), show leastF (Int32.ofNat 3).toNatClampNeg = 1 from rfl, show mostF (Int32.ofNat 3).toNatClampNeg = 99 from rfl, show Int32.ofNat 3 = (3 : Int32) from rfl, c_within, bs_v, if_pos hv, has_1 h108 hn hf, bd_v, gi_N (show f < 6 by omega) (by decide), gi_N (show f < 6 by omega) (by decide), oN_tn (show f < 2147483648 by omega), ht, hd]
  by_cases q : d < 999
  · have hle : ¬ ((999 : Int32) ≤ Int32.ofNat d) := fun w => by have := (oN_le (a := 999) (by decide) (by omega)).mp w; omega
    simp only [if_neg hle, if_pos q, eq_self, if_true, if_neg one_ne0]
  · have hle : (999 : Int32) ≤ Int32.ofNat d := (oN_le (a := 999) (by decide) (by omega)).mpr (by omega)
    simp only [if_pos hle, if_neg q, eq_self, if_true, if_neg one_ne0]
end Draw
/-- frames of sieges -/
def sfc (c c' : St) : Prop := (∀ k, k ∉ [204] → c'.1 k = c.1 k) ∧ (∀ k, k ∉ [1105] → c'.2.1 k = c.2.1 k) ∧ (∀ k, k ∉ [200, 201, 202, 203, 801] → c'.2.2.1 k = c.2.2.1 k) ∧ (∀ k, k ∉ [803] → c'.2.2.2.1 k = c.2.2.2.1 k) ∧ c'.2.2.2.2 = c.2.2.2.2
def sfm (m m' : St) : Prop := (∀ k, k ∉ [34, 38] → m'.1 k = m.1 k) ∧ (∀ k, k ∉ [39, 40, 50] → m'.2.1 k = m.2.1 k) ∧ (∀ k, k ∉ [3] → m'.2.2.1 k = m.2.2.1 k) ∧ (∀ k, k ∉ [35, 37] → m'.2.2.2.1 k = m.2.2.2.1 k) ∧ m'.2.2.2.2 = m.2.2.2.2 ∧ (∀ k, k < 6 ∨ 31 ≤ k → m'.2.2.1 3 k = m.2.2.1 3 k)
theorem sfc.rf {c : St} : sfc c c := ⟨fun _ _ => rfl, fun _ _ => rfl, fun _ _ => rfl, fun _ _ => rfl, rfl⟩
theorem sfm.rf {m : St} : sfm m m := ⟨fun _ _ => rfl, fun _ _ => rfl, fun _ _ => rfl, fun _ _ => rfl, rfl, fun _ _ => rfl⟩
theorem sfc.tr {a b c : St} (h : sfc a b) (k : sfc b c) : sfc a c := ⟨fun q hq => (k.1 q hq).trans (h.1 q hq), fun q hq => (k.2.1 q hq).trans (h.2.1 q hq), fun q hq => (k.2.2.1 q hq).trans (h.2.2.1 q hq), fun q hq => (k.2.2.2.1 q hq).trans (h.2.2.2.1 q hq), k.2.2.2.2.trans h.2.2.2.2⟩
theorem sfm.tr {a b c : St} (h : sfm a b) (k : sfm b c) : sfm a c := ⟨fun q hq => (k.1 q hq).trans (h.1 q hq), fun q hq => (k.2.1 q hq).trans (h.2.1 q hq), fun q hq => (k.2.2.1 q hq).trans (h.2.2.1 q hq), fun q hq => (k.2.2.2.1 q hq).trans (h.2.2.2.1 q hq), k.2.2.2.2.1.trans h.2.2.2.2.1, fun q hq => (k.2.2.2.2.2 q hq).trans (h.2.2.2.2.2 q hq)⟩
theorem sfc.j {c : St} {x : Int64} : sfc c (sJ c 1105 x) := ⟨fun _ _ => rfl, fun k hk => by rw [sJ_2, if_neg (fun e => hk (by rw [e]; decide))], fun _ _ => rfl, fun _ _ => rfl, rfl⟩
theorem sfm.j {m : St} {x : Int64} : sfm m (sJ m 50 x) := ⟨fun _ _ => rfl, fun k hk => by rw [sJ_2, if_neg (fun e => hk (by rw [e]; decide))], fun _ _ => rfl, fun _ _ => rfl, rfl, fun _ _ => rfl⟩
theorem Mt.sc {fz : List FP} {f g : Nat} {c m c' m' : St} (h : Mt fz f g c m c' m') : sfc c c' := by
  obtain ⟨-, a1, -, a3, a4, -⟩ := h
  refine ⟨fun k hk => ?_, fun k _ => by rw [a1.2.1], fun k hk => ?_, a1.2.2.2.1, a1.2.2.2.2⟩
  · by_cases e : k = 905
    · rw [e]; exact a3
    · exact a1.1 k (fun q => by
        rcases List.mem_cons.mp q with q | q
        · exact hk (by rw [q]; decide)
        · exact e (by simpa using q))
  · by_cases e : k = 902
    · rw [e]; exact a4
    · exact a1.2.2.1 k (fun q => by
        have : k = 200 ∨ k = 201 ∨ k = 202 ∨ k = 203 ∨ k = 801 ∨ k = 902 := by simpa using q
        rcases this with z | z | z | z | z | z
        · exact hk (by rw [z]; decide)
        · exact hk (by rw [z]; decide)
        · exact hk (by rw [z]; decide)
        · exact hk (by rw [z]; decide)
        · exact hk (by rw [z]; decide)
        · exact e z)
theorem Mt.sm {fz : List FP} {f g : Nat} {c m c' m' : St} (h : Mt fz f g c m c' m') : sfm m m' := by
  obtain ⟨-, -, a2, -, -, a5, a6, a7, -⟩ := h
  refine ⟨fun k hk => ?_, fun k hk => a2.2.1 k (fun q => ?_), fun k hk => ?_, a2.2.2.2.1, a2.2.2.2.2.1, a2.2.2.2.2.2⟩
  · by_cases e : k = 8
    · rw [e]; exact a5
    · exact a2.1 k (fun q => by
        rcases List.mem_cons.mp q with q | q
        · exact e q
        · exact hk q)
  · have : k = 39 ∨ k = 40 := by simpa using q
    rcases this with z | z
    · exact hk (by rw [z]; decide)
    · exact hk (by rw [z]; decide)
  · by_cases e6 : k = 6
    · rw [e6]; exact a6
    · by_cases e7 : k = 7
      · rw [e7]; exact a7
      · exact a2.2.2.1 k (fun q => by
          have : k = 3 ∨ k = 6 ∨ k = 7 := by simpa using q
          rcases this with z | z | z
          · exact hk (by rw [z]; decide)
          · exact e6 z
          · exact e7 z)
