/-! T2, kit: numbers that are natural, reading and writing of a state, loops -/
theorem oN_lit (n : Nat) : (OfNat.ofNat n : Int32) = Int32.ofNat (OfNat.ofNat n : Nat) := rfl
theorem oN_add (a b : Nat) : Int32.ofNat a + Int32.ofNat b = Int32.ofNat (a + b) := (Int32.ofNat_add a b).symm
theorem oN_mul (a b : Nat) : Int32.ofNat a * Int32.ofNat b = Int32.ofNat (a * b) := (Int32.ofNat_mul a b).symm
theorem oN_sub {a b : Nat} (h : b ≤ a) : Int32.ofNat a - Int32.ofNat b = Int32.ofNat (a - b) := (Int32.ofNat_sub a b h).symm
theorem oN_pred {a : Nat} (h : 1 ≤ a) : Int32.ofNat a + (-1 : Int32) = Int32.ofNat (a - 1) := by
  rw [Int32.ofNat_sub a 1 h, Int32.sub_eq_add_neg]; rfl
theorem oN_tn {a : Nat} (h : a < 2147483648) : (Int32.ofNat a).toNatClampNeg = a := Int32.toNatClampNeg_ofNat_of_lt h
theorem oN_ti {a : Nat} (h : a < 2147483648) : (Int32.ofNat a).toInt = (a : Int) := Int32.toInt_ofNat_of_lt h
theorem oN_le {a b : Nat} (ha : a < 2147483648) (hb : b < 2147483648) : (Int32.ofNat a ≤ Int32.ofNat b) ↔ a ≤ b := Int32.ofNat_le_iff_le ha hb
theorem oN_lt {a b : Nat} (ha : a < 2147483648) (hb : b < 2147483648) : (Int32.ofNat a < Int32.ofNat b) ↔ a < b := Int32.ofNat_lt_iff_lt ha hb
theorem oN_eq {a b : Nat} (ha : a < 2147483648) (hb : b < 2147483648) : (Int32.ofNat a = Int32.ofNat b) ↔ a = b := by
  constructor
  · intro h
    have := congrArg Int32.toNatClampNeg h
    rwa [oN_tn ha, oN_tn hb] at this
  · intro h; rw [h]
theorem oN_neg {a : Nat} (ha : a < 2147483648) : ¬ (Int32.ofNat a < 0) := by
  rw [Int32.lt_iff_toInt_lt, oN_ti ha]; show ¬ ((a : Int) < 0); omega
theorem oN_nn {a : Nat} (ha : a < 2147483648) : (0 : Int32) ≤ Int32.ofNat a := by
  rw [Int32.le_iff_toInt_le, oN_ti ha]; show (0 : Int) ≤ a; omega
theorem oN_ne1 {a : Nat} (ha : a < 2147483648) : ¬ (Int32.ofNat a = -1) := by
  intro h
  have := congrArg Int32.toInt h
  rw [oN_ti ha] at this
  have h2 : (-1 : Int32).toInt = -1 := by decide
  omega
theorem oN_ex {x : Int32} (h : 0 ≤ x) : ∃ a : Nat, a < 2147483648 ∧ x = Int32.ofNat a := ⟨x.toNatClampNeg, Int32.toNatClampNeg_lt x, (Int32.ofNat_toNatClampNeg x h).symm⟩
theorem oN_exb {x : Int32} {b : Nat} (h : 0 ≤ x) (hb : b < 2147483648) (h2 : x ≤ Int32.ofNat b) : ∃ a : Nat, a ≤ b ∧ x = Int32.ofNat a := by
  obtain ⟨a, ha, e⟩ := oN_ex h
  subst e
  exact ⟨a, (oN_le ha hb).mp h2, rfl⟩
theorem gi_N {α : Type} {a n : Nat} {x : Option α} (h : a < n) (hn : n < 2147483648) : gi (Int32.ofNat a) n x = x := by
  have ha : a < 2147483648 := by omega
  unfold gi
  rw [if_neg]
  rw [oN_tn ha]
  intro hc
  rcases hc with hc | hc
  · exact oN_neg ha hc
  · omega
theorem gi_ok {α : Type} {i : Int32} {n : Nat} {x : Option α} (h : 0 ≤ i) (h2 : i.toNatClampNeg < n) : gi i n x = x := by
  unfold gi
  rw [if_neg]
  intro hc
  rcases hc with hc | hc
  · exact absurd h (Int32.not_le.mpr hc)
  · omega
theorem gb_1 {α : Type} {x : Option α} : gb 1 x = x := rfl
theorem gb_0 {α : Type} {x : Option α} : gb 0 x = x := rfl
theorem gb_ite {α : Type} {c : Prop} [Decidable c] {x : Option α} : gb (if c then 1 else 0) x = x := by split <;> rfl
theorem gz_ok {α : Type} {y : Int32} {x : Option α} (h : ¬ y = 0) : gz y x = x := by unfold gz; rw [if_neg h]
theorem gzl_ok {α : Type} {y : Int64} {x : Option α} (h : ¬ y = 0) : gzl y x = x := by unfold gzl; rw [if_neg h]
theorem lt_v {α β : Type} (e : α) (k : α → β) : lt e k = k e := rfl
theorem bd_v {ρ σ τ : Type} (r : ρ) (s : σ) (k : ρ → σ → Option τ) : bd (some (r, s)) k = k r s := rfl
theorem bs_v {ρ τ : Type} (r : ρ) (k : ρ → Option τ) : bs (some r) k = k r := rfl
theorem lp_s {F : Type} (z : F) (body : F → F) (n : Nat) : lp z body (n + 1) = body (lp z body n) := rfl
theorem bd_ite {ρ σ τ : Type} {c : Prop} [Decidable c] {x y : Option (ρ × σ)} {k : ρ → σ → Option τ} : bd (if c then x else y) k = if c then bd x k else bd y k := by split <;> rfl
/-! reading a state that was written -/
theorem sI_1 (st : St) (k : Nat) (x : Int32) (j : Nat) : (sI st k x).1 j = if j = k then x else st.1 j := rfl
theorem sI_2 (st : St) (k : Nat) (x : Int32) : (sI st k x).2 = st.2 := rfl
theorem sJ_1 (st : St) (k : Nat) (x : Int64) : (sJ st k x).1 = st.1 := rfl
theorem sJ_2 (st : St) (k : Nat) (x : Int64) (j : Nat) : (sJ st k x).2.1 j = if j = k then x else st.2.1 j := rfl
theorem sJ_3 (st : St) (k : Nat) (x : Int64) : (sJ st k x).2.2 = st.2.2 := rfl
theorem sA_1 (st : St) (k : Nat) (f : Nat → Int32) : (sA st k f).1 = st.1 := rfl
theorem sA_2 (st : St) (k : Nat) (f : Nat → Int32) : (sA st k f).2.1 = st.2.1 := rfl
theorem sA_3 (st : St) (k : Nat) (f : Nat → Int32) (j : Nat) : (sA st k f).2.2.1 j = if j = k then f else st.2.2.1 j := rfl
theorem sA_4 (st : St) (k : Nat) (f : Nat → Int32) : (sA st k f).2.2.2 = st.2.2.2 := rfl
theorem sB_1 (st : St) (k : Nat) (f : Nat → Int64) : (sB st k f).1 = st.1 := rfl
theorem sB_2 (st : St) (k : Nat) (f : Nat → Int64) : (sB st k f).2.1 = st.2.1 := rfl
theorem sB_3 (st : St) (k : Nat) (f : Nat → Int64) : (sB st k f).2.2.1 = st.2.2.1 := rfl
theorem sB_4 (st : St) (k : Nat) (f : Nat → Int64) (j : Nat) : (sB st k f).2.2.2.1 j = if j = k then f else st.2.2.2.1 j := rfl
theorem sB_5 (st : St) (k : Nat) (f : Nat → Int64) : (sB st k f).2.2.2.2 = st.2.2.2.2 := rfl
theorem sR_1 (st : St) (k : Nat) (f : Nat → Option Nat) : (sR st k f).1 = st.1 := rfl
theorem sR_2 (st : St) (k : Nat) (f : Nat → Option Nat) : (sR st k f).2.1 = st.2.1 := rfl
theorem sR_3 (st : St) (k : Nat) (f : Nat → Option Nat) : (sR st k f).2.2.1 = st.2.2.1 := rfl
theorem sR_4 (st : St) (k : Nat) (f : Nat → Option Nat) : (sR st k f).2.2.2.1 = st.2.2.2.1 := rfl
theorem sR_5 (st : St) (k : Nat) (f : Nat → Option Nat) (j : Nat) : (sR st k f).2.2.2.2 j = if j = k then f else st.2.2.2.2 j := rfl
theorem upd_v (f : Nat → Int32) (k : Nat) (x : Int32) (j : Nat) : upd f k x j = if j = k then x else f j := rfl
theorem updL_v (f : Nat → Int64) (k : Nat) (x : Int64) (j : Nat) : vp_updL f k x j = if j = k then x else f j := rfl
theorem vup_v {α : Type} (f : Nat → α) (k : Nat) (x : α) (j : Nat) : va_up f k x j = if j = k then x else f j := rfl
theorem cpy_v {α : Type} (f g : Nat → α) (sp dp n k : Nat) : va_cpy f g sp dp n k = if dp ≤ k ∧ k < dp + n then f (sp + (k - dp)) else g k := rfl
/-! compares of longs -/
theorem cmp_lt (x y : Int64) : (lg_cmp x y < 0) ↔ x < y := by
  unfold lg_cmp
  split
  · rename_i h; exact ⟨fun h2 => absurd h2 (by decide), fun h2 => absurd (Int64.lt_trans h h2) (Int64.lt_irrefl)⟩
  · rename_i h
    split
    · rename_i h2; subst h2; exact ⟨fun h2 => absurd h2 (by decide), fun h2 => absurd h2 Int64.lt_irrefl⟩
    · rename_i h2
      refine ⟨fun _ => ?_, fun _ => by decide⟩
      rcases Int64.lt_or_eq_of_le (Int64.not_lt.mp h) with h3 | h3
      · exact h3
      · exact absurd h3 h2
theorem cmp_eq (x y : Int64) : (lg_cmp x y = 0) ↔ x = y := by
  unfold lg_cmp
  split
  · rename_i h; exact ⟨fun h2 => absurd h2 (by decide), fun h2 => by subst h2; exact absurd h Int64.lt_irrefl⟩
  · split
    · rename_i h2; exact ⟨fun _ => h2, fun _ => rfl⟩
    · rename_i h2; exact ⟨fun h3 => absurd h3 (by decide), fun h3 => absurd h3 h2⟩
theorem cmp_gt (x y : Int64) : (0 < lg_cmp x y) ↔ y < x := by
  unfold lg_cmp
  split
  · rename_i h; exact ⟨fun _ => h, fun _ => by decide⟩
  · rename_i h
    split
    · exact ⟨fun h2 => absurd h2 (by decide), fun h2 => absurd h2 h⟩
    · exact ⟨fun h2 => absurd h2 (by decide), fun h2 => absurd h2 h⟩
theorem cmp_ge (x y : Int64) : (0 ≤ lg_cmp x y) ↔ y ≤ x := by
  rw [← Int32.not_lt, cmp_lt, Int64.not_lt]
theorem cmp_le (x y : Int64) : (lg_cmp x y ≤ 0) ↔ x ≤ y := by
  rw [← Int32.not_lt, cmp_gt, Int64.not_lt]
/-! the small tests of both -/
theorem c_within (a lo hi : Int32) : fX11_within a lo hi = some (if lo ≤ a ∧ a ≤ hi then 1 else 0) := by
  unfold fX11_within fX11_within_b14 fX11_within_b15
  by_cases h1 : a < lo
  · rw [if_pos h1, if_neg (fun h => absurd h.1 (Int32.not_le.mpr h1))]; rfl
  · rw [if_neg h1]
    by_cases h2 : hi < a
    · rw [if_pos h2, if_neg (fun h => absurd h.2 (Int32.not_le.mpr h2))]; rfl
    · rw [if_neg h2, if_pos ⟨Int32.not_lt.mp h1, Int32.not_lt.mp h2⟩]; rfl
theorem m_in (a lo hi : Int64) : fX12_in a lo hi = some (if lo ≤ a ∧ a ≤ hi then 1 else 0) := by
  unfold fX12_in fX12_in_b17 fX12_in_b18
  simp only [cmp_lt, cmp_gt]
  by_cases h1 : a < lo
  · rw [if_pos h1, if_neg (fun h => absurd h.1 (Int64.not_le.mpr h1))]; rfl
  · rw [if_neg h1]
    by_cases h2 : hi < a
    · rw [if_pos h2, if_neg (fun h => absurd h.2 (Int64.not_le.mpr h2))]; rfl
    · rw [if_neg h2, if_pos ⟨Int64.not_lt.mp h1, Int64.not_lt.mp h2⟩]; rfl
theorem i64_le (a b : Int32) : a.toInt64 ≤ b.toInt64 ↔ a ≤ b := by rw [Int64.le_iff_toInt_le, Int32.le_iff_toInt_le, Int32.toInt_toInt64, Int32.toInt_toInt64]
theorem i64_lt (a b : Int32) : a.toInt64 < b.toInt64 ↔ a < b := by rw [Int64.lt_iff_toInt_lt, Int32.lt_iff_toInt_lt, Int32.toInt_toInt64, Int32.toInt_toInt64]
theorem i64_eq (a b : Int32) : a.toInt64 = b.toInt64 ↔ a = b := by rw [← Int64.toInt_inj, ← Int32.toInt_inj, Int32.toInt_toInt64, Int32.toInt_toInt64]
/-- the reference's test of a number that was an int -/
theorem m_inI (a lo hi : Int32) : fX12_in a.toInt64 lo.toInt64 hi.toInt64 = some (if lo ≤ a ∧ a ≤ hi then 1 else 0) := by
  rw [m_in]; simp only [i64_le]
theorem ite10_0 {c : Prop} [Decidable c] : ((if c then (1 : Int32) else 0) = 0) ↔ ¬ c := by
  by_cases h : c
  · rw [if_pos h]; exact ⟨fun h2 => absurd h2 (by decide), fun h2 => absurd h h2⟩
  · rw [if_neg h]; exact ⟨fun _ => h, fun _ => rfl⟩
theorem ite10_1 {c : Prop} [Decidable c] : ((if c then (1 : Int32) else 0) = 1) ↔ c := by
  by_cases h : c
  · rw [if_pos h]; exact ⟨fun _ => h, fun _ => rfl⟩
  · rw [if_neg h]; exact ⟨fun h2 => absurd h2 (by decide), fun h2 => absurd h2 h⟩
theorem m_is (a b : Int32) : fX12_is a b = some (if ((a >>> (b &&& 31)) &&& (1 : Int32)) = (1 : Int32) then 1 else 0) := by
  unfold fX12_is fX12_is_b14
  split <;> rfl
/-! branches over natural numbers -/
theorem if_leT {α : Type} {a b : Nat} {x y : α} (h : a ≤ b) (hb : b < 2147483648) : (if Int32.ofNat a ≤ Int32.ofNat b then x else y) = x := if_pos ((oN_le (by omega) hb).mpr h)
theorem if_leF {α : Type} {a b : Nat} {x y : α} (h : b < a) (ha : a < 2147483648) : (if Int32.ofNat a ≤ Int32.ofNat b then x else y) = y := if_neg (fun q => by have := (oN_le ha (by omega)).mp q; omega)
theorem if_ltT {α : Type} {a b : Nat} {x y : α} (h : a < b) (hb : b < 2147483648) : (if Int32.ofNat a < Int32.ofNat b then x else y) = x := if_pos ((oN_lt (by omega) hb).mpr h)
theorem if_ltF {α : Type} {a b : Nat} {x y : α} (h : b ≤ a) (ha : a < 2147483648) : (if Int32.ofNat a < Int32.ofNat b then x else y) = y := if_neg (fun q => by have := (oN_lt ha (by omega)).mp q; omega)
theorem if_eqT {α : Type} {a b : Nat} {x y : α} (h : a = b) : (if Int32.ofNat a = Int32.ofNat b then x else y) = x := if_pos (by rw [h])
theorem if_eqF {α : Type} {a b : Nat} {x y : α} (h : a ≠ b) (ha : a < 2147483648) (hb : b < 2147483648) : (if Int32.ofNat a = Int32.ofNat b then x else y) = y := if_neg (fun q => h ((oN_eq ha hb).mp q))
theorem o64 {b : Nat} (h : b < 2147483648) : (Int32.ofNat b).toInt64 = Int64.ofNat b := by rw [← Int64.toInt_inj, Int32.toInt_toInt64, oN_ti h, Int64.toInt_ofNat_of_lt (by omega)]
theorem oN_s (a : Nat) : Int32.ofNat a + 1 = Int32.ofNat (a + 1) := oN_add a 1
