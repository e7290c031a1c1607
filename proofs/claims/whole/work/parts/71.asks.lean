/-! T2, belief's bounds; what is asked of the law in force -/
theorem flI_nat {r : Nat → Int32} {sh : Int32} {base P : Nat} {p : Int64} (hr : ∀ k, k < 6 → nb 10 (r (base + k))) (hp : p = Int64.ofNat P) (hP : P ≤ 1000) : ∀ k, k ≤ 6 → ∃ F, F ≤ P * 10 ^ k ∧ flI r sh base p k = Int64.ofNat F := by
  intro k
  induction k with
  | zero => intro _; exact ⟨P, by omega, hp⟩
  | succ k ih =>
    intro hk
    obtain ⟨F, h1, h2⟩ := ih (by omega)
    obtain ⟨n, h3, h4⟩ := hr k (by omega)
    have e : ∃ z, z ≤ 10 ∧ (if ((sh >>> (Int32.ofNat k &&& 31)) &&& (1 : Int32)) = (1 : Int32) then (r (base + k)).toInt64 else ((10 : Int32) - r (base + k)).toInt64) = Int64.ofNat z := by
      split
      · exact ⟨n, h3, by rw [h4, o64 (by omega)]⟩
      · exact ⟨10 - n, by omega, by rw [h4, show (10 : Int32) = Int32.ofNat 10 from rfl, oN_sub h3, o64 (by omega)]⟩
    obtain ⟨z, hz, ez⟩ := e
    refine ⟨F * z, ?_, ?_⟩
    · calc F * z ≤ (P * 10 ^ k) * 10 := Nat.mul_le_mul h1 hz
        _ = P * 10 ^ (k + 1) := by rw [Nat.pow_succ, Nat.mul_assoc]
    · show flI r sh base p k * _ = _
      rw [h2, ez, ← Int64.ofNat_mul]
theorem blf_nat {c : St} {r : Nat → Int32} {f : Nat} {sh : Int32} (hR : Rl 0 c r) (hf : f < 6) : ∃ b, b ≤ 1000000 ∧ blf r f sh = Int64.ofNat b := by
  obtain ⟨-, -, ⟨h7, h7b⟩, -, hfame, -, -, -, hgen, hsg, -⟩ := hR
  obtain ⟨p, hp, ep⟩ := h7b
  have ep64 : (r 7).toInt64 = Int64.ofNat p := by rw [ep, o64 (by omega)]
  have eq64 : (1000 : Int64) - (r 7).toInt64 = Int64.ofNat (1000 - p) := by rw [ep64, show (1000 : Int64) = Int64.ofNat 1000 from rfl, ← Int64.ofNat_sub _ _ hp]
  obtain ⟨F, hF, eF⟩ := flI_nat (r := r) (sh := sh) (base := 37) (fun k hk => by have := (hsg k (by omega)).2; rw [if_pos (by omega)] at this; exact this) ep64 hp 6 (Nat.le_refl _)
  obtain ⟨E, hE, eE⟩ := flI_nat (r := r) (sh := sh) (base := 43) (fun k hk => by have := (hsg (6 + k) (by omega)).2; rw [if_pos (by omega), show 37 + (6 + k) = 43 + k by omega] at this; exact this) eq64 (by omega) 6 (Nat.le_refl _)
  have hF9 : F ≤ 1000000000 := by have h10 : (10 : Nat) ^ 6 = 1000000 := by decide
                                  rw [h10] at hF; omega
  have hE9 : E ≤ 1000000000 := by have h10 : (10 : Nat) ^ 6 = 1000000 := by decide
                                  rw [h10] at hE; omega
  have eEven : (r 7).toInt64 * 1000 = Int64.ofNat (p * 1000) := by rw [ep64, show (1000 : Int64) = Int64.ofNat 1000 from rfl, ← Int64.ofNat_mul]
  have hby : ∃ y, y ≤ 1000000 ∧ byI (flI r sh 37 (r 7).toInt64 6) (flI r sh 43 ((1000 : Int64) - (r 7).toInt64) 6) ((r 7).toInt64 * 1000) = Int64.ofNat y := by
    rw [eF, eE, eEven]
    unfold byI
    rw [← Int64.ofNat_add]
    by_cases h0 : F + E = 0
    · refine ⟨p * 1000, by omega, ?_⟩
      rw [h0, if_pos (show Int64.ofNat 0 = 0 from rfl)]
    · refine ⟨F * 1000000 / (F + E), ?_, ?_⟩
      · apply Nat.div_le_of_le_mul
        calc F * 1000000 ≤ (F + E) * 1000000 := Nat.mul_le_mul_right _ (by omega)
          _ = (F + E) * 1000000 := rfl
      · have hne : ¬ (Int64.ofNat (F + E) = 0) := by
          intro q
          have := congrArg Int64.toInt q
          rw [Int64.toInt_ofNat_of_lt (by omega)] at this
          have e0 : (0 : Int64).toInt = 0 := by decide
          omega
        rw [if_neg hne, show (1000000 : Int64) = Int64.ofNat 1000000 from rfl, ← Int64.ofNat_mul, ← Int64.ofNat_div (by omega) (by omega)]
  obtain ⟨y, hy, ey⟩ := hby
  obtain ⟨hg1, hg2⟩ := (hgen f hf).2.le (by decide)
  obtain ⟨a, ha, ea⟩ := (hfame (r (31 + f)).toNatClampNeg (by omega)).2
  refine ⟨(a * y + (100 - a) * (p * 1000)) / 100, ?_, ?_⟩
  · apply Nat.div_le_of_le_mul
    have h1 : a * y ≤ a * 1000000 := Nat.mul_le_mul_left _ hy
    have h2 : (100 - a) * (p * 1000) ≤ (100 - a) * 1000000 := Nat.mul_le_mul_left _ (by omega)
    have h3 : a * 1000000 + (100 - a) * 1000000 = 100 * 1000000 := by rw [← Nat.add_mul]; congr 1; omega
    omega
  · unfold blf
    have hb1 : a * y ≤ 100 * 1000000 := Nat.mul_le_mul ha hy
    have hb2 : (100 - a) * (p * 1000) ≤ 100 * 1000000 := Nat.mul_le_mul (by omega) (by omega)
    rw [ey, eEven, ea, o64 (by omega), show (100 : Int32) = Int32.ofNat 100 from rfl, oN_sub ha, o64 (by omega), ← Int64.ofNat_mul, ← Int64.ofNat_mul, ← Int64.ofNat_add, show (100 : Int64) = Int64.ofNat 100 from rfl, ← Int64.ofNat_div (by omega) (by decide)]
/-- laws of the land, and the one in force -/
def Rw (off : Nat) (fz : List FP) (c : St) (r : Nat → Int32) : Prop := (c.1 (111 + off) = r 4 ∧ nb 6 (r 4)) ∧ c.1 (112 + off) = r 5 ∧ (r 5 = -1 ∨ ∃ f, f < (r 4).toNatClampNeg ∧ r 5 = Int32.ofNat f) ∧ (∀ i, i < 6 → (i < (r 4).toNatClampNeg → ∃ q P, c.2.2.2.2 (107 + off) i = some q ∧ fzGet fz q = some P ∧ LwR P (fun k => r (150 + 900 * i + k))) ∧ (c.2.2.2.2 (107 + off) i = none ∨ ∃ q P, c.2.2.2.2 (107 + off) i = some q ∧ fzGet fz q = some P ∧ P.1 99 = q))
theorem c_ask {c : St} {r : Nat → Int32} {fz : List FP} {f : Nat} {sg ar be en : Int32} (hR : Rl 0 c r) (hf : f < 6) : ∃ g, fX5_ask (Int32.ofNat f) sg ar be en fz c = some ((), sA c 801 g) ∧ g 0 = Int32.ofNat f ∧ g 1 = r (13 + f) ∧ g 2 = r (31 + f) ∧ g 3 = r (9 + (r (31 + f)).toNatClampNeg) ∧ g 4 = sg ∧ g 5 = ar ∧ g 6 = be ∧ g 7 = en ∧ g 8 = r 6 ∧ g 9 = r 8 := by
  obtain ⟨-, ⟨h6, -⟩, -, ⟨h8, -⟩, hfame, hmen, -, -, hgen, -, -⟩ := hR
  obtain ⟨hg1, hg2⟩ := (hgen f hf).2.le (by decide)
  have hg : c.2.2.1 103 f = r (31 + f) := (hgen f hf).1
  have hm : c.2.2.1 200 f = r (13 + f) := (hmen f hf).1
  have hfa : c.2.2.1 203 (r (31 + f)).toNatClampNeg = r (9 + (r (31 + f)).toNatClampNeg) := (hfame _ (by omega)).1
  have h204 : c.1 204 = r 6 := h6
  have h110 : c.1 110 = r 8 := h8
  have hgi : ∀ {α : Type} (x : Option α), gi (r (31 + f)) 4 x = x := fun x => gi_ok (by rw [hg2]; exact oN_nn (by omega)) (by omega)
  have n200 : ∀ g, (sA c 801 g).2.2.1 200 = c.2.2.1 200 := fun _ => rfl
  have n103 : ∀ g, (sA c 801 g).2.2.1 103 = c.2.2.1 103 := fun _ => rfl
  have n203 : ∀ g, (sA c 801 g).2.2.1 203 = c.2.2.1 203 := fun _ => rfl
  have n801 : ∀ g, (sA c 801 g).2.2.1 801 = g := fun _ => rfl
  have n204 : ∀ g, (sA c 801 g).1 204 = r 6 := fun _ => h204
  have n110 : ∀ g, (sA c 801 g).1 110 = r 8 := fun _ => h110
  unfold fX5_ask
  simp only [lt_v, gi_N (show f < 6 from hf) (show 6 < 2147483648 by decide), sA_sA, n200, n103, n203, n801, n204, n110, oN_tn (show f < 2147483648 by omega), hg, hm, hfa, hgi]
  refine ⟨_, rfl, ?_, ?_, ?_, ?_, ?_, ?_, ?_, ?_, ?_, ?_⟩ <;> rfl
