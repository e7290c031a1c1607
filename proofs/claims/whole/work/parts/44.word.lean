/-! T2, words and numbers among the tokens -/
def wl : List (List Nat) := [[116, 117, 114, 110, 115], [112, 97, 121, 115], [102, 97, 109, 101], [98, 97, 114, 115], [115, 104, 111, 119], [104, 105, 100, 101], [109, 97, 110], [109, 97, 114, 99, 104], [97, 116], [116, 111], [98, 121], [116, 105, 109, 101, 115], [105, 102], [111, 114], [97, 110, 100], [110, 111, 116], [102, 111, 114, 116], [109, 101, 110], [103, 101, 110, 101, 114, 97, 108], [107, 110, 111, 119, 110], [115, 105, 103, 110], [97, 114, 109, 121], [98, 101, 108, 105, 101, 102], [101, 110, 100], [100, 97, 121], [109, 111, 111, 100], [100, 111, 110, 101], [108, 97, 116, 101, 115, 116], [115, 104, 111, 119, 110]]
def cd32 (l : List Nat) : Nat := l.foldl (fun a c => a * 32 + (c - 96)) 0
def wcd (i : Nat) : Nat := cd32 (wl.getD i [])
def ltrs (B : Nat → Nat) (p n : Nat) : List Nat := (List.range n).map (fun i => B (p + i))
def wIx (l : List Nat) : Nat := wl.findIdx (fun w => w == l)
def lxV (B : Nat → Nat) (p : Nat) : Nat → Nat
  | 0 => 0
  | k + 1 => min 9999 (lxV B p k * 10 + B (p + k) - 48)
def tK (B : Nat → Nat) (L j : Nat) : Nat := if tSort B L j = 0 then 257 else if tSort B L j = 1 then (if wIx (ltrs B (tP B L j) (lxP B L (j + 1) - tP B L j)) < 29 then 300 + wIx (ltrs B (tP B L j) (lxP B L (j + 1) - tP B L j)) else 258) else if tSort B L j = 2 then 256 else B (tP B L j)
def tV (B : Nat → Nat) (L j : Nat) : Nat := lxV B (tP B L j) (lxP B L (j + 1) - tP B L j)
theorem cd32_snoc (l : List Nat) (c : Nat) : cd32 (l ++ [c]) = cd32 l * 32 + (c - 96) := by unfold cd32; rw [List.foldl_append]; rfl
theorem ltrs_s (B : Nat → Nat) (p n : Nat) : ltrs B p (n + 1) = ltrs B p n ++ [B (p + n)] := by unfold ltrs; rw [List.range_succ, List.map_append]; rfl
theorem cd32_lt : ∀ (n : Nat) (l : List Nat), l.length = n → (∀ c ∈ l, 97 ≤ c ∧ c ≤ 122) → cd32 l < 32 ^ n := by
  intro n
  induction n with
  | zero => intro l h _; rw [List.length_eq_zero_iff.mp h]; decide
  | succ n ih =>
    intro l h hc
    have hne : l ≠ [] := by intro e; rw [e] at h; cases h
    have e := (List.dropLast_concat_getLast hne)
    have h1 := ih l.dropLast (by rw [List.length_dropLast, h]; omega) (fun c hm => hc c ((List.dropLast_sublist l).subset hm))
    have h2 := hc _ (List.getLast_mem hne)
    rw [← e, cd32_snoc, Nat.pow_succ]
    omega
theorem cd32_inj : ∀ (n : Nat) (l k : List Nat), l.length = n → (∀ c ∈ l, 97 ≤ c ∧ c ≤ 122) → (∀ c ∈ k, 97 ≤ c ∧ c ≤ 122) → cd32 l = cd32 k → l = k := by
  intro n
  induction n with
  | zero =>
    intro l k h _ hk e
    rw [List.length_eq_zero_iff.mp h] at e ⊢
    by_cases hne : k = []
    · exact hne.symm
    · have e2 := (List.dropLast_concat_getLast hne)
      have h2 := hk _ (List.getLast_mem hne)
      rw [← e2, cd32_snoc] at e
      have : cd32 [] = 0 := rfl
      omega
  | succ n ih =>
    intro l k h hc hk e
    have hne : l ≠ [] := by intro e; rw [e] at h; cases h
    have el := (List.dropLast_concat_getLast hne)
    have h2 := hc _ (List.getLast_mem hne)
    rw [← el, cd32_snoc] at e
    by_cases hnk : k = []
    · subst hnk
      have : cd32 [] = 0 := rfl
      omega
    · have ek := (List.dropLast_concat_getLast hnk)
      have h3 := hk _ (List.getLast_mem hnk)
      rw [← ek, cd32_snoc] at e
      have e3 : l.getLast hne = k.getLast hnk := by omega
      have e4 := ih l.dropLast k.dropLast (by rw [List.length_dropLast, h]; omega) (fun c hm => hc c ((List.dropLast_sublist l).subset hm)) (fun c hm => hk c ((List.dropLast_sublist k).subset hm)) (by omega)
      rw [← el, ← ek, e3, e4]
theorem lxW_cd {B : Nat → Nat} {p : Nat} : ∀ n, n ≤ 10 → (∀ i, i < n → 97 ≤ B (p + i) ∧ B (p + i) ≤ 122) → lxW B p n = Int64.ofNat (cd32 (ltrs B p n)) := by
  intro n
  induction n with
  | zero => intro _ _; rfl
  | succ n ih =>
    intro hn h
    have e := ih (by omega) (fun i hi => h i (by omega))
    have hl : cd32 (ltrs B p n) < 32 ^ n := cd32_lt n _ (by simp [ltrs]) (by
      intro c hc
      unfold ltrs at hc
      obtain ⟨i, hi, ei⟩ := List.mem_map.mp hc
      rw [← ei]
      exact h i (by have := List.mem_range.mp hi; omega))
    have hp : (32 : Nat) ^ n ≤ 32 ^ 9 := Nat.pow_le_pow_right (by decide) (by omega)
    have h9 : (32 : Nat) ^ 9 = 35184372088832 := by decide
    have hb := h n (by omega)
    show (if n < 10 then lxW B p n * 32 + Int64.ofNat (B (p + n)) - 96 else -1) = _
    rw [if_pos (by omega), e, ltrs_s, cd32_snoc]
    have e1 : (32 : Int64) = Int64.ofNat 32 := rfl
    have e2 : (96 : Int64) = Int64.ofNat 96 := rfl
    rw [e1, e2, ← Int64.ofNat_mul, ← Int64.ofNat_add, ← Int64.ofNat_sub _ _ (by omega)]
    congr 1
    omega
theorem lxW_long {B : Nat → Nat} {p n : Nat} (h : 10 < n) : lxW B p n = -1 := by
  cases n with
  | zero => omega
  | succ n =>
    show (if n < 10 then _ else -1) = _
    rw [if_neg (by omega)]
theorem wl_ok : ∀ i, i < 29 → (wl.getD i []).length ≤ 10 ∧ (∀ c ∈ wl.getD i [], 97 ≤ c ∧ c ≤ 122) ∧ wIx (wl.getD i []) = i ∧ wcd i < 32 ^ 10 := by decide +kernel
theorem wIx_eq {l : List Nat} {i : Nat} (hi : i < 29) : wIx l = i ↔ l = wl.getD i [] := by
  constructor
  · intro h
    have hlt : wl.findIdx (fun w => w == l) < wl.length := by show wIx l < 29; omega
    have := List.findIdx_getElem (w := hlt)
    have e := eq_of_beq this
    rw [← e]
    have e2 : wl.findIdx (fun w => w == l) = i := h
    rw [List.getD_eq_getElem?_getD, ← e2, List.getElem?_eq_getElem hlt]
    rfl
  · intro h
    rw [h]
    exact (wl_ok i hi).2.2.1
theorem ltrs_in {B : Nat → Nat} {p n : Nat} (h : ∀ i, i < n → isLb (B (p + i)) = true) : ∀ c ∈ ltrs B p n, 97 ≤ c ∧ c ≤ 122 := by
  intro c hc
  unfold ltrs at hc
  obtain ⟨i, hi, ei⟩ := List.mem_map.mp hc
  rw [← ei]
  exact of_decide_eq_true (h i (List.mem_range.mp hi))
theorem lxW_word {B : Nat → Nat} {p n i : Nat} (hi : i < 29) (h : ∀ i, i < n → isLb (B (p + i)) = true) : lxW B p n = Int64.ofNat (wcd i) ↔ wIx (ltrs B p n) = i := by
  obtain ⟨w1, w2, w3, w4⟩ := wl_ok i hi
  rw [wIx_eq hi]
  have h10 : (32 : Nat) ^ 10 = 1125899906842624 := by decide
  by_cases hn : n ≤ 10
  · rw [lxW_cd n hn (fun i hi => of_decide_eq_true (h i hi))]
    have hl : cd32 (ltrs B p n) < 32 ^ n := cd32_lt n _ (by simp [ltrs]) (ltrs_in h)
    have hp : (32 : Nat) ^ n ≤ 32 ^ 10 := Nat.pow_le_pow_right (by decide) (by omega)
    constructor
    · intro e
      have := congrArg Int64.toInt e
      rw [Int64.toInt_ofNat_of_lt (by omega), Int64.toInt_ofNat_of_lt (by omega)] at this
      exact cd32_inj n _ _ (by simp [ltrs]) (ltrs_in h) w2 (by unfold wcd at this; omega)
    · intro e; rw [e]; rfl
  · rw [lxW_long (by omega)]
    constructor
    · intro e
      have := congrArg Int64.toInt e
      rw [Int64.toInt_ofNat_of_lt (by omega)] at this
      have e2 : (-1 : Int64).toInt = -1 := by decide
      omega
    · intro e
      have : (ltrs B p n).length = n := by simp [ltrs]
      rw [e] at this
      omega
theorem tok_l {B : Nat → Nat} {L j : Nat} (h : tSort B L j = 1) : ∀ i, i < lxP B L (j + 1) - tP B L j → isLb (B (tP B L j + i)) = true := by
  unfold tSort at h
  split at h
  · cases h
  rename_i h1
  split at h
  · rename_i h2
    intro i hi
    have eP : lxP B L (j + 1) = lxR isLb B L 401 (tP B L j + 1) := by
      show lxE B L (tP B L j) = _
      unfold lxE
      rw [if_neg h1, if_pos h2]
    cases i with
    | zero => exact h2
    | succ i =>
      rw [eP] at hi
      exact (lxR_all (L := L) 401 (tP B L j + 1) (tP B L j + (i + 1)) (by omega) (by omega)).2
  · split at h <;> cases h
theorem tok_d {B : Nat → Nat} {L j : Nat} (h : tSort B L j = 2) : ∀ i, i < lxP B L (j + 1) - tP B L j → isDb (B (tP B L j + i)) = true := by
  unfold tSort at h
  split at h
  · cases h
  rename_i h1
  split at h
  · cases h
  rename_i h2
  split at h
  · rename_i h3
    intro i hi
    have eP : lxP B L (j + 1) = lxR isDb B L 401 (tP B L j + 1) := by
      show lxE B L (tP B L j) = _
      unfold lxE
      rw [if_neg h1, if_neg h2, if_pos h3]
    cases i with
    | zero => exact h3
    | succ i =>
      rw [eP] at hi
      exact (lxR_all (L := L) 401 (tP B L j + 1) (tP B L j + (i + 1)) (by omega) (by omega)).2
  · cases h
theorem tSort_le {B : Nat → Nat} {L j : Nat} : tSort B L j ≤ 3 := by
  unfold tSort
  repeat' split
  all_goals omega
theorem tok_word {B : Nat → Nat} {L j i : Nat} (hB : ∀ i, B i < 256) (hi : i < 29) : (tSort B L j = 1 ∧ tWorth B L j = Int64.ofNat (wcd i)) ↔ tK B L j = 300 + i := by
  unfold tK
  by_cases h : tSort B L j = 1
  · rw [if_neg (by omega), if_pos h]
    have e : tWorth B L j = lxW B (tP B L j) (lxP B L (j + 1) - tP B L j) := by unfold tWorth; rw [if_neg (by omega), if_pos h]
    rw [e]
    have := lxW_word (B := B) (p := tP B L j) hi (tok_l h)
    constructor
    · intro q
      have q2 := this.mp q.2
      rw [if_pos (by omega), q2]
    · intro q
      refine ⟨h, this.mpr ?_⟩
      split at q <;> omega
  · constructor
    · intro q; exact absurd q.1 h
    · intro q
      have h3 := @tSort_le B L j
      have hb := hB (tP B L j)
      rw [if_neg h] at q
      split at q
      · omega
      · split at q <;> omega
theorem tok_sign {B : Nat → Nat} {L j c : Nat} (hB : ∀ i, B i < 256) (hc : c < 256) : (tSort B L j = 3 ∧ tWorth B L j = Int64.ofNat c) ↔ tK B L j = c := by
  have hb := hB (tP B L j)
  have h3 := @tSort_le B L j
  unfold tK
  by_cases h : tSort B L j = 3
  · rw [if_neg (by omega), if_neg (by omega), if_neg (by omega)]
    have e : tWorth B L j = Int64.ofNat (B (tP B L j)) := by unfold tWorth; rw [if_neg (by omega), if_neg (by omega), if_neg (by omega)]
    rw [e]
    constructor
    · intro q
      have := congrArg Int64.toInt q.2
      rw [Int64.toInt_ofNat_of_lt (by omega), Int64.toInt_ofNat_of_lt (by omega)] at this
      omega
    · intro q; rw [q]; exact ⟨h, rfl⟩
  · constructor
    · intro q; exact absurd q.1 h
    · intro q
      split at q
      · omega
      · split at q
        · split at q <;> omega
        · split at q
          · omega
          · omega
theorem tok_num {B : Nat → Nat} {L j : Nat} (hB : ∀ i, B i < 256) : tSort B L j = 2 ↔ tK B L j = 256 := by
  have hb := hB (tP B L j)
  have h3 := @tSort_le B L j
  unfold tK
  constructor
  · intro h; rw [if_neg (by omega), if_neg (by omega), if_pos h]
  · intro q
    split at q
    · omega
    · split at q
      · split at q <;> omega
      · split at q
        · assumption
        · omega
theorem tok_end {B : Nat → Nat} {L j : Nat} (hB : ∀ i, B i < 256) : tSort B L j = 0 ↔ tK B L j = 257 := by
  have hb := hB (tP B L j)
  have h3 := @tSort_le B L j
  unfold tK
  constructor
  · intro h; rw [if_pos h]
  · intro q
    split at q
    · assumption
    · split at q
      · split at q <;> omega
      · split at q <;> omega
theorem lxNV {B : Nat → Nat} {p : Nat} : ∀ n, (∀ i, i < n → isDb (B (p + i)) = true) → (lxV B p n < 9999 ∧ lxN B p n = Int64.ofNat (lxV B p n)) ∨ (lxV B p n = 9999 ∧ 9999 ≤ (lxN B p n).toInt ∧ (lxN B p n).toInt ≤ 10000009) := by
  intro n
  induction n with
  | zero => intro _; exact Or.inl ⟨(by decide : (0 : Nat) < 9999), rfl⟩
  | succ n ih =>
    intro h
    have hd := of_decide_eq_true (h n (by omega))
    have eV : lxV B p (n + 1) = min 9999 (lxV B p n * 10 + B (p + n) - 48) := rfl
    have eN : lxN B p (n + 1) = if lxN B p n ≤ 1000000 then lxN B p n * 10 + Int64.ofNat (B (p + n)) - 48 else lxN B p n := rfl
    have em : (1000000 : Int64).toInt = 1000000 := by decide
    have step : (lxN B p n).toInt ≤ 1000000 → 0 ≤ (lxN B p n).toInt → (lxN B p n * 10 + Int64.ofNat (B (p + n)) - 48).toInt = (lxN B p n).toInt * 10 + (B (p + n) : Int) - 48 := by
      intro h1 h2
      have e1 : (10 : Int64).toInt = 10 := by decide
      have e2 : (48 : Int64).toInt = 48 := by decide
      rw [Int64.toInt_sub, Int64.toInt_add, Int64.toInt_mul, e1, e2, Int64.toInt_ofNat_of_lt (by omega)]
      rw [Int.bmod_eq_of_le (n := (lxN B p n).toInt * 10) (by omega) (by omega)]
      rw [Int.bmod_eq_of_le (n := (lxN B p n).toInt * 10 + (B (p + n) : Int)) (by omega) (by omega)]
      rw [Int.bmod_eq_of_le (by omega) (by omega)]
    rcases ih (fun i hi => h i (by omega)) with ⟨h1, h2⟩ | ⟨h1, h2, h3⟩
    · have hN : (lxN B p n).toInt = (lxV B p n : Int) := by rw [h2, Int64.toInt_ofNat_of_lt (by omega)]
      have hs := step (by omega) (by omega)
      rw [if_pos (by rw [Int64.le_iff_toInt_le, em]; omega)] at eN
      rw [← eN] at hs
      by_cases hc : lxV B p n * 10 + B (p + n) - 48 < 9999
      · refine Or.inl ⟨by omega, ?_⟩
        rw [← Int64.toInt_inj, hs, Int64.toInt_ofNat_of_lt (by omega)]
        omega
      · exact Or.inr ⟨by omega, by omega, by omega⟩
    · refine Or.inr ⟨by omega, ?_⟩
      by_cases hc : lxN B p n ≤ 1000000
      · have hs := step (by rw [Int64.le_iff_toInt_le, em] at hc; exact hc) (by omega)
        rw [if_pos hc] at eN
        rw [← eN] at hs
        rw [Int64.le_iff_toInt_le, em] at hc
        omega
      · rw [if_neg hc] at eN
        rw [eN]
        exact ⟨h2, h3⟩
/-- a number's worth, where it is small -/
theorem tok_val {B : Nat → Nat} {L j m : Nat} (h : tSort B L j = 2) (hm : m ≤ 1000) : (tWorth B L j ≤ Int64.ofNat m ↔ tV B L j ≤ m) ∧ (tV B L j ≤ m → tWorth B L j = Int64.ofNat (tV B L j)) ∧ (0 : Int64) ≤ tWorth B L j := by
  have e : tWorth B L j = lxN B (tP B L j) (lxP B L (j + 1) - tP B L j) := by unfold tWorth; rw [if_neg (by omega), if_neg (by omega), if_pos h]
  have e0 : (0 : Int64).toInt = 0 := by decide
  rw [e]
  unfold tV
  rw [Int64.le_iff_toInt_le, Int64.le_iff_toInt_le, Int64.toInt_ofNat_of_lt (by omega), e0]
  rcases lxNV (B := B) (p := tP B L j) _ (tok_d h) with ⟨h1, h2⟩ | ⟨h1, h2, h3⟩
  · rw [h2, Int64.toInt_ofNat_of_lt (by omega)]
    exact ⟨by omega, fun _ => rfl, by omega⟩
  · refine ⟨by omega, fun q => by omega, by omega⟩
