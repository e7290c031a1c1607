/-! T2, game -/
theorem sd {α : Type} {p q : Prop} [Decidable p] [Decidable q] {A B : α} : (if p then A else (if q then A else B)) = if ¬ p ∧ ¬ q then B else A := by
  by_cases hp : p
  · rw [if_pos hp, if_neg (fun h => h.1 hp)]
  · by_cases hq : q
    · rw [if_neg hp, if_pos hq, if_neg (fun h => h.2 hq)]
    · rw [if_neg hp, if_neg hq, if_pos ⟨hp, hq⟩]
theorem c_pure {a b k : Int32} : fX11_pureRest a b k = some (if k = 0 then a else if k = 2 then b else 1) := by
  unfold fX11_pureRest fX11_pureRest_b18
  by_cases h0 : k = 0
  · rw [if_pos h0, if_pos h0]
  · by_cases h2 : k = 2
    · rw [if_neg h0, if_pos h2, if_neg h0, if_pos h2]
    · rw [if_neg h0, if_neg h2, if_neg h0, if_neg h2]
section Game
variable {a b c d k : Int32} {m : St}
theorem m_200 {v6 v7 w : Int32} : fX12_game_b200 k v6 v7 w m = some (if k = 0 then (if v6 = 0 ∧ v7 = 0 then 0 else 1) else if k = 2 then w else 1, m) := by
  unfold fX12_game_b200 fX12_game_b217 fX12_game_b237
  by_cases h0 : k = 0
  · rw [if_pos h0, if_pos h0]
    by_cases h6 : v6 = 0
    · by_cases h7 : v7 = 0
      · rw [if_pos h6, if_pos h7, if_pos ⟨h6, h7⟩]
      · rw [if_pos h6, if_neg h7, if_neg (fun q => h7 q.2)]
    · rw [if_neg h6, if_neg (fun q => h6 q.1)]
  · by_cases h2 : k = 2
    · rw [if_neg h0, if_pos h2, if_neg h0, if_pos h2]
    · rw [if_neg h0, if_neg h2, if_neg h0, if_neg h2]
theorem m_149a {v7 v8 w : Int32} : fX12_game_b149 a b c d k 1 v7 v8 w m = some (if k = 0 then 1 else if k = 2 then a else 1, m) := by
  unfold fX12_game_b149 fX12_game_b171
  rw [if_neg one_ne0, if_neg one_ne0, m_200, if_neg (show ¬ ((1 : Int32) = 0 ∧ v7 = 0) from fun q => one_ne0 q.1)]
theorem m_149b {v8 w : Int32} : fX12_game_b149 a b c d k 0 1 v8 w m = some (if k = 0 then 1 else if k = 2 then b else 1, m) := by
  unfold fX12_game_b149 fX12_game_b171
  rw [if_pos rfl, if_neg one_ne0, if_pos rfl, if_neg one_ne0, m_200, if_neg (show ¬ ((0 : Int32) = 0 ∧ (1 : Int32) = 0) from fun q => one_ne0 q.2)]
theorem m_149c {w : Int32} : fX12_game_b149 a b c d k 0 0 1 w m = some (if k = 0 then 0 else if k = 2 then c else 1, m) := by
  unfold fX12_game_b149 fX12_game_b171
  rw [if_pos rfl, if_pos rfl, if_neg one_ne0, if_pos rfl, if_pos rfl, if_neg one_ne0, m_200, if_pos (show (0 : Int32) = 0 ∧ (0 : Int32) = 0 from ⟨rfl, rfl⟩)]
theorem m_149d : fX12_game_b149 a b c d k 0 0 0 1 m = some (if k = 0 then 0 else if k = 2 then d else 1, m) := by
  unfold fX12_game_b149 fX12_game_b171
  rw [if_pos rfl, if_pos rfl, if_pos rfl, if_neg one_ne0, if_pos rfl, if_pos rfl, if_pos rfl, m_200, if_pos (show (0 : Int32) = 0 ∧ (0 : Int32) = 0 from ⟨rfl, rfl⟩)]
theorem m_130 {v6 v7 w : Int32} : fX12_game_b130 a b c d k v6 v7 w m = fX12_game_b149 a b c d k v6 v7 w (if ¬ (c < d) ∧ ¬ (d < b) then 1 else 0) m := by
  unfold fX12_game_b130 fX12_game_b148
  rw [sd]; split <;> rfl
theorem m_112 {v6 w : Int32} : fX12_game_b112 a b c d k v6 w m = fX12_game_b130 a b c d k v6 w (if ¬ (d < c) ∧ ¬ (c < a) then 1 else 0) m := by
  unfold fX12_game_b112 fX12_game_b129
  rw [sd]; split <;> rfl
theorem m_94 {w : Int32} : fX12_game_b94 a b c d k w m = fX12_game_b112 a b c d k w (if ¬ (a < b) ∧ ¬ (b < d) then 1 else 0) m := by
  unfold fX12_game_b94 fX12_game_b111
  rw [sd]; split <;> rfl
theorem ent {x : Int32} (h : -99 ≤ x ∧ x ≤ 99) : -99 ≤ x.toInt ∧ x.toInt ≤ 99 := by
  have h1 := Int32.le_iff_toInt_le.mp h.1
  have h2 := Int32.le_iff_toInt_le.mp h.2
  have e1 : (-99 : Int32).toInt = -99 := by decide
  have e2 : (99 : Int32).toInt = 99 := by decide
  omega
theorem ti_sub {x y : Int32} (h : -1000000 ≤ x.toInt - y.toInt ∧ x.toInt - y.toInt ≤ 1000000) : (x - y).toInt = x.toInt - y.toInt := by
  rw [Int32.toInt_sub, Int.bmod_eq_of_le (by omega) (by omega)]
theorem ti_add {x y : Int32} (h : -1000000 ≤ x.toInt + y.toInt ∧ x.toInt + y.toInt ≤ 1000000) : (x + y).toInt = x.toInt + y.toInt := by
  rw [Int32.toInt_add, Int.bmod_eq_of_le (by omega) (by omega)]
theorem ti_mul {x y : Int32} (hx : -99 ≤ x.toInt ∧ x.toInt ≤ 99) (hy : -99 ≤ y.toInt ∧ y.toInt ≤ 99) : (x * y).toInt = x.toInt * y.toInt ∧ -9801 ≤ x.toInt * y.toInt ∧ x.toInt * y.toInt ≤ 9801 := by
  have hn : (x.toInt * y.toInt).natAbs ≤ 99 * 99 := by
    rw [Int.natAbs_mul]
    exact Nat.mul_le_mul (by omega) (by omega)
  rw [Int32.toInt_mul, Int.bmod_eq_of_le (by omega) (by omega)]
  exact ⟨rfl, by omega, by omega⟩
/-- no entry holds: a true mixture -/
theorem mixed (ha : -99 ≤ a ∧ a ≤ 99) (hb : -99 ≤ b ∧ b ≤ 99) (hc : -99 ≤ c ∧ c ≤ 99) (hd : -99 ≤ d ∧ d ≤ 99) (s1 : ¬ (¬ (b < a) ∧ ¬ (a < c))) (s2 : ¬ (¬ (a < b) ∧ ¬ (b < d))) (s3 : ¬ (¬ (d < c) ∧ ¬ (c < a))) (s4 : ¬ (¬ (c < d) ∧ ¬ (d < b))) : sm5 (((a - b) + d) - c) ∧ ((a - b) + d) - c ≠ 0 ∧ sm5 (d - c) ∧ sm5 ((a * d) - (b * c)) := by
  have ha' := ent ha
  have hb' := ent hb
  have hc' := ent hc
  have hd' := ent hd
  rw [Int32.lt_iff_toInt_lt, Int32.lt_iff_toInt_lt] at s1 s2 s3 s4
  have e1 : (a - b).toInt = a.toInt - b.toInt := ti_sub (by omega)
  have e2 : ((a - b) + d).toInt = a.toInt - b.toInt + d.toInt := by rw [ti_add (by omega), e1]
  have e3 : (((a - b) + d) - c).toInt = a.toInt - b.toInt + d.toInt - c.toInt := by rw [ti_sub (by omega), e2]
  have e4 : (d - c).toInt = d.toInt - c.toInt := ti_sub (by omega)
  obtain ⟨p1, p2, p3⟩ := ti_mul ha' hd'
  obtain ⟨p4, p5, p6⟩ := ti_mul hb' hc'
  have e5 : ((a * d) - (b * c)).toInt = a.toInt * d.toInt - b.toInt * c.toInt := by rw [ti_sub (by omega), p1, p4]
  refine ⟨?_, fun q => ?_, ?_, ?_⟩
  · unfold sm5; rw [e3]; omega
  · have := congrArg Int32.toInt q
    have e0 : (0 : Int32).toInt = 0 := by decide
    rw [e3, e0] at this
    omega
  · unfold sm5; rw [e4]; omega
  · unfold sm5; rw [e5]; omega
end Game
theorem game_both {fz : List FP} {st m : St} (a b c d k : Int32) : Sm st (sI m 0 0) (fX11_game a b c d k fz st) (fX12_game a b c d k m) := by
  have ie : ∀ x : Int32, fX11_isEntry x = some (if (-99 : Int32) ≤ x ∧ x ≤ 99 then 1 else 0) := fun x => by
    unfold fX11_isEntry
    rw [c_within, bs_v, gb_ite]
  unfold fX11_game fX12_game
  rw [lt_v, ie, bs_v, ie, bs_v, ie, bs_v, ie, bs_v, c_within, bs_v, m_in32 a (-99) 99 (-99) 99 rfl rfl, bs_v, m_in32 b (-99) 99 (-99) 99 rfl rfl, bs_v, m_in32 c (-99) 99 (-99) 99 rfl rfl, bs_v, m_in32 d (-99) 99 (-99) 99 rfl rfl, bs_v, m_in32 k 0 3 0 3 rfl rfl, bs_v]
  by_cases ha : ¬ ((-99 : Int32) ≤ a ∧ a ≤ 99)
  · rw [if_neg ha, if_pos rfl, if_pos rfl]; exact Sm.rf
  replace ha := Decidable.of_not_not ha
  rw [if_pos ha, if_neg one_ne0, if_neg one_ne0]
  by_cases hb : ¬ ((-99 : Int32) ≤ b ∧ b ≤ 99)
  · rw [if_neg hb, if_pos rfl, if_pos rfl]; exact Sm.rf
  replace hb := Decidable.of_not_not hb
  rw [if_pos hb, if_neg one_ne0, if_neg one_ne0]
  by_cases hc : ¬ ((-99 : Int32) ≤ c ∧ c ≤ 99)
  · rw [if_neg hc, if_pos rfl, if_pos rfl]; exact Sm.rf
  replace hc := Decidable.of_not_not hc
  rw [if_pos hc, if_neg one_ne0, if_neg one_ne0]
  by_cases hd : ¬ ((-99 : Int32) ≤ d ∧ d ≤ 99)
  · rw [if_neg hd, if_pos rfl, if_pos rfl]; exact Sm.rf
  replace hd := Decidable.of_not_not hd
  rw [if_pos hd, if_neg one_ne0, if_neg one_ne0]
  by_cases hk : ¬ ((0 : Int32) ≤ k ∧ k ≤ 3)
  · rw [if_neg hk, if_pos rfl, if_pos rfl]; exact Sm.rf
  replace hk := Decidable.of_not_not hk
  rw [if_pos hk, if_neg one_ne0, if_neg one_ne0, sd, sd]
  unfold fX12_game_b93
  rw [m_94, m_94, m_112, m_112, m_130, m_130]
  by_cases s1 : ¬ (b < a) ∧ ¬ (a < c)
  · rw [if_pos s1, if_pos s1, m_149a, c_pure, bs_v]; exact Sm.rf
  rw [if_neg s1, if_neg s1]
  unfold fX11_game_b60
  rw [sd]
  by_cases s2 : ¬ (a < b) ∧ ¬ (b < d)
  · rw [if_pos s2, if_pos s2, m_149b, c_pure, bs_v]; exact Sm.rf
  rw [if_neg s2, if_neg s2]
  unfold fX11_game_b79
  rw [sd]
  by_cases s3 : ¬ (d < c) ∧ ¬ (c < a)
  · rw [if_pos s3, if_pos s3, m_149c, c_pure, bs_v]; exact Sm.rf
  rw [if_neg s3, if_neg s3]
  unfold fX11_game_b98
  rw [sd]
  by_cases s4 : ¬ (c < d) ∧ ¬ (d < b)
  · rw [if_pos s4, if_pos s4, m_149d, c_pure, bs_v]; exact Sm.rf
  rw [if_neg s4, if_neg s4]
  obtain ⟨x1, x2, x3, x4⟩ := mixed ha hb hc hd s1 s2 s3 s4
  unfold fX12_game_b149 fX11_game_b119 fX11_game_b140 fX11_game_b165 fX12_game_b297 fX12_game_b270 fX12_game_b300
  rw [if_pos rfl, if_pos rfl, if_pos rfl, if_pos rfl, lt_v]
  obtain ⟨n, hn, en⟩ := oN_exb (b := 3) hk.1 (by decide) hk.2
  have hn4 : n = 0 ∨ n = 1 ∨ n = 2 ∨ n = 3 := by omega
  rcases hn4 with e | e | e | e <;> subst e <;> subst en
  · obtain ⟨v, k1, k2⟩ := frac_both (w := 0) (w2 := 1) x3 x1 x2 (Or.inl ⟨rfl, rfl⟩)
    rw [if_neg (show ¬ ((1 : Int32) < Int32.ofNat 0) by decide), if_neg (show ¬ ((Int32.ofNat 0 &&& 1) = (1 : Int32)) by decide), if_neg (show ¬ ((2 : Int32) ≤ Int32.ofNat 0) by decide), if_pos (show Int32.ofNat 0 = 0 from rfl), k1, k2, bs_v, bs_v]
    exact Sm.rf
  · obtain ⟨v, k1, k2⟩ := frac_both (w := 1) (w2 := 0) x3 x1 x2 (Or.inr ⟨rfl, rfl⟩)
    rw [if_neg (show ¬ ((1 : Int32) < Int32.ofNat 1) by decide), if_pos (show (Int32.ofNat 1 &&& 1) = (1 : Int32) by decide), if_neg (show ¬ ((2 : Int32) ≤ Int32.ofNat 1) by decide), if_neg (show ¬ (Int32.ofNat 1 = 0) by decide), k1, k2, bs_v, bs_v]
    exact Sm.rf
  · obtain ⟨v, k1, k2⟩ := frac_both (w := 0) (w2 := 1) x4 x1 x2 (Or.inl ⟨rfl, rfl⟩)
    rw [if_pos (show ((1 : Int32) < Int32.ofNat 2) by decide), if_neg (show ¬ ((Int32.ofNat 2 &&& 1) = (1 : Int32)) by decide), if_pos (show ((2 : Int32) ≤ Int32.ofNat 2) by decide), if_pos (show Int32.ofNat 2 = 2 from rfl), k1, k2, bs_v, bs_v]
    exact Sm.rf
  · obtain ⟨v, k1, k2⟩ := frac_both (w := 1) (w2 := 0) x4 x1 x2 (Or.inr ⟨rfl, rfl⟩)
    rw [if_pos (show ((1 : Int32) < Int32.ofNat 3) by decide), if_pos (show (Int32.ofNat 3 &&& 1) = (1 : Int32) by decide), if_pos (show ((2 : Int32) ≤ Int32.ofNat 3) by decide), if_neg (show ¬ (Int32.ofNat 3 = 2) by decide), k1, k2, bs_v, bs_v]
    exact Sm.rf
