/-! T2, the class's machine is one of the machines -/
theorem sB_sB (st : St) (k : Nat) (f g : Nat → Int64) : sB (sB st k f) k g = sB st k g := by
  unfold sB
  congr 4
  funext j
  simp only [vup_v]
  split <;> rfl
/-- what the class joins: a broken one is far below -/
def jv (o : Nat) (a b : Int64) : Int64 := if (o = 5 ∨ o = 6) ∧ b = 0 then -2147483648 else jr o a b
theorem jv_some {o : Nat} {a b r : Int64} (h2 : 2 ≤ o) (h : jn o a b = some r) : jv o a b = r ∧ -1000000000 ≤ jv o a b ∧ jv o a b ≤ 1000000000 := by
  unfold jn at h
  unfold jv
  split at h
  · cases h
  · rename_i h1
    rw [if_neg h1]
    split at h
    · rename_i h3
      cases h
      exact ⟨rfl, h3⟩
    · cases h
theorem jv_none {o : Nat} {a b : Int64} (h : jn o a b = none) (h1 : -1000000000 ≤ jv o a b) (h2 : jv o a b ≤ 1000000000) : False := by
  unfold jn at h
  unfold jv at h1 h2
  split at h
  · rename_i h3
    rw [if_pos h3] at h1
    exact absurd h1 (by decide)
  · rename_i h3
    rw [if_neg h3] at h1 h2
    rw [if_pos ⟨h1, h2⟩] at h
    cases h
theorem c_joined {o : Nat} {a b : Int64} (h2 : 2 ≤ o) (h9 : o ≤ 9) : fX8_joined (Int32.ofNat o) a b = some (jv o a b) := by
  have h : o = 2 ∨ o = 3 ∨ o = 4 ∨ o = 5 ∨ o = 6 ∨ o = 7 ∨ o = 8 ∨ o = 9 := by omega
  unfold fX8_joined fX8_joined_b71 fX8_joined_b87 fX8_joined_b99 fX8_joined_b111 fX8_joined_b123 jv jr
  rcases h with rfl | rfl | rfl | rfl | rfl | rfl | rfl | rfl
  · rfl
  · rfl
  · rfl
  · simp only [cmp_eq]
    by_cases h0 : b = 0
    · subst h0; rfl
    · simp [h0, gzl]
  · simp only [cmp_eq]
    by_cases h0 : b = 0
    · subst h0; rfl
    · simp [h0, gzl]
  · simp only [cmp_ge]
    by_cases h0 : a < b
    · simp [h0, Int64.not_le.mpr h0]
    · simp [h0, Int64.not_lt.mp h0]
  · simp only [cmp_le]
    by_cases h0 : b < a
    · simp [h0, Int64.not_le.mpr h0]
    · simp [h0, Int64.not_lt.mp h0]
  · simp only [cmp_eq]
    by_cases h0 : a = b
    · simp [h0]
    · simp [h0]

theorem KL_step {P : FP} {fz : List FP} {st : St} {stop : Nat} {cd : Nat → Nat × Nat} {w : Nat → Int64} (h4 : stop ≤ 400) (hcd : ∀ q, q < stop → (P.2.2.2.2.1 3) q = cell (cd q) ∧ (cd q).1 < 16 ∧ (cd q).2 < 100000) (hlen : stop ≤ P.2.1 3) (hlen2 : P.2.1 3 < 2147483648) (hw : ∀ k, k < 10 → w k = (st.2.2.1 801 k).toInt64) : StepC cd w 10 stop (fun n t go q s => lp (fun _ _ _ _ _ => none) (fX8_worth__law_801_803_b74 P fz) n (Int32.ofNat stop) (Int32.ofNat t) (Int32.ofNat go) (Int32.ofNat q) (sB st 803 s)) (fun x => ∃ s, x = some (-2147483648, sB st 803 s)) := by
  have rd : ∀ s, (sB st 803 s).2.2.2.1 803 = s := fun _ => rfl
  have hx9 : ∀ q, q < stop → (P.2.2.2.2.1 3) q &&& 15 = Int32.ofNat (cd q).1 := fun q hq => by rw [(hcd q hq).1]; exact cell_step (hcd q hq).2.1 (by have := (hcd q hq).2.2; omega)
  have hx10 : ∀ q, q < stop → (P.2.2.2.2.1 3) q >>> ((4 : Int32) &&& 31) = Int32.ofNat (cd q).2 := fun q hq => by rw [(hcd q hq).1]; exact cell_val (hcd q hq).2.1 (by have := (hcd q hq).2.2; omega)
  have head : ∀ n t go q s, q < stop → lp (fun _ _ _ _ _ => none) (fX8_worth__law_801_803_b74 P fz) (n + 1) (Int32.ofNat stop) (Int32.ofNat t) (Int32.ofNat go) (Int32.ofNat q) (sB st 803 s) = (if Int32.ofNat go ≤ Int32.ofNat q then (if (1 : Int32) < Int32.ofNat (cd q).1 then (if (10 : Int32) ≤ Int32.ofNat (cd q).1 then (fX8_worth__law_801_803_b191 P fz (lp (fun _ _ _ _ _ => none) (fX8_worth__law_801_803_b74 P fz) n) (Int32.ofNat stop) (Int32.ofNat t) (Int32.ofNat go) (Int32.ofNat q) (Int32.ofNat (cd q).1) (Int32.ofNat (cd q).2) (1 : Int32) (Int32.ofNat t) (sB st 803 s)) else (fX8_worth__law_801_803_b191 P fz (lp (fun _ _ _ _ _ => none) (fX8_worth__law_801_803_b74 P fz) n) (Int32.ofNat stop) (Int32.ofNat t) (Int32.ofNat go) (Int32.ofNat q) (Int32.ofNat (cd q).1) (Int32.ofNat (cd q).2) (2 : Int32) (Int32.ofNat t) (sB st 803 s))) else (if (64 : Int32) ≤ Int32.ofNat t then (fX8_worth__law_801_803_b146 P fz (sB st 803 s)) else (if Int32.ofNat (cd q).2 < 0 then (fX8_worth__law_801_803_b146 P fz (sB st 803 s)) else (if Int32.ofNat (cd q).1 = (1 : Int32) then (if Int32.ofNat (cd q).2 < (10 : Int32) then (fX8_worth__law_801_803_b149 P fz (lp (fun _ _ _ _ _ => none) (fX8_worth__law_801_803_b74 P fz) n) (Int32.ofNat stop) (Int32.ofNat t) (Int32.ofNat go) (Int32.ofNat q) (Int32.ofNat (cd q).1) (Int32.ofNat (cd q).2) (sB st 803 s)) else (fX8_worth__law_801_803_b146 P fz (sB st 803 s))) else (fX8_worth__law_801_803_b149 P fz (lp (fun _ _ _ _ _ => none) (fX8_worth__law_801_803_b74 P fz) n) (Int32.ofNat stop) (Int32.ofNat t) (Int32.ofNat go) (Int32.ofNat q) (Int32.ofNat (cd q).1) (Int32.ofNat (cd q).2) (sB st 803 s)))))) else (fX8_worth__law_801_803_b330 P fz (lp (fun _ _ _ _ _ => none) (fX8_worth__law_801_803_b74 P fz) n) (Int32.ofNat stop) (Int32.ofNat t) (Int32.ofNat go) (Int32.ofNat q) (sB st 803 s))) := by
    intro n t go q s hq
    rw [lp_s]
    generalize lp (fun _ _ _ _ _ => none) (fX8_worth__law_801_803_b74 P fz) n = k
    have hc : (Int32.ofNat q).toNatClampNeg = q := oN_tn (by omega)
    unfold fX8_worth__law_801_803_b74
    rw [if_leF hq (by omega), gi_N (Nat.lt_of_lt_of_le hq hlen) (by omega), hc]
    skip
    rw [hx9 q hq, lt_v, gi_N (Nat.lt_of_lt_of_le hq hlen) (by omega), hx10 q hq, lt_v]
  refine ⟨?_, ?_, ?_, ?_, ?_, ?_, ?_⟩
  · intro n t go q s hq hg hg4
    dsimp only
    rw [head n t go q s hq, if_leF hg (by omega)]
    unfold fX8_worth__law_801_803_b330
    rw [lt_v, oN_s]
  · intro n t go q s v hq hg hc hv ht
    dsimp only
    rw [head n t go q s hq, if_leT hg (by omega), hc]
    dsimp only
    rw [show (1 : Int32) = Int32.ofNat 1 from rfl, show (64 : Int32) = Int32.ofNat 64 from rfl, if_ltF (by decide) (by decide), if_leF (by omega) (by omega), if_neg (oN_neg (by omega)), if_eqF (by decide) (by decide) (by decide)]
    unfold fX8_worth__law_801_803_b149 fX8_worth__law_801_803_b170 fX8_worth__law_801_803_b330
    rw [if_neg (show ¬ (Int32.ofNat 0 = (1 : Int32)) by decide), gi_N (by omega) (by omega), oN_tn (by omega), lt_v, lt_v, lt_v, oN_s, oN_s, rd, sB_sB, o64 (by omega)]
  · intro n t go q s v hq hg hc hv ht
    dsimp only
    rw [head n t go q s hq, if_leT hg (by omega), hc]
    dsimp only
    rw [show (1 : Int32) = Int32.ofNat 1 from rfl, show (64 : Int32) = Int32.ofNat 64 from rfl, if_ltF (by decide) (by decide), if_leF (by omega) (by omega), if_neg (oN_neg (by omega)), if_eqT rfl, show (10 : Int32) = Int32.ofNat 10 from rfl, if_ltT (by omega) (by omega)]
    unfold fX8_worth__law_801_803_b149 fX8_worth__law_801_803_b170 fX8_worth__law_801_803_b330
    rw [if_pos (show Int32.ofNat 1 = (1 : Int32) from rfl), gi_N (by omega) (by omega), gi_N (by omega) (by omega), oN_tn (by omega), oN_tn (by omega), lt_v, lt_v, lt_v, oN_s, oN_s, rd, sB_sB, hw v hv]
    rfl
  · intro n t go q s o x hq hg hc h2 h9 ht
    have ex4 : Int32.ofNat (t + 2) + -1 = Int32.ofNat (t + 1) := by rw [oN_pred (by omega)]; rfl
    have ex5 : Int32.ofNat (t + 1) - 1 = Int32.ofNat t := by rw [show (1 : Int32) = Int32.ofNat 1 from rfl, oN_sub (by omega)]; rfl
    have main : lp (fun _ _ _ _ _ => none) (fX8_worth__law_801_803_b74 P fz) (n + 1) (Int32.ofNat stop) (Int32.ofNat (t + 2)) (Int32.ofNat go) (Int32.ofNat q) (sB st 803 s) = if (1000000000 : Int64) < jv o (s t) (s (t + 1)) then some (-2147483648, sB st 803 (vp_updL s t (jv o (s t) (s (t + 1))))) else (if (-1000000000 : Int64) ≤ jv o (s t) (s (t + 1)) then lp (fun _ _ _ _ _ => none) (fX8_worth__law_801_803_b74 P fz) n (Int32.ofNat stop) (Int32.ofNat (t + 1)) (Int32.ofNat go) (Int32.ofNat (q + 1)) (sB st 803 (vp_updL s t (jv o (s t) (s (t + 1))))) else some (-2147483648, sB st 803 (vp_updL s t (jv o (s t) (s (t + 1)))))) := by
      rw [head n (t + 2) go q s hq, if_leT hg (by omega), hc]
      dsimp only
      rw [show (1 : Int32) = Int32.ofNat 1 from rfl, show (10 : Int32) = Int32.ofNat 10 from rfl, if_ltT (by omega) (by omega), if_leF (by omega) (by omega)]
      unfold fX8_worth__law_801_803_b191 fX8_worth__law_801_803_b259 fX8_worth__law_801_803_b330
      rw [show (2 : Int32) = Int32.ofNat 2 from rfl, show (10 : Int32) = Int32.ofNat 10 from rfl, if_leT (by omega) (by omega), if_leF (by omega) (by omega), lt_v, ex4, ex5, gi_N (by omega) (by omega), gi_N (by omega) (by omega), oN_tn (by omega), oN_tn (by omega), rd, c_joined h2 h9, bs_v, gi_N (by omega) (by omega), lt_v, gi_N (by omega) (by omega), sB_sB, rd, updL_eq]
      simp only [cmp_gt, cmp_ge]
      rw [gi_N (by omega) (by omega), lt_v, oN_s]
    constructor
    · intro r hr
      obtain ⟨j1, j2, j3⟩ := jv_some h2 hr
      dsimp only
      rw [main, if_neg (Int64.not_lt.mpr j3), if_pos j2, j1]
    · intro hr
      refine ⟨vp_updL s t (jv o (s t) (s (t + 1))), ?_⟩
      · dsimp only
        rw [main]
        by_cases hgt : (1000000000 : Int64) < jv o (s t) (s (t + 1))
        · rw [if_pos hgt]
        · rw [if_neg hgt, if_neg (fun hle => jv_none hr hle (Int64.not_lt.mp hgt))]
  · intro n t go q s x hq hg hc ht
    have ex5 : Int32.ofNat (t + 1) - 1 = Int32.ofNat t := by rw [show (1 : Int32) = Int32.ofNat 1 from rfl, oN_sub (by omega)]; rfl
    dsimp only
    rw [head n (t + 1) go q s hq, if_leT hg (by omega), hc]
    dsimp only
    rw [show (1 : Int32) = Int32.ofNat 1 from rfl, show (10 : Int32) = Int32.ofNat 10 from rfl, if_ltT (by decide) (by decide), if_leT (by decide) (by decide)]
    unfold fX8_worth__law_801_803_b191 fX8_worth__law_801_803_b330
    rw [if_leT (by omega) (by omega), show (10 : Int32) = Int32.ofNat 10 from rfl, if_leT (by decide) (by decide), if_eqT rfl, ex5, gi_N (by omega) (by omega), gi_N (by omega) (by omega), oN_tn (by omega), lt_v, lt_v, oN_s, rd, sB_sB]
  · intro n t go q s x hq hg hc hx ht
    have ex5 : Int32.ofNat (t + 1) - 1 = Int32.ofNat t := by rw [show (1 : Int32) = Int32.ofNat 1 from rfl, oN_sub (by omega)]; rfl
    have ex4 : Int32.ofNat (t + 1) + -1 = Int32.ofNat t := by rw [oN_pred (by omega)]; rfl
    dsimp only
    rw [head n (t + 1) go q s hq, if_leT hg (by omega), hc]
    dsimp only
    rw [show (1 : Int32) = Int32.ofNat 1 from rfl, show (10 : Int32) = Int32.ofNat 10 from rfl, if_ltT (by decide) (by decide), if_leT (by decide) (by decide)]
    unfold fX8_worth__law_801_803_b191 fX8_worth__law_801_803_b305 fX8_worth__law_801_803_b317 fX8_worth__law_801_803_b330
    rw [if_leT (by omega) (by omega), show (10 : Int32) = Int32.ofNat 10 from rfl, if_leT (by decide) (by decide), if_eqF (by decide) (by decide) (by decide), ex5, gi_N (by omega) (by omega), oN_tn (by omega), rd, show (11 : Int32) = Int32.ofNat 11 from rfl]
    simp only [cmp_eq, if_eqT (show (11 : Nat) = 11 from rfl), lt_v, oN_s, ex4]
    by_cases h0 : s t = 0 <;> simp [h0]
  · intro n t go q s x hq hg hc hx ht
    have ex5 : Int32.ofNat (t + 1) - 1 = Int32.ofNat t := by rw [show (1 : Int32) = Int32.ofNat 1 from rfl, oN_sub (by omega)]; rfl
    have ex4 : Int32.ofNat (t + 1) + -1 = Int32.ofNat t := by rw [oN_pred (by omega)]; rfl
    dsimp only
    rw [head n (t + 1) go q s hq, if_leT hg (by omega), hc]
    dsimp only
    rw [show (1 : Int32) = Int32.ofNat 1 from rfl, show (10 : Int32) = Int32.ofNat 10 from rfl, if_ltT (by decide) (by decide), if_leT (by decide) (by decide)]
    unfold fX8_worth__law_801_803_b191 fX8_worth__law_801_803_b305 fX8_worth__law_801_803_b317 fX8_worth__law_801_803_b330
    rw [if_leT (by omega) (by omega), show (10 : Int32) = Int32.ofNat 10 from rfl, if_leT (by decide) (by decide), if_eqF (by decide) (by decide) (by decide), ex5, gi_N (by omega) (by omega), oN_tn (by omega), rd, show (11 : Int32) = Int32.ofNat 11 from rfl]
    simp only [cmp_eq, if_eqF (show (12 : Nat) ≠ 11 by decide) (show (12 : Nat) < 2147483648 by decide) (show (11 : Nat) < 2147483648 by decide), lt_v, oN_s, ex4]
    by_cases h0 : s t = 0 <;> simp [h0]
theorem KL_end {P : FP} {fz : List FP} {st : St} {stop n t go : Nat} {s : Nat → Int64} (h4 : stop ≤ 400) (ht : t ≤ 64) : lp (fun _ _ _ _ _ => none) (fX8_worth__law_801_803_b74 P fz) (n + 1) (Int32.ofNat stop) (Int32.ofNat t) (Int32.ofNat go) (Int32.ofNat stop) (sB st 803 s) = some (if t = 0 then 1 else (s (t - 1)).toInt32, sB st 803 s) := by
  rw [lp_s]
  generalize lp (fun _ _ _ _ _ => none) (fX8_worth__law_801_803_b74 P fz) n = k
  unfold fX8_worth__law_801_803_b74 fX8_worth__law_801_803_b353
  rw [if_leT (Nat.le_refl _) (by omega), show (0 : Int32) = Int32.ofNat 0 from rfl]
  by_cases h0 : t = 0
  · rw [if_eqT h0, if_pos h0]
  · rw [if_eqF h0 (by omega) (by omega), if_neg h0, show (1 : Int32) = Int32.ofNat 1 from rfl, oN_sub (by omega), gi_N (by omega) (by omega), oN_tn (by omega)]
    rfl

theorem KO_step {fz : List FP} {st : St} {stop : Nat} {cd : Nat → Nat × Nat} {w : Nat → Int64} (h4 : stop ≤ 400) (hcd : ∀ q, q < stop → (st.2.2.1 603) q = cell (cd q) ∧ (cd q).1 < 16 ∧ (cd q).2 < 100000) (hw : ∀ k, k < 19 → w k = (st.2.2.1 1004 k).toInt64) : StepC cd w 19 stop (fun n t go q s => lp (fun _ _ _ _ _ => none) (fX8_worth__6_1004_1005_b74 fz) n (Int32.ofNat stop) (Int32.ofNat t) (Int32.ofNat go) (Int32.ofNat q) (sB st 1005 s)) (fun x => ∃ s, x = some (-2147483648, sB st 1005 s)) := by
  have rd : ∀ s, (sB st 1005 s).2.2.2.1 1005 = s := fun _ => rfl
  have hx9 : ∀ q, q < stop → (st.2.2.1 603) q &&& 15 = Int32.ofNat (cd q).1 := fun q hq => by rw [(hcd q hq).1]; exact cell_step (hcd q hq).2.1 (by have := (hcd q hq).2.2; omega)
  have hx10 : ∀ q, q < stop → (st.2.2.1 603) q >>> ((4 : Int32) &&& 31) = Int32.ofNat (cd q).2 := fun q hq => by rw [(hcd q hq).1]; exact cell_val (hcd q hq).2.1 (by have := (hcd q hq).2.2; omega)
  have head : ∀ n t go q s, q < stop → lp (fun _ _ _ _ _ => none) (fX8_worth__6_1004_1005_b74 fz) (n + 1) (Int32.ofNat stop) (Int32.ofNat t) (Int32.ofNat go) (Int32.ofNat q) (sB st 1005 s) = (if Int32.ofNat go ≤ Int32.ofNat q then (if (1 : Int32) < Int32.ofNat (cd q).1 then (if (10 : Int32) ≤ Int32.ofNat (cd q).1 then (fX8_worth__6_1004_1005_b191 fz (lp (fun _ _ _ _ _ => none) (fX8_worth__6_1004_1005_b74 fz) n) (Int32.ofNat stop) (Int32.ofNat t) (Int32.ofNat go) (Int32.ofNat q) (Int32.ofNat (cd q).1) (Int32.ofNat (cd q).2) (1 : Int32) (Int32.ofNat t) (sB st 1005 s)) else (fX8_worth__6_1004_1005_b191 fz (lp (fun _ _ _ _ _ => none) (fX8_worth__6_1004_1005_b74 fz) n) (Int32.ofNat stop) (Int32.ofNat t) (Int32.ofNat go) (Int32.ofNat q) (Int32.ofNat (cd q).1) (Int32.ofNat (cd q).2) (2 : Int32) (Int32.ofNat t) (sB st 1005 s))) else (if (64 : Int32) ≤ Int32.ofNat t then (fX8_worth__6_1004_1005_b146 fz (sB st 1005 s)) else (if Int32.ofNat (cd q).2 < 0 then (fX8_worth__6_1004_1005_b146 fz (sB st 1005 s)) else (if Int32.ofNat (cd q).1 = (1 : Int32) then (if Int32.ofNat (cd q).2 < (19 : Int32) then (fX8_worth__6_1004_1005_b149 fz (lp (fun _ _ _ _ _ => none) (fX8_worth__6_1004_1005_b74 fz) n) (Int32.ofNat stop) (Int32.ofNat t) (Int32.ofNat go) (Int32.ofNat q) (Int32.ofNat (cd q).1) (Int32.ofNat (cd q).2) (sB st 1005 s)) else (fX8_worth__6_1004_1005_b146 fz (sB st 1005 s))) else (fX8_worth__6_1004_1005_b149 fz (lp (fun _ _ _ _ _ => none) (fX8_worth__6_1004_1005_b74 fz) n) (Int32.ofNat stop) (Int32.ofNat t) (Int32.ofNat go) (Int32.ofNat q) (Int32.ofNat (cd q).1) (Int32.ofNat (cd q).2) (sB st 1005 s)))))) else (fX8_worth__6_1004_1005_b330 fz (lp (fun _ _ _ _ _ => none) (fX8_worth__6_1004_1005_b74 fz) n) (Int32.ofNat stop) (Int32.ofNat t) (Int32.ofNat go) (Int32.ofNat q) (sB st 1005 s))) := by
    intro n t go q s hq
    rw [lp_s]
    generalize lp (fun _ _ _ _ _ => none) (fX8_worth__6_1004_1005_b74 fz) n = k
    have hc : (Int32.ofNat q).toNatClampNeg = q := oN_tn (by omega)
    unfold fX8_worth__6_1004_1005_b74
    rw [if_leF hq (by omega), gi_N (show q < 400 by omega) (by omega), hc]
    have ec : (sB st 1005 s).2.2.1 603 = st.2.2.1 603 := rfl
    rw [ec]
    rw [hx9 q hq, lt_v, gi_N (show q < 400 by omega) (by omega), hx10 q hq, lt_v]
  refine ⟨?_, ?_, ?_, ?_, ?_, ?_, ?_⟩
  · intro n t go q s hq hg hg4
    dsimp only
    rw [head n t go q s hq, if_leF hg (by omega)]
    unfold fX8_worth__6_1004_1005_b330
    rw [lt_v, oN_s]
  · intro n t go q s v hq hg hc hv ht
    dsimp only
    rw [head n t go q s hq, if_leT hg (by omega), hc]
    dsimp only
    rw [show (1 : Int32) = Int32.ofNat 1 from rfl, show (64 : Int32) = Int32.ofNat 64 from rfl, if_ltF (by decide) (by decide), if_leF (by omega) (by omega), if_neg (oN_neg (by omega)), if_eqF (by decide) (by decide) (by decide)]
    unfold fX8_worth__6_1004_1005_b149 fX8_worth__6_1004_1005_b170 fX8_worth__6_1004_1005_b330
    rw [if_neg (show ¬ (Int32.ofNat 0 = (1 : Int32)) by decide), gi_N (by omega) (by omega), oN_tn (by omega), lt_v, lt_v, lt_v, oN_s, oN_s, rd, sB_sB, o64 (by omega)]
  · intro n t go q s v hq hg hc hv ht
    dsimp only
    rw [head n t go q s hq, if_leT hg (by omega), hc]
    dsimp only
    rw [show (1 : Int32) = Int32.ofNat 1 from rfl, show (64 : Int32) = Int32.ofNat 64 from rfl, if_ltF (by decide) (by decide), if_leF (by omega) (by omega), if_neg (oN_neg (by omega)), if_eqT rfl, show (19 : Int32) = Int32.ofNat 19 from rfl, if_ltT (by omega) (by omega)]
    unfold fX8_worth__6_1004_1005_b149 fX8_worth__6_1004_1005_b170 fX8_worth__6_1004_1005_b330
    rw [if_pos (show Int32.ofNat 1 = (1 : Int32) from rfl), gi_N (by omega) (by omega), gi_N (by omega) (by omega), oN_tn (by omega), oN_tn (by omega), lt_v, lt_v, lt_v, oN_s, oN_s, rd, sB_sB, hw v hv]
    rfl
  · intro n t go q s o x hq hg hc h2 h9 ht
    have ex4 : Int32.ofNat (t + 2) + -1 = Int32.ofNat (t + 1) := by rw [oN_pred (by omega)]; rfl
    have ex5 : Int32.ofNat (t + 1) - 1 = Int32.ofNat t := by rw [show (1 : Int32) = Int32.ofNat 1 from rfl, oN_sub (by omega)]; rfl
    have main : lp (fun _ _ _ _ _ => none) (fX8_worth__6_1004_1005_b74 fz) (n + 1) (Int32.ofNat stop) (Int32.ofNat (t + 2)) (Int32.ofNat go) (Int32.ofNat q) (sB st 1005 s) = if (1000000000 : Int64) < jv o (s t) (s (t + 1)) then some (-2147483648, sB st 1005 (vp_updL s t (jv o (s t) (s (t + 1))))) else (if (-1000000000 : Int64) ≤ jv o (s t) (s (t + 1)) then lp (fun _ _ _ _ _ => none) (fX8_worth__6_1004_1005_b74 fz) n (Int32.ofNat stop) (Int32.ofNat (t + 1)) (Int32.ofNat go) (Int32.ofNat (q + 1)) (sB st 1005 (vp_updL s t (jv o (s t) (s (t + 1))))) else some (-2147483648, sB st 1005 (vp_updL s t (jv o (s t) (s (t + 1)))))) := by
      rw [head n (t + 2) go q s hq, if_leT hg (by omega), hc]
      dsimp only
      rw [show (1 : Int32) = Int32.ofNat 1 from rfl, show (10 : Int32) = Int32.ofNat 10 from rfl, if_ltT (by omega) (by omega), if_leF (by omega) (by omega)]
      unfold fX8_worth__6_1004_1005_b191 fX8_worth__6_1004_1005_b259 fX8_worth__6_1004_1005_b330
      rw [show (2 : Int32) = Int32.ofNat 2 from rfl, show (10 : Int32) = Int32.ofNat 10 from rfl, if_leT (by omega) (by omega), if_leF (by omega) (by omega), lt_v, ex4, ex5, gi_N (by omega) (by omega), gi_N (by omega) (by omega), oN_tn (by omega), oN_tn (by omega), rd, c_joined h2 h9, bs_v, gi_N (by omega) (by omega), lt_v, gi_N (by omega) (by omega), sB_sB, rd, updL_eq]
      simp only [cmp_gt, cmp_ge]
      rw [gi_N (by omega) (by omega), lt_v, oN_s]
    constructor
    · intro r hr
      obtain ⟨j1, j2, j3⟩ := jv_some h2 hr
      dsimp only
      rw [main, if_neg (Int64.not_lt.mpr j3), if_pos j2, j1]
    · intro hr
      refine ⟨vp_updL s t (jv o (s t) (s (t + 1))), ?_⟩
      · dsimp only
        rw [main]
        by_cases hgt : (1000000000 : Int64) < jv o (s t) (s (t + 1))
        · rw [if_pos hgt]
        · rw [if_neg hgt, if_neg (fun hle => jv_none hr hle (Int64.not_lt.mp hgt))]
  · intro n t go q s x hq hg hc ht
    have ex5 : Int32.ofNat (t + 1) - 1 = Int32.ofNat t := by rw [show (1 : Int32) = Int32.ofNat 1 from rfl, oN_sub (by omega)]; rfl
    dsimp only
    rw [head n (t + 1) go q s hq, if_leT hg (by omega), hc]
    dsimp only
    rw [show (1 : Int32) = Int32.ofNat 1 from rfl, show (10 : Int32) = Int32.ofNat 10 from rfl, if_ltT (by decide) (by decide), if_leT (by decide) (by decide)]
    unfold fX8_worth__6_1004_1005_b191 fX8_worth__6_1004_1005_b330
    rw [if_leT (by omega) (by omega), show (10 : Int32) = Int32.ofNat 10 from rfl, if_leT (by decide) (by decide), if_eqT rfl, ex5, gi_N (by omega) (by omega), gi_N (by omega) (by omega), oN_tn (by omega), lt_v, lt_v, oN_s, rd, sB_sB]
  · intro n t go q s x hq hg hc hx ht
    have ex5 : Int32.ofNat (t + 1) - 1 = Int32.ofNat t := by rw [show (1 : Int32) = Int32.ofNat 1 from rfl, oN_sub (by omega)]; rfl
    have ex4 : Int32.ofNat (t + 1) + -1 = Int32.ofNat t := by rw [oN_pred (by omega)]; rfl
    dsimp only
    rw [head n (t + 1) go q s hq, if_leT hg (by omega), hc]
    dsimp only
    rw [show (1 : Int32) = Int32.ofNat 1 from rfl, show (10 : Int32) = Int32.ofNat 10 from rfl, if_ltT (by decide) (by decide), if_leT (by decide) (by decide)]
    unfold fX8_worth__6_1004_1005_b191 fX8_worth__6_1004_1005_b305 fX8_worth__6_1004_1005_b317 fX8_worth__6_1004_1005_b330
    rw [if_leT (by omega) (by omega), show (10 : Int32) = Int32.ofNat 10 from rfl, if_leT (by decide) (by decide), if_eqF (by decide) (by decide) (by decide), ex5, gi_N (by omega) (by omega), oN_tn (by omega), rd, show (11 : Int32) = Int32.ofNat 11 from rfl]
    simp only [cmp_eq, if_eqT (show (11 : Nat) = 11 from rfl), lt_v, oN_s, ex4]
    by_cases h0 : s t = 0 <;> simp [h0]
  · intro n t go q s x hq hg hc hx ht
    have ex5 : Int32.ofNat (t + 1) - 1 = Int32.ofNat t := by rw [show (1 : Int32) = Int32.ofNat 1 from rfl, oN_sub (by omega)]; rfl
    have ex4 : Int32.ofNat (t + 1) + -1 = Int32.ofNat t := by rw [oN_pred (by omega)]; rfl
    dsimp only
    rw [head n (t + 1) go q s hq, if_leT hg (by omega), hc]
    dsimp only
    rw [show (1 : Int32) = Int32.ofNat 1 from rfl, show (10 : Int32) = Int32.ofNat 10 from rfl, if_ltT (by decide) (by decide), if_leT (by decide) (by decide)]
    unfold fX8_worth__6_1004_1005_b191 fX8_worth__6_1004_1005_b305 fX8_worth__6_1004_1005_b317 fX8_worth__6_1004_1005_b330
    rw [if_leT (by omega) (by omega), show (10 : Int32) = Int32.ofNat 10 from rfl, if_leT (by decide) (by decide), if_eqF (by decide) (by decide) (by decide), ex5, gi_N (by omega) (by omega), oN_tn (by omega), rd, show (11 : Int32) = Int32.ofNat 11 from rfl]
    simp only [cmp_eq, if_eqF (show (12 : Nat) ≠ 11 by decide) (show (12 : Nat) < 2147483648 by decide) (show (11 : Nat) < 2147483648 by decide), lt_v, oN_s, ex4]
    by_cases h0 : s t = 0 <;> simp [h0]
theorem KO_end {fz : List FP} {st : St} {stop n t go : Nat} {s : Nat → Int64} (h4 : stop ≤ 400) (ht : t ≤ 64) : lp (fun _ _ _ _ _ => none) (fX8_worth__6_1004_1005_b74 fz) (n + 1) (Int32.ofNat stop) (Int32.ofNat t) (Int32.ofNat go) (Int32.ofNat stop) (sB st 1005 s) = some (if t = 0 then 1 else (s (t - 1)).toInt32, sB st 1005 s) := by
  rw [lp_s]
  generalize lp (fun _ _ _ _ _ => none) (fX8_worth__6_1004_1005_b74 fz) n = k
  unfold fX8_worth__6_1004_1005_b74 fX8_worth__6_1004_1005_b353
  rw [if_leT (Nat.le_refl _) (by omega), show (0 : Int32) = Int32.ofNat 0 from rfl]
  by_cases h0 : t = 0
  · rw [if_eqT h0, if_pos h0]
  · rw [if_eqF h0 (by omega) (by omega), if_neg h0, show (1 : Int32) = Int32.ofNat 1 from rfl, oN_sub (by omega), gi_N (by omega) (by omega), oN_tn (by omega)]
    rfl
