/-! T2, the reference's machine is one of the machines -/
def mS (st : St) (b : Int32) (s : Nat → Int64) : St := sB (sI st 38 b) 37 s
theorem mS_38 {st : St} {a b : Int32} {s : Nat → Int64} : sI (mS st a s) 38 b = mS st b s := by
  show sB (sI (sI st 38 a) 38 b) 37 s = _
  rw [sI_sI]; rfl
theorem mS_37 {st : St} {a : Int32} {s s' : Nat → Int64} : sB (mS st a s) 37 s' = mS st a s' := sB_sB _ _ _ _
theorem m_reckon {o : Nat} {a b : Int64} {st : St} {s : Nat → Int64} (h2 : 2 ≤ o) (h9 : o ≤ 9) : fX12_reckon (Int32.ofNat (o + 18)) a b (mS st 0 s) = if (o = 5 ∨ o = 6) ∧ b = 0 then some (0, mS st 1 s) else some (jr o a b, mS st 0 s) := by
  have h : o = 2 ∨ o = 3 ∨ o = 4 ∨ o = 5 ∨ o = 6 ∨ o = 7 ∨ o = 8 ∨ o = 9 := by omega
  unfold fX12_reckon fX12_reckon_b72 fX12_reckon_b104 fX12_reckon_b90 fX12_reckon_b122 fX12_reckon_b135 fX12_reckon_b148 fX12_reckon_b161 jr
  simp only [lt_v, mS_38]
  have e0 : (mS st 0 s).1 38 = 0 := rfl
  have e1 : (mS st 1 s).1 38 = 1 := rfl
  rw [e0, e1]
  rcases h with rfl | rfl | rfl | rfl | rfl | rfl | rfl | rfl
  · rfl
  · rfl
  · rfl
  · simp only [cmp_eq]
    by_cases h0 : b = 0
    · subst h0; rfl
    · simp [h0, gzl, gb]
  · simp only [cmp_eq]
    by_cases h0 : b = 0
    · subst h0; rfl
    · simp [h0, gzl, gb]
  · simp only [cmp_ge]
    by_cases h0 : a < b
    · simp [h0, Int64.not_le.mpr h0]
    · simp [h0, Int64.not_lt.mp h0]
  · simp only [cmp_le]
    by_cases h0 : b < a
    · simp [h0, Int64.not_le.mpr h0]
    · simp [h0, Int64.not_lt.mp h0]
  · simp only [cmp_eq]
    by_cases h0 : a = b
    · simp [h0]
    · simp [h0]
theorem KM_broken {st : St} {stop t q n : Nat} {s : Nat → Int64} : ∃ s' v, lp (fun _ _ _ _ => none) fX12_reckonAll_b10 (n + 1) (Int32.ofNat stop) (Int32.ofNat t) (Int32.ofNat q) (mS st 1 s) = some ((), sJ (mS st 1 s') 39 v) := by
  rw [lp_s]
  generalize lp (fun _ _ _ _ => none) fX12_reckonAll_b10 n = k
  have e : ∃ v, fX12_reckonAll_b372 (Int32.ofNat t) (mS st 1 s) = some ((), sJ (mS st 1 s) 39 v) := by
    unfold fX12_reckonAll_b372 fX12_reckonAll_b387
    split
    · exact ⟨_, rfl⟩
    · exact ⟨_, rfl⟩
  obtain ⟨v, hv⟩ := e
  refine ⟨s, v, ?_⟩
  unfold fX12_reckonAll_b10
  have e1 : (mS st 1 s).1 38 = 1 := rfl
  rw [e1, hv, if_neg (show ¬ ((1 : Int32) = 0) by decide)]
  split <;> rfl
theorem KM_end {st : St} {stop t n : Nat} {s : Nat → Int64} (h4 : stop ≤ 400) (ht : 1 ≤ t) (ht2 : t ≤ 400) : lp (fun _ _ _ _ => none) fX12_reckonAll_b10 (n + 1) (Int32.ofNat stop) (Int32.ofNat t) (Int32.ofNat stop) (mS st 0 s) = some ((), sJ (mS st 0 s) 39 (s 0)) := by
  rw [lp_s]
  generalize lp (fun _ _ _ _ => none) fX12_reckonAll_b10 n = k
  unfold fX12_reckonAll_b10 fX12_reckonAll_b372 fX12_reckonAll_b387
  rw [if_leT (Nat.le_refl _) (by omega), show (0 : Int32) = Int32.ofNat 0 from rfl, if_leF (by omega) (by omega), lt_v]
  rfl
theorem KM_step {lw : Bool} {st : St} {stop : Nat} {cd : Nat → Nat × Nat} {w : Nat → Int64} (h4 : stop ≤ 400)
    (hcode : ∀ k t q s, q < stop → fX12_reckonAll_b10 k (Int32.ofNat stop) (Int32.ofNat t) (Int32.ofNat q) (mS st 0 s) = fX12_reckonAll_b95 k (Int32.ofNat stop) (Int32.ofNat t) (Int32.ofNat q) (Int32.ofNat (cd q).1) (Int32.ofNat (cd q).2) (mS st 0 s))
    (hleaf : ∀ k t q s o x, q < 400 → leafM lw o x → fX12_reckonAll_b95 k (Int32.ofNat stop) (Int32.ofNat t) (Int32.ofNat q) (Int32.ofNat o) (Int32.ofNat x) (mS st 0 s) = fX12_reckonAll_b223 k (Int32.ofNat stop) (Int32.ofNat t) (Int32.ofNat (q + 1)) (w (wi lw o x)) (Int32.ofNat t) (mS st 0 s)) :
    StepM lw cd w stop (fun n t q s => lp (fun _ _ _ _ => none) fX12_reckonAll_b10 n (Int32.ofNat stop) (Int32.ofNat t) (Int32.ofNat q) (mS st 0 s)) (fun x => ∃ s v, x = some ((), sJ (mS st 1 s) 39 v)) := by
  have rd : ∀ a s, (mS st a s).2.2.2.1 37 = s := fun _ _ => rfl
  refine ⟨?_, ?_, ?_, ?_, ?_, ?_⟩
  · intro n t q s v hq hc hv ht
    dsimp only
    rw [lp_s]
    generalize lp (fun _ _ _ _ => none) fX12_reckonAll_b10 n = k
    rw [hcode k t q s hq, hc]
    unfold fX12_reckonAll_b95 fX12_reckonAll_b223 fX12_reckonAll_b369
    dsimp only
    rw [show (20 : Int32) = Int32.ofNat 20 from rfl, lt_v, if_leF (by decide) (by decide), if_pos (show Int32.ofNat 0 = (0 : Int32) from rfl), gi_N (by omega) (by omega), oN_tn (by omega), lt_v, lt_v, oN_s, oN_s, rd, mS_37, o64 (by omega)]
  · intro n t q s o x hq hc hl ht
    dsimp only
    rw [lp_s]
    generalize lp (fun _ _ _ _ => none) fX12_reckonAll_b10 n = k
    rw [hcode k t q s hq, hc]
    dsimp only
    rw [hleaf k t q s o x (by omega) hl]
    unfold fX12_reckonAll_b223 fX12_reckonAll_b369
    rw [gi_N (by omega) (by omega), oN_tn (by omega), lt_v, lt_v, oN_s, rd, mS_37]
  · intro n t q s o x hq hc h2 h9 ht
    have ex4 : Int32.ofNat (t + 2) + -1 = Int32.ofNat (t + 1) := by rw [oN_pred (by omega)]; rfl
    have ex5 : Int32.ofNat (t + 1) - 1 = Int32.ofNat t := by rw [show (1 : Int32) = Int32.ofNat 1 from rfl, oN_sub (by omega)]; rfl
    have main : ∀ m, lp (fun _ _ _ _ => none) fX12_reckonAll_b10 (m + 1) (Int32.ofNat stop) (Int32.ofNat (t + 2)) (Int32.ofNat q) (mS st 0 s) = if jn o (s t) (s (t + 1)) = none then lp (fun _ _ _ _ => none) fX12_reckonAll_b10 m (Int32.ofNat stop) (Int32.ofNat (t + 1)) (Int32.ofNat (q + 1)) (mS st 1 (vp_updL s t (if (o = 5 ∨ o = 6) ∧ s (t + 1) = 0 then 0 else jr o (s t) (s (t + 1))))) else lp (fun _ _ _ _ => none) fX12_reckonAll_b10 m (Int32.ofNat stop) (Int32.ofNat (t + 1)) (Int32.ofNat (q + 1)) (mS st 0 (vp_updL s t (jr o (s t) (s (t + 1))))) := by
      intro m
      rw [lp_s]
      generalize lp (fun _ _ _ _ => none) fX12_reckonAll_b10 m = k
      rw [hcode k (t + 2) q s hq, hc]
      unfold fX12_reckonAll_b95 fX12_reckonAll_b296 fX12_reckonAll_b301 fX12_reckonAll_b369
      dsimp only
      rw [show (20 : Int32) = Int32.ofNat 20 from rfl, show (28 : Int32) = Int32.ofNat 28 from rfl, lt_v, if_leT (by omega) (by omega), if_leF (by omega) (by omega), lt_v, ex4, ex5, gi_N (by omega) (by omega), gi_N (by omega) (by omega), oN_tn (by omega), oN_tn (by omega), rd, m_reckon h2 h9]
      unfold jn
      by_cases h0 : (o = 5 ∨ o = 6) ∧ s (t + 1) = 0
      · rw [if_pos h0, if_pos h0, if_pos h0, bd_v, gi_N (by omega) (by omega), lt_v, rd, mS_37]
        have e1 : ∀ s, (mS st 1 s).1 38 = 1 := fun _ => rfl
        rw [e1, if_neg (show ¬ ((1 : Int32) = 0) by decide), gb_1, lt_v, mS_38, if_pos rfl, oN_s]
      · rw [if_neg h0, if_neg h0, if_neg h0, bd_v, gi_N (by omega) (by omega), lt_v, rd, mS_37]
        have e0 : ∀ s, (mS st 0 s).1 38 = 0 := fun _ => rfl
        rw [e0, if_pos rfl, gi_N (by omega) (by omega), rd, updL_eq, m_in, bs_v]
        by_cases h1 : -1000000000 ≤ jr o (s t) (s (t + 1)) ∧ jr o (s t) (s (t + 1)) ≤ 1000000000
        · rw [if_pos h1, if_pos h1, i10, gb_0, lt_v, mS_38, oN_s, if_neg (by intro q; cases q)]
        · rw [if_neg h1, if_neg h1, i00, gb_1, lt_v, mS_38, oN_s, if_pos rfl]
    constructor
    · intro r hr
      dsimp only
      have hr2 : jr o (s t) (s (t + 1)) = r := by
        unfold jn at hr
        split at hr
        · cases hr
        · split at hr
          · cases hr; rfl
          · cases hr
      rw [main n, hr, if_neg (by intro q; cases q), hr2]
    · intro hr
      dsimp only
      rw [main (n + 1), if_pos hr]
      exact KM_broken
  · intro n t q s x hq hc ht
    have ex5 : Int32.ofNat (t + 1) - 1 = Int32.ofNat t := by rw [show (1 : Int32) = Int32.ofNat 1 from rfl, oN_sub (by omega)]; rfl
    dsimp only
    rw [lp_s]
    generalize lp (fun _ _ _ _ => none) fX12_reckonAll_b10 n = k
    rw [hcode k (t + 1) q s hq, hc]
    unfold fX12_reckonAll_b95 fX12_reckonAll_b369
    dsimp only
    rw [show (20 : Int32) = Int32.ofNat 20 from rfl, show (28 : Int32) = Int32.ofNat 28 from rfl, lt_v, if_leT (by decide) (by decide), if_leT (by decide) (by decide), if_eqT rfl, ex5, gi_N (by omega) (by omega), gi_N (by omega) (by omega), oN_tn (by omega), lt_v, rd, mS_37, oN_s]
  · intro n t q s x hq hc ht hx
    have ex5 : Int32.ofNat (t + 1) - 1 = Int32.ofNat t := by rw [show (1 : Int32) = Int32.ofNat 1 from rfl, oN_sub (by omega)]; rfl
    have ex4 : Int32.ofNat (t + 1) + -1 = Int32.ofNat t := by rw [oN_pred (by omega)]; rfl
    dsimp only
    rw [lp_s]
    generalize lp (fun _ _ _ _ => none) fX12_reckonAll_b10 n = k
    rw [hcode k (t + 1) q s hq, hc]
    unfold fX12_reckonAll_b95 fX12_reckonAll_b355 fX12_reckonAll_b369
    dsimp only
    rw [show (20 : Int32) = Int32.ofNat 20 from rfl, show (28 : Int32) = Int32.ofNat 28 from rfl, show (29 : Int32) = Int32.ofNat 29 from rfl, lt_v, if_leT (by decide) (by decide), if_leT (by decide) (by decide), if_eqF (by decide) (by decide) (by decide), ex5, gi_N (by omega) (by omega), if_eqF (by decide) (by decide) (by decide), oN_tn (by omega), rd, lt_v, ex4, oN_s]
    by_cases h0 : s t = 1
    · rw [if_pos ((cmp_eq _ _).mpr h0), if_pos h0]
    · rw [if_neg (fun q => h0 ((cmp_eq _ _).mp q)), if_neg h0]
  · intro n t q s x hq hc ht hx
    have ex5 : Int32.ofNat (t + 1) - 1 = Int32.ofNat t := by rw [show (1 : Int32) = Int32.ofNat 1 from rfl, oN_sub (by omega)]; rfl
    have ex4 : Int32.ofNat (t + 1) + -1 = Int32.ofNat t := by rw [oN_pred (by omega)]; rfl
    dsimp only
    rw [lp_s]
    generalize lp (fun _ _ _ _ => none) fX12_reckonAll_b10 n = k
    rw [hcode k (t + 1) q s hq, hc]
    unfold fX12_reckonAll_b95 fX12_reckonAll_b355 fX12_reckonAll_b369
    dsimp only
    rw [show (20 : Int32) = Int32.ofNat 20 from rfl, show (28 : Int32) = Int32.ofNat 28 from rfl, show (29 : Int32) = Int32.ofNat 29 from rfl, lt_v, if_leT (by decide) (by decide), if_leT (by decide) (by decide), if_eqF (by decide) (by decide) (by decide), ex5, gi_N (by omega) (by omega), if_eqT rfl, oN_tn (by omega), rd, lt_v, ex4, oN_s]
    by_cases h0 : s t = 0
    · rw [if_pos ((cmp_eq _ _).mpr h0), if_pos h0]
    · rw [if_neg (fun q => h0 ((cmp_eq _ _).mp q)), if_neg h0]
