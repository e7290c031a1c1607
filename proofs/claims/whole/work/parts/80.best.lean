/-! T2, bluff: the cheapest set, class -/
def lsB (p : Nat → Int32) (o : Option Nat) (x : Int32) : Bool := o.elim true (fun s => decide (x < smI p s 6))
def bes (p : Nat → Int32) (al t : Nat → Bool) : Nat → Option Nat
  | 0 => none
  | k + 1 => if (okB al k 6 && (lsB p (bes p al t k) (smI p k 6) && t k)) = true then some k else bes p al t k
theorem bes_s (p : Nat → Int32) (al t : Nat → Bool) (k : Nat) : bes p al t (k + 1) = if (okB al k 6 && (lsB p (bes p al t k) (smI p k 6) && t k)) = true then some k else bes p al t k := rfl
theorem bes_lt {p : Nat → Int32} {al t : Nat → Bool} : ∀ k s, bes p al t k = some s → s < k := by
  intro k
  induction k with
  | zero => intro s h; cases h
  | succ k ih =>
    intro s h
    rw [bes_s] at h
    by_cases q : (okB al k 6 && (lsB p (bes p al t k) (smI p k 6) && t k)) = true
    · rw [if_pos q] at h; cases h; omega
    · rw [if_neg q] at h; have := ih s h; omega
def ixI (o : Option Nat) : Int32 := o.elim (-1) Int32.ofNat
def prI (p : Nat → Int32) (d : Int32) (o : Option Nat) : Int32 := o.elim d (fun s => smI p s 6)
theorem ls_c {α : Type} {p : Nat → Int32} {o : Option Nat} {x d : Int32} {y z : α} (ho : ∀ s, o = some s → s < 64) : (if ixI o = (-1 : Int32) then y else (if prI p d o ≤ x then z else y)) = if lsB p o x = true then y else z := by
  cases o with
  | none => rfl
  | some s =>
    have hs := ho s rfl
    show (if Int32.ofNat s = (-1 : Int32) then y else (if smI p s 6 ≤ x then z else y)) = if decide (x < smI p s 6) = true then y else z
    rw [if_neg (oN_ne1 (by omega))]
    by_cases q : smI p s 6 ≤ x
    · rw [if_pos q, if_neg]
      rw [decide_eq_true_eq]; exact Int32.not_lt.mpr q
    · rw [if_neg q, if_pos]
      rw [decide_eq_true_eq]; exact Int32.not_le.mp q
theorem c_bes {fz : List FP} {c m : St} {f : Nat} {hour : Int32} {p : Nat → Int32} {b t al : Nat → Bool} (hV : Vs fz c m f hour p b t) : ∀ (k n : Nat) (c' : St), k ≤ 64 → cq2 c c' → (∀ j, j < 6 → c'.2.2.1 802 j = p j) → ∃ c'', cq2 c c'' ∧ lp (fun _ _ _ _ _ _ _ => none) (fX5_cheapestSet_b91 fz) (n + 1 + k) (Int32.ofNat f) hour (mkI al 6) (ixI (bes p al t (64 - k))) (prI p 0 (bes p al t (64 - k))) (Int32.ofNat (64 - k)) c' = some (ixI (bes p al t 64), c'') := by
  intro k
  induction k with
  | zero =>
    intro n c' _ hc _
    refine ⟨c', hc, ?_⟩
    rw [Nat.add_zero, lp_s]
    unfold fX5_cheapestSet_b91
    rw [if_pos (show (64 : Int32) ≤ Int32.ofNat (64 - 0) by decide), Nat.sub_zero]
  | succ k ih =>
    intro n c' hk hc hp
    rw [← Nat.add_assoc, lp_s]
    have ih' := fun c' => ih n c' (by omega)
    generalize lp (fun _ _ _ _ _ _ _ => none) (fX5_cheapestSet_b91 fz) (n + 1 + k) = kk at ih' ⊢
    have e1 : 64 - k = (64 - (k + 1)) + 1 := by omega
    rw [e1] at ih'
    generalize hj : 64 - (k + 1) = v at ih' ⊢
    have hv : v < 64 := by omega
    have n1 : ¬ ((64 : Int32) ≤ Int32.ofNat v) := fun q => by have := (oN_le (a := 64) (by decide) (by omega)).mp q; omega
    have hbl := bes_lt (p := p) (al := al) (t := t) v
    rw [bes_s] at ih'
    generalize bes p al t v = o at ih' hbl ⊢
    have u159 : ∀ w q st, fX5_cheapestSet_b159 fz kk (Int32.ofNat f) hour (mkI al 6) w q (Int32.ofNat v) st = kk (Int32.ofNat f) hour (mkI al 6) w q (Int32.ofNat (v + 1)) st := fun w q st => by
      unfold fX5_cheapestSet_b159
      rw [lt_v, oN_s]
    have ub : fX5_cheapestSet_b91 fz kk (Int32.ofNat f) hour (mkI al 6) (ixI o) (prI p 0 o) (Int32.ofNat v) c' = if lsB p o (smI p v 6) = true then fX5_cheapestSet_b124 fz kk (Int32.ofNat f) hour (mkI al 6) (ixI o) (prI p 0 o) (Int32.ofNat v) (smI p v 6) 1 c' else fX5_cheapestSet_b124 fz kk (Int32.ofNat f) hour (mkI al 6) (ixI o) (prI p 0 o) (Int32.ofNat v) (smI p v 6) 0 c' := by
      rw [← ls_c (p := p) (d := 0) (fun s hs => by have := hbl s hs; omega)]
      unfold fX5_cheapestSet_b91
      rw [if_neg n1, c_together hv hp, bd_v]
      rfl
    rw [ub]
    unfold fX5_cheapestSet_b124
    have hkeep : ∀ c1, cq2 c c1 → (∀ j, j < 6 → c1.2.2.1 802 j = p j) → ¬ ((okB al v 6 && (lsB p o (smI p v 6) && t v)) = true) → ∃ c'', cq2 c c'' ∧ kk (Int32.ofNat f) hour (mkI al 6) (ixI o) (prI p 0 o) (Int32.ofNat (v + 1)) c1 = some (ixI (bes p al t 64), c'') := by
      intro c1 h1 h2 h3
      have := ih' c1 h1 h2
      rw [if_neg h3] at this
      exact this
    by_cases hok : okB al v 6 = true
    · rw [if_pos ((sub_ok al hv).mpr hok), if_neg one_ne0, if_pos ((sub_ok al hv).mpr hok), if_pos rfl, u159]
      by_cases hls : lsB p o (smI p v 6) = true
      · rw [if_pos hls]
        obtain ⟨c1, k1, k2⟩ := (hV.2.2 v hv).1 c' hc
        have hc1 := hc.tr k2.lo
        have hp1 : ∀ i, i < 6 → c1.2.2.1 802 i = p i := fun i hi => by rw [k2.2.2.1 802 (by decide)]; exact hp i hi
        rw [k1, bd_v]
        cases ht : t v
        · rw [if_pos (show (if false = true then (1 : Int32) else 0) = 0 from rfl), u159]
          exact hkeep c1 hc1 hp1 (by rw [ht, hok, hls]; decide)
        · rw [if_neg (show ¬ ((if true = true then (1 : Int32) else 0) = 0) by decide), u159]
          have := ih' c1 hc1 hp1
          rw [if_pos (by rw [ht, hok, hls]; rfl)] at this
          exact this
      · rw [if_neg hls]
        exact hkeep c' hc hp (by
          cases hl : lsB p o (smI p v 6)
          · rw [hok]; exact Bool.false_ne_true
          · exact absurd hl hls)
    · have hs : ¬ ((Int32.ofNat v &&& (mkI al 6 ^^^ (-1 : Int32))) = 0) := fun q => hok ((sub_ok al hv).mp q)
      rw [if_neg hs, if_neg hs, u159, ite_self]
      exact hkeep c' hc hp (by
        cases hl : okB al v 6
        · exact Bool.false_ne_true
        · exact absurd hl hok)
theorem c_price_l {fz : List FP} {c m : St} {f v : Nat} {hour : Int32} {p : Nat → Int32} {b t : Nat → Bool} (hV : Vs fz c m f hour p b t) (hv : v < 64) : ∀ (k n : Nat) (c' : St), k ≤ 6 → cq2 c c' → (∀ j, j < 6 - k → c'.2.2.1 802 j = p j) → ∃ c'', cq2 c c'' ∧ lp (fun _ _ _ _ => none) (fX5_priceOf_b2 fz) (n + 1 + k) (Int32.ofNat f) (Int32.ofNat v) (Int32.ofNat (6 - k)) c' = some (smI p v 6, c'') := by
  intro k
  induction k with
  | zero =>
    intro n c' _ hc hp
    refine ⟨c', hc, ?_⟩
    rw [Nat.add_zero, lp_s]
    unfold fX5_priceOf_b2
    rw [if_pos (show (6 : Int32) ≤ Int32.ofNat (6 - 0) by decide), c_together hv hp, bd_v]
  | succ k ih =>
    intro n c' hk hc hp
    rw [← Nat.add_assoc, lp_s]
    have ih' := fun c' => ih n c' (by omega)
    generalize lp (fun _ _ _ _ => none) (fX5_priceOf_b2 fz) (n + 1 + k) = kk at ih' ⊢
    have e1 : 6 - k = (6 - (k + 1)) + 1 := by omega
    rw [e1] at ih'
    generalize hj : 6 - (k + 1) = j at ih' hp ⊢
    have hj6 : j < 6 := by omega
    have n1 : ¬ ((6 : Int32) ≤ Int32.ofNat j) := fun q => by have := (oN_le (a := 6) (by decide) (by omega)).mp q; omega
    obtain ⟨c2, k1, k2⟩ := (hV.1 j hj6).2.1 c' hc
    have hp2 : c2.2.2.1 802 = c'.2.2.1 802 := k2.2.2.1 802 (by decide)
    obtain ⟨c'', r1, r3⟩ := ih' (sA c2 802 (upd (c2.2.2.1 802) j (p j))) ((hc.tr k2.lo).tr cq2.p) (by
      intro i hi
      show upd (c2.2.2.1 802) j (p j) i = _
      rw [upd_v, hp2]
      by_cases q : i = j
      · rw [if_pos q, q]
      · rw [if_neg q]; exact hp i (by omega))
    refine ⟨c'', r1, ?_⟩
    unfold fX5_priceOf_b2
    rw [if_neg n1, k1, bd_v, gi_N hj6 (by decide), lt_v, lt_v, oN_tn (by omega), oN_s]
    exact r3
