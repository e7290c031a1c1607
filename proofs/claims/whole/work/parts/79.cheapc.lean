/-! T2, bluff: the class's search -/
theorem if_bt {α : Type} {v j : Nat} {x y : α} : (if ((Int32.ofNat v >>> (Int32.ofNat j &&& 31)) &&& (1 : Int32)) = (1 : Int32) then x else y) = if bt v j = true then x else y := by
  unfold bt
  by_cases q : ((Int32.ofNat v >>> (Int32.ofNat j &&& 31)) &&& (1 : Int32)) = (1 : Int32)
  · rw [if_pos q, if_pos (decide_eq_true q)]
  · rw [if_neg q, if_neg (by rw [decide_eq_true_eq]; exact q)]
theorem c_tog {fz : List FP} {c : St} {p : Nat → Int32} {v : Nat} (hv : v < 64) (hp : ∀ j, j < 6 → c.2.2.1 802 j = p j) : ∀ (k n : Nat), k ≤ 6 → lp (fun _ _ _ _ => none) (fX5_together_b4 fz) (n + 1 + k) (Int32.ofNat v) (smI p v (6 - k)) (Int32.ofNat (6 - k)) c = some (smI p v 6, c) := by
  intro k
  induction k with
  | zero =>
    intro n _
    rw [Nat.add_zero, lp_s]
    unfold fX5_together_b4
    rw [if_pos (show (6 : Int32) ≤ Int32.ofNat (6 - 0) by decide), Nat.sub_zero]
  | succ k ih =>
    intro n hk
    rw [← Nat.add_assoc, lp_s]
    have ih' := ih n (by omega)
    generalize lp (fun _ _ _ _ => none) (fX5_together_b4 fz) (n + 1 + k) = kk at ih' ⊢
    have e1 : 6 - k = (6 - (k + 1)) + 1 := by omega
    rw [e1] at ih'
    generalize hj : 6 - (k + 1) = j at ih' ⊢
    have n1 : ¬ ((6 : Int32) ≤ Int32.ofNat j) := fun q => by have := (oN_le (a := 6) (by decide) (by omega)).mp q; omega
    unfold fX5_together_b4
    rw [if_neg n1, gi_N (by omega) (by decide), lt_v, lt_v, oN_tn (by omega), hp j (by omega), bt_i hv (by omega), oN_s, ← ih', smI_s]
    by_cases q : bt v j = true
    · rw [if_pos q, if_pos q, Int32.one_mul]
    · rw [if_neg q, if_neg q, Int32.zero_mul, Int32.add_zero]
theorem c_together {fz : List FP} {c : St} {p : Nat → Int32} {v : Nat} (hv : v < 64) (hp : ∀ j, j < 6 → c.2.2.1 802 j = p j) : fX5_together (Int32.ofNat v) fz c = some (smI p v 6, c) := c_tog hv hp 6 5993 (Nat.le_refl _)
theorem c_chp_l {fz : List FP} {c m : St} {f sh : Nat} {hour : Int32} {p : Nat → Int32} {b t : Nat → Bool} (hV : Vs fz c m f hour p b t) (hf : f < 6) (h201 : c.2.2.1 201 f = Int32.ofNat sh) (hsh : sh < 64) : ∀ (k n : Nat) (c' : St), k ≤ 6 → cq2 c c' → (∀ j, j < 6 - k → c'.2.2.1 802 j = p j) → ∃ c'', cq2 c c'' ∧ (∀ j, j < 6 → c''.2.2.1 802 j = p j) ∧ lp (fun _ _ _ _ _ => none) (fX5_cheapestSet_b5 fz) (n + 1 + k) (Int32.ofNat f) hour (mkI (fun j => bt sh j || !(b j)) (6 - k)) (Int32.ofNat (6 - k)) c' = lp (fun _ _ _ _ _ _ _ => none) (fX5_cheapestSet_b91 fz) 6000 (Int32.ofNat f) hour (mkI (fun j => bt sh j || !(b j)) 6) (-1) 0 0 c'' := by
  intro k
  induction k with
  | zero =>
    intro n c' _ hc hp
    refine ⟨c', hc, fun j hj => hp j hj, ?_⟩
    rw [Nat.add_zero, lp_s]
    conv => lhs; unfold fX5_cheapestSet_b5
    rw [if_pos (show (6 : Int32) ≤ Int32.ofNat (6 - 0) by decide), Nat.sub_zero]
  | succ k ih =>
    intro n c' hk hc hp
    rw [← Nat.add_assoc, lp_s]
    have ih' := fun c' => ih n c' (by omega)
    generalize lp (fun _ _ _ _ _ => none) (fX5_cheapestSet_b5 fz) (n + 1 + k) = kk at ih' ⊢
    have e1 : 6 - k = (6 - (k + 1)) + 1 := by omega
    rw [e1] at ih'
    generalize hj : 6 - (k + 1) = j at ih' hp ⊢
    have hj6 : j < 6 := by omega
    have n1 : ¬ ((6 : Int32) ≤ Int32.ofNat j) := fun q => by have := (oN_le (a := 6) (by decide) (by omega)).mp q; omega
    have q201 : c'.2.2.1 201 f = Int32.ofNat sh := by rw [hc.2.2.1 201 (by decide) (by decide)]; exact h201
    -- the price
    have h62 : ∀ c1 w, cq2 c c1 → (∀ i, i < j → c1.2.2.1 802 i = p i) → w = mkI (fun j => bt sh j || !(b j)) (j + 1) → ∃ c'', cq2 c c'' ∧ (∀ j, j < 6 → c''.2.2.1 802 j = p j) ∧ fX5_cheapestSet_b62 fz kk (Int32.ofNat f) hour w (Int32.ofNat j) c1 = lp (fun _ _ _ _ _ _ _ => none) (fX5_cheapestSet_b91 fz) 6000 (Int32.ofNat f) hour (mkI (fun j => bt sh j || !(b j)) 6) (-1) 0 0 c'' := by
      intro c1 w hc1 hp1 hw
      obtain ⟨c2, k1, k2⟩ := (hV.1 j hj6).2.1 c1 hc1
      have hp2 : c2.2.2.1 802 = c1.2.2.1 802 := k2.2.2.1 802 (by decide)
      have hc3 : cq2 c (sA c2 802 (upd (c2.2.2.1 802) j (p j))) := (hc1.tr k2.lo).tr cq2.p
      obtain ⟨c'', r1, r2, r3⟩ := ih' (sA c2 802 (upd (c2.2.2.1 802) j (p j))) hc3 (by
        intro i hi
        show upd (c2.2.2.1 802) j (p j) i = _
        rw [upd_v, hp2]
        by_cases q : i = j
        · rw [if_pos q, q]
        · rw [if_neg q]; exact hp1 i (by omega))
      refine ⟨c'', r1, r2, ?_⟩
      conv => lhs; unfold fX5_cheapestSet_b62
      rw [k1, bd_v, gi_N hj6 (by decide), lt_v, lt_v, oN_tn (by omega), oN_s, hw]
      exact r3
    have h55 : ∀ c1, cq2 c c1 → (∀ i, i < j → c1.2.2.1 802 i = p i) → (bt sh j || !(b j)) = true → ∃ c'', cq2 c c'' ∧ (∀ j, j < 6 → c''.2.2.1 802 j = p j) ∧ fX5_cheapestSet_b55 fz kk (Int32.ofNat f) hour (mkI (fun j => bt sh j || !(b j)) j) (Int32.ofNat j) c1 = lp (fun _ _ _ _ _ _ _ => none) (fX5_cheapestSet_b91 fz) 6000 (Int32.ofNat f) hour (mkI (fun j => bt sh j || !(b j)) 6) (-1) 0 0 c'' := by
      intro c1 hc1 hp1 hal
      have := h62 c1 (mkI (fun j => bt sh j || !(b j)) j ||| bit1 j) hc1 hp1 (by rw [mkI_s, if_pos hal])
      unfold fX5_cheapestSet_b55
      rw [lt_v]
      exact this
    conv => enter [1, c'', 2, 2, 1]; unfold fX5_cheapestSet_b5
    rw [if_neg n1, gi_N hf (by decide), oN_tn (by omega), q201, if_bt]
    by_cases q : bt sh j = true
    · rw [if_pos q]
      have := h55 c' hc hp (by rw [q]; rfl)
      unfold fX5_cheapestSet_b38
      rw [if_neg one_ne0]
      exact this
    · rw [if_neg q]
      have q' : bt sh j = false := by cases hb : bt sh j; rfl; exact absurd hb q
      obtain ⟨c1, k1, k2⟩ := (hV.2.1 j hj6).1 c' hc
      have hc1 := hc.tr k2.lo
      have hp1 : ∀ i, i < j → c1.2.2.1 802 i = p i := fun i hi => by rw [k2.2.2.1 802 (by decide)]; exact hp i hi
      unfold fX5_cheapestSet_b38
      rw [if_pos rfl, k1, bd_v]
      cases hb : b j
      · have := h55 c1 hc1 hp1 (by rw [hb, q']; rfl)
        rw [if_pos (show (if false = true then (1 : Int32) else 0) = 0 from rfl)]
        exact this
      · have := h62 c1 (mkI (fun j => bt sh j || !(b j)) j) hc1 hp1 (by rw [mkI_s, if_neg (by rw [hb, q']; decide)])
        rw [if_pos rfl, if_neg one_ne0]
        exact this
