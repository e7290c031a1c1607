/-! T2, bluff: the reference's search; both -/
theorem okB_f {al : Nat → Bool} {v : Nat} : ∀ d j, okB al v j = false → okB al v (j + d) = false := by
  intro d
  induction d with
  | zero => intro j h; exact h
  | succ d ih =>
    intro j h
    rw [← Nat.add_assoc, okB_s, ih j h]; rfl
theorem m_isB {v j : Nat} : fX12_is (Int32.ofNat v) (Int32.ofNat j) = some (if bt v j = true then 1 else 0) := by
  rw [m_is, if_bt]
theorem m_set {fz : List FP} {c m : St} {f sh v : Nat} {hour a2 v4 v5 : Int32} {p : Nat → Int32} {b t : Nat → Bool} {k61 : Int32 → Int32 → Int32 → Int32 → Int32 → Int32 → St → Option (Int32 × St)} (hV : Vs fz c m f hour p b t) (hf : f < 6) (h19 : m.2.2.1 3 (19 + f) = Int32.ofNat sh) : ∀ (k n : Nat) (m' : St), k ≤ 6 → mq m m' → okB (fun j => bt sh j || !(b j)) v (6 - k) = true → ∃ X m'', mq m m'' ∧ (okB (fun j => bt sh j || !(b j)) v 6 = true → X = smI p v 6) ∧ lp (fun _ _ _ _ _ _ _ _ _ _ => none) (fX12_bluff_b77 k61) (n + 1 + k) (Int32.ofNat f) hour a2 v4 v5 (Int32.ofNat v) (smI p v (6 - k)) 1 (Int32.ofNat (6 - k)) m' = fX12_bluff_b151 k61 (Int32.ofNat f) hour a2 v4 v5 (Int32.ofNat v) X (if okB (fun j => bt sh j || !(b j)) v 6 = true then 1 else 0) m'' := by
  intro k
  induction k with
  | zero =>
    intro n m' _ hm hok
    refine ⟨smI p v 6, m', hm, fun _ => rfl, ?_⟩
    rw [Nat.add_zero, lp_s]
    conv => lhs; unfold fX12_bluff_b77
    rw [if_pos (show (6 : Int32) ≤ Int32.ofNat (6 - 0) by decide), Nat.sub_zero, if_pos hok]
  | succ k ih =>
    intro n m' hk hm hok
    rw [← Nat.add_assoc, lp_s]
    have ih' := fun m' => ih n m' (by omega)
    have hstop : ∀ X i m', fX12_bluff_b77 k61 (lp (fun _ _ _ _ _ _ _ _ _ _ => none) (fX12_bluff_b77 k61) (n + k)) (Int32.ofNat f) hour a2 v4 v5 (Int32.ofNat v) X 0 i m' = fX12_bluff_b151 k61 (Int32.ofNat f) hour a2 v4 v5 (Int32.ofNat v) X 0 m' := by
      intro X i m'
      unfold fX12_bluff_b77
      rw [if_pos (show (0 : Int32) = 0 from rfl), ite_self]
    have hstop' : ∀ X i m', lp (fun _ _ _ _ _ _ _ _ _ _ => none) (fX12_bluff_b77 k61) (n + 1 + k) (Int32.ofNat f) hour a2 v4 v5 (Int32.ofNat v) X 0 i m' = fX12_bluff_b151 k61 (Int32.ofNat f) hour a2 v4 v5 (Int32.ofNat v) X 0 m' := by
      intro X i m'
      rw [show n + 1 + k = n + k + 1 by omega, lp_s]
      exact hstop X i m'
    generalize lp (fun _ _ _ _ _ _ _ _ _ _ => none) (fX12_bluff_b77 k61) (n + 1 + k) = kk at ih' hstop' ⊢
    have e1 : 6 - k = (6 - (k + 1)) + 1 := by omega
    rw [e1] at ih'
    have e6 : 6 = 6 - (k + 1) + 1 + k := by omega
    generalize hj : 6 - (k + 1) = j at ih' hok e6 ⊢
    have hj6 : j < 6 := by omega
    have n1 : ¬ ((6 : Int32) ≤ Int32.ofNat j) := fun q => by have := (oN_le (a := 6) (by decide) (by omega)).mp q; omega
    have e19 : (19 : Int32) + Int32.ofNat f = Int32.ofNat (19 + f) := oN_add 19 f
    have q19 : m'.2.2.1 3 (19 + f) = Int32.ofNat sh := by rw [hm.2.2.1]; exact h19
    rw [okB_s _ v j, hok, smI_s p v j] at ih'
    have u145 : ∀ X w st, fX12_bluff_b145 k61 kk (Int32.ofNat f) hour a2 v4 v5 (Int32.ofNat v) X w (Int32.ofNat j) st = kk (Int32.ofNat f) hour a2 v4 v5 (Int32.ofNat v) X w (Int32.ofNat (j + 1)) st := fun X w st => by
      unfold fX12_bluff_b145
      rw [lt_v, oN_s]
    conv => enter [1, X, 1, m'', 2, 2, 1]; unfold fX12_bluff_b77
    rw [if_neg n1, if_neg one_ne0, m_isB, bs_v, e19, gi_N (a := 19 + f) (by omega) (by decide), oN_tn (by omega), q19, m_isB, bs_v]
    by_cases hb : bt v j = true
    · rw [if_pos hb, if_neg one_ne0]
      rw [if_pos hb] at ih'
      -- the price, with the sign allowed
      have hyes : ∀ m1, mq m m1 → (bt sh j || !(b j)) = true → ∃ X m'', mq m m'' ∧ (okB (fun j => bt sh j || !(b j)) v 6 = true → X = smI p v 6) ∧ fX12_bluff_b126 k61 kk (Int32.ofNat f) hour a2 v4 v5 (Int32.ofNat v) (smI p v j) (Int32.ofNat j) m1 = fX12_bluff_b151 k61 (Int32.ofNat f) hour a2 v4 v5 (Int32.ofNat v) X (if okB (fun j => bt sh j || !(b j)) v 6 = true then 1 else 0) m'' := by
        intro m1 hm1 hal
        obtain ⟨m2, k1, k2⟩ := (hV.1 j hj6).2.2 m1 hm1
        obtain ⟨X, m'', r1, r2, r3⟩ := ih' m2 (hm1.tr k2) (by rw [hb, hal]; rfl)
        refine ⟨X, m'', r1, r2, ?_⟩
        rw [← r3]
        unfold fX12_bluff_b126 fX12_bluff_b131
        rw [k1, bd_v, lt_v, u145]
      by_cases hs : bt sh j = true
      · rw [if_pos hs, if_neg one_ne0]
        exact hyes m' hm (by rw [hs]; rfl)
      · have hs' : bt sh j = false := by cases q : bt sh j; rfl; exact absurd q hs
        rw [if_neg hs, if_pos rfl]
        obtain ⟨m1, k1, k2⟩ := (hV.2.1 j hj6).2 m' hm
        rw [k1, bd_v]
        cases hbj : b j
        · rw [if_pos (show (if false = true then (1 : Int32) else 0) = 0 from rfl)]
          exact hyes m1 (hm.tr k2) (by rw [hs', hbj]; rfl)
        · rw [if_neg (show ¬ ((if true = true then (1 : Int32) else 0) = 0) by decide)]
          obtain ⟨m2, k3, k4⟩ := (hV.1 j hj6).2.2 m1 (hm.tr k2)
          have hno : okB (fun j => bt sh j || !(b j)) v 6 = false := by
            rw [e6]
            apply okB_f
            rw [okB_s, hok, hb, hs', hbj]; rfl
          refine ⟨smI p v j + p j, m2, (hm.tr k2).tr k4, fun q => (by rw [hno] at q; cases q), ?_⟩
          unfold fX12_bluff_b131
          rw [k3, bd_v, lt_v, u145, hstop', hno]
          rfl
    · have hb' : bt v j = false := by cases q : bt v j; rfl; exact absurd q hb
      rw [if_neg hb, if_pos rfl, u145]
      rw [if_neg hb] at ih'
      exact ih' m' hm (by rw [hb']; rfl)
theorem m_ls {p : Nat → Int32} {o : Option Nat} {x : Nat} (hx : x ≤ 594) : (prI p (100000000 : Int32) o ≤ Int32.ofNat x) ↔ ¬ (lsB p o (Int32.ofNat x) = true) := by
  cases o with
  | none =>
    show ((100000000 : Int32) ≤ Int32.ofNat x) ↔ ¬ (true = true)
    refine ⟨fun q => ?_, fun q => absurd rfl q⟩
    have := (oN_le (a := 100000000) (by decide) (by omega)).mp q
    omega
  | some s =>
    show (smI p s 6 ≤ Int32.ofNat x) ↔ ¬ (decide (Int32.ofNat x < smI p s 6) = true)
    rw [decide_eq_true_eq]
    exact Int32.not_lt.symm
theorem m_bes {fz : List FP} {c m : St} {f sh : Nat} {hour a2 : Int32} {p : Nat → Int32} {b t : Nat → Bool} (hV : Vs fz c m f hour p b t) (hf : f < 6) (h19 : m.2.2.1 3 (19 + f) = Int32.ofNat sh) : ∀ (k n : Nat) (m' : St), k ≤ 64 → mq m m' → ∃ m'', mq m m'' ∧ lp (fun _ _ _ _ _ _ _ => none) fX12_bluff_b61 (n + 1 + k) (Int32.ofNat f) hour a2 (prI p 100000000 (bes p (fun j => bt sh j || !(b j)) t (64 - k))) (ixI (bes p (fun j => bt sh j || !(b j)) t (64 - k))) (Int32.ofNat (64 - k)) m' = some (if ixI (bes p (fun j => bt sh j || !(b j)) t 64) = -1 then ixI (bes p (fun j => bt sh j || !(b j)) t 64) else if a2 = 1 then ixI (bes p (fun j => bt sh j || !(b j)) t 64) else prI p 100000000 (bes p (fun j => bt sh j || !(b j)) t 64), m'') := by
  intro k
  induction k with
  | zero =>
    intro n m' _ hm
    refine ⟨m', hm, ?_⟩
    rw [Nat.add_zero, lp_s]
    unfold fX12_bluff_b61 fX12_bluff_b199 fX12_bluff_b206
    rw [if_pos (show (64 : Int32) ≤ Int32.ofNat (64 - 0) by decide), Nat.sub_zero]
    split
    · rfl
    · split <;> rfl
  | succ k ih =>
    intro n m' hk hm
    rw [← Nat.add_assoc, lp_s]
    have ih' := fun m' => ih n m' (by omega)
    generalize lp (fun _ _ _ _ _ _ _ => none) fX12_bluff_b61 (n + 1 + k) = kk at ih' ⊢
    have e1 : 64 - k = (64 - (k + 1)) + 1 := by omega
    rw [e1] at ih'
    generalize hj : 64 - (k + 1) = v at ih' ⊢
    have hv : v < 64 := by omega
    have n1 : ¬ ((64 : Int32) ≤ Int32.ofNat v) := fun q => by have := (oN_le (a := 64) (by decide) (by omega)).mp q; omega
    generalize bes p (fun j => bt sh j || !(b j)) t 64 = oE at ih' ⊢
    rw [bes_s] at ih'
    generalize bes p (fun j => bt sh j || !(b j)) t v = o at ih' ⊢
    obtain ⟨x, hx, ex⟩ := smI_nb (p := p) (v := v) (fun s hs => (hV.1 s hs).1) 6 (Nat.le_refl _)
    obtain ⟨X, m1, r1, r2, r3⟩ := m_set (v := v) (a2 := a2) (v4 := prI p 100000000 o) (v5 := ixI o) (k61 := kk) hV hf h19 6 5993 m' (Nat.le_refl _) hm rfl
    have u182 : ∀ w q st, fX12_bluff_b182 kk (Int32.ofNat f) hour a2 w q (Int32.ofNat v) st = kk (Int32.ofNat f) hour a2 w q (Int32.ofNat (v + 1)) st := fun w q st => by
      unfold fX12_bluff_b182
      rw [lt_v, oN_s]
    conv => enter [1, m'', 2, 1]; unfold fX12_bluff_b61
    rw [if_neg n1]
    have r3' : lp (fun _ _ _ _ _ _ _ _ _ _ => none) (fX12_bluff_b77 kk) 6000 (Int32.ofNat f) hour a2 (prI p 100000000 o) (ixI o) (Int32.ofNat v) 0 1 0 m' = _ := r3
    rw [r3']
    unfold fX12_bluff_b151
    rw [u182]
    cases hok : okB (fun j => bt sh j || !(b j)) v 6
    · rw [if_pos (show (if false = true then (1 : Int32) else 0) = 0 from rfl)]
      have := ih' m1 r1
      rw [hok, if_neg (show ¬ ((false && _) = true) from Bool.false_ne_true)] at this
      exact this
    · rw [if_neg (show ¬ ((if true = true then (1 : Int32) else 0) = 0) by decide), r2 hok]
      have hls := m_ls (p := p) (o := o) (x := x) (by omega)
      rw [← ex] at hls
      cases hl : lsB p o (smI p v 6)
      · rw [if_pos (hls.mpr (by rw [hl]; decide))]
        have := ih' m1 r1
        rw [hok, hl, if_neg (show ¬ ((true && (false && _)) = true) from Bool.false_ne_true)] at this
        exact this
      · rw [if_neg (fun q => hls.mp q hl)]
        obtain ⟨m2, k1, k2⟩ := (hV.2.2 v hv).2 m1 r1
        have := ih' m2 (r1.tr k2)
        rw [k1, bd_v]
        cases ht : t v
        · rw [if_pos (show (if false = true then (1 : Int32) else 0) = 0 from rfl), u182]
          rw [hok, hl, ht, if_neg (by decide)] at this
          exact this
        · rw [if_neg (show ¬ ((if true = true then (1 : Int32) else 0) = 0) by decide), u182]
          rw [hok, hl, ht, if_pos (show (true && (true && true)) = true from rfl)] at this
          exact this
/-- the same answer, prices too may be changed -/
def Sm2 {α : Type} (c m : St) (x y : Option (α × St)) : Prop := ∃ v c' m', x = some (v, c') ∧ y = some (v, m') ∧ cq2 c c' ∧ mq m m'
theorem Sm2.rf {α : Type} {c m : St} {v : α} : Sm2 c m (some (v, c)) (some (v, m)) := ⟨v, c, m, rfl, rfl, cq.rf.lo, mq.rf⟩
theorem Sm.lo {α : Type} {c m : St} {x y : Option (α × St)} (h : Sm c m x y) : Sm2 c m x y := by
  obtain ⟨v, c', m', e1, e2, e3, e4⟩ := h
  exact ⟨v, c', m', e1, e2, e3.lo, e4⟩
theorem bluff_both {fz : List FP} {c m : St} (a b d : Int32) (h : Rq fz c m) : Sm2 c (sI m 0 0) (fX11_bluff a b d fz c) (fX12_bluff a b d m) := by
  have h' : Rq fz c (sI m 0 0) := h
  obtain ⟨v, e1, e2, hv⟩ := has_both a h'
  unfold fX11_bluff fX12_bluff
  rw [e1, bd_v, lt_v, e2, bd_v]
  rcases hv with hv | ⟨hv, f, hf, -, ea⟩
  · rw [if_pos hv, if_pos hv]; exact Sm2.rf
  subst ea
  subst hv
  obtain ⟨htk, htb⟩ := h'.1.2.2.2.2.2.2.2.1 f hf
  have q202 : c.2.2.1 202 f = (sI m 0 0).2.2.1 3 (25 + f) := htk
  obtain ⟨hshc, sh, hsh, h19⟩ := h'.1.2.2.2.2.2.2.1 f hf
  have h201 : c.2.2.1 201 f = Int32.ofNat sh := hshc.trans h19
  have e25 : (25 : Int32) + Int32.ofNat f = Int32.ofNat (25 + f) := oN_add 25 f
  rw [if_neg one_ne0, if_neg one_ne0, c_within, bs_v, c_within, bs_v, m_in32 b 1 99 1 99 rfl rfl, bs_v, m_in32 d 0 1 0 1 rfl rfl, bs_v, e25, gi_N hf (by decide), gi_N (a := 25 + f) (by omega) (by decide), oN_tn (by omega), oN_tn (by omega), q202]
  generalize (sI m 0 0).2.2.1 3 (25 + f) = tk at htb ⊢
  by_cases hb : (1 : Int32) ≤ b ∧ b ≤ 99
  · rw [if_pos hb, if_neg one_ne0, if_neg one_ne0]
    by_cases hd : (0 : Int32) ≤ d ∧ d ≤ 1
    · rw [if_pos hd, if_neg one_ne0, if_neg one_ne0]
      rcases nb1 htb with e | e <;> subst e
      · rw [if_pos rfl, if_neg (show ¬ ((0 : Int32) = 1) by decide)]
        obtain ⟨p, bb, t, hV⟩ := Vs_ex (hour := b) h' hf (wsm_hour hb)
        obtain ⟨c1, r1, r2, r3⟩ := c_chp_l hV hf h201 (by omega) 6 5993 c (Nat.le_refl _) cq.rf.lo (fun j hj => absurd hj (by omega))
        obtain ⟨c2, r4, r5⟩ := c_bes (al := fun j => bt sh j || !(bb j)) hV 64 5935 c1 (Nat.le_refl _) r1 r2
        obtain ⟨m2, r6, r7⟩ := m_bes (a2 := d) hV hf h19 64 5935 (sI m 0 0) (Nat.le_refl _) mq.rf
        have ec : fX5_cheapestSet (Int32.ofNat f) b fz c = some (ixI (bes p (fun j => bt sh j || !(bb j)) t 64), c2) := r3.trans r5
        have hlt := bes_lt (p := p) (al := fun j => bt sh j || !(bb j)) (t := t) 64
        rw [ec, bd_v]
        have hfin : ∃ v c', cq2 c c' ∧ (if ixI (bes p (fun j => bt sh j || !(bb j)) t 64) = (-1 : Int32) then (fX11_bluff_b69 fz (ixI (bes p (fun j => bt sh j || !(bb j)) t 64)) c2) else (if d = (1 : Int32) then (fX11_bluff_b69 fz (ixI (bes p (fun j => bt sh j || !(bb j)) t 64)) c2) else (bd (fX5_priceOf (Int32.ofNat f) (ixI (bes p (fun j => bt sh j || !(bb j)) t 64)) fz c2) (fun r7 st8 => fX11_bluff_b84 fz r7 st8)))) = some (v, c') ∧ v = (if ixI (bes p (fun j => bt sh j || !(bb j)) t 64) = -1 then ixI (bes p (fun j => bt sh j || !(bb j)) t 64) else if d = 1 then ixI (bes p (fun j => bt sh j || !(bb j)) t 64) else prI p 100000000 (bes p (fun j => bt sh j || !(bb j)) t 64)) := by
          generalize bes p (fun j => bt sh j || !(bb j)) t 64 = o at hlt ⊢
          cases o with
          | none =>
            refine ⟨-1, c2, r4, ?_, rfl⟩
            rfl
          | some s =>
            have hs := hlt s rfl
            have es : ixI (some s) = Int32.ofNat s := rfl
            have ep : prI p 100000000 (some s) = smI p s 6 := rfl
            rw [es, ep, if_neg (oN_ne1 (by omega)), if_neg (oN_ne1 (by omega))]
            by_cases q : d = 1
            · rw [if_pos q, if_pos q]
              exact ⟨_, c2, r4, rfl, rfl⟩
            · rw [if_neg q, if_neg q]
              obtain ⟨c3, r8, r9⟩ := c_price_l (v := s) hV hs 6 5993 c2 (Nat.le_refl _) r4 (fun j hj => absurd hj (by omega))
              have ep2 : fX5_priceOf (Int32.ofNat f) (Int32.ofNat s) fz c2 = some (smI p s 6, c3) := r9
              rw [ep2, bd_v]
              exact ⟨_, c3, r8, rfl, rfl⟩
        obtain ⟨v, c', q1, q2, q3⟩ := hfin
        refine ⟨v, c', m2, q2, ?_, q1, r6⟩
        rw [q3]; exact r7
      · rw [if_neg one_ne0, if_pos rfl]; exact Sm2.rf
    · rw [if_neg hd, if_pos rfl, if_pos rfl]; split <;> exact Sm2.rf
  · rw [if_neg hb, if_pos rfl, if_pos rfl]; split <;> exact Sm2.rf
