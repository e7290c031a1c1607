/-! T2, image, back -/
/-- a law against a row that is alike where it is read -/
theorem LwR.e {P : FP} {t t' : Nat → Int32} (h : LwR P t) (e : ∀ j, j < 900 → t' j = t j) : LwR P t' := by
  obtain ⟨k, Cm, Cc, h1, h2, h3, h4, h5⟩ := h
  refine ⟨k, Cm, Cc, h1, (e 1 (by omega)).trans h2, h3, fun q x hx => ?_, fun i hi => ?_⟩
  · have hq : q < 400 := by
      have := (List.getElem?_eq_some_iff.mp hx).1
      omega
    rw [e (98 + 2 * q) (by omega), e (98 + 2 * q + 1) (by omega)]; exact h4 q x hx
  · have hk := h1.1
    have := ClL.app (x := []) (y := []) (h5 i hi) (t' := fun q => t' (2 + q)) (a' := P.2.2.2.2.1 0) (b' := P.2.2.2.2.1 2) (fun q hq => e (2 + q) (by omega)) rfl (fun _ _ => rfl)
    rw [List.append_nil, List.append_nil] at this
    exact this
section Image
variable {fz : List FP} {c m : St}
theorem m_img_l {k : Nat} (hk : k ≤ 1) : ∀ (q N : Nat) (st : St), q ≤ 5550 → ∃ st', lp (fun _ _ _ => none) fX12_image_b23 (N + 1 + q) (Int32.ofNat k) (Int32.ofNat (5550 - q)) st = some (0, sI (sA st' 5 (upd (st'.2.2.1 5) k 1)) 1 0) ∧ fr [] [] [4] st st' ∧ ∀ j, st'.2.2.1 4 j = if 5550 * k + (5550 - q) ≤ j ∧ j < 5550 * k + 5550 then st.2.2.1 3 (j - 5550 * k) else st.2.2.1 4 j := by
  intro q
  induction q with
  | zero =>
    intro N st _
    refine ⟨st, ?_, fr.rf, fun j => by rw [if_neg (by omega)]⟩
    rw [Nat.add_zero, lp_s]
    generalize lp (fun _ _ _ => none) fX12_image_b23 N = kk
    unfold fX12_image_b23
    rw [if_pos (show (5550 : Int32) ≤ Int32.ofNat (5550 - 0) by decide), gi_N (show k < 2 by omega) (by decide), oN_tn (by omega), lt_v, tell_nn (by decide), bd_v]
    rfl
  | succ q ih =>
    intro N st hq
    have e1 : 5550 - q = (5550 - (q + 1)) + 1 := by omega
    have hi : 5550 - (q + 1) < 5550 := by omega
    have ih' := ih N
    rw [← Nat.add_assoc, lp_s]
    generalize 5550 - (q + 1) = i at e1 hi ⊢
    rw [e1] at ih'
    generalize lp (fun _ _ _ => none) fX12_image_b23 (N + 1 + q) = kk at ih' ⊢
    have i2 : (5550 : Int32) * Int32.ofNat k + Int32.ofNat i = Int32.ofNat (5550 * k + i) := by rw [show (5550 : Int32) = Int32.ofNat 5550 from rfl, oN_mul, oN_add]
    obtain ⟨st', a1, a2, a3⟩ := ih' (sA st 4 (upd (st.2.2.1 4) (5550 * k + i) (st.2.2.1 3 i))) (by omega)
    refine ⟨st', ?_, (fr.sA (by decide)).tr a2, fun j => ?_⟩
    · rw [← a1]
      unfold fX12_image_b23
      rw [if_neg (show ¬ ((5550 : Int32) ≤ Int32.ofNat i) from fun q => by have := (oN_le (a := 5550) (by decide) (by omega)).mp q; omega), i2, gi_N (show i < 5550 by omega) (by decide), gi_N (show 5550 * k + i < 11100 by omega) (by decide), oN_tn (show i < 2147483648 by omega), oN_tn (show 5550 * k + i < 2147483648 by omega), lt_v, lt_v, oN_s]
    · rw [a3 j]
      have t3 : (sA st 4 (upd (st.2.2.1 4) (5550 * k + i) (st.2.2.1 3 i))).2.2.1 3 = st.2.2.1 3 := rfl
      have t6 : (sA st 4 (upd (st.2.2.1 4) (5550 * k + i) (st.2.2.1 3 i))).2.2.1 4 = upd (st.2.2.1 4) (5550 * k + i) (st.2.2.1 3 i) := rfl
      rw [t3, t6, upd_v]
      by_cases z : j = 5550 * k + i
      · rw [if_neg (by omega), if_pos z, if_pos (by omega), z, Nat.add_sub_cancel_left]
      · by_cases w : 5550 * k + (i + 1) ≤ j ∧ j < 5550 * k + 5550
        · rw [if_pos w, if_pos (by omega)]
        · rw [if_neg w, if_neg z, if_neg (by omega)]
theorem m_bck_l {k : Nat} (hk : k ≤ 1) : ∀ (q N : Nat) (st : St), q ≤ 5550 → ∃ st', lp (fun _ _ _ => none) fX12_back_b39 (N + 1 + q) (Int32.ofNat k) (Int32.ofNat (5550 - q)) st = some (0, sI (sI st' 8 0) 1 0) ∧ fr [] [] [3] st st' ∧ ∀ j, st'.2.2.1 3 j = if 5550 - q ≤ j ∧ j < 5550 then st.2.2.1 4 (5550 * k + j) else st.2.2.1 3 j := by
  intro q
  induction q with
  | zero =>
    intro N st _
    refine ⟨st, ?_, fr.rf, fun j => by rw [if_neg (by omega)]⟩
    rw [Nat.add_zero, lp_s]
    generalize lp (fun _ _ _ => none) fX12_back_b39 N = kk
    unfold fX12_back_b39
    rw [if_pos (show (5550 : Int32) ≤ Int32.ofNat (5550 - 0) by decide), lt_v, tell_nn (by decide), bd_v]
  | succ q ih =>
    intro N st hq
    have e1 : 5550 - q = (5550 - (q + 1)) + 1 := by omega
    have hi : 5550 - (q + 1) < 5550 := by omega
    have ih' := ih N
    rw [← Nat.add_assoc, lp_s]
    generalize 5550 - (q + 1) = i at e1 hi ⊢
    rw [e1] at ih'
    generalize lp (fun _ _ _ => none) fX12_back_b39 (N + 1 + q) = kk at ih' ⊢
    have i2 : (5550 : Int32) * Int32.ofNat k + Int32.ofNat i = Int32.ofNat (5550 * k + i) := by rw [show (5550 : Int32) = Int32.ofNat 5550 from rfl, oN_mul, oN_add]
    obtain ⟨st', a1, a2, a3⟩ := ih' (sA st 3 (upd (st.2.2.1 3) i (st.2.2.1 4 (5550 * k + i)))) (by omega)
    refine ⟨st', ?_, (fr.sA (by decide)).tr a2, fun j => ?_⟩
    · rw [← a1]
      unfold fX12_back_b39
      rw [if_neg (show ¬ ((5550 : Int32) ≤ Int32.ofNat i) from fun q => by have := (oN_le (a := 5550) (by decide) (by omega)).mp q; omega), i2, gi_N (show 5550 * k + i < 11100 by omega) (by decide), gi_N (show i < 5550 by omega) (by decide), oN_tn (show i < 2147483648 by omega), oN_tn (show 5550 * k + i < 2147483648 by omega), lt_v, lt_v, oN_s]
    · rw [a3 j]
      have t3 : (sA st 3 (upd (st.2.2.1 3) i (st.2.2.1 4 (5550 * k + i)))).2.2.1 4 = st.2.2.1 4 := rfl
      have t6 : (sA st 3 (upd (st.2.2.1 3) i (st.2.2.1 4 (5550 * k + i)))).2.2.1 3 = upd (st.2.2.1 3) i (st.2.2.1 4 (5550 * k + i)) := rfl
      rw [t3, t6, upd_v]
      by_cases z : j = i
      · rw [if_neg (by omega), if_pos z, if_pos (by omega), z]
      · by_cases w : i + 1 ≤ j ∧ j < 5550
        · rw [if_pos w, if_pos (by omega)]
        · rw [if_neg w, if_neg z, if_neg (by omega)]
theorem RR.im (h : RR fz c m) : Im 0 fz c (m.2.2.1 3) := ⟨h.1.1, h.1.2.1, h.2.2.2.1, h.2.2.2.2.1⟩
theorem Im.e {off : Nat} {r r' : Nat → Int32} (h : Im off fz c r) (e : ∀ k, k < 5550 → r' k = r k) : Im off fz c r' := by
  obtain ⟨⟨h0, h1, h2, h3, h4, h5, h6, h7, h8, h9, h10⟩, ⟨w1, w2, w3, w4⟩, ⟨⟨n, n1, n2, n3, n4⟩, g2, g3, g4, g5⟩, ⟨r1, r2⟩⟩ := h
  refine ⟨⟨?_, ?_, ?_, ?_, fun j hj => ?_, fun j hj => ?_, fun j hj => ?_, fun j hj => ?_, fun j hj => ?_, fun j hj => ?_, fun j hj => ?_⟩, ⟨?_, ?_, ?_, fun i hi => ?_⟩, ⟨⟨n, n1, ?_, n3, fun q hq => ?_⟩, ?_, fun i hi => ?_, fun i hi => ?_, fun i hi => ?_⟩, ⟨?_, fun i hi => ?_⟩⟩
  · rw [e 0 (by omega)]; exact h0
  · rw [e 6 (by omega)]; exact h1
  · rw [e 7 (by omega)]; exact h2
  · rw [e 8 (by omega)]; exact h3
  · rw [e (9 + j) (by omega)]; exact h4 j hj
  · rw [e (13 + j) (by omega)]; exact h5 j hj
  · rw [e (19 + j) (by omega)]; exact h6 j hj
  · rw [e (25 + j) (by omega)]; exact h7 j hj
  · rw [e (31 + j) (by omega)]; exact h8 j hj
  · rw [e (37 + j) (by omega)]; exact h9 j hj
  · rw [e (55 + j) (by omega)]; exact h10 j hj
  · rw [e 4 (by omega)]; exact w1
  · rw [e 5 (by omega)]; exact w2
  · rw [e 4 (by omega), e 5 (by omega)]; exact w3
  · rw [e 4 (by omega)]
    refine ⟨fun hi2 => ?_, (w4 i hi).2⟩
    obtain ⟨q, P, x1, x2, x3⟩ := (w4 i hi).1 hi2
    exact ⟨q, P, x1, x2, LwR.e x3 (fun j hj => e _ (by omega))⟩
  · rw [e 2 (by omega)]; exact n2
  · rw [sb_e n (fun k hk => e _ (by omega))]; exact n4 q hq
  · rw [e 3 (by omega)]; exact g2
  · rw [e (101 + i) (by omega)]; exact g3 i hi
  · rw [e (107 + 2 * i) (by omega), e (108 + 2 * i) (by omega)]; exact g4 i hi
  · rw [e (91 + i) (by omega)]; exact g5 i hi
  · rw [e 1 (by omega)]; exact r1
  · rw [e (123 + 3 * i) (by omega), e (124 + 3 * i) (by omega), e (125 + 3 * i) (by omega)]; exact r2 i hi
theorem image_call {k : Nat} (hk : k ≤ 1) (h : RR fz c m) : ∃ c' m', fX11_imagei (Int32.ofNat k) fz c = some (0, c') ∧ fX12_image (Int32.ofNat k) m = some (0, m') ∧ RR fz c' m' ∧ Im 1400 fz c' (fun j => m'.2.2.1 4 (5550 * k + j)) ∧ c'.2.2.2.2 1 = c.2.2.2.2 1 ∧ m'.2.2.1 5 = upd (m.2.2.1 5) k 1 ∧ (∀ j, ¬ (5550 * k ≤ j ∧ j < 5550 * k + 5550) → m'.2.2.1 4 j = m.2.2.1 4 j) := by
  have hin : (0 : Int32) ≤ Int32.ofNat k ∧ Int32.ofNat k ≤ 1 := ⟨oN_nn (by omega), (oN_le (b := 1) (by omega) (by decide)).mpr hk⟩
  obtain ⟨c1, a1, a2, a3⟩ := tkl_15_1 (fz := fz) (c := c) (fun i hi => (h.1.2.1.2.2.2 i hi).2)
  obtain ⟨m1, b1, b2, b3⟩ := m_img_l hk 5550 449 (sI m 0 0) (Nat.le_refl _)
  have b1' : lp (fun _ _ _ => none) fX12_image_b23 6000 (Int32.ofNat k) 0 (sI m 0 0) = _ := b1
  refine ⟨sI c1 9 0, sI (sA m1 5 (upd (m1.2.2.1 5) k 1)) 1 0, ?_, ?_, ?_, ?_, ?_, ?_, ?_⟩
  · unfold fX11_imagei fX11_settlei
    rw [c_within, bs_v, if_pos hin, if_neg one_ne0, gi_N (show k < 2 by omega) (by decide), gi_N (show k < 2 by omega) (by decide), a1, bd_v, if_pos (show (0 : Int32) ≤ 0 by decide), lt_v, bd_v]
  · unfold fX12_image
    rw [lt_v, m_in32 (Int32.ofNat k) 0 1 0 1 rfl rfl, bs_v, if_pos hin, if_neg one_ne0, b1']
  · obtain ⟨⟨h1, h2, h3⟩, h4, h5, h6, h7, h8, h9, h10, h11⟩ := h
    have r3 : m1.2.2.1 3 = m.2.2.1 3 := b2.2.2.1 3 (by decide)
    have mI : ∀ q, q ≠ 0 → m1.1 q = m.1 q := fun q hq => by rw [b2.1 q (by intro e; cases e), sI_1, if_neg hq]
    have mA : ∀ q, q ≠ 4 → m1.2.2.1 q = m.2.2.1 q := fun q hq => by rw [b2.2.2.1 q (fun e => hq (by simpa using e))]; rfl
    have cI : ∀ q, q < 1500 → c1.1 q = c.1 q := fun q hq => a3.1 q (fun j hj e => by
      have : 100 ≤ j := (by decide : ∀ j, j ∈ tkI → 100 ≤ j) j hj
      omega)
    have cA : ∀ q, q < 1500 → c1.2.2.1 q = c.2.2.1 q := fun q hq => a3.2.2.1 q (fun p hp e => by
      have : 100 ≤ p.1 := (by decide : ∀ p, p ∈ tkR → 100 ≤ p.1) p hp
      omega)
    have cR : ∀ q, q ≠ 1507 → c1.2.2.2.2 q = c.2.2.2.2 q := a3.2.2.2.2
    have lI : ∀ {l : List Nat}, (∀ x, x ∈ l → x < 1500) → ∀ x, x ∈ l → c1.1 x = c.1 x := fun s x hx => cI x (s x hx)
    have lA : ∀ {l : List Nat}, (∀ x, x ∈ l → x < 1500) → ∀ x, x ∈ l → c1.2.2.1 x = c.2.2.1 x := fun s x hx => cA x (s x hx)
    refine ⟨⟨?_, ?_, ?_⟩, ⟨rfl, fun i hi => ?_⟩, ?_, ?_, ?_, ?_, ?_, ?_, ?_⟩
    · have : Rl 0 c1 (m1.2.2.1 3) := h1.a (lI (by decide)) (lA (by decide)) (fun q _ => by rw [r3])
      exact this
    · have : Rw 0 fz c1 (m1.2.2.1 3) := h2.a (lI (by decide)) (cR 107 (by decide)) (fun q _ => by rw [r3])
      exact this
    · show m1.1 20 = 0
      rw [mI 20 (by decide)]; exact h3
    · show c1.2.2.1 8 i = m1.2.2.1 2 i
      rw [cA 8 (by decide), mA 2 (by decide)]; exact h4.2 i hi
    · have : Rt c1 m1 := h5.a (cI 504 (by decide)) (cA 500 (by decide)) (mI 13 (by decide)) (mA 12 (by decide))
      exact this
    · have : Rh 0 c1 (m1.2.2.1 3) := h6.a (lI (by decide)) (lA (by decide)) (fun q _ => by rw [r3])
      exact this
    · have : Rc 0 c1 (m1.2.2.1 3) := h7.a (cI 404 (by decide)) (lA (by decide)) (fun q _ => by rw [r3])
      exact this
    · have : Ru c1 m1 := h8.a (cI 905 (by decide)) (cA 902 (by decide)) (mI 8 (by decide)) (mA 6 (by decide)) (mA 7 (by decide)) (fun q _ => by rw [r3])
      exact this
    · have : Rdw c1 m1 := h9.a (cI 1104 (by decide)) (lA (by decide)) (mI 52 (by decide)) (mA 51 (by decide))
      exact this
    · have : Rm c1 m1 := h10.a (lI (by decide)) (fun q hq => mI q (fun e => by rw [e] at hq; exact absurd hq (by decide)))
      exact this
    · exact h11.a (fun q _ => by
        show m1.2.2.2.1 q = _
        rw [b2.2.2.2]; rfl)
  · have h1 : Im 1400 fz c1 (m.2.2.1 3) := h.im.cp a2
    have h2 : Im 1400 fz c1 (fun j => m1.2.2.1 4 (5550 * k + j)) := h1.e (fun j hj => by
      rw [b3, if_pos (by omega), Nat.add_sub_cancel_left]; rfl)
    exact h2
  · show c1.2.2.2.2 1 = _
    exact a3.2.2.2.2 1 (by decide)
  · show upd (m1.2.2.1 5) k 1 = _
    rw [b2.2.2.1 5 (by decide)]; rfl
  · intro j hj
    show m1.2.2.1 4 j = _
    rw [b3, if_neg (by omega)]; rfl
theorem back_call {k : Nat} (hk : k ≤ 1) (h : RR fz c m) (hi : Im 1400 fz c (fun j => m.2.2.1 4 (5550 * k + j))) (h5 : ¬ m.2.2.1 5 k = 0) : ∃ c' m', fX11_backi (Int32.ofNat k) fz c = some (0, c') ∧ fX12_back (Int32.ofNat k) m = some (0, m') ∧ RR fz c' m' ∧ Im 1400 fz c' (fun j => m'.2.2.1 4 (5550 * k + j)) ∧ Fx c m c' m' := by
  have hin : (0 : Int32) ≤ Int32.ofNat k ∧ Int32.ofNat k ≤ 1 := ⟨oN_nn (by omega), (oN_le (b := 1) (by omega) (by decide)).mpr hk⟩
  obtain ⟨c1, a1, a2, a3⟩ := tkl_1_15 (fz := fz) (c := c) (fun i hi2 => (hi.2.1.2.2.2 i hi2).2)
  obtain ⟨m1, b1, b2, b3⟩ := m_bck_l hk 5550 449 (sI m 0 0) (Nat.le_refl _)
  have b1' : lp (fun _ _ _ => none) fX12_back_b39 6000 (Int32.ofNat k) 0 (sI m 0 0) = _ := b1
  have mI : ∀ q, q ≠ 0 → m1.1 q = m.1 q := fun q hq => by rw [b2.1 q (by intro e; cases e), sI_1, if_neg hq]
  have mA : ∀ q, q ≠ 3 → m1.2.2.1 q = m.2.2.1 q := fun q hq => by rw [b2.2.2.1 q (fun e => hq (by simpa using e))]; rfl
  have cI : ∀ q, (∀ j, j ∈ tkI → q ≠ j) → c1.1 q = c.1 q := fun q hq => a3.1 q (fun j hj => hq j hj)
  have cA : ∀ q, (∀ p, p ∈ tkR → q ≠ p.1) → c1.2.2.1 q = c.2.2.1 q := fun q hq => a3.2.2.1 q (fun p hp => hq p hp)
  have cR : ∀ q, q ≠ 107 → c1.2.2.2.2 q = c.2.2.2.2 q := a3.2.2.2.2
  have him : Im 0 fz c1 (m1.2.2.1 3) := (hi.cp a2).e (fun j hj => by
    rw [b3, if_pos (by omega)]; rfl)
  have e5 : (sI m 0 0).2.2.1 5 k = m.2.2.1 5 k := rfl
  refine ⟨sI (sI c1 905 0) 9 0, sI (sI m1 8 0) 1 0, ?_, ?_, ?_, ?_, ?_⟩
  · unfold fX11_backi fX11_settlei fX2_closei
    rw [c_within, bs_v, if_pos hin, if_neg one_ne0, gi_N (show k < 2 by omega) (by decide), gi_N (show k < 2 by omega) (by decide), a1, bd_v, lt_v, bd_v, if_pos (show (0 : Int32) ≤ 0 by decide), lt_v, bd_v]
  · unfold fX12_back
    rw [lt_v, m_in32 (Int32.ofNat k) 0 1 0 1 rfl rfl, bs_v, if_pos hin, if_neg one_ne0, gi_N (show k < 2 by omega) (by decide), oN_tn (by omega), e5, if_neg h5, b1']
  · obtain ⟨⟨h1, h2, h3⟩, h4, h5, h6, h7, h8, h9, h10, h11⟩ := h
    refine ⟨⟨him.1, him.2.1, ?_⟩, ⟨rfl, fun i hi => ?_⟩, ?_, him.2.2.1, him.2.2.2, Ru.z rfl rfl, ?_, ?_, ?_⟩
    · show m1.1 20 = 0
      rw [mI 20 (by decide)]; exact h3
    · show c1.2.2.1 8 i = m1.2.2.1 2 i
      rw [cA 8 (by decide), mA 2 (by decide)]; exact h4.2 i hi
    · have : Rt c1 m1 := h5.a (cI 504 (by decide)) (cA 500 (by decide)) (mI 13 (by decide)) (mA 12 (by decide))
      exact this
    · have : Rdw c1 m1 := h9.a (cI 1104 (by decide)) (fun q hq => cA q (fun p hp e => by
        have h1 : 1400 ≤ q := (by decide : ∀ q, q ∈ [1400, 1401, 1402, 1403] → 1400 ≤ q) q hq
        have h2 : p.1 < 1400 := (by decide : ∀ p, p ∈ tkR → p.1 < 1400) p hp
        omega)) (mI 52 (by decide)) (mA 51 (by decide))
      exact this
    · have : Rm c1 m1 := h10.a (fun q hq => cI q (fun j hj e => by
        have h1 : q < 100 := (by decide : ∀ q, q ∈ [10, 11, 12] → q < 100) q hq
        have h2 : 100 ≤ j := (by decide : ∀ j, j ∈ tkI → 100 ≤ j) j hj
        omega)) (fun q hq => mI q (fun e => by rw [e] at hq; exact absurd hq (by decide)))
      exact this
    · exact h11.a (fun q _ => by
        show m1.2.2.2.1 q = _
        rw [b2.2.2.2]; rfl)
  · have e4 : (sI (sI m1 8 0) 1 0).2.2.1 4 = m.2.2.1 4 := mA 4 (by decide)
    rw [e4]
    have : Im 1400 fz c1 (fun j => m.2.2.1 4 (5550 * k + j)) := by
      have k0 : Cpy 1400 1400 c c1 := by
        refine ⟨fun q hq => cI _ (fun j hj e => ?_), fun p hp i hi => ?_, fun i hi => by rw [cR (107 + 1400) (by decide)]⟩
        · have h2 : j < 1400 := (by decide : ∀ j, j ∈ tkI → j < 1400) j hj
          omega
        · rw [cA (p.1 + 1400) (fun p2 hp2 e => by
            have h2 : p2.1 < 1400 := (by decide : ∀ p, p ∈ tkR → p.1 < 1400) p2 hp2
            omega)]
      exact hi.cp k0
    exact this
  · exact ⟨cR 1 (by decide), mA 4 (by decide), mA 5 (by decide)⟩
/-- no image: both say so -/
theorem back_null {k : Nat} (hk : k ≤ 1) (h : RR fz c m) (h5 : m.2.2.1 5 k = 0) : Cl fz c m (bd (fX11_refuse (-2) fz c) (fun r st => some (r, st))) (fX12_back (Int32.ofNat k) m) := by
  have hin : (0 : Int32) ≤ Int32.ofNat k ∧ Int32.ofNat k ≤ 1 := ⟨oN_nn (by omega), (oN_le (b := 1) (by omega) (by decide)).mpr hk⟩
  have e5 : (sI m 0 0).2.2.1 5 k = 0 := h5
  unfold fX12_back
  rw [lt_v, m_in32 (Int32.ofNat k) 0 1 0 1 rfl rfl, bs_v, if_pos hin, if_neg one_ne0, gi_N (show k < 2 by omega) (by decide), oN_tn (by omega), e5, if_pos rfl]
  exact cl_refuse (n := 2) h (by decide) (by decide)
theorem image_bad {a : Int32} (ha : ¬ ((0 : Int32) ≤ a ∧ a ≤ 1)) (h : RR fz c m) : Cl fz c m (fX11_image a fz c) (fX12_image a m) ∧ Cl fz c m (fX11_back a fz c) (fX12_back a m) := by
  have href := cl_refuse (n := 1) h (by decide) (by decide)
  constructor
  · unfold fX11_image fX12_image
    rw [lt_v, c_within, bs_v, m_in32 a 0 1 0 1 rfl rfl, bs_v, if_neg ha, if_pos rfl, if_pos rfl]
    exact href
  · unfold fX11_back fX12_back
    rw [lt_v, c_within, bs_v, m_in32 a 0 1 0 1 rfl rfl, bs_v, if_neg ha, if_pos rfl, if_pos rfl]
    exact href
end Image
