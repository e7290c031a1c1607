/-! T2, fires and counts written -/
section HillsW
variable {fz : List FP} {c m : St}
theorem counted_call (a v : Int32) (h : RR fz c m) : Cl fz c m (fX11_counted a v fz c) (fX12_counted a v m) := by
  have href := cl_refuse (n := 1) h (by decide) (by decide)
  have href5 := cl_refuse (n := 5) h (by decide) (by decide)
  unfold fX11_counted fX12_counted fX11_counted_b19 fX12_counted_b29
  rw [lt_v (sI m 0 0), c_within, bs_v, c_within, bs_v, m_in32 a 0 5 0 5 rfl rfl, bs_v, m_in32 v 0 9 0 9 rfl rfl, bs_v]
  by_cases ha : ¬ ((0 : Int32) ≤ a ∧ a ≤ 5)
  · rw [if_neg ha, if_pos rfl, if_pos rfl]; exact href
  replace ha := Decidable.of_not_not ha
  rw [if_pos ha, if_neg one_ne0, if_neg one_ne0]
  by_cases hv : ¬ ((0 : Int32) ≤ v ∧ v ≤ 9)
  · rw [if_neg hv, if_pos rfl, if_pos rfl]; exact href
  replace hv := Decidable.of_not_not hv
  rw [if_pos hv, if_neg one_ne0, if_neg one_ne0]
  have hab : nb 5 a := oN_exb (b := 5) ha.1 (by decide) ha.2
  have hvb : nb 9 v := oN_exb (b := 9) hv.1 (by decide) hv.2
  obtain ⟨g1, ⟨g2, n, hn, en⟩, g3, g4, g5⟩ := h.2.2.2.1
  have q306 : c.1 306 = Int32.ofNat n := g2.trans en
  have e1 : (sI m 0 0).2.2.1 3 (3 : Int32).toNatClampNeg = Int32.ofNat n := en
  rw [lt_v, e1]
  unfold fX4_note
  rw [q306]
  by_cases h8 : n = 8
  · subst h8
    rw [if_pos (show Int32.ofNat 8 = 8 from rfl), if_neg (show ¬ (Int32.ofNat 8 < 8) by decide), bd_v, show (-5 : Int32) = -(Int32.ofNat 5) from rfl, settle_neg (by decide) (by decide)]
    exact href5
  · have i1 : (107 : Int32) + (2 : Int32) * Int32.ofNat n = Int32.ofNat (107 + 2 * n) := by rw [show (2 : Int32) = Int32.ofNat 2 from rfl, oN_mul, show (107 : Int32) = Int32.ofNat 107 from rfl, oN_add]
    have i2 : Int32.ofNat (107 + 2 * n) + (1 : Int32) = Int32.ofNat (108 + 2 * n) := by rw [oN_s]; congr 1; omega
    have t1 : ∀ (st : St) k x, (sI st k x).1 k = x := fun st k x => by rw [sI_1, if_pos rfl]
    have t3 : ∀ (st : St) k x, (sA st k x).2.2.1 k = x := fun st k x => by rw [sA_3, if_pos rfl]
    have t30 : (sI m 0 0).2.2.1 3 = m.2.2.1 3 := rfl
    have o1 : (3 : Int32).toNatClampNeg = 3 := rfl
    have u1 : ∀ (f : Nat → Int32) k x, 107 ≤ k → upd f k x 3 = f 3 := fun f k x hk => by rw [upd_v, if_neg (by omega)]
    rw [if_pos (show Int32.ofNat n < 8 from (oN_lt (b := 8) (by omega) (by decide)).mpr (by omega)), if_neg (show ¬ (Int32.ofNat n = 8) from fun q => h8 ((oN_eq (b := 8) (by omega) (by decide)).mp q))]
    simp only [o1, lt_v, bd_v, sA_1, q306, i1, i2, gi_N (show n < 8 by omega) (show 8 < 2147483648 by decide), gi_N (show 107 + 2 * n < 5550 by omega) (show 5550 < 2147483648 by decide), gi_N (show 108 + 2 * n < 5550 by omega) (show 5550 < 2147483648 by decide), oN_tn (show n < 2147483648 by omega), oN_tn (show 107 + 2 * n < 2147483648 by omega), oN_tn (show 108 + 2 * n < 2147483648 by omega), t1, t3, t30, oN_s, settle_nn (oN_nn (show n + 1 < 2147483648 by omega)), tell_nn (oN_nn (show n + 1 < 2147483648 by omega)), u1 _ _ _ (show 107 ≤ 107 + 2 * n by omega), u1 _ _ _ (show 107 ≤ 108 + 2 * n by omega), en]
    have hu : ∀ k, k ≠ 3 → k ≠ 107 + 2 * n → k ≠ 108 + 2 * n → upd (upd (upd (m.2.2.1 3) (107 + 2 * n) a) (108 + 2 * n) v) 3 (Int32.ofNat (n + 1)) k = m.2.2.1 3 k := fun k h1 h2 h3 => by rw [upd_v, if_neg h1, upd_v, if_neg h3, upd_v, if_neg h2]
    refine Cl.h h rfl rfl ((((fr.sA (by decide)).tr (fr.sA (by decide))).tr (fr.sI (by decide))).tr (fr.sI (by decide))) (((((fr.sI (by decide)).tr (fr.sA (by decide))).tr (fr.sA (by decide))).tr (fr.sA (by decide))).tr (fr.sI (by decide))) (fun k hk => hu k (by omega) (by omega) (by omega)) ⟨rfl, h.2.1.2⟩ ?_ (h.2.2.2.2.1.a rfl (fun k hk => ?_) (fun k hk => hu k (by omega) (by omega) (by omega)))
    · obtain ⟨n1, p1, p2, p3, p4⟩ := g1
      refine ⟨⟨n1, p1, (hu 2 (by omega) (by omega) (by omega)).trans p2, p3, fun q hq => ?_⟩, ⟨rfl, n + 1, by omega, rfl⟩, fun j hj => ?_, fun j hj => ?_, fun j hj => ?_⟩
      · show c.2.2.1 300 q = Int32.ofNat (sb (upd (upd (upd (m.2.2.1 3) (107 + 2 * n) a) (108 + 2 * n) v) 3 (Int32.ofNat (n + 1))) q n1)
        rw [sb_e n1 (fun k hk => hu _ (by omega) (by omega) (by omega))]; exact p4 q hq
      · show c.2.2.1 301 j = upd (upd (upd (m.2.2.1 3) (107 + 2 * n) a) (108 + 2 * n) v) 3 (Int32.ofNat (n + 1)) (101 + j) ∧ nb 9 (upd (upd (upd (m.2.2.1 3) (107 + 2 * n) a) (108 + 2 * n) v) 3 (Int32.ofNat (n + 1)) (101 + j))
        rw [hu _ (by omega) (by omega) (by omega)]; exact g3 j hj
      · show (upd (c.2.2.1 302) n a j = upd (upd (upd (m.2.2.1 3) (107 + 2 * n) a) (108 + 2 * n) v) 3 (Int32.ofNat (n + 1)) (107 + 2 * j) ∧ nb 5 (upd (upd (upd (m.2.2.1 3) (107 + 2 * n) a) (108 + 2 * n) v) 3 (Int32.ofNat (n + 1)) (107 + 2 * j))) ∧ (upd (c.2.2.1 303) n v j = upd (upd (upd (m.2.2.1 3) (107 + 2 * n) a) (108 + 2 * n) v) 3 (Int32.ofNat (n + 1)) (108 + 2 * j) ∧ nb 9 (upd (upd (upd (m.2.2.1 3) (107 + 2 * n) a) (108 + 2 * n) v) 3 (Int32.ofNat (n + 1)) (108 + 2 * j)))
        by_cases q : j = n
        · subst q
          simp only [upd_v, if_neg (show ¬ (107 + 2 * j = 3) by omega), if_neg (show ¬ (108 + 2 * j = 3) by omega), if_neg (show ¬ (107 + 2 * j = 108 + 2 * j) by omega), if_true]
          exact ⟨⟨trivial, hab⟩, trivial, hvb⟩
        · rw [hu _ (by omega) (by omega) (by omega), hu _ (by omega) (by omega) (by omega), upd_v, if_neg q, upd_v, if_neg q]
          exact g4 j hj
      · show nb 63 (upd (upd (upd (m.2.2.1 3) (107 + 2 * n) a) (108 + 2 * n) v) 3 (Int32.ofNat (n + 1)) (91 + j))
        rw [hu _ (by omega) (by omega) (by omega)]; exact g5 j hj
    · show va_up (va_up c.2.2.1 302 _) 303 _ k = _
      rw [vup_v, if_neg (fun e => by rw [e] at hk; exact absurd hk (by decide)), vup_v, if_neg (fun e => by rw [e] at hk; exact absurd hk (by decide))]
/-! fire -/
theorem c_light_l {a n : Nat} {r : Nat → Int32} (ha : a < 64) (hn : n < 10) (hr : r (91 + n) = Int32.ofNat a) : ∀ (k N : Nat) (st : St), k ≤ 6 → st.1 305 = Int32.ofNat n → (∀ h, h < 6 → st.2.2.1 300 h = Int32.ofNat (sb r h (if h < 6 - k then n + 1 else n))) → ∃ st', lp (fun _ _ _ => none) (fX4_light_b14 fz) (N + k) (Int32.ofNat a) (Int32.ofNat (6 - k)) st = lp (fun _ _ _ => none) (fX4_light_b14 fz) N (Int32.ofNat a) (Int32.ofNat 6) st' ∧ fr [] [] [300] st st' ∧ ∀ h, h < 6 → st'.2.2.1 300 h = Int32.ofNat (sb r h (n + 1)) := by
  intro k
  induction k with
  | zero =>
    intro N st _ _ h
    refine ⟨st, rfl, fr.rf, fun q hq => ?_⟩
    rw [h q hq, if_pos (by omega)]
  | succ k ih =>
    intro N st hk h305 h
    have e1 : 6 - k = (6 - (k + 1)) + 1 := by omega
    have hi : 6 - (k + 1) < 6 := by omega
    generalize hgi : 6 - (k + 1) = i at e1 hi h ⊢
    have hst := h i hi
    rw [if_neg (by omega)] at hst
    have hb : (r (91 + n)).toNatClampNeg = a := by rw [hr, oN_tn (by omega)]
    have hnew : Int32.ofNat (sb r i n) ||| (((Int32.ofNat a >>> (Int32.ofNat i &&& 31)) &&& 1) <<< (Int32.ofNat n &&& 31)) = Int32.ofNat (sb r i (n + 1)) := by
      rw [lit (sb_lt r i n) (by omega) (by omega) (by omega)]
      congr 1
      show _ = sb r i n + _
      rw [hb]
    obtain ⟨st', j1, j2, j3⟩ := ih N (sA st 300 (upd (st.2.2.1 300) i (Int32.ofNat (sb r i (n + 1))))) (by omega) h305 (by
      intro q hq
      show upd (st.2.2.1 300) i _ q = _
      rw [upd_v]
      by_cases e : q = i
      · rw [if_pos e, if_pos (by omega), e]
      · rw [if_neg e, h q hq]
        by_cases w : q < i
        · rw [if_pos w, if_pos (by omega)]
        · rw [if_neg w, if_neg (by omega)])
    refine ⟨st', ?_, (fr.sA (by decide)).tr j2, j3⟩
    rw [← j1, ← Nat.add_assoc, lp_s]
    generalize lp (fun _ _ _ => none) (fX4_light_b14 fz) (N + k) = kk
    unfold fX4_light_b14
    rw [if_neg (show ¬ ((6 : Int32) ≤ Int32.ofNat i) from fun q => by have := (oN_le (a := 6) (by decide) (by omega)).mp q; omega), gi_N hi (by decide), gi_N hi (by decide), oN_tn (by omega), hst, h305, hnew, lt_v, lt_v, oN_s, e1]
theorem fire_call (a : Int32) (h : RR fz c m) : Cl fz c m (fX11_fire a fz c) (fX12_fire a m) := by
  have href := cl_refuse (n := 1) h (by decide) (by decide)
  have href5 := cl_refuse (n := 5) h (by decide) (by decide)
  unfold fX11_fire fX12_fire
  rw [lt_v (sI m 0 0), c_within, bs_v, m_in32 a 0 63 0 63 rfl rfl, bs_v]
  by_cases ha : ¬ ((0 : Int32) ≤ a ∧ a ≤ 63)
  · rw [if_neg ha, if_pos rfl, if_pos rfl]; exact href
  replace ha := Decidable.of_not_not ha
  rw [if_pos ha, if_neg one_ne0, if_neg one_ne0]
  obtain ⟨x, hx, ex⟩ := oN_exb (b := 63) ha.1 (by decide) ha.2
  subst ex
  obtain ⟨⟨n, hn, en, q305', g1⟩, g2, g3, g4, g5⟩ := h.2.2.2.1
  have q305 : c.1 305 = Int32.ofNat n := q305'
  have e1 : (sI m 0 0).2.2.1 3 (2 : Int32).toNatClampNeg = Int32.ofNat n := en
  rw [lt_v, e1]
  unfold fX4_light
  rw [q305]
  by_cases h8 : n = 10
  · subst h8
    rw [if_pos (show Int32.ofNat 10 = 10 from rfl), if_neg (show ¬ (Int32.ofNat 10 < 10) by decide), bd_v, show (-5 : Int32) = -(Int32.ofNat 5) from rfl, settle_neg (by decide) (by decide)]
    exact href5
  · have hn' : n < 10 := by omega
    have hu : ∀ k, k ≠ 2 → k ≠ 91 + n → upd (upd (m.2.2.1 3) (91 + n) (Int32.ofNat x)) 2 (Int32.ofNat (n + 1)) k = m.2.2.1 3 k := fun k h1 h2 => by rw [upd_v, if_neg h1, upd_v, if_neg h2]
    have hr : upd (upd (m.2.2.1 3) (91 + n) (Int32.ofNat x)) 2 (Int32.ofNat (n + 1)) (91 + n) = Int32.ofNat x := by rw [upd_v, if_neg (by omega), upd_v, if_pos rfl]
    obtain ⟨st', j1, j2, j3⟩ := c_light_l (fz := fz) (a := x) (n := n) (r := upd (upd (m.2.2.1 3) (91 + n) (Int32.ofNat x)) 2 (Int32.ofNat (n + 1))) (by omega) hn' hr 6 5994 c (Nat.le_refl _) q305 (by
      intro q hq
      rw [if_neg (by omega), sb_e n (fun k hk => hu _ (by omega) (by omega))]
      exact g1 q hq)
    have k305 : st'.1 305 = Int32.ofNat n := (j2.1 305 (by decide)).trans q305
    have hc : lp (fun _ _ _ => none) (fX4_light_b14 fz) 6000 (Int32.ofNat x) (0 : Int32) c = some (Int32.ofNat n, sI st' 305 (Int32.ofNat (n + 1))) := by
      refine j1.trans ?_
      rw [show (5994 : Nat) = 5993 + 1 from rfl, lp_s]
      generalize lp (fun _ _ _ => none) (fX4_light_b14 fz) 5993 = kk
      unfold fX4_light_b14
      rw [if_pos (show (6 : Int32) ≤ Int32.ofNat 6 by decide), k305, oN_s, lt_v]
      have : (sI st' 305 (Int32.ofNat (n + 1))).1 305 - 1 = Int32.ofNat n := by
        show Int32.ofNat (n + 1) - 1 = _
        rw [show (1 : Int32) = Int32.ofNat 1 from rfl, oN_sub (by omega)]; rfl
      rw [this]
    have i1 : (91 : Int32) + Int32.ofNat n = Int32.ofNat (91 + n) := oN_add 91 n
    have o1 : (2 : Int32).toNatClampNeg = 2 := rfl
    have t3 : ∀ (st : St) k x, (sA st k x).2.2.1 k = x := fun st k x => by rw [sA_3, if_pos rfl]
    have t30 : (sI m 0 0).2.2.1 3 = m.2.2.1 3 := rfl
    have u1 : upd (m.2.2.1 3) (91 + n) (Int32.ofNat x) 2 = Int32.ofNat n := by rw [upd_v, if_neg (by omega)]; exact en
    rw [if_pos (show Int32.ofNat n < 10 from (oN_lt (b := 10) (by omega) (by decide)).mpr (by omega)), if_neg (show ¬ (Int32.ofNat n = 10) from fun q => h8 ((oN_eq (b := 10) (by omega) (by decide)).mp q)), hc]
    simp only [o1, lt_v, bd_v, i1, gi_N (show 91 + n < 5550 by omega) (show 5550 < 2147483648 by decide), oN_tn (show 91 + n < 2147483648 by omega), t3, t30, u1, oN_s, settle_nn (oN_nn (show n < 2147483648 by omega)), tell_nn (oN_nn (show n < 2147483648 by omega))]
    have jf : fr [9, 305, 306, 404] [] [8, 300, 301, 302, 303, 400, 401, 402] c st' := j2.up (by decide) (by decide) (by decide)
    have ja : ∀ k, k ≠ 300 → st'.2.2.1 k = c.2.2.1 k := fun k hk => j2.2.2.1 k (fun e => hk (by simpa using e))
    refine Cl.h h rfl rfl ((jf.tr (fr.sI (by decide))).tr (fr.sI (by decide))) ((((fr.sI (by decide)).tr (fr.sA (by decide))).tr (fr.sA (by decide))).tr (fr.sI (by decide))) (fun k hk => hu k (by omega) (by omega)) ⟨rfl, ?_⟩ ⟨⟨n + 1, by omega, rfl, rfl, j3⟩, ?_, fun j hj => ?_, fun j hj => ?_, fun j hj => ?_⟩ (h.2.2.2.2.1.a ?_ (fun k hk => ?_) (fun k hk => hu k (by omega) (by omega)))
    · intro i hi
      show st'.2.2.1 8 i = m.2.2.1 2 i
      rw [ja 8 (by decide)]; exact h.2.1.2 i hi
    · show st'.1 306 = upd (upd (m.2.2.1 3) (91 + n) (Int32.ofNat x)) 2 (Int32.ofNat (n + 1)) 3 ∧ nb 8 (upd (upd (m.2.2.1 3) (91 + n) (Int32.ofNat x)) 2 (Int32.ofNat (n + 1)) 3)
      rw [hu 3 (by omega) (by omega), j2.1 306 (by decide)]; exact g2
    · show st'.2.2.1 301 j = upd (upd (m.2.2.1 3) (91 + n) (Int32.ofNat x)) 2 (Int32.ofNat (n + 1)) (101 + j) ∧ nb 9 (upd (upd (m.2.2.1 3) (91 + n) (Int32.ofNat x)) 2 (Int32.ofNat (n + 1)) (101 + j))
      rw [hu _ (by omega) (by omega), ja 301 (by decide)]; exact g3 j hj
    · show (st'.2.2.1 302 j = upd (upd (m.2.2.1 3) (91 + n) (Int32.ofNat x)) 2 (Int32.ofNat (n + 1)) (107 + 2 * j) ∧ nb 5 (upd (upd (m.2.2.1 3) (91 + n) (Int32.ofNat x)) 2 (Int32.ofNat (n + 1)) (107 + 2 * j))) ∧ (st'.2.2.1 303 j = upd (upd (m.2.2.1 3) (91 + n) (Int32.ofNat x)) 2 (Int32.ofNat (n + 1)) (108 + 2 * j) ∧ nb 9 (upd (upd (m.2.2.1 3) (91 + n) (Int32.ofNat x)) 2 (Int32.ofNat (n + 1)) (108 + 2 * j)))
      rw [hu _ (by omega) (by omega), hu _ (by omega) (by omega), ja 302 (by decide), ja 303 (by decide)]; exact g4 j hj
    · show nb 63 (upd (upd (m.2.2.1 3) (91 + n) (Int32.ofNat x)) 2 (Int32.ofNat (n + 1)) (91 + j))
      by_cases q : j = n
      · rw [q, hr]; exact ⟨x, hx, rfl⟩
      · rw [hu _ (by omega) (by omega)]; exact g5 j hj
    · show st'.1 404 = c.1 404
      exact j2.1 404 (by decide)
    · show st'.2.2.1 k = _
      exact ja k (fun e => by rw [e] at hk; exact absurd hk (by decide))
/-! forget -/
theorem c_clear_l : ∀ (k N : Nat) (st : St), k ≤ 6 → (∀ h, h < 6 - k → st.2.2.1 300 h = 0) → ∃ st', lp (fun _ _ _ _ => none) (fJ7_fill_53178__300_b5 fz) (N + k) 0 (Int32.ofNat (6 - k)) 6 st = lp (fun _ _ _ _ => none) (fJ7_fill_53178__300_b5 fz) N 0 (Int32.ofNat 6) 6 st' ∧ fr [] [] [300] st st' ∧ ∀ h, h < 6 → st'.2.2.1 300 h = 0 := by
  intro k
  induction k with
  | zero =>
    intro N st _ h
    exact ⟨st, rfl, fr.rf, h⟩
  | succ k ih =>
    intro N st hk h
    have e1 : 6 - k = (6 - (k + 1)) + 1 := by omega
    have hi : 6 - (k + 1) < 6 := by omega
    generalize hgi : 6 - (k + 1) = i at e1 hi h ⊢
    obtain ⟨st', j1, j2, j3⟩ := ih N (sA st 300 (upd (st.2.2.1 300) i 0)) (by omega) (by
      intro q hq
      show upd (st.2.2.1 300) i _ q = _
      rw [upd_v]
      by_cases e : q = i
      · rw [if_pos e]
      · rw [if_neg e]; exact h q (by omega))
    refine ⟨st', ?_, (fr.sA (by decide)).tr j2, j3⟩
    rw [← j1, ← Nat.add_assoc, lp_s]
    generalize lp (fun _ _ _ _ => none) (fJ7_fill_53178__300_b5 fz) (N + k) = kk
    unfold fJ7_fill_53178__300_b5
    rw [if_neg (show ¬ ((6 : Int32) ≤ Int32.ofNat i) from fun q => by have := (oN_le (a := 6) (by decide) (by omega)).mp q; omega), gi_N hi (by decide), oN_tn (by omega), lt_v, lt_v, oN_s, e1]
theorem forget_call (h : RR fz c m) : Cl fz c m (fX11_forget fz c) (fX12_forget m) := by
  obtain ⟨⟨n, hn, en, q305', g1⟩, g2, g3, g4, g5⟩ := h.2.2.2.1
  have q305 : c.1 305 = m.2.2.1 3 2 := q305'.trans en.symm
  have q306 : c.1 306 = m.2.2.1 3 3 := g2.1
  have q404 : c.1 404 = m.2.2.1 3 1 := h.2.2.2.2.1.1.1
  obtain ⟨st', j1, j2, j3⟩ := c_clear_l (fz := fz) 6 5994 (sI c 404 0) (Nat.le_refl _) (fun q hq => absurd hq (by omega))
  have hc : fX4_clear fz (sI c 404 0) = some ((), sI (sI st' 305 0) 306 0) := by
    unfold fX4_clear fJ7_fill_53178__300
    have : lp (fun _ _ _ _ => none) (fJ7_fill_53178__300_b5 fz) 6000 0 (0 : Int32) 6 (sI c 404 0) = some ((), st') := by
      refine j1.trans ?_
      rw [show (5994 : Nat) = 5993 + 1 from rfl, lp_s]
      generalize lp (fun _ _ _ _ => none) (fJ7_fill_53178__300_b5 fz) 5993 = kk
      unfold fJ7_fill_53178__300_b5
      rw [if_pos (show (6 : Int32) ≤ Int32.ofNat 6 by decide)]
    rw [this, bd_v, lt_v, lt_v]
  unfold fX11_forget fX12_forget
  rw [lt_v, lt_v, hc, bd_v, q404, q305, q306, lt_v, lt_v, lt_v, lt_v, lt_v]
  have hu : ∀ k, k ≠ 1 → k ≠ 2 → k ≠ 3 → upd (upd (upd (m.2.2.1 3) 1 0) 2 0) 3 0 k = m.2.2.1 3 k := fun k h1 h2 h3 => by rw [upd_v, if_neg h3, upd_v, if_neg h2, upd_v, if_neg h1]
  have jf : fr [9, 305, 306, 404] [] [8, 300, 301, 302, 303, 400, 401, 402] (sI c 404 0) st' := j2.up (by decide) (by decide) (by decide)
  have ja : ∀ k, k ≠ 300 → st'.2.2.1 k = c.2.2.1 k := fun k hk => j2.2.2.1 k (fun e => hk (by simpa using e))
  have ji : ∀ k, k ≠ 404 → st'.1 k = c.1 k := fun k hk => by
    rw [j2.1 k (by intro e; cases e), sI_1, if_neg hk]
  refine Cl.h h rfl rfl ((((fr.sI (by decide)).tr jf).tr (fr.sI (by decide))).tr (fr.sI (by decide))) ((((fr.sI (by decide)).tr (fr.sA (by decide))).tr (fr.sA (by decide))).tr (fr.sA (by decide))) (fun k hk => hu k (by omega) (by omega) (by omega)) ⟨?_, ?_⟩ ⟨⟨0, by omega, rfl, rfl, fun q hq => ?_⟩, ?_, fun j hj => ?_, fun j hj => ?_, fun j hj => ?_⟩ ⟨⟨?_, 0, by omega, rfl⟩, fun j hj => ?_⟩
  · show st'.1 9 = m.1 1
    rw [ji 9 (by decide)]; exact h.2.1.1
  · intro i hi
    show st'.2.2.1 8 i = m.2.2.1 2 i
    rw [ja 8 (by decide)]; exact h.2.1.2 i hi
  · exact j3 q hq
  · exact ⟨rfl, 0, by omega, rfl⟩
  · show st'.2.2.1 301 j = upd (upd (upd (m.2.2.1 3) 1 0) 2 0) 3 0 (101 + j) ∧ nb 9 (upd (upd (upd (m.2.2.1 3) 1 0) 2 0) 3 0 (101 + j))
    rw [hu _ (by omega) (by omega) (by omega), ja 301 (by decide)]; exact g3 j hj
  · show (st'.2.2.1 302 j = upd (upd (upd (m.2.2.1 3) 1 0) 2 0) 3 0 (107 + 2 * j) ∧ nb 5 (upd (upd (upd (m.2.2.1 3) 1 0) 2 0) 3 0 (107 + 2 * j))) ∧ (st'.2.2.1 303 j = upd (upd (upd (m.2.2.1 3) 1 0) 2 0) 3 0 (108 + 2 * j) ∧ nb 9 (upd (upd (upd (m.2.2.1 3) 1 0) 2 0) 3 0 (108 + 2 * j)))
    rw [hu _ (by omega) (by omega) (by omega), hu _ (by omega) (by omega) (by omega), ja 302 (by decide), ja 303 (by decide)]; exact g4 j hj
  · show nb 63 (upd (upd (upd (m.2.2.1 3) 1 0) 2 0) 3 0 (91 + j))
    rw [hu _ (by omega) (by omega) (by omega)]; exact g5 j hj
  · show st'.1 404 = 0
    rw [j2.1 404 (by decide)]; rfl
  · show (st'.2.2.1 400 j = upd (upd (upd (m.2.2.1 3) 1 0) 2 0) 3 0 (123 + 3 * j) ∧ nb 99 (upd (upd (upd (m.2.2.1 3) 1 0) 2 0) 3 0 (123 + 3 * j))) ∧ (st'.2.2.1 401 j = upd (upd (upd (m.2.2.1 3) 1 0) 2 0) 3 0 (124 + 3 * j) ∧ nb 10 (upd (upd (upd (m.2.2.1 3) 1 0) 2 0) 3 0 (124 + 3 * j))) ∧ (st'.2.2.1 402 j = upd (upd (upd (m.2.2.1 3) 1 0) 2 0) 3 0 (125 + 3 * j) ∧ nb 999 (upd (upd (upd (m.2.2.1 3) 1 0) 2 0) 3 0 (125 + 3 * j)))
    rw [hu _ (by omega) (by omega) (by omega), hu _ (by omega) (by omega) (by omega), hu _ (by omega) (by omega) (by omega), ja 400 (by decide), ja 401 (by decide), ja 402 (by decide)]; exact h.2.2.2.2.1.2 j hj
end HillsW
