/-! T2, show, hide, man, march, undo as calls -/
section Undo
variable {fz : List FP} {c m : St}
theorem Ru.s {c' m' : St} (h : Ru c m) (k : cs c c') (k2 : ms m m') : Ru c' m' := h.a (k.1 905 (by decide)) (k.2.2.1 902 (by decide)) (k2.1 8 (by decide)) (k2.2.2.1 6 (by decide)) (k2.2.2.1 7 (by decide)) (fun q _ => by rw [k2.2.2.1 3 (by decide)])
/-- a deed done or refused, then settled -/
theorem Cl.d {v : Int32} {c1 m1 : St} (h : RR fz c m) (hq : Rq fz c1 m1) (hu : Ru c1 m1) (f : df c c1) (g : dm (sI m 0 0) m1) (hv : 0 ≤ v ∨ ∃ n, 1 ≤ n ∧ n ≤ 6 ∧ v = -(Int32.ofNat n)) : Cl fz c m (bd (fX11_settle v fz c1) (fun r st => some (r, st))) (bd (fX12_tell v m1) (fun r st => some (r, st))) := by
  obtain ⟨-, h4, h5, h6, h7, -, h9, h10, h11⟩ := h
  have fi : ∀ {l : List Nat}, (∀ x, x ∈ l → x ∉ [204, 905]) → ∀ x, x ∈ l → c1.1 x = c.1 x := fun s x hx => f.1 x (s x hx)
  have fa : ∀ {l : List Nat}, (∀ x, x ∈ l → x ∉ [200, 201, 202, 203, 801, 902]) → ∀ x, x ∈ l → c1.2.2.1 x = c.2.2.1 x := fun s x hx => f.2.2.1 x (s x hx)
  have gI : ∀ x, x ∉ [0, 8, 34, 38] → m1.1 x = m.1 x := fun x hx => by
    rw [g.1 x (fun e => hx (List.mem_cons_of_mem _ e)), sI_1, if_neg (fun (e : x = 0) => hx (by rw [e]; decide))]
  have gA : ∀ x, x ∉ [3, 6, 7] → m1.2.2.1 x = m.2.2.1 x := fun x hx => g.2.2.1 x hx
  have g3 : ∀ k, k < 6 ∨ 31 ≤ k → m1.2.2.1 3 k = m.2.2.1 3 k := g.2.2.2.2.2
  have hs1 : Rs c1 m1 := h4.a (f.1 9 (by decide)) (f.2.2.1 8 (by decide)) (gI 1 (by decide)) (gA 2 (by decide))
  obtain ⟨c2, m2, k1, k2, k3, k4, k5⟩ := settle_both (fz := fz) hs1 hv
  rw [k1, bd_v, k2, bd_v]
  have ci : ∀ {l : List Nat}, (∀ x, x ∈ l → x ≠ 9) → ∀ x, x ∈ l → c2.1 x = c1.1 x := fun s x hx => k4.1 x (s x hx)
  have caa : ∀ {l : List Nat}, (∀ x, x ∈ l → x ≠ 8) → ∀ x, x ∈ l → c2.2.2.1 x = c1.2.2.1 x := fun s x hx => k4.2.2.1 x (s x hx)
  have m3 : m2.2.2.1 3 = m1.2.2.1 3 := k5.2.2.1 3 (by decide)
  refine ⟨v, c2, m2, rfl, rfl, ⟨hq.s k4 k5, k3, ?_, ?_, ?_, hu.s k4 k5, ?_, ?_, ?_⟩, ?_, ?_, ?_⟩
  · exact (h5.a (f.1 504 (by decide)) (f.2.2.1 500 (by decide)) (gI 13 (by decide)) (gA 12 (by decide))).a (k4.1 504 (by decide)) (k4.2.2.1 500 (by decide)) (k5.1 13 (by decide)) (k5.2.2.1 12 (by decide))
  · exact (h6.a (fi (by decide)) (fa (by decide)) (fun k hk => g3 k (by omega))).a (ci (by decide)) (caa (by decide)) (fun k _ => by rw [m3])
  · exact (h7.a (f.1 404 (by decide)) (fa (by decide)) (fun k hk => g3 k (by omega))).a (k4.1 404 (by decide)) (caa (by decide)) (fun k _ => by rw [m3])
  · exact (h9.a (f.1 1104 (by decide)) (fa (by decide)) (gI 52 (by decide)) (gA 51 (by decide))).a (k4.1 1104 (by decide)) (caa (by decide)) (k5.1 52 (by decide)) (k5.2.2.1 51 (by decide))
  · exact (h10.a (fi (by decide)) (fun k hk => gI k (fun e => by
      revert hk e; revert k; decide))).a (ci (by decide)) (fun k hk => k5.1 k (fun e => by rw [e] at hk; exact absurd hk (by decide)))
  · exact h11.a (fun k hk => by
      rw [k5.2.2.2, g.2.2.2.1 k (fun e => by revert hk e; revert k; decide)]; rfl)
  · rw [k4.2.2.2, f.2.2.2.2]
  · rw [k5.2.2.1 4 (by decide), gA 4 (by decide)]
  · rw [k5.2.2.1 5 (by decide), gA 5 (by decide)]
theorem Cl.at' {x y : Option (Int32 × St)} (h : RR fz c m) (k : At fz c (sI m 0 0) x y) : Cl fz c m (bd x (fun r1 st2 => bd (fX11_settle r1 fz st2) (fun r3 st4 => some (r3, st4)))) (bd y (fun r2 st3 => bd (fX12_tell r2 st3) (fun r4 st5 => some (r4, st5)))) := by
  obtain ⟨v, c1, m1, e1, e2, q, u, f, g, hv⟩ := k
  rw [e1, e2, bd_v, bd_v]
  exact Cl.d h q u f g (hv.1.elim (fun z => Or.inl z.1) Or.inr)
theorem show_call (a b : Int32) (h : RR fz c m) : Cl fz c m (fX11_show a b fz c) (fX12_show a b m) := by
  unfold fX11_show fX12_show
  rw [lt_v]
  exact Cl.at' h (show_at a b h.z.1 h.z.2.2.2.2.2.1)
theorem hide_call (a b : Int32) (h : RR fz c m) : Cl fz c m (fX11_hide a b fz c) (fX12_hide a b m) := by
  unfold fX11_hide fX12_hide
  rw [lt_v]
  exact Cl.at' h (hide_at a b h.z.1 h.z.2.2.2.2.2.1)
theorem man_call (a b : Int32) (h : RR fz c m) : Cl fz c m (fX11_man a b fz c) (fX12_man a b m) := by
  unfold fX11_man fX12_man
  rw [lt_v]
  exact Cl.at' h (man_at a b h.z.1 h.z.2.2.2.2.2.1)
theorem march_call (a b : Int32) (h : RR fz c m) : Cl fz c m (fX11_march a b fz c) (fX12_march a b m) := by
  unfold fX11_march fX12_march
  rw [lt_v]
  exact Cl.at' h (march_at b a h.z.1 h.z.2.2.2.2.2.1)
/-- what the log's j-th deed gives back -/
theorem undo_both (h : Rq fz c m) {n : Nat} (hu : RuN (n + 1) c m) : ∃ v c' m', nb 3 v ∧ fX2_takeBack fz c = some (v, c') ∧ (bd (fX12_putBack (Int32.ofNat n) (sI m 8 (Int32.ofNat n))) (fun _ st4 => gi (st4.1 8) 16 (some (st4.2.2.1 7 (st4.1 8).toNatClampNeg, st4)))) = some (v, m') ∧ Rq fz c' m' ∧ RuN n c' m' ∧ df c c' ∧ dm m m' := by
  obtain ⟨u0, u1, u2, u3⟩ := hu
  obtain ⟨⟨f, f1, f2, f3, f4⟩, ⟨f5, f6⟩, f7⟩ := u3 n (by omega)
  obtain ⟨m1, k1, k2, k3⟩ := m_put (m := sI m 8 (Int32.ofNat n)) (k := n) (by omega)
  obtain ⟨g, hg4, hg⟩ := gen_ex h f1
  have q103 : c.2.2.1 103 f = Int32.ofNat g := ((h.1.2.2.2.2.2.2.2.2.1 f f1).1).trans hg
  have i0 : Int32.ofNat n * (7 : Int32) = Int32.ofNat (7 * n) := by rw [show (7 : Int32) = Int32.ofNat 7 from rfl, oN_mul, Nat.mul_comm]
  have im : Int32.ofNat (n + 1) - 1 = Int32.ofNat n := by rw [show (1 : Int32) = Int32.ofNat 1 from rfl, oN_sub (by omega)]; rfl
  have i1 : Int32.ofNat (7 * n) + (1 : Int32) = Int32.ofNat (7 * n + 1) := oN_s _
  have i2 : Int32.ofNat (7 * n) + (2 : Int32) = Int32.ofNat (7 * n + 2) := oN_add _ 2
  have i3 : Int32.ofNat (7 * n) + (3 : Int32) = Int32.ofNat (7 * n + 3) := oN_add _ 3
  have i4 : Int32.ofNat (7 * n) + (4 : Int32) = Int32.ofNat (7 * n + 4) := oN_add _ 4
  have i5 : Int32.ofNat (7 * n) + (5 : Int32) = Int32.ofNat (7 * n + 5) := oN_add _ 5
  have i6 : Int32.ofNat (7 * n) + (6 : Int32) = Int32.ofNat (7 * n + 6) := oN_add _ 6
  have hhas : fX6_has (Int32.ofNat f) fz (sI c 905 (Int32.ofNat n)) = some (1, sI c 905 (Int32.ofNat n)) := by
    obtain ⟨h0, N, hN, eN⟩ := h.1.1
    have h108 : (sI c 905 (Int32.ofNat n)).1 108 = Int32.ofNat N := h0.trans eN
    rw [eN, oN_tn (by omega)] at f2
    have e1 : Int32.ofNat N - 1 = Int32.ofNat (N - 1) := by rw [show (1 : Int32) = Int32.ofNat 1 from rfl, oN_sub (by omega)]
    unfold fX6_has
    rw [c_within, bs_v, h108, e1, if_pos (show (0 : Int32) ≤ Int32.ofNat f ∧ Int32.ofNat f ≤ Int32.ofNat (N - 1) from ⟨oN_nn (by omega), (oN_le (by omega) (by omega)).mpr (by omega)⟩), gb_1]
  -- the class
  have hc : ∃ c', fX2_takeBack fz c = some (c.2.2.1 902 (7 * n), c') ∧ c'.1 204 = c.2.2.1 902 (7 * n + 6) ∧ c'.1 905 = Int32.ofNat n ∧ c'.2.2.1 200 = upd (c.2.2.1 200) f (c.2.2.1 902 (7 * n + 2)) ∧ c'.2.2.1 201 = upd (c.2.2.1 201) f (c.2.2.1 902 (7 * n + 3)) ∧ c'.2.2.1 202 = upd (c.2.2.1 202) f (c.2.2.1 902 (7 * n + 4)) ∧ c'.2.2.1 203 = upd (c.2.2.1 203) g (c.2.2.1 902 (7 * n + 5)) ∧ fr [204, 905] [] [200, 201, 202, 203] c c' := by
    have t9 : (sI c 905 (Int32.ofNat n)).1 905 = Int32.ofNat n := rfl
    have t0 : ∀ x, (sI c 905 x).2.2.1 = c.2.2.1 := fun _ => rfl
    have s2 : ∀ (st : St) y, (sA st 200 y).2.2.1 902 = st.2.2.1 902 := fun _ _ => rfl
    have s3 : ∀ (st : St) y, (sA st 201 y).2.2.1 902 = st.2.2.1 902 := fun _ _ => rfl
    have s4 : ∀ (st : St) y, (sA st 202 y).2.2.1 902 = st.2.2.1 902 := fun _ _ => rfl
    have s5 : ∀ (st : St) y, (sA st 203 y).2.2.1 902 = st.2.2.1 902 := fun _ _ => rfl
    have s6 : ∀ (st : St) y, (sI st 204 y).2.2.1 = st.2.2.1 := fun _ _ => rfl
    have g2 : ∀ (st : St) y, (sA st 200 y).2.2.1 103 = st.2.2.1 103 := fun _ _ => rfl
    have g3 : ∀ (st : St) y, (sA st 201 y).2.2.1 103 = st.2.2.1 103 := fun _ _ => rfl
    have g4 : ∀ (st : St) y, (sA st 202 y).2.2.1 103 = st.2.2.1 103 := fun _ _ => rfl
    unfold fX2_takeBack fX2_takeBack_b155
    rw [u1, if_pos (show (0 : Int32) < Int32.ofNat (n + 1) from (oN_lt (a := 0) (by decide) (by omega)).mpr (by omega)), im, lt_v, t9, i0, lt_v, i1, gi_N (show 7 * n + 1 < 112 by omega) (by decide), oN_tn (show 7 * n + 1 < 2147483648 by omega), t0, f3, lt_v, hhas, bd_v, if_neg one_ne0]
    simp only [lt_v, i2, i3, i4, i5, i6, gi_N f1 (show 6 < 2147483648 by decide), gi_N (show g < 4 by omega) (show 4 < 2147483648 by decide), gi_N (show 7 * n < 112 by omega) (show 112 < 2147483648 by decide), gi_N (show 7 * n + 2 < 112 by omega) (show 112 < 2147483648 by decide), gi_N (show 7 * n + 3 < 112 by omega) (show 112 < 2147483648 by decide), gi_N (show 7 * n + 4 < 112 by omega) (show 112 < 2147483648 by decide), gi_N (show 7 * n + 5 < 112 by omega) (show 112 < 2147483648 by decide), gi_N (show 7 * n + 6 < 112 by omega) (show 112 < 2147483648 by decide), oN_tn (show f < 2147483648 by omega), oN_tn (show g < 2147483648 by omega), oN_tn (show 7 * n < 2147483648 by omega), oN_tn (show 7 * n + 2 < 2147483648 by omega), oN_tn (show 7 * n + 3 < 2147483648 by omega), oN_tn (show 7 * n + 4 < 2147483648 by omega), oN_tn (show 7 * n + 5 < 2147483648 by omega), oN_tn (show 7 * n + 6 < 2147483648 by omega), t0, s2, s3, s4, s5, s6, g2, g3, g4, q103]
    refine ⟨_, rfl, rfl, rfl, rfl, rfl, rfl, rfl, ?_⟩
    exact (((((fr.sI (by decide)).tr (fr.sA (by decide))).tr (fr.sA (by decide))).tr (fr.sA (by decide))).tr (fr.sA (by decide))).tr (fr.sI (by decide))
  obtain ⟨c', c1, c2, c3, c4, c5, c6, c7, c8⟩ := hc
  have k8 : m1.1 8 = Int32.ofNat n := k2.1 8 (by decide)
  have k7 : m1.2.2.1 7 = m.2.2.1 7 := k2.2.2.1 7 (by decide)
  have k6 : m1.2.2.1 6 = m.2.2.1 6 := k2.2.2.1 6 (by decide)
  have kr : ∀ i, i < 25 → m1.2.2.1 3 (6 + i) = pt (c.2.2.1 902) n f g (fun i => m.2.2.1 3 (6 + i)) i := by
    intro i hi
    rw [k3, if_pos (by omega)]
    have e6 : (sI m 8 (Int32.ofNat n)).2.2.1 6 (25 * n + (6 + i - 6)) = sn m (n + 1) n i := by
      unfold sn
      rw [if_neg (by omega), show 6 + i - 6 = i by omega]; rfl
    rw [e6, f4 i hi, hg, oN_tn (by omega)]
    refine pt_e ?_
    unfold sn
    rw [if_pos rfl]
  have ko : ∀ k, k < 6 ∨ 31 ≤ k → m1.2.2.1 3 k = m.2.2.1 3 k := by
    intro k hk
    rw [k3, if_neg (by omega)]; rfl
  have kb : ∀ i, i < 25 → nb (bS i) (m1.2.2.1 3 (6 + i)) := by
    intro i hi
    have e6 : m1.2.2.1 3 (6 + i) = sn m (n + 1) n i := by
      rw [k3, if_pos (by omega)]
      unfold sn
      rw [if_neg (by omega), show 6 + i - 6 = i by omega]; rfl
    rw [e6]; exact f7 i hi
  have cI : ∀ k, k ∉ [204, 905] → c'.1 k = c.1 k := c8.1
  have cA : ∀ k, k ∉ [200, 201, 202, 203] → c'.2.2.1 k = c.2.2.1 k := c8.2.2.1
  have hRl : Rl 0 c' (m1.2.2.1 3) := by
    obtain ⟨h0, h1, h2, h3, h4, h5, h6, h7, h8, h9, h10⟩ := h.1
    refine ⟨?_, ⟨?_, kb 0 (by omega)⟩, ⟨?_, kb 1 (by omega)⟩, ⟨?_, kb 2 (by omega)⟩, fun j hj => ⟨?_, ?_⟩, fun j hj => ⟨?_, ?_⟩, fun j hj => ⟨?_, ?_⟩, fun j hj => ⟨?_, ?_⟩, fun j hj => ?_, fun j hj => ?_, fun j hj => ?_⟩
    · rw [ko 0 (by omega), cI (108 + 0) (by decide)]; exact h0
    · rw [show (6 : Nat) = 6 + 0 from rfl, kr 0 (by omega)]; exact c2
    · rw [show (7 : Nat) = 6 + 1 from rfl, kr 1 (by omega), cI (109 + 0) (by decide), h2.1]
      unfold pt
      rw [if_neg (by omega), if_neg (by omega), if_neg (by omega), if_neg (by omega), if_neg (by omega)]
    · rw [show (8 : Nat) = 6 + 2 from rfl, kr 2 (by omega), cI (110 + 0) (by decide), h3.1]
      unfold pt
      rw [if_neg (by omega), if_neg (by omega), if_neg (by omega), if_neg (by omega), if_neg (by omega)]
    · show c'.2.2.1 203 j = _
      rw [show 9 + j = 6 + (3 + j) by omega, kr (3 + j) (by omega), c7, upd_v]
      by_cases e : j = g
      · rw [if_pos e]
        unfold pt
        rw [if_neg (by omega), if_pos (by omega)]
      · rw [if_neg e]
        unfold pt
        rw [if_neg (by omega), if_neg (by omega), if_neg (by omega), if_neg (by omega), if_neg (by omega)]
        show _ = m.2.2.1 3 (6 + (3 + j))
        rw [show 6 + (3 + j) = 9 + j by omega]; exact (h4 j hj).1
    · have := kb (3 + j) (by omega)
      rw [show 6 + (3 + j) = 9 + j by omega] at this
      have e : bS (3 + j) = 100 := by
        unfold bS
        rw [if_neg (by omega), if_neg (by omega), if_neg (by omega), if_pos (by omega)]
      rw [e] at this; exact this
    · show c'.2.2.1 200 j = _
      rw [show 13 + j = 6 + (7 + j) by omega, kr (7 + j) (by omega), c4, upd_v]
      by_cases e : j = f
      · rw [if_pos e]
        unfold pt
        rw [if_neg (by omega), if_neg (by omega), if_pos (by omega)]
      · rw [if_neg e]
        unfold pt
        rw [if_neg (by omega), if_neg (by omega), if_neg (by omega), if_neg (by omega), if_neg (by omega)]
        show _ = m.2.2.1 3 (6 + (7 + j))
        rw [show 6 + (7 + j) = 13 + j by omega]; exact (h5 j hj).1
    · have := kb (7 + j) (by omega)
      rw [show 6 + (7 + j) = 13 + j by omega] at this
      have e : bS (7 + j) = 99 := by
        unfold bS
        rw [if_neg (by omega), if_neg (by omega), if_neg (by omega), if_neg (by omega), if_pos (by omega)]
      rw [e] at this; exact this
    · show c'.2.2.1 201 j = _
      rw [show 19 + j = 6 + (13 + j) by omega, kr (13 + j) (by omega), c5, upd_v]
      by_cases e : j = f
      · rw [if_pos e]
        unfold pt
        rw [if_neg (by omega), if_neg (by omega), if_neg (by omega), if_pos (by omega)]
      · rw [if_neg e]
        unfold pt
        rw [if_neg (by omega), if_neg (by omega), if_neg (by omega), if_neg (by omega), if_neg (by omega)]
        show _ = m.2.2.1 3 (6 + (13 + j))
        rw [show 6 + (13 + j) = 19 + j by omega]; exact (h6 j hj).1
    · have := kb (13 + j) (by omega)
      rw [show 6 + (13 + j) = 19 + j by omega] at this
      have e : bS (13 + j) = 63 := by
        unfold bS
        rw [if_neg (by omega), if_neg (by omega), if_neg (by omega), if_neg (by omega), if_neg (by omega), if_pos (by omega)]
      rw [e] at this; exact this
    · show c'.2.2.1 202 j = _
      rw [show 25 + j = 6 + (19 + j) by omega, kr (19 + j) (by omega), c6, upd_v]
      by_cases e : j = f
      · rw [if_pos e]
        unfold pt
        rw [if_neg (by omega), if_neg (by omega), if_neg (by omega), if_neg (by omega), if_pos (by omega)]
      · rw [if_neg e]
        unfold pt
        rw [if_neg (by omega), if_neg (by omega), if_neg (by omega), if_neg (by omega), if_neg (by omega)]
        show _ = m.2.2.1 3 (6 + (19 + j))
        rw [show 6 + (19 + j) = 25 + j by omega]; exact (h7 j hj).1
    · have := kb (19 + j) (by omega)
      rw [show 6 + (19 + j) = 25 + j by omega] at this
      have e : bS (19 + j) = 1 := by
        unfold bS
        rw [if_neg (by omega), if_neg (by omega), if_neg (by omega), if_neg (by omega), if_neg (by omega), if_neg (by omega)]
      rw [e] at this; exact this
    · rw [ko (31 + j) (by omega), cA (103 + 0) (by decide)]; exact h8 j hj
    · rw [ko (37 + j) (by omega), cA (104 + 0) (by decide)]; exact h9 j hj
    · rw [ko (55 + j) (by omega), cA (105 + 0) (by decide)]; exact h10 j hj
  have sn1 : ∀ j i, j ≤ n → i < 25 → sn m1 n j i = sn m (n + 1) j i := by
    intro j i hj hi
    unfold sn
    rw [if_neg (show ¬ (j = n + 1) by omega), k6]
    by_cases e : j = n
    · rw [if_pos e, k3, if_pos (by omega), show 6 + i - 6 = i by omega, e]; rfl
    · rw [if_neg e]
  have dmm : dm m m1 := by
    have d1 : fr [8] [] [3] m m1 := (fr.sI (by decide)).tr (k2.up (by decide) (by decide) (by decide))
    exact fr.dm d1 (by decide) (by decide) ko
  refine ⟨m.2.2.1 7 n, c', m1, f6, ?_, ?_, ⟨hRl, h.2.1.a ?_ ?_ ?_, ?_⟩, ⟨by omega, c3, k8, fun j hj => ?_⟩, fr.df (J := []) c8 (by decide) (by decide), dmm⟩
  · rw [← f5]; exact c1
  · rw [k1, bd_v, k8, gi_N (show n < 16 by omega) (by decide), oN_tn (by omega), k7]
  · intro k hk
    exact cI k (fun e => by revert hk e; revert k; decide)
  · rw [c8.2.2.2]
  · intro k hk
    exact ko k (by omega)
  · rw [dmm.1 20 (by decide)]; exact h.2.2
  · obtain ⟨⟨F, a1, a2, a3, a4⟩, a5, a6⟩ := u3 j (by omega)
    rw [cA 902 (by decide), k7, ko 0 (by omega)]
    refine ⟨⟨F, a1, a2, a3, fun i hi => ?_⟩, a5, fun i hi => ?_⟩
    · rw [sn1 j i (by omega) hi, ko (31 + F) (by omega), a4 i hi]
      exact (pt_e (sn1 (j + 1) i (by omega) hi)).symm
    · rw [sn1 j i (by omega) hi]; exact a6 i hi
theorem undo_call (h : RR fz c m) : Cl fz c m (fX11_undo fz c) (fX12_undo m) := by
  obtain ⟨n, hu⟩ := h.2.2.2.2.2.1
  have u1 := hu.2.1
  have u2 := hu.2.2.1
  have e8 : (sI m 0 0).1 8 = Int32.ofNat n := u2
  unfold fX11_undo fX12_undo
  rw [lt_v, e8]
  cases n with
  | zero =>
    have hc : fX2_takeBack fz c = some (-3, c) := by
      unfold fX2_takeBack
      rw [u1, if_neg (show ¬ ((0 : Int32) < Int32.ofNat 0) by decide)]
    rw [hc, bd_v, if_pos (show Int32.ofNat 0 = 0 from rfl), show (-3 : Int32) = -(Int32.ofNat 3) from rfl, settle_neg (by decide) (by decide)]
    exact cl_refuse h (by decide) (by decide)
  | succ n =>
    have hn := hu.1
    obtain ⟨v, c', m', hv, k1, k2, k3, k4, k5, k6⟩ := undo_both (m := sI m 0 0) h.z.1 hu
    have im : Int32.ofNat (n + 1) - 1 = Int32.ofNat n := by rw [show (1 : Int32) = Int32.ofNat 1 from rfl, oN_sub (by omega)]; rfl
    rw [k1, bd_v, if_neg (show ¬ (Int32.ofNat (n + 1) = 0) from fun z => by have := (oN_eq (b := 0) (by omega) (by decide)).mp z; omega), im, lt_v]
    have e8' : (sI (sI m 0 0) 8 (Int32.ofNat n)).1 8 = Int32.ofNat n := rfl
    rw [e8']
    obtain ⟨⟨⟩, m1, p1, p2⟩ := bd_some k2
    obtain ⟨p3, p4⟩ := gi_some p2
    rw [p1, bd_v]
    have p5 : gi (m1.1 8) 16 (bd (fX12_tell (m1.2.2.1 7 (m1.1 8).toNatClampNeg) m1) (fun r5 st6 => some (r5, st6))) = bd (fX12_tell (m1.2.2.1 7 (m1.1 8).toNatClampNeg) m1) (fun r5 st6 => some (r5, st6)) := by
      unfold gi
      rw [if_neg p3]
    rw [p5]
    cases p4
    exact Cl.d h k3 ⟨n, k4⟩ k5 k6 (Or.inl (by obtain ⟨y, y1, y2⟩ := hv; rw [y2]; exact oN_nn (by omega)))
end Undo
