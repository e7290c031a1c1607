/-! T2, deeds: march, and each deed with its refusals and the log -/
theorem z01 : ¬ ((0 : Int32) = 1) := by decide
theorem z02 : ¬ ((0 : Int32) = 2) := by decide
theorem z03 : ¬ ((0 : Int32) = 3) := by decide
theorem z12 : ¬ ((1 : Int32) = 2) := by decide
theorem z13 : ¬ ((1 : Int32) = 3) := by decide
theorem z20 : ¬ ((2 : Int32) = 0) := by decide
theorem z21 : ¬ ((2 : Int32) = 1) := by decide
theorem z23 : ¬ ((2 : Int32) = 3) := by decide
theorem zm1 : ¬ ((-1 : Int32) = 0) := by decide
theorem zm2 : ¬ ((-2 : Int32) = 0) := by decide
theorem zm3 : ¬ ((-3 : Int32) = 0) := by decide
section Act
variable {fz : List FP} {c m : St}
theorem hour_ex {a : Int32} (ha : (1 : Int32) ≤ a ∧ a ≤ 99) : ∃ n, 1 ≤ n ∧ n ≤ 99 ∧ a = Int32.ofNat n := by
  obtain ⟨n, hn, en⟩ := oN_exb (b := 99) (Int32.le_trans (by decide) ha.1) (by decide) ha.2
  refine ⟨n, ?_, hn, en⟩
  rw [en] at ha
  exact (oN_le (a := 1) (by decide) (by omega)).mp ha.1
theorem marchOn_both {a : Int32} {f g : Nat} (h : Rq fz c m) (hf : f < 6) (hg : m.2.2.1 3 (31 + f) = Int32.ofNat g) (hg4 : g < 4) (ha : (1 : Int32) ≤ a ∧ a ≤ 99) (hd : ∃ n, n < 999 ∧ m.2.2.1 3 6 = Int32.ofNat n) : ∃ v c' m', (v = 0 ∨ v = 1 ∨ v = 2) ∧ fX2_marchOn (Int32.ofNat f) a fz c = some (v, c') ∧ fX12_marchIt a (Int32.ofNat f) m = some (v, m') ∧ Mt fz f g c m c' m' := by
  have hw := wsm_hour ha
  obtain ⟨t, c1, m1, k1, k2, k3, k4, k5⟩ := turns_both (m.2.2.1 3 (19 + f)) a h hf hw
  have q201 : c.2.2.1 201 f = m.2.2.1 3 (19 + f) := (h.1.2.2.2.2.2.2.1 f hf).1
  have e19 : (19 : Int32) + Int32.ofNat f = Int32.ofNat (19 + f) := oN_add 19 f
  have e13 : (13 : Int32) + Int32.ofNat f = Int32.ofNat (13 + f) := oN_add 13 f
  have e25 : (25 : Int32) + Int32.ofNat f = Int32.ofNat (25 + f) := oN_add 25 f
  have h1 : Rq fz c1 m1 := h.q k3 k4
  have M1 : Mt fz f g c m c1 m1 := Mt.q h k3 k4
  have r3 : m1.2.2.1 3 = m.2.2.1 3 := by rw [k4.2.2.1]
  have hg1 : m1.2.2.1 3 (31 + f) = Int32.ofNat g := by rw [r3]; exact hg
  have hd1 : ∃ n, n < 999 ∧ m1.2.2.1 3 6 = Int32.ofNat n := by rw [r3]; exact hd
  obtain ⟨q2, n, hn, en⟩ := h1.1.2.2.2.2.2.1 f hf
  have q200 : c1.2.2.1 200 f = Int32.ofNat n := q2.trans en
  unfold fX2_marchOn fX12_marchIt fX12_marchIt_b40 fX12_marchIt_b56
  rw [gi_N hf (by decide), oN_tn (show f < 2147483648 by omega), q201, k1, bd_v, e19, gi_N (show 19 + f < 5550 by omega) (by decide), oN_tn (show 19 + f < 2147483648 by omega), k2, bd_v]
  rcases k5 with e | e
  · subst e
    obtain ⟨w, w1, w2, ew⟩ := hour_ex ha
    rw [if_pos rfl, if_pos rfl, gi_N hf (by decide), q200, e13, gi_N (show 13 + f < 5550 by omega) (by decide), oN_tn (show 13 + f < 2147483648 by omega), en, ew]
    by_cases q : w ≤ n
    · have hq : nb 99 (Int32.ofNat n - Int32.ofNat w / 3) ∧ fX12_within (Int32.ofNat n - Int32.ofNat w / 3).toInt64 0 99 = some (Int32.ofNat n - Int32.ofNat w / 3) := by
        have e1 : Int32.ofNat w / (3 : Int32) = Int32.ofNat (w / 3) := oN_div (b := 3) (by omega) (by decide)
        rw [e1, oN_sub (by omega)]
        refine ⟨⟨n - w / 3, by omega, rfl⟩, ?_⟩
        unfold fX12_within fX12_within_b24
        rw [if_pos ((cmp_ge _ _).mpr ((i64_le _ _).mpr (oN_nn (by omega)))), if_pos ((cmp_le _ _).mpr ((i64_le _ _).mpr (show Int32.ofNat (n - w / 3) ≤ 99 from (oN_le (b := 99) (by omega) (by decide)).mpr (by omega)))), Int32.toInt32_toInt64]
      rw [if_leT q (by omega), if_leT q (by omega), gi_N hf (by decide), gi_N hf (by decide), lt_v, if_neg (show ¬ ((0 : Int32) = 2) by decide), if_pos rfl, gi_N (show 13 + f < 5550 by omega) (by decide), hq.2, bs_v, gi_N (show 13 + f < 5550 by omega) (by decide), lt_v]
      rw [← ew] at hq ⊢
      have M2 : Mt fz f g c1 m1 _ _ := Mt.men h1 hf hq.1
      obtain ⟨c', m', z1, z2, z3⟩ := march_end (fz := fz) (a := a) (e := 0) (g := g) M2.1 hf (by
        show upd (m1.2.2.1 3) (13 + f) _ (31 + f) = _
        rw [upd_v, if_neg (by omega)]; exact hg1) hg4 hw (by unfold wsm; decide) (by
        obtain ⟨d, d1, d2⟩ := hd1
        refine ⟨d, d1, ?_⟩
        show upd (m1.2.2.1 3) (13 + f) _ 6 = _
        rw [upd_v, if_neg (by omega)]; exact d2)
      exact ⟨0, c', m', Or.inl rfl, z1, z2, (M1.tr M2).tr z3⟩
    · rw [if_leF (by omega) (by omega), if_leF (by omega) (by omega), gi_N hf (by decide), lt_v, if_pos rfl, e25, gi_N (show 25 + f < 5550 by omega) (by decide), oN_tn (show 25 + f < 2147483648 by omega), lt_v, if_neg (show ¬ ((2 : Int32) = 0) by decide)]
      rw [← ew]
      have M2 : Mt fz f g c1 m1 _ _ := Mt.taken (x := 1) h1 hf ⟨1, by omega, rfl⟩
      obtain ⟨c', m', z1, z2, z3⟩ := march_end (fz := fz) (a := a) (e := 2) (g := g) M2.1 hf (by
        show upd (m1.2.2.1 3) (25 + f) _ (31 + f) = _
        rw [upd_v, if_neg (by omega)]; exact hg1) hg4 hw (by unfold wsm; decide) (by
        obtain ⟨d, d1, d2⟩ := hd1
        refine ⟨d, d1, ?_⟩
        show upd (m1.2.2.1 3) (25 + f) _ 6 = _
        rw [upd_v, if_neg (by omega)]; exact d2)
      exact ⟨2, c', m', Or.inr (Or.inr rfl), z1, z2, (M1.tr M2).tr z3⟩
  · subst e
    rw [if_neg one_ne0, if_neg one_ne0, if_neg (show ¬ ((1 : Int32) = 2) by decide), if_neg one_ne0]
    obtain ⟨c', m', z1, z2, z3⟩ := march_end (fz := fz) (a := a) (e := 1) (g := g) h1 hf hg1 hg4 hw (by unfold wsm; decide) hd1
    exact ⟨1, c', m', Or.inr (Or.inl rfl), z1, z2, M1.tr z3⟩
/-- a deed tried: the same answer, land and log alike -/
def At (fz : List FP) (c m : St) (x y : Option (Int32 × St)) : Prop := ∃ v c' m', x = some (v, c') ∧ y = some (v, m') ∧ Rq fz c' m' ∧ Ru c' m' ∧ df c c' ∧ dm m m' ∧ ((0 ≤ v ∧ v ≤ 1000) ∨ ∃ n, 1 ≤ n ∧ n ≤ 6 ∧ v = -(Int32.ofNat n)) ∧ ∀ j, 400 ≤ j → m'.2.2.1 6 j = m.2.2.1 6 j
theorem Ru.q {c' m' : St} (h : Ru c m) (k : cq c c') (k2 : mq m m') : Ru c' m' := h.a (by rw [k.1]) (k.2.2.1 902 (by decide)) (k2.1 8 (by decide) (by decide)) (by rw [k2.2.2.1]) (by rw [k2.2.2.1]) (fun q _ => by rw [k2.2.2.1])
theorem At.no {n : Nat} (h : Rq fz c m) (hu : Ru c m) (h1 : 1 ≤ n) (h6 : n ≤ 6) : At fz c m (some (-(Int32.ofNat n), c)) (some (-(Int32.ofNat n), m)) := ⟨_, c, m, rfl, rfl, h, hu, df.rf, dm.rf, Or.inr ⟨n, h1, h6, rfl⟩, fun _ _ => rfl⟩
theorem At.noq {n : Nat} {c1 m1 : St} (h : Rq fz c m) (hu : Ru c m) (k : cq c c1) (k2 : mq m m1) (h1 : 1 ≤ n) (h6 : n ≤ 6) : At fz c m (some (-(Int32.ofNat n), c1)) (some (-(Int32.ofNat n), m1)) := ⟨_, c1, m1, rfl, rfl, h.q k k2, hu.q k k2, k.df, k2.dm, Or.inr ⟨n, h1, h6, rfl⟩, fun j _ => by rw [k2.2.2.1]⟩
/-- remembered, then done -/
theorem At.go {x y : Option (Int32 × St)} {v : Int32} {n f g : Nat} {c1 m1 c2 m2 : St} (h : Rq fz c m) (hf : f < 6) (hg : m.2.2.1 3 (31 + f) = Int32.ofNat g) (hg4 : g < 4) (hr : RuT n f c1 m1) (f1 : fr [905] [] [902] c c1) (f2' : fr6 m m1) (hv : 0 ≤ v ∧ v ≤ 1000) (e1 : x = some (v, c2)) (e2 : y = some (v, m2)) (M : Mt fz f g c1 m1 c2 m2) : At fz c m x y := by
  obtain ⟨f2, f26⟩ := f2'
  obtain ⟨a0, a1, a2, a3, a4, a5, a6, a7, a8⟩ := M
  have r3 : m1.2.2.1 3 = m.2.2.1 3 := f2.2.2.1 3 (by decide)
  refine ⟨v, c2, m2, e1, e2, a0, hr.mut (by rw [r3]; exact hg) hg4 hf a3 a4 a5 a6 a7 a8, (fr.df (J := []) f1 (by decide) (by decide)).tr a1, (fr.dm f2 (by decide) (by decide) (fun k _ => by rw [r3])).tr a2, Or.inl hv, fun j hj => by rw [a6]; exact f26 j hj⟩
theorem Rq.r {c1 m1 : St} (h : Rq fz c m) (f1 : fr [905] [] [902] c c1) (f2 : fr [8] [] [6, 7] m m1) : Rq fz c1 m1 := by
  have r3 : m1.2.2.1 3 = m.2.2.1 3 := f2.2.2.1 3 (by decide)
  refine ⟨h.1.a (fun k hk => f1.1 k (fun e => ?_)) (fun k hk => f1.2.2.1 k (fun e => ?_)) (fun k _ => by rw [r3]), h.2.1.a (fun k hk => f1.1 k (fun e => ?_)) (by rw [f1.2.2.2]) (fun k _ => by rw [r3]), by rw [f2.1 20 (by decide)]; exact h.2.2⟩
  · have e' : k = 905 := by simpa using e
    rw [e'] at hk; exact absurd hk (by decide)
  · have e' : k = 902 := by simpa using e
    rw [e'] at hk; exact absurd hk (by decide)
  · have e' : k = 905 := by simpa using e
    rw [e'] at hk; exact absurd hk (by decide)
theorem gen_ex {f : Nat} (h : Rq fz c m) (hf : f < 6) : ∃ g, g < 4 ∧ m.2.2.1 3 (31 + f) = Int32.ofNat g := by
  obtain ⟨-, g, hg, eg⟩ := h.1.2.2.2.2.2.2.2.2.1 f hf
  exact ⟨g, by omega, eg⟩
theorem tk_ex {f : Nat} (h : Rq fz c m) (hf : f < 6) : m.2.2.1 3 (25 + f) = 0 ∨ m.2.2.1 3 (25 + f) = 1 := by
  obtain ⟨-, g, hg, eg⟩ := h.1.2.2.2.2.2.2.2.1 f hf
  have : g = 0 ∨ g = 1 := by omega
  rcases this with e | e <;> subst e
  · exact Or.inl eg
  · exact Or.inr eg
theorem show_at (a b : Int32) (h : Rq fz c m) (hu : Ru c m) : At fz c m (fX2_attempt 0 a b fz c) (fX12_showNow a b m) := by
  unfold fX2_attempt fX2_refusalOf fX12_showNow fX12_isOne fX2_refusalOf_b26 fX2_attempt_b44
  rw [c_within, bs_v, if_pos (show (0 : Int32) ≤ 0 ∧ (0 : Int32) ≤ 3 by decide), if_neg one_ne0, show (0 : Int32) = Int32.ofNat 0 from rfl, gi_N (show 0 < 4 by decide) (by decide), gi_N (show 0 < 4 by decide) (by decide)]
  rw [show leastF (Int32.ofNat 0).toNatClampNeg = 0 from rfl, show mostF (Int32.ofNat 0).toNatClampNeg = 5 from rfl, show Int32.ofNat 0 = (0 : Int32) from rfl, c_within, bs_v, m_in32 b 0 5 0 5 rfl rfl, bs_v, gb_ite, bs_v]
  by_cases hb : ¬ ((0 : Int32) ≤ b ∧ b ≤ 5)
  · rw [if_neg hb, if_pos rfl, if_pos rfl, bd_v, if_neg (show ¬ ((-1 : Int32) = 0) by decide)]; exact At.no (n := 1) h hu (by decide) (by decide)
  replace hb := Decidable.of_not_not hb
  rw [if_pos hb, if_neg one_ne0, if_neg one_ne0]
  obtain ⟨s, hs, es⟩ := oN_exb (b := 5) hb.1 (by decide) hb.2
  obtain ⟨v, e1, e2, hv⟩ := has_both a h
  rw [e1, bd_v, e2, bd_v]
  rcases hv with hv | ⟨hv, f, hf, hf2, ea⟩
  · rw [if_pos hv, if_pos hv, bd_v, if_neg (show ¬ ((-2 : Int32) = 0) by decide)]; exact At.no (n := 2) h hu (by decide) (by decide)
  subst hv; subst ea; subst es
  have q202 : c.2.2.1 202 f = m.2.2.1 3 (25 + f) := (h.1.2.2.2.2.2.2.2.1 f hf).1
  obtain ⟨q2', hsh⟩ := h.1.2.2.2.2.2.2.1 f hf
  have q201 : c.2.2.1 201 f = m.2.2.1 3 (19 + f) := q2'
  have e19 : (19 : Int32) + Int32.ofNat f = Int32.ofNat (19 + f) := oN_add 19 f
  have e25 : (25 : Int32) + Int32.ofNat f = Int32.ofNat (25 + f) := oN_add 25 f
  unfold fX12_canShow fX12_canShow_b41 fX12_canShow_b42 fX2_refusalOf_b146 fX2_refusalOf_b179 fX2_refusalOf_b180 fX2_refusalOf_b182 fX2_refusalOf_b193
  rw [if_neg one_ne0, if_neg one_ne0, gi_N hf (by decide), oN_tn (show f < 2147483648 by omega), q202, e25, gi_N (show 25 + f < 5550 by omega) (by decide), oN_tn (show 25 + f < 2147483648 by omega), e19, gi_N (show 19 + f < 5550 by omega) (by decide), oN_tn (show 19 + f < 2147483648 by omega)]
  rcases tk_ex h hf with ht | ht
  · rw [ht, if_pos rfl, if_pos rfl, if_neg (show ¬ ((0 : Int32) = 3) by decide), if_neg (show ¬ ((0 : Int32) = 2) by decide), gi_N hf (by decide), q201, if_neg (show ¬ ((0 : Int32) = 1) by decide), m_is, bs_v]
    by_cases hbit : ((m.2.2.1 3 (19 + f) >>> (Int32.ofNat s &&& 31)) &&& 1) = 1
    · simp only [if_pos hbit, eq_self, if_true, if_neg one_ne0, if_neg z01, if_neg z02, if_neg z03, if_neg z12, if_neg z13, if_neg z20, if_neg z21, if_neg z23, if_neg zm1, if_neg zm2, if_neg zm3, bd_v, gb_0, gb_1, lt_v]
      exact At.no (n := 3) h hu (by decide) (by decide)
    · simp only [if_neg hbit, eq_self, if_true, if_neg one_ne0, if_neg z01, if_neg z02, if_neg z03, if_neg z12, if_neg z13, if_neg z20, if_neg z21, if_neg z23, if_neg zm1, if_neg zm2, if_neg zm3, bd_v, gb_0, gb_1, lt_v]
      obtain ⟨w, c1, m1, k1, k2, k3, k4, k5⟩ := bars_both (s := s) h hf (by omega)
      rw [k1, bd_v, k2, bd_v]
      rcases k5 with e | e
      · subst e
        have h1 := h.q k3 k4
        have hu1 := hu.q k3 k4
        have r3 : m1.2.2.1 3 = m.2.2.1 3 := by rw [k4.2.2.1]
        simp only [eq_self, if_true, if_neg one_ne0, if_neg z01, if_neg z02, if_neg z03, if_neg z12, if_neg z13, if_neg z20, if_neg z21, if_neg z23, if_neg zm1, if_neg zm2, if_neg zm3, bd_v, gb_0, gb_1, lt_v]
        obtain ⟨g, hg4, hg⟩ := gen_ex h1 hf
        obtain ⟨n, c2, m2, p1, p2, p3, p4, p5⟩ := rem_both (fz := fz) (f := f) (d := 0) h1.1 hu1 hf (by rw [r3]; exact hf2) (by decide)
        have h2 := h1.r p4 p5.1
        have r4 : m2.2.2.1 3 = m1.2.2.1 3 := p5.1.2.2.1 3 (by decide)
        have p1' : fX2_remember 0 (Int32.ofNat f) fz c1 = some ((), c2) := p1
        have p2' : fX12_remember 0 m1 = some ((), m2) := p2
        obtain ⟨z, c3, m3, hz, z1, z2, z3, z4⟩ := show_mut (s := s) h2 hf (by omega)
        have hx := bx_nb (s := s) (by rw [r4, r3]; exact hsh : nb 63 (m2.2.2.1 3 (19 + f))) (by omega)
        have M1 : Mt fz f g c2 m2 _ _ := Mt.shown h2 hf hx
        have r5 : m3.2.2.1 3 = m2.2.2.1 3 := by rw [z4.2.2.1]
        have hor : m3.2.2.1 3 (19 + f) ||| ((1 : Int32) <<< (Int32.ofNat s &&& 31)) = m2.2.2.1 3 (19 + f) ^^^ ((1 : Int32) <<< (Int32.ofNat s &&& 31)) := by
          rw [r5]
          refine bx_clr (by rw [r4, r3]; exact hsh) (by omega) ?_
          rw [r4, r3]; exact hbit
        rw [p1', bd_v, z1, bd_v, p2', bd_v, z2, bd_v, gi_N (show 19 + f < 5550 by omega) (by decide), gi_N (show 19 + f < 5550 by omega) (by decide), hor, r5]
        have M2 : Mt fz f g (sA c2 201 (upd (c2.2.2.1 201) f (m2.2.2.1 3 (19 + f) ^^^ ((1 : Int32) <<< (Int32.ofNat s &&& 31))))) (sA m2 3 (upd (m2.2.2.1 3) (19 + f) (m2.2.2.1 3 (19 + f) ^^^ ((1 : Int32) <<< (Int32.ofNat s &&& 31))))) c3 (sA m3 3 (upd (m2.2.2.1 3) (19 + f) (m2.2.2.1 3 (19 + f) ^^^ ((1 : Int32) <<< (Int32.ofNat s &&& 31))))) := by
          refine Mt.q M1.1 z3 ⟨z4.1, z4.2.1, ?_, z4.2.2.2.1, z4.2.2.2.2⟩
          show va_up m3.2.2.1 3 _ = va_up m2.2.2.1 3 _
          rw [z4.2.2.1]
        have A := At.go (fz := fz) (c := c1) (m := m1) h1 hf hg hg4 p3 p4 p5 (show (0 : Int32) ≤ z ∧ z ≤ 1000 from by obtain ⟨y, y1, y2⟩ := hz; rw [y2]; exact ⟨oN_nn (by omega), (oN_le (b := 1000) (by omega) (by decide)).mpr (by omega)⟩) rfl rfl (M1.tr M2)
        obtain ⟨w, c', m', a1, a2, a3, a4, a5, a6, a7⟩ := A
        exact ⟨w, c', m', a1, a2, a3, a4, k3.df.tr a5, k4.dm.tr a6, a7.1, fun j hj => by rw [a7.2 j hj, k4.2.2.1]⟩
      · subst e
        simp only [eq_self, if_true, if_neg one_ne0, if_neg z01, if_neg z02, if_neg z03, if_neg z12, if_neg z13, if_neg z20, if_neg z21, if_neg z23, if_neg zm1, if_neg zm2, if_neg zm3, bd_v, gb_0, gb_1, lt_v]
        exact At.noq (n := 3) h hu k3 k4 (by decide) (by decide)
  · simp only [ht, eq_self, if_true, if_neg one_ne0, if_neg z01, if_neg z02, if_neg z03, if_neg z12, if_neg z13, if_neg z20, if_neg z21, if_neg z23, if_neg zm1, if_neg zm2, if_neg zm3, bd_v, gb_0, gb_1, lt_v]
    exact At.no (n := 3) h hu (by decide) (by decide)
theorem hide_at (a b : Int32) (h : Rq fz c m) (hu : Ru c m) : At fz c m (fX2_attempt 1 a b fz c) (fX12_hideNow a b m) := by
  unfold fX2_attempt fX2_refusalOf fX12_hideNow fX12_isOne fX2_refusalOf_b26 fX2_attempt_b44 fX12_hideNow_b49
  rw [c_within, bs_v, if_pos (show (0 : Int32) ≤ 1 ∧ (1 : Int32) ≤ 3 by decide), if_neg one_ne0, show (1 : Int32) = Int32.ofNat 1 from rfl, gi_N (show 1 < 4 by decide) (by decide), gi_N (show 1 < 4 by decide) (by decide)]
  rw [show leastF (Int32.ofNat 1).toNatClampNeg = 0 from rfl, show mostF (Int32.ofNat 1).toNatClampNeg = 5 from rfl, show Int32.ofNat 1 = (1 : Int32) from rfl, c_within, bs_v, m_in32 b 0 5 0 5 rfl rfl, bs_v, gb_ite, bs_v]
  by_cases hb : ¬ ((0 : Int32) ≤ b ∧ b ≤ 5)
  · rw [if_neg hb, if_pos rfl, if_pos rfl, bd_v, if_neg (show ¬ ((-1 : Int32) = 0) by decide)]; exact At.no (n := 1) h hu (by decide) (by decide)
  replace hb := Decidable.of_not_not hb
  rw [if_pos hb, if_neg one_ne0, if_neg one_ne0]
  obtain ⟨s, hs, es⟩ := oN_exb (b := 5) hb.1 (by decide) hb.2
  obtain ⟨v, e1, e2, hv⟩ := has_both a h
  rw [e1, bd_v, e2, bd_v]
  rcases hv with hv | ⟨hv, f, hf, hf2, ea⟩
  · rw [if_pos hv, if_pos hv, bd_v, if_neg (show ¬ ((-2 : Int32) = 0) by decide)]; exact At.no (n := 2) h hu (by decide) (by decide)
  subst hv; subst ea; subst es
  have q202 : c.2.2.1 202 f = m.2.2.1 3 (25 + f) := (h.1.2.2.2.2.2.2.2.1 f hf).1
  obtain ⟨q2', hsh⟩ := h.1.2.2.2.2.2.2.1 f hf
  have q201 : c.2.2.1 201 f = m.2.2.1 3 (19 + f) := q2'
  have e19 : (19 : Int32) + Int32.ofNat f = Int32.ofNat (19 + f) := oN_add 19 f
  have e25 : (25 : Int32) + Int32.ofNat f = Int32.ofNat (25 + f) := oN_add 25 f
  unfold fX2_refusalOf_b146 fX2_refusalOf_b179 fX2_refusalOf_b180 fX2_refusalOf_b182 fX2_refusalOf_b193
  rw [if_neg one_ne0, if_neg one_ne0, gi_N hf (by decide), oN_tn (show f < 2147483648 by omega), q202, e25, gi_N (show 25 + f < 5550 by omega) (by decide), oN_tn (show 25 + f < 2147483648 by omega), e19, gi_N (show 19 + f < 5550 by omega) (by decide), oN_tn (show 19 + f < 2147483648 by omega)]
  rcases tk_ex h hf with ht | ht
  · rw [ht, if_pos rfl, if_neg (show ¬ ((0 : Int32) = 1) by decide), if_neg (show ¬ ((1 : Int32) = 3) by decide), if_neg (show ¬ ((1 : Int32) = 2) by decide), gi_N hf (by decide), q201, if_pos rfl, if_pos rfl, m_is, bs_v]
    by_cases hbit : ((m.2.2.1 3 (19 + f) >>> (Int32.ofNat s &&& 31)) &&& 1) = 1
    · simp only [if_pos hbit, eq_self, if_true, if_neg one_ne0, if_neg z01, if_neg z02, if_neg z03, if_neg z12, if_neg z13, if_neg z20, if_neg z21, if_neg z23, if_neg zm1, if_neg zm2, if_neg zm3, bd_v, gb_0, gb_1, lt_v]
      obtain ⟨g, hg4, hg⟩ := gen_ex h hf
      obtain ⟨n, c2, m2, p1, p2, p3, p4, p5⟩ := rem_both (fz := fz) (f := f) (d := 1) h.1 hu hf hf2 (by decide)
      have h2 := h.r p4 p5.1
      have r4 : m2.2.2.1 3 = m.2.2.1 3 := p5.1.2.2.1 3 (by decide)
      have p1' : fX2_remember 1 (Int32.ofNat f) fz c = some ((), c2) := p1
      have p2' : fX12_remember 1 m = some ((), m2) := p2
      have hx := bx_nb (s := s) (by rw [r4]; exact hsh : nb 63 (m2.2.2.1 3 (19 + f))) (by omega)
      have M1 : Mt fz f g c2 m2 _ _ := Mt.shown h2 hf hx
      have hor : m2.2.2.1 3 (19 + f) - ((1 : Int32) <<< (Int32.ofNat s &&& 31)) = m2.2.2.1 3 (19 + f) ^^^ ((1 : Int32) <<< (Int32.ofNat s &&& 31)) := by
        refine bx_set (by rw [r4]; exact hsh) (by omega) ?_
        rw [r4]; exact hbit
      have t : ∀ x, (sA m2 3 (upd (m2.2.2.1 3) (19 + f) x)).2.2.1 3 (19 + f) = x := fun x => by
        show upd (m2.2.2.1 3) (19 + f) x (19 + f) = x
        rw [upd_v, if_pos rfl]
      rw [p1', bd_v, hide_mut h2 hf, bd_v, p2', bd_v, gi_N (show 19 + f < 5550 by omega) (by decide), gi_N (show 19 + f < 5550 by omega) (by decide), gi_N (show 19 + f < 5550 by omega) (by decide), hor, t]
      exact At.go (fz := fz) h hf hg hg4 p3 p4 p5 (by obtain ⟨y, y1, y2⟩ := hx; rw [y2]; exact ⟨oN_nn (by omega), (oN_le (b := 1000) (by omega) (by decide)).mpr (by omega)⟩) rfl rfl M1
    · simp only [if_neg hbit, eq_self, if_true, if_neg one_ne0, if_neg z01, if_neg z02, if_neg z03, if_neg z12, if_neg z13, if_neg z20, if_neg z21, if_neg z23, if_neg zm1, if_neg zm2, if_neg zm3, bd_v, gb_0, gb_1, lt_v]
      exact At.no (n := 3) h hu (by decide) (by decide)
  · simp only [ht, eq_self, if_true, if_neg one_ne0, if_neg z01, if_neg z02, if_neg z03, if_neg z12, if_neg z13, if_neg z20, if_neg z21, if_neg z23, if_neg zm1, if_neg zm2, if_neg zm3, bd_v, gb_0, gb_1, lt_v]
    exact At.no (n := 3) h hu (by decide) (by decide)
theorem man_at (a b : Int32) (h : Rq fz c m) (hu : Ru c m) : At fz c m (fX2_attempt 2 a b fz c) (fX12_manNow a b m) := by
  unfold fX2_attempt fX2_refusalOf fX12_manNow fX2_refusalOf_b26 fX2_attempt_b44 fX12_manNow_b62
  rw [c_within, bs_v, if_pos (show (0 : Int32) ≤ 2 ∧ (2 : Int32) ≤ 3 by decide), if_neg one_ne0, show (2 : Int32) = Int32.ofNat 2 from rfl, gi_N (show 2 < 4 by decide) (by decide), gi_N (show 2 < 4 by decide) (by decide)]
  rw [show leastF (Int32.ofNat 2).toNatClampNeg = -99 from rfl, show mostF (Int32.ofNat 2).toNatClampNeg = 99 from rfl, show Int32.ofNat 2 = (2 : Int32) from rfl, c_within, bs_v, m_in32 b (-99) 99 (-99) 99 rfl rfl, bs_v]
  by_cases hb : ¬ ((-99 : Int32) ≤ b ∧ b ≤ 99)
  · rw [if_neg hb, if_pos rfl, if_pos rfl, bd_v, if_neg (show ¬ ((-1 : Int32) = 0) by decide)]; exact At.no (n := 1) h hu (by decide) (by decide)
  replace hb := Decidable.of_not_not hb
  rw [if_pos hb, if_neg one_ne0, if_neg one_ne0]
  obtain ⟨v, e1, e2, hv⟩ := has_both a h
  rw [e1, bd_v, e2, bd_v]
  rcases hv with hv | ⟨hv, f, hf, hf2, ea⟩
  · rw [if_pos hv, if_pos hv, bd_v, if_neg (show ¬ ((-2 : Int32) = 0) by decide)]; exact At.no (n := 2) h hu (by decide) (by decide)
  subst hv; subst ea
  have q202 : c.2.2.1 202 f = m.2.2.1 3 (25 + f) := (h.1.2.2.2.2.2.2.2.1 f hf).1
  have q200 : c.2.2.1 200 f = m.2.2.1 3 (13 + f) := (h.1.2.2.2.2.2.1 f hf).1
  have e13 : (13 : Int32) + Int32.ofNat f = Int32.ofNat (13 + f) := oN_add 13 f
  have e25 : (25 : Int32) + Int32.ofNat f = Int32.ofNat (25 + f) := oN_add 25 f
  unfold fX2_refusalOf_b182 fX2_refusalOf_b193
  rw [if_neg one_ne0, if_neg one_ne0, gi_N hf (by decide), oN_tn (show f < 2147483648 by omega), q202, e25, gi_N (show 25 + f < 5550 by omega) (by decide), oN_tn (show 25 + f < 2147483648 by omega), e13, gi_N (show 13 + f < 5550 by omega) (by decide), oN_tn (show 13 + f < 2147483648 by omega)]
  rcases tk_ex h hf with ht | ht
  · rw [ht, if_pos rfl, if_neg (show ¬ ((0 : Int32) = 1) by decide), if_neg (show ¬ ((2 : Int32) = 3) by decide), if_pos rfl, gi_N hf (by decide), q200, c_within, bs_v, m_in32 (m.2.2.1 3 (13 + f) + b) 0 99 0 99 rfl rfl, bs_v]
    by_cases hn : (0 : Int32) ≤ m.2.2.1 3 (13 + f) + b ∧ m.2.2.1 3 (13 + f) + b ≤ 99
    · have hnb : nb 99 (m.2.2.1 3 (13 + f) + b) := oN_exb (b := 99) hn.1 (by decide) hn.2
      simp only [if_pos hn, eq_self, if_true, if_neg one_ne0, if_neg z01, if_neg z02, if_neg z03, if_neg z12, if_neg z13, if_neg z20, if_neg z21, if_neg z23, if_neg zm1, if_neg zm2, if_neg zm3, bd_v, gb_0, gb_1, lt_v]
      obtain ⟨g, hg4, hg⟩ := gen_ex h hf
      obtain ⟨n, c2, m2, p1, p2, p3, p4, p5⟩ := rem_both (fz := fz) (f := f) (d := 2) h.1 hu hf hf2 (by decide)
      have h2 := h.r p4 p5.1
      have r4 : m2.2.2.1 3 = m.2.2.1 3 := p5.1.2.2.1 3 (by decide)
      have p1' : fX2_remember 2 (Int32.ofNat f) fz c = some ((), c2) := p1
      have p2' : fX12_remember 2 m = some ((), m2) := p2
      have hx : nb 99 (m2.2.2.1 3 (13 + f) + b) := by rw [r4]; exact hnb
      have M1 : Mt fz f g c2 m2 _ _ := Mt.men h2 hf hx
      have t : ∀ x, (sA m2 3 (upd (m2.2.2.1 3) (13 + f) x)).2.2.1 3 (13 + f) = x := fun x => by
        show upd (m2.2.2.1 3) (13 + f) x (13 + f) = x
        rw [upd_v, if_pos rfl]
      rw [p1', bd_v, man_mut h2 hf hx, bd_v, p2', bd_v, gi_N (show 13 + f < 5550 by omega) (by decide), gi_N (show 13 + f < 5550 by omega) (by decide), gi_N (show 13 + f < 5550 by omega) (by decide), t]
      exact At.go (fz := fz) h hf hg hg4 p3 p4 p5 (by rw [r4]; exact ⟨hn.1, Int32.le_trans hn.2 (by decide)⟩) rfl rfl M1
    · simp only [if_neg hn, eq_self, if_true, if_neg one_ne0, if_neg z01, if_neg z02, if_neg z03, if_neg z12, if_neg z13, if_neg z20, if_neg z21, if_neg z23, if_neg zm1, if_neg zm2, if_neg zm3, bd_v, gb_0, gb_1, lt_v]
      exact At.no (n := 3) h hu (by decide) (by decide)
  · simp only [ht, eq_self, if_true, if_neg one_ne0, if_neg z01, if_neg z02, if_neg z03, if_neg z12, if_neg z13, if_neg z20, if_neg z21, if_neg z23, if_neg zm1, if_neg zm2, if_neg zm3, bd_v, gb_0, gb_1, lt_v]
    exact At.no (n := 3) h hu (by decide) (by decide)
theorem march_at (a b : Int32) (h : Rq fz c m) (hu : Ru c m) : At fz c m (fX2_attempt 3 a b fz c) (fX12_marchNow b a m) := by
  unfold fX2_attempt fX2_refusalOf fX12_marchNow fX2_refusalOf_b26 fX2_attempt_b44
  rw [c_within, bs_v, if_pos (show (0 : Int32) ≤ 3 ∧ (3 : Int32) ≤ 3 by decide), if_neg one_ne0, show (3 : Int32) = Int32.ofNat 3 from rfl, gi_N (show 3 < 4 by decide) (by decide), gi_N (show 3 < 4 by decide) (by decide)]
  rw [show leastF (Int32.ofNat 3).toNatClampNeg = 1 from rfl, show mostF (Int32.ofNat 3).toNatClampNeg = 99 from rfl, show Int32.ofNat 3 = (3 : Int32) from rfl, c_within, bs_v, m_in32 b 1 99 1 99 rfl rfl, bs_v]
  by_cases hb : ¬ ((1 : Int32) ≤ b ∧ b ≤ 99)
  · rw [if_neg hb, if_pos rfl, if_pos rfl, bd_v, if_neg (show ¬ ((-1 : Int32) = 0) by decide)]; exact At.no (n := 1) h hu (by decide) (by decide)
  replace hb := Decidable.of_not_not hb
  rw [if_pos hb, if_neg one_ne0, if_neg one_ne0]
  obtain ⟨v, e1, e2, hv⟩ := has_both a h
  rw [e1, bd_v, e2, bd_v]
  rcases hv with hv | ⟨hv, f, hf, hf2, ea⟩
  · rw [if_pos hv, if_pos hv, bd_v, if_neg (show ¬ ((-2 : Int32) = 0) by decide)]; exact At.no (n := 2) h hu (by decide) (by decide)
  subst hv; subst ea
  have q202 : c.2.2.1 202 f = m.2.2.1 3 (25 + f) := (h.1.2.2.2.2.2.2.2.1 f hf).1
  obtain ⟨q2', d, hd, ed⟩ := h.1.2.1
  have q204 : c.1 204 = Int32.ofNat d := q2'.trans ed
  have q6 : m.2.2.1 3 (6 : Int32).toNatClampNeg = Int32.ofNat d := ed
  have e25 : (25 : Int32) + Int32.ofNat f = Int32.ofNat (25 + f) := oN_add 25 f
  unfold fX12_canMarch fX12_canMarch_b29 fX12_canMarch_b30 fX2_refusalOf_b86 fX2_refusalOf_b182 fX2_refusalOf_b193
  rw [if_neg one_ne0, if_neg one_ne0, gi_N hf (by decide), oN_tn (show f < 2147483648 by omega), q202, e25, gi_N (show 25 + f < 5550 by omega) (by decide), oN_tn (show 25 + f < 2147483648 by omega), q204, q6]
  rcases tk_ex h hf with ht | ht
  · rw [ht, if_pos rfl, if_pos rfl, if_pos rfl]
    by_cases hn : d < 999
    · have hle : ¬ ((999 : Int32) ≤ Int32.ofNat d) := fun q => by have := (oN_le (a := 999) (by decide) (by omega)).mp q; omega
      simp only [if_neg hle, eq_self, if_true, if_neg one_ne0, if_neg z01, if_neg z02, if_neg z03, if_neg z12, if_neg z13, if_neg z20, if_neg z21, if_neg z23, if_neg zm1, if_neg zm2, if_neg zm3, bd_v, gb_0, gb_1, lt_v]
      obtain ⟨g, hg4, hg⟩ := gen_ex h hf
      obtain ⟨n, c2, m2, p1, p2, p3, p4, p5⟩ := rem_both (fz := fz) (f := f) (d := 3) h.1 hu hf hf2 (by decide)
      have h2 := h.r p4 p5.1
      have r4 : m2.2.2.1 3 = m.2.2.1 3 := p5.1.2.2.1 3 (by decide)
      have p1' : fX2_remember 3 (Int32.ofNat f) fz c = some ((), c2) := p1
      have p2' : fX12_remember 3 m = some ((), m2) := p2
      obtain ⟨v, c3, m3, hv, z1, z2, z3⟩ := marchOn_both (fz := fz) (a := b) (g := g) h2 hf (by rw [r4]; exact hg) hg4 hb ⟨d, hn, by rw [r4]; exact ed⟩
      rw [p1', bd_v, z1, bd_v, p2', bd_v, z2, bd_v]
      exact At.go (fz := fz) h hf hg hg4 p3 p4 p5 (by rcases hv with e | e | e <;> rw [e] <;> decide) rfl rfl z3
    · have hle : (999 : Int32) ≤ Int32.ofNat d := (oN_le (a := 999) (by decide) (by omega)).mpr (by omega)
      simp only [if_pos hle, eq_self, if_true, if_neg one_ne0, if_neg z01, if_neg z02, if_neg z03, if_neg z12, if_neg z13, if_neg z20, if_neg z21, if_neg z23, if_neg zm1, if_neg zm2, if_neg zm3, bd_v, gb_0, gb_1, lt_v]
      exact At.no (n := 3) h hu (by decide) (by decide)
  · simp only [ht, eq_self, if_true, if_neg one_ne0, if_neg z01, if_neg z02, if_neg z03, if_neg z12, if_neg z13, if_neg z20, if_neg z21, if_neg z23, if_neg zm1, if_neg zm2, if_neg zm3, bd_v, gb_0, gb_1, lt_v]
    exact At.no (n := 3) h hu (by decide) (by decide)
end Act
