/-! T2, row -/
section Row
variable {fz : List FP}
theorem found_both {c m : St} (a b : Int32) (h : Rq fz c m) : ∃ v c' m', fX6_found a b fz c = some (v, c') ∧ fX12_come a b m = some (v, m') ∧ Rq fz c' m' ∧ fr [108] [] [103, 200, 201, 202] c c' ∧ fr [8] [] [3] m m' ∧ (∀ k, 91 ≤ k ∨ (1 ≤ k ∧ k ≤ 5) → m'.2.2.1 3 k = m.2.2.1 3 k) := by
  have no : ∀ v : Int32, ∃ w c' m', (some (v, c) : Option (Int32 × St)) = some (w, c') ∧ (some (v, m) : Option (Int32 × St)) = some (w, m') ∧ Rq fz c' m' ∧ fr [108] [] [103, 200, 201, 202] c c' ∧ fr [8] [] [3] m m' ∧ (∀ k, 91 ≤ k ∨ (1 ≤ k ∧ k ≤ 5) → m'.2.2.1 3 k = m.2.2.1 3 k) := fun v => ⟨v, c, m, rfl, rfl, h, fr.rf, fr.rf, fun _ _ => rfl⟩
  obtain ⟨q0, n, hn, en⟩ := h.1.1
  have q108 : c.1 108 = Int32.ofNat n := q0.trans en
  have r0 : m.2.2.1 3 0 = Int32.ofNat n := en
  unfold fX6_found fX12_come fX6_found_b19 fX12_come_b24
  rw [c_within, bs_v, m_in32 a 0 99 0 99 rfl rfl, bs_v]
  by_cases ha : ¬ ((0 : Int32) ≤ a ∧ a ≤ 99)
  · rw [if_neg ha, if_pos rfl, if_pos rfl]; exact no _
  replace ha := Decidable.of_not_not ha
  rw [if_pos ha, if_neg one_ne0, if_neg one_ne0, c_within, bs_v, m_in32 b 0 3 0 3 rfl rfl, bs_v]
  by_cases hb : ¬ ((0 : Int32) ≤ b ∧ b ≤ 3)
  · rw [if_neg hb, if_pos rfl, if_pos rfl]; exact no _
  replace hb := Decidable.of_not_not hb
  have t0 : m.2.2.1 3 (0 : Int32).toNatClampNeg = Int32.ofNat n := en
  rw [if_pos hb, if_neg one_ne0, if_neg one_ne0, lt_v (m.2.2.1 3 (0 : Int32).toNatClampNeg), t0, q108]
  by_cases h6 : n = 6
  · subst h6
    rw [if_neg (show ¬ (Int32.ofNat 6 < (6 : Int32)) by decide), if_pos (show Int32.ofNat 6 = (6 : Int32) from rfl)]; exact no _
  have hn6 : n < 6 := by omega
  have n6 : ¬ (Int32.ofNat n = (6 : Int32)) := fun q => h6 ((oN_eq (b := 6) (by omega) (by decide)).mp q)
  have l6 : Int32.ofNat n < (6 : Int32) := (oN_lt (b := 6) (by omega) (by decide)).mpr hn6
  rw [if_pos l6, if_neg n6]
  have hab : nb 99 a := oN_exb (b := 99) ha.1 (by decide) ha.2
  have hbb : nb 3 b := oN_exb (b := 3) hb.1 (by decide) hb.2
  have h00 : ∀ B, nb B 0 := fun B => ⟨0, Nat.zero_le _, rfl⟩
  have g13 : (13 : Int32) + Int32.ofNat n = Int32.ofNat (13 + n) := oN_add 13 n
  have g19 : (19 : Int32) + Int32.ofNat n = Int32.ofNat (19 + n) := oN_add 19 n
  have g25 : (25 : Int32) + Int32.ofNat n = Int32.ofNat (25 + n) := oN_add 25 n
  have g31 : (31 : Int32) + Int32.ofNat n = Int32.ofNat (31 + n) := oN_add 31 n
  have hc : (gi (Int32.ofNat n) 6 (lt (sA c 200 (upd (c.2.2.1 200) (Int32.ofNat n).toNatClampNeg a)) (fun st3 => gi (st3.1 108) 6 (lt (sA st3 201 (upd (st3.2.2.1 201) (st3.1 108).toNatClampNeg (0 : Int32))) (fun st4 => gi (st4.1 108) 6 (lt (sA st4 202 (upd (st4.2.2.1 202) (st4.1 108).toNatClampNeg (0 : Int32))) (fun st5 => gi (st5.1 108) 6 (lt (sA st5 103 (upd (st5.2.2.1 103) (st5.1 108).toNatClampNeg b)) (fun st6 => lt (sI st6 108 ((st6.1 108) + (1 : Int32))) (fun st7 => some (((st7.1 108) - (1 : Int32)), st7))))))))))) = some (Int32.ofNat n, (sI (sA (sA (sA (sA c 200 (upd (c.2.2.1 200) n a)) 201 (upd (c.2.2.1 201) n 0)) 202 (upd (c.2.2.1 202) n 0)) 103 (upd (c.2.2.1 103) n b)) 108 (Int32.ofNat (n + 1)))) := by
    have p1 : ∀ g, (sA c 200 g).1 108 = Int32.ofNat n := fun _ => q108
    have p2 : ∀ g g2, (sA (sA c 200 g) 201 g2).1 108 = Int32.ofNat n := fun _ _ => q108
    have p3 : ∀ g g2 g3, (sA (sA (sA c 200 g) 201 g2) 202 g3).1 108 = Int32.ofNat n := fun _ _ _ => q108
    have p4 : ∀ g g2 g3 g4, (sA (sA (sA (sA c 200 g) 201 g2) 202 g3) 103 g4).1 108 = Int32.ofNat n := fun _ _ _ _ => q108
    have p5 : ∀ X x, (sI X 108 x).1 108 = x := fun _ _ => rfl
    have p6 : Int32.ofNat (n + 1) - 1 = Int32.ofNat n := by rw [show (1 : Int32) = Int32.ofNat 1 from rfl, oN_sub (by omega)]; rfl
    simp only [lt_v, p1, p2, p3, p4, p5, p6, oN_s, gi_N hn6 (show 6 < 2147483648 by decide), oN_tn (show n < 2147483648 by omega)]
    rfl
  rw [hc]
  have p3 : ∀ X g, (sA X 3 g).2.2.1 3 = g := fun _ _ => rfl
  have z0 : (0 : Int32).toNatClampNeg = 0 := rfl
  have hz : upd (upd (upd (upd (m.2.2.1 3) (13 + n) a) (31 + n) b) (19 + n) 0) (25 + n) 0 0 = Int32.ofNat n := by
    rw [upd_v, if_neg (by omega), upd_v, if_neg (by omega), upd_v, if_neg (by omega), upd_v, if_neg (by omega), r0]
  simp only [lt_v, g13, g19, g25, g31, p3, z0, hz, oN_s, gi_N (show 13 + n < 5550 by omega) (show 5550 < 2147483648 by decide), gi_N (show 19 + n < 5550 by omega) (show 5550 < 2147483648 by decide), gi_N (show 25 + n < 5550 by omega) (show 5550 < 2147483648 by decide), gi_N (show 31 + n < 5550 by omega) (show 5550 < 2147483648 by decide), oN_tn (show 13 + n < 2147483648 by omega), oN_tn (show 19 + n < 2147483648 by omega), oN_tn (show 25 + n < 2147483648 by omega), oN_tn (show 31 + n < 2147483648 by omega)]
  have hR := Rl.i108 (x := Int32.ofNat (n + 1)) (Rl.u103 (i := n) (x := b) (Rl.u202 (i := n) (x := 0) (Rl.u201 (i := n) (x := 0) (Rl.u200 (i := n) (x := a) h.1 hn6 hab) hn6 (h00 _)) hn6 (h00 _)) hn6 hbb) ⟨n + 1, by omega, rfl⟩
  have hW : Rw 0 fz c (upd (upd (upd (upd (upd (m.2.2.1 3) (13 + n) a) (19 + n) 0) (25 + n) 0) (31 + n) b) 0 (Int32.ofNat (n + 1))) := Rw.u (Rw.u (Rw.u (Rw.u (Rw.u h.2.1 (by omega) rfl rfl rfl (c' := c)) (by omega) rfl rfl rfl (c' := c)) (by omega) rfl rfl rfl (c' := c)) (by omega) rfl rfl rfl (c' := c)) (by omega) rfl rfl rfl
  have erow : upd (upd (upd (upd (m.2.2.1 3) (13 + n) a) (19 + n) 0) (25 + n) 0) (31 + n) b = upd (upd (upd (upd (m.2.2.1 3) (13 + n) a) (31 + n) b) (19 + n) 0) (25 + n) 0 := by
    rw [upd_comm (i := 25 + n) (j := 31 + n) (by omega), upd_comm (i := 19 + n) (j := 31 + n) (by omega)]
  rw [erow] at hR hW
  refine ⟨_, _, _, rfl, rfl, ⟨hR, hW, h.2.2⟩, ?_, ?_, ?_⟩
  · exact ((((fr.sA (by decide)).tr (fr.sA (by decide))).tr (fr.sA (by decide))).tr (fr.sA (by decide))).tr (fr.sI (by decide))
  · exact (((((fr.sA (by decide)).tr (fr.sA (by decide))).tr (fr.sA (by decide))).tr (fr.sA (by decide))).tr (fr.sA (by decide))).tr (fr.sI (by decide))
  · intro k hk
    show upd (upd (upd (upd (upd (m.2.2.1 3) (13 + n) a) (31 + n) b) (19 + n) 0) (25 + n) 0) 0 (Int32.ofNat (n + 1)) k = _
    rw [upd_v, if_neg (by omega), upd_v, if_neg (by omega), upd_v, if_neg (by omega), upd_v, if_neg (by omega), upd_v, if_neg (by omega)]
theorem row_l {L : Nat} (hL : L ≤ 400) : ∀ (k N at' came : Nat) (c m : St), L ≤ at' + 2 * k → at' ≤ 402 → came + k ≤ 300 → Rq fz c m → c.1 504 = Int32.ofNat L → (∀ i, i < L → c.2.2.1 500 i = m.2.2.1 12 i) → c.1 10 = m.1 11 → ∃ v c' m', lp (fun _ _ _ => none) (fX11_row_b26 fz) (N + 1 + k) (Int32.ofNat came) (Int32.ofNat at') c = (bd (fX2_close fz (sI c' 504 0)) (fun r7 st8 => bd (fX11_settle (Int32.ofNat v) fz st8) (fun r9 st10 => some (r9, st10)))) ∧ lp (fun _ _ _ _ => none) fX12_row_b35 (N + 1 + k) (Int32.ofNat L) (Int32.ofNat came) (Int32.ofNat at') m = (bd (fX12_tell (Int32.ofNat v) (sI m' 8 0)) (fun r4 st5 => some (r4, st5))) ∧ v ≤ 300 ∧ Rq fz c' m' ∧ c'.1 10 = m'.1 11 ∧ fr [10, 108] [] [103, 200, 201, 202] c c' ∧ fr [8, 11] [] [3] m m' ∧ (∀ k, 91 ≤ k ∨ (1 ≤ k ∧ k ≤ 5) → m'.2.2.1 3 k = m.2.2.1 3 k) := by
  intro k
  induction k with
  | zero =>
    intro N p came c m h1 h2 h3 hq h504 hby hbr
    refine ⟨came, c, m, ?_, ?_, by omega, hq, hbr, fr.rf, fr.rf, fun _ _ => rfl⟩
    · rw [Nat.add_zero, lp_s]
      generalize lp (fun _ _ _ => none) (fX11_row_b26 fz) N = kk
      unfold fX11_row_b26
      rw [h504, if_leT (by omega) (by omega), lt_v]
    · rw [Nat.add_zero, lp_s]
      generalize lp (fun _ _ _ _ => none) fX12_row_b35 N = kk
      unfold fX12_row_b35
      rw [if_leT (by omega) (by omega), lt_v]
  | succ k ih =>
    intro N p came c m h1 h2 h3 hq h504 hby hbr
    by_cases hp : L ≤ p
    · refine ⟨came, c, m, ?_, ?_, by omega, hq, hbr, fr.rf, fr.rf, fun _ _ => rfl⟩
      · rw [← Nat.add_assoc, lp_s]
        generalize lp (fun _ _ _ => none) (fX11_row_b26 fz) (N + 1 + k) = kk
        unfold fX11_row_b26
        rw [h504, if_leT hp (by omega), lt_v]
      · rw [← Nat.add_assoc, lp_s]
        generalize lp (fun _ _ _ _ => none) fX12_row_b35 (N + 1 + k) = kk
        unfold fX12_row_b35
        rw [if_leT hp (by omega), lt_v]
    · have ih' := ih N (p + 2)
      rw [← Nat.add_assoc, lp_s, lp_s]
      generalize lp (fun _ _ _ => none) (fX11_row_b26 fz) (N + 1 + k) = k1 at ih' ⊢
      generalize lp (fun _ _ _ _ => none) fX12_row_b35 (N + 1 + k) = k2 at ih' ⊢
      have e2 : Int32.ofNat p + (2 : Int32) = Int32.ofNat (p + 2) := oN_add p 2
      -- a broom
      have broom : ∀ (c1 m1 : St), Rq fz c1 m1 → c1.1 504 = Int32.ofNat L → (∀ i, i < L → c1.2.2.1 500 i = m1.2.2.1 12 i) → c1.1 10 = m1.1 11 → fr [10, 108] [] [103, 200, 201, 202] c c1 → fr [8, 11] [] [3] m m1 → (∀ k, 91 ≤ k ∨ (1 ≤ k ∧ k ≤ 5) → m1.2.2.1 3 k = m.2.2.1 3 k) → ∃ v c' m', fX11_row_b96 fz k1 (Int32.ofNat came) (Int32.ofNat p) c1 = (bd (fX2_close fz (sI c' 504 0)) (fun r7 st8 => bd (fX11_settle (Int32.ofNat v) fz st8) (fun r9 st10 => some (r9, st10)))) ∧ fX12_row_b74 k2 (Int32.ofNat L) (Int32.ofNat came) (Int32.ofNat p) m1 = (bd (fX12_tell (Int32.ofNat v) (sI m' 8 0)) (fun r4 st5 => some (r4, st5))) ∧ v ≤ 300 ∧ Rq fz c' m' ∧ c'.1 10 = m'.1 11 ∧ fr [10, 108] [] [103, 200, 201, 202] c c' ∧ fr [8, 11] [] [3] m m' ∧ (∀ k, 91 ≤ k ∨ (1 ≤ k ∧ k ≤ 5) → m'.2.2.1 3 k = m.2.2.1 3 k) := by
        intro c1 m1 q1 q2 q3 q4 f1 f2 f3
        unfold fX11_row_b96 fX11_row_b106 fX12_row_b74 fX12_row_b84
        rw [lt_v, lt_v, lt_v, lt_v, e2]
        obtain ⟨v, c', m', a1, a2, a3, a4, a5, a6, a7, a8⟩ := ih' came (sI c1 10 (c1.1 10 + 1)) (sI m1 11 (m1.1 11 + 1)) (by omega) (by omega) (by omega) q1 q2 q3 (by show c1.1 10 + 1 = m1.1 11 + 1; rw [q4])
        exact ⟨v, c', m', a1, a2, a3, a4, a5, (f1.tr (fr.sI (by decide))).tr a6, (f2.tr (fr.sI (by decide))).tr a7, fun k hk => (a8 k hk).trans (f3 k hk)⟩
      unfold fX11_row_b26 fX12_row_b35
      rw [h504, if_leF (by omega) (by omega), if_leF (by omega) (by omega), oN_s]
      by_cases hp1 : L ≤ p + 1
      · rw [if_leT hp1 (by omega), if_leT hp1 (by omega)]
        unfold fX11_row_b55
        rw [if_pos rfl]
        exact broom c m hq h504 hby hbr fr.rf fr.rf (fun _ _ => rfl)
      · rw [if_leF (by omega) (by omega), if_leF (by omega) (by omega)]
        unfold fX11_row_b55
        rw [if_neg one_ne0, oN_s, gi_N (show p < 400 by omega) (by decide), gi_N (show p + 1 < 400 by omega) (by decide), gi_N (show p < 400 by omega) (by decide), gi_N (show p + 1 < 400 by omega) (by decide), oN_tn (show p < 2147483648 by omega), oN_tn (show p + 1 < 2147483648 by omega), hby p (by omega), hby (p + 1) (by omega)]
        obtain ⟨v, c1, m1, z1, z2, z3, z4, z5, z6⟩ := found_both (fz := fz) (m.2.2.1 12 p) (m.2.2.1 12 (p + 1)) hq
        have f1 : fr [10, 108] [] [103, 200, 201, 202] c c1 := z4.up (by decide) (by decide) (by decide)
        have f2 : fr [8, 11] [] [3] m m1 := z5.up (by decide) (by decide) (by decide)
        have y1 : c1.1 504 = Int32.ofNat L := (f1.1 504 (by decide)).trans h504
        have y2 : ∀ i, i < L → c1.2.2.1 500 i = m1.2.2.1 12 i := fun i hi => by rw [f1.2.2.1 500 (by decide), f2.2.2.1 12 (by decide)]; exact hby i hi
        have y3 : c1.1 10 = m1.1 11 := by rw [z4.1 10 (by decide), z5.1 11 (by decide)]; exact hbr
        rw [z1, bd_v, z2, bd_v]
        by_cases hv : v < 0
        · rw [if_pos hv, if_pos hv]
          exact broom c1 m1 z3 y1 y2 y3 f1 f2 z6
        · rw [if_neg hv, if_neg hv, lt_v, lt_v, oN_s]
          unfold fX11_row_b106 fX12_row_b84
          rw [lt_v, lt_v, e2]
          obtain ⟨v, c', m', a1, a2, a3, a4, a5, a6, a7, a8⟩ := ih' (came + 1) c1 m1 (by omega) (by omega) (by omega) z3 y1 y2 y3
          exact ⟨v, c', m', a1, a2, a3, a4, a5, f1.tr a6, f2.tr a7, fun k hk => (a8 k hk).trans (z6 k hk)⟩
theorem row_call {c m : St} (h : RR fz c m) : Cl fz c m (fX11_row fz c) (fX12_row m) := by
  obtain ⟨hq, hs, ⟨L, hL, l1, l2, l3⟩, h6, h7, h8, h9, h10, h11⟩ := h
  have e13 : (sI m 0 0).1 13 = Int32.ofNat L := l2
  unfold fX11_row fX12_row
  rw [l1, lt_v (sI m 0 0), e13, lt_v (Int32.ofNat L), lt_v (sI (sI m 0 0) 13 0)]
  by_cases h0 : L = 0
  · subst h0
    rw [if_pos (show Int32.ofNat 0 = 0 from rfl), if_pos (show Int32.ofNat 0 = 0 from rfl)]
    have hs0 : Rs c (sI (sI m 0 0) 13 0) := hs
    obtain ⟨c', m', k1, k2, k3, k4, k5⟩ := refuse_both (fz := fz) (n := 6) hs0 (by decide) (by decide)
    have k1' : fX11_refuse (-6) fz c = some (-6, c') := k1
    have k2' : fX12_tell (-6) (sI (sI m 0 0) 13 0) = some (-6, m') := k2
    rw [k1', bd_v, k2', bd_v]
    have ci : ∀ {l : List Nat}, (∀ x, x ∈ l → x ≠ 9) → ∀ x, x ∈ l → c'.1 x = c.1 x := fun s x hx => k4.1 x (s x hx)
    have caa : ∀ {l : List Nat}, (∀ x, x ∈ l → x ≠ 8) → ∀ x, x ∈ l → c'.2.2.1 x = c.2.2.1 x := fun s x hx => k4.2.2.1 x (s x hx)
    have m3 : m'.2.2.1 3 = m.2.2.1 3 := k5.2.2.1 3 (by decide)
    refine ⟨-6, c', m', rfl, rfl, ⟨hq.s k4 (m' := m') (m := sI (sI m 0 0) 13 0) k5, k3, ⟨0, by omega, ?_, ?_, fun i hi => by rw [k4.2.2.1 500 (by decide), k5.2.2.1 12 (by decide)]; exact l3 i hi⟩, ?_, ?_, ?_, ?_, ?_, ?_⟩, ?_, k5.2.2.1 4 (by decide), k5.2.2.1 5 (by decide)⟩
    · rw [k4.1 504 (by decide)]; exact l1
    · rw [k5.1 13 (by decide)]; rfl
    · exact h6.a (ci (by decide)) (caa (by decide)) (fun k _ => by rw [m3])
    · exact h7.a (k4.1 404 (by decide)) (caa (by decide)) (fun k _ => by rw [m3])
    · exact h8.a (k4.1 905 (by decide)) (k4.2.2.1 902 (by decide)) (k5.1 8 (by decide)) (k5.2.2.1 6 (by decide)) (k5.2.2.1 7 (by decide)) (fun q _ => by rw [m3])
    · exact h9.a (k4.1 1104 (by decide)) (caa (by decide)) (k5.1 52 (by decide)) (k5.2.2.1 51 (by decide))
    · exact h10.a (ci (by decide)) (fun k hk => by
        rw [k5.1 k (fun e => by rw [e] at hk; exact absurd hk (by decide))]
        show (sI (sI m 0 0) 13 0).1 k = _
        rw [sI_1, if_neg (fun e => by rw [e] at hk; exact absurd hk (by decide)), sI_1, if_neg (fun e => by rw [e] at hk; exact absurd hk (by decide))])
    · exact h11.a (fun k _ => by rw [k5.2.2.2]; rfl)
    · rw [k4.2.2.2]
  · rw [if_neg (show ¬ (Int32.ofNat L = 0) from fun z => h0 ((oN_eq (b := 0) (by omega) (by decide)).mp z)), if_neg (show ¬ (Int32.ofNat L = 0) from fun z => h0 ((oN_eq (b := 0) (by omega) (by decide)).mp z)), lt_v, lt_v]
    obtain ⟨v, c1, m1, a1, a2, a3, a4, a5, a6, a7, a8⟩ := row_l (fz := fz) hL 200 5799 0 0 (sI c 10 0) (sI (sI (sI m 0 0) 13 0) 11 0) (by omega) (by omega) (by omega) hq l1 (fun i hi => (l3 i (by omega)).1) rfl
    have a1' : lp (fun _ _ _ => none) (fX11_row_b26 fz) 6000 0 0 (sI c 10 0) = _ := a1
    have a2' : lp (fun _ _ _ _ => none) fX12_row_b35 6000 (Int32.ofNat L) 0 0 (sI (sI (sI m 0 0) 13 0) 11 0) = _ := a2
    rw [a1', a2', c_close, bd_v, settle_nn (oN_nn (by omega)), bd_v, tell_nn (oN_nn (by omega)), bd_v]
    have F1 : fr [9, 10, 108, 504, 905] [] [103, 200, 201, 202] c (sI (sI (sI c1 504 0) 905 0) 9 0) := ((((fr.sI (by decide)).tr (a6.up (by decide) (by decide) (by decide))).tr (fr.sI (by decide))).tr (fr.sI (by decide))).tr (fr.sI (by decide))
    have F2 : fr [0, 1, 8, 11, 13] [] [3] m (sI (sI m1 8 0) 1 0) := (((((fr.sI (by decide)).tr (fr.sI (by decide))).tr (fr.sI (by decide))).tr (a7.up (by decide) (by decide) (by decide))).tr (fr.sI (by decide))).tr (fr.sI (by decide))
    have e3 : ∀ k, 91 ≤ k ∨ (1 ≤ k ∧ k ≤ 5) → (sI (sI m1 8 0) 1 0).2.2.1 3 k = m.2.2.1 3 k := a8
    have fi : ∀ {l : List Nat}, (∀ x, x ∈ l → x ∉ [9, 10, 108, 504, 905]) → ∀ x, x ∈ l → (sI (sI (sI c1 504 0) 905 0) 9 0).1 x = c.1 x := fun s x hx => F1.1 x (s x hx)
    have fa : ∀ {l : List Nat}, (∀ x, x ∈ l → x ∉ [103, 200, 201, 202]) → ∀ x, x ∈ l → (sI (sI (sI c1 504 0) 905 0) 9 0).2.2.1 x = c.2.2.1 x := fun s x hx => F1.2.2.1 x (s x hx)
    refine ⟨_, _, _, rfl, rfl, ⟨⟨a4.1, a4.2.1, a4.2.2⟩, ⟨rfl, ?_⟩, ⟨0, by omega, rfl, ?_, fun i hi => by rw [F1.2.2.1 500 (by decide), F2.2.2.1 12 (by decide)]; exact l3 i hi⟩, ?_, ?_, Ru.z rfl rfl, ?_, ⟨a5, ?_, ?_⟩, ?_⟩, ?_, F2.2.2.1 4 (by decide), F2.2.2.1 5 (by decide)⟩
    · intro i hi
      rw [F1.2.2.1 8 (by decide), F2.2.2.1 2 (by decide)]; exact hs.2 i hi
    · show m1.1 13 = _
      rw [a7.1 13 (by decide)]; rfl
    · exact h6.a (fi (by decide)) (fa (by decide)) (fun k hk => e3 k (by omega))
    · exact h7.a (F1.1 404 (by decide)) (fa (by decide)) (fun k hk => e3 k (by omega))
    · exact h9.a (F1.1 1104 (by decide)) (fa (by decide)) (F2.1 52 (by decide)) (F2.2.2.1 51 (by decide))
    · rw [F1.1 11 (by decide), F2.1 18 (by decide)]; exact h10.2.1
    · rw [F1.1 12 (by decide), F2.1 48 (by decide)]; exact h10.2.2
    · exact h11.a (fun k _ => by rw [F2.2.2.2])
    · rw [F1.2.2.2]
end Row
