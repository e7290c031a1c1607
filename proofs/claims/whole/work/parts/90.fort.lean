/-! T2, calls that write the land: fort -/
theorem upd_comm {r : Nat → Int32} {i j : Nat} {x y : Int32} (h : i ≠ j) : upd (upd r i x) j y = upd (upd r j y) i x := by
  funext k
  rw [upd_v, upd_v, upd_v, upd_v]
  by_cases h1 : k = j
  · rw [if_pos h1, if_neg (by omega), if_pos h1]
  · rw [if_neg h1, if_neg h1]
theorem tell_nn {m : St} {v : Int32} (hv : 0 ≤ v) : fX12_tell v m = some (v, sI m 1 0) := by
  unfold fX12_tell fX12_tell_b10 fX12_tell_b28
  rw [if_pos hv, lt_v, if_pos hv]
theorem fort_call {fz : List FP} {c m : St} (a b : Int32) (h : Rq fz c m) (hs : Rs c m) : Ok fz c m (fX11_fort a b fz c) (fX12_fort a b m) := by
  have hset : ∀ n, 1 ≤ n → n ≤ 6 → Ok fz c m (bd (fX11_settle (-(Int32.ofNat n)) fz c) (fun r st => some (r, st))) (bd (fX12_tell (-(Int32.ofNat n)) (sI m 0 0)) (fun r st => some (r, st))) := by
    intro n h1 h6
    have := ok_refuse (n := n) h hs h1 h6
    have hneg : ¬ ((0 : Int32) ≤ -(Int32.ofNat n)) := by
      have : n = 1 ∨ n = 2 ∨ n = 3 ∨ n = 4 ∨ n = 5 ∨ n = 6 := by omega
      rcases this with e | e | e | e | e | e <;> subst e <;> decide
    unfold fX11_settle
    rw [if_neg hneg]
    obtain ⟨c', m', k1, k2, k3, k4, k5⟩ := refuse_both (fz := fz) hs h1 h6
    rw [k1, bd_v, bd_v]
    rw [k1, bd_v] at this
    exact this
  have hneg1 : ((-1 : Int32) < 0) := by decide
  have hneg5 : ((-5 : Int32) < 0) := by decide
  obtain ⟨q0, n, hn, en⟩ := h.1.1
  have q108 : c.1 108 = Int32.ofNat n := q0.trans en
  have r0 : m.2.2.1 3 0 = Int32.ofNat n := en
  unfold fX11_fort fX12_fort fX6_found fX12_come fX11_fort_b21 fX6_found_b19 fX12_come_b24
  rw [lt_v (sI m 0 0), c_within, bs_v, m_in32 a 0 99 0 99 rfl rfl, bs_v]
  by_cases ha : ¬ ((0 : Int32) ≤ a ∧ a ≤ 99)
  · rw [if_neg ha, if_pos rfl, if_pos rfl, bd_v, bd_v, if_pos hneg1]; exact hset 1 (by decide) (by decide)
  replace ha := Decidable.of_not_not ha
  rw [if_pos ha, if_neg one_ne0, if_neg one_ne0, c_within, bs_v, m_in32 b 0 3 0 3 rfl rfl, bs_v]
  by_cases hb : ¬ ((0 : Int32) ≤ b ∧ b ≤ 3)
  · rw [if_neg hb, if_pos rfl, if_pos rfl, bd_v, bd_v, if_pos hneg1]; exact hset 1 (by decide) (by decide)
  replace hb := Decidable.of_not_not hb
  have t0 : (sI m 0 0).2.2.1 3 (0 : Int32).toNatClampNeg = Int32.ofNat n := en
  rw [if_pos hb, if_neg one_ne0, if_neg one_ne0, lt_v ((sI m 0 0).2.2.1 3 (0 : Int32).toNatClampNeg), t0, q108]
  by_cases h6 : n = 6
  · subst h6
    rw [if_neg (show ¬ (Int32.ofNat 6 < (6 : Int32)) by decide), if_pos (show Int32.ofNat 6 = (6 : Int32) from rfl), bd_v, bd_v, if_pos hneg5]; exact hset 5 (by decide) (by decide)
  have hn6 : n < 6 := by omega
  have n6 : ¬ (Int32.ofNat n = (6 : Int32)) := fun q => h6 ((oN_eq (b := 6) (by omega) (by decide)).mp q)
  have l6 : Int32.ofNat n < (6 : Int32) := (oN_lt (b := 6) (by omega) (by decide)).mpr hn6
  rw [if_pos l6, if_neg n6]
  have hab : nb 99 a := oN_exb (b := 99) ha.1 (by decide) ha.2
  have hbb : nb 3 b := oN_exb (b := 3) hb.1 (by decide) hb.2
  have h00 : ∀ B, nb B 0 := fun B => ⟨0, Nat.zero_le _, rfl⟩
  have g13 : (13 : Int32) + Int32.ofNat n = Int32.ofNat (13 + n) := oN_add 13 n
  have g19 : (19 : Int32) + Int32.ofNat n = Int32.ofNat (19 + n) := oN_add 19 n
  have g25 : (25 : Int32) + Int32.ofNat n = Int32.ofNat (25 + n) := oN_add 25 n
  have g31 : (31 : Int32) + Int32.ofNat n = Int32.ofNat (31 + n) := oN_add 31 n
  -- the class
  have hc : ∀ {β : Type} (K : Int32 → St → Option β), bd (gi (Int32.ofNat n) 6 (lt (sA c 200 (upd (c.2.2.1 200) (Int32.ofNat n).toNatClampNeg a)) (fun st3 => gi (st3.1 108) 6 (lt (sA st3 201 (upd (st3.2.2.1 201) (st3.1 108).toNatClampNeg (0 : Int32))) (fun st4 => gi (st4.1 108) 6 (lt (sA st4 202 (upd (st4.2.2.1 202) (st4.1 108).toNatClampNeg (0 : Int32))) (fun st5 => gi (st5.1 108) 6 (lt (sA st5 103 (upd (st5.2.2.1 103) (st5.1 108).toNatClampNeg b)) (fun st6 => lt (sI st6 108 ((st6.1 108) + (1 : Int32))) (fun st7 => some (((st7.1 108) - (1 : Int32)), st7))))))))))) K = K (Int32.ofNat n) (sI (sA (sA (sA (sA c 200 (upd (c.2.2.1 200) n a)) 201 (upd (c.2.2.1 201) n 0)) 202 (upd (c.2.2.1 202) n 0)) 103 (upd (c.2.2.1 103) n b)) 108 (Int32.ofNat (n + 1))) := by
    intro β K
    have p1 : ∀ g, (sA c 200 g).1 108 = Int32.ofNat n := fun _ => q108
    have p2 : ∀ g g2, (sA (sA c 200 g) 201 g2).1 108 = Int32.ofNat n := fun _ _ => q108
    have p3 : ∀ g g2 g3, (sA (sA (sA c 200 g) 201 g2) 202 g3).1 108 = Int32.ofNat n := fun _ _ _ => q108
    have p4 : ∀ g g2 g3 g4, (sA (sA (sA (sA c 200 g) 201 g2) 202 g3) 103 g4).1 108 = Int32.ofNat n := fun _ _ _ _ => q108
    have p5 : ∀ X x, (sI X 108 x).1 108 = x := fun _ _ => rfl
    have p6 : Int32.ofNat (n + 1) - 1 = Int32.ofNat n := by rw [show (1 : Int32) = Int32.ofNat 1 from rfl, oN_sub (by omega)]; rfl
    simp only [lt_v, p1, p2, p3, p4, p5, p6, oN_s, gi_N hn6 (show 6 < 2147483648 by decide), oN_tn (show n < 2147483648 by omega), bd_v]
    rfl
  rw [hc, if_neg (oN_neg (by omega)), c_close, bd_v, settle_nn (oN_nn (by omega)), bd_v]
  have t3 : (sI m 0 0).2.2.1 3 = m.2.2.1 3 := rfl
  have p3 : ∀ X g, (sA X 3 g).2.2.1 3 = g := fun _ _ => rfl
  have z0 : (0 : Int32).toNatClampNeg = 0 := rfl
  have hz : upd (upd (upd (upd (m.2.2.1 3) (13 + n) a) (31 + n) b) (19 + n) 0) (25 + n) 0 0 = Int32.ofNat n := by
    rw [upd_v, if_neg (by omega), upd_v, if_neg (by omega), upd_v, if_neg (by omega), upd_v, if_neg (by omega), r0]
  simp only [lt_v, g13, g19, g25, g31, t3, p3, z0, hz, oN_s, gi_N (show 13 + n < 5550 by omega) (show 5550 < 2147483648 by decide), gi_N (show 19 + n < 5550 by omega) (show 5550 < 2147483648 by decide), gi_N (show 25 + n < 5550 by omega) (show 5550 < 2147483648 by decide), gi_N (show 31 + n < 5550 by omega) (show 5550 < 2147483648 by decide), oN_tn (show 13 + n < 2147483648 by omega), oN_tn (show 19 + n < 2147483648 by omega), oN_tn (show 25 + n < 2147483648 by omega), oN_tn (show 31 + n < 2147483648 by omega), bd_v, tell_nn (oN_nn (show n < 2147483648 by omega))]
  have hR := Rl.i108 (x := Int32.ofNat (n + 1)) (Rl.u103 (i := n) (x := b) (Rl.u202 (i := n) (x := 0) (Rl.u201 (i := n) (x := 0) (Rl.u200 (i := n) (x := a) h.1 hn6 hab) hn6 (h00 _)) hn6 (h00 _)) hn6 hbb) ⟨n + 1, by omega, rfl⟩
  have hW : Rw 0 fz c (upd (upd (upd (upd (upd (m.2.2.1 3) (13 + n) a) (19 + n) 0) (25 + n) 0) (31 + n) b) 0 (Int32.ofNat (n + 1))) := Rw.u (Rw.u (Rw.u (Rw.u (Rw.u h.2.1 (by omega) rfl rfl rfl (c' := c)) (by omega) rfl rfl rfl (c' := c)) (by omega) rfl rfl rfl (c' := c)) (by omega) rfl rfl rfl (c' := c)) (by omega) rfl rfl rfl
  have erow : upd (upd (upd (upd (m.2.2.1 3) (13 + n) a) (19 + n) 0) (25 + n) 0) (31 + n) b = upd (upd (upd (upd (m.2.2.1 3) (13 + n) a) (31 + n) b) (19 + n) 0) (25 + n) 0 := by
    rw [upd_comm (i := 25 + n) (j := 31 + n) (by omega), upd_comm (i := 19 + n) (j := 31 + n) (by omega)]
  rw [erow] at hR hW
  refine ⟨_, _, _, rfl, rfl, ⟨hR, hW, h.2.2⟩, ⟨rfl, hs.2⟩, ?_, ?_, ?_, Or.inr ⟨rfl, rfl⟩⟩
  · exact ((((((fr.sA (by decide)).tr (fr.sA (by decide))).tr (fr.sA (by decide))).tr (fr.sA (by decide))).tr (fr.sI (by decide))).tr (fr.sI (by decide))).tr (fr.sI (by decide))
  · exact (((((((fr.sI (by decide)).tr (fr.sA (by decide))).tr (fr.sA (by decide))).tr (fr.sA (by decide))).tr (fr.sA (by decide))).tr (fr.sA (by decide))).tr (fr.sI (by decide))).tr (fr.sI (by decide))
  · intro k hk
    show upd (upd (upd (upd (upd (m.2.2.1 3) (13 + n) a) (31 + n) b) (19 + n) 0) (25 + n) 0) 0 (Int32.ofNat (n + 1)) k = _
    rw [upd_v, if_neg (by omega), upd_v, if_neg (by omega), upd_v, if_neg (by omega), upd_v, if_neg (by omega), upd_v, if_neg (by omega)]
