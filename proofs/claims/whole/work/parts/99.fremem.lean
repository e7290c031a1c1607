/-! T2, remember: both -/
section Rem
variable {fz : List FP} {c m : St}
/-- the undo log is n deep, its latest deed was at fort f -/
def RuT (n f : Nat) (c m : St) : Prop := RuN (n + 1) c m ∧ c.2.2.1 902 (7 * n + 1) = Int32.ofNat f
theorem m_sh6_l : ∀ (q N : Nat) (st : St) (v1 : Int32), q ≤ 375 → ∃ st', lp (fun _ _ _ => none) fX12_remember_b11 (N + 1 + q) v1 (Int32.ofNat (375 - q)) st = lp (fun _ _ _ => none) fX12_remember_b41 6000 v1 0 st' ∧ fr [] [] [6] st st' ∧ ∀ j, st'.2.2.1 6 j = if 375 - q ≤ j ∧ j < 375 then st.2.2.1 6 (j + 25) else st.2.2.1 6 j := by
  intro q
  induction q with
  | zero =>
    intro N st v1 _
    refine ⟨st, ?_, fr.rf, fun j => by rw [if_neg (by omega)]⟩
    rw [Nat.add_zero, lp_s]
    generalize lp (fun _ _ _ => none) fX12_remember_b11 N = kk
    conv => lhs; unfold fX12_remember_b11
    rw [if_pos (show (375 : Int32) ≤ Int32.ofNat (375 - 0) by decide)]
  | succ q ih =>
    intro N st v1 hq
    have e1 : 375 - q = (375 - (q + 1)) + 1 := by omega
    have hi : 375 - (q + 1) < 375 := by omega
    have ih' := ih N
    rw [← Nat.add_assoc, lp_s]
    generalize 375 - (q + 1) = i at e1 hi ⊢
    rw [e1] at ih'
    generalize lp (fun _ _ _ => none) fX12_remember_b11 (N + 1 + q) = kk at ih' ⊢
    have i1 : Int32.ofNat i + (25 : Int32) = Int32.ofNat (i + 25) := oN_add i 25
    obtain ⟨st', a1, a2, a3⟩ := ih' (sA st 6 (upd (st.2.2.1 6) i (st.2.2.1 6 (i + 25)))) v1 (by omega)
    refine ⟨st', ?_, (fr.sA (by decide)).tr a2, fun j => ?_⟩
    · rw [← a1]
      conv => lhs; unfold fX12_remember_b11
      rw [if_neg (show ¬ ((375 : Int32) ≤ Int32.ofNat i) from fun q => by have := (oN_le (a := 375) (by decide) (by omega)).mp q; omega), i1, gi_N (show i + 25 < 450 by omega) (by decide), gi_N (show i < 450 by omega) (by decide), oN_tn (show i < 2147483648 by omega), oN_tn (show i + 25 < 2147483648 by omega), lt_v, lt_v, oN_s]
    · rw [a3 j]
      have t6 : (sA st 6 (upd (st.2.2.1 6) i (st.2.2.1 6 (i + 25)))).2.2.1 6 = upd (st.2.2.1 6) i (st.2.2.1 6 (i + 25)) := rfl
      rw [t6, upd_v, upd_v]
      by_cases z : j = i
      · rw [if_neg (by omega), if_pos z, if_pos (by omega), z]
      · by_cases w : i + 1 ≤ j ∧ j < 375
        · rw [if_pos w, if_neg (by omega), if_pos (by omega)]
        · rw [if_neg w, if_neg z, if_neg (by omega)]
theorem m_sh7_l : ∀ (q N : Nat) (st : St) (v1 : Int32), q ≤ 15 → ∃ st', lp (fun _ _ _ => none) fX12_remember_b41 (N + 1 + q) v1 (Int32.ofNat (15 - q)) st = fX12_remember_b77 v1 (sI st' 8 (st'.1 8 - 1)) ∧ fr [] [] [7] st st' ∧ ∀ j, st'.2.2.1 7 j = if 15 - q ≤ j ∧ j < 15 then st.2.2.1 7 (j + 1) else st.2.2.1 7 j := by
  intro q
  induction q with
  | zero =>
    intro N st v1 _
    refine ⟨st, ?_, fr.rf, fun j => by rw [if_neg (by omega)]⟩
    rw [Nat.add_zero, lp_s]
    generalize lp (fun _ _ _ => none) fX12_remember_b41 N = kk
    conv => lhs; unfold fX12_remember_b41
    rw [if_pos (show (15 : Int32) ≤ Int32.ofNat (15 - 0) by decide), lt_v]
  | succ q ih =>
    intro N st v1 hq
    have e1 : 15 - q = (15 - (q + 1)) + 1 := by omega
    have hi : 15 - (q + 1) < 15 := by omega
    have ih' := ih N
    rw [← Nat.add_assoc, lp_s]
    generalize 15 - (q + 1) = i at e1 hi ⊢
    rw [e1] at ih'
    generalize lp (fun _ _ _ => none) fX12_remember_b41 (N + 1 + q) = kk at ih' ⊢
    obtain ⟨st', a1, a2, a3⟩ := ih' (sA st 7 (upd (st.2.2.1 7) i (st.2.2.1 7 (i + 1)))) v1 (by omega)
    refine ⟨st', ?_, (fr.sA (by decide)).tr a2, fun j => ?_⟩
    · rw [← a1]
      conv => lhs; unfold fX12_remember_b41
      rw [if_neg (show ¬ ((15 : Int32) ≤ Int32.ofNat i) from fun q => by have := (oN_le (a := 15) (by decide) (by omega)).mp q; omega), oN_s, gi_N (show i + 1 < 16 by omega) (by decide), gi_N (show i < 16 by omega) (by decide), oN_tn (show i < 2147483648 by omega), oN_tn (show i + 1 < 2147483648 by omega), lt_v, lt_v]
    · rw [a3 j]
      have t6 : (sA st 7 (upd (st.2.2.1 7) i (st.2.2.1 7 (i + 1)))).2.2.1 7 = upd (st.2.2.1 7) i (st.2.2.1 7 (i + 1)) := rfl
      rw [t6, upd_v, upd_v]
      by_cases z : j = i
      · rw [if_neg (by omega), if_pos z, if_pos (by omega), z]
      · by_cases w : i + 1 ≤ j ∧ j < 15
        · rw [if_pos w, if_neg (by omega), if_pos (by omega)]
        · rw [if_neg w, if_neg z, if_neg (by omega)]
/-- the log grows; what lies behind it is as it was -/
def fr6 (m m' : St) : Prop := fr [8] [] [6, 7] m m' ∧ ∀ j, 400 ≤ j → m'.2.2.1 6 j = m.2.2.1 6 j
theorem push_both {n f d : Nat} (h : Rl 0 c (m.2.2.1 3)) (hu : RuN n c m) (hn : n < 16) (hf : f < 6) (hf2 : f < (m.2.2.1 3 0).toNatClampNeg) (hd : d ≤ 3) : ∃ c' m', fX2_remember_b36 fz (Int32.ofNat d) (Int32.ofNat f) c = some ((), c') ∧ fX12_remember_b77 (Int32.ofNat d) m = some ((), m') ∧ RuT n f c' m' ∧ fr [905] [] [902] c c' ∧ fr6 m m' := by
  obtain ⟨-, u1, u2, u3⟩ := hu
  have hb := h.bnd
  obtain ⟨h0, h1, h2, h3, h4, h5, h6, h7, h8, -⟩ := h
  obtain ⟨q8, g, hg, eg⟩ := h8 f hf
  have q103 : c.2.2.1 103 f = Int32.ofNat g := q8.trans eg
  have q200 : c.2.2.1 200 f = m.2.2.1 3 (13 + f) := (h5 f hf).1
  have q201 : c.2.2.1 201 f = m.2.2.1 3 (19 + f) := (h6 f hf).1
  have q202 : c.2.2.1 202 f = m.2.2.1 3 (25 + f) := (h7 f hf).1
  have q203 : c.2.2.1 203 g = m.2.2.1 3 (9 + g) := (h4 g (by omega)).1
  have q204 : c.1 204 = m.2.2.1 3 6 := h1.1
  obtain ⟨m1, k1, k2, k3⟩ := m_keep (m := m) (k := n) (by omega)
  have k8 : m1.1 8 = Int32.ofNat n := (k2.1 8 (by decide)).trans u2
  have k7 : m1.2.2.1 7 = m.2.2.1 7 := k2.2.2.1 7 (by decide)
  have km3 : m1.2.2.1 3 = m.2.2.1 3 := k2.2.2.1 3 (by decide)
  have hm : fX12_remember_b77 (Int32.ofNat d) m = some ((), sI (sA m1 7 (upd (m.2.2.1 7) n (Int32.ofNat d))) 8 (Int32.ofNat (n + 1))) := by
    unfold fX12_remember_b77
    rw [u2, k1, bd_v, k8, gi_N hn (by decide), oN_tn (by omega), lt_v, lt_v, k7]
    show some ((), sI (sA m1 7 _) 8 (m1.1 8 + 1)) = _
    rw [k8, oN_s]
  have i0 : Int32.ofNat n * (7 : Int32) = Int32.ofNat (7 * n) := by rw [show (7 : Int32) = Int32.ofNat 7 from rfl, oN_mul, Nat.mul_comm]
  have i1 : Int32.ofNat (7 * n) + (1 : Int32) = Int32.ofNat (7 * n + 1) := oN_s _
  have i2 : Int32.ofNat (7 * n) + (2 : Int32) = Int32.ofNat (7 * n + 2) := oN_add _ 2
  have i3 : Int32.ofNat (7 * n) + (3 : Int32) = Int32.ofNat (7 * n + 3) := oN_add _ 3
  have i4 : Int32.ofNat (7 * n) + (4 : Int32) = Int32.ofNat (7 * n + 4) := oN_add _ 4
  have i5 : Int32.ofNat (7 * n) + (5 : Int32) = Int32.ofNat (7 * n + 5) := oN_add _ 5
  have i6 : Int32.ofNat (7 * n) + (6 : Int32) = Int32.ofNat (7 * n + 6) := oN_add _ 6
  let L1 : Nat → Int32 := upd (upd (upd (upd (upd (upd (upd (c.2.2.1 902) (7 * n) (Int32.ofNat d)) (7 * n + 1) (Int32.ofNat f)) (7 * n + 2) (m.2.2.1 3 (13 + f))) (7 * n + 3) (m.2.2.1 3 (19 + f))) (7 * n + 4) (m.2.2.1 3 (25 + f))) (7 * n + 5) (m.2.2.1 3 (9 + g))) (7 * n + 6) (m.2.2.1 3 6)
  have hc : ∃ c', fX2_remember_b36 fz (Int32.ofNat d) (Int32.ofNat f) c = some ((), c') ∧ c'.2.2.1 902 = L1 ∧ c'.1 905 = Int32.ofNat (n + 1) ∧ fr [905] [] [902] c c' := by
    have t1 : ∀ (st : St) x, (sA st 902 x).2.2.1 902 = x := fun st x => by rw [sA_3, if_pos rfl]
    have t2 : ∀ (st : St) x, (sA st 902 x).2.2.1 200 = st.2.2.1 200 := fun st x => rfl
    have t3 : ∀ (st : St) x, (sA st 902 x).2.2.1 201 = st.2.2.1 201 := fun st x => rfl
    have t4 : ∀ (st : St) x, (sA st 902 x).2.2.1 202 = st.2.2.1 202 := fun st x => rfl
    have t5 : ∀ (st : St) x, (sA st 902 x).2.2.1 203 = st.2.2.1 203 := fun st x => rfl
    have t6 : ∀ (st : St) x, (sA st 902 x).2.2.1 103 = st.2.2.1 103 := fun st x => rfl
    unfold fX2_remember_b36
    simp only [lt_v, sA_1, u1, i0, i1, i2, i3, i4, i5, i6, gi_N hf (show 6 < 2147483648 by decide), gi_N (show g < 4 by omega) (show 4 < 2147483648 by decide), gi_N (show 7 * n < 112 by omega) (show 112 < 2147483648 by decide), gi_N (show 7 * n + 1 < 112 by omega) (show 112 < 2147483648 by decide), gi_N (show 7 * n + 2 < 112 by omega) (show 112 < 2147483648 by decide), gi_N (show 7 * n + 3 < 112 by omega) (show 112 < 2147483648 by decide), gi_N (show 7 * n + 4 < 112 by omega) (show 112 < 2147483648 by decide), gi_N (show 7 * n + 5 < 112 by omega) (show 112 < 2147483648 by decide), gi_N (show 7 * n + 6 < 112 by omega) (show 112 < 2147483648 by decide), oN_tn (show f < 2147483648 by omega), oN_tn (show g < 2147483648 by omega), oN_tn (show 7 * n < 2147483648 by omega), oN_tn (show 7 * n + 1 < 2147483648 by omega), oN_tn (show 7 * n + 2 < 2147483648 by omega), oN_tn (show 7 * n + 3 < 2147483648 by omega), oN_tn (show 7 * n + 4 < 2147483648 by omega), oN_tn (show 7 * n + 5 < 2147483648 by omega), oN_tn (show 7 * n + 6 < 2147483648 by omega), t1, t2, t3, t4, t5, t6, q103, q200, q201, q202, q203, q204, oN_s]
    refine ⟨_, rfl, ?_, ?_, ?_⟩
    · rfl
    · rfl
    · exact (((((((fr.sA (by decide)).tr (fr.sA (by decide))).tr (fr.sA (by decide))).tr (fr.sA (by decide))).tr (fr.sA (by decide))).tr (fr.sA (by decide))).tr (fr.sA (by decide))).tr (fr.sI (by decide))
  obtain ⟨c', c1, c2, c3, c4⟩ := hc
  have L6 : L1 (7 * n + 6) = m.2.2.1 3 6 := if_pos rfl
  have L5 : L1 (7 * n + 5) = m.2.2.1 3 (9 + g) := by
    show upd _ (7 * n + 6) _ _ = _
    rw [upd_v, if_neg (by omega), upd_v, if_pos rfl]
  have L4 : L1 (7 * n + 4) = m.2.2.1 3 (25 + f) := by
    show upd _ (7 * n + 6) _ _ = _
    rw [upd_v, if_neg (by omega), upd_v, if_neg (by omega), upd_v, if_pos rfl]
  have L3 : L1 (7 * n + 3) = m.2.2.1 3 (19 + f) := by
    show upd _ (7 * n + 6) _ _ = _
    rw [upd_v, if_neg (by omega), upd_v, if_neg (by omega), upd_v, if_neg (by omega), upd_v, if_pos rfl]
  have L2 : L1 (7 * n + 2) = m.2.2.1 3 (13 + f) := by
    show upd _ (7 * n + 6) _ _ = _
    rw [upd_v, if_neg (by omega), upd_v, if_neg (by omega), upd_v, if_neg (by omega), upd_v, if_neg (by omega), upd_v, if_pos rfl]
  have L1' : L1 (7 * n + 1) = Int32.ofNat f := by
    show upd _ (7 * n + 6) _ _ = _
    rw [upd_v, if_neg (by omega), upd_v, if_neg (by omega), upd_v, if_neg (by omega), upd_v, if_neg (by omega), upd_v, if_neg (by omega), upd_v, if_pos rfl]
  have L0 : L1 (7 * n) = Int32.ofNat d := by
    show upd _ (7 * n + 6) _ _ = _
    rw [upd_v, if_neg (by omega), upd_v, if_neg (by omega), upd_v, if_neg (by omega), upd_v, if_neg (by omega), upd_v, if_neg (by omega), upd_v, if_neg (by omega), upd_v, if_pos rfl]
  have Lo : ∀ k, k < 7 * n → L1 k = c.2.2.1 902 k := by
    intro k hk
    show upd _ (7 * n + 6) _ _ = _
    rw [upd_v, if_neg (by omega), upd_v, if_neg (by omega), upd_v, if_neg (by omega), upd_v, if_neg (by omega), upd_v, if_neg (by omega), upd_v, if_neg (by omega), upd_v, if_neg (by omega)]
  generalize hm1 : sI (sA m1 7 (upd (m.2.2.1 7) n (Int32.ofNat d))) 8 (Int32.ofNat (n + 1)) = m' at hm
  have f3 : m'.2.2.1 3 = m.2.2.1 3 := by rw [← hm1]; exact km3
  have f6 : m'.2.2.1 6 = m1.2.2.1 6 := by rw [← hm1]; rfl
  have f7 : m'.2.2.1 7 = upd (m.2.2.1 7) n (Int32.ofNat d) := by rw [← hm1]; rfl
  have f8 : m'.1 8 = Int32.ofNat (n + 1) := by rw [← hm1]; rfl
  have fm : fr [8] [] [6, 7] m m' := by
    rw [← hm1]
    exact ((k2.up (by decide) (by decide) (by decide)).tr (fr.sA (by decide))).tr (fr.sI (by decide))
  have sn1 : ∀ j i, j ≤ n → i < 25 → sn m' (n + 1) j i = sn m n j i := by
    intro j i hj hi
    unfold sn
    rw [if_neg (by omega), f6, k3]
    by_cases e : j = n
    · rw [if_pos (by omega), if_pos e, e, Nat.add_sub_cancel_left]
    · rw [if_neg (by omega), if_neg e]
  have sn2 : ∀ i, sn m' (n + 1) (n + 1) i = m.2.2.1 3 (6 + i) := by
    intro i
    unfold sn
    rw [if_pos rfl, f3]
  have sn3 : ∀ i, sn m n n i = m.2.2.1 3 (6 + i) := by
    intro i
    unfold sn
    rw [if_pos rfl]
  refine ⟨c', m', c1, hm, ⟨⟨by omega, c3, f8, fun j hj => ?_⟩, by rw [c2]; exact L1'⟩, c4, fm, fun j hj => by rw [f6, k3, if_neg (by omega)]⟩
  rw [c2, f7, f3]
  by_cases e : j = n
  · subst e
    refine ⟨⟨f, hf, hf2, L1', fun i hi => ?_⟩, ⟨?_, ?_⟩, fun i hi => ?_⟩
    · rw [sn1 j i (Nat.le_refl _) hi, sn3, eg, oN_tn (by omega)]
      unfold pt
      rw [L6, L5, L4, L3, L2, sn2]
      by_cases i0 : i = 0
      · rw [if_pos i0, i0]
      rw [if_neg i0]
      by_cases i1 : i = 3 + g
      · rw [if_pos i1, i1, show 6 + (3 + g) = 9 + g by omega]
      rw [if_neg i1]
      by_cases i2 : i = 7 + f
      · rw [if_pos i2, i2, show 6 + (7 + f) = 13 + f by omega]
      rw [if_neg i2]
      by_cases i3 : i = 13 + f
      · rw [if_pos i3, i3, show 6 + (13 + f) = 19 + f by omega]
      rw [if_neg i3]
      by_cases i4 : i = 19 + f
      · rw [if_pos i4, i4, show 6 + (19 + f) = 25 + f by omega]
      rw [if_neg i4]
    · rw [L0, upd_v, if_pos rfl]
    · rw [upd_v, if_pos rfl]; exact ⟨d, hd, rfl⟩
    · rw [sn1 j i (Nat.le_refl _) hi, sn3]; exact hb i hi
  · obtain ⟨⟨F, a1, a2, a3, a4⟩, a5, a6⟩ := u3 j (by omega)
    refine ⟨⟨F, a1, a2, by rw [Lo _ (by omega)]; exact a3, fun i hi => ?_⟩, ?_, fun i hi => ?_⟩
    · rw [sn1 j i (by omega) hi, a4 i hi]
      unfold pt
      rw [Lo (7 * j + 6) (by omega), Lo (7 * j + 5) (by omega), Lo (7 * j + 4) (by omega), Lo (7 * j + 3) (by omega), Lo (7 * j + 2) (by omega), sn1 (j + 1) i (by omega) hi]
    · rw [Lo (7 * j) (by omega), upd_v, if_neg e]; exact a5
    · rw [sn1 j i (by omega) hi]; exact a6 i hi
theorem rem_both {f d : Nat} (h : Rl 0 c (m.2.2.1 3)) (hu : Ru c m) (hf : f < 6) (hf2 : f < (m.2.2.1 3 0).toNatClampNeg) (hd : d ≤ 3) : ∃ n c' m', fX2_remember (Int32.ofNat d) (Int32.ofNat f) fz c = some ((), c') ∧ fX12_remember (Int32.ofNat d) m = some ((), m') ∧ RuT n f c' m' ∧ fr [905] [] [902] c c' ∧ fr6 m m' := by
  obtain ⟨n, hu⟩ := hu
  have hn := hu.1
  have u1 := hu.2.1
  have u2 := hu.2.2.1
  unfold fX2_remember fX12_remember
  rw [u1, u2]
  by_cases e : n = 16
  · have u3 := hu.2.2.2
    subst e
    rw [if_neg (show ¬ (Int32.ofNat 16 < 16) by decide), if_pos (show Int32.ofNat 16 = 16 from rfl), lt_v]
    have e905 : (sI c 905 15).1 905 * (7 : Int32) = 105 := by
      show (15 : Int32) * 7 = 105
      decide
    have n7 : (7 : Int32).toNatClampNeg = 7 := rfl
    have n0 : (0 : Int32).toNatClampNeg = 0 := rfl
    have n105 : (105 : Int32).toNatClampNeg = 105 := rfl
    have e902 : (sI c 905 15).2.2.1 902 = c.2.2.1 902 := rfl
    obtain ⟨m1, a1, a2, a3⟩ := m_sh6_l 375 5624 m (Int32.ofNat d) (Nat.le_refl _)
    obtain ⟨m2, b1, b2, b3⟩ := m_sh7_l 15 5984 m1 (Int32.ofNat d) (Nat.le_refl _)
    have hm : lp (fun _ _ _ => none) fX12_remember_b11 6000 (Int32.ofNat d) 0 m = fX12_remember_b77 (Int32.ofNat d) (sI m2 8 (m2.1 8 - 1)) := a1.trans b1
    have m28 : m2.1 8 - 1 = Int32.ofNat 15 := by
      rw [b2.1 8 (by decide), a2.1 8 (by decide), u2]; rfl
    rw [hm, m28, e905]
    unfold gcp
    rw [if_neg (show ¬ ((7 : Int32) < 0 ∨ (0 : Int32) < 0 ∨ (105 : Int32) < 0 ∨ 112 < (7 : Int32).toNatClampNeg + (105 : Int32).toNatClampNeg ∨ 112 < (0 : Int32).toNatClampNeg + (105 : Int32).toNatClampNeg) by decide), lt_v, e902, n7, n0, n105]
    have f3 : (sI m2 8 (Int32.ofNat 15)).2.2.1 3 = m.2.2.1 3 := by
      show m2.2.2.1 3 = _
      rw [b2.2.2.1 3 (by decide), a2.2.2.1 3 (by decide)]
    have f6 : ∀ j, j < 375 → (sI m2 8 (Int32.ofNat 15)).2.2.1 6 j = m.2.2.1 6 (j + 25) := by
      intro j hj
      show m2.2.2.1 6 j = _
      rw [b2.2.2.1 6 (by decide), a3, if_pos (by omega)]
    have f6b : ∀ j, 400 ≤ j → (sI m2 8 (Int32.ofNat 15)).2.2.1 6 j = m.2.2.1 6 j := by
      intro j hj
      show m2.2.2.1 6 j = _
      rw [b2.2.2.1 6 (by decide), a3, if_neg (by omega)]
    have f7 : ∀ j, j < 15 → (sI m2 8 (Int32.ofNat 15)).2.2.1 7 j = m.2.2.1 7 (j + 1) := by
      intro j hj
      show m2.2.2.1 7 j = _
      rw [b3, if_pos (by omega), a2.2.2.1 7 (by decide)]
    have cL : ∀ k, k < 105 → va_cpy (c.2.2.1 902) (c.2.2.1 902) 7 0 105 k = c.2.2.1 902 (k + 7) := by
      intro k hk
      rw [cpy_v, if_pos (by omega), show 7 + (k - 0) = k + 7 by omega]
    have fc0 : fr [905] [] [902] c (sA (sI c 905 15) 902 (va_cpy (c.2.2.1 902) (c.2.2.1 902) 7 0 105)) := (fr.sI (by decide)).tr (fr.sA (by decide))
    have fm0 : fr [8] [] [6, 7] m (sI m2 8 (Int32.ofNat 15)) := ((a2.up (by decide) (by decide) (by decide)).tr (b2.up (by decide) (by decide) (by decide))).tr (fr.sI (by decide))
    have q902 : (sA (sI c 905 15) 902 (va_cpy (c.2.2.1 902) (c.2.2.1 902) 7 0 105)).2.2.1 902 = va_cpy (c.2.2.1 902) (c.2.2.1 902) 7 0 105 := rfl
    have q905 : (sA (sI c 905 15) 902 (va_cpy (c.2.2.1 902) (c.2.2.1 902) 7 0 105)).1 905 = Int32.ofNat 15 := rfl
    have hl0 : Rl 0 (sA (sI c 905 15) 902 (va_cpy (c.2.2.1 902) (c.2.2.1 902) 7 0 105)) ((sI m2 8 (Int32.ofNat 15)).2.2.1 3) := by
      rw [f3]; exact h
    generalize sA (sI c 905 15) 902 (va_cpy (c.2.2.1 902) (c.2.2.1 902) 7 0 105) = c1 at fc0 q902 q905 hl0 ⊢
    have f8 : (sI m2 8 (Int32.ofNat 15)).1 8 = Int32.ofNat 15 := rfl
    generalize sI m2 8 (Int32.ofNat 15) = m3 at f3 f6 f6b f7 f8 fm0 hl0 ⊢
    have sn1 : ∀ j i, j ≤ 15 → i < 25 → sn m3 15 j i = sn m 16 (j + 1) i := by
      intro j i hj hi
      unfold sn
      rw [f3]
      by_cases z : j = 15
      · rw [if_pos z, if_pos (by omega)]
      · rw [if_neg z, if_neg (by omega), f6 _ (by omega), show 25 * j + i + 25 = 25 * (j + 1) + i by omega]
    have hu1 : RuN 15 c1 m3 := by
      refine ⟨by omega, q905, f8, fun j hj => ?_⟩
      obtain ⟨⟨F, z1, z2, z3, z4⟩, z5, z6⟩ := u3 (j + 1) (by omega)
      rw [f3, q902]
      refine ⟨⟨F, z1, z2, ?_, fun i hi => ?_⟩, ?_, fun i hi => ?_⟩
      · rw [cL _ (by omega), ← z3, show 7 * j + 1 + 7 = 7 * (j + 1) + 1 by omega]
      · rw [sn1 j i (by omega) hi, z4 i hi]
        unfold pt
        rw [cL (7 * j + 6) (by omega), cL (7 * j + 5) (by omega), cL (7 * j + 4) (by omega), cL (7 * j + 3) (by omega), cL (7 * j + 2) (by omega), sn1 (j + 1) i (by omega) hi, show 7 * j + 6 + 7 = 7 * (j + 1) + 6 by omega, show 7 * j + 5 + 7 = 7 * (j + 1) + 5 by omega, show 7 * j + 4 + 7 = 7 * (j + 1) + 4 by omega, show 7 * j + 3 + 7 = 7 * (j + 1) + 3 by omega, show 7 * j + 2 + 7 = 7 * (j + 1) + 2 by omega]
      · rw [cL _ (by omega), f7 j hj, show 7 * j + 7 = 7 * (j + 1) by omega]; exact z5
      · rw [sn1 j i (by omega) hi]; exact z6 i hi
    obtain ⟨c', m', p1, p2, p3, p4, p5⟩ := push_both (fz := fz) hl0 hu1 (by omega) hf (by rw [f3]; exact hf2) hd
    exact ⟨15, c', m', p1, p2, p3, fc0.tr p4, fm0.tr p5.1, fun j hj => by rw [p5.2 j hj]; exact f6b j hj⟩
  · rw [if_pos (show Int32.ofNat n < 16 from (oN_lt (b := 16) (by omega) (by decide)).mpr (by omega)), if_neg (show ¬ (Int32.ofNat n = 16) from fun q => e ((oN_eq (b := 16) (by omega) (by decide)).mp q))]
    obtain ⟨c', m', p1, p2, p3, p4, p5⟩ := push_both (fz := fz) h hu (by omega) hf hf2 hd
    exact ⟨n, c', m', p1, p2, p3, p4, p5⟩
/-- a deed at that fort: what it may change keeps the log -/
theorem RuT.mut {n f g : Nat} {c' m' : St} (h : RuT n f c m) (hg : m.2.2.1 3 (31 + f) = Int32.ofNat g) (hg4 : g < 4) (hf : f < 6) (c1 : c'.1 905 = c.1 905) (c2 : c'.2.2.1 902 = c.2.2.1 902) (m1 : m'.1 8 = m.1 8) (m6 : m'.2.2.1 6 = m.2.2.1 6) (m7 : m'.2.2.1 7 = m.2.2.1 7) (e : ∀ k, k < 37 → k ≠ 6 → k ≠ 9 + g → k ≠ 13 + f → k ≠ 19 + f → k ≠ 25 + f → m'.2.2.1 3 k = m.2.2.1 3 k) : Ru c' m' := by
  obtain ⟨⟨u0, u1, u2, u3⟩, ht⟩ := h
  have sn1 : ∀ j i, j ≤ n → sn m' (n + 1) j i = sn m (n + 1) j i := by
    intro j i hj
    unfold sn
    rw [if_neg (by omega), if_neg (by omega), m6]
  refine ⟨n + 1, u0, c1.trans u1, m1.trans u2, fun j hj => ?_⟩
  obtain ⟨⟨F, a1, a2, a3, a4⟩, a5, a6⟩ := u3 j hj
  rw [c2, m7]
  refine ⟨⟨F, a1, ?_, a3, fun i hi => ?_⟩, a5, fun i hi => ?_⟩
  · rw [e 0 (by omega) (by omega) (by omega) (by omega) (by omega) (by omega)]; exact a2
  · rw [sn1 j i (by omega), e (31 + F) (by omega) (by omega) (by omega) (by omega) (by omega) (by omega), a4 i hi]
    by_cases z : j = n
    · subst z
      have eF : F = f := (oN_eq (by omega) (by omega)).mp (a3.symm.trans ht)
      subst eF
      rw [hg, oN_tn (by omega)]
      unfold pt
      by_cases i0 : i = 0
      · rw [if_pos i0, if_pos i0]
      rw [if_neg i0, if_neg i0]
      by_cases i1 : i = 3 + g
      · rw [if_pos i1, if_pos i1]
      rw [if_neg i1, if_neg i1]
      by_cases i2 : i = 7 + F
      · rw [if_pos i2, if_pos i2]
      rw [if_neg i2, if_neg i2]
      by_cases i3 : i = 13 + F
      · rw [if_pos i3, if_pos i3]
      rw [if_neg i3, if_neg i3]
      by_cases i4 : i = 19 + F
      · rw [if_pos i4, if_pos i4]
      rw [if_neg i4, if_neg i4]
      unfold sn
      rw [if_pos rfl, if_pos rfl, e (6 + i) (by omega) (by omega) (by omega) (by omega) (by omega) (by omega)]
    · rw [pt_e (S' := sn m' (n + 1) (j + 1)) (S := sn m (n + 1) (j + 1)) (sn1 (j + 1) i (by omega))]
  · rw [sn1 j i (by omega)]; exact a6 i hi
end Rem
