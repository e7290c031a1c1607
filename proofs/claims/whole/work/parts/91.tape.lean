/-! T2, the tape: feed, end -/
theorem byte_nb (y : Int32) : nb 255 (y &&& 255) := by
  refine ⟨(y.toBitVec &&& 255#32).toNat, ?_, ?_⟩
  · rw [BitVec.toNat_and]; exact Nat.and_le_right
  · apply Int32.toBitVec_inj.mp
    show y.toBitVec &&& 255#32 = BitVec.ofNat 32 (y.toBitVec &&& 255#32).toNat
    rw [BitVec.ofNat_toNat, BitVec.setWidth_eq]
def RtL (L : Nat) (c m : St) : Prop := L ≤ 400 ∧ c.1 504 = Int32.ofNat L ∧ m.1 13 = Int32.ofNat L ∧ ∀ i, i < 400 → c.2.2.1 500 i = m.2.2.1 12 i ∧ nb 255 (m.2.2.1 12 i)
/-- the tapes alike -/
def Rt (c m : St) : Prop := ∃ L, RtL L c m
theorem ap1 {fz : List FP} {c m : St} {L : Nat} {x w : Int32} (h : RtL L c m) (hL : L < 400) (hw : ¬ (w < 0)) : ∃ c1 m1, (∀ kk, fX10_append_b3 fz kk x w c = kk x (w + -8) c1) ∧ (∀ kk, fX12_four_b3 kk x w m = kk x (w + -8) m1) ∧ RtL (L + 1) c1 m1 ∧ fr [504] [] [500] c c1 ∧ fr [13] [] [12] m m1 := by
  obtain ⟨-, h1, h2, h3⟩ := h
  refine ⟨sI (sA c 500 (upd (c.2.2.1 500) L ((x >>> (w &&& 31)) &&& 255))) 504 (Int32.ofNat (L + 1)), sI (sA m 12 (upd (m.2.2.1 12) L ((x >>> (w &&& 31)) &&& 255))) 13 (Int32.ofNat (L + 1)), fun kk => ?_, fun kk => ?_, ⟨by omega, rfl, rfl, fun i hi => ?_⟩, (fr.sA (by decide)).tr (fr.sI (by decide)), (fr.sA (by decide)).tr (fr.sI (by decide))⟩
  · have n4 : ¬ ((400 : Int32) ≤ Int32.ofNat L) := fun q => by have := (oN_le (a := 400) (by decide) (by omega)).mp q; omega
    have e1 : ∀ g, (sA c 500 g).1 504 = Int32.ofNat L := fun _ => h1
    unfold fX10_append_b3
    rw [if_neg hw, h1, if_neg n4, gi_N hL (by decide), lt_v, lt_v, lt_v, e1, oN_s, oN_tn (by omega)]
  · have e1 : ∀ g, (sA m 12 g).1 13 = Int32.ofNat L := fun _ => h2
    unfold fX12_four_b3
    rw [if_neg hw, h2, gi_N hL (by decide), lt_v, lt_v, lt_v, e1, oN_s, oN_tn (by omega)]
  · show upd (c.2.2.1 500) L _ i = upd (m.2.2.1 12) L _ i ∧ nb 255 (upd (m.2.2.1 12) L _ i)
    rw [upd_v, upd_v]
    by_cases q : i = L
    · rw [if_pos q, if_pos q]; exact ⟨rfl, byte_nb _⟩
    · rw [if_neg q, if_neg q]; exact h3 i (by omega)
theorem app_both {fz : List FP} {c m : St} {L : Nat} {x : Int32} (h : RtL L c m) (hL : L + 4 ≤ 400) : ∃ c1 m1, fX10_append x fz c = some ((), c1) ∧ fX12_four x m = some ((), m1) ∧ RtL (L + 4) c1 m1 ∧ fr [504] [] [500] c c1 ∧ fr [13] [] [12] m m1 := by
  obtain ⟨c1, m1, a1, b1, h1, f1, g1⟩ := ap1 (fz := fz) (x := x) (w := 24) h (by omega) (by decide)
  obtain ⟨c2, m2, a2, b2, h2, f2, g2⟩ := ap1 (fz := fz) (x := x) (w := 24 + -8) h1 (by omega) (by decide)
  obtain ⟨c3, m3, a3, b3, h3, f3, g3⟩ := ap1 (fz := fz) (x := x) (w := 24 + -8 + -8) h2 (by omega) (by decide)
  obtain ⟨c4, m4, a4, b4, h4, f4, g4⟩ := ap1 (fz := fz) (x := x) (w := 24 + -8 + -8 + -8) h3 (by omega) (by decide)
  refine ⟨c4, m4, ?_, ?_, h4, ((f1.tr f2).tr f3).tr f4, ((g1.tr g2).tr g3).tr g4⟩
  · unfold fX10_append
    rw [show (6000 : Nat) = 5995 + 1 + 1 + 1 + 1 + 1 from rfl, lp_s, a1, lp_s, a2, lp_s, a3, lp_s, a4, lp_s]
    generalize lp (fun _ _ _ => none) (fX10_append_b3 fz) 5995 = kk
    unfold fX10_append_b3 fX10_append_b49
    rw [if_pos (show (24 : Int32) + -8 + -8 + -8 + -8 < 0 by decide)]
  · unfold fX12_four
    rw [show (6000 : Nat) = 5995 + 1 + 1 + 1 + 1 + 1 from rfl, lp_s, b1, lp_s, b2, lp_s, b3, lp_s, b4, lp_s]
    generalize lp (fun _ _ _ => none) fX12_four_b3 5995 = kk
    unfold fX12_four_b3
    rw [if_pos (show (24 : Int32) + -8 + -8 + -8 + -8 < 0 by decide)]
theorem feed_call {fz : List FP} {c m : St} (x1 x2 x3 x4 x5 : Int32) (h : Rt c m) : ∃ v c' m', fX11_feed x1 x2 x3 x4 x5 fz c = some (v, c') ∧ fX12_feed x1 x2 x3 x4 x5 m = some (v, m') ∧ Rt c' m' ∧ fr [504] [] [500] c c' ∧ fr [0, 13] [] [12] m m' := by
  obtain ⟨L, h⟩ := h
  have h0 : RtL L c (sI m 0 0) := h
  have f0 : fr [0, 13] [] [12] m (sI m 0 0) := fr.sI (by decide)
  have up : ∀ {a b : St}, fr [13] [] [12] a b → fr [0, 13] [] [12] a b := fun q => q.up (by decide) (by decide) (by decide)
  have e13 : (sI m 0 0).1 13 = Int32.ofNat L := h.2.2.1
  have e20 : Int32.ofNat L + (20 : Int32) = Int32.ofNat (L + 20) := oN_add L 20
  have hL := h.1
  unfold fX11_feed fX12_feed
  rw [lt_v (sI m 0 0), h.2.1, e13, e20]
  by_cases q : L + 20 ≤ 400
  · have q' : Int32.ofNat (L + 20) ≤ (400 : Int32) := (oN_le (b := 400) (by omega) (by decide)).mpr q
    rw [if_pos q', if_pos q']
    obtain ⟨c1, m1, a1, b1, h1, f1, g1⟩ := app_both (fz := fz) (x := x1) h0 (by omega)
    obtain ⟨c2, m2, a2, b2, h2, f2, g2⟩ := app_both (fz := fz) (x := x2) h1 (by omega)
    obtain ⟨c3, m3, a3, b3, h3, f3, g3⟩ := app_both (fz := fz) (x := x3) h2 (by omega)
    obtain ⟨c4, m4, a4, b4, h4, f4, g4⟩ := app_both (fz := fz) (x := x4) h3 (by omega)
    obtain ⟨c5, m5, a5, b5, h5, f5, g5⟩ := app_both (fz := fz) (x := x5) h4 (by omega)
    rw [a1, bd_v, a2, bd_v, a3, bd_v, a4, bd_v, a5, bd_v, b1, bd_v, b2, bd_v, b3, bd_v, b4, bd_v, b5, bd_v, h5.2.1, h5.2.2.1]
    exact ⟨_, c5, m5, rfl, rfl, ⟨_, h5⟩, (((f1.tr f2).tr f3).tr f4).tr f5, ((((f0.tr (up g1)).tr (up g2)).tr (up g3)).tr (up g4)).tr (up g5)⟩
  · have q' : ¬ (Int32.ofNat (L + 20) ≤ (400 : Int32)) := fun w => q ((oN_le (b := 400) (by omega) (by decide)).mp w)
    rw [if_neg q', if_neg q']
    exact ⟨_, c, sI m 0 0, rfl, rfl, ⟨L, h0⟩, fr.rf, f0⟩
theorem end_call {fz : List FP} {c m : St} (a : Int32) (h : Rt c m) : ∃ v c' m', fX11_end a fz c = some (v, c') ∧ fX12_end a m = some (v, m') ∧ Rt c' m' ∧ fr [504] [] [500] c c' ∧ fr [0, 13] [] [12] m m' := by
  obtain ⟨L, h⟩ := h
  have h0 : RtL L c (sI m 0 0) := h
  have f0 : fr [0, 13] [] [12] m (sI m 0 0) := fr.sI (by decide)
  have e13 : (sI m 0 0).1 13 = Int32.ofNat L := h.2.2.1
  have hL := h.1
  unfold fX11_end fX12_end fX12_end_b17
  rw [lt_v (sI m 0 0), h.2.1, e13, c_within, bs_v]
  by_cases q : (0 : Int32) ≤ a ∧ a ≤ Int32.ofNat L
  · rw [if_pos q, if_neg one_ne0, if_neg (Int32.not_lt.mpr q.1), if_pos q.2, lt_v, lt_v]
    obtain ⟨n, hn, en⟩ := oN_exb q.1 (by omega) q.2
    subst en
    exact ⟨_, _, _, rfl, rfl, ⟨n, by omega, rfl, rfl, fun i hi => h.2.2.2 i (by omega)⟩, fr.sI (by decide), f0.tr (fr.sI (by decide))⟩
  · rw [if_neg q, if_pos rfl]
    refine ⟨-1, c, sI m 0 0, rfl, ?_, ⟨L, h0⟩, fr.rf, f0⟩
    by_cases w : a < 0
    · rw [if_pos w]
    · rw [if_neg w, if_neg (fun z => q ⟨Int32.not_lt.mp w, z⟩)]
