/-! T2, calls that only ask: of, asks, holds -/
/-- the same answer, and nothing changed but what asking writes -/
def Sm {α : Type} (c m : St) (x y : Option (α × St)) : Prop := ∃ v c' m', x = some (v, c') ∧ y = some (v, m') ∧ cq c c' ∧ mq m m'
theorem Sm.rf {α : Type} {c m : St} {v : α} : Sm c m (some (v, c)) (some (v, m)) := ⟨v, c, m, rfl, rfl, cq.rf, mq.rf⟩
theorem Sm.tr {α : Type} {c m c1 m1 : St} {x y : Option (α × St)} (h : cq c c1) (k : mq m m1) (q : Sm c1 m1 x y) : Sm c m x y := by
  obtain ⟨v, c', m', e1, e2, e3, e4⟩ := q
  exact ⟨v, c', m', e1, e2, h.tr e3, k.tr e4⟩
theorem n64_1 {n : Nat} (h : n ≤ 6) : (Int32.ofNat n).toInt64 - 1 = (Int32.ofNat n - 1).toInt64 := by
  have : n = 0 ∨ n = 1 ∨ n = 2 ∨ n = 3 ∨ n = 4 ∨ n = 5 ∨ n = 6 := by omega
  rcases this with e | e | e | e | e | e | e <;> subst e <;> rfl
theorem has_both {fz : List FP} {c m : St} (a : Int32) (h : Rq fz c m) : ∃ v, fX6_has a fz c = some (v, c) ∧ fX12_isFort a m = some (v, m) ∧ (v = 0 ∨ (v = 1 ∧ ∃ f, f < 6 ∧ f < (m.2.2.1 3 0).toNatClampNeg ∧ a = Int32.ofNat f)) := by
  obtain ⟨h0, n, hn, en⟩ := h.1.1
  have h108 : c.1 108 = Int32.ofNat n := h0.trans en
  refine ⟨if (0 : Int32) ≤ a ∧ a ≤ Int32.ofNat n - 1 then 1 else 0, ?_, ?_, ?_⟩
  · unfold fX6_has
    rw [c_within, bs_v, h108, gb_ite]
  · unfold fX12_isFort
    have e0 : m.2.2.1 3 (0 : Int32).toNatClampNeg = Int32.ofNat n := en
    rw [e0, n64_1 hn, show (0 : Int64) = (0 : Int32).toInt64 from rfl, m_inI, bs_v, gb_ite]
  · by_cases q : (0 : Int32) ≤ a ∧ a ≤ Int32.ofNat n - 1
    · rw [if_pos q]
      refine Or.inr ⟨rfl, ?_⟩
      by_cases n0 : n = 0
      · exfalso
        subst n0
        have h1 := Int32.le_iff_toInt_le.mp q.1
        have h2 := Int32.le_iff_toInt_le.mp q.2
        have e1 : (0 : Int32).toInt = 0 := by decide
        have e2 : (Int32.ofNat 0 - 1).toInt = -1 := by decide
        omega
      · have e1 : Int32.ofNat n - 1 = Int32.ofNat (n - 1) := by rw [show (1 : Int32) = Int32.ofNat 1 from rfl, oN_sub (by omega)]
        rw [e1] at q
        obtain ⟨f, hf, ef⟩ := oN_exb q.1 (by omega) q.2
        refine ⟨f, by omega, ?_, ef⟩
        rw [en, oN_tn (by omega)]; omega
    · rw [if_neg q]; exact Or.inl rfl
theorem m_in32 (a : Int32) (lo hi : Int32) (l2 h2 : Int64) (e1 : l2 = lo.toInt64) (e2 : h2 = hi.toInt64) : fX12_in a.toInt64 l2 h2 = some (if lo ≤ a ∧ a ≤ hi then 1 else 0) := by
  rw [e1, e2, m_inI]
theorem one_ne0 : ¬ ((1 : Int32) = 0) := by decide
section Query
variable {fz : List FP} {c m : St}
theorem of_both (a b : Int32) (h : Rq fz c m) : Sm c (sI m 0 0) (fX11_of a b fz c) (fX12_of a b m) := by
  have h' : Rq fz c (sI m 0 0) := h
  obtain ⟨v, e1, e2, hv⟩ := has_both a h'
  unfold fX11_of fX12_of
  rw [e1, bd_v, lt_v, e2, bd_v]
  rcases hv with hv | ⟨hv, f, hf, -, ea⟩
  · rw [if_pos hv, if_pos hv]; exact Sm.rf
  · subst ea
    subst hv
    rw [if_neg one_ne0, if_neg one_ne0]
    obtain ⟨-, -, -, -, hfame, hmen, hsh, htk, hgen, -, -⟩ := h.1
    have q200 : c.2.2.1 200 f = (sI m 0 0).2.2.1 3 (13 + f) := (hmen f hf).1
    have q201 : c.2.2.1 201 f = (sI m 0 0).2.2.1 3 (19 + f) := (hsh f hf).1
    have q202 : c.2.2.1 202 f = (sI m 0 0).2.2.1 3 (25 + f) := (htk f hf).1
    have q103 : c.2.2.1 103 f = (sI m 0 0).2.2.1 3 (31 + f) := (hgen f hf).1
    have e13 : (13 : Int32) + Int32.ofNat f = Int32.ofNat (13 + f) := oN_add 13 f
    have e19 : (19 : Int32) + Int32.ofNat f = Int32.ofNat (19 + f) := oN_add 19 f
    have e25 : (25 : Int32) + Int32.ofNat f = Int32.ofNat (25 + f) := oN_add 25 f
    have e31 : (31 : Int32) + Int32.ofNat f = Int32.ofNat (31 + f) := oN_add 31 f
    obtain ⟨bb, hb, b1, b2, -, -⟩ := bel_both ((sI m 0 0).2.2.1 3 (19 + f)) h' hf
    rw [e13, e19, e25, e31]
    by_cases c0 : b = 0
    · rw [if_pos c0, if_pos c0, gi_N hf (by decide), gi_N (by omega) (by decide), oN_tn (by omega), oN_tn (by omega), q200]; exact Sm.rf
    rw [if_neg c0, if_neg c0]
    by_cases c1 : b = 1
    · rw [if_pos c1, if_pos c1, gi_N hf (by decide), gi_N (by omega) (by decide), oN_tn (by omega), oN_tn (by omega), q103]; exact Sm.rf
    rw [if_neg c1, if_neg c1]
    by_cases c2 : b = 2
    · rw [if_pos c2, if_pos c2, gi_N hf (by decide), gi_N (by omega) (by decide), oN_tn (by omega), oN_tn (by omega), q201]; exact Sm.rf
    rw [if_neg c2, if_neg c2]
    by_cases c3 : b = 3
    · rw [if_pos c3, if_pos c3, gi_N hf (by decide), gi_N (by omega) (by decide), oN_tn (by omega), oN_tn (by omega), q202]; exact Sm.rf
    rw [if_neg c3, if_neg c3]
    by_cases c4 : b = 4
    · rw [if_pos c4, if_pos c4, gi_N hf (by decide), gi_N (by omega) (by decide), oN_tn (by omega), oN_tn (by omega), q201, b1, bd_v, b2, bd_v, o32 (by omega)]; exact Sm.rf
    rw [if_neg c4, if_neg c4]; exact Sm.rf
theorem wsm_hour {a : Int32} (h : 1 ≤ a ∧ a ≤ 99) : wsm a := by
  have h0 : (0 : Int32) ≤ a := Int32.le_trans (by decide) h.1
  obtain ⟨n, hn, en⟩ := oN_exb (b := 99) h0 (by decide) h.2
  exact nb.sm ⟨n, hn, en⟩ (by decide)
theorem c_bit {v : Int32} (h : v = 0 ∨ v = 1) : fX11_bit v = some v := by
  rcases h with e | e <;> subst e <;> rfl
theorem asks_both (a b k : Int32) (h : Rq fz c m) : Sm c (sI m 0 0) (fX11_asks a b k fz c) (fX12_asks a b k m) := by
  have h' : Rq fz c (sI m 0 0) := h
  obtain ⟨v, e1, e2, hv⟩ := has_both a h'
  unfold fX11_asks fX12_asks
  rw [e1, bd_v, lt_v, e2, bd_v]
  rcases hv with hv | ⟨hv, f, hf, -, ea⟩
  · rw [if_pos hv, if_pos hv]; exact Sm.rf
  subst ea
  subst hv
  rw [if_neg one_ne0, if_neg one_ne0, c_within, bs_v, m_in32 k 0 3 0 3 rfl rfl, bs_v]
  by_cases hk : (0 : Int32) ≤ k ∧ k ≤ 3
  · rw [if_pos hk, if_neg one_ne0, if_neg one_ne0]
    obtain ⟨n, hn, en⟩ := oN_exb (b := 3) hk.1 (by decide) hk.2
    have q201 : c.2.2.1 201 f = (sI m 0 0).2.2.1 3 (19 + f) := (h.1.2.2.2.2.2.2.1 f hf).1
    have e19 : (19 : Int32) + Int32.ofNat f = Int32.ofNat (19 + f) := oN_add 19 f
    have hn4 : n = 0 ∨ n = 1 ∨ n = 2 ∨ n = 3 := by omega
    unfold fX12_asks_b54 fX12_isOne
    rw [e19]
    rcases hn4 with e | e | e | e <;> subst e <;> subst en
    · rw [if_neg (show ¬ ((1 : Int32) < Int32.ofNat 0) by decide), if_neg (show ¬ ((2 : Int32) ≤ Int32.ofNat 0) by decide), c_within, bs_v, m_in32 b 0 5 0 5 rfl rfl, bs_v, gb_ite, bs_v]
      by_cases hb : (0 : Int32) ≤ b ∧ b ≤ 5
      · rw [if_pos hb, if_neg one_ne0, if_neg one_ne0, if_pos (show Int32.ofNat 0 = 0 from rfl), if_pos (show Int32.ofNat 0 = 0 from rfl)]
        obtain ⟨s, hs, es⟩ := oN_exb (b := 5) hb.1 (by decide) hb.2
        subst es
        obtain ⟨v, c', m', k1, k2, k3, k4, -⟩ := pays_both (s := s) h' hf (by omega)
        rw [k1, bd_v, k2, bd_v]
        exact ⟨v, c', m', rfl, rfl, k3, k4⟩
      · rw [if_neg hb, if_pos rfl, if_pos rfl]; exact Sm.rf
    · rw [if_neg (show ¬ ((1 : Int32) < Int32.ofNat 1) by decide), if_neg (show ¬ ((2 : Int32) ≤ Int32.ofNat 1) by decide), c_within, bs_v, m_in32 b 0 5 0 5 rfl rfl, bs_v, gb_ite, bs_v]
      by_cases hb : (0 : Int32) ≤ b ∧ b ≤ 5
      · rw [if_pos hb, if_neg one_ne0, if_neg one_ne0, if_neg (show ¬ (Int32.ofNat 1 = 0) by decide), if_neg (show ¬ (Int32.ofNat 1 = 0) by decide), if_pos (show Int32.ofNat 1 = 1 from rfl)]
        obtain ⟨s, hs, es⟩ := oN_exb (b := 5) hb.1 (by decide) hb.2
        subst es
        obtain ⟨v, c', m', k1, k2, k3, k4, k5⟩ := bars_both (s := s) h' hf (by omega)
        rw [k1, bd_v, k2, bd_v, c_bit k5, bs_v]
        refine ⟨v, c', m', rfl, ?_, k3, k4⟩
        rcases k5 with e | e <;> subst e <;> rfl
      · rw [if_neg hb, if_pos rfl, if_pos rfl]; exact Sm.rf
    · rw [if_pos (show ((1 : Int32) < Int32.ofNat 2) by decide), if_pos (show ((2 : Int32) ≤ Int32.ofNat 2) by decide), c_within, bs_v, m_in32 b 1 99 1 99 rfl rfl, bs_v]
      by_cases hb : (1 : Int32) ≤ b ∧ b ≤ 99
      · rw [if_pos hb, if_neg one_ne0, if_neg one_ne0, if_pos (show Int32.ofNat 2 = 2 from rfl), if_neg (show ¬ (Int32.ofNat 2 = 0) by decide), if_neg (show ¬ (Int32.ofNat 2 = 1) by decide), if_pos (show Int32.ofNat 2 = 2 from rfl)]
        obtain ⟨v, c', m', k1, k2, k3, k4, -⟩ := turnsAt_both b h' hf (wsm_hour hb)
        rw [k1, bd_v, gi_N (by omega) (by decide), oN_tn (by omega), k2, bd_v]
        exact ⟨v, c', m', rfl, rfl, k3, k4⟩
      · rw [if_neg hb, if_pos rfl, if_pos rfl]; exact Sm.rf
    · rw [if_pos (show ((1 : Int32) < Int32.ofNat 3) by decide), if_pos (show ((2 : Int32) ≤ Int32.ofNat 3) by decide), c_within, bs_v, m_in32 b 1 99 1 99 rfl rfl, bs_v]
      by_cases hb : (1 : Int32) ≤ b ∧ b ≤ 99
      · rw [if_pos hb, if_neg one_ne0, if_neg one_ne0, if_neg (show ¬ (Int32.ofNat 3 = 2) by decide), if_neg (show ¬ (Int32.ofNat 3 = 0) by decide), if_neg (show ¬ (Int32.ofNat 3 = 1) by decide), if_neg (show ¬ (Int32.ofNat 3 = 2) by decide)]
        obtain ⟨v, c', m', k1, k2, k3, k4, k5⟩ := turns_both ((sI m 0 0).2.2.1 3 (19 + f)) b h' hf (wsm_hour hb)
        rw [gi_N hf (by decide), oN_tn (by omega), q201, k1, bd_v, gi_N (by omega) (by decide), oN_tn (by omega), k2, bd_v, c_bit k5, bs_v]
        refine ⟨v, c', m', rfl, ?_, k3, k4⟩
        rcases k5 with e | e <;> subst e <;> rfl
      · rw [if_neg hb, if_pos rfl, if_pos rfl]; exact Sm.rf
  · rw [if_neg hk, if_pos rfl, if_pos rfl]; exact Sm.rf
end Query
