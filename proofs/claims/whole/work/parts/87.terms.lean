/-! T2, calls that write the land: terms -/
theorem m_change {k : Nat} {x : Int32} {X : St} (hk : k < 5550) : fX12_change (Int32.ofNat k) x X = some (X.2.2.1 3 k, sI (sA X 3 (upd (X.2.2.1 3) k x)) 1 0) := by
  unfold fX12_change
  simp only [lt_v, gi_N hk (show 5550 < 2147483648 by decide), oN_tn (show k < 2147483648 by omega)]
theorem c_close {fz : List FP} {X : St} : fX2_close fz X = some ((), sI X 905 0) := rfl
theorem terms_call {fz : List FP} {c m : St} (a v : Int32) (h : Rq fz c m) (hs : Rs c m) : Ok fz c m (fX11_terms a v fz c) (fX12_terms a v m) := by
  have href := ok_refuse (n := 1) h hs (by decide) (by decide)
  unfold fX11_terms fX12_terms
  rw [lt_v (sI m 0 0)]
  by_cases c0 : a = 0
  · rw [if_pos c0, if_pos c0]
    subst c0
    unfold fX11_terms_b23
    rw [c_within, bs_v, if_pos (show (0 : Int32) ≤ 0 ∧ (0 : Int32) ≤ 2 by decide), if_neg one_ne0, c_within, bs_v, m_in32 v 0 999 0 999 rfl rfl, bs_v]
    by_cases hv : ¬ ((0 : Int32) ≤ v ∧ v ≤ 999)
    · rw [if_neg hv, if_pos rfl]; exact href
    replace hv := Decidable.of_not_not hv
    rw [if_pos hv, if_neg one_ne0]
    have hvb : nb 999 v := oN_exb (b := 999) hv.1 (by decide) hv.2
    obtain ⟨q1, n, hn, en⟩ := h.1.2.1
    have q204 : c.1 204 = m.2.2.1 3 6 := q1
    have hnn : (0 : Int32) ≤ m.2.2.1 3 6 := by rw [en]; exact oN_nn (by omega)
    have ht : fX6_term 0 fz c = some (c.1 204, c) := rfl
    have hw : fX6_setTerm 0 v fz c = some ((), sI c 204 v) := rfl
    have hc : fX12_terms_b60 0 v 1 (sI m 0 0) = some (m.2.2.1 3 6, sI (sA (sI (sI m 0 0) 8 0) 3 (upd (m.2.2.1 3) 6 v)) 1 0) := by
      unfold fX12_terms_b60
      rw [if_neg one_ne0, lt_v, show (6 : Int32) + 0 = Int32.ofNat 6 from rfl, m_change (by decide), bd_v]
      rfl
    rw [ht, bd_v, hw, bd_v, c_close, bd_v, q204, settle_nn hnn, bd_v, hc]
    have hu : ∀ k, k ≠ 6 → upd (m.2.2.1 3) 6 v k = m.2.2.1 3 k := fun k hk => by rw [upd_v, if_neg hk]
    refine ⟨_, _, _, rfl, rfl, ⟨?_, ?_, h.2.2⟩, ⟨rfl, hs.2⟩, ?_, ?_, ?_, Or.inr ⟨rfl, rfl⟩⟩
    · exact Rl.i204 h.1 hvb
    · exact Rw.u h.2.1 (by omega) rfl rfl rfl
    · exact ((fr.sI (by decide)).tr (fr.sI (by decide))).tr (fr.sI (by decide))
    · exact (((fr.sI (by decide)).tr (fr.sI (by decide))).tr (fr.sA (by decide))).tr (fr.sI (by decide))
    · intro k hk
      exact hu k (by omega)
  by_cases c1 : a = 1
  · rw [if_neg c0, if_pos c1, if_neg c0, if_pos c1]
    subst c1
    unfold fX11_terms_b23
    rw [c_within, bs_v, if_pos (show (0 : Int32) ≤ 1 ∧ (1 : Int32) ≤ 2 by decide), if_neg one_ne0, c_within, bs_v, m_in32 v 0 1000 0 1000 rfl rfl, bs_v]
    by_cases hv : ¬ ((0 : Int32) ≤ v ∧ v ≤ 1000)
    · rw [if_neg hv, if_pos rfl]; exact href
    replace hv := Decidable.of_not_not hv
    rw [if_pos hv, if_neg one_ne0]
    have hvb : nb 1000 v := oN_exb (b := 1000) hv.1 (by decide) hv.2
    obtain ⟨q1, n, hn, en⟩ := h.1.2.2.1
    have q109 : c.1 109 = m.2.2.1 3 7 := q1
    have hnn : (0 : Int32) ≤ m.2.2.1 3 7 := by rw [en]; exact oN_nn (by omega)
    have ht : fX6_term 1 fz c = some (c.1 109, c) := rfl
    have hw : fX6_setTerm 1 v fz c = some ((), sI c 109 v) := rfl
    have hc : fX12_terms_b60 1 v 1 (sI m 0 0) = some (m.2.2.1 3 7, sI (sA (sI (sI m 0 0) 8 0) 3 (upd (m.2.2.1 3) 7 v)) 1 0) := by
      unfold fX12_terms_b60
      rw [if_neg one_ne0, lt_v, show (6 : Int32) + 1 = Int32.ofNat 7 from rfl, m_change (by decide), bd_v]
      rfl
    rw [ht, bd_v, hw, bd_v, c_close, bd_v, q109, settle_nn hnn, bd_v, hc]
    have hu : ∀ k, k ≠ 7 → upd (m.2.2.1 3) 7 v k = m.2.2.1 3 k := fun k hk => by rw [upd_v, if_neg hk]
    refine ⟨_, _, _, rfl, rfl, ⟨?_, ?_, h.2.2⟩, ⟨rfl, hs.2⟩, ?_, ?_, ?_, Or.inr ⟨rfl, rfl⟩⟩
    · exact Rl.i109 h.1 hvb
    · exact Rw.u h.2.1 (by omega) rfl rfl rfl
    · exact ((fr.sI (by decide)).tr (fr.sI (by decide))).tr (fr.sI (by decide))
    · exact (((fr.sI (by decide)).tr (fr.sI (by decide))).tr (fr.sA (by decide))).tr (fr.sI (by decide))
    · intro k hk
      exact hu k (by omega)
  by_cases c2 : a = 2
  · rw [if_neg c0, if_neg c1, if_neg c0, if_neg c1, if_pos c2]
    subst c2
    unfold fX11_terms_b23
    rw [c_within, bs_v, if_pos (show (0 : Int32) ≤ 2 ∧ (2 : Int32) ≤ 2 by decide), if_neg one_ne0, c_within, bs_v, m_in32 v 0 9 0 9 rfl rfl, bs_v]
    by_cases hv : ¬ ((0 : Int32) ≤ v ∧ v ≤ 9)
    · rw [if_neg hv, if_pos rfl]; rw [if_pos rfl]; exact href
    replace hv := Decidable.of_not_not hv
    rw [if_pos hv, if_neg one_ne0, if_neg one_ne0]
    have hvb : nb 9 v := oN_exb (b := 9) hv.1 (by decide) hv.2
    obtain ⟨q1, n, hn, en⟩ := h.1.2.2.2.1
    have q110 : c.1 110 = m.2.2.1 3 8 := q1
    have hnn : (0 : Int32) ≤ m.2.2.1 3 8 := by rw [en]; exact oN_nn (by omega)
    have ht : fX6_term 2 fz c = some (c.1 110, c) := rfl
    have hw : fX6_setTerm 2 v fz c = some ((), sI c 110 v) := rfl
    have hc : fX12_terms_b60 2 v 1 (sI m 0 0) = some (m.2.2.1 3 8, sI (sA (sI (sI m 0 0) 8 0) 3 (upd (m.2.2.1 3) 8 v)) 1 0) := by
      unfold fX12_terms_b60
      rw [if_neg one_ne0, lt_v, show (6 : Int32) + 2 = Int32.ofNat 8 from rfl, m_change (by decide), bd_v]
      rfl
    rw [ht, bd_v, hw, bd_v, c_close, bd_v, q110, settle_nn hnn, bd_v, hc]
    have hu : ∀ k, k ≠ 8 → upd (m.2.2.1 3) 8 v k = m.2.2.1 3 k := fun k hk => by rw [upd_v, if_neg hk]
    refine ⟨_, _, _, rfl, rfl, ⟨?_, ?_, h.2.2⟩, ⟨rfl, hs.2⟩, ?_, ?_, ?_, Or.inr ⟨rfl, rfl⟩⟩
    · exact Rl.i110 h.1 hvb
    · exact Rw.u h.2.1 (by omega) rfl rfl rfl
    · exact ((fr.sI (by decide)).tr (fr.sI (by decide))).tr (fr.sI (by decide))
    · exact (((fr.sI (by decide)).tr (fr.sI (by decide))).tr (fr.sA (by decide))).tr (fr.sI (by decide))
    · intro k hk
      exact hu k (by omega)
  rw [if_neg c0, if_neg c1, if_neg c0, if_neg c1, if_neg c2]
  have hno : ¬ ((0 : Int32) ≤ a ∧ a ≤ 2) := fun q => by
    obtain ⟨n, hn, en⟩ := oN_exb (b := 2) q.1 (by decide) q.2
    have : n = 0 ∨ n = 1 ∨ n = 2 := by omega
    rcases this with e | e | e <;> subst e
    · exact c0 en
    · exact c1 en
    · exact c2 en
  unfold fX11_terms_b23
  rw [c_within, bs_v, if_neg hno, if_pos rfl]
  exact href
