/-! T2, calls that write the land: fame -/
/-- the same answer, land and laws alike after it; what else may have changed -/
def Ok (fz : List FP) (c m : St) (x y : Option (Int32 × St)) : Prop := ∃ v c' m', x = some (v, c') ∧ y = some (v, m') ∧ Rq fz c' m' ∧ Rs c' m' ∧ fr [9, 108, 109, 110, 204, 905] [] [8, 103, 104, 105, 200, 201, 202, 203] c c' ∧ fr [0, 1, 8] [] [2, 3] m m' ∧ (∀ k, (91 ≤ k ∨ (1 ≤ k ∧ k ≤ 5)) → m'.2.2.1 3 k = m.2.2.1 3 k) ∧ ((c'.1 905 = c.1 905 ∧ m'.1 8 = m.1 8 ∧ ∀ k, k < 37 → m'.2.2.1 3 k = m.2.2.1 3 k) ∨ (c'.1 905 = 0 ∧ m'.1 8 = 0))
theorem Rq.s {fz : List FP} {c m c' m' : St} (h : Rq fz c m) (k : cs c c') (k2 : ms m m') : Rq fz c' m' := by
  unfold Rq
  have e3 : m'.2.2.1 3 = m.2.2.1 3 := k2.2.2.1 3 (by decide)
  rw [e3, k2.1 20 (by decide)]
  refine ⟨?_, ?_, h.2.2⟩
  · have h1 := h.1
    unfold Rl at h1 ⊢
    rw [k.1 (108 + 0) (by decide), k.1 (204 + 0) (by decide), k.1 (109 + 0) (by decide), k.1 (110 + 0) (by decide), k.2.2.1 (203 + 0) (by decide), k.2.2.1 (200 + 0) (by decide), k.2.2.1 (201 + 0) (by decide), k.2.2.1 (202 + 0) (by decide), k.2.2.1 (103 + 0) (by decide), k.2.2.1 (104 + 0) (by decide), k.2.2.1 (105 + 0) (by decide)]
    exact h1
  · have h1 := h.2.1
    unfold Rw at h1 ⊢
    rw [k.1 (111 + 0) (by decide), k.1 (112 + 0) (by decide), k.2.2.2]
    exact h1
theorem ok_refuse {fz : List FP} {c m : St} {n : Nat} (h : Rq fz c m) (hs : Rs c m) (h1 : 1 ≤ n) (h6 : n ≤ 6) : Ok fz c m (bd (fX11_refuse (-(Int32.ofNat n)) fz c) (fun r st => some (r, st))) (bd (fX12_tell (-(Int32.ofNat n)) (sI m 0 0)) (fun r st => some (r, st))) := by
  have h' : Rq fz c (sI m 0 0) := h
  have hs' : Rs c (sI m 0 0) := hs
  obtain ⟨c', m', k1, k2, k3, k4, k5⟩ := refuse_both (fz := fz) hs' h1 h6
  rw [k1, bd_v, k2, bd_v]
  refine ⟨_, c', m', rfl, rfl, h'.s k4 k5, k3, ⟨fun k hk => k4.1 k (fun e => hk (by rw [e]; decide)), fun k _ => by rw [k4.2.1], fun k hk => k4.2.2.1 k (fun e => hk (by rw [e]; decide)), k4.2.2.2⟩, ⟨fun k hk => ?_, fun k _ => by rw [k5.2.1]; rfl, fun k hk => ?_, k5.2.2.2⟩, fun k _ => ?_, Or.inl ⟨k4.1 905 (by decide), ?_, fun k _ => ?_⟩⟩
  · rw [k5.1 k (fun e => hk (by rw [e]; decide)), sI_1, if_neg (fun (e : k = 0) => hk (by rw [e]; decide))]
  · exact k5.2.2.1 k (fun e => hk (by rw [e]; decide))
  · rw [k5.2.2.1 3 (by decide)]; rfl
  · exact k5.1 8 (by decide)
  · rw [k5.2.2.1 3 (by decide)]; rfl
theorem settle_nn {fz : List FP} {c : St} {v : Int32} (hv : 0 ≤ v) : fX11_settle v fz c = some (v, sI c 9 0) := by
  unfold fX11_settle
  rw [if_pos hv, lt_v]
theorem fame_call {fz : List FP} {c m : St} (a v : Int32) (h : Rq fz c m) (hs : Rs c m) : Ok fz c m (fX11_fame a v fz c) (fX12_fame a v m) := by
  have href := ok_refuse (n := 1) h hs (by decide) (by decide)
  unfold fX11_fame fX12_fame
  rw [lt_v (sI m 0 0), c_within, bs_v, c_within, bs_v, m_in32 a 0 3 0 3 rfl rfl, bs_v, m_in32 v 0 100 0 100 rfl rfl, bs_v]
  by_cases ha : ¬ ((0 : Int32) ≤ a ∧ a ≤ 3)
  · rw [if_neg ha, if_pos rfl, if_pos rfl]; exact href
  replace ha := Decidable.of_not_not ha
  rw [if_pos ha, if_neg one_ne0, if_neg one_ne0]
  by_cases hv : ¬ ((0 : Int32) ≤ v ∧ v ≤ 100)
  · rw [if_neg hv, if_pos rfl, if_pos rfl]; exact href
  replace hv := Decidable.of_not_not hv
  rw [if_pos hv, if_neg one_ne0, if_neg one_ne0]
  obtain ⟨g, hg, eg⟩ := oN_exb (b := 3) ha.1 (by decide) ha.2
  have hvb : nb 100 v := oN_exb (b := 100) hv.1 (by decide) hv.2
  subst eg
  obtain ⟨q1, n, hn, en⟩ := h.1.2.2.2.2.1 g (by omega)
  have q203 : c.2.2.1 203 g = m.2.2.1 3 (9 + g) := q1
  have e9 : (9 : Int32) + Int32.ofNat g = Int32.ofNat (9 + g) := oN_add 9 g
  have hnn : (0 : Int32) ≤ m.2.2.1 3 (9 + g) := by rw [en]; exact oN_nn (by omega)
  have hold : (sI (sI m 0 0) 8 0).2.2.1 3 (9 + g) = m.2.2.1 3 (9 + g) := rfl
  unfold fX2_close fX12_change
  simp only [lt_v, bd_v, e9, gi_N (show g < 4 by omega) (show 4 < 2147483648 by decide), gi_N (show 9 + g < 5550 by omega) (show 5550 < 2147483648 by decide), oN_tn (show g < 2147483648 by omega), oN_tn (show 9 + g < 2147483648 by omega), q203, settle_nn hnn, hold]
  have hu : ∀ k, k ≠ 9 + g → upd (m.2.2.1 3) (9 + g) v k = m.2.2.1 3 k := fun k hk => by rw [upd_v, if_neg hk]
  refine ⟨_, _, _, rfl, rfl, ⟨?_, ?_, h.2.2⟩, ⟨rfl, hs.2⟩, ?_, ?_, ?_, Or.inr ⟨rfl, rfl⟩⟩
  · exact Rl.u203 h.1 (show g < 4 by omega) hvb
  · exact Rw.u h.2.1 (by omega) rfl rfl rfl
  · exact ((fr.sA (by decide)).tr (fr.sI (by decide))).tr (fr.sI (by decide))
  · exact (((fr.sI (by decide)).tr (fr.sI (by decide))).tr (fr.sA (by decide))).tr (fr.sI (by decide))
  · intro k hk
    exact hu k (by omega)
