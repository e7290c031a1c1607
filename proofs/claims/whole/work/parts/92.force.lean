/-! T2, force -/
theorem force_call {fz : List FP} {c m : St} (a : Int32) (h : Rq fz c m) (hs : Rs c m) : ∃ v c' m', fX11_force a fz c = some (v, c') ∧ fX12_force a m = some (v, m') ∧ Rq fz c' m' ∧ Rs c' m' ∧ fr [9, 112] [] [8] c c' ∧ fr [0, 1] [] [2, 3] m m' ∧ (∀ k, k ≠ 5 → m'.2.2.1 3 k = m.2.2.1 3 k) := by
  have h' : Rq fz c (sI m 0 0) := h
  have hs' : Rs c (sI m 0 0) := hs
  obtain ⟨⟨w1, n, hn, en⟩, w3, w4, w5⟩ := h.2.1
  have q111 : c.1 111 = Int32.ofNat n := w1.trans en
  have q112 : c.1 112 = m.2.2.1 3 5 := w3
  have e4 : (sI m 0 0).2.2.1 3 (4 : Int32).toNatClampNeg = Int32.ofNat n := en
  have hgood : (a = -1 ∨ ∃ f, f < n ∧ a = Int32.ofNat f) → Rq fz (sI (sI c 112 a) 9 0) (sI (sA (sI m 0 0) 3 (upd (m.2.2.1 3) 5 a)) 1 0) := by
    intro ha
    have un : ∀ k, k ≠ 5 → upd (m.2.2.1 3) 5 a k = m.2.2.1 3 k := fun k hk => by rw [upd_v, if_neg hk]
    refine ⟨?_, ?_, h.2.2⟩
    · obtain ⟨h0, h1, h2, h3, h4, h5, h6, h7, h8, h9, h10⟩ := h.1
      show Rl 0 _ (upd (m.2.2.1 3) 5 a)
      refine ⟨?_, ?_, ?_, ?_, ?_, ?_, ?_, ?_, ?_, ?_, ?_⟩
      · rw [un 0 (by omega)]; exact h0
      · rw [un 6 (by omega)]; exact h1
      · rw [un 7 (by omega)]; exact h2
      · rw [un 8 (by omega)]; exact h3
      · intro j hj; rw [un (9 + j) (by omega)]; exact h4 j hj
      · intro j hj; rw [un (13 + j) (by omega)]; exact h5 j hj
      · intro j hj; rw [un (19 + j) (by omega)]; exact h6 j hj
      · intro j hj; rw [un (25 + j) (by omega)]; exact h7 j hj
      · intro j hj; rw [un (31 + j) (by omega)]; exact h8 j hj
      · intro j hj; rw [un (37 + j) (by omega)]; exact h9 j hj
      · intro j hj; rw [un (55 + j) (by omega)]; exact h10 j hj
    · show Rw 0 fz _ (upd (m.2.2.1 3) 5 a)
      have uf : ∀ i, (fun j => upd (m.2.2.1 3) 5 a (150 + 900 * i + j)) = (fun j => m.2.2.1 3 (150 + 900 * i + j)) := fun i => funext (fun j => un _ (by omega))
      refine ⟨?_, rfl, ?_, fun i hi => ?_⟩
      · rw [un 4 (by omega)]; exact ⟨w1, n, hn, en⟩
      · rw [un 4 (by omega), en, oN_tn (by omega)]
        exact ha
      · rw [uf i, un 4 (by omega)]
        exact w5 i hi
  have hfc : fr [9, 112] [] [8] c (sI (sI c 112 a) 9 0) := (fr.sI (by decide)).tr (fr.sI (by decide))
  have hfm : fr [0, 1] [] [2, 3] m (sI (sA (sI m 0 0) 3 (upd (m.2.2.1 3) 5 a)) 1 0) := ((fr.sI (by decide)).tr (fr.sA (by decide))).tr (fr.sI (by decide))
  have hun : ∀ k, k ≠ 5 → (sI (sA (sI m 0 0) 3 (upd (m.2.2.1 3) 5 a)) 1 0).2.2.1 3 k = m.2.2.1 3 k := fun k hk => by
    show upd (m.2.2.1 3) 5 a k = _
    rw [upd_v, if_neg hk]
  have h28 : fX12_force_b28 a (sI m 0 0) = some (m.2.2.1 3 5, sI (sA (sI m 0 0) 3 (upd (m.2.2.1 3) 5 a)) 1 0) := by
    unfold fX12_force_b28 fX12_force_b43
    rw [show (5 : Int32) = Int32.ofNat 5 from rfl, m_change (by decide), bd_v]
    rfl
  have hcl : ∀ x, x = (if (-1 : Int32) ≤ a ∧ a ≤ Int32.ofNat n - 1 then (1 : Int32) else 0) → x = 1 → fX11_force a fz c = some (m.2.2.1 3 5, sI (sI c 112 a) 9 0) := by
    intro x hx hx1
    unfold fX11_force
    rw [q111, c_within, bs_v, ← hx, hx1, if_neg one_ne0, q112]
    rfl
  unfold fX12_force
  rw [lt_v (sI m 0 0)]
  have hb1 : (-1 : Int32) ≤ Int32.ofNat n - 1 := by
    have : n = 0 ∨ n = 1 ∨ n = 2 ∨ n = 3 ∨ n = 4 ∨ n = 5 ∨ n = 6 := by omega
    rcases this with e | e | e | e | e | e | e <;> subst e <;> decide
  by_cases ha : a = -1
  · rw [if_pos ha, h28]
    refine ⟨_, _, _, hcl 1 ?_ rfl, rfl, hgood (Or.inl ha), ⟨rfl, hs.2⟩, hfc, hfm, hun⟩
    rw [if_pos ⟨by rw [ha]; decide, by rw [ha]; exact hb1⟩]
  rw [if_neg ha, e4, n64_1 hn, m_in32 a 0 (Int32.ofNat n - 1) 0 _ rfl rfl, bs_v]
  by_cases q : (0 : Int32) ≤ a ∧ a ≤ Int32.ofNat n - 1
  · rw [if_pos q, if_neg one_ne0, h28]
    have hf : ∃ f, f < n ∧ a = Int32.ofNat f := by
      have n0 : n ≠ 0 := fun e => by
        subst e
        exact absurd (Int32.le_trans q.1 q.2) (by decide)
      have e1 : Int32.ofNat n - 1 = Int32.ofNat (n - 1) := by rw [show (1 : Int32) = Int32.ofNat 1 from rfl, oN_sub (by omega)]
      rw [e1] at q
      obtain ⟨f, hf, ef⟩ := oN_exb q.1 (by omega) q.2
      exact ⟨f, by omega, ef⟩
    refine ⟨_, _, _, hcl 1 ?_ rfl, rfl, hgood (Or.inr hf), ⟨rfl, hs.2⟩, hfc, hfm, hun⟩
    rw [if_pos ⟨Int32.le_trans (by decide) q.1, q.2⟩]
  · rw [if_neg q, if_pos rfl]
    have hno : ¬ ((-1 : Int32) ≤ a ∧ a ≤ Int32.ofNat n - 1) := by
      intro w
      apply q
      refine ⟨?_, w.2⟩
      have w1 := Int32.le_iff_toInt_le.mp w.1
      have e1 : (-1 : Int32).toInt = -1 := by decide
      have e0 : (0 : Int32).toInt = 0 := by decide
      rw [Int32.le_iff_toInt_le, e0]
      have : a.toInt ≠ -1 := fun z => ha (by rw [← Int32.toInt_inj, z, e1])
      omega
    obtain ⟨c', m', k1, k2, k3, k4, k5⟩ := refuse_both (fz := fz) (n := 2) hs' (by decide) (by decide)
    have k1' : fX11_refuse (-2) fz c = some (-2, c') := k1
    have k2' : fX12_tell (-2) (sI m 0 0) = some (-2, m') := k2
    unfold fX11_force fX12_force_b43
    rw [q111, c_within, bs_v, if_neg hno, if_pos rfl, k1', bd_v, k2', bd_v]
    refine ⟨_, c', m', rfl, rfl, h'.s k4 k5, k3, ⟨fun k hk => k4.1 k (fun e => hk (by rw [e]; decide)), fun k _ => by rw [k4.2.1], fun k hk => k4.2.2.1 k (fun e => hk (by rw [e]; decide)), k4.2.2.2⟩, ⟨fun k hk => ?_, fun k _ => by rw [k5.2.1]; rfl, fun k hk => ?_, k5.2.2.2⟩, fun k _ => ?_⟩
    · rw [k5.1 k (fun e => hk (by rw [e]; decide)), sI_1, if_neg (fun (e : k = 0) => hk (by rw [e]; decide))]
    · exact k5.2.2.1 k (fun e => hk (by rw [e]; decide))
    · rw [k5.2.2.1 3 (by decide)]; rfl
