/-! T2, status and refusals -/
def Rs (c m : St) : Prop := c.1 9 = m.1 1 ∧ ∀ i, i < 7 → c.2.2.1 8 i = m.2.2.1 2 i
/-- the class's state but for status and refusals -/
def cs (c c' : St) : Prop := (∀ k, k ≠ 9 → c'.1 k = c.1 k) ∧ c'.2.1 = c.2.1 ∧ (∀ k, k ≠ 8 → c'.2.2.1 k = c.2.2.1 k) ∧ c'.2.2.2 = c.2.2.2
/-- the reference's state but for status and refusals -/
def ms (m m' : St) : Prop := (∀ k, k ≠ 1 → m'.1 k = m.1 k) ∧ m'.2.1 = m.2.1 ∧ (∀ k, k ≠ 2 → m'.2.2.1 k = m.2.2.1 k) ∧ m'.2.2.2 = m.2.2.2
theorem refuse_both {fz : List FP} {c m : St} {n : Nat} (h : Rs c m) (h1 : 1 ≤ n) (h6 : n ≤ 6) : ∃ c' m', fX11_refuse (-(Int32.ofNat n)) fz c = some (-(Int32.ofNat n), c') ∧ fX12_tell (-(Int32.ofNat n)) m = some (-(Int32.ofNat n), m') ∧ Rs c' m' ∧ cs c c' ∧ ms m m' := by
  have hneg : ¬ ((0 : Int32) ≤ -(Int32.ofNat n)) := by
    have : n = 1 ∨ n = 2 ∨ n = 3 ∨ n = 4 ∨ n = 5 ∨ n = 6 := by omega
    rcases this with e | e | e | e | e | e <;> subst e <;> decide
  have hin : (-6 : Int32) ≤ -(Int32.ofNat n) ∧ -(Int32.ofNat n) ≤ -1 := by
    have : n = 1 ∨ n = 2 ∨ n = 3 ∨ n = 4 ∨ n = 5 ∨ n = 6 := by omega
    rcases this with e | e | e | e | e | e <;> subst e <;> decide
  have e1 : c.2.2.1 8 n = m.2.2.1 2 n := h.2 n (by omega)
  refine ⟨sA (sI c 9 (-(Int32.ofNat n))) 8 (upd (c.2.2.1 8) n (c.2.2.1 8 n + 1)), sA (sI m 1 (-(Int32.ofNat n))) 2 (upd (m.2.2.1 2) n (m.2.2.1 2 n + 1)), ?_, ?_, ⟨rfl, fun i hi => ?_⟩, ⟨fun k hk => ?_, rfl, fun k hk => ?_, rfl⟩, ⟨fun k hk => ?_, rfl, fun k hk => ?_, rfl⟩⟩
  · unfold fX11_refuse fX11_refuse_b26
    rw [lt_v, c_within, bs_v, if_pos hin, if_neg one_ne0, Int32.neg_neg, gi_N (by omega) (by decide), gi_N (by omega) (by decide), lt_v, oN_tn (by omega)]
    rfl
  · unfold fX12_tell fX12_tell_b10 fX12_tell_b28
    rw [if_neg hneg, lt_v, if_neg hneg, Int32.neg_neg, gi_N (by omega) (by decide), gi_N (by omega) (by decide), lt_v, oN_tn (by omega)]
    rfl
  · show upd (c.2.2.1 8) n (c.2.2.1 8 n + 1) i = upd (m.2.2.1 2) n (m.2.2.1 2 n + 1) i
    rw [upd_v, upd_v, e1, h.2 i hi]
  · show (sI c 9 _).1 k = _
    rw [sI_1, if_neg hk]
  · show va_up (sI c 9 _).2.2.1 8 _ k = _
    rw [vup_v, if_neg hk]; rfl
  · show (sI m 1 _).1 k = _
    rw [sI_1, if_neg hk]
  · show va_up (sI m 1 _).2.2.1 2 _ k = _
    rw [vup_v, if_neg hk]; rfl
theorem settle_both {fz : List FP} {c m : St} {v : Int32} (h : Rs c m) (hv : 0 ≤ v ∨ ∃ n, 1 ≤ n ∧ n ≤ 6 ∧ v = -(Int32.ofNat n)) : ∃ c' m', fX11_settle v fz c = some (v, c') ∧ fX12_tell v m = some (v, m') ∧ Rs c' m' ∧ cs c c' ∧ ms m m' := by
  rcases hv with hv | ⟨n, h1, h6, e⟩
  · refine ⟨sI c 9 0, sI m 1 0, ?_, ?_, ⟨rfl, h.2⟩, ⟨fun k hk => ?_, rfl, fun _ _ => rfl, rfl⟩, ⟨fun k hk => ?_, rfl, fun _ _ => rfl, rfl⟩⟩
    · unfold fX11_settle
      rw [if_pos hv, lt_v]
    · unfold fX12_tell fX12_tell_b10 fX12_tell_b28
      rw [if_pos hv, lt_v, if_pos hv]
    · rw [sI_1, if_neg hk]
    · rw [sI_1, if_neg hk]
  · subst e
    obtain ⟨c', m', k1, k2, k3, k4, k5⟩ := refuse_both (fz := fz) h h1 h6
    have hneg : ¬ ((0 : Int32) ≤ -(Int32.ofNat n)) := by
      have : n = 1 ∨ n = 2 ∨ n = 3 ∨ n = 4 ∨ n = 5 ∨ n = 6 := by omega
      rcases this with e | e | e | e | e | e <;> subst e <;> decide
    refine ⟨c', m', ?_, k2, k3, k4, k5⟩
    unfold fX11_settle
    rw [if_neg hneg, k1, bd_v]
