/-! T2, calls that write the land: road, sign -/
theorem upd_same {r : Nat → Int32} {i j : Nat} {v : Int32} : upd (upd r i v) j v = upd (upd r j v) i v := by
  funext k
  rw [upd_v, upd_v, upd_v, upd_v]
  by_cases h1 : k = j
  · rw [if_pos h1, if_pos h1]; split <;> rfl
  · rw [if_neg h1, if_neg h1]
theorem road_call {fz : List FP} {c m : St} (a b v : Int32) (h : Rq fz c m) (hs : Rs c m) : Ok fz c m (fX11_road a b v fz c) (fX12_road a b v m) := by
  have href1 := ok_refuse (n := 1) h hs (by decide) (by decide)
  have href2 := ok_refuse (n := 2) h hs (by decide) (by decide)
  have h' : Rq fz c (sI m 0 0) := h
  unfold fX11_road fX12_road
  rw [lt_v (sI m 0 0)]
  by_cases hab : a = b
  · rw [if_pos hab, if_pos hab]; exact href1
  rw [if_neg hab, if_neg hab, c_within, bs_v, m_in32 v 0 99 0 99 rfl rfl, bs_v]
  by_cases hv : ¬ ((0 : Int32) ≤ v ∧ v ≤ 99)
  · rw [if_neg hv, if_pos rfl, if_pos rfl]; exact href1
  replace hv := Decidable.of_not_not hv
  rw [if_pos hv, if_neg one_ne0, if_neg one_ne0]
  have hvb : nb 99 v := oN_exb (b := 99) hv.1 (by decide) hv.2
  obtain ⟨x, e1, e2, hx⟩ := has_both a h'
  rw [e1, bd_v, e2, bd_v]
  rcases hx with hx | ⟨hx, f, hf, -, ea⟩
  · rw [if_pos hx, if_pos hx]; exact href2
  subst hx
  rw [if_neg one_ne0, if_neg one_ne0]
  obtain ⟨y, e3, e4, hy⟩ := has_both b h'
  rw [e3, bd_v, e4, bd_v]
  rcases hy with hy | ⟨hy, g, hg, -, eb⟩
  · rw [if_pos hy, if_pos hy]; exact href2
  subst hy
  subst ea
  subst eb
  have hne : f ≠ g := fun q => hab (by rw [q])
  rw [if_neg one_ne0, if_neg one_ne0]
  have i1 : Int32.ofNat f * (6 : Int32) + Int32.ofNat g = Int32.ofNat (f * 6 + g) := by rw [show (6 : Int32) = Int32.ofNat 6 from rfl, oN_mul, oN_add]
  have i2 : Int32.ofNat g * (6 : Int32) + Int32.ofNat f = Int32.ofNat (g * 6 + f) := by rw [show (6 : Int32) = Int32.ofNat 6 from rfl, oN_mul, oN_add]
  have i3 : (55 : Int32) + (6 : Int32) * Int32.ofNat g + Int32.ofNat f = Int32.ofNat (55 + (g * 6 + f)) := by rw [show (6 : Int32) = Int32.ofNat 6 from rfl, show (55 : Int32) = Int32.ofNat 55 from rfl, oN_mul, oN_add, oN_add]; congr 1; omega
  have i4 : (55 : Int32) + (6 : Int32) * Int32.ofNat f + Int32.ofNat g = Int32.ofNat (55 + (f * 6 + g)) := by rw [show (6 : Int32) = Int32.ofNat 6 from rfl, show (55 : Int32) = Int32.ofNat 55 from rfl, oN_mul, oN_add, oN_add]; congr 1; omega
  obtain ⟨q1, n, hn, en⟩ := h.1.2.2.2.2.2.2.2.2.2.2 (f * 6 + g) (by omega)
  have q105 : c.2.2.1 105 (f * 6 + g) = m.2.2.1 3 (55 + (f * 6 + g)) := q1
  have hnn : (0 : Int32) ≤ m.2.2.1 3 (55 + (f * 6 + g)) := by rw [en]; exact oN_nn (by omega)
  have hold : (sA (sI m 0 0) 3 (upd (m.2.2.1 3) (55 + (g * 6 + f)) v)).2.2.1 3 (55 + (f * 6 + g)) = m.2.2.1 3 (55 + (f * 6 + g)) := by
    show upd (m.2.2.1 3) (55 + (g * 6 + f)) v (55 + (f * 6 + g)) = _
    rw [upd_v, if_neg (by omega)]
  have t3 : (sI m 0 0).2.2.1 3 = m.2.2.1 3 := rfl
  simp only [lt_v, i1, i2, i3, i4, t3, gi_N (show f * 6 + g < 36 by omega) (show 36 < 2147483648 by decide), gi_N (show g * 6 + f < 36 by omega) (show 36 < 2147483648 by decide), gi_N (show 55 + (g * 6 + f) < 5550 by omega) (show 5550 < 2147483648 by decide), oN_tn (show f * 6 + g < 2147483648 by omega), oN_tn (show g * 6 + f < 2147483648 by omega), oN_tn (show 55 + (g * 6 + f) < 2147483648 by omega), q105, settle_nn hnn, bd_v, m_change (show 55 + (f * 6 + g) < 5550 by omega), hold]
  have hR := Rl.u105 (i := g * 6 + f) (x := v) (Rl.u105 (i := f * 6 + g) (x := v) h.1 (by omega) hvb) (by omega) hvb
  have hW := Rw.u (k := 55 + (g * 6 + f)) (x := v) (Rw.u (k := 55 + (f * 6 + g)) (x := v) h.2.1 (by omega) rfl rfl rfl) (by omega) rfl rfl rfl (c' := c)
  rw [upd_same] at hR hW
  have hu : ∀ k, k < 55 ∨ 91 ≤ k → upd (upd (m.2.2.1 3) (55 + (g * 6 + f)) v) (55 + (f * 6 + g)) v k = m.2.2.1 3 k := fun k hk => by rw [upd_v, if_neg (by omega), upd_v, if_neg (by omega)]
  refine ⟨_, _, _, rfl, rfl, ⟨hR, hW, h.2.2⟩, ⟨rfl, hs.2⟩, ?_, ?_, ?_, Or.inl ⟨rfl, rfl, ?_⟩⟩
  · exact ((fr.sA (by decide)).tr (fr.sA (by decide))).tr (fr.sI (by decide))
  · exact (((fr.sI (by decide)).tr (fr.sA (by decide))).tr (fr.sA (by decide))).tr (fr.sI (by decide))
  · intro k hk
    exact hu k (by omega)
  · intro k hk
    exact hu k (by omega)
