/-! T2, the law is asked while the signs of a fort change: written by mk99d.py out of parts 71, 72, 73 -/
def Rl6 (c : St) (r : Nat → Int32) : Prop :=
  (c.1 (108 + 0) = r 0 ∧ nb 6 (r 0)) ∧ (c.1 (204 + 0) = r 6 ∧ nb 999 (r 6)) ∧ (c.1 (109 + 0) = r 7 ∧ nb 1000 (r 7)) ∧ (c.1 (110 + 0) = r 8 ∧ nb 9 (r 8)) ∧
  (∀ i, i < 4 → c.2.2.1 (203 + 0) i = r (9 + i) ∧ nb 100 (r (9 + i))) ∧ (∀ i, i < 6 → c.2.2.1 (200 + 0) i = r (13 + i) ∧ nb 99 (r (13 + i))) ∧ True ∧ (∀ i, i < 6 → c.2.2.1 (202 + 0) i = r (25 + i) ∧ nb 1 (r (25 + i))) ∧ (∀ i, i < 6 → c.2.2.1 (103 + 0) i = r (31 + i) ∧ nb 3 (r (31 + i))) ∧ (∀ i, i < 18 → c.2.2.1 (104 + 0) i = r (37 + i) ∧ nb (if i < 12 then 10 else 99) (r (37 + i))) ∧ (∀ i, i < 36 → c.2.2.1 (105 + 0) i = r (55 + i) ∧ nb 99 (r (55 + i)))
theorem Rl.six {c : St} {r : Nat → Int32} {g : Nat → Int32} (h : Rl 0 c r) : Rl6 (sA c 201 g) r := ⟨h.1, h.2.1, h.2.2.1, h.2.2.2.1, h.2.2.2.2.1, h.2.2.2.2.2.1, trivial, h.2.2.2.2.2.2.2⟩
theorem c_ask6 {c : St} {r : Nat → Int32} {fz : List FP} {f : Nat} {sg ar be en : Int32} (hR : Rl6 c r) (hf : f < 6) : ∃ g, fX5_ask (Int32.ofNat f) sg ar be en fz c = some ((), sA c 801 g) ∧ g 0 = Int32.ofNat f ∧ g 1 = r (13 + f) ∧ g 2 = r (31 + f) ∧ g 3 = r (9 + (r (31 + f)).toNatClampNeg) ∧ g 4 = sg ∧ g 5 = ar ∧ g 6 = be ∧ g 7 = en ∧ g 8 = r 6 ∧ g 9 = r 8 := by
  obtain ⟨-, ⟨h6, -⟩, -, ⟨h8, -⟩, hfame, hmen, -, -, hgen, -, -⟩ := hR
  obtain ⟨hg1, hg2⟩ := (hgen f hf).2.le (by decide)
  have hg : c.2.2.1 103 f = r (31 + f) := (hgen f hf).1
  have hm : c.2.2.1 200 f = r (13 + f) := (hmen f hf).1
  have hfa : c.2.2.1 203 (r (31 + f)).toNatClampNeg = r (9 + (r (31 + f)).toNatClampNeg) := (hfame _ (by omega)).1
  have h204 : c.1 204 = r 6 := h6
  have h110 : c.1 110 = r 8 := h8
  have hgi : ∀ {α : Type} (x : Option α), gi (r (31 + f)) 4 x = x := fun x => gi_ok (by rw [hg2]; exact oN_nn (by omega)) (by omega)
  have n200 : ∀ g, (sA c 801 g).2.2.1 200 = c.2.2.1 200 := fun _ => rfl
  have n103 : ∀ g, (sA c 801 g).2.2.1 103 = c.2.2.1 103 := fun _ => rfl
  have n203 : ∀ g, (sA c 801 g).2.2.1 203 = c.2.2.1 203 := fun _ => rfl
  have n801 : ∀ g, (sA c 801 g).2.2.1 801 = g := fun _ => rfl
  have n204 : ∀ g, (sA c 801 g).1 204 = r 6 := fun _ => h204
  have n110 : ∀ g, (sA c 801 g).1 110 = r 8 := fun _ => h110
  unfold fX5_ask
  simp only [lt_v, gi_N (show f < 6 from hf) (show 6 < 2147483648 by decide), sA_sA, n200, n103, n203, n801, n204, n110, oN_tn (show f < 2147483648 by omega), hg, hm, hfa, hgi]
  refine ⟨_, rfl, ?_, ?_, ?_, ?_, ?_, ?_, ?_, ?_, ?_, ?_⟩ <;> rfl
theorem asked6 {c m : St} {fz : List FP} {f hd : Nat} {sg ar be en a1 a2 a3 : Int32} (hR : Rl6 c (m.2.2.1 3)) (hW : Rw 0 fz c (m.2.2.1 3)) (h20 : m.1 20 = 0) (hf : f < 6) (hhd : hd ≤ 3) (hsg : wsm sg) (har : wsm ar) (hbe : wsm be) (hen : wsm en) (h23 : a2 ≤ a1 ∧ a1 ≤ a3) (ha1 : wsm a1) :
    ∃ x c' m', (bd (fX5_ask (Int32.ofNat f) sg ar be en fz c) (fun _ c1 => fX5_told (Int32.ofNat (300 + hd)) a1 a2 a3 fz c1)) = some (clmp a2 a3 x.toInt32, c') ∧ fX12_tells (Int32.ofNat hd) (Int32.ofNat f) sg ar be en a1.toInt64 m = some (x, m') ∧ cq c c' ∧ mq m m' ∧ (-1000000000 ≤ x ∧ x ≤ 1000000000) ∧ (hd = 3 → x = a1.toInt64 ∨ x = 1) := by
  obtain ⟨g, k1, k2⟩ := c_ask6 (c := c) (r := m.2.2.1 3) (fz := fz) (f := f) (sg := sg) (ar := ar) (be := be) (en := en) hR hf
  obtain ⟨⟨w1, w2⟩, w3, w4, w5⟩ := hW
  obtain ⟨nl, hnl, enl⟩ := w2
  have h111 : c.1 111 = Int32.ofNat nl := w1.trans enl
  have h112 : c.1 112 = m.2.2.1 3 5 := w3
  rw [k1, bd_v]
  have q111 : (sA c 801 g).1 111 = Int32.ofNat nl := h111
  rcases w4 with hno | ⟨fo, hfo, efo⟩
  · -- no law
    refine ⟨a1.toInt64, sB (sA c 801 g) 803 (c.2.2.2.1 803), m, ?_, ?_, cq.w, mq.rf, ha1, fun _ => Or.inl rfl⟩
    · have q112 : (sA c 801 g).1 112 = -1 := h112.trans hno
      have eself : sB (sA c 801 g) 803 (c.2.2.2.1 803) = sA c 801 g := by
        unfold sB
        have : va_up (sA c 801 g).2.2.2.1 803 (c.2.2.2.1 803) = (sA c 801 g).2.2.2.1 := by
          funext q
          rw [vup_v]
          split
          · rename_i h; rw [h]; rfl
          · rfl
        rw [this]
      unfold fX5_told fX6_lawInForce fX6_lawInForce_b30
      rw [q112, c_within, bs_v, if_neg (show ¬ ((0 : Int32) ≤ -1 ∧ (-1 : Int32) ≤ (sA c 801 g).1 111 - 1) from fun q => absurd q.1 (by decide)), i00, bd_v, eself, Int32.toInt32_toInt64, clmp_in h23.1 h23.2]
      rfl
    · unfold fX12_tells
      have e5 : (m.2.2.1 3 (5 : Int32).toNatClampNeg) = -1 := hno
      rw [e5, if_pos rfl]
  · rw [enl, oN_tn (by omega)] at hfo
    obtain ⟨q, P, r1, r2, r3⟩ := (w5 fo (by omega)).1 (by rw [enl, oN_tn (by omega)]; exact hfo)
    obtain ⟨g2, t1, t2⟩ := m_tells_set (m := m) (f := f) (fo := fo) (hd := Int32.ofNat hd) (sg := sg) (ar := ar) (be := be) (en := en) (d := a1.toInt64) hf (hR.2.2.2.2.2.2.2.2.1 f hf).2 efo (by omega)
    obtain ⟨g0, g1, g2', g3, g4, g5, g6, g7, g8, g9⟩ := k2
    obtain ⟨u1, u2, u3, u4, u5, u6, u7, u8, u9, u10⟩ := t2
    -- the words
    let w : Nat → Int64 := fun k => if k < 10 then (g k).toInt64 else 0
    have hw10 : ∀ k, k < 10 → w k = (g k).toInt64 := fun k hk => if_pos hk
    have hk10 : ∀ k, k < 10 → k = 0 ∨ k = 1 ∨ k = 2 ∨ k = 3 ∨ k = 4 ∨ k = 5 ∨ k = 6 ∨ k = 7 ∨ k = 8 ∨ k = 9 := fun k hk => by omega
    obtain ⟨hgl, hgl2⟩ := (hR.2.2.2.2.2.2.2.2.1 f hf).2.le (by decide)
    have hwb : ∀ k, -1000000000 ≤ w k ∧ w k ≤ 1000000000 := by
      intro k
      by_cases hk : k < 10
      · rw [hw10 k hk]
        rcases hk10 k hk with e | e | e | e | e | e | e | e | e | e <;> subst e
        · rw [g0]; exact nb.sm ⟨f, Nat.le_refl _, rfl⟩ (by omega)
        · rw [g1]; exact (hR.2.2.2.2.2.1 f hf).2.sm (by decide)
        · rw [g2']; exact (hR.2.2.2.2.2.2.2.2.1 f hf).2.sm (by decide)
        · rw [g3]; exact (hR.2.2.2.2.1 _ (by omega)).2.sm (by decide)
        · rw [g4]; exact hsg
        · rw [g5]; exact har
        · rw [g6]; exact hbe
        · rw [g7]; exact hen
        · rw [g8]; exact hR.2.1.2.sm (by decide)
        · rw [g9]; exact hR.2.2.2.1.2.sm (by decide)
      · have : w k = 0 := if_neg hk
        rw [this]; decide
    have hset : ∀ o, 1 ≤ o → o ≤ 10 → (tS m (Int32.ofNat (150 + 900 * fo)) g2).2.2.2.1 35 o = w (o - 1) := by
      intro o h1 h2
      show g2 o = _
      rw [hw10 (o - 1) (by omega)]
      have ho : o = 1 ∨ o = 2 ∨ o = 3 ∨ o = 4 ∨ o = 5 ∨ o = 6 ∨ o = 7 ∨ o = 8 ∨ o = 9 ∨ o = 10 := by omega
      rcases ho with e | e | e | e | e | e | e | e | e | e <;> subst e
      · rw [u1, g0]
      · rw [u2, g1]
      · rw [u3, g2']
      · rw [u4, g3]
      · rw [u5, g4]
      · rw [u6, g5]
      · rw [u7, g6]
      · rw [u8, g7]
      · rw [u9, g8]
      · rw [u10, g9]
    obtain ⟨x, z0, bb', s2, v', u', k, hPk, hk12, hc, hm, hx, -, hx1⟩ := told_loop (P := P) (fz := fz) (c := sA c 801 g) (m := tS m (Int32.ofNat (150 + 900 * fo)) g2) (hd := hd) (base := 150 + 900 * fo) (w := w) (a1 := a1) (a2 := a2) (a3 := a3) (d := a1.toInt64) r3 hhd (fun k hk => hw10 k hk) hwb h20 rfl (by omega) hset rfl h23 ha1
    obtain ⟨s', hc⟩ := hc ((sA c 801 g).2.2.2.1 803)
    have eself : sB (sA c 801 g) 803 ((sA c 801 g).2.2.2.1 803) = sA c 801 g := by
      unfold sB
      have : va_up (sA c 801 g).2.2.2.1 803 ((sA c 801 g).2.2.2.1 803) = (sA c 801 g).2.2.2.1 := by
        funext q
        rw [vup_v]
        split
        · rename_i h; rw [h]
        · rfl
      rw [this]
    rw [eself] at hc
    refine ⟨x, sB (sA c 801 g) 803 s', eS (tS m (Int32.ofNat (150 + 900 * fo)) g2) bb' s2 v' u', ?_, by rw [t1]; exact hm, cq.w, mq.w, hx, hx1⟩
    have q112 : (sA c 801 g).1 112 = Int32.ofNat fo := h112.trans efo
    have qR : (sA c 801 g).2.2.2.2 107 fo = some q := r1
    unfold fX5_told fX6_lawInForce fX6_lawInForce_b30
    have e1 : Int32.ofNat nl - 1 = Int32.ofNat (nl - 1) := by rw [show (1 : Int32) = Int32.ofNat 1 from rfl, oN_sub (by omega)]
    rw [q112, q111, c_within, bs_v, e1, if_pos (show (0 : Int32) ≤ Int32.ofNat fo ∧ Int32.ofNat fo ≤ Int32.ofNat (nl - 1) from ⟨oN_nn (by omega), (oN_le (by omega) (by omega)).mpr (by omega)⟩), i10, gi_N (by omega) (by omega), oN_tn (by omega), qR, bd_v]
    show bs (fzGet fz q) _ = _
    rw [r2, bs_v, lt_v, hPk]
    exact hc
theorem pays6 {fz : List FP} {c m : St} {f s : Nat} (h : Rl6 c (m.2.2.1 3) ∧ Rw 0 fz c (m.2.2.1 3) ∧ m.1 20 = 0) (hf : f < 6) (hs : s < 6) : ∃ v c' m', fX5_pays (Int32.ofNat f) (Int32.ofNat s) fz c = some (v, c') ∧ fX12_paysOf (Int32.ofNat f) (Int32.ofNat s) m = some (v, m') ∧ cq c c' ∧ mq m m' ∧ nb 99 v := by
  have hsg := (h.1.2.2.2.2.2.2.2.2.2.1 (12 + s) (by omega))
  rw [if_neg (by omega), show 37 + (12 + s) = 49 + s by omega] at hsg
  obtain ⟨hsg, p, hp, ep⟩ := hsg
  obtain ⟨g, kg, -⟩ := c_ask6 (fz := fz) (sg := Int32.ofNat s) (ar := -1) (be := -1) (en := -1) h.1 hf
  obtain ⟨x, c', m', k1, k2, k3, k4, k5, -⟩ := asked6 (hd := 1) (sg := Int32.ofNat s) (ar := -1) (be := -1) (en := -1) (a1 := m.2.2.1 3 (49 + s)) (a2 := 0) (a3 := 99) h.1 h.2.1 h.2.2 hf (by decide) (nb.sm ⟨s, Nat.le_refl _, rfl⟩ (by omega)) wsm_1 wsm_1 wsm_1 (by rw [ep]; exact ⟨oN_nn (by omega), (oN_le (b := 99) (by omega) (by decide)).mpr hp⟩) (nb.sm ⟨p, hp, ep⟩ (by decide))
  rw [kg, bd_v] at k1
  refine ⟨clmp 0 99 x.toInt32, c', m', ?_, ?_, k3, k4, clmp_nb (hi := 99) (by decide)⟩
  · unfold fX5_pays
    have e12 : (12 : Int32) + Int32.ofNat s = Int32.ofNat (12 + s) := oN_add 12 s
    have e104 : (sA c 801 g).2.2.1 104 (12 + s) = m.2.2.1 3 (49 + s) := hsg
    rw [kg, bd_v, e12, gi_N (by omega) (by omega), oN_tn (by omega), e104, show (301 : Int32) = Int32.ofNat (300 + 1) from rfl, k1, bd_v]
  · unfold fX12_paysOf
    have e49 : (49 : Int32) + Int32.ofNat s = Int32.ofNat (49 + s) := oN_add 49 s
    have k2' : fX12_tells 1 (Int32.ofNat f) (Int32.ofNat s) (-1) (-1) (-1) (m.2.2.1 3 (49 + s)).toInt64 m = some (x, m') := k2
    rw [e49, gi_N (by omega) (by omega), oN_tn (by omega), k2', bd_v, m_within_clmp k5 (by decide), bs_v]
