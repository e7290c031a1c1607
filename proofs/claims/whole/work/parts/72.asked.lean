/-! T2, the law in force is asked: both -/
/-- the class's state but for what asking writes -/
def cq (c c' : St) : Prop := c'.1 = c.1 ∧ c'.2.1 = c.2.1 ∧ (∀ k, k ≠ 801 → c'.2.2.1 k = c.2.2.1 k) ∧ (∀ k, k ≠ 803 → c'.2.2.2.1 k = c.2.2.2.1 k) ∧ c'.2.2.2.2 = c.2.2.2.2
/-- the reference's state but for what asking writes -/
def mq (m m' : St) : Prop := (∀ k, k ≠ 34 → k ≠ 38 → m'.1 k = m.1 k) ∧ (∀ k, k ≠ 39 → k ≠ 40 → m'.2.1 k = m.2.1 k) ∧ m'.2.2.1 = m.2.2.1 ∧ (∀ k, k ≠ 35 → k ≠ 37 → m'.2.2.2.1 k = m.2.2.2.1 k) ∧ m'.2.2.2.2 = m.2.2.2.2
theorem cq.rf {c : St} : cq c c := ⟨rfl, rfl, fun _ _ => rfl, fun _ _ => rfl, rfl⟩
theorem cq.tr {a b c : St} (h : cq a b) (k : cq b c) : cq a c := ⟨k.1.trans h.1, k.2.1.trans h.2.1, fun q h1 => (k.2.2.1 q h1).trans (h.2.2.1 q h1), fun q h1 => (k.2.2.2.1 q h1).trans (h.2.2.2.1 q h1), k.2.2.2.2.trans h.2.2.2.2⟩
theorem mq.rf {m : St} : mq m m := ⟨fun _ _ _ => rfl, fun _ _ _ => rfl, rfl, fun _ _ _ => rfl, rfl⟩
theorem mq.tr {a b c : St} (h : mq a b) (k : mq b c) : mq a c := ⟨fun q h1 h2 => (k.1 q h1 h2).trans (h.1 q h1 h2), fun q h1 h2 => (k.2.1 q h1 h2).trans (h.2.1 q h1 h2), k.2.2.1.trans h.2.2.1, fun q h1 h2 => (k.2.2.2.1 q h1 h2).trans (h.2.2.2.1 q h1 h2), k.2.2.2.2.trans h.2.2.2.2⟩
theorem cq.w {c : St} {g : Nat → Int32} {s : Nat → Int64} : cq c (sB (sA c 801 g) 803 s) := by
  refine ⟨rfl, rfl, fun k h1 => ?_, fun k h1 => ?_, rfl⟩
  · show va_up c.2.2.1 801 g k = _
    rw [vup_v, if_neg h1]
  · show va_up c.2.2.2.1 803 s k = _
    rw [vup_v, if_neg h1]
theorem mq.w {m : St} {x : Int32} {g : Nat → Int64} {b : Int32} {s : Nat → Int64} {v u : Int64} : mq m (eS (tS m x g) b s v u) := by
  refine ⟨fun k h1 h2 => ?_, fun k h1 h2 => ?_, rfl, fun k h1 h2 => ?_, rfl⟩
  · show va_up (va_up m.1 34 x) 38 b k = _
    rw [vup_v, if_neg h2, vup_v, if_neg h1]
  · show va_up (va_up m.2.1 39 v) 40 u k = _
    rw [vup_v, if_neg h2, vup_v, if_neg h1]
  · show va_up (va_up m.2.2.2.1 35 g) 37 s k = _
    rw [vup_v, if_neg h2, vup_v, if_neg h1]
theorem Rl.cq {off : Nat} {c c' : St} {r : Nat → Int32} (h : Rl off c r) (q : cq c c') (h1 : off = 0 ∨ off = 1400) : Rl off c' r := by
  have e : ∀ k, k = 203 + off ∨ k = 200 + off ∨ k = 201 + off ∨ k = 202 + off ∨ k = 103 + off ∨ k = 104 + off ∨ k = 105 + off → c'.2.2.1 k = c.2.2.1 k := fun k hk => q.2.2.1 k (by omega)
  unfold Rl
  rw [q.1, e (203 + off) (by omega), e (200 + off) (by omega), e (201 + off) (by omega), e (202 + off) (by omega), e (103 + off) (by omega), e (104 + off) (by omega), e (105 + off) (by omega)]
  exact h
theorem Rw.cq {off : Nat} {fz : List FP} {c c' : St} {r : Nat → Int32} (h : Rw off fz c r) (q : cq c c') : Rw off fz c' r := by
  unfold Rw
  rw [q.1, q.2.2.2.2]
  exact h
theorem m_tells_set {m : St} {f fo : Nat} {hd sg ar be en : Int32} {d : Int64} (hf : f < 6) (hg : nb 3 (m.2.2.1 3 (31 + f))) (h5 : m.2.2.1 3 5 = Int32.ofNat fo) (hfo : fo < 6) : ∃ g, fX12_tells hd (Int32.ofNat f) sg ar be en d m = lp (fun _ _ _ _ => none) fX12_tells_b158 6000 hd d (0 : Int32) (tS m (Int32.ofNat (150 + 900 * fo)) g) ∧ g 1 = (Int32.ofNat f).toInt64 ∧ g 2 = (m.2.2.1 3 (13 + f)).toInt64 ∧ g 3 = (m.2.2.1 3 (31 + f)).toInt64 ∧ g 4 = (m.2.2.1 3 (9 + (m.2.2.1 3 (31 + f)).toNatClampNeg)).toInt64 ∧ g 5 = sg.toInt64 ∧ g 6 = ar.toInt64 ∧ g 7 = be.toInt64 ∧ g 8 = en.toInt64 ∧ g 9 = (m.2.2.1 3 6).toInt64 ∧ g 10 = (m.2.2.1 3 8).toInt64 := by
  have e5 : (m.2.2.1 3 (5 : Int32).toNatClampNeg) = Int32.ofNat fo := h5
  have hne : ¬ (Int32.ofNat fo = -1) := oN_ne1 (by omega)
  have e150 : (150 : Int32) + (900 : Int32) * Int32.ofNat fo = Int32.ofNat (150 + 900 * fo) := by rw [show (900 : Int32) = Int32.ofNat 900 from rfl, oN_mul]; exact oN_add 150 _
  have e13 : (13 : Int32) + Int32.ofNat f = Int32.ofNat (13 + f) := oN_add 13 f
  have e31 : (31 : Int32) + Int32.ofNat f = Int32.ofNat (31 + f) := oN_add 31 f
  have tw : ∀ x g, sB (sI m 34 x) 35 g = tS m x g := fun _ _ => rfl
  have tw2 : ∀ x g g', sB (tS m x g) 35 g' = tS m x g' := fun _ _ _ => sB_sB _ _ _ _
  have t3 : ∀ x g, (tS m x g).2.2.1 3 = m.2.2.1 3 := fun _ _ => rfl
  have t35 : ∀ x g, (tS m x g).2.2.2.1 35 = g := fun _ _ => rfl
  have s35 : ∀ x, (sI m 34 x).2.2.2.1 35 = m.2.2.2.1 35 := fun _ => rfl
  have tf : ∀ x g, fX12_fameOf (Int32.ofNat f) (tS m x g) = some (m.2.2.1 3 (9 + (m.2.2.1 3 (31 + f)).toNatClampNeg), tS m x g) := fun x g => m_fameOf (m := tS m x g) hf hg
  unfold fX12_tells
  rw [e5, if_neg hne]
  simp only [lt_v, e150, s35, tw, tw2, t3, t35, e13, e31, gi_N (show 13 + f < 5550 by omega) (show 5550 < 2147483648 by decide), gi_N (show 31 + f < 5550 by omega) (show 5550 < 2147483648 by decide), oN_tn (show 13 + f < 2147483648 by omega), oN_tn (show 31 + f < 2147483648 by omega), tf, bd_v]
  refine ⟨_, rfl, ?_, ?_, ?_, ?_, ?_, ?_, ?_, ?_, ?_, ?_⟩ <;> rfl
/-- small enough for a word -/
def wsm (x : Int32) : Prop := -1000000000 ≤ x.toInt64 ∧ x.toInt64 ≤ 1000000000
theorem nb.sm {b : Nat} {x : Int32} (h : nb b x) (hb : b ≤ 1000000000) : wsm x := by
  obtain ⟨n, h1, h2⟩ := h
  have e1 : (-1000000000 : Int64).toInt = -1000000000 := by decide
  have e2 : (1000000000 : Int64).toInt = 1000000000 := by decide
  unfold wsm
  rw [h2, Int64.le_iff_toInt_le, Int64.le_iff_toInt_le, Int32.toInt_toInt64, oN_ti (by omega), e1, e2]
  omega
theorem asked {c m : St} {fz : List FP} {f hd : Nat} {sg ar be en a1 a2 a3 : Int32} (hR : Rl 0 c (m.2.2.1 3)) (hW : Rw 0 fz c (m.2.2.1 3)) (h20 : m.1 20 = 0) (hf : f < 6) (hhd : hd ≤ 3) (hsg : wsm sg) (har : wsm ar) (hbe : wsm be) (hen : wsm en) (h23 : a2 ≤ a1 ∧ a1 ≤ a3) (ha1 : wsm a1) :
    ∃ x c' m', (bd (fX5_ask (Int32.ofNat f) sg ar be en fz c) (fun _ c1 => fX5_told (Int32.ofNat (300 + hd)) a1 a2 a3 fz c1)) = some (clmp a2 a3 x.toInt32, c') ∧ fX12_tells (Int32.ofNat hd) (Int32.ofNat f) sg ar be en a1.toInt64 m = some (x, m') ∧ cq c c' ∧ mq m m' ∧ (-1000000000 ≤ x ∧ x ≤ 1000000000) ∧ (hd = 3 → x = a1.toInt64 ∨ x = 1) := by
  obtain ⟨g, k1, k2⟩ := c_ask (c := c) (r := m.2.2.1 3) (fz := fz) (f := f) (sg := sg) (ar := ar) (be := be) (en := en) hR hf
  obtain ⟨⟨w1, w2⟩, w3, w4, w5⟩ := hW
  obtain ⟨nl, hnl, enl⟩ := w2
  have h111 : c.1 111 = Int32.ofNat nl := w1.trans enl
  have h112 : c.1 112 = m.2.2.1 3 5 := w3
  rw [k1, bd_v]
  have q111 : (sA c 801 g).1 111 = Int32.ofNat nl := h111
  rcases w4 with hno | ⟨fo, hfo, efo⟩
  · -- no law
    refine ⟨a1.toInt64, sB (sA c 801 g) 803 (c.2.2.2.1 803), m, ?_, ?_, cq.w, mq.rf, ha1, fun _ => Or.inl rfl⟩
    · have q112 : (sA c 801 g).1 112 = -1 := h112.trans hno
      have eself : sB (sA c 801 g) 803 (c.2.2.2.1 803) = sA c 801 g := by
        unfold sB
        have : va_up (sA c 801 g).2.2.2.1 803 (c.2.2.2.1 803) = (sA c 801 g).2.2.2.1 := by
          funext q
          rw [vup_v]
          split
          · rename_i h; rw [h]; rfl
          · rfl
        rw [this]
      unfold fX5_told fX6_lawInForce fX6_lawInForce_b30
      rw [q112, c_within, bs_v, if_neg (show ¬ ((0 : Int32) ≤ -1 ∧ (-1 : Int32) ≤ (sA c 801 g).1 111 - 1) from fun q => absurd q.1 (by decide)), i00, bd_v, eself, Int32.toInt32_toInt64, clmp_in h23.1 h23.2]
      rfl
    · unfold fX12_tells
      have e5 : (m.2.2.1 3 (5 : Int32).toNatClampNeg) = -1 := hno
      rw [e5, if_pos rfl]
  · rw [enl, oN_tn (by omega)] at hfo
    obtain ⟨q, P, r1, r2, r3⟩ := (w5 fo (by omega)).1 (by rw [enl, oN_tn (by omega)]; exact hfo)
    obtain ⟨g2, t1, t2⟩ := m_tells_set (m := m) (f := f) (fo := fo) (hd := Int32.ofNat hd) (sg := sg) (ar := ar) (be := be) (en := en) (d := a1.toInt64) hf (hR.2.2.2.2.2.2.2.2.1 f hf).2 efo (by omega)
    obtain ⟨g0, g1, g2', g3, g4, g5, g6, g7, g8, g9⟩ := k2
    obtain ⟨u1, u2, u3, u4, u5, u6, u7, u8, u9, u10⟩ := t2
    -- the words
    let w : Nat → Int64 := fun k => if k < 10 then (g k).toInt64 else 0
    have hw10 : ∀ k, k < 10 → w k = (g k).toInt64 := fun k hk => if_pos hk
    have hk10 : ∀ k, k < 10 → k = 0 ∨ k = 1 ∨ k = 2 ∨ k = 3 ∨ k = 4 ∨ k = 5 ∨ k = 6 ∨ k = 7 ∨ k = 8 ∨ k = 9 := fun k hk => by omega
    obtain ⟨hgl, hgl2⟩ := (hR.2.2.2.2.2.2.2.2.1 f hf).2.le (by decide)
    have hwb : ∀ k, -1000000000 ≤ w k ∧ w k ≤ 1000000000 := by
      intro k
      by_cases hk : k < 10
      · rw [hw10 k hk]
        rcases hk10 k hk with e | e | e | e | e | e | e | e | e | e <;> subst e
        · rw [g0]; exact nb.sm ⟨f, Nat.le_refl _, rfl⟩ (by omega)
        · rw [g1]; exact (hR.2.2.2.2.2.1 f hf).2.sm (by decide)
        · rw [g2']; exact (hR.2.2.2.2.2.2.2.2.1 f hf).2.sm (by decide)
        · rw [g3]; exact (hR.2.2.2.2.1 _ (by omega)).2.sm (by decide)
        · rw [g4]; exact hsg
        · rw [g5]; exact har
        · rw [g6]; exact hbe
        · rw [g7]; exact hen
        · rw [g8]; exact hR.2.1.2.sm (by decide)
        · rw [g9]; exact hR.2.2.2.1.2.sm (by decide)
      · have : w k = 0 := if_neg hk
        rw [this]; decide
    have hset : ∀ o, 1 ≤ o → o ≤ 10 → (tS m (Int32.ofNat (150 + 900 * fo)) g2).2.2.2.1 35 o = w (o - 1) := by
      intro o h1 h2
      show g2 o = _
      rw [hw10 (o - 1) (by omega)]
      have ho : o = 1 ∨ o = 2 ∨ o = 3 ∨ o = 4 ∨ o = 5 ∨ o = 6 ∨ o = 7 ∨ o = 8 ∨ o = 9 ∨ o = 10 := by omega
      rcases ho with e | e | e | e | e | e | e | e | e | e <;> subst e
      · rw [u1, g0]
      · rw [u2, g1]
      · rw [u3, g2']
      · rw [u4, g3]
      · rw [u5, g4]
      · rw [u6, g5]
      · rw [u7, g6]
      · rw [u8, g7]
      · rw [u9, g8]
      · rw [u10, g9]
    obtain ⟨x, z0, bb', s2, v', u', k, hPk, hk12, hc, hm, hx, -, hx1⟩ := told_loop (P := P) (fz := fz) (c := sA c 801 g) (m := tS m (Int32.ofNat (150 + 900 * fo)) g2) (hd := hd) (base := 150 + 900 * fo) (w := w) (a1 := a1) (a2 := a2) (a3 := a3) (d := a1.toInt64) r3 hhd (fun k hk => hw10 k hk) hwb h20 rfl (by omega) hset rfl h23 ha1
    obtain ⟨s', hc⟩ := hc ((sA c 801 g).2.2.2.1 803)
    have eself : sB (sA c 801 g) 803 ((sA c 801 g).2.2.2.1 803) = sA c 801 g := by
      unfold sB
      have : va_up (sA c 801 g).2.2.2.1 803 ((sA c 801 g).2.2.2.1 803) = (sA c 801 g).2.2.2.1 := by
        funext q
        rw [vup_v]
        split
        · rename_i h; rw [h]
        · rfl
      rw [this]
    rw [eself] at hc
    refine ⟨x, sB (sA c 801 g) 803 s', eS (tS m (Int32.ofNat (150 + 900 * fo)) g2) bb' s2 v' u', ?_, by rw [t1]; exact hm, cq.w, mq.w, hx, hx1⟩
    have q112 : (sA c 801 g).1 112 = Int32.ofNat fo := h112.trans efo
    have qR : (sA c 801 g).2.2.2.2 107 fo = some q := r1
    unfold fX5_told fX6_lawInForce fX6_lawInForce_b30
    have e1 : Int32.ofNat nl - 1 = Int32.ofNat (nl - 1) := by rw [show (1 : Int32) = Int32.ofNat 1 from rfl, oN_sub (by omega)]
    rw [q112, q111, c_within, bs_v, e1, if_pos (show (0 : Int32) ≤ Int32.ofNat fo ∧ Int32.ofNat fo ≤ Int32.ofNat (nl - 1) from ⟨oN_nn (by omega), (oN_le (by omega) (by omega)).mpr (by omega)⟩), i10, gi_N (by omega) (by omega), oN_tn (by omega), qR, bd_v]
    show bs (fzGet fz q) _ = _
    rw [r2, bs_v, lt_v, hPk]
    exact hc
