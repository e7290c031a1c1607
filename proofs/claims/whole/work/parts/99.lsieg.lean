/-! T2, sieges: one round, all rounds -/
section Sieg
variable {fz : List FP}
theorem b106_both {c m : St} {f n : Nat} {a : Int32} (h : Rq fz c m) (h0 : m.2.2.1 3 0 = Int32.ofNat n) (hn : n ≤ 6) (hf : f < n) (ha : (1 : Int32) ≤ a ∧ a ≤ 99) (ht : m.2.2.1 3 (25 + f) = 0) : ∃ w c' m', (w = 0 ∨ w = 1) ∧ fX3_runOnce_b106 fz (Int32.ofNat f) a c = some (w, c') ∧ (∀ (km : Int32 → Int32 → Int32 → St → Option (Int32 × St)) v2 v3 v4, (bd (fX12_canMarch (Int32.ofNat f) m) (fun r16 st17 => if r16 = 0 then (fX12_sieges_b208 km v2 v4 v3 st17) else (bd (fX12_marchIt a (Int32.ofNat f) st17) (fun r18 st19 => if r18 = (1 : Int32) then (fX12_sieges_b209 km v2 v4 (1 : Int32) v3 st19) else (fX12_sieges_b208 km v2 v4 v3 st19))))) = km v2 (v3 + w) (v4 + 1) m') ∧ Rq fz c' m' ∧ c'.2.1 1105 = c.2.1 1105 ∧ m'.2.1 50 = m.2.1 50 ∧ sfc c c' ∧ sfm m m' := by
  have hf6 : f < 6 := by omega
  have h108 : c.1 108 = Int32.ofNat n := h.1.1.1.trans h0
  have q202 : c.2.2.1 202 f = 0 := ((h.1.2.2.2.2.2.2.2.1 f hf6).1).trans ht
  obtain ⟨q2', d, hd, ed⟩ := h.1.2.1
  have q204 : c.1 204 = Int32.ofNat d := q2'.trans ed
  have q6 : m.2.2.1 3 (6 : Int32).toNatClampNeg = Int32.ofNat d := ed
  have e25 : (25 : Int32) + Int32.ofNat f = Int32.ofNat (25 + f) := oN_add 25 f
  have hcm : fX12_canMarch (Int32.ofNat f) m = some (if d < 999 then 1 else 0, m) := by
    unfold fX12_canMarch fX12_canMarch_b29 fX12_canMarch_b30
    rw [e25, gi_N (show 25 + f < 5550 by omega) (by decide), oN_tn (show 25 + f < 2147483648 by omega), ht, if_pos rfl, q6]
    by_cases q : d < 999
    · rw [if_neg (show ¬ ((999 : Int32) ≤ Int32.ofNat d) from fun w => by have := (oN_le (a := 999) (by decide) (by omega)).mp w; omega), if_pos q]; rfl
    · rw [if_pos (show (999 : Int32) ≤ Int32.ofNat d from (oN_le (a := 999) (by decide) (by omega)).mpr (by omega)), if_neg q]; rfl
  unfold fX3_runOnce_b106 fX3_runOnce_b136 fX3_runOnce_b137
  rw [rf_march h108 hn hf ha q202 q204 hd, bd_v, hcm]
  by_cases q : d < 999
  · obtain ⟨g, hg4, hg⟩ := gen_ex h hf6
    obtain ⟨v, c', m', hv, z1, z2, z3⟩ := marchOn_both (fz := fz) (a := a) (g := g) h hf6 hg hg4 ha ⟨d, q, ed⟩
    rw [if_pos q, if_pos rfl, z1, bd_v]
    by_cases e : v = 1
    · refine ⟨1, c', m', Or.inr rfl, ?_, fun km v2 v3 v4 => ?_, z3.1, by rw [z3.2.1.2.1], z3.2.2.1.2.1 50 (by decide), z3.sc, z3.sm⟩
      · rw [if_pos e]; rfl
      · unfold fX12_sieges_b208 fX12_sieges_b209 fX12_sieges_b211
        rw [bd_v, if_pos q, if_neg one_ne0, z2, bd_v, if_pos e, lt_v, lt_v]
    · refine ⟨0, c', m', Or.inl rfl, ?_, fun km v2 v3 v4 => ?_, z3.1, by rw [z3.2.1.2.1], z3.2.2.1.2.1 50 (by decide), z3.sc, z3.sm⟩
      · rw [if_neg e]; rfl
      · unfold fX12_sieges_b208 fX12_sieges_b209 fX12_sieges_b211
        rw [bd_v, if_pos q, if_neg one_ne0, z2, bd_v, if_neg e, lt_v, lt_v]
  · refine ⟨0, c, m, Or.inl rfl, ?_, fun km v2 v3 v4 => ?_, h, rfl, rfl, sfc.rf, sfm.rf⟩
    · rw [if_neg q, if_neg zm3]; rfl
    · unfold fX12_sieges_b208 fX12_sieges_b209 fX12_sieges_b211
      rw [bd_v, if_neg q, if_pos rfl, lt_v, lt_v]
/-- one round of sieges -/
theorem once_both {c m : St} {x n : Nat} (h : Rq fz c m) (h0 : m.2.2.1 3 0 = Int32.ofNat n) (hn1 : 1 ≤ n) (hn : n ≤ 6) (hx : x < 1000003) (s1 : c.2.1 1105 = Int64.ofNat x) (s2 : m.2.1 50 = Int64.ofNat x) : ∃ w y c' m', (w = 0 ∨ w = 1) ∧ y < 1000003 ∧ fX3_runOnce fz c = some (w, c') ∧ (∀ (km : Int32 → Int32 → Int32 → St → Option (Int32 × St)) v2 v3 v4, ¬ v2 ≤ v4 → fX12_sieges_b68 km v2 v3 v4 m = km v2 (v3 + w) (v4 + 1) m') ∧ Rq fz c' m' ∧ c'.2.1 1105 = Int64.ofNat y ∧ m'.2.1 50 = Int64.ofNat y ∧ sfc c c' ∧ sfm m m' := by
  have h108 : c.1 108 = Int32.ofNat n := h.1.1.1.trans h0
  have e0 : m.2.2.1 3 (0 : Int32).toNatClampNeg = Int32.ofNat n := h0
  obtain ⟨y1, hy1, a1, b1⟩ := draw_both (fz := fz) (n := n) hx hn1 (by omega) s1 s2
  obtain ⟨y2, hy2, a2, b2⟩ := draw_both (fz := fz) (c := sJ c 1105 (Int64.ofNat y1)) (m := sJ m 50 (Int64.ofNat y1)) (n := 99) hy1 (by omega) (by omega) rfl rfl
  obtain ⟨y3, hy3, a3, b3⟩ := draw_both (fz := fz) (c := sJ (sJ c 1105 (Int64.ofNat y1)) 1105 (Int64.ofNat y2)) (m := sJ (sJ m 50 (Int64.ofNat y1)) 50 (Int64.ofNat y2)) (n := 6) hy2 (by omega) (by omega) rfl rfl
  have hf : y1 % n < n := Nat.mod_lt _ (by omega)
  have hw : y2 % 99 < 99 := Nat.mod_lt _ (by omega)
  have hs : y3 % 6 < 6 := Nat.mod_lt _ (by omega)
  have a2' : fX3_draw 99 fz (sJ c 1105 (Int64.ofNat y1)) = _ := a2
  have b2' : fX12_draw 99 (sJ m 50 (Int64.ofNat y1)) = _ := b2
  have a3' : fX3_draw 6 fz (sJ (sJ c 1105 (Int64.ofNat y1)) 1105 (Int64.ofNat y2)) = _ := a3
  have b3' : fX12_draw 6 (sJ (sJ m 50 (Int64.ofNat y1)) 50 (Int64.ofNat y2)) = _ := b3
  generalize hc1 : sJ (sJ (sJ c 1105 (Int64.ofNat y1)) 1105 (Int64.ofNat y2)) 1105 (Int64.ofNat y3) = c1 at a3'
  generalize hm1 : sJ (sJ (sJ m 50 (Int64.ofNat y1)) 50 (Int64.ofNat y2)) 50 (Int64.ofNat y3) = m1 at b3'
  have h1 : Rq fz c1 m1 := by rw [← hc1, ← hm1]; exact h
  have t1 : c1.2.1 1105 = Int64.ofNat y3 := by rw [← hc1]; rfl
  have t2 : m1.2.1 50 = Int64.ofNat y3 := by rw [← hm1]; rfl
  have r3 : m1.2.2.1 3 = m.2.2.1 3 := by rw [← hm1]; rfl
  have F1 : sfc c c1 := by rw [← hc1]; exact (sfc.j.tr sfc.j).tr sfc.j
  have F2 : sfm m m1 := by rw [← hm1]; exact (sfm.j.tr sfm.j).tr sfm.j
  have k0 : m1.2.2.1 3 0 = Int32.ofNat n := by rw [r3]; exact h0
  have k108 : c1.1 108 = Int32.ofNat n := h1.1.1.1.trans k0
  generalize y1 % n = f at hf a1 b1
  generalize hwe : y2 % 99 = w0 at hw a2' b2'
  generalize y3 % 6 = s at hs a3' b3'
  have hf6 : f < 6 := by omega
  have ha : (1 : Int32) ≤ Int32.ofNat (w0 + 1) ∧ Int32.ofNat (w0 + 1) ≤ 99 := ⟨(oN_le (a := 1) (by decide) (by omega)).mpr (by omega), (oN_le (b := 99) (by omega) (by decide)).mpr (by omega)⟩
  have e25 : (25 : Int32) + Int32.ofNat f = Int32.ofNat (25 + f) := oN_add 25 f
  have e19 : (19 : Int32) + Int32.ofNat f = Int32.ofNat (19 + f) := oN_add 19 f
  obtain ⟨q1', hsh⟩ := h1.1.2.2.2.2.2.2.1 f hf6
  have q201 : c1.2.2.1 201 f = m1.2.2.1 3 (19 + f) := q1'
  have q202 : c1.2.2.1 202 f = m1.2.2.1 3 (25 + f) := (h1.1.2.2.2.2.2.2.2.1 f hf6).1
  have hcr : fX3_runOnce fz c = (if ((m1.2.2.1 3 (19 + f) >>> (Int32.ofNat s &&& 31)) &&& 1) = 1 then fX3_runOnce_b78 fz (Int32.ofNat f) (Int32.ofNat (w0 + 1)) (Int32.ofNat s) 1 c1 else fX3_runOnce_b78 fz (Int32.ofNat f) (Int32.ofNat (w0 + 1)) (Int32.ofNat s) 0 c1) := by
    unfold fX3_runOnce fX3_runOnce_b66
    rw [h108, a1, bd_v, a2', bd_v, lt_v, a3', bd_v, has_1 k108 hn hf, bd_v, if_neg one_ne0, gi_N hf6 (by decide), oN_tn (show f < 2147483648 by omega), q201, oN_s, if_neg one_ne0, if_pos rfl]
  have hmr : ∀ (km : Int32 → Int32 → Int32 → St → Option (Int32 × St)) v2 v3 v4, ¬ v2 ≤ v4 → fX12_sieges_b68 km v2 v3 v4 m = (if m1.2.2.1 3 (25 + f) = 0 then (if ((m1.2.2.1 3 (19 + f) >>> (Int32.ofNat s &&& 31)) &&& 1) = 1 then (fX12_sieges_b181 km v2 v3 v4 (Int32.ofNat f) (Int32.ofNat (w0 + 1)) (m1.2.2.1 3 (19 + f) - ((1 : Int32) <<< (Int32.ofNat s &&& 31))) (Int32.ofNat (19 + f)) m1) else (bd (fX12_canShow (Int32.ofNat f) (Int32.ofNat s) m1) (fun r30 st31 => if r30 = 0 then (fX12_sieges_b181 km v2 v3 v4 (Int32.ofNat f) (Int32.ofNat (w0 + 1)) (m1.2.2.1 3 (19 + f)) (Int32.ofNat (19 + f)) st31) else (fX12_sieges_b181 km v2 v3 v4 (Int32.ofNat f) (Int32.ofNat (w0 + 1)) (m1.2.2.1 3 (19 + f) ||| ((1 : Int32) <<< (Int32.ofNat s &&& 31))) (Int32.ofNat (19 + f)) st31)))) else km v2 v3 (v4 + 1) m1) := by
    intro km v2 v3 v4 hle
    unfold fX12_sieges_b68 fX12_sieges_b211
    rw [if_neg hle, e0, b1, bd_v, b2', bd_v, lt_v, b3', bd_v, e25, gi_N (show 25 + f < 5550 by omega) (by decide), oN_tn (show 25 + f < 2147483648 by omega), e19, gi_N (show 19 + f < 5550 by omega) (by decide), oN_tn (show 19 + f < 2147483648 by omega), oN_s, lt_v, m_is, bs_v, lt_v]
    by_cases ht : m1.2.2.1 3 (25 + f) = 0
    · rw [if_pos ht, if_pos ht]
      by_cases hb : ((m1.2.2.1 3 (19 + f) >>> (Int32.ofNat s &&& 31)) &&& 1) = 1
      · rw [if_pos hb, if_neg one_ne0, if_pos hb]
      · rw [if_neg hb, if_pos rfl, if_neg hb]
    · rw [if_neg ht, if_neg ht]
  -- behind the sign: the march
  have go : ∀ {c2 m2 : St} {g : Nat} (v : Int32), Mt fz f g c1 m1 c2 (sA m2 3 (upd (m2.2.2.1 3) (19 + f) v)) → m2.2.2.1 3 = m1.2.2.1 3 → m1.2.2.1 3 (25 + f) = 0 → ∃ w y c' m', (w = 0 ∨ w = 1) ∧ y < 1000003 ∧ fX3_runOnce_b106 fz (Int32.ofNat f) (Int32.ofNat (w0 + 1)) c2 = some (w, c') ∧ (∀ (km : Int32 → Int32 → Int32 → St → Option (Int32 × St)) v2 v3 v4, fX12_sieges_b181 km v2 v3 v4 (Int32.ofNat f) (Int32.ofNat (w0 + 1)) v (Int32.ofNat (19 + f)) m2 = km v2 (v3 + w) (v4 + 1) m') ∧ Rq fz c' m' ∧ c'.2.1 1105 = Int64.ofNat y ∧ m'.2.1 50 = Int64.ofNat y ∧ sfc c c' ∧ sfm m m' := by
    intro c2 m2 g v M hm2 ht
    have r0 : (sA m2 3 (upd (m2.2.2.1 3) (19 + f) v)).2.2.1 3 0 = Int32.ofNat n := by
      rw [M.sm.2.2.2.2.2 0 (by omega)]; exact k0
    have rt : (sA m2 3 (upd (m2.2.2.1 3) (19 + f) v)).2.2.1 3 (25 + f) = 0 := by
      show upd (m2.2.2.1 3) (19 + f) v (25 + f) = 0
      rw [upd_v, if_neg (by omega), hm2]; exact ht
    obtain ⟨w, c', m', p1, p2, p3, p4, p7, p8, p5, p6⟩ := b106_both (fz := fz) (f := f) (n := n) (a := Int32.ofNat (w0 + 1)) M.1 r0 hn hf ha rt
    refine ⟨w, y3, c', m', p1, hy3, p2, fun km v2 v3 v4 => ?_, p4, ?_, ?_, (F1.tr M.sc).tr p5, (F2.tr M.sm).tr p6⟩
    · unfold fX12_sieges_b181
      rw [gi_N (show 19 + f < 5550 by omega) (by decide), oN_tn (show 19 + f < 2147483648 by omega), lt_v]
      exact p3 km v2 v3 v4
    · rw [p7, M.2.1.2.1]; exact t1
    · rw [p8, M.2.2.1.2.1 50 (by decide)]; exact t2
  obtain ⟨g, hg4, hg⟩ := gen_ex h1 hf6
  rcases tk_ex h1 hf6 with ht | ht
  · by_cases hb : ((m1.2.2.1 3 (19 + f) >>> (Int32.ofNat s &&& 31)) &&& 1) = 1
    · have M1 : Mt fz f g c1 m1 (sA c1 201 (upd (c1.2.2.1 201) f (m1.2.2.1 3 (19 + f) ^^^ ((1 : Int32) <<< (Int32.ofNat s &&& 31))))) (sA m1 3 (upd (m1.2.2.1 3) (19 + f) (m1.2.2.1 3 (19 + f) ^^^ ((1 : Int32) <<< (Int32.ofNat s &&& 31))))) := Mt.shown h1 hf6 (bx_nb hsh hs)
      obtain ⟨w, y, c', m', p1, p2, p3, p4, p5⟩ := go _ M1 rfl ht
      refine ⟨w, y, c', m', p1, p2, ?_, fun km v2 v3 v4 hle => ?_, p5⟩
      · rw [hcr, if_pos hb]
        unfold fX3_runOnce_b78
        rw [rf_hide k108 hn hf hs (q202.trans ht) (by rw [q201]; exact hb), bd_v, if_pos rfl, hide_mut h1 hf6, bd_v]
        exact p3
      · rw [hmr km v2 v3 v4 hle, if_pos ht, if_pos hb, bx_set hsh hs hb]
        exact p4 km v2 v3 v4
    · obtain ⟨w, c2, m2, hw1, u1, u2, u3, u4⟩ := rf_show (fz := fz) h1 k108 hn hf hs (q202.trans ht) (by rw [q201]; exact hb)
      have r4 : m2.2.2.1 3 = m1.2.2.1 3 := by rw [u4.2.2.1]
      have hcs : fX12_canShow (Int32.ofNat f) (Int32.ofNat s) m1 = some (if w = 0 then 1 else 0, m2) := by
        unfold fX12_canShow fX12_canShow_b41 fX12_canShow_b42
        rw [e25, gi_N (show 25 + f < 5550 by omega) (by decide), oN_tn (show 25 + f < 2147483648 by omega), ht, if_pos rfl, e19, gi_N (show 19 + f < 5550 by omega) (by decide), oN_tn (show 19 + f < 2147483648 by omega), m_is, bs_v, if_neg hb, if_pos rfl, u2, bd_v]
        rcases hw1 with e | e <;> subst e
        · rw [if_pos rfl, if_pos rfl, gb_1]
        · rw [if_neg one_ne0, if_neg one_ne0, gb_0]
      have h2 : Rq fz c2 m2 := h1.q u3 u4
      have M0 : Mt fz f g c1 m1 c2 m2 := Mt.q h1 u3 u4
      rcases hw1 with e | e <;> subst e
      · obtain ⟨z, c3, m3, hz, z1, z2, z3, z4⟩ := show_mut (s := s) h2 hf6 hs
        have hx2 : nb 63 (m2.2.2.1 3 (19 + f)) := by rw [r4]; exact hsh
        have M1 : Mt fz f g c2 m2 _ _ := Mt.shown h2 hf6 (bx_nb hx2 hs)
        have M2 : Mt fz f g (sA c2 201 (upd (c2.2.2.1 201) f (m2.2.2.1 3 (19 + f) ^^^ ((1 : Int32) <<< (Int32.ofNat s &&& 31))))) (sA m2 3 (upd (m2.2.2.1 3) (19 + f) (m2.2.2.1 3 (19 + f) ^^^ ((1 : Int32) <<< (Int32.ofNat s &&& 31))))) c3 (sA m2 3 (upd (m2.2.2.1 3) (19 + f) (m2.2.2.1 3 (19 + f) ^^^ ((1 : Int32) <<< (Int32.ofNat s &&& 31))))) := Mt.q M1.1 z3 mq.rf
        obtain ⟨w, y, c', m', p1, p2, p3, p4, p5⟩ := go _ ((M0.tr M1).tr M2) r4 ht
        refine ⟨w, y, c', m', p1, p2, ?_, fun km v2 v3 v4 hle => ?_, p5⟩
        · rw [hcr, if_neg hb]
          unfold fX3_runOnce_b78
          rw [u1, if_pos rfl, bd_v, if_pos rfl, z1, bd_v]
          exact p3
        · rw [hmr km v2 v3 v4 hle, if_pos ht, if_neg hb, hcs, if_pos rfl, bd_v, if_neg one_ne0, bx_clr hsh hs hb, ← r4]
          exact p4 km v2 v3 v4
      · have hself : sA m2 3 (upd (m2.2.2.1 3) (19 + f) (m1.2.2.1 3 (19 + f))) = m2 := by
          rw [← r4, upd_self, sA_self]
        obtain ⟨w, y, c', m', p1, p2, p3, p4, p5⟩ := go (c2 := c2) (m2 := m2) (g := g) (m1.2.2.1 3 (19 + f)) (by rw [hself]; exact M0) r4 ht
        refine ⟨w, y, c', m', p1, p2, ?_, fun km v2 v3 v4 hle => ?_, p5⟩
        · rw [hcr, if_neg hb]
          unfold fX3_runOnce_b78
          rw [u1, if_neg one_ne0, bd_v, if_neg zm3]
          exact p3
        · rw [hmr km v2 v3 v4 hle, if_pos ht, if_neg hb, hcs, if_neg one_ne0, bd_v, if_pos rfl]
          exact p4 km v2 v3 v4
  · have ct : c1.2.2.1 202 f = 1 := q202.trans ht
    have hmarch : fX3_runOnce_b106 fz (Int32.ofNat f) (Int32.ofNat (w0 + 1)) c1 = some (0, c1) := by
      unfold fX3_runOnce_b106 fX3_runOnce_b136 fX3_runOnce_b137
      have : fX2_refusalOf 3 (Int32.ofNat f) (Int32.ofNat (w0 + 1)) fz c1 = some (-3, c1) := rf_taken (d := 3) (by decide) k108 hn hf ha ct
      rw [this, bd_v, if_neg zm3]; rfl
    have hsg : (0 : Int32) ≤ Int32.ofNat s ∧ Int32.ofNat s ≤ 5 := ⟨oN_nn (by omega), (oN_le (b := 5) (by omega) (by decide)).mpr (by omega)⟩
    have r0 : fX2_refusalOf 0 (Int32.ofNat f) (Int32.ofNat s) fz c1 = some (-3, c1) := rf_taken (d := 0) (by decide) k108 hn hf hsg ct
    have r1 : fX2_refusalOf 1 (Int32.ofNat f) (Int32.ofNat s) fz c1 = some (-3, c1) := rf_taken (d := 1) (by decide) k108 hn hf hsg ct
    refine ⟨0, y3, c1, m1, Or.inl rfl, hy3, ?_, fun km v2 v3 v4 hle => ?_, h1, t1, t2, F1, F2⟩
    · rw [hcr]
      unfold fX3_runOnce_b78
      rw [r0, r1, bd_v, bd_v, if_neg zm3, if_neg zm3, hmarch]
      split <;> rfl
    · rw [hmr km v2 v3 v4 hle, ht, if_neg one_ne0, Int32.add_zero]
end Sieg
