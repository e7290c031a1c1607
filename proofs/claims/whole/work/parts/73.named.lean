/-! T2, what is asked of the law, by name: both -/
/-- land and laws alike -/
def Rq (fz : List FP) (c m : St) : Prop := Rl 0 c (m.2.2.1 3) ∧ Rw 0 fz c (m.2.2.1 3) ∧ m.1 20 = 0
theorem Rq.q {fz : List FP} {c m c' m' : St} (h : Rq fz c m) (k : cq c c') (k2 : mq m m') : Rq fz c' m' := by
  unfold Rq
  rw [k2.2.2.1, k2.1 20 (by decide) (by decide)]
  exact ⟨h.1.cq k (Or.inl rfl), h.2.1.cq k, h.2.2⟩
theorem o32 {b : Nat} (h : b < 2147483648) : (Int64.ofNat b).toInt32 = Int32.ofNat b := by rw [← o64 h, Int32.toInt32_toInt64]
theorem oN_div {a b : Nat} (ha : a < 2147483648) (hb : b < 2147483648) : Int32.ofNat a / Int32.ofNat b = Int32.ofNat (a / b) := (Int32.ofNat_div ha hb).symm
theorem bel_both {fz : List FP} {c m : St} {f : Nat} (sh : Int32) (h : Rq fz c m) (hf : f < 6) : ∃ b, b ≤ 1000000 ∧ fX5_belief (Int32.ofNat f) sh fz c = some (Int32.ofNat b, c) ∧ fX12_beliefBy (Int32.ofNat f) sh m = some (Int64.ofNat b, m) ∧ fX12_hundredths (Int32.ofNat f) sh m = some (Int32.ofNat (b / 10000), m) ∧ Int32.ofNat b / (10000 : Int32) = Int32.ofNat (b / 10000) := by
  obtain ⟨b, hb, eb⟩ := blf_nat (sh := sh) h.1 hf
  have h2 := m_belief (m := m) (sh := sh) hf (h.1.2.2.2.2.2.2.2.2.1 f hf).2
  refine ⟨b, hb, ?_, ?_, ?_, oN_div (b := 10000) (by omega) (by decide)⟩
  · rw [c_belief h.1 hf, eb, o32 (by omega)]
  · rw [h2, eb]
  · unfold fX12_hundredths
    rw [h2, bd_v, eb, show (10000 : Int64) = Int64.ofNat 10000 from rfl, ← Int64.ofNat_div (by omega) (by decide), o32 (by omega)]
theorem clmp_nb {hi : Nat} {v : Int32} (h : hi < 2147483648) : nb hi (clmp 0 (Int32.ofNat hi) v) := by
  unfold clmp
  have hx : ∃ x, (if v < Int32.ofNat hi then v else Int32.ofNat hi) = x ∧ x ≤ Int32.ofNat hi := by
    refine ⟨_, rfl, ?_⟩
    split
    · rename_i q; exact Int32.le_of_lt q
    · exact Int32.le_refl _
  obtain ⟨x, ex, hx⟩ := hx
  rw [ex]
  by_cases h0 : (0 : Int32) < x
  · rw [if_pos h0]; exact oN_exb (Int32.le_of_lt h0) h hx
  · rw [if_neg h0]; exact ⟨0, Nat.zero_le _, rfl⟩
theorem wsm_1 : wsm (-1) := by unfold wsm; decide
section Named
variable {fz : List FP} {c m : St} {f s : Nat}
theorem pays_both (h : Rq fz c m) (hf : f < 6) (hs : s < 6) : ∃ v c' m', fX5_pays (Int32.ofNat f) (Int32.ofNat s) fz c = some (v, c') ∧ fX12_paysOf (Int32.ofNat f) (Int32.ofNat s) m = some (v, m') ∧ cq c c' ∧ mq m m' ∧ nb 99 v := by
  have hsg := (h.1.2.2.2.2.2.2.2.2.2.1 (12 + s) (by omega))
  rw [if_neg (by omega), show 37 + (12 + s) = 49 + s by omega] at hsg
  obtain ⟨hsg, p, hp, ep⟩ := hsg
  obtain ⟨g, kg, -⟩ := c_ask (fz := fz) (sg := Int32.ofNat s) (ar := -1) (be := -1) (en := -1) h.1 hf
  obtain ⟨x, c', m', k1, k2, k3, k4, k5, -⟩ := asked (hd := 1) (sg := Int32.ofNat s) (ar := -1) (be := -1) (en := -1) (a1 := m.2.2.1 3 (49 + s)) (a2 := 0) (a3 := 99) h.1 h.2.1 h.2.2 hf (by decide) (nb.sm ⟨s, Nat.le_refl _, rfl⟩ (by omega)) wsm_1 wsm_1 wsm_1 (by rw [ep]; exact ⟨oN_nn (by omega), (oN_le (b := 99) (by omega) (by decide)).mpr hp⟩) (nb.sm ⟨p, hp, ep⟩ (by decide))
  rw [kg, bd_v] at k1
  refine ⟨clmp 0 99 x.toInt32, c', m', ?_, ?_, k3, k4, clmp_nb (hi := 99) (by decide)⟩
  · unfold fX5_pays
    have e12 : (12 : Int32) + Int32.ofNat s = Int32.ofNat (12 + s) := oN_add 12 s
    have e104 : (sA c 801 g).2.2.1 104 (12 + s) = m.2.2.1 3 (49 + s) := hsg
    rw [kg, bd_v, e12, gi_N (by omega) (by omega), oN_tn (by omega), e104, show (301 : Int32) = Int32.ofNat (300 + 1) from rfl, k1, bd_v]
  · unfold fX12_paysOf
    have e49 : (49 : Int32) + Int32.ofNat s = Int32.ofNat (49 + s) := oN_add 49 s
    have k2' : fX12_tells 1 (Int32.ofNat f) (Int32.ofNat s) (-1) (-1) (-1) (m.2.2.1 3 (49 + s)).toInt64 m = some (x, m') := k2
    rw [e49, gi_N (by omega) (by omega), oN_tn (by omega), k2', bd_v, m_within_clmp k5 (by decide), bs_v]
theorem bars_both (h : Rq fz c m) (hf : f < 6) (hs : s < 6) : ∃ v c' m', fX5_bars (Int32.ofNat f) (Int32.ofNat s) fz c = some (v, c') ∧ fX12_isBarred (Int32.ofNat f) (Int32.ofNat s) m = some (v, m') ∧ cq c c' ∧ mq m m' ∧ (v = 0 ∨ v = 1) := by
  obtain ⟨g, kg, -⟩ := c_ask (fz := fz) (sg := Int32.ofNat s) (ar := -1) (be := -1) (en := -1) h.1 hf
  obtain ⟨x, c', m', k1, k2, k3, k4, k5, k6⟩ := asked (hd := 3) (sg := Int32.ofNat s) (ar := -1) (be := -1) (en := -1) (a1 := 0) (a2 := 0) (a3 := 1) h.1 h.2.1 h.2.2 hf (by decide) (nb.sm ⟨s, Nat.le_refl _, rfl⟩ (by omega)) wsm_1 wsm_1 wsm_1 (by decide) (by unfold wsm; decide)
  rw [kg, bd_v] at k1
  have hc : ∀ v, clmp 0 1 x.toInt32 = v → fX5_bars (Int32.ofNat f) (Int32.ofNat s) fz c = if v = 1 then some (1, c') else some (0, c') := by
    intro v hv
    unfold fX5_bars
    rw [kg, bd_v, show (303 : Int32) = Int32.ofNat (300 + 3) from rfl, k1, bd_v, hv]
    rfl
  have hm : fX12_isBarred (Int32.ofNat f) (Int32.ofNat s) m = if x = 1 then some (1, m') else some (0, m') := by
    unfold fX12_isBarred
    have k2' : fX12_tells 3 (Int32.ofNat f) (Int32.ofNat s) (-1) (-1) (-1) 0 m = some (x, m') := k2
    rw [k2', bd_v]
    by_cases hx : x = 1
    · rw [if_pos ((cmp_eq _ _).mpr hx), if_pos hx]; rfl
    · rw [if_neg (fun q => hx ((cmp_eq _ _).mp q)), if_neg hx]; rfl
  rcases k6 rfl with e | e
  · subst e
    exact ⟨0, c', m', hc 0 rfl, hm, k3, k4, Or.inl rfl⟩
  · subst e
    exact ⟨1, c', m', hc 1 rfl, hm, k3, k4, Or.inr rfl⟩
theorem tells_both (sh hour : Int32) (h : Rq fz c m) (hf : f < 6) (hh : wsm hour) : ∃ b t c' m', b ≤ 1000000 ∧ t ≤ 100 ∧ (∃ g, fX5_ask (Int32.ofNat f) (-1) hour (Int32.ofNat (b / 10000)) (-1) fz c = some ((), sA c 801 g) ∧ fX5_told 300 50 0 100 fz (sA c 801 g) = some (Int32.ofNat t, c')) ∧ fX5_belief (Int32.ofNat f) sh fz c = some (Int32.ofNat b, c) ∧ Int32.ofNat b / (10000 : Int32) = Int32.ofNat (b / 10000) ∧ fX12_hundredths (Int32.ofNat f) sh m = some (Int32.ofNat (b / 10000), m) ∧ fX12_turnsAt (Int32.ofNat f) hour sh m = some (Int32.ofNat t, m') ∧ cq c c' ∧ mq m m' := by
  obtain ⟨b, hb, e1, e2, e3, e4⟩ := bel_both sh h hf
  obtain ⟨g, kg, -⟩ := c_ask (fz := fz) (sg := -1) (ar := hour) (be := Int32.ofNat (b / 10000)) (en := -1) h.1 hf
  obtain ⟨x, c', m', k1, k2, k3, k4, k5, -⟩ := asked (hd := 0) (sg := -1) (ar := hour) (be := Int32.ofNat (b / 10000)) (en := -1) (a1 := 50) (a2 := 0) (a3 := 100) h.1 h.2.1 h.2.2 hf (by decide) wsm_1 hh (nb.sm ⟨b / 10000, Nat.le_refl _, rfl⟩ (by omega)) wsm_1 (by decide) (by unfold wsm; decide)
  rw [kg, bd_v] at k1
  obtain ⟨t, ht, et⟩ := clmp_nb (hi := 100) (v := x.toInt32) (by decide)
  have et' : clmp 0 100 x.toInt32 = Int32.ofNat t := et
  refine ⟨b, t, c', m', hb, ht, ⟨g, kg, ?_⟩, e1, e4, e3, ?_, k3, k4⟩
  · rw [← et']; exact k1
  · unfold fX12_turnsAt
    have k2' : fX12_tells 0 (Int32.ofNat f) (-1) hour (Int32.ofNat (b / 10000)) (-1) 50 m = some (x, m') := k2
    rw [e3, bd_v, k2', bd_v, m_within_clmp k5 (by decide), bs_v, et']
theorem turnsAt_both (hour : Int32) (h : Rq fz c m) (hf : f < 6) (hh : wsm hour) : ∃ v c' m', fX5_turnsAt (Int32.ofNat f) hour fz c = some (v, c') ∧ fX12_turnsAt (Int32.ofNat f) hour (m.2.2.1 3 (19 + f)) m = some (v, m') ∧ cq c c' ∧ mq m m' ∧ nb 100 v := by
  have hsh : c.2.2.1 201 f = m.2.2.1 3 (19 + f) := (h.1.2.2.2.2.2.2.1 f hf).1
  obtain ⟨b, t, c', m', hb, ht, ⟨g, kg, k1⟩, e1, e4, e3, k2, k3, k4⟩ := tells_both (m.2.2.1 3 (19 + f)) hour h hf hh
  refine ⟨Int32.ofNat t, c', m', ?_, k2, k3, k4, ⟨t, ht, rfl⟩⟩
  unfold fX5_turnsAt
  rw [gi_N (by omega) (by omega), oN_tn (by omega), hsh, e1, bd_v, e4, kg, bd_v, k1, bd_v]
theorem turns_both (sh hour : Int32) (h : Rq fz c m) (hf : f < 6) (hh : wsm hour) : ∃ v c' m', fX5_turns (Int32.ofNat f) hour sh fz c = some (v, c') ∧ fX12_isTurned (Int32.ofNat f) hour sh m = some (v, m') ∧ cq c c' ∧ mq m m' ∧ (v = 0 ∨ v = 1) := by
  obtain ⟨b, t, c', m', hb, ht, ⟨g, kg, k1⟩, e1, e4, e3, k2, k3, k4⟩ := tells_both sh hour h hf hh
  have hc : fX5_turns (Int32.ofNat f) hour sh fz c = if b < 10000 * t then some (0, c') else some (1, c') := by
    unfold fX5_turns
    rw [e1, bd_v, e4, kg, bd_v, k1, bd_v, show (10000 : Int32) = Int32.ofNat 10000 from rfl, oN_mul]
    by_cases q : b < 10000 * t
    · rw [if_ltT q (by omega), if_pos q]; rfl
    · rw [if_ltF (by omega) (by omega), if_neg q]; rfl
  have hm : fX12_isTurned (Int32.ofNat f) hour sh m = if b < 10000 * t then some (0, m') else some (1, m') := by
    unfold fX12_isTurned
    rw [e3, bd_v, k2, bd_v]
    by_cases q : b < 10000 * t
    · rw [if_ltT (by omega) (by omega), if_pos q]; rfl
    · rw [if_ltF (by omega) (by omega), if_neg q]; rfl
  by_cases q : b < 10000 * t
  · rw [if_pos q] at hc hm; exact ⟨0, c', m', hc, hm, k3, k4, Or.inl rfl⟩
  · rw [if_neg q] at hc hm; exact ⟨1, c', m', hc, hm, k3, k4, Or.inr rfl⟩
/-- what fame gains: the reference's own words in its march -/
theorem fame_both (hour en : Int32) (h : Rq fz c m) (hf : f < 6) (hh : wsm hour) (he : wsm en) : ∃ v b x c' m', fX5_fameBy (Int32.ofNat f) hour en fz c = some (v, c') ∧ fX12_hundredths (Int32.ofNat f) (m.2.2.1 3 (19 + f)) m = some (b, m) ∧ fX12_tells 2 (Int32.ofNat f) (-1) hour b en 0 m = some (x, m') ∧ fX12_within x (-20) 20 = some v ∧ cq c c' ∧ mq m m' ∧ v = clmp (-20) 20 x.toInt32 := by
  have hsh : c.2.2.1 201 f = m.2.2.1 3 (19 + f) := (h.1.2.2.2.2.2.2.1 f hf).1
  obtain ⟨b, hb, e1, e2, e3, e4⟩ := bel_both (m.2.2.1 3 (19 + f)) h hf
  obtain ⟨g, kg, -⟩ := c_ask (fz := fz) (sg := -1) (ar := hour) (be := Int32.ofNat (b / 10000)) (en := en) h.1 hf
  obtain ⟨x, c', m', k1, k2, k3, k4, k5, -⟩ := asked (hd := 2) (sg := -1) (ar := hour) (be := Int32.ofNat (b / 10000)) (en := en) (a1 := 0) (a2 := -20) (a3 := 20) h.1 h.2.1 h.2.2 hf (by decide) wsm_1 hh (nb.sm ⟨b / 10000, Nat.le_refl _, rfl⟩ (by omega)) he (by decide) (by unfold wsm; decide)
  rw [kg, bd_v] at k1
  refine ⟨_, Int32.ofNat (b / 10000), x, c', m', ?_, e3, k2, m_within_clmp k5 (by decide), k3, k4, rfl⟩
  unfold fX5_fameBy
  rw [gi_N (by omega) (by omega), oN_tn (by omega), hsh, e1, bd_v, e4, kg, bd_v, show (302 : Int32) = Int32.ofNat (300 + 2) from rfl, k1, bd_v]
end Named
