/-! T2, orders: one time of one clause -/
section OrdO
variable {fz : List FP} {c m : St}
/-- what running writes -/
def FC (c c' : St) : Prop := (∀ k, k ∉ [204, 905, 1006, 1007] → c'.1 k = c.1 k) ∧ c'.2.1 = c.2.1 ∧ (∀ k, k ∉ [200, 201, 202, 203, 801, 902, 1004] → c'.2.2.1 k = c.2.2.1 k) ∧ (∀ k, k ∉ [803, 1005] → c'.2.2.2.1 k = c.2.2.2.1 k) ∧ c'.2.2.2.2 = c.2.2.2.2
def FM (m m' : St) : Prop := (∀ k, k ∉ [8, 34, 38, 46, 47, 49] → m'.1 k = m.1 k) ∧ (∀ k, k ∉ [39, 40] → m'.2.1 k = m.2.1 k) ∧ (∀ k, k ∉ [3, 6, 7] → m'.2.2.1 k = m.2.2.1 k) ∧ (∀ k, k ∉ [35, 36, 37] → m'.2.2.2.1 k = m.2.2.2.1 k) ∧ m'.2.2.2.2 = m.2.2.2.2 ∧ (∀ k, k < 6 ∨ 31 ≤ k → m'.2.2.1 3 k = m.2.2.1 3 k) ∧ ∀ j, 400 ≤ j → m'.2.2.1 6 j = m.2.2.1 6 j
theorem FC.rf {c : St} : FC c c := ⟨fun _ _ => rfl, rfl, fun _ _ => rfl, fun _ _ => rfl, rfl⟩
theorem FM.rf {m : St} : FM m m := ⟨fun _ _ => rfl, fun _ _ => rfl, fun _ _ => rfl, fun _ _ => rfl, rfl, fun _ _ => rfl, fun _ _ => rfl⟩
theorem FC.tr {a b d : St} (h : FC a b) (k : FC b d) : FC a d := ⟨fun q hq => (k.1 q hq).trans (h.1 q hq), k.2.1.trans h.2.1, fun q hq => (k.2.2.1 q hq).trans (h.2.2.1 q hq), fun q hq => (k.2.2.2.1 q hq).trans (h.2.2.2.1 q hq), k.2.2.2.2.trans h.2.2.2.2⟩
theorem FM.tr {a b d : St} (h : FM a b) (k : FM b d) : FM a d := ⟨fun q hq => (k.1 q hq).trans (h.1 q hq), fun q hq => (k.2.1 q hq).trans (h.2.1 q hq), fun q hq => (k.2.2.1 q hq).trans (h.2.2.1 q hq), fun q hq => (k.2.2.2.1 q hq).trans (h.2.2.2.1 q hq), k.2.2.2.2.1.trans h.2.2.2.2.1, fun q hq => (k.2.2.2.2.2.1 q hq).trans (h.2.2.2.2.2.1 q hq), fun q hq => (k.2.2.2.2.2.2 q hq).trans (h.2.2.2.2.2.2 q hq)⟩
theorem nin {L M : List Nat} (s : ∀ x, x ∈ L → x ∈ M) {k : Nat} (h : k ∉ M) : k ∉ L := fun e => h (s k e)
theorem df.FC {c c' : St} (h : df c c') : FC c c' := ⟨fun k hk => h.1 k (nin (by decide) hk), h.2.1, fun k hk => h.2.2.1 k (nin (by decide) hk), fun k hk => h.2.2.2.1 k (nin (by decide) hk), h.2.2.2.2⟩
theorem dm.FM {m m' : St} (h : dm m m') (h6 : ∀ j, 400 ≤ j → m'.2.2.1 6 j = m.2.2.1 6 j) : FM m m' := ⟨fun k hk => h.1 k (nin (by decide) hk), fun k hk => h.2.1 k (nin (by decide) hk), fun k hk => h.2.2.1 k (nin (by decide) hk), fun k hk => h.2.2.2.1 k (nin (by decide) hk), h.2.2.2.2.1, h.2.2.2.2.2, h6⟩
theorem eM.FM {m m' : St} (h : eM m m') : FM m m' := ⟨fun k hk => h.1 k (nin (by decide) hk), fun k hk => h.2.1 k (nin (by decide) hk), fun k _ => by rw [h.2.2.1], fun k hk => h.2.2.2.1 k (nin (by decide) hk), h.2.2.2.2, fun k _ => by rw [h.2.2.1], fun k _ => by rw [h.2.2.1]⟩
/-- what looking and reckoning write, the class -/
def eC (c c' : St) : Prop := c'.1 = c.1 ∧ c'.2.1 = c.2.1 ∧ (∀ k, k ≠ 1004 → c'.2.2.1 k = c.2.2.1 k) ∧ (∀ k, k ≠ 1005 → c'.2.2.2.1 k = c.2.2.2.1 k) ∧ c'.2.2.2.2 = c.2.2.2.2
theorem eC.FC {c c' : St} (h : eC c c') : FC c c' := ⟨fun k _ => by rw [h.1], h.2.1, fun k hk => h.2.2.1 k (fun e => hk (by rw [e]; decide)), fun k hk => h.2.2.2.1 k (fun e => hk (by rw [e]; decide)), h.2.2.2.2⟩
theorem Rq.e {c' m' : St} (h : Rq fz c m) (k : eC c c') (q : eM m m') : Rq fz c' m' := by
  refine ⟨h.1.a (fun x _ => by rw [k.1]) (fun x hx => k.2.2.1 x (fun e => by rw [e] at hx; exact absurd hx (by decide))) (fun x _ => by rw [q.2.2.1]), h.2.1.a (fun x _ => by rw [k.1]) (by rw [k.2.2.2.2]) (fun x _ => by rw [q.2.2.1]), ?_⟩
  rw [q.1 20 (by decide)]; exact h.2.2
theorem Ru.e {c' m' : St} (h : Ru c m) (k : eC c c') (q : eM m m') : Ru c' m' := h.a (by rw [k.1]) (k.2.2.1 902 (by decide)) (q.1 8 (by decide)) (by rw [q.2.2.1]) (by rw [q.2.2.1]) (fun x _ => by rw [q.2.2.1])
theorem WR.e {w : Nat → Int64} {n : Nat} {m' : St} (h : WR w n m) (q : eM m m') (e : m'.2.2.2.1 36 = m.2.2.2.1 36) : WR w n m' := by
  unfold WR
  rw [e, q.2.2.1]; exact h
/-- what a good text of orders leaves -/
def OgR (k : Nat) (Cm Cc : Cd) (c m : St) : Prop := k ≤ 12 ∧ Cm.length ≤ 400 ∧ Cc.length ≤ 400 ∧ m.1 21 = Int32.ofNat k ∧ c.1 605 = Int32.ofNat k ∧ c.1 604 = Int32.ofNat Cc.length ∧ codeR (m.2.2.1 24) (m.2.2.1 25) Cm ∧ (∀ i x, Cc[i]? = some x → c.2.2.1 603 i = cell x ∧ x.1 < 16 ∧ x.2 < 100000) ∧ ∀ i, i < k → ClO Cm Cc i (m.2.2.1 45) (c.2.2.1 600) (c.2.2.1 601) (c.2.2.1 602)
theorem OgR.F {k : Nat} {Cm Cc : Cd} {c' m' : St} (h : OgR k Cm Cc c m) (f : FC c c') (g : FM m m') : OgR k Cm Cc c' m' := by
  unfold OgR
  rw [g.1 21 (by decide), f.1 605 (by decide), f.1 604 (by decide), g.2.2.1 24 (by decide), g.2.2.1 25 (by decide), g.2.2.1 45 (by decide), f.2.2.1 600 (by decide), f.2.2.1 601 (by decide), f.2.2.1 602 (by decide), f.2.2.1 603 (by decide)]
  exact h
/-- while orders are run -/
def OI (fz : List FP) (k : Nat) (Cm Cc : Cd) (d : Nat) (c m : St) : Prop := Rq fz c m ∧ Ru c m ∧ OgR k Cm Cc c m ∧ c.1 1007 = Int32.ofNat d ∧ m.1 46 = Int32.ofNat d ∧ c.1 1006 = m.1 47 ∧ (m.1 47 = -1 ∨ ∃ z, z ≤ 1000 ∧ m.1 47 = Int32.ofNat z)
def once (fz : List FP) (k33 : Int32 → St → Option (Int32 × St)) (k60 : Int32 → Int32 → Int32 → St → Option (Int32 × St)) (v1 v2 v3 : Int32) (st : St) : Option (Int32 × St) := bd (fX7_lookAround fz st) (fun r11 st12 => bd (fX8_worth__6_1004_1005 v1 (2 : Int32) fz st12) (fun r13 st14 => if r13 = (1 : Int32) then (bd (fX8_worth__6_1004_1005 v1 (0 : Int32) fz st14) (fun r15 st16 => bd (fX8_worth__6_1004_1005 v1 (1 : Int32) fz st16) (fun r17 st18 => if r15 = (-2147483648 : Int32) then (fX7_run_b153 fz k33 k60 v1 v2 v3 r15 r17 st18) else (if r17 = (-2147483648 : Int32) then (fX7_run_b153 fz k33 k60 v1 v2 v3 r15 r17 st18) else (fX7_run_b158 fz k33 k60 v1 v2 v3 r15 r17 (0 : Int32) st18))))) else (fX7_run_b268 fz k33 k60 v1 v2 v3 st14)))
theorem b60_once {k33 : Int32 → St → Option (Int32 × St)} {k60 : Int32 → Int32 → Int32 → St → Option (Int32 × St)} {v1 v2 v3 : Int32} {st : St} : fX7_run_b60 fz k33 k60 v1 v2 v3 st = gi v1 12 (if (st.2.2.1 601 v1.toNatClampNeg) ≤ v3 then (lt (v1 + (1 : Int32)) (fun x10 => k33 x10 st)) else once fz k33 k60 v1 v2 v3 st) := rfl
/-- what is left when a clause can't be: the class -/
def undone (fz : List FP) (i : Nat) (c' : St) : Option (Int32 × St) := bd (fX0_take__2_12 fz c') (fun _ st5 => bd (fX2_returnToMark fz st5) (fun _ st7 => some (Int32.ofNat i, st7)))
theorem b210_neg {k33 : Int32 → St → Option (Int32 × St)} {k60 : Int32 → Int32 → Int32 → St → Option (Int32 × St)} {v2 v3 w0 : Int32} {i : Nat} {st : St} (h : ¬ (0 : Int32) ≤ w0) : fX7_run_b210 fz k33 k60 (Int32.ofNat i) v2 v3 w0 st = undone fz i st := by
  unfold fX7_run_b210 undone
  rw [if_neg h]
theorem bnd64 {x : Int32} (h : x = -1 ∨ ∃ z, z ≤ 100000 ∧ x = Int32.ofNat z) : -1000000000 ≤ x.toInt64 ∧ x.toInt64 ≤ 1000000000 := by
  rcases h with e | ⟨z, hz, e⟩
  · subst e; decide
  · subst e
    rw [o64 (by omega), Int64.le_iff_toInt_le, Int64.le_iff_toInt_le, Int64.toInt_ofNat_of_lt (by omega)]
    have e1 : (-1000000000 : Int64).toInt = -1000000000 := by decide
    have e2 : (1000000000 : Int64).toInt = 1000000000 := by decide
    omega
theorem nb_b {b : Nat} {x : Int32} (h : nb b x) (hb : b ≤ 100000) : x = -1 ∨ ∃ z, z ≤ 100000 ∧ x = Int32.ofNat z := by
  obtain ⟨z, h1, h2⟩ := h
  exact Or.inr ⟨z, by omega, h2⟩
theorem act_at {hd i : Nat} {a b : Int32} (h : Rq fz c m) (hu : Ru c m) (h1 : 304 ≤ hd) (h2 : hd ≤ 307) : ∃ X, At fz c m X (fX12_act (Int32.ofNat (actO hd)) a b m) ∧ ∀ (k33 : Int32 → St → Option (Int32 × St)) (k60 : Int32 → Int32 → Int32 → St → Option (Int32 × St)) (t : Int32), fX7_run_b158 fz k33 k60 (Int32.ofNat i) (Int32.ofNat hd - 304) t a b 0 c = bd X (fun r8 st9 => fX7_run_b210 fz k33 k60 (Int32.ofNat i) (Int32.ofNat hd - 304) t r8 st9) := by
  have hc : hd = 304 ∨ hd = 305 ∨ hd = 306 ∨ hd = 307 := by omega
  rcases hc with e | e | e | e <;> subst e
  · refine ⟨fX2_attempt 0 b a fz c, ?_, fun k33 k60 t => ?_⟩
    · have e : fX12_act (Int32.ofNat (actO 304)) a b m = fX12_showNow b a m := by
        unfold fX12_act
        rw [if_pos (by decide), bd_id]
      rw [e]; exact show_at b a h hu
    · unfold fX7_run_b158 fX7_run_b172 fX7_run_b186
      rw [if_neg (by decide), if_neg (by decide), i00]
      rfl
  · refine ⟨fX2_attempt 1 b a fz c, ?_, fun k33 k60 t => ?_⟩
    · have e : fX12_act (Int32.ofNat (actO 305)) a b m = fX12_hideNow b a m := by
        unfold fX12_act
        rw [if_neg (by decide), if_pos (by decide), bd_id]
      rw [e]; exact hide_at b a h hu
    · unfold fX7_run_b158 fX7_run_b172 fX7_run_b186
      rw [if_neg (by decide), if_neg (by decide), i00]
      rfl
  · refine ⟨fX2_attempt 2 a b fz c, ?_, fun k33 k60 t => ?_⟩
    · have e : fX12_act (Int32.ofNat (actO 306)) a b m = fX12_manNow a b m := by
        unfold fX12_act
        rw [if_neg (by decide), if_neg (by decide), if_neg (by decide), bd_id]
      rw [e]; exact man_at a b h hu
    · unfold fX7_run_b158 fX7_run_b172 fX7_run_b186
      rw [if_pos (by decide), if_pos (by decide), i00]
      rfl
  · refine ⟨fX2_attempt 3 b a fz c, ?_, fun k33 k60 t => ?_⟩
    · have e : fX12_act (Int32.ofNat (actO 307)) a b m = fX12_marchNow a b m := by
        unfold fX12_act
        rw [if_neg (by decide), if_neg (by decide), if_pos (by decide), bd_id]
      rw [e]; exact march_at b a h hu
    · unfold fX7_run_b158 fX7_run_b172 fX7_run_b186
      rw [if_neg (by decide), if_neg (by decide), i00]
      rfl
theorem neg_not {v : Int32} (h : ∃ n, 1 ≤ n ∧ n ≤ 6 ∧ v = -(Int32.ofNat n)) : ¬ (0 : Int32) ≤ v := by
  obtain ⟨n, h1, h6, e⟩ := h
  subst e
  have : n = 1 ∨ n = 2 ∨ n = 3 ∨ n = 4 ∨ n = 5 ∨ n = 6 := by omega
  rcases this with e | e | e | e | e | e <;> subst e <;> decide
set_option maxHeartbeats 1000000 in
theorem ord_once {k i d : Nat} {Cm Cc : Cd} (hI : OI fz k Cm Cc d c m) (hi : i < k) (hd0 : d ≤ 10000) : ∃ c' m', FC c c' ∧ FM m m' ∧ ((fX12_run (Int32.ofNat (8 * i)) m = some (0, m') ∧ (∀ k33 k60 t, once fz k33 k60 (Int32.ofNat i) (c.2.2.1 600 i - 304) t c = k60 (Int32.ofNat i) (c.2.2.1 600 i - 304) (t + 1) c') ∧ ∃ d', d' ≤ d + 1 ∧ OI fz k Cm Cc d' c' m') ∨ (fX12_run (Int32.ofNat (8 * i)) m = some (-3, m') ∧ ∀ k33 k60 t, once fz k33 k60 (Int32.ofNat i) (c.2.2.1 600 i - 304) t c = undone fz i c')) := by
  obtain ⟨hq, hu, hg, h7, h46, h6, h47⟩ := hI
  have hgO := hg
  obtain ⟨g1, g2, g3, g4, g5, g6, g7, g8, g9⟩ := hg
  obtain ⟨hd, tm, bm, am, em, dmm, bc, ac, ec, dc, D1, D0, D2, o1, o2, o3, o4, o5, o6, o7, o8, o9, o10, o11, o12, o13, o14, o15, o16, o17, o18, o19, o20, o21, o22, o23⟩ := g9 i hi
  obtain ⟨l0, l6, -, -, l9, l13, l19, -, -, -, -⟩ := hq.1
  obtain ⟨l0, n, hn, en⟩ := l0
  have h108 : c.1 108 = Int32.ofNat n := l0.trans en
  obtain ⟨c1, k1, k2, k3, k4, k5, k6, k7⟩ := c_look (fz := fz) hn h108
  -- the words
  let w : Nat → Int64 := fun k => if k < 19 then (c1.2.2.1 1004 k).toInt64 else 0
  have hw : ∀ k, k < 19 → w k = (c1.2.2.1 1004 k).toInt64 := fun k hk => if_pos hk
  have hwb : ∀ k, -1000000000 ≤ w k ∧ w k ≤ 1000000000 := by
    intro q
    by_cases hq19 : q < 19
    · rw [hw q hq19]
      apply bnd64
      have hc : q = 0 ∨ q = 1 ∨ q = 2 ∨ (∃ f, f < 6 ∧ q = 3 + f) ∨ (∃ f, f < 6 ∧ q = 9 + f) ∨ ∃ f, f < 4 ∧ q = 15 + f := by
        rcases Nat.lt_or_ge q 3 with z | z
        · omega
        · rcases Nat.lt_or_ge q 9 with z2 | z2
          · exact Or.inr (Or.inr (Or.inr (Or.inl ⟨q - 3, by omega, by omega⟩)))
          · rcases Nat.lt_or_ge q 15 with z3 | z3
            · exact Or.inr (Or.inr (Or.inr (Or.inr (Or.inl ⟨q - 9, by omega, by omega⟩))))
            · exact Or.inr (Or.inr (Or.inr (Or.inr (Or.inr ⟨q - 15, by omega, by omega⟩))))
      rcases hc with e | e | e | ⟨f, hf, e⟩ | ⟨f, hf, e⟩ | ⟨f, hf, e⟩ <;> subst e
      · rw [k3, show c.1 204 = m.2.2.1 3 6 from l6.1]; exact nb_b l6.2 (by decide)
      · rw [k4, h7]; exact Or.inr ⟨d, by omega, rfl⟩
      · rw [k5, h6]
        rcases h47 with e | ⟨z, z1, z2⟩
        · exact Or.inl e
        · exact Or.inr ⟨z, by omega, z2⟩
      · rw [(k6 f hf).1]
        split
        · rw [show c.2.2.1 200 f = m.2.2.1 3 (13 + f) from (l13 f hf).1]; exact nb_b (l13 f hf).2 (by decide)
        · exact Or.inl rfl
      · rw [(k6 f hf).2]
        split
        · rw [show c.2.2.1 201 f = m.2.2.1 3 (19 + f) from (l19 f hf).1]; exact nb_b (l19 f hf).2 (by decide)
        · exact Or.inl rfl
      · rw [k7 f hf, show c.2.2.1 203 f = m.2.2.1 3 (9 + f) from (l9 f hf).1]; exact nb_b (l9 f hf).2 (by decide)
    · show -1000000000 ≤ (if q < 19 then _ else (0 : Int64)) ∧ (if q < 19 then _ else (0 : Int64)) ≤ 1000000000
      rw [if_neg hq19]; decide
  -- the reference's words
  let m1 : St := sB m 36 (vp_updL (m.2.2.2.1 36) 1 ((m.2.2.1 3 6).toInt64))
  let m2 : St := sB m1 36 (vp_updL (m1.2.2.2.1 36) 2 ((m.1 46).toInt64))
  let m3 : St := sB m2 36 (vp_updL (m2.2.2.2.1 36) 3 ((m.1 47).toInt64))
  let m4 : St := sI m3 49 0
  have heM4 : eM m m4 := by
    refine ⟨fun k hk => ?_, fun _ _ => rfl, rfl, fun k hk => ?_, rfl⟩
    · show (sI m3 49 0).1 k = _
      rw [sI_1, if_neg (fun e => hk (by rw [e]; decide))]; rfl
    · have e36 : k ≠ 36 := fun e => hk (by rw [e]; decide)
      show va_up (va_up (va_up m.2.2.2.1 36 _) 36 _) 36 _ k = _
      rw [vup_v, if_neg e36, vup_v, if_neg e36, vup_v, if_neg e36]
  have hWR : WR w n m4 := by
    refine ⟨?_, ?_, ?_, en, hn, fun f hf => ?_, fun g hg => ?_⟩
    · show (m.2.2.1 3 6).toInt64 = _
      rw [hw 0 (by decide), k3, show c.1 204 = m.2.2.1 3 6 from l6.1]
    · show (m.1 46).toInt64 = _
      rw [hw 1 (by decide), k4, h7, h46]
    · show (m.1 47).toInt64 = _
      rw [hw 2 (by decide), k5, h6]
    · rw [hw (3 + f) (by omega), hw (9 + f) (by omega), (k6 f hf).1, (k6 f hf).2, show c.2.2.1 200 f = m.2.2.1 3 (13 + f) from (l13 f hf).1, show c.2.2.1 201 f = m.2.2.1 3 (19 + f) from (l19 f hf).1]
      constructor <;> (split <;> rfl)
    · rw [hw (15 + g) (by omega), k7 g hg, show c.2.2.1 203 g = m.2.2.1 3 (9 + g) from (l9 g hg).1]; rfl
  -- the class's worths
  have a605 : c1.1 605 = Int32.ofNat k := by rw [k2.1 605 (by decide)]; exact g5
  have a604 : c1.1 604 = Int32.ofNat Cc.length := by rw [k2.1 604 (by decide)]; exact g6
  have a603 : ∀ i x, Cc[i]? = some x → c1.2.2.1 603 i = cell x ∧ x.1 < 16 ∧ x.2 < 100000 := by rw [k2.2.2.1 603 (by decide)]; exact g8
  have a602 : c1.2.2.1 602 = c.2.2.1 602 := k2.2.2.1 602 (by decide)
  obtain ⟨sA1, sA2, sA3, sA4, sA5, sA6, sA7⟩ := o21
  obtain ⟨sB1, sB2, sB3, sB4, sB5, sB6, sB7⟩ := o22
  have hT : ∃ D2', (dmm = 0 ∧ dc = 0 ∧ ∀ w, D2' w = some 1) ∨ (0 < dmm ∧ 0 < dc ∧ DenM false (cdOf Cm) (bm + am + em) (bm + am + em + dmm) 50 D2' ∧ DenC (cdOf Cc) 19 (bc + ac + ec) (bc + ac + ec + dc) 50 D2' ∧ Bv D2') := by
    rcases o23 with ⟨q1, q2⟩ | ⟨⟨q1, q2, q3, q4, q5, q6, q7⟩, q8⟩
    · exact ⟨fun _ => some 1, Or.inl ⟨q1, q2, fun _ => rfl⟩⟩
    · exact ⟨D2, Or.inr ⟨q1, q2, q6 _ (cdOf_has _), q7 _ (cdOf_has _), q8⟩⟩
  obtain ⟨D2', hT⟩ := hT
  have hBT : ∀ v, D2' w = some v → v = 0 ∨ v = 1 := by
    rcases hT with ⟨_, _, q⟩ | ⟨_, _, _, _, q⟩
    · intro v hv; rw [q w] at hv; cases hv; exact Or.inr rfl
    · exact q w
  have wT : ∀ s, ∃ s', fX8_worth__6_1004_1005 (Int32.ofNat i) (2 : Int32) fz (sB c1 1005 s) = some (enc (D2' w), sB c1 1005 s') := by
    intro s
    refine c_worthO (sec := 2) (a := bc + ac + ec) (b := bc + ac + ec + dc) a605 g1 a604 g3 a603 hi (by decide) (by rw [a602]; exact o17) (by rw [a602]; exact o18) (by omega) (by omega) hw ?_
    rcases hT with ⟨_, q1, q2⟩ | ⟨_, q1, _, q2, _⟩
    · exact Or.inl ⟨by omega, q2⟩
    · exact Or.inr ⟨by omega, q2⟩
  have wA : ∀ s, ∃ s', fX8_worth__6_1004_1005 (Int32.ofNat i) (0 : Int32) fz (sB c1 1005 s) = some (enc (D1 w), sB c1 1005 s') := fun s => c_worthO (sec := 0) (a := bc) (b := bc + ac) a605 g1 a604 g3 a603 hi (by decide) (by rw [a602]; exact o15) (by rw [a602]; exact o16) (by omega) (by omega) hw (Or.inr ⟨by omega, sA7 _ (cdOf_has _)⟩)
  have wB : ∀ s, ∃ s', fX8_worth__6_1004_1005 (Int32.ofNat i) (1 : Int32) fz (sB c1 1005 s) = some (enc (D0 w), sB c1 1005 s') := fun s => c_worthO (sec := 1) (a := bc + ac) (b := bc + ac + ec) a605 g1 a604 g3 a603 hi (by decide) (by rw [a602]; exact o16) (by rw [a602]; exact o17) (by omega) (by omega) hw (Or.inr ⟨by omega, sB7 _ (cdOf_has _)⟩)
  have heC : ∀ s, eC c (sB c1 1005 s) := by
    intro s
    refine ⟨funext (fun q => k2.1 q (by intro e; cases e)), funext (fun q => k2.2.1 q (by intro e; cases e)), fun q hq2 => k2.2.2.1 q (fun e => hq2 (by simpa using e)), fun q hq2 => ?_, ?_⟩
    · show va_up c1.2.2.2.1 1005 s q = _
      rw [vup_v, if_neg hq2, k2.2.2.2]
    · show c1.2.2.2.2 = _
      rw [k2.2.2.2]
  obtain ⟨s1, wt1⟩ := wT (c1.2.2.2.1 1005)
  rw [sB_self] at wt1
  -- the reference, up to the test
  have r20 : m.1 20 = 0 := hq.2.2
  have hrun : fX12_run (Int32.ofNat (8 * i)) m = if Int32.ofNat (bm + am + em + dmm) ≤ Int32.ofNat (bm + am + em) then fX12_run_b82 (Int32.ofNat (8 * i)) m4 else (bd (fX12_sumOf (Int32.ofNat (8 * i + 5)) m4) (fun r13 st14 => if (st14.1 49) = 0 then (if r13 = 0 then (fX12_run_b80 st14) else (fX12_run_b82 (Int32.ofNat (8 * i)) st14)) else (fX12_run_b80 st14))) := by
    unfold fX12_run
    show gi (Int32.ofNat (8 * i) + 5) 96 (gi (Int32.ofNat (8 * i) + 6) 96 (if m.2.2.1 45 (Int32.ofNat (8 * i) + 6).toNatClampNeg ≤ m.2.2.1 45 (Int32.ofNat (8 * i) + 5).toNatClampNeg then fX12_run_b82 (Int32.ofNat (8 * i)) m4 else (bd (fX12_sumOf (Int32.ofNat (8 * i) + 5) m4) (fun r13 st14 => if (st14.1 49) = 0 then (if r13 = 0 then (fX12_run_b80 st14) else (fX12_run_b82 (Int32.ofNat (8 * i)) st14)) else (fX12_run_b80 st14))))) = _
    rw [show (5 : Int32) = Int32.ofNat 5 from rfl, oN_add, show (6 : Int32) = Int32.ofNat 6 from rfl, oN_add, gi_N (by omega) (by decide), gi_N (by omega) (by decide), oN_tn (by omega), oN_tn (by omega), o12, o11]
  have hskip : (D2' w ≠ some 1) → ∃ m', eM m m' ∧ fX12_run (Int32.ofNat (8 * i)) m = some (0, m') := by
    intro hne
    rcases hT with ⟨_, _, q⟩ | ⟨p1, p2, p3, p4, p5⟩
    · exact absurd (q w) hne
    · obtain ⟨v, m5, e1, e2, e3, e4, e5⟩ := m_sumO (m := m4) (at' := 8 * i + 5) (a := bm + am + em) (b := bm + am + em + dmm) (Cm := Cm) (w := w) (D := D2') rfl r20 (by omega) o11 o12 g7 hWR (by omega) (by omega) g2 p3
      refine ⟨m5, heM4.tr e2, ?_⟩
      rw [hrun, if_leF (by omega) (by omega), e1, bd_v, e4]
      unfold fX12_run_b80
      cases hv : D2' w with
      | none => rw [if_pos rfl, i10]
      | some x =>
        rw [if_neg (show ¬ (some x = (none : Option Int64)) from fun z => by cases z), i00, e5 x hv]
        rcases hBT x hv with e | e
        · subst e; rw [if_pos (by decide)]
        · subst e; exact absurd hv hne
  have hpass : D2' w = some 1 → ∃ m', eM m m' ∧ WR w n m' ∧ m'.1 49 = 0 ∧ fX12_run (Int32.ofNat (8 * i)) m = fX12_run_b82 (Int32.ofNat (8 * i)) m' := by
    intro hyes
    rcases hT with ⟨p1, _, _⟩ | ⟨p1, p2, p3, p4, p5⟩
    · refine ⟨m4, heM4, hWR, rfl, ?_⟩
      rw [hrun, if_leT (by omega) (by omega)]
    · obtain ⟨v, m5, e1, e2, e3, e4, e5⟩ := m_sumO (m := m4) (at' := 8 * i + 5) (a := bm + am + em) (b := bm + am + em + dmm) (Cm := Cm) (w := w) (D := D2') rfl r20 (by omega) o11 o12 g7 hWR (by omega) (by omega) g2 p3
      rw [hyes, if_neg (by intro z; cases z)] at e4
      refine ⟨m5, heM4.tr e2, hWR.e e2 e3, e4, ?_⟩
      rw [hrun, if_leF (by omega) (by omega), e1, bd_v, e4, i00, e5 1 hyes, if_neg (by decide)]
  by_cases hyes : D2' w = some 1
  · obtain ⟨m5, x1, x2, x3, x4⟩ := hpass hyes
    have c45 : ∀ q, m5.2.2.1 45 q = m.2.2.1 45 q := fun q => by rw [x1.2.2.1]
    have cd5 : codeR (m5.2.2.1 24) (m5.2.2.1 25) Cm := by rw [x1.2.2.1]; exact g7
    obtain ⟨v1, m6, e1, e2, e3, e4, e5⟩ := m_sumO (m := m5) (at' := 8 * i + 1) (a := bm) (b := bm + am) (Cm := Cm) (w := w) (D := D1) x3 (by rw [x1.1 20 (by decide)]; exact r20) (by omega) (by rw [c45]; exact o6) (by rw [c45]; exact o7) cd5 x2 (by omega) (by omega) g2 (sA6 _ (cdOf_has _))
    obtain ⟨s2, wt2⟩ := wA s1
    obtain ⟨s3, wt3⟩ := wB s2
    have honce : ∀ k33 k60 t, once fz k33 k60 (Int32.ofNat i) (c.2.2.1 600 i - 304) t c = if enc (D1 w) = (-2147483648 : Int32) then (fX7_run_b153 fz k33 k60 (Int32.ofNat i) (c.2.2.1 600 i - 304) t (enc (D1 w)) (enc (D0 w)) (sB c1 1005 s3)) else (if enc (D0 w) = (-2147483648 : Int32) then (fX7_run_b153 fz k33 k60 (Int32.ofNat i) (c.2.2.1 600 i - 304) t (enc (D1 w)) (enc (D0 w)) (sB c1 1005 s3)) else (fX7_run_b158 fz k33 k60 (Int32.ofNat i) (c.2.2.1 600 i - 304) t (enc (D1 w)) (enc (D0 w)) (0 : Int32) (sB c1 1005 s3))) := by
      intro k33 k60 t
      unfold once
      rw [k1, bd_v, wt1, bd_v, hyes, if_pos (show enc (some 1) = 1 by decide), wt2, bd_v, wt3, bd_v]
    have hbad : ∀ k33 k60 t, fX7_run_b153 fz k33 k60 (Int32.ofNat i) (c.2.2.1 600 i - 304) t (enc (D1 w)) (enc (D0 w)) (sB c1 1005 s3) = undone fz i (sB c1 1005 s3) := by
      intro k33 k60 t
      unfold fX7_run_b153 fX7_run_b158 fX7_run_b172 fX7_run_b186
      simp only [i10, b210_neg (show ¬ (0 : Int32) ≤ -3 by decide), ite_self]
    have hb82 : fX12_run_b82 (Int32.ofNat (8 * i)) m5 = bd (fX12_sumOf (Int32.ofNat (8 * i + 3)) m6) (fun r5 st6 => if (st6.1 49) = 0 then (gi (Int32.ofNat (8 * i)) 96 (bd (fX12_act (st6.2.2.1 45 (8 * i)) v1 r5 st6) (fun r7 st8 => if 0 ≤ r7 then (gi (Int32.ofNat (8 * i)) 96 (if (st8.2.2.1 45 (8 * i)) = (2 : Int32) then (fX12_run_b150 r7 st8) else (fX12_run_b150 (st8.1 47) st8))) else (some ((-3 : Int32), st8))))) else (some ((-3 : Int32), st6))) := by
      unfold fX12_run_b82
      rw [oN_s, e1, bd_v, show (3 : Int32) = Int32.ofNat 3 from rfl, oN_add, oN_tn (by omega)]
    cases hv1 : D1 w with
    | none =>
      rw [hv1, if_pos rfl] at e4
      refine ⟨sB c1 1005 s3, m6, (heC s3).FC, (x1.tr e2).FM, Or.inr ⟨?_, fun k33 k60 t => ?_⟩⟩
      · rw [x4, hb82]
        unfold fX12_sumOf fX12_sumOf_b24
        rw [e4, i10, bd_v, e4, i10]
      · rw [honce, if_pos (by rw [hv1]; rfl)]
        exact hbad k33 k60 t
    | some a =>
      rw [hv1, if_neg (by intro z; cases z)] at e4
      have c45' : ∀ q, m6.2.2.1 45 q = m.2.2.1 45 q := fun q => by rw [e2.2.2.1, x1.2.2.1]
      obtain ⟨v2, m7, y1, y2, y3, y4, y5⟩ := m_sumO (m := m6) (at' := 8 * i + 3) (a := bm + am) (b := bm + am + em) (Cm := Cm) (w := w) (D := D0) e4 (by rw [e2.1 20 (by decide), x1.1 20 (by decide)]; exact r20) (by omega) (by rw [c45']; exact o8) (by rw [c45']; exact o9) (by rw [e2.2.2.1]; exact cd5) (x2.e e2 e3) (by omega) (by omega) g2 (sB6 _ (cdOf_has _))
      have hM7 : eM m m7 := (x1.tr e2).tr y2
      have ha1 := enc_min (sA5 w a hwb hv1)
      cases hv0 : D0 w with
      | none =>
        rw [hv0, if_pos rfl] at y4
        refine ⟨sB c1 1005 s3, m7, (heC s3).FC, hM7.FM, Or.inr ⟨?_, fun k33 k60 t => ?_⟩⟩
        · rw [x4, hb82, y1, bd_v, y4, i10]
        · rw [honce, if_neg (show ¬ (enc (D1 w) = -2147483648) by rw [hv1]; exact ha1), if_pos (by rw [hv0]; rfl)]
          exact hbad k33 k60 t
      | some b =>
        rw [hv0, if_neg (by intro z; cases z)] at y4
        have hb1 := enc_min (sB5 w b hwb hv0)
        obtain ⟨X, ⟨v, c8, m8, z1, z2, z3, z4, z5, z6, z7, z8⟩, hX⟩ := act_at (i := i) (a := a.toInt32) (b := b.toInt32) (hq.e (heC s3) hM7) (hu.e (heC s3) hM7) o1 o2
        have h45 : m7.2.2.1 45 (8 * i) = Int32.ofNat (actO hd) := by rw [hM7.2.2.1]; exact o5
        have h458 : m8.2.2.1 45 (8 * i) = Int32.ofNat (actO hd) := by rw [z6.2.2.1 45 (by decide)]; exact h45
        have hF8 : FC c c8 := (heC s3).FC.tr z5.FC
        have hG8 : FM m m8 := hM7.FM.tr (z6.FM z8)
        have hon2 : ∀ k33 k60 t, once fz k33 k60 (Int32.ofNat i) (c.2.2.1 600 i - 304) t c = fX7_run_b210 fz k33 k60 (Int32.ofNat i) (c.2.2.1 600 i - 304) t v c8 := by
          intro k33 k60 t
          rw [honce, hv1, hv0, if_neg (show ¬ (enc (some a) = -2147483648) from ha1), if_neg (show ¬ (enc (some b) = -2147483648) from hb1), o13]
          refine (hX k33 k60 t).trans ?_
          rw [z1, bd_v]
        have hre : fX12_run (Int32.ofNat (8 * i)) m = if 0 ≤ v then (if Int32.ofNat (actO hd) = (2 : Int32) then (fX12_run_b150 v m8) else (fX12_run_b150 (m8.1 47) m8)) else (some ((-3 : Int32), m8)) := by
          rw [x4, hb82, y1, bd_v, y4, i00, gi_N (by omega) (by decide), h45, e5 a hv1, y5 b hv0, z2, bd_v, gi_N (by omega) (by decide), h458]
        rcases z7 with hv | hv
        · have o46 : m8.1 46 = Int32.ofNat d := by rw [z6.1 46 (by decide), hM7.1 46 (by decide)]; exact h46
          have o1007 : c8.1 1007 = Int32.ofNat d := by rw [z5.1 1007 (by decide), (heC s3).1]; exact h7
          have o1006 : c8.1 1006 = m8.1 47 := by rw [z5.1 1006 (by decide), (heC s3).1, z6.1 47 (by decide), hM7.1 47 (by decide)]; exact h6
          have o47 : m8.1 47 = -1 ∨ ∃ z, z ≤ 1000 ∧ m8.1 47 = Int32.ofNat z := by rw [z6.1 47 (by decide), hM7.1 47 (by decide)]; exact h47
          have hfin : ∃ x, (∀ k33 k60 t, fX7_run_b210 fz k33 k60 (Int32.ofNat i) (c.2.2.1 600 i - 304) t v c8 = k60 (Int32.ofNat i) (c.2.2.1 600 i - 304) (t + 1) (sI (sI c8 1007 (Int32.ofNat (d + 1))) 1006 x)) ∧ fX12_run (Int32.ofNat (8 * i)) m = some (0, sI (sI m8 47 x) 46 (Int32.ofNat (d + 1))) ∧ (x = -1 ∨ ∃ z, z ≤ 1000 ∧ x = Int32.ofNat z) := by
            have hb150 : ∀ x, fX12_run_b150 x m8 = some (0, sI (sI m8 47 x) 46 (Int32.ofNat (d + 1))) := by
              intro x
              unfold fX12_run_b150
              rw [lt_v, lt_v, show (sI m8 47 x).1 46 = Int32.ofNat d from o46, oN_s]
            by_cases h307 : hd = 307
            · subst h307
              refine ⟨v, fun k33 k60 t => ?_, ?_, Or.inr ?_⟩
              · unfold fX7_run_b210 fX7_run_b265 fX7_run_b268
                rw [if_pos hv.1, lt_v, o1007, oN_s, o13, if_pos (by decide), lt_v, lt_v]
              · rw [hre, if_pos hv.1, if_pos (by decide), hb150]
              · exact oN_exb (b := 1000) hv.1 (by decide) hv.2
            · have hn3 : ¬ (Int32.ofNat hd - 304 = (3 : Int32)) := by
                have : hd = 304 ∨ hd = 305 ∨ hd = 306 := by omega
                rcases this with e | e | e <;> subst e <;> decide
              have hn2 : ¬ (Int32.ofNat (actO hd) = (2 : Int32)) := by
                have : hd = 304 ∨ hd = 305 ∨ hd = 306 := by omega
                rcases this with e | e | e <;> subst e <;> decide
              refine ⟨m8.1 47, fun k33 k60 t => ?_, ?_, o47⟩
              · unfold fX7_run_b210 fX7_run_b265 fX7_run_b268
                rw [if_pos hv.1, lt_v, o1007, oN_s, o13, if_neg hn3, lt_v, lt_v, ← o1006]
                rfl
              · rw [hre, if_pos hv.1, if_neg hn2, hb150]
          obtain ⟨x, q1, q2, q3⟩ := hfin
          have hF9 : FC c (sI (sI c8 1007 (Int32.ofNat (d + 1))) 1006 x) := by
            refine hF8.tr ⟨fun k hk => ?_, rfl, fun _ _ => rfl, fun _ _ => rfl, rfl⟩
            rw [sI_1, if_neg (fun e => hk (by rw [e]; decide)), sI_1, if_neg (fun e => hk (by rw [e]; decide))]
          have hG9 : FM m (sI (sI m8 47 x) 46 (Int32.ofNat (d + 1))) := by
            refine hG8.tr ⟨fun k hk => ?_, fun _ _ => rfl, fun _ _ => rfl, fun _ _ => rfl, rfl, fun _ _ => rfl, fun _ _ => rfl⟩
            rw [sI_1, if_neg (fun e => hk (by rw [e]; decide)), sI_1, if_neg (fun e => hk (by rw [e]; decide))]
          refine ⟨_, _, hF9, hG9, Or.inl ⟨q2, fun k33 k60 t => by rw [hon2]; exact q1 k33 k60 t, d + 1, Nat.le_refl _, z3, ?_, hgO.F hF9 hG9, rfl, rfl, rfl, q3⟩⟩
          exact z4.a rfl rfl rfl rfl rfl (fun _ _ => rfl)
        · refine ⟨c8, m8, hF8, hG8, Or.inr ⟨?_, fun k33 k60 t => ?_⟩⟩
          · rw [hre, if_neg (neg_not hv)]
          · rw [hon2, b210_neg (neg_not hv)]
  · obtain ⟨m5, x1, x2⟩ := hskip hyes
    refine ⟨sB c1 1005 s1, m5, (heC s1).FC, x1.FM, Or.inl ⟨x2, fun k33 k60 t => ?_, d, by omega, hq.e (heC s1) x1, hu.e (heC s1) x1, hgO.F (heC s1).FC x1.FM, ?_, ?_, ?_, ?_⟩⟩
    · unfold once
      have hne : ¬ (enc (D2' w) = 1) := by
        cases hv : D2' w with
        | none => decide
        | some x =>
          rcases hBT x hv with e | e
          · subst e; decide
          · subst e; exact absurd hv hyes
      rw [k1, bd_v, wt1, bd_v, if_neg hne]
      unfold fX7_run_b268
      rw [lt_v]
    · rw [(heC s1).1]; exact h7
    · rw [x1.1 46 (by decide)]; exact h46
    · rw [(heC s1).1, x1.1 47 (by decide)]; exact h6
    · rw [x1.1 47 (by decide)]; exact h47
end OrdO
