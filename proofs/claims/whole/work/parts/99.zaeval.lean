/-! T2, orders: words, sums and tests on both sides -/
section OrdE
variable {fz : List FP} {c m : St}
theorem sB_self {st : St} {k : Nat} : sB st k (st.2.2.2.1 k) = st := by
  unfold sB
  have : va_up st.2.2.2.1 k (st.2.2.2.1 k) = st.2.2.2.1 := by
    funext j
    rw [vup_v]
    split
    · rename_i e; rw [e]
    · rfl
  rw [this]
theorem fcond {n f : Nat} (hn : n ≤ 6) (hf : f < 6) : ((0 : Int32) ≤ Int32.ofNat f ∧ Int32.ofNat f ≤ Int32.ofNat n - 1) ↔ f < n := by
  have h : ∀ n : Fin 7, ∀ f : Fin 6, ((0 : Int32) ≤ Int32.ofNat f.val ∧ Int32.ofNat f.val ≤ Int32.ofNat n.val - 1) ↔ f.val < n.val := by decide
  exact h ⟨n, by omega⟩ ⟨f, hf⟩
theorem has_n {n f : Nat} (h : c.1 108 = Int32.ofNat n) (hn : n ≤ 6) (hf : f < 6) : fX6_has (Int32.ofNat f) fz c = some (if f < n then 1 else 0, c) := by
  unfold fX6_has
  rw [c_within, bs_v, h, gb_ite]
  by_cases q : f < n
  · rw [if_pos ((fcond hn hf).mpr q), if_pos q]
  · rw [if_neg (fun z => q ((fcond hn hf).mp z)), if_neg q]
theorem isFort_n {n f : Nat} (h : m.2.2.1 3 0 = Int32.ofNat n) (hn : n ≤ 6) (hf : f < 6) : fX12_isFort (Int32.ofNat f) m = some (if f < n then 1 else 0, m) := by
  unfold fX12_isFort
  have e0 : m.2.2.1 3 (0 : Int32).toNatClampNeg = Int32.ofNat n := h
  rw [e0, n64_1 hn, show (0 : Int64) = (0 : Int32).toInt64 from rfl, m_inI, bs_v, gb_ite]
  by_cases q : f < n
  · rw [if_pos ((fcond hn hf).mpr q), if_pos q]
  · rw [if_neg (fun z => q ((fcond hn hf).mp z)), if_neg q]
/-! the class looks around -/
theorem c_lk2 : ∀ (r q N : Nat) (st : St), q + r = 4 → ∃ st', lp (fun _ _ => none) (fX7_lookAround_b123 fz) (N + 1 + r) (Int32.ofNat q) st = some ((), st') ∧ fr [] [] [1004] st st' ∧ (∀ g, q ≤ g → g < 4 → st'.2.2.1 1004 (15 + g) = st.2.2.1 203 g) ∧ (∀ k, (k < 15 + q ∨ 19 ≤ k) → st'.2.2.1 1004 k = st.2.2.1 1004 k) := by
  intro r
  induction r with
  | zero =>
    intro q N st hq
    refine ⟨st, ?_, fr.rf, fun g h1 h2 => absurd h1 (by omega), fun _ _ => rfl⟩
    rw [show N + 1 + 0 = N + 1 from rfl, lp_s]
    generalize lp (fun _ _ => none) (fX7_lookAround_b123 fz) N = kk
    unfold fX7_lookAround_b123
    rw [show (4 : Int32) = Int32.ofNat 4 from rfl, if_leT (by omega) (by omega)]
  | succ r ih =>
    intro q N st hq
    let s1 : St := sA st 1004 (upd (st.2.2.1 1004) (15 + q) (st.2.2.1 203 q))
    obtain ⟨st', g1, g2, g3, g4⟩ := ih (q + 1) N s1 (by omega)
    refine ⟨st', ?_, (fr.sA (k := 1004) (by decide)).tr g2, fun g h1 h2 => ?_, fun k hk => ?_⟩
    · rw [← g1, ← Nat.add_assoc, lp_s]
      generalize lp (fun _ _ => none) (fX7_lookAround_b123 fz) (N + 1 + r) = kk
      conv => lhs; unfold fX7_lookAround_b123
      rw [show (4 : Int32) = Int32.ofNat 4 from rfl, if_leF (by omega) (by decide), gi_N (by omega) (by decide), show (15 : Int32) = Int32.ofNat 15 from rfl, oN_add, gi_N (by omega) (by decide), lt_v, lt_v, oN_tn (by omega), oN_tn (by omega), oN_s]
    · rcases Nat.lt_or_ge q g with hj | hj
      · exact g3 g hj h2
      · have : g = q := by omega
        subst this
        rw [g4 _ (by omega)]
        show upd _ _ _ _ = _
        rw [upd_v, if_pos rfl]
    · rw [g4 k (by omega)]
      show upd _ _ _ _ = _
      rw [upd_v, if_neg (by omega)]
theorem c_lk1s {n q : Nat} {st : St} (hn : n ≤ 6) (hq : q < 6) (h : st.1 108 = Int32.ofNat n) (kk : Int32 → St → Option (Unit × St)) : fX7_lookAround_b38 fz kk (Int32.ofNat q) st = kk (Int32.ofNat (q + 1)) (sA (sA st 1004 (upd (st.2.2.1 1004) (3 + q) (if q < n then st.2.2.1 200 q else -1))) 1004 (upd ((sA st 1004 (upd (st.2.2.1 1004) (3 + q) (if q < n then st.2.2.1 200 q else -1))).2.2.1 1004) (9 + q) (if q < n then st.2.2.1 201 q else -1))) := by
  have h2 : ∀ X, fX6_has (Int32.ofNat q) fz (sA st 1004 X) = some (if q < n then 1 else 0, sA st 1004 X) := fun X => has_n (c := sA st 1004 X) h hn hq
  unfold fX7_lookAround_b38
  rw [show (6 : Int32) = Int32.ofNat 6 from rfl, if_leF (by omega) (by decide), has_n h hn hq, bd_v]
  unfold fX7_lookAround_b78 fX7_lookAround_b114
  by_cases hc : q < n
  · simp only [if_pos hc] at h2 ⊢
    rw [i10, gi_N hq (by decide), show (3 : Int32) = Int32.ofNat 3 from rfl, oN_add, gi_N (by omega) (by decide), lt_v, h2, bd_v, i10, gi_N hq (by decide), show (9 : Int32) = Int32.ofNat 9 from rfl, oN_add, gi_N (by omega) (by decide), lt_v, lt_v, oN_tn (show 3 + q < 2147483648 by omega), oN_tn (show 9 + q < 2147483648 by omega), oN_tn (show q < 2147483648 by omega), oN_s]
    rfl
  · simp only [if_neg hc, if_true] at h2 ⊢
    rw [show (3 : Int32) = Int32.ofNat 3 from rfl, oN_add, gi_N (by omega) (by decide), lt_v, h2, bd_v, i00, show (9 : Int32) = Int32.ofNat 9 from rfl, oN_add, gi_N (by omega) (by decide), lt_v, lt_v, oN_tn (show 3 + q < 2147483648 by omega), oN_tn (show 9 + q < 2147483648 by omega), oN_s]
theorem c_lk1 {n : Nat} (hn : n ≤ 6) : ∀ (r q N : Nat) (st : St), q + r = 6 → st.1 108 = Int32.ofNat n → ∃ st', lp (fun _ _ => none) (fX7_lookAround_b38 fz) (N + 1 + r) (Int32.ofNat q) st = lp (fun _ _ => none) (fX7_lookAround_b123 fz) 6000 0 st' ∧ fr [] [] [1004] st st' ∧ (∀ f, q ≤ f → f < 6 → st'.2.2.1 1004 (3 + f) = (if f < n then st.2.2.1 200 f else -1) ∧ st'.2.2.1 1004 (9 + f) = (if f < n then st.2.2.1 201 f else -1)) ∧ (∀ k, (k < 3 + q ∨ (9 ≤ k ∧ k < 9 + q) ∨ 15 ≤ k) → st'.2.2.1 1004 k = st.2.2.1 1004 k) := by
  intro r
  induction r with
  | zero =>
    intro q N st hq h
    refine ⟨st, ?_, fr.rf, fun g h1 h2 => absurd h1 (by omega), fun _ _ => rfl⟩
    rw [show N + 1 + 0 = N + 1 from rfl, lp_s]
    generalize lp (fun _ _ => none) (fX7_lookAround_b38 fz) N = kk
    unfold fX7_lookAround_b38
    rw [show (6 : Int32) = Int32.ofNat 6 from rfl, if_leT (by omega) (by omega)]
  | succ r ih =>
    intro q N st hq h
    obtain ⟨st', g1, g2, g3, g4⟩ := ih (q + 1) N (sA (sA st 1004 (upd (st.2.2.1 1004) (3 + q) (if q < n then st.2.2.1 200 q else -1))) 1004 (upd ((sA st 1004 (upd (st.2.2.1 1004) (3 + q) (if q < n then st.2.2.1 200 q else -1))).2.2.1 1004) (9 + q) (if q < n then st.2.2.1 201 q else -1))) (by omega) h
    refine ⟨st', ?_, ((fr.sA (k := 1004) (by decide)).tr (fr.sA (k := 1004) (by decide))).tr g2, fun f h1 h2 => ?_, fun k hk => ?_⟩
    · rw [← g1, ← Nat.add_assoc, lp_s, c_lk1s hn (by omega) h]
    · rcases Nat.lt_or_ge q f with hj | hj
      · exact g3 f hj h2
      · have : f = q := by omega
        subst this
        rw [g4 (3 + f) (by omega), g4 (9 + f) (by omega)]
        constructor
        · show upd (upd _ _ _) _ _ _ = _
          rw [upd_v, if_neg (by omega), upd_v, if_pos rfl]
        · show upd _ _ _ _ = _
          rw [upd_v, if_pos rfl]
    · rw [g4 k (by omega)]
      show upd (upd _ _ _) _ _ _ = _
      rw [upd_v, if_neg (by omega), upd_v, if_neg (by omega)]
theorem c_look {n : Nat} (hn : n ≤ 6) (h : c.1 108 = Int32.ofNat n) : ∃ c', fX7_lookAround fz c = some ((), c') ∧ fr [] [] [1004] c c' ∧ c'.2.2.1 1004 0 = c.1 204 ∧ c'.2.2.1 1004 1 = c.1 1007 ∧ c'.2.2.1 1004 2 = c.1 1006 ∧ (∀ f, f < 6 → c'.2.2.1 1004 (3 + f) = (if f < n then c.2.2.1 200 f else -1) ∧ c'.2.2.1 1004 (9 + f) = (if f < n then c.2.2.1 201 f else -1)) ∧ ∀ g, g < 4 → c'.2.2.1 1004 (15 + g) = c.2.2.1 203 g := by
  let s1 : St := sA c 1004 (upd (c.2.2.1 1004) 0 (c.1 204))
  let s2 : St := sA s1 1004 (upd (s1.2.2.1 1004) 1 (c.1 1007))
  let s3 : St := sA s2 1004 (upd (s2.2.2.1 1004) 2 (c.1 1006))
  have hf : fr [] [] [1004] c s3 := ((fr.sA (k := 1004) (by decide)).tr (fr.sA (k := 1004) (by decide))).tr (fr.sA (k := 1004) (by decide))
  obtain ⟨s4, a1, a2, a3, a4⟩ := c_lk1 (fz := fz) hn 6 0 5993 s3 rfl h
  obtain ⟨s5, b1, b2, b3, b4⟩ := c_lk2 (fz := fz) 4 0 5995 s4 rfl
  refine ⟨s5, ?_, (hf.tr a2).tr b2, ?_, ?_, ?_, fun f hf6 => ?_, fun g hg => ?_⟩
  · unfold fX7_lookAround
    exact a1.trans b1
  · rw [b4 0 (by omega), a4 0 (by omega)]; rfl
  · rw [b4 1 (by omega), a4 1 (by omega)]; rfl
  · rw [b4 2 (by omega), a4 2 (by omega)]; rfl
  · rw [b4 (3 + f) (by omega), b4 (9 + f) (by omega)]; exact a3 f (by omega) hf6
  · rw [b3 g (by omega) hg, a2.2.2.1 203 (by decide)]; rfl
theorem c_worthO {Cc : Cd} {k i sec a b : Nat} {st : St} {s : Nat → Int64} {w : Nat → Int64} (h605 : st.1 605 = Int32.ofNat k) (hk : k ≤ 12) (h604 : st.1 604 = Int32.ofNat Cc.length) (hl : Cc.length ≤ 400) (hcode : ∀ i x, Cc[i]? = some x → st.2.2.1 603 i = cell x ∧ x.1 < 16 ∧ x.2 < 100000) (hi : i < k) (hs : sec ≤ 2) (ha : st.2.2.1 602 (4 * i + sec) = Int32.ofNat a) (hb : st.2.2.1 602 (4 * i + sec + 1) = Int32.ofNat b) (hab : a ≤ b) (hbl : b ≤ Cc.length) (hw : ∀ k, k < 19 → w k = (st.2.2.1 1004 k).toInt64) {D : Dn} (hD : (a = b ∧ ∀ w, D w = some 1) ∨ (a < b ∧ DenC (cdOf Cc) 19 a b 50 D)) : ∃ s', fX8_worth__6_1004_1005 (Int32.ofNat i) (Int32.ofNat sec) fz (sB st 1005 s) = some (enc (D w), sB st 1005 s') := by
  have e4 : Int32.ofNat i * 4 + Int32.ofNat sec = Int32.ofNat (4 * i + sec) := by
    rw [show (4 : Int32) = Int32.ofNat 4 from rfl, oN_mul, oN_add]; congr 1; omega
  have hmin : (if Int32.ofNat Cc.length < Int32.ofNat b then Int32.ofNat Cc.length else Int32.ofNat b) = Int32.ofNat b := if_ltF hbl (by omega)
  have main : fX8_worth__6_1004_1005 (Int32.ofNat i) (Int32.ofNat sec) fz (sB st 1005 s) = lp (fun _ _ _ _ _ => none) (fX8_worth__6_1004_1005_b74 fz) 6000 (Int32.ofNat b) 0 0 (Int32.ofNat a) (sB st 1005 s) := by
    unfold fX8_worth__6_1004_1005
    rw [sB_1, sB_3]
    rw [lt_v, if_neg (oN_neg (by omega)), h605, if_leF (by omega) (by omega), if_neg (oN_neg (by omega)), show (2 : Int32) = Int32.ofNat 2 from rfl, if_ltF (by omega) (by omega), e4, gi_N (by omega) (by omega), oN_tn (by omega), ha, if_pos (oN_nn (by omega)), oN_s, gi_N (by omega) (by omega), oN_tn (by omega), h604, hb, hmin, lt_v, gi_N (by omega) (by omega), lt_v]
  rw [main]
  rcases hD with ⟨e, hD⟩ | ⟨hlt, hD⟩
  · subst e
    refine ⟨s, ?_⟩
    have := KO_end (fz := fz) (st := st) (stop := a) (n := 5999) (t := 0) (go := 0) (s := s) (by omega) (by omega)
    rw [hD w]
    exact this
  · have hstep := KO_step (fz := fz) (st := st) (stop := b) (cd := cdOf Cc) (w := w) (by omega) (fun q hq => hcode q _ (cdOf_at (by omega))) hw
    have hrun := hD.2 _ w b _ _ hstep (Nat.le_refl _) (5999 - (b - a) + 1) 0 0 s (Nat.zero_le _) (by decide)
    rw [show 5999 - (b - a) + 1 + (b - a) = 6000 by omega] at hrun
    cases hv : D w with
    | none =>
      obtain ⟨s', hs'⟩ := hrun.2 hv
      exact ⟨s', hs'⟩
    | some v =>
      obtain ⟨go', s', h1, h2, h3, h4⟩ := hrun.1 v hv
      refine ⟨s', ?_⟩
      have hend := KO_end (fz := fz) (st := st) (stop := b) (n := 5999 - (b - a)) (t := 1) (go := go') (s := s') (by omega) (by omega)
      rw [if_neg (by decide), show (1 : Nat) - 1 = 0 from rfl, h2] at hend
      exact h4.trans hend
/-! the reference's words -/
def WR (w : Nat → Int64) (n : Nat) (m : St) : Prop := m.2.2.2.1 36 1 = w 0 ∧ m.2.2.2.1 36 2 = w 1 ∧ m.2.2.2.1 36 3 = w 2 ∧ m.2.2.1 3 0 = Int32.ofNat n ∧ n ≤ 6 ∧ (∀ f, f < 6 → w (3 + f) = (if f < n then (m.2.2.1 3 (13 + f)).toInt64 else -1) ∧ w (9 + f) = (if f < n then (m.2.2.1 3 (19 + f)).toInt64 else -1)) ∧ ∀ g, g < 4 → w (15 + g) = (m.2.2.1 3 (9 + g)).toInt64
/-- what reckoning writes -/
def eM (m m' : St) : Prop := (∀ k, k ∉ [38, 49] → m'.1 k = m.1 k) ∧ (∀ k, k ∉ [39] → m'.2.1 k = m.2.1 k) ∧ m'.2.2.1 = m.2.2.1 ∧ (∀ k, k ∉ [36, 37] → m'.2.2.2.1 k = m.2.2.2.1 k) ∧ m'.2.2.2.2 = m.2.2.2.2
theorem eM.rf {m : St} : eM m m := ⟨fun _ _ => rfl, fun _ _ => rfl, rfl, fun _ _ => rfl, rfl⟩
theorem eM.tr {a b d : St} (h : eM a b) (k : eM b d) : eM a d := ⟨fun q hq => (k.1 q hq).trans (h.1 q hq), fun q hq => (k.2.1 q hq).trans (h.2.1 q hq), k.2.2.1.trans h.2.2.1, fun q hq => (k.2.2.2.1 q hq).trans (h.2.2.2.1 q hq), k.2.2.2.2.trans h.2.2.2.2⟩
theorem m_reckonO {a b n : Nat} {Cm : Cd} {w : Nat → Int64} {D : Dn} (h20 : m.1 20 = 1) (hcd : codeR (m.2.2.1 24) (m.2.2.1 25) Cm) (hW : WR w n m) (hlt : a < b) (hbl : b ≤ Cm.length) (hl4 : Cm.length ≤ 400) (hD : DenM false (cdOf Cm) a b 50 D) : ∃ m', fX12_reckonAll (Int32.ofNat a) (Int32.ofNat b) m = some ((), m') ∧ m'.1 38 = (if D w = none then 1 else 0) ∧ (∀ x, D w = some x → m'.2.1 39 = x) ∧ (∀ k, k ≠ 38 → m'.1 k = m.1 k) ∧ (∀ k, k ≠ 39 → m'.2.1 k = m.2.1 k) ∧ m'.2.2.1 = m.2.2.1 ∧ (∀ k, k ≠ 37 → m'.2.2.2.1 k = m.2.2.2.1 k) ∧ m'.2.2.2.2 = m.2.2.2.2 := by
  obtain ⟨w1, w2, w3, w0, hn, w4, w5⟩ := hW
  have e0 : fX12_reckonAll (Int32.ofNat a) (Int32.ofNat b) m = lp (fun _ _ _ _ => none) fX12_reckonAll_b10 6000 (Int32.ofNat b) (Int32.ofNat 0) (Int32.ofNat a) (mS m 0 (m.2.2.2.1 37)) := by
    unfold fX12_reckonAll
    rw [lt_v]
    have : mS m 0 (m.2.2.2.1 37) = sI m 38 0 := sB_self (st := sI m 38 0) (k := 37)
    rw [this]; rfl
  rw [e0]
  have s20 : ∀ s, (mS m 0 s).1 20 = 1 := fun s => h20
  have s38 : ∀ s, (mS m 0 s).1 38 = 0 := fun s => rfl
  have s24 : ∀ s, (mS m 0 s).2.2.1 24 = m.2.2.1 24 := fun s => rfl
  have s25 : ∀ s, (mS m 0 s).2.2.1 25 = m.2.2.1 25 := fun s => rfl
  have s3 : ∀ s, (mS m 0 s).2.2.1 3 = m.2.2.1 3 := fun s => rfl
  have s36 : ∀ s, (mS m 0 s).2.2.2.1 36 = m.2.2.2.1 36 := fun s => rfl
  have hfo : ∀ s x, x < 6 → fX12_isFort (Int32.ofNat x) (mS m 0 s) = some (if x < n then 1 else 0, mS m 0 s) := fun s x hx => isFort_n (m := mS m 0 s) w0 hn hx
  have hstep := KM_step (lw := false) (st := m) (stop := b) (cd := cdOf Cm) (w := w) (by omega) (by
    intro k t q s hq
    obtain ⟨r1, r2⟩ := hcd q _ (cdOf_at (by omega))
    unfold fX12_reckonAll_b10 fX12_reckonAll_b57
    rw [if_leF hq (by omega), s38, if_pos rfl, s20, if_neg (by decide), gi_N (by omega) (by omega), s24, oN_tn (by omega), r1, if_neg (by decide), gi_N (by omega) (by omega), s25, r2]) (by
    intro k t q s o x hq hl
    obtain ⟨h1, hl⟩ := hl
    rw [if_neg (by decide)] at hl
    have ho : o ≤ 6 := by omega
    unfold fX12_reckonAll_b95
    rw [lt_v, show (20 : Int32) = Int32.ofNat 20 from rfl, if_leF (by omega) (by omega), if_neg (show ¬ (Int32.ofNat o = 0) from fun q => by have := (oN_eq (b := 0) (by omega) (by omega)).mp q; omega), s20, if_neg (by decide), oN_s, show (4 : Int32) = Int32.ofNat 4 from rfl, show (6 : Int32) = Int32.ofNat 6 from rfl, show (9 : Int32) = Int32.ofNat 9 from rfl, show (13 : Int32) = Int32.ofNat 13 from rfl, show (19 : Int32) = Int32.ofNat 19 from rfl]
    rcases hl with h | ⟨e, hx⟩ | ⟨e, hx⟩ | ⟨e, hx⟩
    · have ew : w (wi false o x) = m.2.2.2.1 36 o := by
        unfold wi
        rw [if_pos (Or.inr (by omega))]
        have : o = 1 ∨ o = 2 ∨ o = 3 := by omega
        rcases this with e | e | e <;> subst e
        · exact w1.symm
        · exact w2.symm
        · exact w3.symm
      rw [if_leF (by omega) (by omega), gi_N (by omega) (by decide), oN_tn (by omega), s36, ew]
    · subst e
      have ew : w (wi false 4 x) = (if x < n then (m.2.2.1 3 (13 + x)).toInt64 else -1) := by
        unfold wi
        rw [if_neg (by decide), if_pos rfl]
        exact (w4 x (by omega)).1
      rw [if_leT (by decide) (by decide), if_eqF (by decide) (by decide) (by decide), hfo s x (by omega), bd_v, ew]
      by_cases hc : x < n
      · rw [if_pos hc, i10, if_eqT rfl, oN_add, gi_N (by omega) (by decide), s3, oN_tn (by omega), if_pos hc]
      · rw [if_neg hc, i00, if_neg hc]
    · subst e
      have ew : w (wi false 5 x) = (if x < n then (m.2.2.1 3 (19 + x)).toInt64 else -1) := by
        unfold wi
        rw [if_neg (by decide), if_neg (by decide), if_pos rfl]
        exact (w4 x (by omega)).2
      rw [if_leT (by decide) (by decide), if_eqF (by decide) (by decide) (by decide), hfo s x (by omega), bd_v, ew]
      by_cases hc : x < n
      · rw [if_pos hc, i10, if_eqF (by decide) (by decide) (by decide), oN_add, gi_N (show 19 + x < 5550 by omega) (by decide), s3, oN_tn (show 19 + x < 2147483648 by omega), if_pos hc]
      · rw [if_neg hc, i00, if_neg hc]
    · subst e
      have ew : w (wi false 6 x) = (m.2.2.1 3 (9 + x)).toInt64 := by
        unfold wi
        rw [if_neg (by decide), if_neg (by decide), if_neg (by decide)]
        exact w5 x (by omega)
      rw [if_leT (by decide) (by decide), if_eqT rfl, oN_add, gi_N (by omega) (by decide), s3, oN_tn (by omega), ew])
  have hrun := hD.2 _ w b _ _ hstep (Nat.le_refl _)
  have fin : ∀ x s v, (∀ k, k ≠ 38 → (sJ (mS m x s) 39 v).1 k = m.1 k) ∧ (∀ k, k ≠ 39 → (sJ (mS m x s) 39 v).2.1 k = m.2.1 k) ∧ (sJ (mS m x s) 39 v).2.2.1 = m.2.2.1 ∧ (∀ k, k ≠ 37 → (sJ (mS m x s) 39 v).2.2.2.1 k = m.2.2.2.1 k) ∧ (sJ (mS m x s) 39 v).2.2.2.2 = m.2.2.2.2 := by
    intro x s v
    refine ⟨fun k hk => ?_, fun k hk => ?_, rfl, fun k hk => ?_, rfl⟩
    · show va_up m.1 38 x k = _
      rw [vup_v, if_neg hk]
    · show va_up m.2.1 39 v k = _
      rw [vup_v, if_neg hk]
    · show va_up m.2.2.2.1 37 s k = _
      rw [vup_v, if_neg hk]
  cases hv : D w with
  | none =>
    have := (hrun (5998 - (b - a) + 1) 0 (m.2.2.2.1 37) (by decide)).2 hv
    rw [show 5998 - (b - a) + 1 + 1 + (b - a) = 6000 by omega] at this
    obtain ⟨s', v', h'⟩ := this
    exact ⟨_, h', rfl, (fun x hx => by cases hx), fin 1 s' v'⟩
  | some x =>
    obtain ⟨n', s', h1, h2, h3, h4⟩ := (hrun (5999 - (b - a) + 1) 0 (m.2.2.2.1 37) (by decide)).1 x hv
    rw [show 5999 - (b - a) + 1 + (b - a) = 6000 by omega] at h4
    have hend := KM_end (st := m) (stop := b) (t := 1) (n := n' - 1) (s := s') (by omega) (by decide) (by decide)
    rw [show n' - 1 + 1 = n' by omega] at hend
    refine ⟨_, h4.trans hend, rfl, fun y hy => ?_, fin 0 s' (s' 0)⟩
    cases hy
    exact h2
theorem m_sumO {at' a b n : Nat} {Cm : Cd} {w : Nat → Int64} {D : Dn} (h49 : m.1 49 = 0) (h20 : m.1 20 = 0) (hat : at' + 1 < 96) (ha : m.2.2.1 45 at' = Int32.ofNat a) (hb : m.2.2.1 45 (at' + 1) = Int32.ofNat b) (hcd : codeR (m.2.2.1 24) (m.2.2.1 25) Cm) (hW : WR w n m) (hlt : a < b) (hbl : b ≤ Cm.length) (hl4 : Cm.length ≤ 400) (hD : DenM false (cdOf Cm) a b 50 D) : ∃ v m', fX12_sumOf (Int32.ofNat at') m = some (v, m') ∧ eM m m' ∧ m'.2.2.2.1 36 = m.2.2.2.1 36 ∧ m'.1 49 = (if D w = none then 1 else 0) ∧ (∀ x, D w = some x → v = x.toInt32) := by
  obtain ⟨m2, g1, g2, g3, g4, g5, g6, g7, g8⟩ := m_reckonO (m := sI m 20 1) (w := w) (n := n) rfl hcd hW hlt hbl hl4 hD
  have hne : ¬ (Int32.ofNat a = Int32.ofNat b) := fun q => by have := (oN_eq (by omega) (by omega)).mp q; omega
  have e38 : (sI m2 20 0).1 38 = (if D w = none then 1 else 0) := g2
  refine ⟨((sI (sI m2 20 0) 49 (if D w = none then 1 else 0)).2.1 39).toInt32, sI (sI m2 20 0) 49 (if D w = none then 1 else 0), ?_, ⟨fun k hk => ?_, fun k hk => ?_, ?_, fun k hk => ?_, ?_⟩, ?_, rfl, fun x hx => ?_⟩
  · unfold fX12_sumOf
    rw [h49, if_pos rfl, oN_s, gi_N (by omega) (by decide), gi_N (by omega) (by decide), oN_tn (by omega), oN_tn (by omega), ha, hb, if_neg hne, lt_v, gi_N (by omega) (by decide), gi_N (by omega) (by decide), show (sI m 20 1).2.2.1 45 at' = Int32.ofNat a from ha, show (sI m 20 1).2.2.1 45 (at' + 1) = Int32.ofNat b from hb, g1, bd_v, lt_v, e38, gb_ite, lt_v]
  · have k1 : k ≠ 49 := fun e => hk (by rw [e]; decide)
    have k2 : k ≠ 38 := fun e => hk (by rw [e]; decide)
    rw [sI_1, if_neg k1, sI_1]
    by_cases e : k = 20
    · rw [if_pos e, e, h20]
    · rw [if_neg e, g4 k k2, sI_1, if_neg e]
  · exact g5 k (fun e => hk (by rw [e]; decide))
  · exact g6
  · exact g7 k (fun e => hk (by rw [e]; decide))
  · exact g8
  · exact g7 36 (by decide)
  · show (m2.2.1 39).toInt32 = _
    rw [g3 x hx]
end OrdE
