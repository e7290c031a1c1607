/-! T2, the class's tokens -/
/-- the class's tape -/
def tpC (B : Nat → Nat) (L : Nat) (st : St) : Prop := L ≤ 400 ∧ st.1 504 = Int32.ofNat L ∧ (∀ i, i < 400 → st.2.2.1 500 i = Int32.ofNat (B i)) ∧ ∀ i, B i < 256
theorem c_isLetter {b : Nat} (hb : b < 256) : fX10_isLetter (Int32.ofNat b) = some (if isLb b = true then 1 else 0) := m_isSmall hb
theorem c_isDigit {b : Nat} (hb : b < 256) : fX10_isDigit (Int32.ofNat b) = some (if isDb b = true then 1 else 0) := m_isDigit hb
theorem c_isLetterT {b : Nat} (hb : b < 256) (h : isLb b = true) : fX10_isLetter (Int32.ofNat b) = some 1 := by rw [c_isLetter hb, if_pos h]
theorem c_isLetterF {b : Nat} (hb : b < 256) (h : ¬ isLb b = true) : fX10_isLetter (Int32.ofNat b) = some 0 := by rw [c_isLetter hb, if_neg h]
theorem c_isDigitT {b : Nat} (hb : b < 256) (h : isDb b = true) : fX10_isDigit (Int32.ofNat b) = some 1 := by rw [c_isDigit hb, if_pos h]
theorem c_isDigitF {b : Nat} (hb : b < 256) (h : ¬ isDb b = true) : fX10_isDigit (Int32.ofNat b) = some 0 := by rw [c_isDigit hb, if_neg h]
theorem c_eot_l {B : Nat → Nat} {L : Nat} {st : St} {fz : List FP} (ht : tpC B L st) {ltr : Bool} : ∀ (f p n : Nat), L < p + f → p ≤ L → lp (fun _ _ _ => none) (fX10_endOfToken_b34 fz) (n + f) (if ltr = true then 1 else 0) (Int32.ofNat p) st = some (Int32.ofNat (lxR (if ltr = true then isLb else isDb) B L f p), st) := by
  intro f
  induction f with
  | zero => intro p n h h2; omega
  | succ f ih =>
    intro p n h h2
    obtain ⟨hL, h13, h12, hB⟩ := ht
    rw [← Nat.add_assoc, lp_s]
    have ih := ih (p + 1) n
    generalize lp (fun _ _ _ => none) (fX10_endOfToken_b34 fz) (n + f) = k at ih ⊢
    unfold fX10_endOfToken_b34 lxR
    rw [h13]
    by_cases hp : L ≤ p
    · rw [if_leT hp (by omega), if_neg (show ¬ (p < L ∧ _) from fun q => by omega)]; rfl
    · rw [if_leF (by omega) (by omega), oN_tn (by omega), h12 p (by omega)]
      unfold fX10_endOfToken_b73
      cases ltr with
      | true =>
        rw [if_neg (show ¬ ((if true = true then (1 : Int32) else 0) = 0) by decide), gi_N (by omega) (by omega)]
        by_cases hb : isLb (B p) = true
        · rw [c_isLetterT (hB p) hb, bs_v, if_neg (by decide), lt_v, oN_s, if_pos (show p < L ∧ (if true = true then isLb else isDb) (B p) = true from ⟨by omega, hb⟩)]
          exact ih (by omega) (by omega)
        · rw [c_isLetterF (hB p) hb, bs_v, if_pos rfl, if_neg (show ¬ (p < L ∧ (if true = true then isLb else isDb) (B p) = true) from fun h => hb h.2)]; rfl
      | false =>
        rw [if_pos (show ((if false = true then (1 : Int32) else 0) = 0) by decide), gi_N (by omega) (by omega)]
        by_cases hb : isDb (B p) = true
        · rw [c_isDigitT (hB p) hb, bs_v, if_neg (by decide), lt_v, oN_s, if_pos (show p < L ∧ (if false = true then isLb else isDb) (B p) = true from ⟨by omega, hb⟩)]
          exact ih (by omega) (by omega)
        · rw [c_isDigitF (hB p) hb, bs_v, if_pos rfl, if_neg (show ¬ (p < L ∧ (if false = true then isLb else isDb) (B p) = true) from fun h => hb h.2)]; rfl
theorem c_endOfToken {B : Nat → Nat} {L p : Nat} {st : St} {fz : List FP} (ht : tpC B L st) (hp : p < L) : fX10_endOfToken (Int32.ofNat p) fz st = some (Int32.ofNat (lxE B L p), st) := by
  have ht' := ht
  obtain ⟨hL, h13, h12, hB⟩ := ht'
  unfold fX10_endOfToken lxE
  rw [if_neg (show ¬ L ≤ p by omega), gi_N (by omega) (by omega), oN_tn (by omega), h12 p (by omega)]
  unfold fX10_endOfToken_b30
  by_cases hb : isLb (B p) = true
  · rw [c_isLetterT (hB p) hb, bs_v, if_neg (by decide), if_pos hb, lt_v, oN_s]
    exact c_eot_l (ltr := true) ht 401 (p + 1) 5599 (by omega) (by omega)
  · rw [c_isLetterF (hB p) hb, bs_v, if_pos rfl, gi_N (by omega) (by omega), if_neg hb]
    by_cases hd : isDb (B p) = true
    · rw [c_isDigitT (hB p) hd, bs_v, if_neg (by decide), if_pos hd, lt_v, oN_s]
      exact c_eot_l (ltr := false) ht 401 (p + 1) 5599 (by omega) (by omega)
    · rw [c_isDigitF (hB p) hd, bs_v, if_pos rfl, if_neg hd, oN_s]
theorem lxV_le {B : Nat → Nat} {p : Nat} : ∀ k, lxV B p k ≤ 9999 := by
  intro k
  cases k with
  | zero => exact Nat.zero_le _
  | succ k => exact Nat.min_le_left _ _
theorem c_valueOf_l {B : Nat → Nat} {L a : Nat} {st : St} {fz : List FP} (ht : tpC B L st) : ∀ (k p n : Nat), p + k ≤ 400 → a ≤ p → (∀ i, i < k → isDb (B (p + i)) = true) → lp (fun _ _ _ _ => none) (fX10_valueOf_b5 fz) (n + 1 + k) (Int32.ofNat (p + k)) (Int32.ofNat (lxV B a (p - a))) (Int32.ofNat p) st = some (Int32.ofNat (lxV B a (p + k - a)), st) := by
  intro k
  induction k with
  | zero =>
    intro p n h h2 _
    show lp (fun _ _ _ _ => none) (fX10_valueOf_b5 fz) (n + 1) (Int32.ofNat p) _ (Int32.ofNat p) st = _
    rw [lp_s]
    generalize lp (fun _ _ _ _ => none) (fX10_valueOf_b5 fz) n = kk
    unfold fX10_valueOf_b5
    rw [if_leT (Nat.le_refl _) (by omega)]
    rfl
  | succ k ih =>
    intro p n h h2 hd
    obtain ⟨hL, h13, h12, hB⟩ := ht
    have ih := ih (p + 1) n (by omega) (by omega) (fun i hi => by have := hd (i + 1) (by omega); rw [show p + 1 + i = p + (i + 1) by omega]; exact this)
    rw [← Nat.add_assoc, lp_s]
    rw [show p + 1 + k = p + (k + 1) by omega] at ih
    generalize lp (fun _ _ _ _ => none) (fX10_valueOf_b5 fz) (n + 1 + k) = kk at ih ⊢
    unfold fX10_valueOf_b5
    have hv := @lxV_le B a (p - a)
    have hb := of_decide_eq_true (hd 0 (by omega))
    rw [Nat.add_zero] at hb
    have e10 : Int32.ofNat (lxV B a (p - a)) * 10 + Int32.ofNat (B p) - 48 = Int32.ofNat (lxV B a (p - a) * 10 + B p - 48) := by
      rw [show (10 : Int32) = Int32.ofNat 10 from rfl, show (48 : Int32) = Int32.ofNat 48 from rfl, oN_mul, oN_add, oN_sub (by omega)]
    have eV : lxV B a (p + 1 - a) = min 9999 (lxV B a (p - a) * 10 + B p - 48) := by
      rw [show p + 1 - a = (p - a) + 1 by omega]
      show min 9999 (lxV B a (p - a) * 10 + B (a + (p - a)) - 48) = _
      rw [show a + (p - a) = p by omega]
    have em : (if Int32.ofNat (lxV B a (p - a) * 10 + B p - 48) < 9999 then Int32.ofNat (lxV B a (p - a) * 10 + B p - 48) else 9999) = Int32.ofNat (lxV B a (p + 1 - a)) := by
      rw [eV, show (9999 : Int32) = Int32.ofNat 9999 from rfl]
      by_cases hc : lxV B a (p - a) * 10 + B p - 48 < 9999
      · rw [if_ltT hc (by omega), Nat.min_eq_right (by omega)]
      · rw [if_ltF (by omega) (by omega), Nat.min_eq_left (by omega)]
    rw [if_leF (by omega) (by omega), gi_N (by omega) (by omega), oN_tn (by omega), h12 p (by omega), e10, em, lt_v, lt_v, oN_s]
    exact ih
/-- a row of letters, word by word -/
def mtc (B : Nat → Nat) (q : Nat) : Nat → List Nat → Bool
  | _, [] => true
  | p, x :: w => decide (p < q ∧ B p = x) && mtc B q (p + 1) w
theorem mtc_iff {B : Nat → Nat} {q : Nat} : ∀ (w : List Nat) (p : Nat), p ≤ q → ((mtc B q p w = true ∧ p + w.length = q) ↔ ltrs B p (q - p) = w) := by
  intro w
  induction w with
  | nil =>
    intro p hp
    constructor
    · intro h
      have : q - p = 0 := by have := h.2; simp at this; omega
      rw [this]; rfl
    · intro h
      have := congrArg List.length h
      simp [ltrs] at this
      refine ⟨rfl, ?_⟩
      show p + 0 = q
      omega
  | cons x w ih =>
    intro p hp
    by_cases hpq : p < q
    · have e : ltrs B p (q - p) = B p :: ltrs B (p + 1) (q - (p + 1)) := by
        unfold ltrs
        rw [show q - p = (q - (p + 1)) + 1 by omega, List.range_succ_eq_map, List.map_cons, List.map_map]
        congr 1
        apply List.map_congr_left
        intro i _
        show B (p + (i + 1)) = B (p + 1 + i)
        congr 1; omega
      rw [e]
      have := ih (p + 1) (by omega)
      constructor
      · intro h
        have h1 : (decide (p < q ∧ B p = x) && mtc B q (p + 1) w) = true := h.1
        rw [Bool.and_eq_true] at h1
        have h2 := of_decide_eq_true h1.1
        rw [h2.2, this.mp ⟨h1.2, by have := h.2; simp at this; omega⟩]
      · intro h
        have h1 := List.cons.inj h
        obtain ⟨h2, h3⟩ := this.mpr h1.2
        refine ⟨?_, by simp; omega⟩
        show (decide (p < q ∧ B p = x) && mtc B q (p + 1) w) = true
        rw [Bool.and_eq_true]
        exact ⟨decide_eq_true ⟨hpq, h1.1⟩, h2⟩
    · constructor
      · intro h; have := h.2; simp at this; omega
      · intro h
        have := congrArg List.length h
        simp [ltrs] at this
        omega
theorem kw_scan {B : Nat → Nat} {L : Nat} {st : St} {fz : List FP} (ht : tpC B L st) {p q kd : Nat} (hq : q ≤ 400) : ∀ (w : List Nat) (a i n : Nat) (s : Bool), (∀ t x, w[t]? = some x → wordsF (i + t) = Int32.ofNat x ∧ x ≠ 32 ∧ x < 256) → i + w.length ≤ 140 → a + w.length ≤ 1000 → lp (fun _ _ _ _ _ _ _ => none) (fX10_kindOfWord_b13 fz) (n + w.length) (Int32.ofNat p) (Int32.ofNat q) (Int32.ofNat kd) (Int32.ofNat a) (if s = true then 1 else 0) (Int32.ofNat i) st = lp (fun _ _ _ _ _ _ _ => none) (fX10_kindOfWord_b13 fz) n (Int32.ofNat p) (Int32.ofNat q) (Int32.ofNat kd) (Int32.ofNat (a + w.length)) (if (s && mtc B q a w) = true then 1 else 0) (Int32.ofNat (i + w.length)) st := by
  intro w
  induction w with
  | nil => intro a i n s _ _ _; simp [mtc]
  | cons x w ih =>
    intro a i n s hw hi ha
    obtain ⟨hL, h13, h12, hB⟩ := ht
    have hlen : (x :: w).length = w.length + 1 := rfl
    rw [hlen] at hi ha
    obtain ⟨w1, w2, w3⟩ := hw 0 x rfl
    rw [Nat.add_zero] at w1
    rw [hlen, ← Nat.add_assoc n, lp_s]
    have ih := ih (a + 1) (i + 1) n (s && decide (a < q ∧ B a = x)) (fun t y hy => by have := hw (t + 1) y hy; rw [show i + 1 + t = i + (t + 1) by omega]; exact this) (by omega)
    rw [show a + (w.length + 1) = a + 1 + w.length by omega, show i + (w.length + 1) = i + 1 + w.length by omega]
    have em : (s && mtc B q a (x :: w)) = ((s && decide (a < q ∧ B a = x)) && mtc B q (a + 1) w) := by
      show (s && (decide (a < q ∧ B a = x) && mtc B q (a + 1) w)) = _
      rw [Bool.and_assoc]
    rw [em]
    rw [← ih (by omega)]
    generalize lp (fun _ _ _ _ _ _ _ => none) (fX10_kindOfWord_b13 fz) (n + w.length) = kk
    conv => lhs; unfold fX10_kindOfWord_b13
    rw [show (141 : Int32) = Int32.ofNat 141 from rfl, if_leF (by omega) (by omega), gi_N (by omega) (by omega), oN_tn (by omega), w1, lt_v, show (32 : Int32) = Int32.ofNat 32 from rfl, if_eqF w2 (by omega) (by omega)]
    unfold fX10_kindOfWord_b66 fX10_kindOfWord_b67 fX10_kindOfWord_b97
    cases s with
    | false =>
      rw [if_pos (show ((if false = true then (1 : Int32) else 0) = 0) by decide), lt_v, lt_v, oN_s, oN_s]
      rfl
    | true =>
      rw [if_neg (show ¬ ((if true = true then (1 : Int32) else 0) = 0) by decide)]
      by_cases hqa : q ≤ a
      · rw [if_leT hqa (by omega), lt_v, lt_v, oN_s, oN_s]
        have : decide (a < q ∧ B a = x) = false := decide_eq_false (by omega)
        rw [this]
        rfl
      · rw [if_leF (by omega) (by omega), gi_N (by omega) (by omega), oN_tn (by omega), h12 a (by omega)]
        by_cases hx : B a = x
        · rw [if_eqT hx, lt_v, lt_v, oN_s, oN_s]
          have : decide (a < q ∧ B a = x) = true := decide_eq_true ⟨by omega, hx⟩
          rw [this]
          rfl
        · rw [if_eqF hx (by have := hB a; omega) (by omega), lt_v, lt_v, oN_s, oN_s]
          have : decide (a < q ∧ B a = x) = false := decide_eq_false (fun q => hx q.2)
          rw [this]
          rfl
theorem kw_word {B : Nat → Nat} {L : Nat} {st : St} {fz : List FP} (ht : tpC B L st) {p q kd i n : Nat} {w : List Nat} (hp : p ≤ q) (hq : q ≤ 400) (hw : ∀ t x, w[t]? = some x → wordsF (i + t) = Int32.ofNat x ∧ x ≠ 32 ∧ x < 256) (hs : wordsF (i + w.length) = 32) (hi : i + w.length ≤ 140) (hkd : kd ≤ 400) : lp (fun _ _ _ _ _ _ _ => none) (fX10_kindOfWord_b13 fz) (n + 1 + w.length) (Int32.ofNat p) (Int32.ofNat q) (Int32.ofNat kd) (Int32.ofNat p) 1 (Int32.ofNat i) st = if ltrs B p (q - p) = w then some (Int32.ofNat kd, st) else lp (fun _ _ _ _ _ _ _ => none) (fX10_kindOfWord_b13 fz) n (Int32.ofNat p) (Int32.ofNat q) (Int32.ofNat (kd + 1)) (Int32.ofNat p) 1 (Int32.ofNat (i + w.length + 1)) st := by
  have h1 := kw_scan (fz := fz) ht (p := p) (q := q) (kd := kd) hq w p i (n + 1) true hw hi (by omega)
  rw [if_pos rfl] at h1
  rw [h1, Bool.true_and, lp_s]
  generalize lp (fun _ _ _ _ _ _ _ => none) (fX10_kindOfWord_b13 fz) n = kk
  unfold fX10_kindOfWord_b13
  rw [show (141 : Int32) = Int32.ofNat 141 from rfl, if_leF (by omega) (by omega), gi_N (by omega) (by omega), oN_tn (by omega), hs, lt_v, if_pos rfl]
  unfold fX10_kindOfWord_b88 fX10_kindOfWord_b97
  have hm := mtc_iff (B := B) w p hp
  by_cases hb : mtc B q p w = true
  · rw [if_pos hb, if_neg (by decide)]
    by_cases he : p + w.length = q
    · rw [if_eqT he, if_pos (hm.mp ⟨hb, he⟩)]
    · rw [if_eqF he (by omega) (by omega), if_neg (fun e => he (hm.mpr e).2), lt_v, lt_v, oN_s, oN_s]
  · rw [if_neg hb, if_pos rfl, if_neg (fun e => hb (hm.mpr e).1), lt_v, lt_v, oN_s, oN_s]
/-- where word k begins in the text of words -/
def wOff : Nat → Nat
  | 0 => 0
  | k + 1 => wOff k + (wl.getD k []).length + 1
theorem wOff_ok : ∀ k, k < 29 → (∀ t, t < (wl.getD k []).length → wordsF (wOff k + t) = Int32.ofNat ((wl.getD k []).getD t 0) ∧ (wl.getD k []).getD t 0 ≠ 32 ∧ (wl.getD k []).getD t 0 < 256) ∧ wordsF (wOff k + (wl.getD k []).length) = 32 ∧ wOff k + (wl.getD k []).length ≤ 140 := by decide +kernel
theorem c_kindOfWord {B : Nat → Nat} {L : Nat} {st : St} {fz : List FP} (ht : tpC B L st) {p q : Nat} (hp : p ≤ q) (hq : q ≤ 400) : fX10_kindOfWord (Int32.ofNat p) (Int32.ofNat q) fz st = some (Int32.ofNat (if wIx (ltrs B p (q - p)) < 29 then 300 + wIx (ltrs B p (q - p)) else 258), st) := by
  have hloop : ∀ (m k n : Nat), m + k = 29 → (∀ i, i < k → ltrs B p (q - p) ≠ wl.getD i []) → lp (fun _ _ _ _ _ _ _ => none) (fX10_kindOfWord_b13 fz) (n + 1 + (141 - wOff k)) (Int32.ofNat p) (Int32.ofNat q) (Int32.ofNat (300 + k)) (Int32.ofNat p) 1 (Int32.ofNat (wOff k)) st = some (Int32.ofNat (if wIx (ltrs B p (q - p)) < 29 then 300 + wIx (ltrs B p (q - p)) else 258), st) := by
    intro m
    induction m with
    | zero =>
      intro k n hk hne
      have hk : k = 29 := by omega
      subst hk
      have e141 : wOff 29 = 141 := by decide +kernel
      rw [e141, Nat.sub_self, Nat.add_zero, lp_s]
      generalize lp (fun _ _ _ _ _ _ _ => none) (fX10_kindOfWord_b13 fz) n = kk
      unfold fX10_kindOfWord_b13
      rw [show (141 : Int32) = Int32.ofNat 141 from rfl, if_leT (Nat.le_refl _) (by omega), if_neg]
      · rfl
      · intro hc
        exact hne _ hc ((wIx_eq hc).mp rfl)
    | succ m ih =>
      intro k n hk hne
      obtain ⟨w1, w2, w3⟩ := wOff_ok k (by omega)
      have hx : ∀ t x, (wl.getD k [])[t]? = some x → wordsF (wOff k + t) = Int32.ofNat x ∧ x ≠ 32 ∧ x < 256 := by
        intro t x hx
        have hlt := (List.getElem?_eq_some_iff.mp hx).1
        have := w1 t hlt
        rw [List.getD_eq_getElem?_getD, hx] at this
        exact this
      have hw := kw_word (fz := fz) ht (p := p) (q := q) (kd := 300 + k) (n := n + 1 + (141 - wOff (k + 1))) hp hq hx w2 w3 (by omega)
      have eo : wOff (k + 1) = wOff k + (wl.getD k []).length + 1 := rfl
      rw [show n + 1 + (141 - wOff k) = n + 1 + (141 - wOff (k + 1)) + 1 + (wl.getD k []).length by omega, hw]
      by_cases he : ltrs B p (q - p) = wl.getD k []
      · have e2 := (wIx_eq (l := ltrs B p (q - p)) (i := k) (by omega)).mpr he
        rw [if_pos he, e2, if_pos (by omega)]
      · rw [if_neg he, ← eo]
        refine ih (k + 1) n (by omega) (fun i hi => ?_)
        rcases Nat.lt_or_ge i k with h3 | h3
        · exact hne i h3
        · rw [show i = k by omega]; exact he
  exact hloop 29 0 5858 rfl (fun i hi => absurd hi (Nat.not_lt_zero i))
theorem c_valueOf {B : Nat → Nat} {L p q : Nat} {st : St} {fz : List FP} (ht : tpC B L st) (hp : p ≤ q) (hq : q ≤ 400) (hd : ∀ i, i < q - p → isDb (B (p + i)) = true) : fX10_valueOf (Int32.ofNat p) (Int32.ofNat q) fz st = some (Int32.ofNat (lxV B p (q - p)), st) := by
  have := c_valueOf_l (fz := fz) ht (a := p) (q - p) p (5999 - (q - p)) (by omega) (Nat.le_refl _) hd
  rw [Nat.sub_self, show p + (q - p) = q by omega, show 5999 - (q - p) + 1 + (q - p) = 6000 by omega] at this
  exact this
/-- the table of tokens, k of them -/
def tbC (B : Nat → Nat) (L k : Nat) (st : St) : Prop := st.1 505 = Int32.ofNat k ∧ ∀ i, i < k → st.2.2.1 501 i = Int32.ofNat (tK B L i) ∧ st.2.2.1 502 i = Int32.ofNat (tP B L i) ∧ (tK B L i = 256 → st.2.2.1 503 i = Int32.ofNat (tV B L i))
theorem tpC.fr {B : Nat → Nat} {L : Nat} {st st' : St} {I J A : List Nat} (h : tpC B L st) (f : fr I J A st st') (h1 : 504 ∉ I) (h2 : 500 ∉ A) : tpC B L st' := ⟨h.1, by rw [f.1 504 h1]; exact h.2.1, by rw [f.2.2.1 500 h2]; exact h.2.2.1, h.2.2.2⟩
theorem c_keep {B : Nat → Nat} {L k : Nat} {st : St} {fz : List FP} (ht : tpC B L st) (hb : tbC B L k st) (hk : k ≤ 400) (hlt : tP B L k < L) : ∃ st', fX10_keep (Int32.ofNat (tP B L k)) (Int32.ofNat (lxP B L (k + 1))) fz st = some ((), st') ∧ tbC B L (k + 1) st' ∧ fr [505] [] [501, 502, 503] st st' := by
  have ht' := ht
  obtain ⟨hL, h504, h500, hB⟩ := ht'
  obtain ⟨h505, htab⟩ := hb
  have hend := lxP_gt hlt
  have hle := @lxP_le B L (k + 1)
  -- the three rows written at k, and the number
  have fin : ∀ (st1 : St), fr [] [] [501, 502, 503] st st1 → (∀ i, i < k → st1.2.2.1 501 i = st.2.2.1 501 i ∧ st1.2.2.1 502 i = st.2.2.1 502 i ∧ st1.2.2.1 503 i = st.2.2.1 503 i) → st1.2.2.1 501 k = Int32.ofNat (tK B L k) → st1.2.2.1 502 k = Int32.ofNat (tP B L k) → (tK B L k = 256 → st1.2.2.1 503 k = Int32.ofNat (tV B L k)) → ∃ st', fX10_keep_b107 fz st1 = some ((), st') ∧ tbC B L (k + 1) st' ∧ fr [505] [] [501, 502, 503] st st' := by
    intro st1 hf hold e1 e2 e3
    have h5 : st1.1 505 = Int32.ofNat k := by rw [hf.1 505 (by decide)]; exact h505
    refine ⟨sI st1 505 (Int32.ofNat (k + 1)), ?_, ⟨rfl, fun i hi => ?_⟩, (hf.up (by decide) (by decide) (by decide)).tr (fr.sI (by decide))⟩
    · unfold fX10_keep_b107
      rw [lt_v, h5, oN_s]
    · rcases Nat.lt_or_ge i k with h3 | h3
      · obtain ⟨o1, o2, o3⟩ := hold i h3
        obtain ⟨t1, t2, t3⟩ := htab i h3
        exact ⟨o1.trans t1, o2.trans t2, fun q => o3.trans (t3 q)⟩
      · rw [show i = k by omega]; exact ⟨e1, e2, e3⟩
  unfold fX10_keep
  rw [h505, gi_N (by omega) (by omega), lt_v, oN_tn (by omega)]
  have q505 : ∀ f, (sA st 502 f).1 505 = Int32.ofNat k := fun _ => h505
  rw [q505, gi_N (by omega) (by omega), lt_v, gi_N (by omega) (by omega)]
  have q505b : ∀ f g, (sA (sA st 502 f) 503 g).1 505 = Int32.ofNat k := fun _ _ => h505
  have q500 : ∀ f g, (sA (sA st 502 f) 503 g).2.2.1 500 (tP B L k) = Int32.ofNat (B (tP B L k)) := fun _ _ => h500 _ (by omega)
  rw [oN_tn (by omega), oN_tn (by omega), q500, q505b]
  -- the state so far
  generalize hs3 : sA (sA st 502 (upd (st.2.2.1 502) k (Int32.ofNat (tP B L k)))) 503 (upd ((sA st 502 (upd (st.2.2.1 502) k (Int32.ofNat (tP B L k)))).2.2.1 503) k 0) = st3
  have hf3 : fr [] [] [501, 502, 503] st st3 := by rw [← hs3]; exact (fr.sA (k := 502) (by decide)).tr (fr.sA (k := 503) (by decide))
  have ht3 := ht.fr hf3 (by decide) (by decide)
  have e501 : st3.2.2.1 501 = st.2.2.1 501 := by rw [← hs3]; rfl
  have e502 : st3.2.2.1 502 = upd (st.2.2.1 502) k (Int32.ofNat (tP B L k)) := by rw [← hs3]; rfl
  have e503 : st3.2.2.1 503 = upd (st.2.2.1 503) k 0 := by rw [← hs3]; rfl
  have hu : ∀ (f : Nat → Int32) (v : Int32) (i : Nat), i < k → upd f k v i = f i := fun f v i hi => by rw [upd_v, if_neg (by omega)]
  have hu2 : ∀ (f : Nat → Int32) (v : Int32), upd f k v k = v := fun f v => by rw [upd_v, if_pos rfl]
  simp only [oN_tn (a := k) (show k < 2147483648 by omega)]
  by_cases hl : isLb (B (tP B L k)) = true
  · have hs : tSort B L k = 1 := by unfold tSort; rw [if_neg (by omega), if_pos hl]
    have hK : tK B L k = (if wIx (ltrs B (tP B L k) (lxP B L (k + 1) - tP B L k)) < 29 then 300 + wIx (ltrs B (tP B L k) (lxP B L (k + 1) - tP B L k)) else 258) := by unfold tK; rw [if_neg (by omega), if_pos hs]
    rw [c_isLetterT (hB _) hl, bs_v, if_neg (by decide), c_kindOfWord ht3 (by omega) (by omega), bd_v, ← hK, lt_v]
    rw [gi_N (by omega) (by omega)]
    refine fin _ (hf3.tr (fr.sA (k := 501) (by decide))) (fun i hi => ⟨?_, ?_, ?_⟩) ?_ ?_ (fun q => ?_)
    · show upd (st3.2.2.1 501) k _ i = _; rw [hu _ _ _ hi, e501]
    · show st3.2.2.1 502 i = _; rw [e502, hu _ _ _ hi]
    · show st3.2.2.1 503 i = _; rw [e503, hu _ _ _ hi]
    · show upd (st3.2.2.1 501) k _ k = _; rw [hu2]
    · show st3.2.2.1 502 k = _; rw [e502, hu2]
    · rw [hK] at q; split at q <;> omega
  · rw [c_isLetterF (hB _) hl, bs_v, if_pos rfl, gi_N (by omega) (by omega)]
    by_cases hd : isDb (B (tP B L k)) = true
    · have hs : tSort B L k = 2 := by unfold tSort; rw [if_neg (by omega), if_neg hl, if_pos hd]
      have hK : tK B L k = 256 := (tok_num hB).mp hs
      rw [c_isDigitT (hB _) hd, bs_v, if_neg (by decide), gi_N (by omega) (by omega), lt_v]
      have hf4 : fr [] [] [501, 502, 503] st (sA st3 501 (upd (st3.2.2.1 501) k 256)) := hf3.tr (fr.sA (k := 501) (by decide))
      rw [c_valueOf (ht.fr hf4 (by decide) (by decide)) (by omega) (by omega) (tok_d hs), bd_v]
      have q5 : (sA st3 501 (upd (st3.2.2.1 501) k 256)).1 505 = Int32.ofNat k := by rw [hf4.1 505 (by decide)]; exact h505
      rw [q5, gi_N (by omega) (by omega), lt_v, oN_tn (by omega)]
      refine fin _ (hf4.tr (fr.sA (k := 503) (by decide))) (fun i hi => ⟨?_, ?_, ?_⟩) ?_ ?_ (fun _ => ?_)
      · show upd (st3.2.2.1 501) k _ i = _; rw [hu _ _ _ hi, e501]
      · show st3.2.2.1 502 i = _; rw [e502, hu _ _ _ hi]
      · show upd (st3.2.2.1 503) k _ i = _; rw [hu _ _ _ hi, e503, hu _ _ _ hi]
      · show upd (st3.2.2.1 501) k _ k = _; rw [hu2, hK]; rfl
      · show st3.2.2.1 502 k = _; rw [e502, hu2]
      · show upd (st3.2.2.1 503) k _ k = _; rw [hu2]; rfl
    · have hs : tSort B L k = 3 := by unfold tSort; rw [if_neg (by omega), if_neg hl, if_neg hd]
      have hK : tK B L k = B (tP B L k) := by unfold tK; rw [if_neg (by omega), if_neg (by omega), if_neg (by omega)]
      rw [c_isDigitF (hB _) hd, bs_v, if_pos rfl, gi_N (by omega) (by omega), gi_N (by omega) (by omega), lt_v]
      refine fin _ (hf3.tr (fr.sA (k := 501) (by decide))) (fun i hi => ⟨?_, ?_, ?_⟩) ?_ ?_ (fun q => ?_)
      · show upd (st3.2.2.1 501) k _ i = _; rw [hu _ _ _ hi, e501]
      · show st3.2.2.1 502 i = _; rw [e502, hu _ _ _ hi]
      · show st3.2.2.1 503 i = _; rw [e503, hu _ _ _ hi]
      · show upd (st3.2.2.1 501) k _ k = _; rw [hu2, hK]
      · show st3.2.2.1 502 k = _; rw [e502, hu2]
      · have := hB (tP B L k); omega
theorem lxS_bl {B : Nat → Nat} {L p q : Nat} (hL : L ≤ 400) (h : p ≤ q) (hq : q ≤ lxR isBl B L 401 p) (hlt : q < L) (hb : isBl (B q) = true) : q < lxR isBl B L 401 p := by
  rcases Nat.lt_or_ge q (lxR isBl B L 401 p) with h1 | h1
  · exact h1
  · have e : lxR isBl B L 401 p = q := by omega
    have := lxR_end (q := isBl) (B := B) (L := L) 401 p (by omega)
    rw [e] at this
    exact absurd ⟨hlt, hb⟩ this
theorem c_split_l {B : Nat → Nat} {L : Nat} {fz : List FP} : ∀ (m : Nat) (a k n c : Nat) (st : St), L - a ≤ m → tpC B L st → tbC B L k st → lxP B L k ≤ a → a ≤ tP B L k → k ≤ a → c ≤ a → (∀ i, i < k → tP B L i < L) → ∃ st' T, lp (fun _ _ _ => none) (fX10_split_b9 fz) (n + 1 + m) (Int32.ofNat a) (Int32.ofNat c) st = some ((), st') ∧ tbC B L (T + 1) st' ∧ T ≤ 400 ∧ L ≤ tP B L T ∧ (∀ i, i < T → tP B L i < L) ∧ fr [505] [] [501, 502, 503] st st' := by
  intro m
  induction m with
  | zero =>
    intro a k n c st hm ht hb h1 h2 h3 h4 h5
    have ht' := ht
    obtain ⟨hL, h504, h500, hB⟩ := ht'
    have htl := @tP_le B L k
    have ha : a = L := by omega
    obtain ⟨h505, htab⟩ := hb
    have h55 : fX10_split_b55 fz st = some ((), sI (sA (sA st 501 (upd (st.2.2.1 501) k 257)) 502 (upd (st.2.2.1 502) k (Int32.ofNat L))) 505 (Int32.ofNat (k + 1))) := by
      unfold fX10_split_b55
      rw [h505, gi_N (by omega) (by omega), lt_v, oN_tn (by omega)]
      have e1 : (sA st 501 (upd (st.2.2.1 501) k 257)).1 505 = Int32.ofNat k := h505
      have e2 : (sA st 501 (upd (st.2.2.1 501) k 257)).1 504 = Int32.ofNat L := h504
      rw [e1, gi_N (by omega) (by omega), lt_v, e2, oN_tn (by omega), lt_v]
      have e3 : (sA (sA st 501 (upd (st.2.2.1 501) k 257)) 502 (upd ((sA st 501 (upd (st.2.2.1 501) k 257)).2.2.1 502) k (Int32.ofNat L))).1 505 = Int32.ofNat k := h505
      rw [e3, oN_s]
      rfl
    refine ⟨sI (sA (sA st 501 (upd (st.2.2.1 501) k 257)) 502 (upd (st.2.2.1 502) k (Int32.ofNat L))) 505 (Int32.ofNat (k + 1)), k, ?_, ⟨rfl, fun i hi => ?_⟩, by omega, by omega, h5, ?_⟩
    · rw [← h55, Nat.add_zero, lp_s]
      generalize lp (fun _ _ _ => none) (fX10_split_b9 fz) n = kk
      unfold fX10_split_b9
      rw [show (400 : Int32) = Int32.ofNat 400 from rfl]
      by_cases hc : 400 ≤ c
      · rw [if_leT hc (by omega)]
      · rw [if_leF (by omega) (by omega), h504, if_leT (by omega) (by omega)]
    · have hK : tK B L k = 257 := (tok_end hB).mp (by unfold tSort; rw [if_pos (by omega)])
      rcases Nat.lt_or_ge i k with h6 | h6
      · obtain ⟨t1, t2, t3⟩ := htab i h6
        refine ⟨?_, ?_, t3⟩
        · show upd (st.2.2.1 501) k _ i = _; rw [upd_v, if_neg (by omega)]; exact t1
        · show upd (st.2.2.1 502) k _ i = _; rw [upd_v, if_neg (by omega)]; exact t2
      · have hik : i = k := by omega
        subst hik
        refine ⟨?_, ?_, fun q => by omega⟩
        · show upd (st.2.2.1 501) i _ i = _; rw [upd_v, if_pos rfl, hK]; rfl
        · show upd (st.2.2.1 502) i _ i = _; rw [upd_v, if_pos rfl]; congr 1; omega
    · exact ((fr.sA (k := 501) (by decide)).tr (fr.sA (k := 502) (by decide))).tr (fr.sI (k := 505) (by decide))
  | succ m ih =>
    intro a k n c st hm ht hb h1 h2 h3 h4 h5
    have ht' := ht
    obtain ⟨hL, h504, h500, hB⟩ := ht'
    have htl := @tP_le B L k
    by_cases ha : L ≤ a
    · have := ih a k (n + 1) c st (by omega) ht hb h1 h2 h3 h4 h5
      rw [show n + 1 + (m + 1) = n + 1 + 1 + m by omega]
      exact this
    · rw [← Nat.add_assoc, lp_s]
      have ih := fun a k c st => ih a k n c st
      generalize lp (fun _ _ _ => none) (fX10_split_b9 fz) (n + 1 + m) = kk at ih ⊢
      unfold fX10_split_b9 fX10_split_b47
      rw [show (400 : Int32) = Int32.ofNat 400 from rfl, if_leF (by omega) (by omega), h504, if_leF (by omega) (by omega), c_endOfToken ht (by omega), bd_v, gi_N (by omega) (by omega), oN_tn (by omega), h500 a (by omega), show (32 : Int32) = Int32.ofNat 32 from rfl]
      by_cases hbl : B a = 32
      · rw [if_eqT hbl, lt_v, oN_s]
        have hE : lxE B L a = a + 1 := by
          unfold lxE
          rw [if_neg ha, if_neg (by rw [hbl]; decide), if_neg (by rw [hbl]; decide)]
        have hlt2 := lxS_bl (B := B) hL h1 h2 (by omega) (decide_eq_true hbl)
        rw [hE]
        exact ih (a + 1) k (c + 1) st (by omega) ht hb (by omega) hlt2 (by omega) (by omega) h5
      · have haP : a = tP B L k := by
          rcases Nat.lt_or_ge a (tP B L k) with h6 | h6
          · have := (lxR_all (L := L) 401 (lxP B L k) a h1 h6).2
            exact absurd (of_decide_eq_true this) hbl
          · omega
        have hE : lxE B L a = lxP B L (k + 1) := by rw [haP]; rfl
        rw [if_eqF hbl (by have := hB a; omega) (by omega), hE]
        have hlt3 : tP B L k < L := by omega
        have hgt := lxP_gt hlt3
        obtain ⟨st1, g1, g2, g3⟩ := c_keep (fz := fz) ht hb (by omega) hlt3
        rw [haP, g1, bd_v, lt_v, oN_s]
        have hge : lxP B L (k + 1) ≤ tP B L (k + 1) := tP_ge
        obtain ⟨st', T, r1, r2, r3, r4, r5, r6⟩ := ih (lxP B L (k + 1)) (k + 1) (c + 1) st1 (by omega) (ht.fr g3 (by decide) (by decide)) g2 (Nat.le_refl _) hge (by omega) (by omega) (fun i hi => by
          rcases Nat.lt_or_ge i k with h6 | h6
          · exact h5 i h6
          · rw [show i = k by omega]; exact hlt3)
        exact ⟨st', T, r1, r2, r3, r4, r5, g3.tr r6⟩
theorem c_split {B : Nat → Nat} {L : Nat} {st : St} {fz : List FP} (ht : tpC B L st) : ∃ st' T, fX10_split fz st = some ((), st') ∧ tbC B L (T + 1) st' ∧ T ≤ 400 ∧ L ≤ tP B L T ∧ (∀ i, i < T → tP B L i < L) ∧ fr [505] [] [501, 502, 503] st st' := by
  have hf : fr [505] [] [501, 502, 503] st (sI st 505 0) := fr.sI (by decide)
  have hL := ht.1
  obtain ⟨st', T, r1, r2, r3, r4, r5, r6⟩ := c_split_l (fz := fz) (B := B) (L := L) 400 0 0 5599 0 (sI st 505 0) (by omega) (ht.fr hf (by decide) (by decide)) ⟨rfl, fun i hi => absurd hi (Nat.not_lt_zero i)⟩ (Nat.le_refl _) (Nat.zero_le _) (Nat.le_refl _) (Nat.le_refl _) (fun i hi => absurd hi (Nat.not_lt_zero i))
  refine ⟨st', T, ?_, r2, r3, r4, r5, hf.tr r6⟩
  unfold fX10_split
  rw [lt_v]
  exact r1
