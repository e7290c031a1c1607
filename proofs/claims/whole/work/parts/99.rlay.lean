/-! T2, retreat: both lay the hours -/
theorem rx_min (ld : Nat → Nat → Bool) (rd : Nat → Nat → Nat) (d : Nat → Nat) (f : Nat) {s S : Nat} (h : s ≤ S) : ∀ k, rx ld rd d f s k = if rx ld rd d f S k < s then rx ld rd d f S k else s := by
  intro k
  induction k with
  | zero =>
    show s = if S < s then S else s
    rw [if_neg (by omega)]
  | succ k ih =>
    unfold rx
    rw [ih]
    by_cases h1 : rx ld rd d f S k < s
    · rw [if_pos h1]
      by_cases h2 : ld f k = true ∧ rd f k + d k < rx ld rd d f S k
      · rw [if_pos h2, if_pos (by omega)]
      · rw [if_neg h2, if_pos h1]
    · rw [if_neg h1]
      by_cases h2 : ld f k = true ∧ rd f k + d k < s
      · have h3 : ld f k = true ∧ rd f k + d k < rx ld rd d f S k := ⟨h2.1, by omega⟩
        simp only [if_pos h2, if_pos h3, if_pos h2.2]
      · rw [if_neg h2]
        by_cases h3 : ld f k = true ∧ rd f k + d k < rx ld rd d f S k
        · rw [if_pos h3, if_neg (fun q => h2 ⟨h3.1, q⟩)]
        · rw [if_neg h3, if_neg h1]
def rdN (r : Nat → Int32) (f o : Nat) : Nat := (r (55 + (f * 6 + o))).toNatClampNeg
def ldN (r : Nat → Int32) (to f o : Nat) : Bool := decide (0 < rdN r f o) && (decide (o = to) || decide ((r (25 + o)).toNatClampNeg = 0))
/-- far, as the reference writes it -/
def fmN (x : Nat) : Nat := if x = 1000000 then 100000000 else x
def Dq (r : Nat → Int32) (n to : Nat) (c m : St) : Prop := m.2.2.1 3 = r ∧ n ≤ 6 ∧ to < n ∧ r 0 = Int32.ofNat n ∧ c.1 108 = Int32.ofNat n ∧ (∀ i, i < 36 → c.2.2.1 105 i = r (55 + i) ∧ nb 99 (r (55 + i))) ∧ ∀ i, i < 6 → c.2.2.1 202 i = r (25 + i) ∧ nb 1 (r (25 + i))
/-- the hours d are laid in the class, in the reference -/
def Lc (n : Nat) (d : Nat → Nat) (c : St) : Prop := ∀ x, x < n → c.2.2.1 106 x = Int32.ofNat (d x)
def Lm (n : Nat) (d : Nat → Nat) (m : St) : Prop := ∀ x, x < n → m.2.2.1 41 x = Int32.ofNat (fmN (d x))
/-- hours are far, or at most b -/
def Lb (n b : Nat) (d : Nat → Nat) : Prop := ∀ x, x < n → d x = 1000000 ∨ d x ≤ b
section Lay
variable {fz : List FP} {r : Nat → Int32} {n to : Nat}
theorem Dq.f {c m c' m' : St} (H : Dq r n to c m) (f : fr [] [] [106] c c') (g : fr [] [] [41] m m') : Dq r n to c' m' := by
  unfold Dq
  rw [g.2.2.1 3 (by decide), f.1 108 (by decide), f.2.2.1 105 (by decide), f.2.2.1 202 (by decide)]
  exact H
theorem rdN_le {c m : St} {f o : Nat} (H : Dq r n to c m) (hf : f < n) (ho : o < n) : rdN r f o ≤ 99 ∧ r (55 + (f * 6 + o)) = Int32.ofNat (rdN r f o) := by
  have h6 := H.2.1
  obtain ⟨h1, h2⟩ := ((H.2.2.2.2.2.1 (f * 6 + o) (by omega)).2).le (by decide)
  exact ⟨h1, h2⟩
theorem c_leads {c m : St} {f o : Nat} (H : Dq r n to c m) (hf : f < n) (ho : o < n) : fX6_leads (Int32.ofNat f) (Int32.ofNat o) (Int32.ofNat to) fz c = some (if ldN r to f o = true then 1 else 0, c) := by
  have h6 := H.2.1
  have ht := H.2.2.1
  obtain ⟨hr, er⟩ := rdN_le H hf ho
  have i1 : Int32.ofNat f * (6 : Int32) + Int32.ofNat o = Int32.ofNat (f * 6 + o) := by rw [show (6 : Int32) = Int32.ofNat 6 from rfl, oN_mul, oN_add]
  obtain ⟨t1, t2⟩ := H.2.2.2.2.2.2 o (by omega)
  obtain ⟨w, hw, ew⟩ := t2
  unfold fX6_leads fX6_leads_b31 fX6_leads_b35 fX6_leads_b36
  rw [i1, gi_N (show f * 6 + o < 36 by omega) (by decide), oN_tn (show f * 6 + o < 2147483648 by omega), (H.2.2.2.2.2.1 (f * 6 + o) (by omega)).1, er]
  unfold ldN
  by_cases h0 : 0 < rdN r f o
  · rw [if_neg (show ¬ (Int32.ofNat (rdN r f o) ≤ 0) from fun q => by have := (oN_le (b := 0) (by omega) (by decide)).mp q; omega), decide_eq_true h0]
    by_cases e : o = to
    · rw [if_eqT e, decide_eq_true e]; rfl
    · rw [if_eqF e (by omega) (by omega), gi_N (show o < 6 by omega) (by decide), oN_tn (show o < 2147483648 by omega), t1, ew, decide_eq_false e, oN_tn (by omega)]
      by_cases z : w = 0
      · subst z; rfl
      · rw [if_neg (show ¬ (Int32.ofNat w = 0) from fun q => z ((oN_eq (b := 0) (by omega) (by decide)).mp q)), decide_eq_false z]; rfl
  · rw [if_pos (show Int32.ofNat (rdN r f o) ≤ 0 from (oN_le (b := 0) (by omega) (by decide)).mpr (by omega)), decide_eq_false h0]; rfl
theorem c_short {c m : St} {d : Nat → Nat} {f : Nat} (H : Dq r n to c m) (hL : Lc n d c) (hb : ∀ x, x < n → d x ≤ 1000000) (hf : f < n) : ∀ (q N : Nat), q ≤ n → lp (fun _ _ _ _ _ => none) (fX6_shortestFrom_b6 fz) (N + 1 + q) (Int32.ofNat f) (Int32.ofNat to) (Int32.ofNat (rx (ldN r to) (rdN r) d f 1000000 (n - q))) (Int32.ofNat (n - q)) c = some (Int32.ofNat (rx (ldN r to) (rdN r) d f 1000000 n), c) := by
  have h6 := H.2.1
  intro q
  induction q with
  | zero =>
    intro N _
    rw [Nat.add_zero, Nat.sub_zero, lp_s]
    generalize lp (fun _ _ _ _ _ => none) (fX6_shortestFrom_b6 fz) N = kk
    unfold fX6_shortestFrom_b6
    rw [H.2.2.2.2.1, if_pos (Int32.le_refl _)]
  | succ q ih =>
    intro N hq
    have e1 : n - q = (n - (q + 1)) + 1 := by omega
    have hi : n - (q + 1) < n := by omega
    have ih' := ih N (by omega)
    rw [← Nat.add_assoc, lp_s]
    generalize n - (q + 1) = i at e1 hi ⊢
    rw [e1] at ih'
    generalize lp (fun _ _ _ _ _ => none) (fX6_shortestFrom_b6 fz) (N + 1 + q) = kk at ih' ⊢
    obtain ⟨hr, er⟩ := rdN_le H hf hi
    have hdi := hb i hi
    have hrx := rx_le (ldN r to) (rdN r) d f 1000000 i
    have i1 : Int32.ofNat f * (6 : Int32) + Int32.ofNat i = Int32.ofNat (f * 6 + i) := by rw [show (6 : Int32) = Int32.ofNat 6 from rfl, oN_mul, oN_add]
    have hrs : rx (ldN r to) (rdN r) d f 1000000 (i + 1) = if ldN r to f i = true ∧ rdN r f i + d i < rx (ldN r to) (rdN r) d f 1000000 i then rdN r f i + d i else rx (ldN r to) (rdN r) d f 1000000 i := rfl
    rw [← ih', hrs]
    unfold fX6_shortestFrom_b6 fX6_shortestFrom_b51
    rw [H.2.2.2.2.1, if_leF hi (by omega), c_leads H hf hi, bd_v]
    by_cases hl : ldN r to f i = true
    · rw [if_pos hl, if_neg one_ne0, i1, gi_N (show f * 6 + i < 36 by omega) (by decide), gi_N (show i < 6 by omega) (by decide), oN_tn (show f * 6 + i < 2147483648 by omega), oN_tn (show i < 2147483648 by omega), (H.2.2.2.2.2.1 (f * 6 + i) (by omega)).1, er, hL i hi, oN_add, lt_v, lt_v, oN_s]
      by_cases w : rdN r f i + d i < rx (ldN r to) (rdN r) d f 1000000 i
      · rw [if_ltT w (by omega), if_pos ⟨hl, w⟩]
      · rw [if_ltF (by omega) (by omega), if_neg (fun z => w z.2)]
    · rw [if_neg hl, if_pos rfl, lt_v, oN_s, if_neg (fun z => hl z.1)]
/-- one round of the class, in place -/
theorem c_round {kc : Int32 → Int32 → St → Option (Unit × St)} {m : St} {v2 : Int32} {d : Nat → Nat} (hb : ∀ x, x < n → d x ≤ 1000000) : ∀ (q N : Nat) (c : St), q ≤ n → Dq r n to c m → Lc n (st1 n (ldN r to) (rdN r) d (n - q)) c → ∃ c', lp (fun _ _ _ _ => none) (fX6_measureTo_b28 fz kc) (N + 1 + q) (Int32.ofNat to) v2 (Int32.ofNat (n - q)) c = kc (Int32.ofNat to) (v2 + 1) c' ∧ Lc n (st1 n (ldN r to) (rdN r) d n) c' ∧ fr [] [] [106] c c' := by
  intro q
  induction q with
  | zero =>
    intro N c _ H hL
    refine ⟨c, ?_, hL, fr.rf⟩
    rw [Nat.add_zero, Nat.sub_zero, lp_s]
    generalize lp (fun _ _ _ _ => none) (fX6_measureTo_b28 fz kc) N = kk
    unfold fX6_measureTo_b28
    rw [H.2.2.2.2.1, if_pos (Int32.le_refl _), lt_v]
  | succ q ih =>
    intro N c hq H hL
    have h6 := H.2.1
    have e1 : n - q = (n - (q + 1)) + 1 := by omega
    have hi : n - (q + 1) < n := by omega
    have ih' := ih N
    rw [← Nat.add_assoc, lp_s]
    generalize n - (q + 1) = i at e1 hi hL ⊢
    rw [e1] at ih'
    generalize lp (fun _ _ _ _ => none) (fX6_measureTo_b28 fz kc) (N + 1 + q) = kk at ih' ⊢
    have hb' : ∀ x, x < n → st1 n (ldN r to) (rdN r) d i x ≤ 1000000 := fun x hx => Nat.le_trans (st1_le n (ldN r to) (rdN r) d i x) (hb x hx)
    have hs := c_short (fz := fz) H hL hb' hi n (5999 - n) (Nat.le_refl _)
    rw [show 5999 - n + 1 + n = 6000 by omega, Nat.sub_self] at hs
    have hs' : fX6_shortestFrom (Int32.ofNat i) (Int32.ofNat to) fz c = some (Int32.ofNat (rx (ldN r to) (rdN r) (st1 n (ldN r to) (rdN r) d i) i 1000000 n), c) := hs
    have hm := rx_min (ldN r to) (rdN r) (st1 n (ldN r to) (rdN r) d i) i (hb' i hi) n
    have hx1 := rx_le (ldN r to) (rdN r) (st1 n (ldN r to) (rdN r) d i) i 1000000 n
    have hv := hb' i hi
    have hnew : (if Int32.ofNat (rx (ldN r to) (rdN r) (st1 n (ldN r to) (rdN r) d i) i 1000000 n) < Int32.ofNat (st1 n (ldN r to) (rdN r) d i i) then Int32.ofNat (rx (ldN r to) (rdN r) (st1 n (ldN r to) (rdN r) d i) i 1000000 n) else Int32.ofNat (st1 n (ldN r to) (rdN r) d i i)) = Int32.ofNat (rx (ldN r to) (rdN r) (st1 n (ldN r to) (rdN r) d i) i (st1 n (ldN r to) (rdN r) d i i) n) := by
      rw [hm]
      by_cases w : rx (ldN r to) (rdN r) (st1 n (ldN r to) (rdN r) d i) i 1000000 n < st1 n (ldN r to) (rdN r) d i i
      · rw [if_ltT w (by omega), if_pos w]
      · rw [if_ltF (by omega) (by omega), if_neg w]
    have hstep : fX6_measureTo_b28 fz kc kk (Int32.ofNat to) v2 (Int32.ofNat i) c = kk (Int32.ofNat to) v2 (Int32.ofNat (i + 1)) (sA c 106 (upd (c.2.2.1 106) i (Int32.ofNat (rx (ldN r to) (rdN r) (st1 n (ldN r to) (rdN r) d i) i (st1 n (ldN r to) (rdN r) d i i) n)))) := by
      unfold fX6_measureTo_b28
      rw [H.2.2.2.2.1, if_leF hi (by omega), gi_N (show i < 6 by omega) (by decide), hs', bd_v, gi_N (show i < 6 by omega) (by decide), oN_tn (show i < 2147483648 by omega), hL i hi, hnew, lt_v, lt_v, oN_s]
    have f1 : fr [] [] [106] c (sA c 106 (upd (c.2.2.1 106) i (Int32.ofNat (rx (ldN r to) (rdN r) (st1 n (ldN r to) (rdN r) d i) i (st1 n (ldN r to) (rdN r) d i i) n)))) := fr.sA (by decide)
    obtain ⟨c', a1, a2, a3⟩ := ih' _ (by omega) (H.f f1 (fr.rf (st := m))) (by
      intro x hx
      show upd (c.2.2.1 106) i _ x = Int32.ofNat (if x = i then _ else _)
      rw [upd_v]
      by_cases e : x = i
      · rw [if_pos e, if_pos e]
      · rw [if_neg e, if_neg e]; exact hL x hx)
    exact ⟨c', hstep.trans a1, a2, f1.tr a3⟩
/-- the class's rounds -/
theorem c_rounds {m : St} {d : Nat → Nat} (hn1 : 1 ≤ n) (hb : ∀ x, x < n → d x ≤ 1000000) : ∀ (q N : Nat) (c : St), q ≤ n - 1 → Dq r n to c m → Lc n (rs n (ldN r to) (rdN r) d (n - 1 - q)) c → ∃ c', lp (fun _ _ _ => none) (fX6_measureTo_b18 fz) (N + 1 + q) (Int32.ofNat to) (Int32.ofNat (n - q)) c = some ((), c') ∧ Lc n (rs n (ldN r to) (rdN r) d (n - 1)) c' ∧ fr [] [] [106] c c' := by
  have hrb : ∀ k x, x < n → rs n (ldN r to) (rdN r) d k x ≤ 1000000 := by
    intro k
    induction k with
    | zero => exact hb
    | succ k ih => exact fun x hx => Nat.le_trans (st1_le n (ldN r to) (rdN r) _ n x) (ih x hx)
  intro q
  induction q with
  | zero =>
    intro N c _ H hL
    refine ⟨c, ?_, hL, fr.rf⟩
    rw [Nat.add_zero, Nat.sub_zero, lp_s]
    generalize lp (fun _ _ _ => none) (fX6_measureTo_b18 fz) N = kk
    unfold fX6_measureTo_b18
    rw [H.2.2.2.2.1, if_pos (Int32.le_refl _)]
  | succ q ih =>
    intro N c hq H hL
    have h6 := H.2.1
    have ih' := ih N
    rw [← Nat.add_assoc, lp_s]
    generalize lp (fun _ _ _ => none) (fX6_measureTo_b18 fz) (N + 1 + q) = kk at ih' ⊢
    have e2 : n - 1 - q = (n - 1 - (q + 1)) + 1 := by omega
    obtain ⟨c1, a1, a2, a3⟩ := c_round (fz := fz) (kc := kk) (v2 := Int32.ofNat (n - (q + 1))) (hrb (n - 1 - (q + 1))) n (5999 - n) c (Nat.le_refl _) H (by rw [Nat.sub_self]; exact hL)
    rw [show 5999 - n + 1 + n = 6000 by omega, Nat.sub_self, oN_s, show n - (q + 1) + 1 = n - q by omega] at a1
    have hstep : fX6_measureTo_b18 fz kk (Int32.ofNat to) (Int32.ofNat (n - (q + 1))) c = kk (Int32.ofNat to) (Int32.ofNat (n - q)) c1 := by
      unfold fX6_measureTo_b18
      rw [H.2.2.2.2.1, if_leF (by omega) (by omega)]
      exact a1
    obtain ⟨c', b1, b2, b3⟩ := ih' c1 (by omega) (H.f a3 (fr.rf (st := m))) (by rw [e2]; exact a2)
    exact ⟨c', hstep.trans b1, b2, a3.tr b3⟩
end Lay
