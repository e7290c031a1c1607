/-! T2, bluff: values that do not hang on the scratch -/
/-- as cq, the prices too -/
def cq2 (c c' : St) : Prop := c'.1 = c.1 ∧ c'.2.1 = c.2.1 ∧ (∀ k, k ≠ 801 → k ≠ 802 → c'.2.2.1 k = c.2.2.1 k) ∧ (∀ k, k ≠ 803 → c'.2.2.2.1 k = c.2.2.2.1 k) ∧ c'.2.2.2.2 = c.2.2.2.2
theorem cq.lo {c c' : St} (h : cq c c') : cq2 c c' := ⟨h.1, h.2.1, fun k h1 _ => h.2.2.1 k h1, h.2.2.2⟩
theorem cq2.tr {a b c : St} (h : cq2 a b) (k : cq2 b c) : cq2 a c := ⟨k.1.trans h.1, k.2.1.trans h.2.1, fun q h1 h2 => (k.2.2.1 q h1 h2).trans (h.2.2.1 q h1 h2), fun q h1 => (k.2.2.2.1 q h1).trans (h.2.2.2.1 q h1), k.2.2.2.2.trans h.2.2.2.2⟩
theorem cq2.p {c : St} {g : Nat → Int32} : cq2 c (sA c 802 g) := by
  refine ⟨rfl, rfl, fun k h1 h2 => ?_, fun k h1 => rfl, rfl⟩
  show va_up c.2.2.1 802 g k = _
  rw [vup_v, if_neg h2]
theorem Rl.cq2 {off : Nat} {c c' : St} {r : Nat → Int32} (h : Rl off c r) (q : cq2 c c') (h1 : off = 0 ∨ off = 1400) : Rl off c' r := by
  have e : ∀ k, k = 203 + off ∨ k = 200 + off ∨ k = 201 + off ∨ k = 202 + off ∨ k = 103 + off ∨ k = 104 + off ∨ k = 105 + off → c'.2.2.1 k = c.2.2.1 k := fun k hk => q.2.2.1 k (by omega) (by omega)
  unfold Rl
  rw [q.1, e (203 + off) (by omega), e (200 + off) (by omega), e (201 + off) (by omega), e (202 + off) (by omega), e (103 + off) (by omega), e (104 + off) (by omega), e (105 + off) (by omega)]
  exact h
theorem Rw.cq2 {off : Nat} {fz : List FP} {c c' : St} {r : Nat → Int32} (h : Rw off fz c r) (q : cq2 c c') : Rw off fz c' r := by
  unfold Rw
  rw [q.1, q.2.2.2.2]
  exact h
theorem Rq.q2 {fz : List FP} {c m c' m' : St} (h : Rq fz c m) (k : cq2 c c') (k2 : mq m m') : Rq fz c' m' := by
  unfold Rq
  rw [k2.2.2.1, k2.1 20 (by decide) (by decide)]
  exact ⟨h.1.cq2 k (Or.inl rfl), h.2.1.cq2 k, h.2.2⟩
theorem val_both {α : Type} {fz : List FP} {c m : St} {Q : α → Prop} (F G : St → Option (α × St)) (h : Rq fz c m) (hFG : ∀ c m, Rq fz c m → ∃ v c' m', F c = some (v, c') ∧ G m = some (v, m') ∧ cq c c' ∧ mq m m' ∧ Q v) : ∃ v, Q v ∧ (∀ c', cq2 c c' → ∃ c'', F c' = some (v, c'') ∧ cq c' c'') ∧ (∀ m', mq m m' → ∃ m'', G m' = some (v, m'') ∧ mq m' m'') := by
  obtain ⟨v, c1, m1, e1, e2, e3, e4, e5⟩ := hFG c m h
  refine ⟨v, e5, fun c' hc => ?_, fun m' hm => ?_⟩
  · obtain ⟨w, c2, m2, k1, k2, k3, k4, k5⟩ := hFG c' m (h.q2 hc mq.rf)
    rw [e2] at k2
    cases k2
    exact ⟨c2, k1, k3⟩
  · obtain ⟨w, c2, m2, k1, k2, k3, k4, k5⟩ := hFG c m' (h.q cq.rf hm)
    rw [e1] at k1
    cases k1
    exact ⟨m2, k2, k4⟩
/-- the values of a fort's prices, bars, turns -/
def Vs (fz : List FP) (c m : St) (f : Nat) (hour : Int32) (p : Nat → Int32) (b : Nat → Bool) (t : Nat → Bool) : Prop :=
  (∀ s, s < 6 → nb 99 (p s) ∧ (∀ c', cq2 c c' → ∃ c'', fX5_pays (Int32.ofNat f) (Int32.ofNat s) fz c' = some (p s, c'') ∧ cq c' c'') ∧ (∀ m', mq m m' → ∃ m'', fX12_paysOf (Int32.ofNat f) (Int32.ofNat s) m' = some (p s, m'') ∧ mq m' m'')) ∧
  (∀ s, s < 6 → (∀ c', cq2 c c' → ∃ c'', fX5_bars (Int32.ofNat f) (Int32.ofNat s) fz c' = some (if b s then 1 else 0, c'') ∧ cq c' c'') ∧ (∀ m', mq m m' → ∃ m'', fX12_isBarred (Int32.ofNat f) (Int32.ofNat s) m' = some (if b s then 1 else 0, m'') ∧ mq m' m'')) ∧
  (∀ s, s < 64 → (∀ c', cq2 c c' → ∃ c'', fX5_turns (Int32.ofNat f) hour (Int32.ofNat s) fz c' = some (if t s then 1 else 0, c'') ∧ cq c' c'') ∧ (∀ m', mq m m' → ∃ m'', fX12_isTurned (Int32.ofNat f) hour (Int32.ofNat s) m' = some (if t s then 1 else 0, m'') ∧ mq m' m''))
theorem fun_of {α : Type} (d : α) {N : Nat} {Q : Nat → α → Prop} (h : ∀ s, s < N → ∃ v, Q s v) : ∃ p : Nat → α, ∀ s, s < N → Q s (p s) := by
  refine ⟨fun s => if hs : s < N then Classical.choose (h s hs) else d, fun s hs => ?_⟩
  have : (if hs : s < N then Classical.choose (h s hs) else d) = Classical.choose (h s hs) := dif_pos hs
  show Q s (if hs : s < N then Classical.choose (h s hs) else d)
  rw [this]
  exact Classical.choose_spec (h s hs)
theorem Vs_ex {fz : List FP} {c m : St} {f : Nat} {hour : Int32} (h : Rq fz c m) (hf : f < 6) (hh : wsm hour) : ∃ p b t, Vs fz c m f hour p b t := by
  obtain ⟨p, hp⟩ := fun_of (0 : Int32) (N := 6) (fun s hs => val_both (Q := fun v => nb 99 v) (fX5_pays (Int32.ofNat f) (Int32.ofNat s) fz) (fX12_paysOf (Int32.ofNat f) (Int32.ofNat s)) h (fun c m h => pays_both h hf hs))
  obtain ⟨b, hb⟩ := fun_of (0 : Int32) (N := 6) (fun s hs => val_both (Q := fun v => v = 0 ∨ v = 1) (fX5_bars (Int32.ofNat f) (Int32.ofNat s) fz) (fX12_isBarred (Int32.ofNat f) (Int32.ofNat s)) h (fun c m h => bars_both h hf hs))
  obtain ⟨t, ht⟩ := fun_of (0 : Int32) (N := 64) (fun s _ => val_both (Q := fun v => v = 0 ∨ v = 1) (fX5_turns (Int32.ofNat f) hour (Int32.ofNat s) fz) (fX12_isTurned (Int32.ofNat f) hour (Int32.ofNat s)) h (fun c m h => turns_both (Int32.ofNat s) hour h hf hh))
  have e01 : ∀ v : Int32, v = 0 ∨ v = 1 → (if (v == 1) = true then (1 : Int32) else 0) = v := by
    intro v hv
    rcases hv with e | e <;> subst e <;> rfl
  refine ⟨p, fun s => b s == 1, fun s => t s == 1, hp, fun s hs => ?_, fun s hs => ?_⟩
  · have := hb s hs
    show (∀ c', cq2 c c' → ∃ c'', _ = some (if (b s == 1) = true then (1 : Int32) else 0, c'') ∧ _) ∧ _
    rw [e01 _ this.1]
    exact this.2
  · have := ht s hs
    show (∀ c', cq2 c c' → ∃ c'', _ = some (if (t s == 1) = true then (1 : Int32) else 0, c'') ∧ _) ∧ _
    rw [e01 _ this.1]
    exact this.2
/-- bit j of a set -/
def bt (v j : Nat) : Bool := decide (((Int32.ofNat v >>> (Int32.ofNat j &&& 31)) &&& (1 : Int32)) = (1 : Int32))
set_option maxRecDepth 100000 in
theorem bt_v : ∀ v : Fin 64, ∀ j : Fin 6, ((Int32.ofNat v.1 >>> (Int32.ofNat j.1 &&& 31)) &&& (1 : Int32)) = if bt v.1 j.1 = true then 1 else 0 := by decide
theorem bt_i {v j : Nat} (hv : v < 64) (hj : j < 6) : ((Int32.ofNat v >>> (Int32.ofNat j &&& 31)) &&& (1 : Int32)) = if bt v j = true then 1 else 0 := bt_v ⟨v, hv⟩ ⟨j, hj⟩
/-- the signs that may be shown, as a set -/
def mkI (al : Nat → Bool) : Nat → Int32
  | 0 => 0
  | k + 1 => if al k = true then mkI al k ||| bit1 k else mkI al k
theorem mkI_s (al : Nat → Bool) (k : Nat) : mkI al (k + 1) = if al k = true then mkI al k ||| bit1 k else mkI al k := rfl
def okB (al : Nat → Bool) (v : Nat) : Nat → Bool
  | 0 => true
  | k + 1 => okB al v k && (!(bt v k) || al k)
theorem okB_s (al : Nat → Bool) (v k : Nat) : okB al v (k + 1) = (okB al v k && (!(bt v k) || al k)) := rfl
/-- the sum of a set's prices -/
def smI (p : Nat → Int32) (v : Nat) : Nat → Int32
  | 0 => 0
  | k + 1 => if bt v k = true then smI p v k + p k else smI p v k
theorem smI_s (p : Nat → Int32) (v k : Nat) : smI p v (k + 1) = if bt v k = true then smI p v k + p k else smI p v k := rfl
theorem smI_nb {p : Nat → Int32} {v : Nat} (hp : ∀ s, s < 6 → nb 99 (p s)) : ∀ k, k ≤ 6 → nb (99 * k) (smI p v k) := by
  intro k
  induction k with
  | zero => intro _; exact ⟨0, Nat.le_refl _, rfl⟩
  | succ k ih =>
    intro hk
    obtain ⟨a, h1, e1⟩ := ih (by omega)
    obtain ⟨d, h2, e2⟩ := hp k (by omega)
    rw [smI_s]
    by_cases q : bt v k = true
    · rw [if_pos q, e1, e2, oN_add]; exact ⟨_, by omega, rfl⟩
    · rw [if_neg q, e1]; exact ⟨a, by omega, rfl⟩
