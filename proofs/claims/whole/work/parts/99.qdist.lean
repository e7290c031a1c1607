/-! T2, retreat: the mathematics of hours -/
def cn (p : Nat → Bool) : Nat → Nat
  | 0 => 0
  | k + 1 => cn p k + (if p k = true then 1 else 0)
theorem cn_le (p : Nat → Bool) : ∀ k, cn p k ≤ k := by
  intro k
  induction k with
  | zero => exact Nat.le_refl _
  | succ k ih => unfold cn; split <;> omega
theorem cn_mono {p q : Nat → Bool} : ∀ k, (∀ u, u < k → p u = true → q u = true) → cn p k ≤ cn q k := by
  intro k
  induction k with
  | zero => intro _; exact Nat.le_refl _
  | succ k ih =>
    intro h
    have h1 := ih (fun u hu => h u (by omega))
    have h2 := h k (by omega)
    unfold cn
    by_cases z : p k = true
    · rw [if_pos z, if_pos (h2 z)]; omega
    · rw [if_neg z]; omega
theorem cn_one {p q : Nat → Bool} {w : Nat} : ∀ k, w < k → (∀ u, u < k → p u = true → q u = true) → ¬ p w = true → q w = true → cn p k + 1 ≤ cn q k := by
  intro k
  induction k with
  | zero => intro h; omega
  | succ k ih =>
    intro hw h hp hq
    by_cases e : w = k
    · subst e
      have h1 := cn_mono w (fun u hu => h u (by omega))
      unfold cn
      rw [if_neg hp, if_pos hq]; omega
    · have h1 := ih (by omega) (fun u hu => h u (by omega)) hp hq
      have h2 := h k (by omega)
      unfold cn
      by_cases z : p k = true
      · rw [if_pos z, if_pos (h2 z)]; omega
      · rw [if_neg z]; omega
theorem cn_lt {p : Nat → Bool} {v k : Nat} (hv : v < k) (hp : ¬ p v = true) : cn p k + 1 ≤ k := by
  have h1 := cn_one (p := p) (q := fun _ => true) (w := v) k hv (fun _ _ _ => rfl) hp rfl
  have h2 := cn_le (fun _ => true) k
  omega
section Dist
variable (n : Nat) (ld : Nat → Nat → Bool) (rd : Nat → Nat → Nat)
/-- the hours of f, by the first k stops and hours d, s so far -/
def rx (d : Nat → Nat) (f s : Nat) : Nat → Nat
  | 0 => s
  | k + 1 => if ld f k = true ∧ rd f k + d k < rx d f s k then rd f k + d k else rx d f s k
/-- forts ahead of k are laid anew, in place -/
def st1 (d : Nat → Nat) : Nat → (Nat → Nat)
  | 0 => d
  | k + 1 => fun x => if x = k then rx ld rd (st1 d k) k (st1 d k k) n else st1 d k x
def rs (d : Nat → Nat) : Nat → (Nat → Nat)
  | 0 => d
  | k + 1 => st1 n ld rd (rs d k) n
/-- all forts at once -/
def jc (d : Nat → Nat) : Nat → (Nat → Nat)
  | 0 => d
  | k + 1 => fun f => rx ld rd (jc d k) f (jc d k f) n
theorem rx_le (d : Nat → Nat) (f s : Nat) : ∀ k, rx ld rd d f s k ≤ s := by
  intro k
  induction k with
  | zero => exact Nat.le_refl _
  | succ k ih =>
    unfold rx
    split
    · rename_i h; omega
    · exact ih
theorem rx_by (d : Nat → Nat) (f s : Nat) : ∀ k o, o < k → ld f o = true → rx ld rd d f s k ≤ rd f o + d o := by
  intro k
  induction k with
  | zero => intro o h; omega
  | succ k ih =>
    intro o ho hl
    unfold rx
    by_cases e : o = k
    · subst e
      split
      · exact Nat.le_refl _
      · rename_i h
        exact Nat.le_of_not_lt (fun q => h ⟨hl, q⟩)
    · have := ih o (by omega) hl
      split
      · rename_i h; omega
      · exact this
theorem rx_at (d : Nat → Nat) (f s : Nat) : ∀ k, rx ld rd d f s k = s ∨ ∃ o, o < k ∧ ld f o = true ∧ rx ld rd d f s k = rd f o + d o := by
  intro k
  induction k with
  | zero => exact Or.inl rfl
  | succ k ih =>
    unfold rx
    split
    · rename_i h; exact Or.inr ⟨k, by omega, h.1, rfl⟩
    · rcases ih with e | ⟨o, h1, h2, h3⟩
      · exact Or.inl e
      · exact Or.inr ⟨o, by omega, h2, h3⟩
theorem rx_mono {d d' : Nat → Nat} {f s s' : Nat} (hs : s ≤ s') : ∀ k, (∀ o, o < k → d o ≤ d' o) → rx ld rd d f s k ≤ rx ld rd d' f s' k := by
  intro k hd
  rcases rx_at ld rd d' f s' k with e | ⟨o, h1, h2, h3⟩
  · rw [e]; exact Nat.le_trans (rx_le ld rd d f s k) hs
  · rw [h3]
    have := rx_by ld rd d f s k o h1 h2
    have := hd o h1
    omega
theorem st1_le (d : Nat → Nat) : ∀ k x, st1 n ld rd d k x ≤ d x := by
  intro k
  induction k with
  | zero => intro x; exact Nat.le_refl _
  | succ k ih =>
    intro x
    show (if x = k then _ else _) ≤ d x
    split
    · rename_i e
      rw [e]
      exact Nat.le_trans (rx_le ld rd _ _ _ _) (ih k)
    · exact ih x
theorem st1_ge (d : Nat → Nat) : ∀ k x, k ≤ x → st1 n ld rd d k x = d x := by
  intro k
  induction k with
  | zero => intro x _; rfl
  | succ k ih =>
    intro x hx
    show (if x = k then _ else _) = d x
    rw [if_neg (by omega)]; exact ih x (by omega)
/-- in place is at least as low as at once -/
theorem st1_j (d : Nat → Nat) : ∀ k x, x < k → k ≤ n → st1 n ld rd d k x ≤ rx ld rd d x (d x) n := by
  intro k
  induction k with
  | zero => intro x h; omega
  | succ k ih =>
    intro x hx hk
    show (if x = k then _ else _) ≤ _
    by_cases e : x = k
    · rw [if_pos e, e]
      exact rx_mono ld rd (st1_le n ld rd d k k) n (fun o _ => st1_le n ld rd d k o)
    · rw [if_neg e]; exact ih x (by omega) (by omega)
theorem rs_j (d : Nat → Nat) : ∀ k x, x < n → rs n ld rd d k x ≤ jc n ld rd d k x := by
  intro k
  induction k with
  | zero => intro x _; exact Nat.le_refl _
  | succ k ih =>
    intro x hx
    have h1 := st1_j n ld rd (rs n ld rd d k) n x hx (Nat.le_refl _)
    have h2 : rx ld rd (rs n ld rd d k) x (rs n ld rd d k x) n ≤ rx ld rd (jc n ld rd d k) x (jc n ld rd d k x) n := rx_mono ld rd (ih x hx) n (fun o ho => ih o ho)
    exact Nat.le_trans h1 h2
/-- what is below and fixed stays below -/
theorem rs_fix {d e : Nat → Nat} (hd : ∀ x, x < n → e x ≤ d x) (hf : ∀ x, x < n → rx ld rd e x (e x) n = e x) : ∀ k x, x < n → e x ≤ rs n ld rd d k x := by
  have one : ∀ d', (∀ x, x < n → e x ≤ d' x) → ∀ k x, k ≤ n → x < n → e x ≤ st1 n ld rd d' k x := by
    intro d' hd' k
    induction k with
    | zero => intro x _ hx; exact hd' x hx
    | succ k ih =>
      intro x hk hx
      show _ ≤ (if x = k then _ else _)
      by_cases q : x = k
      · rw [if_pos q, q]
        have h1 : rx ld rd e k (e k) n ≤ rx ld rd (st1 n ld rd d' k) k (st1 n ld rd d' k k) n := rx_mono ld rd (ih k (by omega) (by omega)) n (fun o ho => ih o (by omega) ho)
        rw [hf k (by omega)] at h1
        exact h1
      · rw [if_neg q]; exact ih x (by omega) hx
  intro k
  induction k with
  | zero => exact hd
  | succ k ih => exact fun x hx => one _ ih n x (Nat.le_refl _) hx
theorem jc_le (d : Nat → Nat) (k x : Nat) : jc n ld rd d (k + 1) x ≤ jc n ld rd d k x := rx_le ld rd _ _ _ _
/-- one more that falls, one more that is lower -/
theorem jc_cnt {d : Nat → Nat} {to : Nat} (hto : to < n) (hpos : ∀ f o, ld f o = true → 0 < rd f o) (h0 : d to = 0) (hfar : ∀ x, x < n → x ≠ to → ∀ f o, d f ≤ rd o x + d x) : ∀ k v, v < n → jc n ld rd d (k + 1) v < jc n ld rd d k v → k + 1 ≤ cn (fun u => decide (jc n ld rd d k u < jc n ld rd d (k + 1) v)) n := by
  intro k
  induction k with
  | zero =>
    intro v hv h
    have hx : jc n ld rd d 1 v = rx ld rd d v (d v) n := rfl
    rcases rx_at ld rd d v (d v) n with e | ⟨o, h1, h2, h3⟩
    · rw [hx, e] at h
      exact absurd h (Nat.lt_irrefl _)
    · by_cases eo : o = to
      · have hp := hpos v o h2
        have := cn_one (p := fun _ => false) (q := fun u => decide (jc n ld rd d 0 u < jc n ld rd d 1 v)) (w := to) n hto (fun _ _ h => by cases h) (by decide) (by
          apply decide_eq_true
          show d to < jc n ld rd d 1 v
          rw [hx, h3, h0]; omega)
        exact Nat.le_trans (Nat.succ_le_succ (Nat.zero_le _)) this
      · have h4 := hfar o h1 eo v v
        rw [hx, h3] at h
        have : jc n ld rd d 0 v = d v := rfl
        omega
  | succ k ih =>
    intro v hv h
    have hx : jc n ld rd d (k + 2) v = rx ld rd (jc n ld rd d (k + 1)) v (jc n ld rd d (k + 1) v) n := rfl
    rcases rx_at ld rd (jc n ld rd d (k + 1)) v (jc n ld rd d (k + 1) v) n with e | ⟨o, h1, h2, h3⟩
    · rw [hx, e] at h
      exact absurd h (Nat.lt_irrefl _)
    · have hp := hpos v o h2
      have hfall : jc n ld rd d (k + 1) o < jc n ld rd d k o := by
        have h5 : jc n ld rd d (k + 1) v ≤ rd v o + jc n ld rd d k o := rx_by ld rd (jc n ld rd d k) v (jc n ld rd d k v) n o h1 h2
        rw [hx, h3] at h
        omega
      have i1 := ih o h1 hfall
      have := cn_one (p := fun u => decide (jc n ld rd d k u < jc n ld rd d (k + 1) o)) (q := fun u => decide (jc n ld rd d (k + 1) u < jc n ld rd d (k + 2) v)) (w := o) n h1 (fun u hu hq => by
        have hq' := of_decide_eq_true hq
        apply decide_eq_true
        have := jc_le n ld rd d k u
        rw [hx, h3]; omega) (by
        intro hq
        have hq' := of_decide_eq_true hq
        omega) (by
        apply decide_eq_true
        rw [hx, h3]; omega)
      exact Nat.le_trans (Nat.succ_le_succ i1) this
theorem jc_end {d : Nat → Nat} {to : Nat} (hto : to < n) (hpos : ∀ f o, ld f o = true → 0 < rd f o) (h0 : d to = 0) (hfar : ∀ x, x < n → x ≠ to → ∀ f o, d f ≤ rd o x + d x) : ∀ v, v < n → rx ld rd (jc n ld rd d (n - 1)) v (jc n ld rd d (n - 1) v) n = jc n ld rd d (n - 1) v := by
  intro v hv
  have hle := rx_le ld rd (jc n ld rd d (n - 1)) v (jc n ld rd d (n - 1) v) n
  rcases Nat.lt_or_eq_of_le hle with h | h
  · exfalso
    have h1 := jc_cnt n ld rd hto hpos h0 hfar (n - 1) v hv h
    have h2 := cn_lt (p := fun u => decide (jc n ld rd d (n - 1) u < jc n ld rd d (n - 1 + 1) v)) (v := v) hv (by
      intro q
      have q' := of_decide_eq_true q
      have h3 : jc n ld rd d (n - 1 + 1) v < jc n ld rd d (n - 1) v := h
      omega)
    omega
  · exact h
/-- n - 1 rounds are enough: one more changes nothing -/
theorem rs_end {d : Nat → Nat} {to : Nat} (hto : to < n) (hpos : ∀ f o, ld f o = true → 0 < rd f o) (h0 : d to = 0) (hfar : ∀ x, x < n → x ≠ to → ∀ f o, d f ≤ rd o x + d x) : ∀ x, x < n → rs n ld rd d (n - 1) x = jc n ld rd d (n - 1) x ∧ rs n ld rd d n x = jc n ld rd d (n - 1) x := by
  have hfix := jc_end n ld rd hto hpos h0 hfar
  have hlow : ∀ x, x < n → jc n ld rd d (n - 1) x ≤ d x := by
    have : ∀ k x, jc n ld rd d k x ≤ d x := by
      intro k
      induction k with
      | zero => intro x; exact Nat.le_refl _
      | succ k ih => intro x; exact Nat.le_trans (jc_le n ld rd d k x) (ih x)
    exact fun x _ => this _ x
  have hge := rs_fix n ld rd hlow hfix
  intro x hx
  have h1 := rs_j n ld rd d (n - 1) x hx
  have h2 := hge (n - 1) x hx
  have h3 := hge n x hx
  have h4 : rs n ld rd d n x ≤ rs n ld rd d (n - 1) x := by
    have e : ∀ k, k = (n - 1) + 1 → rs n ld rd d k = st1 n ld rd (rs n ld rd d (n - 1)) n := by
      intro k hk
      rw [hk]; rfl
    rw [e n (by omega)]
    exact st1_le n ld rd _ n x
  omega
end Dist
