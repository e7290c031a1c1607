/-! T2, retreat: the reference lays the hours -/
section LayM
variable {r : Nat → Int32} {n to : Nat}
theorem fmN_le {x : Nat} (h : x ≤ 1000000) : fmN x ≤ 100000000 := by
  unfold fmN
  split <;> omega
/-- what the reference reckons for a stop: road and hours, or far -/
def hbN (r : Nat → Int32) (to : Nat) (f o x : Nat) : Nat := if ldN r to f o = true ∧ x ≠ 1000000 then rdN r f o + x else 100000000
theorem m_hours {c m : St} {f o x : Nat} (H : Dq r n to c m) (hf : f < n) (ho : o < n) (hx : m.2.2.1 41 o = Int32.ofNat (fmN x)) (hxb : x = 1000000 ∨ x ≤ 5000) : fX12_hoursBy (Int32.ofNat f) (Int32.ofNat o) (Int32.ofNat to) m = some (Int32.ofNat (hbN r to f o x), m) := by
  have h6 := H.2.1
  have ht := H.2.2.1
  obtain ⟨hr, er⟩ := rdN_le H hf ho
  have i1 : (55 : Int32) + (6 : Int32) * Int32.ofNat f + Int32.ofNat o = Int32.ofNat (55 + (f * 6 + o)) := by rw [show (6 : Int32) = Int32.ofNat 6 from rfl, show (55 : Int32) = Int32.ofNat 55 from rfl, oN_mul, oN_add, oN_add]; congr 1; omega
  have e25 : (25 : Int32) + Int32.ofNat o = Int32.ofNat (25 + o) := oN_add 25 o
  obtain ⟨t1, w, hw, ew⟩ := H.2.2.2.2.2.2 o (by omega)
  have h38 : ∀ w0 : Int32, (w0 = 0 ∨ w0 = 1) → fX12_hoursBy_b38 (Int32.ofNat o) (Int32.ofNat (rdN r f o)) w0 m = some (if 0 < rdN r f o ∧ w0 = 1 ∧ x ≠ 1000000 then Int32.ofNat (rdN r f o + x) else 100000000, m) := by
    intro w0 hw0
    unfold fX12_hoursBy_b38 fX12_hoursBy_b62 fX12_hoursBy_b77
    by_cases h0 : rdN r f o = 0
    · rw [if_pos (show Int32.ofNat (rdN r f o) = 0 by rw [h0]; rfl), if_neg (show ¬ (0 < rdN r f o ∧ w0 = 1 ∧ x ≠ 1000000) from fun z => by omega)]
    rw [if_neg (show ¬ (Int32.ofNat (rdN r f o) = 0) from fun q => h0 ((oN_eq (b := 0) (by omega) (by decide)).mp q))]
    rcases hw0 with e | e
    · subst e
      rw [if_pos rfl, if_neg (show ¬ (0 < rdN r f o ∧ (0 : Int32) = 1 ∧ x ≠ 1000000) from fun z => absurd z.2.1 (by decide))]
    · subst e
      rw [if_neg one_ne0, gi_N (show o < 6 by omega) (by decide), gi_N (show o < 6 by omega) (by decide), oN_tn (show o < 2147483648 by omega), hx]
      unfold fmN
      by_cases z : x = 1000000
      · rw [if_pos z, if_pos (show Int32.ofNat 100000000 = 100000000 from rfl), if_neg (fun q => q.2.2 z)]
      · have hx5 : x ≤ 5000 := by rcases hxb with q | q; exact absurd q z; exact q
        rw [if_neg z, if_neg (show ¬ (Int32.ofNat x = 100000000) from fun q => by have := (oN_eq (b := 100000000) (by omega) (by decide)).mp q; omega), if_pos ⟨by omega, rfl, z⟩, oN_add]
  unfold fX12_hoursBy fX12_hoursBy_b33
  rw [i1, gi_N (show 55 + (f * 6 + o) < 5550 by omega) (by decide), oN_tn (show 55 + (f * 6 + o) < 2147483648 by omega), H.1, er, lt_v]
  unfold hbN ldN
  by_cases e : o = to
  · rw [if_eqT e, h38 1 (Or.inr rfl), decide_eq_true e]
    by_cases q : 0 < rdN r f o ∧ x ≠ 1000000
    · rw [if_pos ⟨q.1, rfl, q.2⟩, decide_eq_true q.1, if_pos ⟨rfl, q.2⟩]
    · rw [if_neg (fun z => q ⟨z.1, z.2.2⟩), if_neg (fun z => q ⟨by simpa using z.1, z.2⟩)]; rfl
  · rw [if_eqF e (by omega) (by omega), e25, gi_N (show 25 + o < 5550 by omega) (by decide), oN_tn (show 25 + o < 2147483648 by omega), ew, h38 1 (Or.inr rfl), h38 0 (Or.inl rfl), decide_eq_false e, oN_tn (by omega)]
    by_cases z : w = 0
    · subst z
      rw [if_pos (show Int32.ofNat 0 = 0 from rfl)]
      by_cases q : 0 < rdN r f o ∧ x ≠ 1000000
      · rw [if_pos ⟨q.1, rfl, q.2⟩, decide_eq_true q.1, if_pos ⟨rfl, q.2⟩]
      · rw [if_neg (fun z => q ⟨z.1, z.2.2⟩), if_neg (fun z => q ⟨by simpa using z.1, z.2⟩)]; rfl
    · rw [if_neg (show ¬ (Int32.ofNat w = 0) from fun q => z ((oN_eq (b := 0) (by omega) (by decide)).mp q)), if_neg (show ¬ (0 < rdN r f o ∧ (0 : Int32) = 1 ∧ x ≠ 1000000) from fun z => absurd z.2.1 (by decide)), decide_eq_false z, if_neg (fun q => by simpa using q.1)]; rfl
/-- the comparison of the reference is the relaxation -/
theorem hb_rx {f o x s : Nat} (hxb : x = 1000000 ∨ x ≤ 4000) (hr : rdN r f o ≤ 99) (hs : s = 1000000 ∨ s ≤ 5000) : fmN (if ldN r to f o = true ∧ rdN r f o + x < s then rdN r f o + x else s) = if hbN r to f o x < fmN s then hbN r to f o x else fmN s := by
  unfold hbN
  have hs1 : s ≤ 1000000 := by omega
  by_cases h1 : ldN r to f o = true ∧ x ≠ 1000000
  · have hx : x ≤ 4000 := by rcases hxb with q | q; exact absurd q h1.2; exact q
    rw [if_pos h1]
    by_cases h2 : rdN r f o + x < s
    · rw [if_pos ⟨h1.1, h2⟩]
      have h3 : rdN r f o + x < fmN s := by unfold fmN; split <;> omega
      rw [if_pos h3]
      unfold fmN
      rw [if_neg (by omega)]
    · rw [if_neg (fun z => h2 z.2)]
      have h3 : ¬ (rdN r f o + x < fmN s) := by unfold fmN; split <;> omega
      rw [if_neg h3]
  · rw [if_neg h1, if_neg (show ¬ (100000000 < fmN s) from by have := fmN_le hs1; omega)]
    rw [if_neg (fun z => h1 ⟨z.1, fun e => by omega⟩)]
theorem rx_b {d : Nat → Nat} {f s b k : Nat} (hd : Lb n b d) (hs : s = 1000000 ∨ s ≤ b + 99) (hr : ∀ o, o < n → rdN r f o ≤ 99) (hk : k ≤ n) : rx (ldN r to) (rdN r) d f s k = 1000000 ∨ rx (ldN r to) (rdN r) d f s k ≤ b + 99 := by
  have hle := rx_le (ldN r to) (rdN r) d f s k
  rcases rx_at (ldN r to) (rdN r) d f s k with e | ⟨o, h1, h2, h3⟩
  · rw [e]; exact hs
  · have := hr o (by omega)
    rcases hd o (by omega) with q | q
    · rw [h3] at hle ⊢
      rcases hs with z | z
      · exact Or.inl (by omega)
      · exact Or.inr (by omega)
    · exact Or.inr (by omega)
theorem m_stops {c : St} {d : Nat → Nat} {f b : Nat} {v4 : Int32} {k45 : Int32 → Int32 → Int32 → St → Option (Unit × St)} {k54 : Int32 → Int32 → Int32 → Int32 → St → Option (Unit × St)} (hf : f < n) (hft : f ≠ to) (hb : b ≤ 3900) (hd : Lb n b d) : ∀ (q N : Nat) (m : St), q ≤ n → Dq r n to c m → (∀ x, x < n → x ≠ f → m.2.2.1 41 x = Int32.ofNat (fmN (d x))) → m.2.2.1 41 f = Int32.ofNat (fmN (rx (ldN r to) (rdN r) d f (d f) (n - q))) → ∃ m', lp (fun _ _ _ _ _ _ => none) (fX12_layHours_b63 k45 k54) (N + 1 + q) (Int32.ofNat to) (Int32.ofNat n) v4 (Int32.ofNat f) (Int32.ofNat (n - q)) m = k54 (Int32.ofNat to) (Int32.ofNat n) v4 (Int32.ofNat (f + 1)) m' ∧ (∀ x, x < n → x ≠ f → m'.2.2.1 41 x = Int32.ofNat (fmN (d x))) ∧ m'.2.2.1 41 f = Int32.ofNat (fmN (rx (ldN r to) (rdN r) d f (d f) n)) ∧ fr [] [] [41] m m' := by
  intro q
  induction q with
  | zero =>
    intro N m _ H h1 h2
    refine ⟨m, ?_, h1, h2, fr.rf⟩
    rw [Nat.add_zero, Nat.sub_zero, lp_s]
    generalize lp (fun _ _ _ _ _ _ => none) (fX12_layHours_b63 k45 k54) N = kk
    unfold fX12_layHours_b63 fX12_layHours_b123
    rw [if_pos (Int32.le_refl _), lt_v, oN_s]
  | succ q ih =>
    intro N m hq H h1 h2
    have h6 := H.2.1
    have ht := H.2.2.1
    have e1 : n - q = (n - (q + 1)) + 1 := by omega
    have hi : n - (q + 1) < n := by omega
    have ih' := ih N
    rw [← Nat.add_assoc, lp_s]
    generalize n - (q + 1) = i at e1 hi h2 ⊢
    rw [e1] at ih'
    generalize lp (fun _ _ _ _ _ _ => none) (fX12_layHours_b63 k45 k54) (N + 1 + q) = kk at ih' ⊢
    have hr : ∀ o, o < n → rdN r f o ≤ 99 := fun o ho => (rdN_le H hf ho).1
    have hsb := rx_b (r := r) (to := to) (f := f) (s := d f) (k := i) hd (by rcases hd f hf with z | z; exact Or.inl z; exact Or.inr (by omega)) hr (by omega)
    have hs1 : rx (ldN r to) (rdN r) d f (d f) i ≤ 1000000 := by omega
    -- the hours of the stop, as they stand
    have hst : ∃ x, m.2.2.1 41 i = Int32.ofNat (fmN x) ∧ (x = 1000000 ∨ x ≤ 4000) ∧ fmN (rx (ldN r to) (rdN r) d f (d f) (i + 1)) = if hbN r to f i x < fmN (rx (ldN r to) (rdN r) d f (d f) i) then hbN r to f i x else fmN (rx (ldN r to) (rdN r) d f (d f) i) := by
      by_cases e : i = f
      · refine ⟨rx (ldN r to) (rdN r) d f (d f) i, by rw [e] at h2 ⊢; exact h2, by omega, ?_⟩
        have hself : rx (ldN r to) (rdN r) d f (d f) (i + 1) = rx (ldN r to) (rdN r) d f (d f) i := by
          show (if _ then _ else _) = _
          rw [if_neg]
          intro z
          have := rx_le (ldN r to) (rdN r) d f (d f) i
          rw [e] at z this
          omega
        rw [hself, ← hb_rx (s := rx (ldN r to) (rdN r) d f (d f) i) (by omega) (hr i hi) (by omega), if_neg (fun z => by omega)]
      · have hdi := hd i hi
        refine ⟨d i, h1 i hi e, by omega, ?_⟩
        rw [← hb_rx (s := rx (ldN r to) (rdN r) d f (d f) i) (by omega) (hr i hi) (by omega)]
        rfl
    obtain ⟨x, x1, x2, x3⟩ := hst
    have hh := m_hours H hf hi x1 (by omega)
    have hfs := fmN_le hs1
    have hhb : hbN r to f i x ≤ 100000000 := by
      unfold hbN
      have := hr i hi
      split
      · rename_i z; omega
      · exact Nat.le_refl _
    have hstep : fX12_layHours_b63 k45 k54 kk (Int32.ofNat to) (Int32.ofNat n) v4 (Int32.ofNat f) (Int32.ofNat i) m = kk (Int32.ofNat to) (Int32.ofNat n) v4 (Int32.ofNat f) (Int32.ofNat (i + 1)) (sA m 41 (upd (m.2.2.1 41) f (Int32.ofNat (fmN (rx (ldN r to) (rdN r) d f (d f) (i + 1)))))) := by
      unfold fX12_layHours_b63 fX12_layHours_b116
      rw [if_leF hi (by omega), if_eqF hft (by omega) (by omega), hh, bd_v, gi_N (show f < 6 by omega) (by decide), gi_N (show f < 6 by omega) (by decide), gi_N (show f < 6 by omega) (by decide), oN_tn (show f < 2147483648 by omega), h2, lt_v, lt_v, lt_v, lt_v, oN_s, x3]
      by_cases w : hbN r to f i x < fmN (rx (ldN r to) (rdN r) d f (d f) i)
      · rw [if_leF w (by omega), if_pos w, gi_N (show f < 6 by omega) (by decide)]
      · rw [if_leT (by omega) (by omega), if_neg w]
    have f1 : fr [] [] [41] m (sA m 41 (upd (m.2.2.1 41) f (Int32.ofNat (fmN (rx (ldN r to) (rdN r) d f (d f) (i + 1)))))) := fr.sA (by decide)
    obtain ⟨m', a1, a2, a3, a4⟩ := ih' _ (by omega) (H.f (fr.rf (st := c)) f1) (by
      intro y hy hyf
      show upd (m.2.2.1 41) f _ y = _
      rw [upd_v, if_neg hyf]; exact h1 y hy hyf) (by
      show upd (m.2.2.1 41) f _ f = _
      rw [upd_v, if_pos rfl])
    exact ⟨m', hstep.trans a1, a2, a3, f1.tr a4⟩
end LayM
