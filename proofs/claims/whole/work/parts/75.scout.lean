/-! T2, calls that only ask: holds, scout -/
def pwI (v : Int32) : Nat → Int64
  | 0 => 1000000000000
  | k + 1 => pwI v k * v.toInt64 / 10
theorem c_pw {fz : List FP} {c : St} {v : Int32} {N : Nat} (hN : N ≤ 30) : ∀ (k n : Nat), k ≤ N → lp (fun _ _ _ _ _ => none) (fX11_holds_b112 fz) (n + 1 + k) (Int32.ofNat N) v (pwI v (N - k)) (Int32.ofNat (N - k)) c = some (pwI v N, c) := by
  intro k
  induction k with
  | zero =>
    intro n _
    rw [Nat.add_zero, lp_s]
    unfold fX11_holds_b112
    rw [if_leT (by omega) (by omega), Nat.sub_zero]
  | succ k ih =>
    intro n hk
    rw [← Nat.add_assoc, lp_s]
    have := ih n (by omega)
    generalize lp (fun _ _ _ _ _ => none) (fX11_holds_b112 fz) (n + 1 + k) = kk at this ⊢
    have e1 : N - k = (N - (k + 1)) + 1 := by omega
    rw [e1] at this
    unfold fX11_holds_b112
    rw [if_leF (by omega) (by omega), lt_v, lt_v, oN_s]
    exact this
theorem m_pw {c : St} {v : Int32} {N : Nat} (hN : N ≤ 30) : ∀ (k n : Nat), k ≤ N → lp (fun _ _ _ _ _ => none) fX12_holds_b110 (n + 1 + k) (Int32.ofNat N) v (pwI v (N - k)) (Int32.ofNat (N - k)) c = some (pwI v N, c) := by
  intro k
  induction k with
  | zero =>
    intro n _
    rw [Nat.add_zero, lp_s]
    unfold fX12_holds_b110
    rw [if_leT (by omega) (by omega), Nat.sub_zero]
  | succ k ih =>
    intro n hk
    rw [← Nat.add_assoc, lp_s]
    have := ih n (by omega)
    generalize lp (fun _ _ _ _ _ => none) fX12_holds_b110 (n + 1 + k) = kk at this ⊢
    have e1 : N - k = (N - (k + 1)) + 1 := by omega
    rw [e1] at this
    unfold fX12_holds_b110
    rw [if_leF (by omega) (by omega), lt_v, lt_v, oN_s]
    exact this
theorem holds_l {fz : List FP} {f N : Nat} (hf : f < 6) (hN : N ≤ 30) : ∀ (k n : Nat) (v : Int32) (c m : St), k ≤ 10 → Rq fz c m → Sm c m (lp (fun _ _ _ _ _ => none) (fX11_holds_b46 fz) (n + 1 + k) (Int32.ofNat f) (Int32.ofNat N) v (Int32.ofNat (9 + 10 * (10 - k))) c) (lp (fun _ _ _ _ _ => none) fX12_holds_b48 (n + 1 + k) (Int32.ofNat f) (Int32.ofNat N) v (Int32.ofNat (9 + 10 * (10 - k))) m) := by
  intro k
  induction k with
  | zero =>
    intro n v c m _ h
    rw [Nat.add_zero, lp_s, lp_s]
    have h1 := c_pw (fz := fz) (c := c) (v := v) hN N (5999 - N) (Nat.le_refl _)
    have h2 := m_pw (c := m) (v := v) hN N (5999 - N) (Nat.le_refl _)
    rw [Nat.sub_self, show 5999 - N + 1 + N = 6000 by omega] at h1 h2
    unfold fX11_holds_b46 fX12_holds_b48
    rw [if_pos (show (99 : Int32) < Int32.ofNat (9 + 10 * (10 - 0)) by decide), if_pos (show (100 : Int32) ≤ Int32.ofNat (9 + 10 * (10 - 0)) by decide)]
    exact ⟨pwI v N, c, m, h1, h2, cq.rf, mq.rf⟩
  | succ k ih =>
    intro n v c m hk h
    rw [← Nat.add_assoc, lp_s, lp_s]
    have ih' := fun v c m => ih n v c m (by omega)
    generalize lp (fun _ _ _ _ _ => none) (fX11_holds_b46 fz) (n + 1 + k) = kk at ih' ⊢
    generalize lp (fun _ _ _ _ _ => none) fX12_holds_b48 (n + 1 + k) = km at ih' ⊢
    have e1 : 10 - k = (10 - (k + 1)) + 1 := by omega
    rw [e1] at ih'
    generalize hj : 10 - (k + 1) = j at ih' ⊢
    have hj9 : j ≤ 9 := by omega
    have e10 : Int32.ofNat (9 + 10 * j) + 10 = Int32.ofNat (9 + 10 * (j + 1)) := by
      rw [show 9 + 10 * (j + 1) = (9 + 10 * j) + 10 by omega]; exact oN_add _ 10
    have q200 : c.2.2.1 200 f = m.2.2.1 3 (13 + f) := (h.1.2.2.2.2.2.1 f hf).1
    have q201 : c.2.2.1 201 f = m.2.2.1 3 (19 + f) := (h.1.2.2.2.2.2.2.1 f hf).1
    have e13 : (13 : Int32) + Int32.ofNat f = Int32.ofNat (13 + f) := oN_add 13 f
    have e19 : (19 : Int32) + Int32.ofNat f = Int32.ofNat (19 + f) := oN_add 19 f
    have n1 : ¬ ((99 : Int32) < Int32.ofNat (9 + 10 * j)) := fun q => by have := (oN_lt (a := 99) (by decide) (by omega)).mp q; omega
    have n2 : ¬ ((100 : Int32) ≤ Int32.ofNat (9 + 10 * j)) := fun q => by have := (oN_le (a := 100) (by decide) (by omega)).mp q; omega
    unfold fX11_holds_b46 fX12_holds_b48
    simp only [if_neg n1, if_neg n2, e13, e19, gi_N hf (show 6 < 2147483648 by decide), gi_N (show 13 + f < 5550 by omega) (show 5550 < 2147483648 by decide), gi_N (show 19 + f < 5550 by omega) (show 5550 < 2147483648 by decide), oN_tn (show f < 2147483648 by omega), oN_tn (show 13 + f < 2147483648 by omega), oN_tn (show 19 + f < 2147483648 by omega), q200, q201]
    have u95 : ∀ st, fX11_holds_b95 fz kk (Int32.ofNat f) (Int32.ofNat N) v (Int32.ofNat (9 + 10 * j)) st = kk (Int32.ofNat f) (Int32.ofNat N) (v + 1) (Int32.ofNat (9 + 10 * (j + 1))) st := fun st => by
      unfold fX11_holds_b95 fX11_holds_b98
      rw [lt_v, lt_v, e10]
    have u98 : ∀ st, fX11_holds_b98 fz kk (Int32.ofNat f) (Int32.ofNat N) v (Int32.ofNat (9 + 10 * j)) st = kk (Int32.ofNat f) (Int32.ofNat N) v (Int32.ofNat (9 + 10 * (j + 1))) st := fun st => by
      unfold fX11_holds_b98
      rw [lt_v, e10]
    have u93 : ∀ st, fX12_holds_b93 km (Int32.ofNat f) (Int32.ofNat N) (Int32.ofNat (9 + 10 * j)) v st = km (Int32.ofNat f) (Int32.ofNat N) (v + 1) (Int32.ofNat (9 + 10 * (j + 1))) st := fun st => by
      unfold fX12_holds_b93 fX12_holds_b94
      rw [lt_v, lt_v, e10]
    have u94 : ∀ st, fX12_holds_b94 km (Int32.ofNat f) (Int32.ofNat N) (Int32.ofNat (9 + 10 * j)) 0 v st = km (Int32.ofNat f) (Int32.ofNat N) v (Int32.ofNat (9 + 10 * (j + 1))) st := fun st => by
      unfold fX12_holds_b94
      rw [lt_v, lt_v, e10, Int32.add_zero]
    by_cases hm : Int32.ofNat (9 + 10 * j) ≤ m.2.2.1 3 (13 + f)
    · rw [if_pos hm, if_pos hm, u95, u93]
      exact ih' _ _ _ h
    · rw [if_neg hm, if_neg hm]
      obtain ⟨r, c', m', k1, k2, k3, k4, -⟩ := turns_both (m.2.2.1 3 (19 + f)) (Int32.ofNat (9 + 10 * j)) h hf (nb.sm ⟨9 + 10 * j, Nat.le_refl _, rfl⟩ (by omega))
      rw [k1, bd_v, k2, bd_v]
      refine Sm.tr k3 k4 ?_
      by_cases hr : r = 0
      · rw [if_pos hr, if_pos hr, u98, u94]; exact ih' _ _ _ (h.q k3 k4)
      · rw [if_neg hr, if_neg hr, u95, u93]; exact ih' _ _ _ (h.q k3 k4)
theorem nb1 {x : Int32} (h : nb 1 x) : x = 0 ∨ x = 1 := by
  obtain ⟨n, hn, e⟩ := h
  have : n = 0 ∨ n = 1 := by omega
  rcases this with q | q <;> subst q
  · exact Or.inl e
  · exact Or.inr e
theorem holds_both {fz : List FP} {c m : St} (a b : Int32) (h : Rq fz c m) : Sm c (sI m 0 0) (fX11_holds a b fz c) (fX12_holds a b m) := by
  have h' : Rq fz c (sI m 0 0) := h
  obtain ⟨v, e1, e2, hv⟩ := has_both a h'
  unfold fX11_holds fX12_holds
  rw [e1, bd_v, lt_v, e2, bd_v]
  rcases hv with hv | ⟨hv, f, hf, -, ea⟩
  · rw [if_pos hv, if_pos hv]; exact Sm.rf
  subst ea
  subst hv
  obtain ⟨htk, htb⟩ := h.1.2.2.2.2.2.2.2.1 f hf
  have q202 : c.2.2.1 202 f = (sI m 0 0).2.2.1 3 (25 + f) := htk
  have e25 : (25 : Int32) + Int32.ofNat f = Int32.ofNat (25 + f) := oN_add 25 f
  rw [if_neg one_ne0, if_neg one_ne0, c_within, bs_v, m_in32 b 0 30 0 30 rfl rfl, bs_v, e25, gi_N hf (by decide), gi_N (a := 25 + f) (by omega) (by decide), oN_tn (by omega), oN_tn (by omega), q202]
  have htb' : nb 1 ((sI m 0 0).2.2.1 3 (25 + f)) := htb
  generalize (sI m 0 0).2.2.1 3 (25 + f) = tk at htb' ⊢
  by_cases hb : (0 : Int32) ≤ b ∧ b ≤ 30
  · rw [if_pos hb, if_neg one_ne0, if_neg one_ne0]
    obtain ⟨N, hN, eN⟩ := oN_exb (b := 30) hb.1 (by decide) hb.2
    subst eN
    rcases nb1 htb' with e | e <;> subst e
    · rw [if_pos rfl, if_neg (show ¬ ((0 : Int32) = 1) by decide)]
      exact holds_l hf hN 10 5989 0 _ _ (Nat.le_refl _) h'
    · rw [if_neg one_ne0, if_pos rfl]; exact Sm.rf
  · rw [if_neg hb, if_pos rfl, if_pos rfl]
    split <;> exact Sm.rf
