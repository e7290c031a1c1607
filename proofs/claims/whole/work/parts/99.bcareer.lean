/-! T2, career -/
def mi (v : Nat) : Nat := if 10 < v + 1 then 10 else v + 1
theorem mi_lt (v : Nat) : mi v < 11 := by unfold mi; split <;> omega
def cf (r : Nat → Int32) (k : Nat) (L : Nat → Int32) (v : Nat) : Int32 := L (mi v) - r (123 + 3 * k)
def bo (r : Nat → Int32) (k : Nat) (L : Nat → Int32) (v : Nat) : Int32 := L 0 + (if Int32.ofNat v < r (124 + 3 * k) then -(r (125 + 3 * k)) else r (125 + 3 * k))
def mo2 (r : Nat → Int32) (k : Nat) (L : Nat → Int32) (v : Nat) : Int32 := if cf r k L v < bo r k L v then bo r k L v else cf r k L v
/-- the most from the j-th siege from behind on -/
def lv (r : Nat → Int32) (n : Nat) : Nat → Nat → Int32
  | 0 => fun _ => 0
  | j + 1 => mo2 r (n - (j + 1)) (lv r n j)
def Cq (r : Nat → Int32) (n : Nat) (c m : St) : Prop := m.2.2.1 3 = r ∧ n ≤ 8 ∧ r 1 = Int32.ofNat n ∧ c.1 404 = Int32.ofNat n ∧ ∀ i, i < 8 → c.2.2.1 400 i = r (123 + 3 * i) ∧ c.2.2.1 401 i = r (124 + 3 * i) ∧ c.2.2.1 402 i = r (125 + 3 * i)
section Career
variable {fz : List FP} {r : Nat → Int32} {n : Nat}
theorem Cq.f {c m c' m' : St} (H : Cq r n c m) (f : fr [] [] [403] c c') (g : fr [] [] [42] m m') : Cq r n c' m' := by
  unfold Cq
  rw [g.2.2.1 3 (by decide), f.1 404 (by decide), f.2.2.1 400 (by decide), f.2.2.1 401 (by decide), f.2.2.1 402 (by decide)]
  exact H
theorem c_mi {v : Nat} (hv : v < 11) : (if (10 : Int32) < Int32.ofNat v + 1 then (10 : Int32) else Int32.ofNat v + 1) = Int32.ofNat (mi v) := by
  unfold mi
  rw [oN_s]
  by_cases q : 10 < v + 1
  · rw [if_pos (show (10 : Int32) < Int32.ofNat (v + 1) from (oN_lt (a := 10) (by decide) (by omega)).mpr q), if_pos q]; rfl
  · rw [if_neg (show ¬ ((10 : Int32) < Int32.ofNat (v + 1)) from fun w => q ((oN_lt (a := 10) (by decide) (by omega)).mp w)), if_neg q]
theorem m_mi_all : ∀ v : Fin 11, fX12_within ((Int32.ofNat v.val).toInt64 + 1) 0 10 = some (Int32.ofNat (mi v.val)) := by decide +kernel
theorem m_mi {v : Nat} (hv : v < 11) : fX12_within ((Int32.ofNat v).toInt64 + 1) 0 10 = some (Int32.ofNat (mi v)) := m_mi_all ⟨v, hv⟩
theorem c_car {c m : St} {L : Nat → Int32} {k v : Nat} (H : Cq r n c m) (hk : k < 8) (hv : v < 11) (hL : ∀ v, v < 11 → c.2.2.1 403 (11 * (k + 1) + v) = L v) : fX1_carefully (Int32.ofNat k) (Int32.ofNat v) fz c = some (cf r k L v, c) := by
  have hm := mi_lt v
  have i1 : (Int32.ofNat k + 1) * (11 : Int32) + Int32.ofNat (mi v) = Int32.ofNat (11 * (k + 1) + mi v) := by rw [oN_s, show (11 : Int32) = Int32.ofNat 11 from rfl, oN_mul, oN_add, Nat.mul_comm]
  unfold fX1_carefully cf
  rw [c_mi hv, i1, gi_N (show 11 * (k + 1) + mi v < 99 by omega) (by decide), gi_N hk (by decide), oN_tn (show k < 2147483648 by omega), oN_tn (show 11 * (k + 1) + mi v < 2147483648 by omega), hL _ hm, (H.2.2.2.2 k hk).1]
theorem c_bol {c m : St} {L : Nat → Int32} {k v : Nat} (H : Cq r n c m) (hk : k < 8) (hL : ∀ v, v < 11 → c.2.2.1 403 (11 * (k + 1) + v) = L v) : fX1_boldly (Int32.ofNat k) (Int32.ofNat v) fz c = some (bo r k L v, c) := by
  have i1 : (Int32.ofNat k + 1) * (11 : Int32) = Int32.ofNat (11 * (k + 1)) := by rw [oN_s, show (11 : Int32) = Int32.ofNat 11 from rfl, oN_mul, Nat.mul_comm]
  have h0 := hL 0 (by omega)
  rw [Nat.add_zero] at h0
  unfold fX1_boldly fX1_boldly_b37 bo
  rw [i1, gi_N (show 11 * (k + 1) < 99 by omega) (by decide), gi_N hk (by decide), gi_N hk (by decide), gi_N hk (by decide), oN_tn (show k < 2147483648 by omega), oN_tn (show 11 * (k + 1) < 2147483648 by omega), h0, (H.2.2.2.2 k hk).2.1, (H.2.2.2.2 k hk).2.2]
  split <;> rfl
theorem m_car {c m : St} {L : Nat → Int32} {k v : Nat} (H : Cq r n c m) (hk : k < 8) (hv : v < 11) (hL : ∀ v, v < 11 → m.2.2.1 42 (11 * (k + 1) + v) = L v) : fX12_careful (Int32.ofNat k) (Int32.ofNat v) m = some (cf r k L v, m) := by
  have hm := mi_lt v
  have i1 : (11 : Int32) * Int32.ofNat k + (11 : Int32) + Int32.ofNat (mi v) = Int32.ofNat (11 * (k + 1) + mi v) := by rw [show (11 : Int32) = Int32.ofNat 11 from rfl, oN_mul, oN_add, oN_add, show 11 * k + 11 = 11 * (k + 1) by omega]
  have i2 : (123 : Int32) + (3 : Int32) * Int32.ofNat k = Int32.ofNat (123 + 3 * k) := by rw [show (3 : Int32) = Int32.ofNat 3 from rfl, oN_mul, show (123 : Int32) = Int32.ofNat 123 from rfl, oN_add]
  unfold fX12_careful cf
  rw [m_mi hv, bs_v, i1, i2, gi_N (show 11 * (k + 1) + mi v < 99 by omega) (by decide), gi_N (show 123 + 3 * k < 5550 by omega) (by decide), oN_tn (show 123 + 3 * k < 2147483648 by omega), oN_tn (show 11 * (k + 1) + mi v < 2147483648 by omega), hL _ hm, H.1]
theorem m_bol {c m : St} {L : Nat → Int32} {k v : Nat} (H : Cq r n c m) (hk : k < 8) (hL : ∀ v, v < 11 → m.2.2.1 42 (11 * (k + 1) + v) = L v) : fX12_bold (Int32.ofNat k) (Int32.ofNat v) m = some (bo r k L v, m) := by
  have i1 : (11 : Int32) * Int32.ofNat k + (11 : Int32) = Int32.ofNat (11 * (k + 1)) := by rw [show (11 : Int32) = Int32.ofNat 11 from rfl, oN_mul, oN_add, show 11 * k + 11 = 11 * (k + 1) by omega]
  have i2 : (123 : Int32) + (3 : Int32) * Int32.ofNat k = Int32.ofNat (123 + 3 * k) := by rw [show (3 : Int32) = Int32.ofNat 3 from rfl, oN_mul, show (123 : Int32) = Int32.ofNat 123 from rfl, oN_add]
  have i3 : Int32.ofNat (123 + 3 * k) + (1 : Int32) = Int32.ofNat (124 + 3 * k) := by rw [oN_s]; congr 1; omega
  have i4 : Int32.ofNat (123 + 3 * k) + (2 : Int32) = Int32.ofNat (125 + 3 * k) := by rw [show (2 : Int32) = Int32.ofNat 2 from rfl, oN_add]; congr 1; omega
  have h0 := hL 0 (by omega)
  rw [Nat.add_zero] at h0
  unfold fX12_bold fX12_bold_b49 bo
  rw [i1, i2, i3, i4, gi_N (show 125 + 3 * k < 5550 by omega) (by decide), lt_v, gi_N (show 11 * (k + 1) < 99 by omega) (by decide), gi_N (show 124 + 3 * k < 5550 by omega) (by decide), oN_tn (show 125 + 3 * k < 2147483648 by omega), oN_tn (show 124 + 3 * k < 2147483648 by omega), oN_tn (show 11 * (k + 1) < 2147483648 by omega), h0, H.1]
  split <;> rfl
theorem solve_i {k : Nat} {L : Nat → Int32} {v1 v2 : Int32} {kc : Int32 → St → Option (Unit × St)} {km : Int32 → Int32 → Int32 → St → Option (Int32 × St)} (hk : k < 8) : ∀ (q N : Nat) (c m : St), q ≤ 11 → Cq r n c m → (∀ v, v < 11 → c.2.2.1 403 (11 * (k + 1) + v) = L v ∧ m.2.2.1 42 (11 * (k + 1) + v) = L v) → (∀ v, v < 11 - q → c.2.2.1 403 (11 * k + v) = mo2 r k L v ∧ m.2.2.1 42 (11 * k + v) = mo2 r k L v) → ∃ c' m', lp (fun _ _ _ => none) (fX1_solve_b37 fz kc) (N + 1 + q) (Int32.ofNat k) (Int32.ofNat (11 - q)) c = kc (Int32.ofNat k - 1) c' ∧ lp (fun _ _ _ _ _ => none) (fX12_career_b81 km) (N + 1 + q) v1 v2 (Int32.ofNat k) (Int32.ofNat (11 - q)) m = km v1 v2 (Int32.ofNat k - 1) m' ∧ (∀ v, v < 11 → c'.2.2.1 403 (11 * k + v) = mo2 r k L v ∧ m'.2.2.1 42 (11 * k + v) = mo2 r k L v) ∧ (∀ i, 11 * (k + 1) ≤ i → c'.2.2.1 403 i = c.2.2.1 403 i ∧ m'.2.2.1 42 i = m.2.2.1 42 i) ∧ fr [] [] [403] c c' ∧ fr [] [] [42] m m' := by
  intro q
  induction q with
  | zero =>
    intro N c m _ H _ hM
    refine ⟨c, m, ?_, ?_, hM, fun i _ => ⟨rfl, rfl⟩, fr.rf, fr.rf⟩
    · rw [Nat.add_zero, lp_s]
      generalize lp (fun _ _ _ => none) (fX1_solve_b37 fz kc) N = kk
      unfold fX1_solve_b37
      rw [if_pos (show (11 : Int32) ≤ Int32.ofNat (11 - 0) by decide), lt_v, Int32.sub_eq_add_neg]
    · rw [Nat.add_zero, lp_s]
      generalize lp (fun _ _ _ _ _ => none) (fX12_career_b81 km) N = kk
      unfold fX12_career_b81
      rw [if_pos (show (11 : Int32) ≤ Int32.ofNat (11 - 0) by decide), lt_v, Int32.sub_eq_add_neg]
  | succ q ih =>
    intro N c m hq H hL hM
    have e1 : 11 - q = (11 - (q + 1)) + 1 := by omega
    have hi : 11 - (q + 1) < 11 := by omega
    have ih' := ih N
    rw [← Nat.add_assoc, lp_s, lp_s]
    generalize 11 - (q + 1) = i at e1 hi hM ⊢
    rw [e1] at ih'
    generalize lp (fun _ _ _ => none) (fX1_solve_b37 fz kc) (N + 1 + q) = k1 at ih' ⊢
    generalize lp (fun _ _ _ _ _ => none) (fX12_career_b81 km) (N + 1 + q) = k2 at ih' ⊢
    have hle : ¬ ((11 : Int32) ≤ Int32.ofNat i) := fun q => by have := (oN_le (a := 11) (by decide) (by omega)).mp q; omega
    have i1 : Int32.ofNat k * (11 : Int32) + Int32.ofNat i = Int32.ofNat (11 * k + i) := by rw [show (11 : Int32) = Int32.ofNat 11 from rfl, oN_mul, oN_add, Nat.mul_comm]
    have i2 : (11 : Int32) * Int32.ofNat k + Int32.ofNat i = Int32.ofNat (11 * k + i) := by rw [show (11 : Int32) = Int32.ofNat 11 from rfl, oN_mul, oN_add]
    have hLc : ∀ v, v < 11 → c.2.2.1 403 (11 * (k + 1) + v) = L v := fun v hv => (hL v hv).1
    have hLm : ∀ v, v < 11 → m.2.2.1 42 (11 * (k + 1) + v) = L v := fun v hv => (hL v hv).2
    have hc1 : fX1_solve_b37 fz kc k1 (Int32.ofNat k) (Int32.ofNat i) c = k1 (Int32.ofNat k) (Int32.ofNat (i + 1)) (sA c 403 (upd (c.2.2.1 403) (11 * k + i) (mo2 r k L i))) := by
      unfold fX1_solve_b37
      rw [if_neg hle, c_car H hk hi hLc, bd_v, c_bol H hk hLc, bd_v, i1, gi_N (show 11 * k + i < 99 by omega) (by decide), oN_tn (show 11 * k + i < 2147483648 by omega), lt_v, lt_v, oN_s]
      rfl
    have hm1 : fX12_career_b81 km k2 v1 v2 (Int32.ofNat k) (Int32.ofNat i) m = k2 v1 v2 (Int32.ofNat k) (Int32.ofNat (i + 1)) (sA m 42 (upd (m.2.2.1 42) (11 * k + i) (mo2 r k L i))) := by
      unfold fX12_career_b81 fX12_career_b138 mo2
      rw [if_neg hle, m_car H hk hi hLm, bd_v, m_bol H hk hLm, bd_v]
      by_cases z : cf r k L i < bo r k L i
      · rw [if_pos z, if_pos z, m_bol H hk hLm, bd_v, i2, gi_N (show 11 * k + i < 99 by omega) (by decide), oN_tn (show 11 * k + i < 2147483648 by omega), lt_v, lt_v, oN_s]
      · rw [if_neg z, if_neg z, m_car H hk hi hLm, bd_v, i2, gi_N (show 11 * k + i < 99 by omega) (by decide), oN_tn (show 11 * k + i < 2147483648 by omega), lt_v, lt_v, oN_s]
    rw [hc1, hm1]
    have fc : fr [] [] [403] c (sA c 403 (upd (c.2.2.1 403) (11 * k + i) (mo2 r k L i))) := fr.sA (by decide)
    have fm : fr [] [] [42] m (sA m 42 (upd (m.2.2.1 42) (11 * k + i) (mo2 r k L i))) := fr.sA (by decide)
    obtain ⟨c', m', a1, a2, a3, a4, a5, a6⟩ := ih' _ _ (by omega) (H.f fc fm) (by
      intro v hv
      show upd (c.2.2.1 403) _ _ _ = _ ∧ upd (m.2.2.1 42) _ _ _ = _
      rw [upd_v, upd_v, if_neg (by omega), if_neg (by omega)]; exact hL v hv) (by
      intro v hv
      show upd (c.2.2.1 403) _ _ _ = _ ∧ upd (m.2.2.1 42) _ _ _ = _
      rw [upd_v, upd_v]
      by_cases e : v = i
      · subst e
        rw [if_pos rfl, if_pos rfl]; exact ⟨rfl, rfl⟩
      · rw [if_neg (by omega), if_neg (by omega)]; exact hM v (by omega))
    refine ⟨c', m', a1, a2, a3, fun j hj => ?_, fc.tr a5, fm.tr a6⟩
    obtain ⟨b1, b2⟩ := a4 j hj
    rw [b1, b2]
    show upd (c.2.2.1 403) _ _ _ = _ ∧ upd (m.2.2.1 42) _ _ _ = _
    rw [upd_v, upd_v, if_neg (by omega), if_neg (by omega)]; exact ⟨rfl, rfl⟩
theorem solve_o {v1 v2 : Int32} : ∀ (K N : Nat) (c m : St), K ≤ n → Cq r n c m → (∀ k, K ≤ k → k ≤ n → ∀ v, v < 11 → c.2.2.1 403 (11 * k + v) = lv r n (n - k) v ∧ m.2.2.1 42 (11 * k + v) = lv r n (n - k) v) → ∃ c' m', lp (fun _ _ => none) (fX1_solve_b31 fz) (N + 1 + K) (Int32.ofNat K - 1) c = some ((), c') ∧ lp (fun _ _ _ _ => none) fX12_career_b73 (N + 1 + K) v1 v2 (Int32.ofNat K - 1) m = lp (fun _ _ _ _ _ _ => none) fX12_career_b160 6000 v1 v2 v1 0 0 m' ∧ (∀ k, k ≤ n → ∀ v, v < 11 → c'.2.2.1 403 (11 * k + v) = lv r n (n - k) v ∧ m'.2.2.1 42 (11 * k + v) = lv r n (n - k) v) ∧ fr [] [] [403] c c' ∧ fr [] [] [42] m m' := by
  intro K
  induction K with
  | zero =>
    intro N c m _ H hr
    refine ⟨c, m, ?_, ?_, fun k hk => hr k (Nat.zero_le _) hk, fr.rf, fr.rf⟩
    · rw [Nat.add_zero, lp_s]
      generalize lp (fun _ _ => none) (fX1_solve_b31 fz) N = kk
      unfold fX1_solve_b31
      rw [if_pos (show Int32.ofNat 0 - 1 < 0 by decide)]
    · rw [Nat.add_zero, lp_s]
      generalize lp (fun _ _ _ _ => none) fX12_career_b73 N = kk
      conv => lhs; unfold fX12_career_b73
      rw [if_pos (show Int32.ofNat 0 - 1 < 0 by decide)]
  | succ K ih =>
    intro N c m hK H hr
    have hn := H.2.1
    have e1 : Int32.ofNat (K + 1) - 1 = Int32.ofNat K := by rw [show (1 : Int32) = Int32.ofNat 1 from rfl, oN_sub (by omega)]; rfl
    have ih' := ih N
    rw [← Nat.add_assoc, lp_s, lp_s, e1]
    generalize lp (fun _ _ => none) (fX1_solve_b31 fz) (N + 1 + K) = kc at ih' ⊢
    generalize lp (fun _ _ _ _ => none) fX12_career_b73 (N + 1 + K) = km at ih' ⊢
    obtain ⟨c1, m1, a1, a2, a3, a4, a5, a6⟩ := solve_i (fz := fz) (k := K) (L := lv r n (n - (K + 1))) (v1 := v1) (v2 := v2) (kc := kc) (km := km) (by omega) 11 5988 c m (Nat.le_refl _) H (fun v hv => hr (K + 1) (Nat.le_refl _) hK v hv) (fun v hv => absurd hv (by omega))
    have hcb : fX1_solve_b31 fz kc (Int32.ofNat K) c = kc (Int32.ofNat K - 1) c1 := by
      unfold fX1_solve_b31
      rw [if_neg (oN_neg (by omega))]
      exact a1
    have hmb : fX12_career_b73 km v1 v2 (Int32.ofNat K) m = km v1 v2 (Int32.ofNat K - 1) m1 := by
      unfold fX12_career_b73
      rw [if_neg (oN_neg (by omega))]
      exact a2
    rw [hcb, hmb]
    obtain ⟨c', m', b1, b2, b3, b4, b5⟩ := ih' c1 m1 (by omega) (H.f a5 a6) (by
      intro k hk1 hk2 v hv
      by_cases e : k = K
      · subst e
        have : lv r n (n - k) = mo2 r k (lv r n (n - (k + 1))) := by
          have e2 : n - k = (n - (k + 1)) + 1 := by omega
          rw [e2]
          show mo2 r (n - (n - (k + 1) + 1)) _ = _
          rw [show n - (n - (k + 1) + 1) = k by omega]
        rw [this]
        exact a3 v hv
      · obtain ⟨c1, c2⟩ := a4 (11 * k + v) (by omega)
        rw [c1, c2]
        exact hr k (by omega) hk2 v hv)
    exact ⟨c', m', b1, b2, b3, a5.tr b4, a6.tr b5⟩
theorem choice_l {c m : St} {w : Nat} {v1 : Int32} (H : Cq r n c m) (hw : w ≤ n) (hw1 : 1 ≤ w) (hr : ∀ k, k ≤ n → ∀ v, v < 11 → c.2.2.1 403 (11 * k + v) = lv r n (n - k) v ∧ m.2.2.1 42 (11 * k + v) = lv r n (n - k) v) : ∀ (q N v : Nat) (ch : Int32), q ≤ w → v < 11 → ∃ x, lp (fun _ _ _ _ _ => none) (fX1_choiceAt_b8 fz) (N + 1 + q) (Int32.ofNat (w - 1)) (Int32.ofNat v) ch (Int32.ofNat (w - q)) c = some (x, c) ∧ lp (fun _ _ _ _ _ _ => none) fX12_career_b160 (N + 1 + q) v1 (Int32.ofNat w) (Int32.ofNat v) ch (Int32.ofNat (w - q)) m = some (x, m) := by
  have hn := H.2.1
  intro q
  induction q with
  | zero =>
    intro N v ch _ _
    refine ⟨ch, ?_, ?_⟩
    · rw [Nat.add_zero, Nat.sub_zero, lp_s]
      generalize lp (fun _ _ _ _ _ => none) (fX1_choiceAt_b8 fz) N = kk
      unfold fX1_choiceAt_b8 fX1_choiceAt_b75
      rw [if_ltT (by omega) (by omega)]
    · rw [Nat.add_zero, Nat.sub_zero, lp_s]
      generalize lp (fun _ _ _ _ _ _ => none) fX12_career_b160 N = kk
      unfold fX12_career_b160 fX12_career_b240
      rw [if_pos (Int32.le_refl _), if_neg (show ¬ (Int32.ofNat w = 0) from fun z => by have := (oN_eq (b := 0) (by omega) (by omega)).mp z; omega)]
  | succ q ih =>
    intro N v ch hq hv
    have e1 : w - q = (w - (q + 1)) + 1 := by omega
    have hi : w - (q + 1) < w := by omega
    have ih' := fun v ch hv => ih N v ch (by omega) hv
    rw [← Nat.add_assoc, lp_s, lp_s]
    generalize w - (q + 1) = k at e1 hi ⊢
    rw [e1] at ih'
    generalize lp (fun _ _ _ _ _ => none) (fX1_choiceAt_b8 fz) (N + 1 + q) = k1 at ih' ⊢
    generalize lp (fun _ _ _ _ _ _ => none) fX12_career_b160 (N + 1 + q) = k2 at ih' ⊢
    have hL := fun v hv => hr (k + 1) (by omega) v hv
    have hLc : ∀ v, v < 11 → c.2.2.1 403 (11 * (k + 1) + v) = lv r n (n - (k + 1)) v := fun v hv => (hL v hv).1
    have hLm : ∀ v, v < 11 → m.2.2.1 42 (11 * (k + 1) + v) = lv r n (n - (k + 1)) v := fun v hv => (hL v hv).2
    have hlv : lv r n (n - k) = mo2 r k (lv r n (n - (k + 1))) := by
      have e2 : n - k = (n - (k + 1)) + 1 := by omega
      rw [e2]
      show mo2 r (n - (n - (k + 1) + 1)) _ = _
      rw [show n - (n - (k + 1) + 1) = k by omega]
    have hrow : m.2.2.1 42 (11 * k + v) = mo2 r k (lv r n (n - (k + 1))) v := by rw [← hlv]; exact (hr k (by omega) v hv).2
    have i2 : (11 : Int32) * Int32.ofNat k + Int32.ofNat v = Int32.ofNat (11 * k + v) := by rw [show (11 : Int32) = Int32.ofNat 11 from rfl, oN_mul, oN_add]
    generalize lv r n (n - (k + 1)) = L at hLc hLm hrow
    unfold fX1_choiceAt_b8 fX1_choiceAt_b45 fX1_choiceAt_b68 fX12_career_b160 fX12_career_b195 fX12_career_b217
    rw [if_ltF (show k ≤ w - 1 by omega) (by omega), H.2.2.2.1, if_leF (show k < n by omega) (by omega), c_bol H (by omega) hLc, bd_v, c_car H (by omega) hv hLc, bd_v, if_leF hi (by omega), m_car H (by omega) hv hLm, bd_v, i2, gi_N (show 11 * k + v < 99 by omega) (by decide), oN_tn (show 11 * k + v < 2147483648 by omega), hrow]
    unfold mo2
    by_cases z : cf r k L v < bo r k L v
    · rw [if_neg (Int32.not_le.mpr z), if_pos z, if_neg (show ¬ (cf r k L v = bo r k L v) from fun e => by rw [e] at z; exact absurd z Int32.lt_irrefl), c_bit (Or.inr rfl), bs_v, if_pos rfl, if_neg one_ne0, lt_v, lt_v, oN_s]
      exact ih' 0 1 (by omega)
    · rw [if_pos (Int32.not_lt.mp z), if_neg z, if_pos rfl, c_bit (Or.inl rfl), bs_v, if_neg (show ¬ ((0 : Int32) = 1) by decide), if_pos rfl, c_mi hv, m_mi hv, bs_v, lt_v, lt_v, oN_s]
      exact ih' (mi v) 0 (mi_lt v)
theorem c_fz {n : Nat} (hn : n ≤ 8) : ∀ (k N : Nat) (st : St), k ≤ 11 → (∀ v, v < 11 - k → st.2.2.1 403 (11 * n + v) = 0) → ∃ st', lp (fun _ _ _ _ => none) (fJ7_fill_fda19__403_b10 fz) (N + 1 + k) (Int32.ofNat (11 * n + 11)) 0 (Int32.ofNat (11 * n + (11 - k))) st = some ((), st') ∧ fr [] [] [403] st st' ∧ ∀ v, v < 11 → st'.2.2.1 403 (11 * n + v) = 0 := by
  intro k
  induction k with
  | zero =>
    intro N st _ h
    refine ⟨st, ?_, fr.rf, h⟩
    rw [Nat.add_zero, lp_s]
    generalize lp (fun _ _ _ _ => none) (fJ7_fill_fda19__403_b10 fz) N = kk
    unfold fJ7_fill_fda19__403_b10
    rw [if_pos (Int32.le_refl _)]
  | succ k ih =>
    intro N st hk h
    have e1 : 11 - k = (11 - (k + 1)) + 1 := by omega
    have hi : 11 - (k + 1) < 11 := by omega
    generalize 11 - (k + 1) = i at e1 hi h ⊢
    obtain ⟨st', j1, j2, j3⟩ := ih N (sA st 403 (upd (st.2.2.1 403) (11 * n + i) 0)) (by omega) (by
      intro q hq
      show upd (st.2.2.1 403) _ _ _ = _
      rw [upd_v]
      by_cases e : q = i
      · rw [if_pos (by omega)]
      · rw [if_neg (by omega)]; exact h q (by omega))
    refine ⟨st', ?_, (fr.sA (by decide)).tr j2, j3⟩
    rw [← j1, ← Nat.add_assoc, lp_s]
    generalize lp (fun _ _ _ _ => none) (fJ7_fill_fda19__403_b10 fz) (N + 1 + k) = kk
    unfold fJ7_fill_fda19__403_b10
    rw [if_leF (by omega) (by omega), gi_N (show 11 * n + i < 99 by omega) (by decide), oN_tn (by omega), lt_v, lt_v, oN_s, e1, Nat.add_assoc]
theorem m_fz {n : Nat} {v1 v2 : Int32} (hn : n ≤ 8) : ∀ (k N : Nat) (st : St), k ≤ 11 → (∀ v, v < 11 - k → st.2.2.1 42 (11 * n + v) = 0) → ∃ st', lp (fun _ _ _ _ _ => none) fX12_career_b42 (N + 1 + k) v1 v2 (Int32.ofNat n) (Int32.ofNat (11 - k)) st = lp (fun _ _ _ _ => none) fX12_career_b73 6000 v1 v2 (Int32.ofNat n - 1) st' ∧ fr [] [] [42] st st' ∧ ∀ v, v < 11 → st'.2.2.1 42 (11 * n + v) = 0 := by
  intro k
  induction k with
  | zero =>
    intro N st _ h
    refine ⟨st, ?_, fr.rf, h⟩
    rw [Nat.add_zero, lp_s]
    generalize lp (fun _ _ _ _ _ => none) fX12_career_b42 N = kk
    conv => lhs; unfold fX12_career_b42
    rw [if_pos (show (11 : Int32) ≤ Int32.ofNat (11 - 0) by decide), lt_v]
  | succ k ih =>
    intro N st hk h
    have e1 : 11 - k = (11 - (k + 1)) + 1 := by omega
    have hi : 11 - (k + 1) < 11 := by omega
    generalize 11 - (k + 1) = i at e1 hi h ⊢
    obtain ⟨st', j1, j2, j3⟩ := ih N (sA st 42 (upd (st.2.2.1 42) (11 * n + i) 0)) (by omega) (by
      intro q hq
      show upd (st.2.2.1 42) _ _ _ = _
      rw [upd_v]
      by_cases e : q = i
      · rw [if_pos (by omega)]
      · rw [if_neg (by omega)]; exact h q (by omega))
    refine ⟨st', ?_, (fr.sA (by decide)).tr j2, j3⟩
    have i2 : (11 : Int32) * Int32.ofNat n + Int32.ofNat i = Int32.ofNat (11 * n + i) := by rw [show (11 : Int32) = Int32.ofNat 11 from rfl, oN_mul, oN_add]
    rw [← j1, ← Nat.add_assoc, lp_s]
    generalize lp (fun _ _ _ _ _ => none) fX12_career_b42 (N + 1 + k) = kk
    conv => lhs; unfold fX12_career_b42
    rw [if_neg (show ¬ ((11 : Int32) ≤ Int32.ofNat i) from fun q => by have := (oN_le (a := 11) (by decide) (by omega)).mp q; omega), i2, gi_N (show 11 * n + i < 99 by omega) (by decide), oN_tn (by omega), lt_v, lt_v, oN_s, e1]
theorem career_call {c m : St} (a b : Int32) (h : RR fz c m) : Cl fz c m (fX11_career a b fz c) (fX12_career a b m) := by
  obtain ⟨⟨g1, n, hn, en⟩, g2⟩ := h.2.2.2.2.1
  have q404 : c.1 404 = Int32.ofNat n := g1.trans en
  have H : Cq (m.2.2.1 3) n c (sI m 0 0) := ⟨rfl, hn, en, q404, fun i hi => ⟨(g2 i hi).1.1, (g2 i hi).2.1.1, (g2 i hi).2.2.1⟩⟩
  have e1 : (sI m 0 0).2.2.1 3 (1 : Int32).toNatClampNeg = Int32.ofNat n := en
  unfold fX11_career fX12_career fX11_career_b30 fX12_career_b35 fX11_career_b58
  rw [lt_v (sI m 0 0), lt_v, e1, q404, c_within, bs_v, c_within, bs_v, m_in32 a 0 10 0 10 rfl rfl, bs_v, m_in32 b 0 (Int32.ofNat n) 0 _ rfl rfl, bs_v]
  by_cases ha : ¬ ((0 : Int32) ≤ a ∧ a ≤ 10)
  · rw [if_neg ha, if_pos rfl, if_pos rfl]; exact Cl.of h
  replace ha := Decidable.of_not_not ha
  rw [if_pos ha, if_neg one_ne0, if_neg one_ne0]
  by_cases hb : ¬ ((0 : Int32) ≤ b ∧ b ≤ Int32.ofNat n)
  · rw [if_neg hb, if_pos rfl, if_pos rfl]; exact Cl.of h
  replace hb := Decidable.of_not_not hb
  rw [if_pos hb, if_neg one_ne0, if_neg one_ne0]
  obtain ⟨v, hv, ev⟩ := oN_exb (b := 10) ha.1 (by decide) ha.2
  obtain ⟨w, hw, ew⟩ := oN_exb hb.1 (by omega) hb.2
  subst ev
  subst ew
  obtain ⟨c1, u1, u2, u3⟩ := c_fz (fz := fz) hn 11 5988 c (Nat.le_refl _) (fun _ hh => absurd hh (by omega))
  obtain ⟨m1, w1, w2, w3⟩ := m_fz (v1 := Int32.ofNat v) (v2 := Int32.ofNat w) hn 11 5988 (sI m 0 0) (Nat.le_refl _) (fun _ hh => absurd hh (by omega))
  obtain ⟨c2, m2, a1, a2, a3, a4, a5⟩ := solve_o (fz := fz) (v1 := Int32.ofNat v) (v2 := Int32.ofNat w) n (5999 - n) c1 m1 (Nat.le_refl _) (H.f u2 w2) (by
    intro k hk1 hk2 q hq
    have e : k = n := by omega
    rw [e, Nat.sub_self]
    exact ⟨u3 q hq, w3 q hq⟩)
  rw [show 5999 - n + 1 + n = 6000 by omega] at a1 a2
  have i1 : Int32.ofNat n * (11 : Int32) = Int32.ofNat (11 * n) := by rw [show (11 : Int32) = Int32.ofNat 11 from rfl, oN_mul, Nat.mul_comm]
  have i2 : (Int32.ofNat n + 1) * (11 : Int32) = Int32.ofNat (11 * n + 11) := by rw [oN_s, show (11 : Int32) = Int32.ofNat 11 from rfl, oN_mul]; congr 1; omega
  have u1' : lp (fun _ _ _ _ => none) (fJ7_fill_fda19__403_b10 fz) 6000 (Int32.ofNat (11 * n + 11)) 0 (Int32.ofNat (11 * n)) c = some ((), c1) := u1
  have k404 : c1.1 404 = Int32.ofNat n := (u2.1 404 (by decide)).trans q404
  have hc : fX1_solve fz c = some ((), c2) := by
    unfold fX1_solve fJ7_fill_fda19__403 fJ7_rangeCheck_23922
    rw [q404, i1, i2, if_leT (by omega) (by omega), if_pos (oN_nn (by omega)), if_pos (show Int32.ofNat (11 * n + 11) ≤ 99 from (oN_le (b := 99) (by omega) (by decide)).mpr (by omega)), bs_v, u1', bd_v, k404, lt_v]
    exact a1
  have hm : lp (fun _ _ _ _ _ => none) fX12_career_b42 6000 (Int32.ofNat v) (Int32.ofNat w) (Int32.ofNat n) 0 (sI m 0 0) = lp (fun _ _ _ _ _ _ => none) fX12_career_b160 6000 (Int32.ofNat v) (Int32.ofNat w) (Int32.ofNat v) 0 0 m2 := w1.trans a2
  rw [hc, bd_v, hm]
  have R1 := h.a (((u2.tr a4)).ca (by decide) (by decide)) (m' := m2) (((fr.sI (I := [0]) (J := []) (A := [42]) (by decide)).tr ((w2.tr a5).up (by decide) (by decide) (by decide))).ma (by decide) (by decide))
  have H2 : Cq (m.2.2.1 3) n c2 m2 := (H.f u2 w2).f a4 a5
  by_cases w0 : w = 0
  · subst w0
    rw [if_pos (show Int32.ofNat 0 = 0 from rfl), gi_N (show v < 99 by omega) (by decide), oN_tn (by omega)]
    have hm2 : lp (fun _ _ _ _ _ _ => none) fX12_career_b160 6000 (Int32.ofNat v) (Int32.ofNat 0) (Int32.ofNat v) 0 0 m2 = some (m2.2.2.1 42 v, m2) := by
      rw [show (6000 : Nat) = 5999 + 1 from rfl, lp_s]
      generalize lp (fun _ _ _ _ _ _ => none) fX12_career_b160 5999 = kk
      unfold fX12_career_b160 fX12_career_b240
      rw [if_pos (show Int32.ofNat 0 ≤ 0 by decide), if_pos (show Int32.ofNat 0 = 0 from rfl), gi_N (show v < 99 by omega) (by decide), oN_tn (by omega)]
    obtain ⟨z1, z2⟩ := a3 0 (Nat.zero_le _) v (by omega)
    rw [Nat.mul_zero, Nat.zero_add] at z1 z2
    rw [hm2, z1, z2]
    exact ⟨_, c2, m2, rfl, rfl, R1.1, R1.2⟩
  · have ew1 : Int32.ofNat w - 1 = Int32.ofNat (w - 1) := by rw [show (1 : Int32) = Int32.ofNat 1 from rfl, oN_sub (by omega)]
    rw [if_neg (show ¬ (Int32.ofNat w = 0) from fun z => by have := (oN_eq (b := 0) (by omega) (by omega)).mp z; omega), ew1]
    obtain ⟨x, y1, y2⟩ := choice_l (fz := fz) (v1 := Int32.ofNat v) H2 hw (by omega) a3 w (5999 - w) v 0 (Nat.le_refl _) (by omega)
    rw [show 5999 - w + 1 + w = 6000 by omega, Nat.sub_self] at y1 y2
    have y1' : fX1_choiceAt (Int32.ofNat v) (Int32.ofNat (w - 1)) fz c2 = some (x, c2) := y1
    have y2' : lp (fun _ _ _ _ _ _ => none) fX12_career_b160 6000 (Int32.ofNat v) (Int32.ofNat w) (Int32.ofNat v) 0 0 m2 = some (x, m2) := y2
    rw [y1', bd_v, y2']
    exact ⟨x, c2, m2, rfl, rfl, R1.1, R1.2⟩
end Career
