/-! T2, calls that write the land: sign -/
theorem sign_ok {fz : List FP} {c m : St} {s kd : Nat} {v : Int32} (h : Rq fz c m) (hs : Rs c m) (hsn : s < 6) (hkd : kd < 3) (hvb : nb (if kd * 6 + s < 12 then 10 else 99) v) : Ok fz c m (bd (fX2_close fz (sA c 104 (upd (c.2.2.1 104) (kd * 6 + s) v))) (fun _ st10 => bd (fX11_settle (c.2.2.1 104 (kd * 6 + s)) fz st10) (fun r11 st12 => some (r11, st12)))) (some (m.2.2.1 3 (37 + (kd * 6 + s)), sI (sA (sI (sI m 0 0) 8 0) 3 (upd (m.2.2.1 3) (37 + (kd * 6 + s)) v)) 1 0)) := by
  obtain ⟨q1, n, hn, en⟩ := h.1.2.2.2.2.2.2.2.2.2.1 (kd * 6 + s) (by omega)
  have q104 : c.2.2.1 104 (kd * 6 + s) = m.2.2.1 3 (37 + (kd * 6 + s)) := q1
  have hn9 : n ≤ 99 := by
    by_cases q : kd * 6 + s < 12
    · rw [if_pos q] at hn; omega
    · rw [if_neg q] at hn; exact hn
  have hnn : (0 : Int32) ≤ m.2.2.1 3 (37 + (kd * 6 + s)) := by rw [en]; exact oN_nn (by omega)
  rw [c_close, bd_v, q104, settle_nn hnn, bd_v]
  have hu : ∀ k, k ≠ 37 + (kd * 6 + s) → upd (m.2.2.1 3) (37 + (kd * 6 + s)) v k = m.2.2.1 3 k := fun k hk => by rw [upd_v, if_neg hk]
  refine ⟨_, _, _, rfl, rfl, ⟨?_, ?_, h.2.2⟩, ⟨rfl, hs.2⟩, ?_, ?_, ?_, Or.inr ⟨rfl, rfl⟩⟩
  · exact Rl.u104 h.1 (show kd * 6 + s < 18 by omega) hvb
  · exact Rw.u h.2.1 (by omega) rfl rfl rfl
  · exact ((fr.sA (by decide)).tr (fr.sI (by decide))).tr (fr.sI (by decide))
  · exact (((fr.sI (by decide)).tr (fr.sI (by decide))).tr (fr.sA (by decide))).tr (fr.sI (by decide))
  · intro k hk
    exact hu k (by omega)
theorem sign_call {fz : List FP} {c m : St} (a b v : Int32) (h : Rq fz c m) (hs : Rs c m) : Ok fz c m (fX11_sign a b v fz c) (fX12_sign a b v m) := by
  have href := ok_refuse (n := 1) h hs (by decide) (by decide)
  have ec : fX11_sign a b v fz c = fX11_sign_b12 fz a b v (if b = 2 then 99 else 10) c := by
    unfold fX11_sign
    by_cases q : b = 2
    · rw [if_pos q, if_pos q]
    · rw [if_neg q, if_neg q]
  have em : ∀ X, (if b = (2 : Int32) then fX12_sign_b41 a b v 99 0 v.toInt64 X else fX12_sign_b41 a b v 10 0 v.toInt64 X) = if (0 : Int32) ≤ v ∧ v ≤ (if b = 2 then 99 else 10) then (if b = 0 then (fX12_sign_b80 a v (37 : Int32) (sI X 8 0)) else (if b = (1 : Int32) then (fX12_sign_b80 a v (43 : Int32) (sI X 8 0)) else (fX12_sign_b80 a v (49 : Int32) (sI X 8 0)))) else fX12_sign_b47 X := by
    intro X
    have h41 : ∀ (w : Int32) (w2 : Int64), w2 = w.toInt64 → fX12_sign_b41 a b v w2 0 v.toInt64 X = if (0 : Int32) ≤ v ∧ v ≤ w then (if b = 0 then (fX12_sign_b80 a v (37 : Int32) (sI X 8 0)) else (if b = (1 : Int32) then (fX12_sign_b80 a v (43 : Int32) (sI X 8 0)) else (fX12_sign_b80 a v (49 : Int32) (sI X 8 0)))) else fX12_sign_b47 X := by
      intro w w2 hw
      unfold fX12_sign_b41
      rw [m_in32 v 0 w 0 w2 rfl hw, bs_v]
      by_cases q : (0 : Int32) ≤ v ∧ v ≤ w
      · rw [if_pos q, if_neg one_ne0, if_pos q, lt_v]
      · rw [if_neg q, if_pos rfl, if_neg q]
    by_cases q : b = 2
    · rw [if_pos q, if_pos q, h41 99 99 rfl]
    · rw [if_neg q, if_neg q, h41 10 10 rfl]
  rw [ec]
  unfold fX12_sign fX11_sign_b12 fX12_isOne
  rw [lt_v (sI m 0 0), c_within, bs_v, m_in32 a 0 5 0 5 rfl rfl, bs_v, gb_ite, bs_v]
  by_cases ha : ¬ ((0 : Int32) ≤ a ∧ a ≤ 5)
  · rw [if_neg ha, if_pos rfl, if_pos rfl]; exact href
  replace ha := Decidable.of_not_not ha
  rw [if_pos ha, if_neg one_ne0, if_neg one_ne0, c_within, bs_v, m_in32 b 0 2 0 2 rfl rfl, bs_v]
  by_cases hb : ¬ ((0 : Int32) ≤ b ∧ b ≤ 2)
  · rw [if_neg hb, if_pos rfl, if_pos rfl]; exact href
  replace hb := Decidable.of_not_not hb
  rw [if_pos hb, if_neg one_ne0, if_neg one_ne0, c_within, bs_v, em]
  by_cases hv : ¬ ((0 : Int32) ≤ v ∧ v ≤ (if b = 2 then 99 else 10))
  · rw [if_neg hv, if_pos rfl, if_neg hv]; exact href
  replace hv := Decidable.of_not_not hv
  rw [if_pos hv, if_neg one_ne0, if_pos hv]
  obtain ⟨s, hsn, es⟩ := oN_exb (b := 5) ha.1 (by decide) ha.2
  obtain ⟨kd, hkd, ek⟩ := oN_exb (b := 2) hb.1 (by decide) hb.2
  subst es
  have i1 : Int32.ofNat kd * (6 : Int32) + Int32.ofNat s = Int32.ofNat (kd * 6 + s) := by rw [show (6 : Int32) = Int32.ofNat 6 from rfl, oN_mul, oN_add]
  have h80 : ∀ B : Nat, B + s < 5550 → fX12_sign_b80 (Int32.ofNat s) v (Int32.ofNat B) (sI (sI m 0 0) 8 0) = some (m.2.2.1 3 (B + s), sI (sA (sI (sI m 0 0) 8 0) 3 (upd (m.2.2.1 3) (B + s) v)) 1 0) := by
    intro B hB
    unfold fX12_sign_b80
    rw [oN_add, m_change hB, bd_v]
    rfl
  have hvb : nb (if kd * 6 + s < 12 then 10 else 99) v := by
    by_cases q : b = 2
    · rw [if_pos q] at hv
      have : kd = 2 := by rw [ek] at q; exact (oN_eq (b := 2) (by omega) (by decide)).mp q
      rw [if_neg (by omega)]
      exact oN_exb (b := 99) hv.1 (by decide) hv.2
    · rw [if_neg q] at hv
      have : kd ≠ 2 := fun e => q (by rw [ek, e]; rfl)
      rw [if_pos (by omega)]
      exact oN_exb (b := 10) hv.1 (by decide) hv.2
  have hok := sign_ok (s := s) (kd := kd) h hs (by omega) (by omega) hvb
  subst ek
  rw [lt_v, i1, gi_N (by omega) (by decide), lt_v, gi_N (by omega) (by decide), lt_v, oN_tn (by omega)]
  have hk3 : kd = 0 ∨ kd = 1 ∨ kd = 2 := by omega
  rcases hk3 with e | e | e <;> subst e
  · rw [if_pos (show Int32.ofNat 0 = 0 from rfl), show (37 : Int32) = Int32.ofNat 37 from rfl, h80 37 (by omega)]
    rw [show 37 + (0 * 6 + s) = 37 + s by omega] at hok
    exact hok
  · rw [if_neg (show ¬ (Int32.ofNat 1 = 0) by decide), if_pos (show Int32.ofNat 1 = 1 from rfl), show (43 : Int32) = Int32.ofNat 43 from rfl, h80 43 (by omega)]
    rw [show 37 + (1 * 6 + s) = 43 + s by omega] at hok
    exact hok
  · rw [if_neg (show ¬ (Int32.ofNat 2 = 0) by decide), if_neg (show ¬ (Int32.ofNat 2 = 1) by decide), show (49 : Int32) = Int32.ofNat 49 from rfl, h80 49 (by omega)]
    rw [show 37 + (2 * 6 + s) = 49 + s by omega] at hok
    exact hok
