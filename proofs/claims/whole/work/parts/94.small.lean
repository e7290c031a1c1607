/-! T2, small calls -/
section Small
variable {fz : List FP} {c m : St}
theorem RR.z (h : RR fz c m) : RR fz c (sI m 0 0) := h
theorem Cl.of {α : Type} {v : α} (h : RR fz c m) : Cl fz c m (some (v, c)) (some (v, sI m 0 0)) := ⟨v, c, sI m 0 0, rfl, rfl, h, rfl, rfl, rfl⟩
theorem status_call (h : RR fz c m) : Cl fz c m (fX11_status fz c) (fX12_status m) := by
  unfold fX11_status fX12_status
  rw [lt_v, h.2.1.1]
  exact Cl.of h
theorem brooms_call (h : RR fz c m) : Cl fz c m (fX11_brooms fz c) (fX12_brooms m) := by
  unfold fX11_brooms fX12_brooms
  rw [lt_v, h.2.2.2.2.2.2.2.1.1]
  exact Cl.of h
theorem fault_call (h : RR fz c m) : Cl fz c m (fX11_fault fz c) (fX12_fault m) := by
  unfold fX11_fault fX12_fault
  rw [lt_v, h.2.2.2.2.2.2.2.1.2.1]
  exact Cl.of h
theorem stopped_call (h : RR fz c m) : Cl fz c m (fX11_stopped fz c) (fX12_stopped m) := by
  unfold fX11_stopped fX12_stopped
  rw [lt_v, h.2.2.2.2.2.2.2.1.2.2]
  exact Cl.of h
theorem cl_refuse {n : Nat} (h : RR fz c m) (h1 : 1 ≤ n) (h6 : n ≤ 6) : Cl fz c m (bd (fX11_refuse (-(Int32.ofNat n)) fz c) (fun r st => some (r, st))) (bd (fX12_tell (-(Int32.ofNat n)) (sI m 0 0)) (fun r st => some (r, st))) := Cl.ok h (ok_refuse h.1 h.2.1 h1 h6)
theorem bd_id {ρ σ : Type} {x : Option (ρ × σ)} : bd x (fun r st => some (r, st)) = x := by
  cases x with
  | none => rfl
  | some p => obtain ⟨a, b⟩ := p; rfl
theorem settle_neg {n : Nat} (h1 : 1 ≤ n) (h6 : n ≤ 6) : fX11_settle (-(Int32.ofNat n)) fz c = fX11_refuse (-(Int32.ofNat n)) fz c := by
  have hneg : ¬ ((0 : Int32) ≤ -(Int32.ofNat n)) := by
    have : n = 1 ∨ n = 2 ∨ n = 3 ∨ n = 4 ∨ n = 5 ∨ n = 6 := by omega
    rcases this with e | e | e | e | e | e <;> subst e <;> decide
  unfold fX11_settle
  rw [if_neg hneg, bd_id]
/-- a call that writes what hills, sieges and counts keep -/
theorem Cl.h {x y : Option (Int32 × St)} {v : Int32} {c' m' : St} (h : RR fz c m) (e1 : x = some (v, c')) (e2 : y = some (v, m')) (f : fr [9, 305, 306, 404] [] [8, 300, 301, 302, 303, 400, 401, 402] c c') (g : fr [0, 1] [] [2, 3] m m') (e : ∀ k, k = 0 ∨ (4 ≤ k ∧ k < 91) ∨ 150 ≤ k → m'.2.2.1 3 k = m.2.2.1 3 k) (hs : Rs c' m') (hh : Rh 0 c' (m'.2.2.1 3)) (hc : Rc 0 c' (m'.2.2.1 3)) : Cl fz c m x y := by
  obtain ⟨⟨h1, h2, h3⟩, -, h5, -, -, h8, h9, h10, h11⟩ := h
  have fi : ∀ {l : List Nat}, (∀ x, x ∈ l → x ∉ [9, 305, 306, 404]) → ∀ x, x ∈ l → c'.1 x = c.1 x := fun s x hx => f.1 x (s x hx)
  have fa : ∀ {l : List Nat}, (∀ x, x ∈ l → x ∉ [8, 300, 301, 302, 303, 400, 401, 402]) → ∀ x, x ∈ l → c'.2.2.1 x = c.2.2.1 x := fun s x hx => f.2.2.1 x (s x hx)
  have gi1 : ∀ {l : List Nat}, (∀ x, x ∈ l → x ∉ [0, 1]) → ∀ x, x ∈ l → m'.1 x = m.1 x := fun s x hx => g.1 x (s x hx)
  refine ⟨v, c', m', e1, e2, ⟨⟨?_, ?_, ?_⟩, hs, ?_, hh, hc, ?_, ?_, ?_, ?_⟩, by rw [f.2.2.2], g.2.2.1 4 (by decide), g.2.2.1 5 (by decide)⟩
  · exact h1.a (fi (by decide)) (fa (by decide)) (fun k hk => e k (by omega))
  · exact h2.a (fi (by decide)) (by rw [f.2.2.2]) (fun k hk => e k (by omega))
  · rw [g.1 20 (by decide)]; exact h3
  · exact h5.a (f.1 504 (by decide)) (f.2.2.1 500 (by decide)) (g.1 13 (by decide)) (g.2.2.1 12 (by decide))
  · obtain ⟨n, q1, q2, q3, q4⟩ := h8
    have e6 : m'.2.2.1 6 = m.2.2.1 6 := g.2.2.1 6 (by decide)
    have se : ∀ j i, i < 25 → sn m' n j i = sn m n j i := by
      intro j i hi
      unfold sn
      rw [e (6 + i) (by omega), e6]
    refine ⟨n, q1, by rw [f.1 905 (by decide)]; exact q2, by rw [g.1 8 (by decide)]; exact q3, fun j hj => ?_⟩
    obtain ⟨⟨F, f1, f2, f3, f4⟩, q5, q6⟩ := q4 j hj
    rw [f.2.2.1 902 (by decide), g.2.2.1 7 (by decide)]
    refine ⟨⟨F, f1, by rw [e 0 (by omega)]; exact f2, f3, fun i hi => ?_⟩, q5, fun i hi => ?_⟩
    · rw [se j i hi, e (31 + F) (by omega), pt_e (se (j + 1) i hi)]; exact f4 i hi
    · rw [se j i hi]; exact q6 i hi
  · exact h9.a (f.1 1104 (by decide)) (fa (by decide)) (g.1 52 (by decide)) (g.2.2.1 51 (by decide))
  · exact h10.a (fi (by decide)) (gi1 (by decide))
  · exact h11.a (fun k _ => by rw [g.2.2.2])
theorem needs_call (a v : Int32) (h : RR fz c m) : Cl fz c m (fX11_needs a v fz c) (fX12_needs a v m) := by
  have href := cl_refuse (n := 1) h (by decide) (by decide)
  unfold fX11_needs fX12_needs fX11_needs_b19 fX12_needs_b41 fX12_needs_b46
  rw [lt_v (sI m 0 0), c_within, bs_v, c_within, bs_v, m_in32 a 0 5 0 5 rfl rfl, bs_v, m_in32 v 0 9 0 9 rfl rfl, bs_v]
  by_cases ha : ¬ ((0 : Int32) ≤ a ∧ a ≤ 5)
  · rw [if_neg ha, if_pos rfl, if_pos rfl]; exact href
  replace ha := Decidable.of_not_not ha
  rw [if_pos ha, if_neg one_ne0, if_neg one_ne0]
  by_cases hv : ¬ ((0 : Int32) ≤ v ∧ v ≤ 9)
  · rw [if_neg hv, if_pos rfl, if_pos rfl]; exact href
  replace hv := Decidable.of_not_not hv
  rw [if_pos hv, if_neg one_ne0, if_neg one_ne0]
  obtain ⟨i, hi, ei⟩ := oN_exb (b := 5) ha.1 (by decide) ha.2
  have hvb : nb 9 v := oN_exb (b := 9) hv.1 (by decide) hv.2
  subst ei
  obtain ⟨g1, g2, g3, g4, g5⟩ := h.2.2.2.1
  obtain ⟨q1, n, hn, en⟩ := g3 i (by omega)
  have q301 : c.2.2.1 301 i = m.2.2.1 3 (101 + i) := q1
  have e1 : (101 : Int32) + Int32.ofNat i = Int32.ofNat (101 + i) := oN_add 101 i
  have hnn : (0 : Int32) ≤ m.2.2.1 3 (101 + i) := by rw [en]; exact oN_nn (by omega)
  have hold : (sI m 0 0).2.2.1 3 (101 + i) = m.2.2.1 3 (101 + i) := rfl
  simp only [lt_v, bd_v, e1, gi_N (show i < 6 by omega) (show 6 < 2147483648 by decide), oN_tn (show i < 2147483648 by omega), q301, settle_nn hnn, m_change (show 101 + i < 5550 by omega), hold]
  have hu : ∀ k, k ≠ 101 + i → upd (m.2.2.1 3) (101 + i) v k = m.2.2.1 3 k := fun k hk => by rw [upd_v, if_neg hk]
  refine Cl.h h rfl rfl ((fr.sA (by decide)).tr (fr.sI (by decide))) (((fr.sI (by decide)).tr (fr.sA (by decide))).tr (fr.sI (by decide))) (fun k hk => hu k (by omega)) ⟨rfl, h.2.1.2⟩ ?_ (h.2.2.2.2.1.a rfl (fun k hk => ?_) (fun k hk => hu k (by omega)))
  · obtain ⟨n1, p1, p2, p3, p4⟩ := g1
    refine ⟨⟨n1, p1, (hu 2 (by omega)).trans p2, p3, fun q hq => ?_⟩, (by show c.1 306 = upd (m.2.2.1 3) (101 + i) v 3 ∧ nb 8 (upd (m.2.2.1 3) (101 + i) v 3); rw [hu 3 (by omega)]; exact g2), fun j hj => ?_, fun j hj => ?_, fun j hj => ?_⟩
    · show c.2.2.1 300 q = Int32.ofNat (sb (upd (m.2.2.1 3) (101 + i) v) q n1)
      rw [sb_e n1 (fun k hk => hu _ (by omega))]; exact p4 q hq
    · show upd (c.2.2.1 301) i v j = upd (m.2.2.1 3) (101 + i) v (101 + j) ∧ nb 9 (upd (m.2.2.1 3) (101 + i) v (101 + j))
      by_cases q : j = i
      · subst q
        rw [upd_v, upd_v, if_pos rfl, if_pos rfl]; exact ⟨rfl, hvb⟩
      · rw [upd_v, if_neg q, hu _ (by omega)]; exact g3 j hj
    · show (c.2.2.1 302 j = upd (m.2.2.1 3) (101 + i) v (107 + 2 * j) ∧ nb 5 (upd (m.2.2.1 3) (101 + i) v (107 + 2 * j))) ∧ (c.2.2.1 303 j = upd (m.2.2.1 3) (101 + i) v (108 + 2 * j) ∧ nb 9 (upd (m.2.2.1 3) (101 + i) v (108 + 2 * j)))
      rw [hu _ (by omega), hu _ (by omega)]; exact g4 j hj
    · show nb 63 (upd (m.2.2.1 3) (101 + i) v (91 + j))
      rw [hu _ (by omega)]; exact g5 j hj
  · show va_up c.2.2.1 301 _ k = _
    rw [vup_v, if_neg (fun e => by rw [e] at hk; exact absurd hk (by decide))]
theorem siege_call (a b v : Int32) (h : RR fz c m) : Cl fz c m (fX11_siege a b v fz c) (fX12_siege a b v m) := by
  have href := cl_refuse (n := 1) h (by decide) (by decide)
  have href5 := cl_refuse (n := 5) h (by decide) (by decide)
  unfold fX11_siege fX12_siege fX11_siege_b31 fX12_siege_b41
  rw [lt_v (sI m 0 0), c_within, bs_v, c_within, bs_v, c_within, bs_v, m_in32 a 0 99 0 99 rfl rfl, bs_v, m_in32 b 0 10 0 10 rfl rfl, bs_v, m_in32 v 0 999 0 999 rfl rfl, bs_v]
  by_cases ha : ¬ ((0 : Int32) ≤ a ∧ a ≤ 99)
  · rw [if_neg ha, if_pos rfl, if_pos rfl]; exact href
  replace ha := Decidable.of_not_not ha
  rw [if_pos ha, if_neg one_ne0, if_neg one_ne0]
  by_cases hb : ¬ ((0 : Int32) ≤ b ∧ b ≤ 10)
  · rw [if_neg hb, if_pos rfl, if_pos rfl]; exact href
  replace hb := Decidable.of_not_not hb
  rw [if_pos hb, if_neg one_ne0, if_neg one_ne0]
  by_cases hv : ¬ ((0 : Int32) ≤ v ∧ v ≤ 999)
  · rw [if_neg hv, if_pos rfl, if_pos rfl]; exact href
  replace hv := Decidable.of_not_not hv
  rw [if_pos hv, if_neg one_ne0, if_neg one_ne0]
  have hab : nb 99 a := oN_exb (b := 99) ha.1 (by decide) ha.2
  have hbb : nb 10 b := oN_exb (b := 10) hb.1 (by decide) hb.2
  have hvb : nb 999 v := oN_exb (b := 999) hv.1 (by decide) hv.2
  obtain ⟨⟨g1, n, hn, en⟩, g2⟩ := h.2.2.2.2.1
  have q404 : c.1 404 = Int32.ofNat n := g1.trans en
  have e1 : (sI m 0 0).2.2.1 3 (1 : Int32).toNatClampNeg = Int32.ofNat n := en
  rw [lt_v, e1]
  unfold fX1_add
  rw [q404]
  by_cases h8 : n = 8
  · subst h8
    rw [if_pos (show Int32.ofNat 8 = 8 from rfl), if_neg (show ¬ (Int32.ofNat 8 < 8) by decide), bd_v, show (-5 : Int32) = -(Int32.ofNat 5) from rfl, settle_neg (by decide) (by decide)]
    exact href5
  · have i1 : (123 : Int32) + (3 : Int32) * Int32.ofNat n = Int32.ofNat (123 + 3 * n) := by rw [show (3 : Int32) = Int32.ofNat 3 from rfl, oN_mul, show (123 : Int32) = Int32.ofNat 123 from rfl, oN_add]
    have i2 : Int32.ofNat (123 + 3 * n) + (1 : Int32) = Int32.ofNat (124 + 3 * n) := by rw [oN_s]; congr 1; omega
    have i3 : Int32.ofNat (123 + 3 * n) + (2 : Int32) = Int32.ofNat (125 + 3 * n) := by rw [show (2 : Int32) = Int32.ofNat 2 from rfl, oN_add]; congr 1; omega
    have i4 : Int32.ofNat (n + 1) - (1 : Int32) = Int32.ofNat n := by rw [show (1 : Int32) = Int32.ofNat 1 from rfl, oN_sub (by omega)]; rfl
    have t1 : ∀ (st : St) k x, (sI st k x).1 k = x := fun st k x => by rw [sI_1, if_pos rfl]
    have t3 : ∀ (st : St) k x, (sA st k x).2.2.1 k = x := fun st k x => by rw [sA_3, if_pos rfl]
    have t30 : (sI m 0 0).2.2.1 3 = m.2.2.1 3 := rfl
    have o1 : (1 : Int32).toNatClampNeg = 1 := rfl
    have u1 : ∀ (f : Nat → Int32) k x, 123 ≤ k → upd f k x 1 = f 1 := fun f k x hk => by rw [upd_v, if_neg (by omega)]
    rw [if_pos (show Int32.ofNat n < 8 from (oN_lt (b := 8) (by omega) (by decide)).mpr (by omega)), if_neg (show ¬ (Int32.ofNat n = 8) from fun q => h8 ((oN_eq (b := 8) (by omega) (by decide)).mp q))]
    simp only [o1, lt_v, bd_v, sA_1, q404, i1, i2, i3, gi_N (show n < 8 by omega) (show 8 < 2147483648 by decide), gi_N (show 123 + 3 * n < 5550 by omega) (show 5550 < 2147483648 by decide), gi_N (show 124 + 3 * n < 5550 by omega) (show 5550 < 2147483648 by decide), gi_N (show 125 + 3 * n < 5550 by omega) (show 5550 < 2147483648 by decide), oN_tn (show n < 2147483648 by omega), oN_tn (show 123 + 3 * n < 2147483648 by omega), oN_tn (show 124 + 3 * n < 2147483648 by omega), oN_tn (show 125 + 3 * n < 2147483648 by omega), t1, t3, t30, oN_s, i4, settle_nn (oN_nn (show n < 2147483648 by omega)), tell_nn (oN_nn (show n < 2147483648 by omega)), u1 _ _ _ (show 123 ≤ 123 + 3 * n by omega), u1 _ _ _ (show 123 ≤ 124 + 3 * n by omega), u1 _ _ _ (show 123 ≤ 125 + 3 * n by omega), en]
    refine Cl.h h rfl rfl (((((fr.sA (by decide)).tr (fr.sA (by decide))).tr (fr.sA (by decide))).tr (fr.sI (by decide))).tr (fr.sI (by decide))) ((((((fr.sI (by decide)).tr (fr.sA (by decide))).tr (fr.sA (by decide))).tr (fr.sA (by decide))).tr (fr.sA (by decide))).tr (fr.sI (by decide))) ?_ ⟨rfl, h.2.1.2⟩ ?_ ?_
    · intro k hk
      show upd (upd (upd (upd (m.2.2.1 3) _ _) _ _) _ _) 1 _ k = _
      rw [upd_v, if_neg (by omega), upd_v, if_neg (by omega), upd_v, if_neg (by omega), upd_v, if_neg (by omega)]
    · refine h.2.2.2.1.a (fun k hk => ?_) (fun k hk => ?_) (fun k hk => ?_)
      · show va_up (va_up c.1 404 _) 9 _ k = _
        rw [vup_v, if_neg (fun e => by rw [e] at hk; exact absurd hk (by decide)), vup_v, if_neg (fun e => by rw [e] at hk; exact absurd hk (by decide))]
      · show va_up (va_up (va_up c.2.2.1 400 _) 401 _) 402 _ k = _
        rw [vup_v, if_neg (fun e => by rw [e] at hk; exact absurd hk (by decide)), vup_v, if_neg (fun e => by rw [e] at hk; exact absurd hk (by decide)), vup_v, if_neg (fun e => by rw [e] at hk; exact absurd hk (by decide))]
      · show upd (upd (upd (upd (m.2.2.1 3) _ _) _ _) _ _) 1 _ k = _
        rw [upd_v, if_neg (by omega), upd_v, if_neg (by omega), upd_v, if_neg (by omega), upd_v, if_neg (by omega)]
    · refine ⟨⟨?_, n + 1, by omega, ?_⟩, fun i hi => ?_⟩
      · rfl
      · rfl
      · show (upd (c.2.2.1 400) n a i = upd (upd (upd (upd (m.2.2.1 3) (123 + 3 * n) a) (124 + 3 * n) b) (125 + 3 * n) v) 1 _ (123 + 3 * i) ∧ nb 99 (upd (upd (upd (upd (m.2.2.1 3) (123 + 3 * n) a) (124 + 3 * n) b) (125 + 3 * n) v) 1 _ (123 + 3 * i))) ∧ (upd (c.2.2.1 401) n b i = upd (upd (upd (upd (m.2.2.1 3) (123 + 3 * n) a) (124 + 3 * n) b) (125 + 3 * n) v) 1 _ (124 + 3 * i) ∧ nb 10 (upd (upd (upd (upd (m.2.2.1 3) (123 + 3 * n) a) (124 + 3 * n) b) (125 + 3 * n) v) 1 _ (124 + 3 * i))) ∧ (upd (c.2.2.1 402) n v i = upd (upd (upd (upd (m.2.2.1 3) (123 + 3 * n) a) (124 + 3 * n) b) (125 + 3 * n) v) 1 _ (125 + 3 * i) ∧ nb 999 (upd (upd (upd (upd (m.2.2.1 3) (123 + 3 * n) a) (124 + 3 * n) b) (125 + 3 * n) v) 1 _ (125 + 3 * i)))
        by_cases q : i = n
        · subst q
          simp only [upd_v, if_neg (show ¬ (123 + 3 * i = 1) by omega), if_neg (show ¬ (124 + 3 * i = 1) by omega), if_neg (show ¬ (125 + 3 * i = 1) by omega), if_neg (show ¬ (123 + 3 * i = 125 + 3 * i) by omega), if_neg (show ¬ (123 + 3 * i = 124 + 3 * i) by omega), if_neg (show ¬ (124 + 3 * i = 125 + 3 * i) by omega), if_true]
          exact ⟨⟨trivial, hab⟩, ⟨trivial, hbb⟩, trivial, hvb⟩
        · simp only [upd_v, if_neg (show ¬ (123 + 3 * i = 1) by omega), if_neg (show ¬ (124 + 3 * i = 1) by omega), if_neg (show ¬ (125 + 3 * i = 1) by omega), if_neg (show ¬ (123 + 3 * i = 125 + 3 * n) by omega), if_neg (show ¬ (123 + 3 * i = 124 + 3 * n) by omega), if_neg (show ¬ (123 + 3 * i = 123 + 3 * n) by omega), if_neg (show ¬ (124 + 3 * i = 125 + 3 * n) by omega), if_neg (show ¬ (124 + 3 * i = 124 + 3 * n) by omega), if_neg (show ¬ (124 + 3 * i = 123 + 3 * n) by omega), if_neg (show ¬ (125 + 3 * i = 125 + 3 * n) by omega), if_neg (show ¬ (125 + 3 * i = 124 + 3 * n) by omega), if_neg (show ¬ (125 + 3 * i = 123 + 3 * n) by omega), if_neg q]
          exact g2 i hi
end Small
