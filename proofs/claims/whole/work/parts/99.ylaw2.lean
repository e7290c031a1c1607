/-! T2, law: the call -/
section LawCall2
variable {fz : List FP} {c m : St}
theorem fzGet_app {P : FP} {q : Nat} {P' : FP} (h : fzGet fz q = some P') : fzGet (fz ++ [P]) q = some P' := by
  unfold fzGet at h ⊢
  rw [List.find?_append, h]; rfl
theorem fzGet_new {P : FP} (h : fzGet fz (P.1 99) = none) : fzGet (fz ++ [P]) (P.1 99) = some P := by
  unfold fzGet at h ⊢
  rw [List.find?_append, h, Option.none_or]
  rw [List.find?_cons_of_pos (by exact beq_self_eq_true _)]
theorem ClL.cg {Cm Cc : Cd} {i : Nat} {t a b t' a' b' : Nat → Int32} (h : ClL Cm Cc i t a b) (ht : ∀ q, q < 8 * i + 8 → t' q = t q) (ha : a' i = a i) (hb : ∀ q, q < 4 * i + 4 → b' q = b q) : ClL Cm Cc i t' a' b' := by
  have := ClL.app (x := []) (y := []) h ht ha hb
  rw [List.append_nil, List.append_nil] at this
  exact this
theorem LwR.cg {P : FP} {t t' : Nat → Int32} (h : LwR P t) (e : ∀ k, k < 900 → t' k = t k) : LwR P t' := by
  obtain ⟨k, Cm, Cc, h1, h2, h3, h4, h5⟩ := h
  have hk := h1.1
  refine ⟨k, Cm, Cc, h1, by rw [e 1 (by omega)]; exact h2, h3, fun q x hx => ?_, fun i hi => (h5 i hi).cg (fun q hq => e _ (by omega)) rfl (fun _ _ => rfl)⟩
  have hq : q < Cm.length := (List.getElem?_eq_some_iff.mp hx).1
  rw [e _ (by omega), e _ (by omega)]
  exact h4 q x hx
/-- a law was added -/
theorem RR.law {P : FP} {c' m' : St} (h : RR fz c m) (f1 : ∀ k, k ≠ 9 → k ≠ 111 → c'.1 k = c.1 k) (f3 : c'.2.2.1 = c.2.2.1) (hi : c'.2.2.2.2 1 = c.2.2.2.2 1) (g : fr [1] [] [3] m m') (e : ∀ k, k < 150 → k ≠ 4 → m'.2.2.1 3 k = m.2.2.1 3 k) (hs : Rs c' m') (hw : Rw 0 (fz ++ [P]) c' (m'.2.2.1 3)) : RR (fz ++ [P]) c' m' ∧ Fx c m c' m' := by
  obtain ⟨⟨h1, -, h3⟩, -, h5, h6, h7, h8, h9, h10, h11⟩ := h
  have fi : ∀ {l : List Nat}, (∀ x, x ∈ l → x ≠ 9 ∧ x ≠ 111) → ∀ x, x ∈ l → c'.1 x = c.1 x := fun s x hx => f1 x (s x hx).1 (s x hx).2
  have fa : ∀ {l : List Nat}, ∀ x, x ∈ l → c'.2.2.1 x = c.2.2.1 x := fun x _ => by rw [f3]
  have gi1 : ∀ {l : List Nat}, (∀ x, x ∈ l → x ∉ [1]) → ∀ x, x ∈ l → m'.1 x = m.1 x := fun s x hx => g.1 x (s x hx)
  refine ⟨⟨⟨?_, hw, ?_⟩, hs, ?_, ?_, ?_, ?_, ?_, ?_, ?_⟩, hi, g.2.2.1 4 (by decide), g.2.2.1 5 (by decide)⟩
  · exact h1.a (fi (by decide)) fa (fun k hk => e k (by omega) (by omega))
  · rw [g.1 20 (by decide)]; exact h3
  · exact h5.a (f1 504 (by decide) (by decide)) (by rw [f3]) (g.1 13 (by decide)) (g.2.2.1 12 (by decide))
  · exact h6.a (fi (by decide)) fa (fun k hk => e k (by omega) (by omega))
  · exact h7.a (f1 404 (by decide) (by decide)) fa (fun k hk => e k (by omega) (by omega))
  · obtain ⟨n, q1, q2, q3, q4⟩ := h8
    have e6 : m'.2.2.1 6 = m.2.2.1 6 := g.2.2.1 6 (by decide)
    have se : ∀ j i, i < 25 → sn m' n j i = sn m n j i := by
      intro j i hi
      unfold sn
      rw [e (6 + i) (by omega) (by omega), e6]
    refine ⟨n, q1, by rw [f1 905 (by decide) (by decide)]; exact q2, by rw [g.1 8 (by decide)]; exact q3, fun j hj => ?_⟩
    obtain ⟨⟨F, y1, y2, y3, y4⟩, q5, q6⟩ := q4 j hj
    rw [f3, g.2.2.1 7 (by decide)]
    refine ⟨⟨F, y1, by rw [e 0 (by omega) (by omega)]; exact y2, y3, fun i hi => ?_⟩, q5, fun i hi => ?_⟩
    · rw [se j i hi, e (31 + F) (by omega) (by omega), pt_e (se (j + 1) i hi)]; exact y4 i hi
    · rw [se j i hi]; exact q6 i hi
  · exact h9.a (f1 1104 (by decide) (by decide)) fa (g.1 52 (by decide)) (g.2.2.1 51 (by decide))
  · exact h10.a (fi (by decide)) (gi1 (by decide))
  · exact h11.a (fun k _ => by rw [g.2.2.2])
/-- the reference's end of a good law -/
theorem law_good {n k : Nat} {Cm Cc : Cd} (hn : n < 6) (h4 : m.2.2.1 3 4 = Int32.ofNat n) (hg : LgR k Cm Cc c m) : ∃ m', (lt ((150 : Int32) + ((900 : Int32) * (m.2.2.1 3 (4 : Int32).toNatClampNeg))) (fun x11 => gi (x11 + (1 : Int32)) 5550 (lt (sA m 3 (upd (m.2.2.1 3) (x11 + (1 : Int32)).toNatClampNeg (m.1 21))) (fun st12 => lp (fun _ _ _ => none) (fX12_law_b111) 6000 x11 (0 : Int32) st12)))) = some (Int32.ofNat n, m') ∧ fr [1] [] [3] m m' ∧ m'.1 1 = 0 ∧ m'.2.2.1 3 4 = Int32.ofNat (n + 1) ∧ (∀ i, i ≠ 4 → (i < 150 + 900 * n ∨ 150 + 900 * (n + 1) ≤ i) → m'.2.2.1 3 i = m.2.2.1 3 i) ∧ m'.2.2.1 3 (150 + 900 * n + 1) = Int32.ofNat k ∧ (∀ j, j < 8 * k → m'.2.2.1 3 (150 + 900 * n + (2 + j)) = m.2.2.1 22 j) ∧ (∀ q x, Cm[q]? = some x → m'.2.2.1 3 (150 + 900 * n + (98 + 2 * q)) = Int32.ofNat x.1 ∧ m'.2.2.1 3 (150 + 900 * n + (98 + 2 * q + 1)) = Int32.ofNat x.2) := by
  obtain ⟨g1, g2, g3, g4, g5, g6, g7, g8, g9, g10⟩ := hg
  let m1 : St := sA m 3 (upd (m.2.2.1 3) (150 + 900 * n + 1) (m.1 21))
  have hf1 : fr [1] [] [3] m m1 := fr.sA (by decide)
  obtain ⟨m2, a1, a2, a3, a4⟩ := law_cp1 hn g1 (8 * k) 0 (5999 - 8 * k) m1 (by omega) g4
  rw [show 5999 - 8 * k + 1 + 8 * k = 6000 by omega] at a1
  obtain ⟨m3, b1, b2, b3, b4⟩ := law_cp2 hn g2 Cm.length 0 (5999 - Cm.length) m2 (by omega) (by rw [a2.1 23 (by decide)]; exact g6)
  rw [show 5999 - Cm.length + 1 + Cm.length = 6000 by omega] at b1
  have e4 : m3.2.2.1 3 4 = Int32.ofNat n := by
    rw [b4 4 (by omega), a4 4 (by omega)]
    show upd _ _ _ _ = _
    rw [upd_v, if_neg (by omega)]; exact h4
  let m4 : St := sA m3 3 (upd (m3.2.2.1 3) 4 (m3.2.2.1 3 4 + 1))
  have e5 : m4.2.2.1 3 4 = Int32.ofNat (n + 1) := by
    show m3.2.2.1 3 4 + 1 = _
    rw [e4, oN_s]
  have eo : ∀ i, i ≠ 4 → m4.2.2.1 3 i = m3.2.2.1 3 i := by
    intro i hi
    show upd _ _ _ _ = _
    rw [upd_v, if_neg hi]
  have ht : fX12_tell (Int32.ofNat n) m4 = some (Int32.ofNat n, sI m4 1 0) := by
    unfold fX12_tell fX12_tell_b10 fX12_tell_b28
    rw [if_pos (oN_nn (by omega)), lt_v, if_pos (oN_nn (by omega))]
  have hF : fr [1] [] [3] m (sI m4 1 0) := (((hf1.tr (a2.up (by decide) (by decide) (by decide))).tr (b2.up (by decide) (by decide) (by decide))).tr (fr.sA (k := 3) (by decide))).tr (fr.sI (k := 1) (by decide))
  refine ⟨sI m4 1 0, ?_, hF, rfl, e5, fun i hi h => ?_, ?_, fun j hj => ?_, fun q x hx => ?_⟩
  · rw [lt_v, show (4 : Int32).toNatClampNeg = 4 from rfl, h4, show (900 : Int32) = Int32.ofNat 900 from rfl, show (150 : Int32) = Int32.ofNat 150 from rfl, oN_mul, oN_add, oN_s, gi_N (by omega) (by decide), oN_tn (by omega), lt_v]
    refine a1.trans ?_
    refine b1.trans ?_
    rw [lt_v]
    show bd (fX12_tell (m4.2.2.1 3 4 - 1) m4) _ = _
    rw [e5, show (1 : Int32) = Int32.ofNat 1 from rfl, oN_sub (by omega), show n + 1 - 1 = n by omega, ht, bd_v]
  · show m4.2.2.1 3 i = _
    rw [eo i hi, b4 i (by omega), a4 i (by omega)]
    show upd _ _ _ _ = _
    rw [upd_v, if_neg (by omega)]
  · show m4.2.2.1 3 _ = _
    rw [eo _ (by omega), b4 _ (by omega), a4 _ (by omega)]
    show upd _ _ _ _ = _
    rw [upd_v, if_pos rfl]; exact g4
  · show m4.2.2.1 3 _ = _
    rw [eo _ (by omega), b4 _ (by omega), ← Nat.add_assoc]
    exact a3 j (by omega) hj
  · have hq : q < Cm.length := (List.getElem?_eq_some_iff.mp hx).1
    show m4.2.2.1 3 _ = _ ∧ m4.2.2.1 3 _ = _
    rw [eo _ (by omega), eo _ (by omega), ← Nat.add_assoc, ← Nat.add_assoc, ← Nat.add_assoc]
    obtain ⟨k1, k2⟩ := b3 q (by omega) hq
    rw [k1, k2, a2.2.2.1 24 (by decide), a2.2.2.1 25 (by decide)]
    exact g8 q x hx
theorem law_call (h : RR fz c m) : ∃ rr c1, fX11_lawA fz c = some (rr, c1) ∧ ((∃ v m', rr = some v ∧ fX12_law m = some (v, m') ∧ RR fz c1 m' ∧ Fx c m c1 m') ∨ (rr = none ∧ ∃ L C, c1.1 604 = Int32.ofNat L ∧ c1.1 605 = Int32.ofNat C ∧ L ≤ 400 ∧ C ≤ 12 ∧ ∃ v m', fX12_law m = some (v, m') ∧ ∀ P, isCp L C (c1.2.2.1 600) (c1.2.2.1 601) (c1.2.2.1 602) (c1.2.2.1 603) P → ∃ c', fX11_lawB P (c1.1 111) (fz ++ [P]) c1 = some (v, c') ∧ (fzGet fz (P.1 99) = none → RR (fz ++ [P]) c' m' ∧ Fx c m c' m'))) := by
  obtain ⟨w1, w2⟩ := h.1.2.1.1
  obtain ⟨n, hn6, hn⟩ := w2
  replace w1 : c.1 111 = m.2.2.1 3 4 := w1
  rw [hn] at w1
  have h20 : m.1 20 = 0 := h.1.2.2
  obtain ⟨-, r11, r12⟩ := h.2.2.2.2.2.2.2.1
  rcases Nat.lt_or_ge n 6 with hlt | hge
  · obtain ⟨v, c', m1, m', e1, e2, e3, f, g, h13, h20', hv, hcase⟩ := law_read (m := sI m 0 0) h.z
    have hr4 : m'.2.2.1 3 4 = Int32.ofNat n := by rw [g.2.2.1 3 (by decide)]; exact hn
    have hA : fX11_lawA fz c = (if v = (-1 : Int32) then (some (none, sI (sI c' 11 v) 504 0)) else (bd (fX11_refuse (-6 : Int32) fz (sI (sI c' 11 v) 504 0)) (fun r5 st6 => some (some r5, st6)))) := by
      unfold fX11_lawA
      rw [w1, show (6 : Int32) = Int32.ofNat 6 from rfl, if_ltT hlt (by decide), e1, bd_v, lt_v, lt_v]
      rfl
    have hL : fX12_law m = (if (m'.1 19) = 0 then (lt ((150 : Int32) + ((900 : Int32) * (m'.2.2.1 3 (4 : Int32).toNatClampNeg))) (fun x11 => gi (x11 + (1 : Int32)) 5550 (lt (sA m' 3 (upd (m'.2.2.1 3) (x11 + (1 : Int32)).toNatClampNeg (m'.1 21))) (fun st12 => lp (fun _ _ _ => none) (fX12_law_b111) 6000 x11 (0 : Int32) st12)))) else (bd (fX12_tell (-6 : Int32) m') (fun r13 st14 => some (r13, st14)))) := by
      unfold fX12_law
      rw [lt_v, show ((sI m 0 0).2.2.1 3 (4 : Int32).toNatClampNeg) = Int32.ofNat n from hn, if_neg (show ¬ (Int32.ofNat n = (6 : Int32)) from fun q => by have := (oN_eq (b := 6) (by omega) (by decide)).mp q; omega), e2]
      unfold fX12_law_b64
      rw [e3, bd_v]
    have hft : fr [11, 12, 504, 505, 604, 605, 702, 703, 704, 705, 706] [] [501, 502, 503, 600, 601, 602, 603] c (sI (sI c' 11 v) 504 0) := ((f.up (by decide) (by decide) (by decide)).tr (fr.sI (k := 11) (by decide))).tr (fr.sI (k := 504) (by decide))
    have hgt : fr [0, 13, 14, 15, 16, 18, 19, 20, 21, 23, 26, 29, 30, 48] [17] [22, 24, 25, 27, 28, 45] m m' := (fr.sI (k := 0) (by decide)).tr (g.up (by decide) (by decide) (by decide))
    have hRT := RR.text h hft hgt rfl h13 h20' hv (by show c'.1 12 = _; rw [f.1 12 (by decide), g.1 48 (by decide)]; exact r12)
    have hm0 : m'.1 0 = 0 := by rw [g.1 0 (by decide)]; rfl
    rcases hcase with ⟨q1, q2, k, Cm, Cc, hg⟩ | ⟨⟨q, q1, q2⟩, q3⟩
    · refine ⟨none, sI (sI c' 11 v) 504 0, by rw [hA, if_pos q1], Or.inr ⟨rfl, Cc.length, k, hg.2.2.2.2.2.2.1, hg.2.2.2.2.1, hg.2.2.1, hg.1, ?_⟩⟩
      obtain ⟨m2, a1, a2, a3, a4, a5, a6, a7, a8⟩ := law_good hlt hr4 hg
      refine ⟨Int32.ofNat n, m2, by rw [hL, if_pos q2]; exact a1, fun P hP => ?_⟩
      have hc111 : (sI (sI c' 11 v) 504 0).1 111 = Int32.ofNat n := by
        show c'.1 111 = _
        rw [f.1 111 (by decide)]; exact w1
      let c1 : St := sI (sI c' 11 v) 504 0
      let c2 : St := sI (sR c1 107 (va_up (c1.2.2.2.2 107) n (some (P.1 99)))) 111 (Int32.ofNat (n + 1))
      refine ⟨sI c2 9 0, ?_, fun hfz => ?_⟩
      · unfold fX11_lawB
        rw [hc111, gi_N hlt (by decide), lt_v, oN_tn (by omega), lt_v]
        show bd (fX11_settle ((sI (sR c1 107 (va_up (c1.2.2.2.2 107) n (some (P.1 99)))) 111 (c1.1 111 + 1)).1 111 - 1) (fz ++ [P]) (sI (sR c1 107 (va_up (c1.2.2.2.2 107) n (some (P.1 99)))) 111 (c1.1 111 + 1))) _ = _
        rw [show c1.1 111 = Int32.ofNat n from hc111, oN_s]
        show bd (fX11_settle (Int32.ofNat (n + 1) - 1) (fz ++ [P]) c2) _ = _
        rw [show (1 : Int32) = Int32.ofNat 1 from rfl, oN_sub (by omega), show n + 1 - 1 = n by omega]
        unfold fX11_settle
        rw [if_pos (oN_nn (by omega)), lt_v, bd_v]
      · have hRT2 := hRT
        obtain ⟨⟨⟨hq1, hq2, hq3⟩, hs, -⟩, hfx⟩ := hRT2
        have hs' : Rs (sI c2 9 0) m2 := by
          refine ⟨a3.symm, fun i hi => ?_⟩
          rw [a2.2.2.1 2 (by decide)]
          exact hs.2 i hi
        have hw : Rw 0 (fz ++ [P]) (sI c2 9 0) (m2.2.2.1 3) := by
          obtain ⟨x1, x2, x3, x4⟩ := hq2
          have e5 : m2.2.2.1 3 5 = m'.2.2.1 3 5 := a5 5 (by decide) (by omega)
          refine ⟨⟨a4.symm, n + 1, by omega, a4⟩, ?_, ?_, fun i hi => ?_⟩
          · rw [e5]; exact x2
          · rw [e5, a4, oN_tn (by omega)]
            rw [hr4, oN_tn (by omega)] at x3
            rcases x3 with x3 | ⟨y, y1, y2⟩
            · exact Or.inl x3
            · exact Or.inr ⟨y, by omega, y2⟩
          · obtain ⟨z1, z2⟩ := x4 i hi
            rw [a4, oN_tn (by omega)]
            have hat : (sI c2 9 0).2.2.2.2 (107 + 0) i = if i = n then some (P.1 99) else c1.2.2.2.2 (107 + 0) i := by
              show va_up (c1.2.2.2.2 107) n (some (P.1 99)) i = _
              rw [vup_v]
            rw [hat]
            by_cases hin : i = n
            · rw [if_pos hin]
              refine ⟨fun _ => ⟨P.1 99, P, rfl, fzGet_new hfz, ?_⟩, Or.inr ⟨P.1 99, P, rfl, fzGet_new hfz, rfl⟩⟩
              subst hin
              obtain ⟨p1, p2, p3, p4, p5, p6, p7, p8, p9, p10⟩ := hP
              obtain ⟨g1, g2, g3, g4, g5, g6, g7, g8, g9, g10⟩ := hg
              refine ⟨k, Cm, Cc, ⟨g1, p6, p1, by rw [p3]; omega, p4, p5, g3, fun q x hx => ?_⟩, a6, g2, a8, fun j hj => (g10 j hj).cg (fun q hq => a7 q (by omega)) (p7 j hj) (fun q hq => p9 q (by omega))⟩
              have hq : q < Cc.length := (List.getElem?_eq_some_iff.mp hx).1
              rw [p10 q hq]
              exact g9 q x hx
            · rw [if_neg hin]
              refine ⟨fun hi2 => ?_, ?_⟩
              · obtain ⟨q, P', y1, y2, y3⟩ := z1 (by rw [hr4, oN_tn (by omega)]; omega)
                exact ⟨q, P', y1, fzGet_app y2, y3.cg (fun t ht => a5 _ (by omega) (by omega))⟩
              · rcases z2 with z2 | ⟨q, P', y1, y2, y3⟩
                · exact Or.inl z2
                · exact Or.inr ⟨q, P', y1, fzGet_app y2, y3⟩
        have hR := RR.law (P := P) (c' := sI c2 9 0) (m' := m2) hRT.1 (fun j j1 j2 => by
          show (sI c2 9 0).1 j = c1.1 j
          rw [sI_1, if_neg j1]
          show (sI (sR c1 107 (va_up (c1.2.2.2.2 107) n (some (P.1 99)))) 111 (Int32.ofNat (n + 1))).1 j = _
          rw [sI_1, if_neg j2]; rfl) rfl rfl a2 (fun j j1 j2 => a5 j j2 (by omega)) hs' hw
        exact ⟨hR.1, hR.2.1.trans hfx.1, hR.2.2.1.trans hfx.2.1, hR.2.2.2.trans hfx.2.2⟩
    · obtain ⟨c3, m3, k1, k2, k3, k4⟩ := cl_ref0 (n := 6) hRT.1 hm0 (by decide) (by decide)
      refine ⟨some (-(Int32.ofNat 6)), c3, ?_, Or.inl ⟨_, m3, rfl, ?_, k3, k4.1.trans hRT.2.1, k4.2.1.trans hRT.2.2.1, k4.2.2.trans hRT.2.2.2⟩⟩
      · rw [hA, q2, if_neg (oN_ne1 (by omega)), ← q2, show (-6 : Int32) = -(Int32.ofNat 6) from rfl, k1, bd_v]
      · rw [hL, q3, if_neg (by decide), show (-6 : Int32) = -(Int32.ofNat 6) from rfl, k2, bd_v]
  · have hn6 : n = 6 := by omega
    subst hn6
    have hf : fr [11, 12, 504, 505, 604, 605, 702, 703, 704, 705, 706] [] [501, 502, 503, 600, 601, 602, 603] c (sI c 504 0) := fr.sI (by decide)
    have hg : fr [0, 13, 14, 15, 16, 18, 19, 20, 21, 23, 26, 29, 30, 48] [17] [22, 24, 25, 27, 28, 45] m (sI (sI m 0 0) 13 0) := (fr.sI (k := 0) (by decide)).tr (fr.sI (k := 13) (by decide))
    have hRT := RR.text h hf hg rfl rfl h20 r11 r12
    obtain ⟨c3, m3, k1, k2, k3, k4⟩ := cl_ref0 (n := 5) hRT.1 rfl (by decide) (by decide)
    refine ⟨some (-(Int32.ofNat 5)), c3, ?_, Or.inl ⟨_, m3, rfl, ?_, k3, k4.1.trans hRT.2.1, k4.2.1.trans hRT.2.2.1, k4.2.2.trans hRT.2.2.2⟩⟩
    · unfold fX11_lawA
      rw [w1, show (6 : Int32) = Int32.ofNat 6 from rfl, if_ltF (Nat.le_refl _) (by decide), lt_v, show (-5 : Int32) = -(Int32.ofNat 5) from rfl, k1, bd_v]
    · unfold fX12_law
      rw [lt_v, show ((sI m 0 0).2.2.1 3 (4 : Int32).toNatClampNeg) = Int32.ofNat 6 from hn, if_pos (show Int32.ofNat 6 = (6 : Int32) from rfl), lt_v, show (-5 : Int32) = -(Int32.ofNat 5) from rfl, k2, bd_v]
end LawCall2
