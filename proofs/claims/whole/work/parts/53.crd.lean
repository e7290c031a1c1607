/-! T2, the class's reader: its state and small steps -/
def Ct (B : Nat → Nat) (L T : Nat) (st : St) : Prop := tbC B L (T + 1) st ∧ T ≤ 400 ∧ L ≤ tP B L T ∧ (∀ i, i < T → tP B L i < L) ∧ (∀ i, B i < 256)
def Cc (C : Cd) (st : St) : Prop := st.1 604 = Int32.ofNat C.length ∧ ∀ i x, C[i]? = some x → st.2.2.1 603 i = cell x ∧ x.1 < 16 ∧ x.2 < 100000
def Cp (lw : Bool) (B : Nat → Nat) (L T j n : Nat) (C : Cd) (st : St) : Prop := Ct B L T st ∧ j ≤ T ∧ st.1 704 = Int32.ofNat j ∧ st.1 705 = Int32.ofNat (tK B L j) ∧ (tK B L j = 256 → st.1 706 = Int32.ofNat (tV B L j)) ∧ st.1 703 = Int32.ofNat n ∧ n ≤ 50 ∧ st.1 702 = (if lw = true then 1 else 0) ∧ Cc C st ∧ C.length ≤ j
/-- a fault was found -/
def Ce (B : Nat → Nat) (L T e : Nat) (st : St) : Prop := Ct B L T st ∧ e ≤ T ∧ st.1 704 = Int32.ofNat e ∧ ∃ c, c ≤ 400 ∧ st.1 604 = Int32.ofNat c
def CF : St → St → Prop := fr [703, 704, 705, 706, 604] [] [603]
theorem CF.rf {st : St} : CF st st := fr.rf
theorem CF.tr {a b c : St} (h : CF a b) (k : CF b c) : CF a c := fr.tr h k
theorem Ct.fr {B : Nat → Nat} {L T : Nat} {st st' : St} {I J A : List Nat} (h : Ct B L T st) (f : fr I J A st st') (h1 : 505 ∉ I) (h2 : 501 ∉ A ∧ 502 ∉ A ∧ 503 ∉ A) : Ct B L T st' := by
  obtain ⟨⟨t1, t2⟩, t3⟩ := h
  refine ⟨⟨by rw [f.1 505 h1]; exact t1, ?_⟩, t3⟩
  rw [f.2.2.1 501 h2.1, f.2.2.1 502 h2.2.1, f.2.2.1 503 h2.2.2]
  exact t2
section CRead
variable {lw : Bool} {B : Nat → Nat} {L T j n : Nat} {C : Cd} {st : St} {fz : List FP}
theorem Cp.hB (h : Cp lw B L T j n C st) : ∀ i, B i < 256 := h.1.2.2.2.2
theorem Cp.lt (h : Cp lw B L T j n C st) (hk : tK B L j ≠ 257) : j < T := by
  rcases Nat.lt_or_ge j T with h1 | h1
  · exact h1
  · have e : j = T := Nat.le_antisymm h.2.1 h1
    exfalso
    apply hk
    rw [e]
    exact (tok_end h.hB).mp (by unfold tSort; rw [if_pos h.1.2.2.1])
theorem Cp.T4 (h : Cp lw B L T j n C st) : T ≤ 400 := h.1.2.1
theorem Cp.err (h : Cp lw B L T j n C st) : Ce B L T j st := ⟨h.1, h.2.1, h.2.2.1, C.length, by have := h.2.2.2.2.2.2.2.2.2; have := h.T4; have := h.2.1; omega, h.2.2.2.2.2.2.2.2.1.1⟩
theorem Cp.kind (h : Cp lw B L T j n C st) : st.1 705 = Int32.ofNat (tK B L j) := h.2.2.2.1
theorem Cp.look (h : Cp lw B L T j n C st) (hk : tK B L j ≠ 257) : ∃ st', fX9_lookAt (st.1 704 + 1) fz st = some ((), st') ∧ Cp lw B L T (j + 1) n C st' ∧ fr [704, 705, 706] [] [] st st' := by
  have hlt := h.lt hk
  have hT := h.T4
  obtain ⟨a1, a2, a3, a4, a5, a6, a7, a8, a9, a10⟩ := h
  obtain ⟨t1, t2, t3⟩ := a1.1.2 (j + 1) (by omega)
  have e1 : fX9_lookAt (st.1 704 + 1) fz st = some ((), sI (sI (sI st 704 (Int32.ofNat (j + 1))) 705 (st.2.2.1 501 (j + 1))) 706 (st.2.2.1 503 (j + 1))) := by
    unfold fX9_lookAt fX9_lookAt_b42
    rw [a3, oN_s, a1.1.1, if_leF (by omega) (by omega), lt_v, gi_N (by omega) (by omega), lt_v, gi_N (by omega) (by omega), lt_v, oN_tn (by omega)]
    rfl
  have hf : fr [704, 705, 706] [] [] st (sI (sI (sI st 704 (Int32.ofNat (j + 1))) 705 (st.2.2.1 501 (j + 1))) 706 (st.2.2.1 503 (j + 1))) := ((fr.sI (k := 704) (by decide)).tr (fr.sI (k := 705) (by decide))).tr (fr.sI (k := 706) (by decide))
  refine ⟨_, e1, ⟨a1.fr hf (by decide) (by decide), by omega, rfl, t1, t3, ?_, a7, ?_, ⟨?_, ?_⟩, by omega⟩, hf⟩
  · rw [hf.1 703 (by decide)]; exact a6
  · rw [hf.1 702 (by decide)]; exact a8
  · rw [hf.1 604 (by decide)]; exact a9.1
  · rw [hf.2.2.1 603 (by decide)]; exact a9.2
theorem Cp.passes (h : Cp lw B L T j n C st) {c : Nat} (hc : c < 1000) : (tK B L j = c → c ≠ 257 → ∃ st', fX9_passes (Int32.ofNat c) fz st = some (1, st') ∧ Cp lw B L T (j + 1) n C st' ∧ fr [704, 705, 706] [] [] st st') ∧ (tK B L j ≠ c → fX9_passes (Int32.ofNat c) fz st = some (0, st)) := by
  have hk := tK_le (L := L) (j := j) h.hB
  constructor
  · intro e hc2
    obtain ⟨st', g1, g2, g3⟩ := h.look (fz := fz) (by omega)
    refine ⟨st', ?_, g2, g3⟩
    unfold fX9_passes
    rw [h.kind, if_eqT e, g1, bd_v]
  · intro e
    unfold fX9_passes
    rw [h.kind, if_eqF e (by omega) (by omega)]
theorem Cc.add {c v : Nat} {o : Nat} (h : Cc C st) (hl : C.length < 400) (ho : o < 16) (hv : v < 100000) : ∃ st', fX8_add (Int32.ofNat o) (Int32.ofNat v) fz st = some (Int32.ofNat C.length, st') ∧ Cc (C ++ [(o, v)]) st' ∧ fr [604] [] [603] st st' := by
  obtain ⟨h1, h2⟩ := h
  have hf : fr [604] [] [603] st (sI (sA st 603 (upd (st.2.2.1 603) C.length (Int32.ofNat (16 * v + o)))) 604 (Int32.ofNat (C.length + 1))) := (fr.sA (k := 603) (by decide)).tr (fr.sI (k := 604) (by decide))
  refine ⟨_, ?_, ⟨?_, ?_⟩, hf⟩
  · unfold fX8_add fX8_add_b36
    rw [h1, show (400 : Int32) = Int32.ofNat 400 from rfl, if_leF (by omega) (by omega), gi_N (by omega) (by omega), cell_enc (by omega) ho, lt_v, oN_tn (by omega)]
    have e : (sA st 603 (upd (st.2.2.1 603) C.length (Int32.ofNat (16 * v + o)))).1 604 = Int32.ofNat C.length := h1
    rw [e, oN_s, lt_v]
    have e2 : (sI (sA st 603 (upd (st.2.2.1 603) C.length (Int32.ofNat (16 * v + o)))) 604 (Int32.ofNat (C.length + 1))).1 604 = Int32.ofNat (C.length + 1) := rfl
    rw [e2, show (1 : Int32) = Int32.ofNat 1 from rfl, oN_sub (by omega), Nat.add_sub_cancel]
  · rw [List.length_append]; rfl
  · intro i x hx
    show upd (st.2.2.1 603) C.length _ i = _ ∧ _
    rw [upd_v]
    by_cases e : i = C.length
    · rw [if_pos e]
      rw [e, List.getElem?_append_right (Nat.le_refl _), Nat.sub_self] at hx
      cases hx
      exact ⟨rfl, ho, hv⟩
    · rw [if_neg e]
      have hl := (List.getElem?_eq_some_iff.mp hx).1
      rw [List.length_append] at hl
      have hl : i < C.length := by simp at hl; omega
      rw [List.getElem?_append_left hl] at hx
      exact h2 i x hx
theorem Cp.add {o v : Nat} (h : Cp lw B L T j n C st) (hl : C.length + 1 ≤ j) (ho : o < 16) (hv : v < 100000) : ∃ st', fX8_add (Int32.ofNat o) (Int32.ofNat v) fz st = some (Int32.ofNat C.length, st') ∧ Cp lw B L T j n (C ++ [(o, v)]) st' ∧ fr [604] [] [603] st st' := by
  have hT := h.T4
  obtain ⟨a1, a2, a3, a4, a5, a6, a7, a8, a9, a10⟩ := h
  obtain ⟨st', g1, g2, g3⟩ := a9.add (c := 0) (fz := fz) (o := o) (v := v) (by omega) ho hv
  refine ⟨st', g1, ⟨a1.fr g3 (by decide) (by decide), a2, ?_, ?_, ?_, ?_, a7, ?_, g2, by rw [List.length_append]; exact hl⟩, g3⟩
  · rw [g3.1 704 (by decide)]; exact a3
  · rw [g3.1 705 (by decide)]; exact a4
  · rw [g3.1 706 (by decide)]; exact a5
  · rw [g3.1 703 (by decide)]; exact a6
  · rw [g3.1 702 (by decide)]; exact a8
/-- added, then the next token -/
theorem Cp.addLook {o v : Nat} (h : Cp lw B L T j n C st) (hk : tK B L j ≠ 257) (ho : o < 16) (hv : v < 100000) : ∃ r st1 st2, fX8_add (Int32.ofNat o) (Int32.ofNat v) fz st = some (r, st1) ∧ fX9_lookAt (st1.1 704 + 1) fz st1 = some ((), st2) ∧ Cp lw B L T (j + 1) n (C ++ [(o, v)]) st2 ∧ CF st st2 := by
  have hT := h.T4
  have hlt := h.lt hk
  obtain ⟨a1, a2, a3, a4, a5, a6, a7, a8, a9, a10⟩ := h
  obtain ⟨st1, g1, g2, g3⟩ := a9.add (c := 0) (fz := fz) (o := o) (v := v) (by omega) ho hv
  have h1 : Cp lw B L T j n [] (sI st1 604 0) := by
    have hf : fr [604] [] [603] st (sI st1 604 0) := g3.tr (fr.sI (by decide))
    refine ⟨a1.fr hf (by decide) (by decide), a2, ?_, ?_, ?_, ?_, a7, ?_, ⟨rfl, fun i x hx => by cases hx⟩, Nat.zero_le _⟩
    · rw [hf.1 704 (by decide)]; exact a3
    · rw [hf.1 705 (by decide)]; exact a4
    · rw [hf.1 706 (by decide)]; exact a5
    · rw [hf.1 703 (by decide)]; exact a6
    · rw [hf.1 702 (by decide)]; exact a8
  have a1' := a1.fr g3 (by decide) (by decide)
  have a3' : st1.1 704 = Int32.ofNat j := by rw [g3.1 704 (by decide)]; exact a3
  obtain ⟨t1, t2, t3⟩ := a1'.1.2 (j + 1) (by omega)
  have e1 : fX9_lookAt (st1.1 704 + 1) fz st1 = some ((), sI (sI (sI st1 704 (Int32.ofNat (j + 1))) 705 (st1.2.2.1 501 (j + 1))) 706 (st1.2.2.1 503 (j + 1))) := by
    unfold fX9_lookAt fX9_lookAt_b42
    rw [a3', oN_s, a1'.1.1, if_leF (by omega) (by omega), lt_v, gi_N (by omega) (by omega), lt_v, gi_N (by omega) (by omega), lt_v, oN_tn (by omega)]
    rfl
  have hf : fr [704, 705, 706] [] [] st1 (sI (sI (sI st1 704 (Int32.ofNat (j + 1))) 705 (st1.2.2.1 501 (j + 1))) 706 (st1.2.2.1 503 (j + 1))) := ((fr.sI (k := 704) (by decide)).tr (fr.sI (k := 705) (by decide))).tr (fr.sI (k := 706) (by decide))
  refine ⟨_, st1, _, g1, e1, ⟨a1'.fr hf (by decide) (by decide), by omega, rfl, t1, t3, ?_, a7, ?_, ⟨?_, ?_⟩, by rw [List.length_append]; show C.length + 1 ≤ j + 1; omega⟩, (g3.up (by decide) (by decide) (by decide)).tr (hf.up (by decide) (by decide) (by decide))⟩
  · rw [hf.1 703 (by decide), g3.1 703 (by decide)]; exact a6
  · rw [hf.1 702 (by decide), g3.1 702 (by decide)]; exact a8
  · rw [hf.1 604 (by decide)]; exact g2.1
  · rw [hf.2.2.1 603 (by decide)]; exact g2.2
theorem Ce.add {e : Nat} {o v : Int32} (h : Ce B L T e st) : ∃ r st', fX8_add o v fz st = some (r, st') ∧ Ce B L T e st' ∧ fr [604] [] [603] st st' := by
  obtain ⟨a1, a2, a3, c, hc, h6⟩ := h
  unfold fX8_add fX8_add_b36
  rw [h6, show (400 : Int32) = Int32.ofNat 400 from rfl]
  by_cases h4 : 400 ≤ c
  · rw [if_leT h4 (by omega)]
    exact ⟨_, st, rfl, ⟨a1, a2, a3, c, hc, h6⟩, fr.rf⟩
  · rw [if_leF (by omega) (by omega), gi_N (by omega) (by omega), lt_v]
    have e6 : ∀ f, (sA st 603 f).1 604 = Int32.ofNat c := fun _ => h6
    rw [e6, oN_s, lt_v]
    have hf : ∀ f, fr [604] [] [603] st (sI (sA st 603 f) 604 (Int32.ofNat (c + 1))) := fun f => (fr.sA (k := 603) (by decide)).tr (fr.sI (k := 604) (by decide))
    exact ⟨_, _, rfl, ⟨a1.fr (hf _) (by decide) (by decide), a2, by rw [(hf _).1 704 (by decide)]; exact a3, c + 1, by omega, rfl⟩, hf _⟩
theorem Ce.aim {e p : Nat} (h : Ce B L T e st) (hp : p ≤ 400) : ∃ st', fX8_aim (Int32.ofNat p) fz st = some ((), st') ∧ Ce B L T e st' ∧ fr [] [] [603] st st' := by
  obtain ⟨a1, a2, a3, c, hc, h6⟩ := h
  unfold fX8_aim fX8_aim_b34
  rw [if_neg (oN_neg (by omega)), h6]
  by_cases h4 : c ≤ p
  · rw [if_leT h4 (by omega)]
    exact ⟨st, rfl, ⟨a1, a2, a3, c, hc, h6⟩, fr.rf⟩
  · rw [if_leF (by omega) (by omega), gi_N (by omega) (by omega), gi_N (by omega) (by omega), lt_v]
    have hf : ∀ f, fr [] [] [603] st (sA st 603 f) := fun f => fr.sA (by decide)
    exact ⟨_, rfl, ⟨a1.fr (hf _) (by decide) (by decide), a2, a3, c, hc, h6⟩, hf _⟩
theorem Cp.aim {A D : Cd} {o x : Nat} (h : Cp lw B L T j n (A ++ (o, x) :: D) st) (ho : o < 16) (hx : x < 100000) : ∃ st', fX8_aim (Int32.ofNat A.length) fz st = some ((), st') ∧ Cp lw B L T j n (A ++ (o, (A ++ (o, x) :: D).length) :: D) st' ∧ fr [] [] [603] st st' := by
  have hT := h.T4
  obtain ⟨a1, a2, a3, a4, a5, a6, a7, a8, a9, a10⟩ := h
  have hlen : (A ++ (o, x) :: D).length = A.length + D.length + 1 := by simp; omega
  have hlen2 : (A ++ (o, (A ++ (o, x) :: D).length) :: D).length = A.length + D.length + 1 := by simp; omega
  have e603 : st.2.2.1 603 A.length = cell (o, x) := (a9.2 A.length (o, x) (by simp)).1
  have hf : fr [] [] [603] st (sA st 603 (upd (st.2.2.1 603) A.length (Int32.ofNat (16 * (A ++ (o, x) :: D).length + o)))) := fr.sA (by decide)
  refine ⟨_, ?_, ⟨a1.fr hf (by decide) (by decide), a2, a3, a4, a5, a6, a7, a8, ⟨?_, ?_⟩, by omega⟩, hf⟩
  · unfold fX8_aim fX8_aim_b34
    rw [if_neg (oN_neg (by omega)), a9.1, if_leF (by omega) (by omega), gi_N (by omega) (by omega), gi_N (by omega) (by omega), oN_tn (by omega), e603, cell_step ho (by show x < _; omega), lt_v]
    show some ((), sA st 603 (upd (st.2.2.1 603) A.length (Int32.ofNat (A ++ (o, x) :: D).length <<< ((4 : Int32) &&& 31) ||| Int32.ofNat o))) = _
    rw [cell_enc (by omega) ho]
  · rw [hlen2, ← hlen]; exact a9.1
  · intro i y hy
    show upd (st.2.2.1 603) A.length _ i = _ ∧ _
    rw [upd_v]
    by_cases e : i = A.length
    · rw [if_pos e]
      rw [e, List.getElem?_append_right (Nat.le_refl _), Nat.sub_self] at hy
      cases hy
      exact ⟨rfl, ho, by show _ < 100000; omega⟩
    · rw [if_neg e]
      refine a9.2 i y ?_
      rcases Nat.lt_or_ge i A.length with h1 | h1
      · rw [List.getElem?_append_left h1] at hy ⊢; exact hy
      · rw [List.getElem?_append_right h1] at hy ⊢
        rw [show i - A.length = (i - A.length - 1) + 1 by omega] at hy ⊢
        exact hy
theorem Cp.isNumber (h : Cp lw B L T j n C st) {lo hi : Nat} (hl : lo ≤ 1000) (hh : hi ≤ 1000) : fX9_isNumber (Int32.ofNat lo) (Int32.ofNat hi) fz st = some (if tK B L j = 256 ∧ lo ≤ tV B L j ∧ tV B L j ≤ hi then 1 else 0, st) := by
  have hk := tK_le (L := L) (j := j) h.hB
  unfold fX9_isNumber fX9_isNumber_b30 fX9_isNumber_b31
  rw [h.kind, show (256 : Int32) = Int32.ofNat 256 from rfl]
  by_cases e : tK B L j = 256
  · have hv : tV B L j ≤ 9999 := lxV_le _
    rw [if_eqT e, h.2.2.2.2.1 e]
    by_cases e1 : tV B L j < lo
    · rw [if_ltT e1 (by omega), if_neg (by omega)]; rfl
    · rw [if_ltF (by omega) (by omega)]
      by_cases e2 : hi < tV B L j
      · rw [if_ltT e2 (by omega), if_neg (by omega)]; rfl
      · rw [if_ltF (by omega) (by omega), if_pos ⟨e, by omega, by omega⟩]; rfl
  · rw [if_eqF e (by omega) (by omega), if_neg (fun q => e q.1)]; rfl
end CRead
