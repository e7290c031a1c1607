/-! T2, law: the text is read; refused -/
section LawCall
variable {fz : List FP} {c m : St}
theorem sI_self {st : St} {k : Nat} {x : Int32} (h : st.1 k = x) : sI st k x = st := by
  unfold sI
  have : va_up st.1 k x = st.1 := by
    funext j
    rw [vup_v]
    split
    · rename_i e; rw [e, h]
    · rfl
  rw [this]
/-- a text was read: what counts is alike -/
theorem RR.text {c' m' : St} (h : RR fz c m) (f : fr [11, 12, 504, 505, 604, 605, 702, 703, 704, 705, 706] [] [501, 502, 503, 600, 601, 602, 603] c c') (g : fr [0, 13, 14, 15, 16, 18, 19, 20, 21, 23, 26, 29, 30, 48] [17] [22, 24, 25, 27, 28, 45] m m') (h1 : c'.1 504 = 0) (h2 : m'.1 13 = 0) (h3 : m'.1 20 = 0) (h4 : c'.1 11 = m'.1 18) (h5 : c'.1 12 = m'.1 48) : RR fz c' m' ∧ Fx c m c' m' := by
  obtain ⟨⟨q1, q2, q3⟩, q4, q5, q6, q7, q8, q9, q10, q11⟩ := h
  have e3 : m'.2.2.1 3 = m.2.2.1 3 := g.2.2.1 3 (by decide)
  have e : ∀ k, m'.2.2.1 3 k = m.2.2.1 3 k := fun k => by rw [e3]
  have fi : ∀ {l : List Nat}, (∀ x, x ∈ l → x ∉ [11, 12, 504, 505, 604, 605, 702, 703, 704, 705, 706]) → ∀ x, x ∈ l → c'.1 x = c.1 x := fun s x hx => f.1 x (s x hx)
  have fa : ∀ {l : List Nat}, (∀ x, x ∈ l → x ∉ [501, 502, 503, 600, 601, 602, 603]) → ∀ x, x ∈ l → c'.2.2.1 x = c.2.2.1 x := fun s x hx => f.2.2.1 x (s x hx)
  refine ⟨⟨⟨?_, ?_, h3⟩, ?_, ?_, ?_, ?_, ?_, ?_, ⟨?_, h4, h5⟩, ?_⟩, by rw [f.2.2.2], g.2.2.1 4 (by decide), g.2.2.1 5 (by decide)⟩
  · exact q1.a (fi (by decide)) (fa (by decide)) (fun k _ => e k)
  · exact q2.a (fi (by decide)) (by rw [f.2.2.2]) (fun k _ => e k)
  · exact q4.a (f.1 9 (by decide)) (f.2.2.1 8 (by decide)) (g.1 1 (by decide)) (g.2.2.1 2 (by decide))
  · obtain ⟨L, l1, l2, l3, l4⟩ := q5
    refine ⟨0, by omega, h1, h2, fun i hi => ?_⟩
    rw [f.2.2.1 500 (by decide), g.2.2.1 12 (by decide)]; exact l4 i hi
  · exact q6.a (fi (by decide)) (fa (by decide)) (fun k _ => e k)
  · exact q7.a (f.1 404 (by decide)) (fa (by decide)) (fun k _ => e k)
  · exact q8.a (f.1 905 (by decide)) (f.2.2.1 902 (by decide)) (g.1 8 (by decide)) (g.2.2.1 6 (by decide)) (g.2.2.1 7 (by decide)) (fun k _ => e k)
  · exact q9.a (f.1 1104 (by decide)) (fa (by decide)) (g.1 52 (by decide)) (g.2.2.1 51 (by decide))
  · rw [f.1 10 (by decide), g.1 11 (by decide)]; exact q10.1
  · exact q11.a (fun k _ => by rw [g.2.2.2])
/-- refused, from a state whose counter is 0 already -/
theorem cl_ref0 {n : Nat} (h : RR fz c m) (h0 : m.1 0 = 0) (h1 : 1 ≤ n) (h6 : n ≤ 6) : ∃ c' m', fX11_refuse (-(Int32.ofNat n)) fz c = some (-(Int32.ofNat n), c') ∧ fX12_tell (-(Int32.ofNat n)) m = some (-(Int32.ofNat n), m') ∧ RR fz c' m' ∧ Fx c m c' m' := by
  obtain ⟨v, c', m', e1, e2, e3, e4⟩ := cl_refuse (n := n) h h1 h6
  rw [sI_self h0] at e2
  obtain ⟨c2, m2, k1, k2, -⟩ := refuse_both (fz := fz) (n := n) h.2.1 h1 h6
  rw [k1, bd_v] at e1
  rw [k2, bd_v] at e2
  cases e1
  cases e2
  exact ⟨c', m', k1, k2, e3, e4⟩
/-- both readers over a law's text -/
theorem law_read (h : RR fz c m) : ∃ v c' m', fX9_read 1 fz c = some (v, c') ∧ (bd (fX12_beginText 0 m) (fun _ st23 => bd (fX12_readLaw st23) (fun _ st25 => lp (fun _ => none) fX12_law_b37 6000 st25))) = fX12_law_b64 m' ∧ fr [505, 604, 605, 702, 703, 704, 705, 706] [] [501, 502, 503, 600, 601, 602, 603] c c' ∧ fr [14, 15, 16, 18, 19, 20, 21, 23, 26, 29, 30] [17] [22, 24, 25, 27, 28] m m' ∧ (∃ B L T, (v = -1 ∧ m'.1 18 = -1 ∧ ∃ k' j' n' Cm' Cc', JLV B L T k' j' n' Cm' Cc' c' m' ∧ tK B L j' = 257) ∨ (∃ e, v = Int32.ofNat (tP B L e) ∧ tP B L e ≤ 400 ∧ m'.1 19 = 1 ∧ m'.1 18 = Int32.ofNat (tP B L e)) ∨ (∃ e n P C o, v = Int32.ofNat (tP B L e) ∧ tP B L e ≤ 400 ∧ Mv true B L e n P C o m' ∧ tK B L e ≠ 257)) := by
  sorry
end LawCall
