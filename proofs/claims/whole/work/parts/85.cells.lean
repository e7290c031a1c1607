/-! T2, one cell of the land is written -/
theorem Rl.i108 {c : St} {r : Nat → Int32} {x : Int32} (h : Rl 0 c r) (hx : nb 6 x) : Rl 0 (sI c 108 x) (upd r 0 x) := by
  obtain ⟨h0, h1, h2, h3, h4, h5, h6, h7, h8, h9, h10⟩ := h
  have un : ∀ k, k ≠ 0 → upd r (0) x k = r k := fun k hk => by rw [upd_v, if_neg hk]
  refine ⟨?_, ?_, ?_, ?_, ?_, ?_, ?_, ?_, ?_, ?_, ?_⟩
  · exact ⟨rfl, hx⟩
  · rw [un 6 (by omega)]; exact h1
  · rw [un 7 (by omega)]; exact h2
  · rw [un 8 (by omega)]; exact h3
  · intro j hj
    rw [un (9 + j) (by omega)]; exact h4 j hj
  · intro j hj
    rw [un (13 + j) (by omega)]; exact h5 j hj
  · intro j hj
    rw [un (19 + j) (by omega)]; exact h6 j hj
  · intro j hj
    rw [un (25 + j) (by omega)]; exact h7 j hj
  · intro j hj
    rw [un (31 + j) (by omega)]; exact h8 j hj
  · intro j hj
    rw [un (37 + j) (by omega)]; exact h9 j hj
  · intro j hj
    rw [un (55 + j) (by omega)]; exact h10 j hj
theorem Rl.i204 {c : St} {r : Nat → Int32} {x : Int32} (h : Rl 0 c r) (hx : nb 999 x) : Rl 0 (sI c 204 x) (upd r 6 x) := by
  obtain ⟨h0, h1, h2, h3, h4, h5, h6, h7, h8, h9, h10⟩ := h
  have un : ∀ k, k ≠ 6 → upd r (6) x k = r k := fun k hk => by rw [upd_v, if_neg hk]
  refine ⟨?_, ?_, ?_, ?_, ?_, ?_, ?_, ?_, ?_, ?_, ?_⟩
  · rw [un 0 (by omega)]; exact h0
  · exact ⟨rfl, hx⟩
  · rw [un 7 (by omega)]; exact h2
  · rw [un 8 (by omega)]; exact h3
  · intro j hj
    rw [un (9 + j) (by omega)]; exact h4 j hj
  · intro j hj
    rw [un (13 + j) (by omega)]; exact h5 j hj
  · intro j hj
    rw [un (19 + j) (by omega)]; exact h6 j hj
  · intro j hj
    rw [un (25 + j) (by omega)]; exact h7 j hj
  · intro j hj
    rw [un (31 + j) (by omega)]; exact h8 j hj
  · intro j hj
    rw [un (37 + j) (by omega)]; exact h9 j hj
  · intro j hj
    rw [un (55 + j) (by omega)]; exact h10 j hj
theorem Rl.i109 {c : St} {r : Nat → Int32} {x : Int32} (h : Rl 0 c r) (hx : nb 1000 x) : Rl 0 (sI c 109 x) (upd r 7 x) := by
  obtain ⟨h0, h1, h2, h3, h4, h5, h6, h7, h8, h9, h10⟩ := h
  have un : ∀ k, k ≠ 7 → upd r (7) x k = r k := fun k hk => by rw [upd_v, if_neg hk]
  refine ⟨?_, ?_, ?_, ?_, ?_, ?_, ?_, ?_, ?_, ?_, ?_⟩
  · rw [un 0 (by omega)]; exact h0
  · rw [un 6 (by omega)]; exact h1
  · exact ⟨rfl, hx⟩
  · rw [un 8 (by omega)]; exact h3
  · intro j hj
    rw [un (9 + j) (by omega)]; exact h4 j hj
  · intro j hj
    rw [un (13 + j) (by omega)]; exact h5 j hj
  · intro j hj
    rw [un (19 + j) (by omega)]; exact h6 j hj
  · intro j hj
    rw [un (25 + j) (by omega)]; exact h7 j hj
  · intro j hj
    rw [un (31 + j) (by omega)]; exact h8 j hj
  · intro j hj
    rw [un (37 + j) (by omega)]; exact h9 j hj
  · intro j hj
    rw [un (55 + j) (by omega)]; exact h10 j hj
theorem Rl.i110 {c : St} {r : Nat → Int32} {x : Int32} (h : Rl 0 c r) (hx : nb 9 x) : Rl 0 (sI c 110 x) (upd r 8 x) := by
  obtain ⟨h0, h1, h2, h3, h4, h5, h6, h7, h8, h9, h10⟩ := h
  have un : ∀ k, k ≠ 8 → upd r (8) x k = r k := fun k hk => by rw [upd_v, if_neg hk]
  refine ⟨?_, ?_, ?_, ?_, ?_, ?_, ?_, ?_, ?_, ?_, ?_⟩
  · rw [un 0 (by omega)]; exact h0
  · rw [un 6 (by omega)]; exact h1
  · rw [un 7 (by omega)]; exact h2
  · exact ⟨rfl, hx⟩
  · intro j hj
    rw [un (9 + j) (by omega)]; exact h4 j hj
  · intro j hj
    rw [un (13 + j) (by omega)]; exact h5 j hj
  · intro j hj
    rw [un (19 + j) (by omega)]; exact h6 j hj
  · intro j hj
    rw [un (25 + j) (by omega)]; exact h7 j hj
  · intro j hj
    rw [un (31 + j) (by omega)]; exact h8 j hj
  · intro j hj
    rw [un (37 + j) (by omega)]; exact h9 j hj
  · intro j hj
    rw [un (55 + j) (by omega)]; exact h10 j hj
theorem Rl.u203 {c : St} {r : Nat → Int32} {i : Nat} {x : Int32} (h : Rl 0 c r) (hi : i < 4) (hx : nb 100 x) : Rl 0 (sA c 203 (upd (c.2.2.1 203) i x)) (upd r (9 + i) x) := by
  obtain ⟨h0, h1, h2, h3, h4, h5, h6, h7, h8, h9, h10⟩ := h
  have un : ∀ k, k ≠ 9 + i → upd r (9 + i) x k = r k := fun k hk => by rw [upd_v, if_neg hk]
  refine ⟨?_, ?_, ?_, ?_, ?_, ?_, ?_, ?_, ?_, ?_, ?_⟩
  · rw [un 0 (by omega)]; exact h0
  · rw [un 6 (by omega)]; exact h1
  · rw [un 7 (by omega)]; exact h2
  · rw [un 8 (by omega)]; exact h3
  · intro j hj
    show upd (c.2.2.1 203) i x j = upd r (9 + i) x (9 + j) ∧ nb 100 (upd r (9 + i) x (9 + j))
    by_cases q : j = i
    · subst q; rw [upd_v, if_pos rfl, upd_v, if_pos rfl]; exact ⟨rfl, hx⟩
    · rw [un (9 + j) (by omega), upd_v, if_neg q]; exact h4 j hj
  · intro j hj
    rw [un (13 + j) (by omega)]; exact h5 j hj
  · intro j hj
    rw [un (19 + j) (by omega)]; exact h6 j hj
  · intro j hj
    rw [un (25 + j) (by omega)]; exact h7 j hj
  · intro j hj
    rw [un (31 + j) (by omega)]; exact h8 j hj
  · intro j hj
    rw [un (37 + j) (by omega)]; exact h9 j hj
  · intro j hj
    rw [un (55 + j) (by omega)]; exact h10 j hj
theorem Rl.u200 {c : St} {r : Nat → Int32} {i : Nat} {x : Int32} (h : Rl 0 c r) (hi : i < 6) (hx : nb 99 x) : Rl 0 (sA c 200 (upd (c.2.2.1 200) i x)) (upd r (13 + i) x) := by
  obtain ⟨h0, h1, h2, h3, h4, h5, h6, h7, h8, h9, h10⟩ := h
  have un : ∀ k, k ≠ 13 + i → upd r (13 + i) x k = r k := fun k hk => by rw [upd_v, if_neg hk]
  refine ⟨?_, ?_, ?_, ?_, ?_, ?_, ?_, ?_, ?_, ?_, ?_⟩
  · rw [un 0 (by omega)]; exact h0
  · rw [un 6 (by omega)]; exact h1
  · rw [un 7 (by omega)]; exact h2
  · rw [un 8 (by omega)]; exact h3
  · intro j hj
    rw [un (9 + j) (by omega)]; exact h4 j hj
  · intro j hj
    show upd (c.2.2.1 200) i x j = upd r (13 + i) x (13 + j) ∧ nb 99 (upd r (13 + i) x (13 + j))
    by_cases q : j = i
    · subst q; rw [upd_v, if_pos rfl, upd_v, if_pos rfl]; exact ⟨rfl, hx⟩
    · rw [un (13 + j) (by omega), upd_v, if_neg q]; exact h5 j hj
  · intro j hj
    rw [un (19 + j) (by omega)]; exact h6 j hj
  · intro j hj
    rw [un (25 + j) (by omega)]; exact h7 j hj
  · intro j hj
    rw [un (31 + j) (by omega)]; exact h8 j hj
  · intro j hj
    rw [un (37 + j) (by omega)]; exact h9 j hj
  · intro j hj
    rw [un (55 + j) (by omega)]; exact h10 j hj
theorem Rl.u201 {c : St} {r : Nat → Int32} {i : Nat} {x : Int32} (h : Rl 0 c r) (hi : i < 6) (hx : nb 63 x) : Rl 0 (sA c 201 (upd (c.2.2.1 201) i x)) (upd r (19 + i) x) := by
  obtain ⟨h0, h1, h2, h3, h4, h5, h6, h7, h8, h9, h10⟩ := h
  have un : ∀ k, k ≠ 19 + i → upd r (19 + i) x k = r k := fun k hk => by rw [upd_v, if_neg hk]
  refine ⟨?_, ?_, ?_, ?_, ?_, ?_, ?_, ?_, ?_, ?_, ?_⟩
  · rw [un 0 (by omega)]; exact h0
  · rw [un 6 (by omega)]; exact h1
  · rw [un 7 (by omega)]; exact h2
  · rw [un 8 (by omega)]; exact h3
  · intro j hj
    rw [un (9 + j) (by omega)]; exact h4 j hj
  · intro j hj
    rw [un (13 + j) (by omega)]; exact h5 j hj
  · intro j hj
    show upd (c.2.2.1 201) i x j = upd r (19 + i) x (19 + j) ∧ nb 63 (upd r (19 + i) x (19 + j))
    by_cases q : j = i
    · subst q; rw [upd_v, if_pos rfl, upd_v, if_pos rfl]; exact ⟨rfl, hx⟩
    · rw [un (19 + j) (by omega), upd_v, if_neg q]; exact h6 j hj
  · intro j hj
    rw [un (25 + j) (by omega)]; exact h7 j hj
  · intro j hj
    rw [un (31 + j) (by omega)]; exact h8 j hj
  · intro j hj
    rw [un (37 + j) (by omega)]; exact h9 j hj
  · intro j hj
    rw [un (55 + j) (by omega)]; exact h10 j hj
theorem Rl.u202 {c : St} {r : Nat → Int32} {i : Nat} {x : Int32} (h : Rl 0 c r) (hi : i < 6) (hx : nb 1 x) : Rl 0 (sA c 202 (upd (c.2.2.1 202) i x)) (upd r (25 + i) x) := by
  obtain ⟨h0, h1, h2, h3, h4, h5, h6, h7, h8, h9, h10⟩ := h
  have un : ∀ k, k ≠ 25 + i → upd r (25 + i) x k = r k := fun k hk => by rw [upd_v, if_neg hk]
  refine ⟨?_, ?_, ?_, ?_, ?_, ?_, ?_, ?_, ?_, ?_, ?_⟩
  · rw [un 0 (by omega)]; exact h0
  · rw [un 6 (by omega)]; exact h1
  · rw [un 7 (by omega)]; exact h2
  · rw [un 8 (by omega)]; exact h3
  · intro j hj
    rw [un (9 + j) (by omega)]; exact h4 j hj
  · intro j hj
    rw [un (13 + j) (by omega)]; exact h5 j hj
  · intro j hj
    rw [un (19 + j) (by omega)]; exact h6 j hj
  · intro j hj
    show upd (c.2.2.1 202) i x j = upd r (25 + i) x (25 + j) ∧ nb 1 (upd r (25 + i) x (25 + j))
    by_cases q : j = i
    · subst q; rw [upd_v, if_pos rfl, upd_v, if_pos rfl]; exact ⟨rfl, hx⟩
    · rw [un (25 + j) (by omega), upd_v, if_neg q]; exact h7 j hj
  · intro j hj
    rw [un (31 + j) (by omega)]; exact h8 j hj
  · intro j hj
    rw [un (37 + j) (by omega)]; exact h9 j hj
  · intro j hj
    rw [un (55 + j) (by omega)]; exact h10 j hj
theorem Rl.u103 {c : St} {r : Nat → Int32} {i : Nat} {x : Int32} (h : Rl 0 c r) (hi : i < 6) (hx : nb 3 x) : Rl 0 (sA c 103 (upd (c.2.2.1 103) i x)) (upd r (31 + i) x) := by
  obtain ⟨h0, h1, h2, h3, h4, h5, h6, h7, h8, h9, h10⟩ := h
  have un : ∀ k, k ≠ 31 + i → upd r (31 + i) x k = r k := fun k hk => by rw [upd_v, if_neg hk]
  refine ⟨?_, ?_, ?_, ?_, ?_, ?_, ?_, ?_, ?_, ?_, ?_⟩
  · rw [un 0 (by omega)]; exact h0
  · rw [un 6 (by omega)]; exact h1
  · rw [un 7 (by omega)]; exact h2
  · rw [un 8 (by omega)]; exact h3
  · intro j hj
    rw [un (9 + j) (by omega)]; exact h4 j hj
  · intro j hj
    rw [un (13 + j) (by omega)]; exact h5 j hj
  · intro j hj
    rw [un (19 + j) (by omega)]; exact h6 j hj
  · intro j hj
    rw [un (25 + j) (by omega)]; exact h7 j hj
  · intro j hj
    show upd (c.2.2.1 103) i x j = upd r (31 + i) x (31 + j) ∧ nb 3 (upd r (31 + i) x (31 + j))
    by_cases q : j = i
    · subst q; rw [upd_v, if_pos rfl, upd_v, if_pos rfl]; exact ⟨rfl, hx⟩
    · rw [un (31 + j) (by omega), upd_v, if_neg q]; exact h8 j hj
  · intro j hj
    rw [un (37 + j) (by omega)]; exact h9 j hj
  · intro j hj
    rw [un (55 + j) (by omega)]; exact h10 j hj
theorem Rl.u104 {c : St} {r : Nat → Int32} {i : Nat} {x : Int32} (h : Rl 0 c r) (hi : i < 18) (hx : nb (if i < 12 then 10 else 99) x) : Rl 0 (sA c 104 (upd (c.2.2.1 104) i x)) (upd r (37 + i) x) := by
  obtain ⟨h0, h1, h2, h3, h4, h5, h6, h7, h8, h9, h10⟩ := h
  have un : ∀ k, k ≠ 37 + i → upd r (37 + i) x k = r k := fun k hk => by rw [upd_v, if_neg hk]
  refine ⟨?_, ?_, ?_, ?_, ?_, ?_, ?_, ?_, ?_, ?_, ?_⟩
  · rw [un 0 (by omega)]; exact h0
  · rw [un 6 (by omega)]; exact h1
  · rw [un 7 (by omega)]; exact h2
  · rw [un 8 (by omega)]; exact h3
  · intro j hj
    rw [un (9 + j) (by omega)]; exact h4 j hj
  · intro j hj
    rw [un (13 + j) (by omega)]; exact h5 j hj
  · intro j hj
    rw [un (19 + j) (by omega)]; exact h6 j hj
  · intro j hj
    rw [un (25 + j) (by omega)]; exact h7 j hj
  · intro j hj
    rw [un (31 + j) (by omega)]; exact h8 j hj
  · intro j hj
    show upd (c.2.2.1 104) i x j = upd r (37 + i) x (37 + j) ∧ nb (if j < 12 then 10 else 99) (upd r (37 + i) x (37 + j))
    by_cases q : j = i
    · subst q; rw [upd_v, if_pos rfl, upd_v, if_pos rfl]; exact ⟨rfl, hx⟩
    · rw [un (37 + j) (by omega), upd_v, if_neg q]; exact h9 j hj
  · intro j hj
    rw [un (55 + j) (by omega)]; exact h10 j hj
theorem Rl.u105 {c : St} {r : Nat → Int32} {i : Nat} {x : Int32} (h : Rl 0 c r) (hi : i < 36) (hx : nb 99 x) : Rl 0 (sA c 105 (upd (c.2.2.1 105) i x)) (upd r (55 + i) x) := by
  obtain ⟨h0, h1, h2, h3, h4, h5, h6, h7, h8, h9, h10⟩ := h
  have un : ∀ k, k ≠ 55 + i → upd r (55 + i) x k = r k := fun k hk => by rw [upd_v, if_neg hk]
  refine ⟨?_, ?_, ?_, ?_, ?_, ?_, ?_, ?_, ?_, ?_, ?_⟩
  · rw [un 0 (by omega)]; exact h0
  · rw [un 6 (by omega)]; exact h1
  · rw [un 7 (by omega)]; exact h2
  · rw [un 8 (by omega)]; exact h3
  · intro j hj
    rw [un (9 + j) (by omega)]; exact h4 j hj
  · intro j hj
    rw [un (13 + j) (by omega)]; exact h5 j hj
  · intro j hj
    rw [un (19 + j) (by omega)]; exact h6 j hj
  · intro j hj
    rw [un (25 + j) (by omega)]; exact h7 j hj
  · intro j hj
    rw [un (31 + j) (by omega)]; exact h8 j hj
  · intro j hj
    rw [un (37 + j) (by omega)]; exact h9 j hj
  · intro j hj
    show upd (c.2.2.1 105) i x j = upd r (55 + i) x (55 + j) ∧ nb 99 (upd r (55 + i) x (55 + j))
    by_cases q : j = i
    · subst q; rw [upd_v, if_pos rfl, upd_v, if_pos rfl]; exact ⟨rfl, hx⟩
    · rw [un (55 + j) (by omega), upd_v, if_neg q]; exact h10 j hj
theorem Rw.u {off : Nat} {fz : List FP} {c c' : St} {r : Nat → Int32} {k : Nat} {x : Int32} (h : Rw off fz c r) (hk : k < 150 ∧ k ≠ 4 ∧ k ≠ 5) (e1 : c'.1 (111 + off) = c.1 (111 + off)) (e2 : c'.1 (112 + off) = c.1 (112 + off)) (e3 : c'.2.2.2.2 = c.2.2.2.2) : Rw off fz c' (upd r k x) := by
  have un : ∀ j, j ≠ k → upd r k x j = r j := fun j hj => by rw [upd_v, if_neg hj]
  have uf : ∀ i, (fun j => upd r k x (150 + 900 * i + j)) = (fun j => r (150 + 900 * i + j)) := fun i => funext (fun j => un _ (by omega))
  unfold Rw
  rw [e1, e2, e3, un 4 (by omega), un 5 (by omega)]
  refine ⟨h.1, h.2.1, h.2.2.1, fun i hi => ?_⟩
  rw [uf i]
  exact h.2.2.2 i hi
