/-! T2, the whole relation -/
/-- the fires seen from hill h among the first n, as bits -/
def sb (r : Nat → Int32) (h : Nat) : Nat → Nat
  | 0 => 0
  | n + 1 => sb r h n + (if (r (91 + n)).toNatClampNeg.testBit h = true then 2 ^ n else 0)
def Rh (off : Nat) (c : St) (r : Nat → Int32) : Prop :=
  (∃ n, n ≤ 10 ∧ r 2 = Int32.ofNat n ∧ c.1 (305 + off) = Int32.ofNat n ∧ ∀ h, h < 6 → c.2.2.1 (300 + off) h = Int32.ofNat (sb r h n)) ∧ (c.1 (306 + off) = r 3 ∧ nb 8 (r 3)) ∧ (∀ i, i < 6 → c.2.2.1 (301 + off) i = r (101 + i) ∧ nb 9 (r (101 + i))) ∧ (∀ i, i < 8 → (c.2.2.1 (302 + off) i = r (107 + 2 * i) ∧ nb 5 (r (107 + 2 * i))) ∧ (c.2.2.1 (303 + off) i = r (108 + 2 * i) ∧ nb 9 (r (108 + 2 * i)))) ∧ (∀ f, f < 10 → nb 63 (r (91 + f)))
def Rc (off : Nat) (c : St) (r : Nat → Int32) : Prop :=
  (c.1 (404 + off) = r 1 ∧ nb 8 (r 1)) ∧ ∀ i, i < 8 → (c.2.2.1 (400 + off) i = r (123 + 3 * i) ∧ nb 99 (r (123 + 3 * i))) ∧ (c.2.2.1 (401 + off) i = r (124 + 3 * i) ∧ nb 10 (r (124 + 3 * i))) ∧ (c.2.2.1 (402 + off) i = r (125 + 3 * i) ∧ nb 999 (r (125 + 3 * i)))
/-- what may stand in place i of a snapshot -/
def bS (i : Nat) : Nat := if i = 0 then 999 else if i = 1 then 1000 else if i = 2 then 9 else if i < 7 then 100 else if i < 13 then 99 else if i < 19 then 63 else 1
/-- snapshot j of n; the n-th is the row itself -/
def sn (m : St) (n j i : Nat) : Int32 := if j = n then m.2.2.1 3 (6 + i) else m.2.2.1 6 (25 * j + i)
/-- a snapshot out of the one behind it, by the log -/
def pt (L : Nat → Int32) (j f g : Nat) (S : Nat → Int32) (i : Nat) : Int32 := if i = 0 then L (7 * j + 6) else if i = 3 + g then L (7 * j + 5) else if i = 7 + f then L (7 * j + 2) else if i = 13 + f then L (7 * j + 3) else if i = 19 + f then L (7 * j + 4) else S i
def RuN (n : Nat) (c m : St) : Prop := n ≤ 16 ∧ c.1 905 = Int32.ofNat n ∧ m.1 8 = Int32.ofNat n ∧ ∀ j, j < n → (∃ f, f < 6 ∧ f < (m.2.2.1 3 0).toNatClampNeg ∧ c.2.2.1 902 (7 * j + 1) = Int32.ofNat f ∧ ∀ i, i < 25 → sn m n j i = pt (c.2.2.1 902) j f (m.2.2.1 3 (31 + f)).toNatClampNeg (sn m n (j + 1)) i) ∧ (c.2.2.1 902 (7 * j) = m.2.2.1 7 j ∧ nb 3 (m.2.2.1 7 j)) ∧ ∀ i, i < 25 → nb (bS i) (sn m n j i)
/-- what can be taken back, alike -/
def Ru (c m : St) : Prop := ∃ n, RuN n c m
/-- the draws, alike -/
def Rdw (c m : St) : Prop := (c.1 1104 = 0 ∧ m.1 52 = -1) ∨ ∃ n, 1 ≤ n ∧ n ≤ 6 ∧ c.1 1104 = Int32.ofNat n ∧ m.1 52 = Int32.ofNat n ∧ (∀ k, k < n → c.2.2.1 1400 k = m.2.2.1 51 (3 * k) ∧ c.2.2.1 1402 k = m.2.2.1 51 (3 * k + 1) ∧ c.2.2.1 1401 k = m.2.2.1 51 (3 * k + 2)) ∧ ∀ g, g < 4 → c.2.2.1 1403 g = m.2.2.1 51 (18 + g)
def Rm (c m : St) : Prop := c.1 10 = m.1 11 ∧ c.1 11 = m.1 18 ∧ c.1 12 = m.1 48
/-- BOTH STATES ALIKE (but for the images) -/
def RR (fz : List FP) (c m : St) : Prop := Rq fz c m ∧ Rs c m ∧ Rt c m ∧ Rh 0 c (m.2.2.1 3) ∧ Rc 0 c (m.2.2.1 3) ∧ Ru c m ∧ Rdw c m ∧ Rm c m ∧ wdM m
/-- the images are as they were -/
def Fx (c m c' m' : St) : Prop := c'.2.2.2.2 1 = c.2.2.2.2 1 ∧ m'.2.2.1 4 = m.2.2.1 4 ∧ m'.2.2.1 5 = m.2.2.1 5
/-- A CALL: the same answer, both alike behind it -/
def Cl {α : Type} (fz : List FP) (c m : St) (x y : Option (α × St)) : Prop := ∃ v c' m', x = some (v, c') ∧ y = some (v, m') ∧ RR fz c' m' ∧ Fx c m c' m'
/-! one part alike, where its cells are as they were -/
theorem Rl.a {c c' : St} {r r' : Nat → Int32} (h : Rl 0 c r) (i1 : ∀ k, k ∈ [108, 204, 109, 110] → c'.1 k = c.1 k) (a1 : ∀ k, k ∈ [203, 200, 201, 202, 103, 104, 105] → c'.2.2.1 k = c.2.2.1 k) (e : ∀ k, k = 0 ∨ (6 ≤ k ∧ k < 91) → r' k = r k) : Rl 0 c' r' := by
  obtain ⟨h0, h1, h2, h3, h4, h5, h6, h7, h8, h9, h10⟩ := h
  refine ⟨?_, ?_, ?_, ?_, fun j hj => ?_, fun j hj => ?_, fun j hj => ?_, fun j hj => ?_, fun j hj => ?_, fun j hj => ?_, fun j hj => ?_⟩
  · rw [i1 (108 + 0) (by decide), e 0 (by omega)]; exact h0
  · rw [i1 (204 + 0) (by decide), e 6 (by omega)]; exact h1
  · rw [i1 (109 + 0) (by decide), e 7 (by omega)]; exact h2
  · rw [i1 (110 + 0) (by decide), e 8 (by omega)]; exact h3
  · rw [a1 (203 + 0) (by decide), e (9 + j) (by omega)]; exact h4 j hj
  · rw [a1 (200 + 0) (by decide), e (13 + j) (by omega)]; exact h5 j hj
  · rw [a1 (201 + 0) (by decide), e (19 + j) (by omega)]; exact h6 j hj
  · rw [a1 (202 + 0) (by decide), e (25 + j) (by omega)]; exact h7 j hj
  · rw [a1 (103 + 0) (by decide), e (31 + j) (by omega)]; exact h8 j hj
  · rw [a1 (104 + 0) (by decide), e (37 + j) (by omega)]; exact h9 j hj
  · rw [a1 (105 + 0) (by decide), e (55 + j) (by omega)]; exact h10 j hj
theorem Rw.a {fz : List FP} {c c' : St} {r r' : Nat → Int32} (h : Rw 0 fz c r) (i1 : ∀ k, k ∈ [111, 112] → c'.1 k = c.1 k) (q : c'.2.2.2.2 107 = c.2.2.2.2 107) (e : ∀ k, k = 4 ∨ k = 5 ∨ 150 ≤ k → r' k = r k) : Rw 0 fz c' r' := by
  obtain ⟨h1, h2, h3, h4⟩ := h
  have q' : c'.2.2.2.2 (107 + 0) = c.2.2.2.2 (107 + 0) := q
  unfold Rw
  rw [i1 (111 + 0) (by decide), i1 (112 + 0) (by decide), q', e 4 (by omega), e 5 (by omega)]
  refine ⟨h1, h2, h3, fun i hi => ?_⟩
  have : (fun k => r' (150 + 900 * i + k)) = (fun k => r (150 + 900 * i + k)) := funext (fun k => e _ (by omega))
  rw [this]
  exact h4 i hi
theorem Rs.a {c c' m m' : St} (h : Rs c m) (c1 : c'.1 9 = c.1 9) (c2 : c'.2.2.1 8 = c.2.2.1 8) (m1 : m'.1 1 = m.1 1) (m2 : m'.2.2.1 2 = m.2.2.1 2) : Rs c' m' := by
  unfold Rs
  rw [c1, c2, m1, m2]; exact h
theorem Rt.a {c c' m m' : St} (h : Rt c m) (c1 : c'.1 504 = c.1 504) (c2 : c'.2.2.1 500 = c.2.2.1 500) (m1 : m'.1 13 = m.1 13) (m2 : m'.2.2.1 12 = m.2.2.1 12) : Rt c' m' := by
  obtain ⟨L, h⟩ := h
  refine ⟨L, ?_⟩
  unfold RtL
  rw [c1, c2, m1, m2]; exact h
theorem sb_e {r r' : Nat → Int32} {h : Nat} : ∀ n, (∀ k, k < n → r' (91 + k) = r (91 + k)) → sb r' h n = sb r h n := by
  intro n
  induction n with
  | zero => intro _; rfl
  | succ n ih =>
    intro e
    unfold sb
    rw [ih (fun k hk => e k (by omega)), e n (by omega)]
theorem Rh.a {c c' : St} {r r' : Nat → Int32} (h : Rh 0 c r) (i1 : ∀ k, k ∈ [305, 306] → c'.1 k = c.1 k) (a1 : ∀ k, k ∈ [300, 301, 302, 303] → c'.2.2.1 k = c.2.2.1 k) (e : ∀ k, k = 2 ∨ k = 3 ∨ (91 ≤ k ∧ k < 123) → r' k = r k) : Rh 0 c' r' := by
  obtain ⟨⟨n, n1, n2, n3, n4⟩, h2, h3, h4, h5⟩ := h
  refine ⟨⟨n, n1, ?_, ?_, fun q hq => ?_⟩, ?_, fun i hi => ?_, fun i hi => ?_, fun i hi => ?_⟩
  · rw [e 2 (by omega)]; exact n2
  · rw [i1 (305 + 0) (by decide)]; exact n3
  · rw [a1 (300 + 0) (by decide), sb_e n (fun k hk => e _ (by omega))]; exact n4 q hq
  · rw [i1 (306 + 0) (by decide), e 3 (by omega)]; exact h2
  · rw [a1 (301 + 0) (by decide), e (101 + i) (by omega)]; exact h3 i hi
  · rw [a1 (302 + 0) (by decide), a1 (303 + 0) (by decide), e (107 + 2 * i) (by omega), e (108 + 2 * i) (by omega)]; exact h4 i hi
  · rw [e (91 + i) (by omega)]; exact h5 i hi
theorem Rc.a {c c' : St} {r r' : Nat → Int32} (h : Rc 0 c r) (i1 : c'.1 404 = c.1 404) (a1 : ∀ k, k ∈ [400, 401, 402] → c'.2.2.1 k = c.2.2.1 k) (e : ∀ k, k = 1 ∨ (123 ≤ k ∧ k < 150) → r' k = r k) : Rc 0 c' r' := by
  obtain ⟨h1, h2⟩ := h
  have i1' : c'.1 (404 + 0) = c.1 (404 + 0) := i1
  refine ⟨?_, fun i hi => ?_⟩
  · rw [i1', e 1 (by omega)]; exact h1
  · rw [a1 (400 + 0) (by decide), a1 (401 + 0) (by decide), a1 (402 + 0) (by decide), e (123 + 3 * i) (by omega), e (124 + 3 * i) (by omega), e (125 + 3 * i) (by omega)]; exact h2 i hi
theorem sn_e {m m' : St} {n j i : Nat} (hi : i < 25) (e : ∀ k, k < 37 → m'.2.2.1 3 k = m.2.2.1 3 k) (e6 : m'.2.2.1 6 = m.2.2.1 6) : sn m' n j i = sn m n j i := by
  unfold sn
  rw [e (6 + i) (by omega), e6]
theorem pt_e {L : Nat → Int32} {j f g : Nat} {S S' : Nat → Int32} {i : Nat} (h : S' i = S i) : pt L j f g S' i = pt L j f g S i := by
  unfold pt
  rw [h]
theorem Ru.a {c c' m m' : St} (h : Ru c m) (c1 : c'.1 905 = c.1 905) (c2 : c'.2.2.1 902 = c.2.2.1 902) (m1 : m'.1 8 = m.1 8) (m6 : m'.2.2.1 6 = m.2.2.1 6) (m7 : m'.2.2.1 7 = m.2.2.1 7) (e : ∀ k, k < 37 → m'.2.2.1 3 k = m.2.2.1 3 k) : Ru c' m' := by
  obtain ⟨n, h1, h2, h3, h4⟩ := h
  refine ⟨n, h1, by rw [c1]; exact h2, by rw [m1]; exact h3, fun j hj => ?_⟩
  obtain ⟨⟨f, f1, f2, f3, f4⟩, h5, h6⟩ := h4 j hj
  rw [c2, m7]
  refine ⟨⟨f, f1, ?_, f3, fun i hi => ?_⟩, h5, fun i hi => ?_⟩
  · rw [e 0 (by omega)]; exact f2
  · rw [sn_e hi e m6, e (31 + f) (by omega), pt_e (sn_e hi e m6)]; exact f4 i hi
  · rw [sn_e hi e m6]; exact h6 i hi
theorem Ru.z {c m : St} (h1 : c.1 905 = 0) (h2 : m.1 8 = 0) : Ru c m := ⟨0, by decide, h1, h2, fun _ hj => absurd hj (by omega)⟩
theorem Rdw.a {c c' m m' : St} (h : Rdw c m) (c1 : c'.1 1104 = c.1 1104) (a1 : ∀ k, k ∈ [1400, 1401, 1402, 1403] → c'.2.2.1 k = c.2.2.1 k) (m1 : m'.1 52 = m.1 52) (m2 : m'.2.2.1 51 = m.2.2.1 51) : Rdw c' m' := by
  unfold Rdw
  rw [c1, m1, m2, a1 1400 (by decide), a1 1401 (by decide), a1 1402 (by decide), a1 1403 (by decide)]; exact h
theorem Rm.a {c c' m m' : St} (h : Rm c m) (c1 : ∀ k, k ∈ [10, 11, 12] → c'.1 k = c.1 k) (m1 : ∀ k, k ∈ [11, 18, 48] → m'.1 k = m.1 k) : Rm c' m' := by
  unfold Rm
  rw [c1 10 (by decide), c1 11 (by decide), c1 12 (by decide), m1 11 (by decide), m1 18 (by decide), m1 48 (by decide)]; exact h
theorem wdM.a {m m' : St} (h : wdM m) (e : ∀ k, k ∈ [31, 32, 33, 44] → m'.2.2.2.1 k = m.2.2.2.1 k) : wdM m' := by
  unfold wdM
  rw [e 31 (by decide), e 32 (by decide), e 33 (by decide), e 44 (by decide)]; exact h
/-! nothing that counts has changed -/
def cI : List Nat := [108, 204, 109, 110, 111, 112, 9, 504, 305, 306, 404, 905, 1104, 10, 11, 12]
def cR : List Nat := [203, 200, 201, 202, 103, 104, 105, 8, 500, 300, 301, 302, 303, 400, 401, 402, 902, 1400, 1401, 1402, 1403]
def mI : List Nat := [20, 1, 13, 8, 52, 11, 18, 48]
def mR : List Nat := [3, 2, 12, 6, 7, 51, 4, 5]
def ca (c c' : St) : Prop := (∀ k, k ∈ cI → c'.1 k = c.1 k) ∧ (∀ k, k ∈ cR → c'.2.2.1 k = c.2.2.1 k) ∧ c'.2.2.2.2 = c.2.2.2.2
def ma (m m' : St) : Prop := (∀ k, k ∈ mI → m'.1 k = m.1 k) ∧ (∀ k, k ∈ mR → m'.2.2.1 k = m.2.2.1 k) ∧ (∀ k, k ∈ [31, 32, 33, 44] → m'.2.2.2.1 k = m.2.2.2.1 k)
theorem RR.a {fz : List FP} {c m c' m' : St} (h : RR fz c m) (k : ca c c') (q : ma m m') : RR fz c' m' ∧ Fx c m c' m' := by
  obtain ⟨⟨h1, h2, h3⟩, h4, h5, h6, h7, h8, h9, h10, h11⟩ := h
  have e3 : m'.2.2.1 3 = m.2.2.1 3 := q.2.1 3 (by decide)
  have e : ∀ k, m'.2.2.1 3 k = m.2.2.1 3 k := fun k => by rw [e3]
  have sI : ∀ {l : List Nat}, (∀ x, x ∈ l → x ∈ cI) → ∀ x, x ∈ l → c'.1 x = c.1 x := fun s x hx => k.1 x (s x hx)
  have sR : ∀ {l : List Nat}, (∀ x, x ∈ l → x ∈ cR) → ∀ x, x ∈ l → c'.2.2.1 x = c.2.2.1 x := fun s x hx => k.2.1 x (s x hx)
  have tI : ∀ {l : List Nat}, (∀ x, x ∈ l → x ∈ mI) → ∀ x, x ∈ l → m'.1 x = m.1 x := fun s x hx => q.1 x (s x hx)
  refine ⟨⟨⟨?_, ?_, ?_⟩, ?_, ?_, ?_, ?_, ?_, ?_, ?_, ?_⟩, ?_, q.2.1 4 (by decide), q.2.1 5 (by decide)⟩
  · exact h1.a (sI (by decide)) (sR (by decide)) (fun k _ => e k)
  · exact h2.a (sI (by decide)) (by rw [k.2.2]) (fun k _ => e k)
  · rw [q.1 20 (by decide)]; exact h3
  · exact h4.a (k.1 9 (by decide)) (k.2.1 8 (by decide)) (q.1 1 (by decide)) (q.2.1 2 (by decide))
  · exact h5.a (k.1 504 (by decide)) (k.2.1 500 (by decide)) (q.1 13 (by decide)) (q.2.1 12 (by decide))
  · exact h6.a (sI (by decide)) (sR (by decide)) (fun k _ => e k)
  · exact h7.a (k.1 404 (by decide)) (sR (by decide)) (fun k _ => e k)
  · exact h8.a (k.1 905 (by decide)) (k.2.1 902 (by decide)) (q.1 8 (by decide)) (q.2.1 6 (by decide)) (q.2.1 7 (by decide)) (fun k _ => e k)
  · exact h9.a (k.1 1104 (by decide)) (sR (by decide)) (q.1 52 (by decide)) (q.2.1 51 (by decide))
  · exact h10.a (sI (by decide)) (tI (by decide))
  · exact h11.a q.2.2
  · rw [k.2.2]
theorem cq2.ca {c c' : St} (h : cq2 c c') : ca c c' := ⟨fun k _ => by rw [h.1], fun k hk => h.2.2.1 k (fun e => by rw [e] at hk; exact absurd hk (by decide)) (fun e => by rw [e] at hk; exact absurd hk (by decide)), h.2.2.2.2⟩
theorem mq.ma {m m' : St} (h : mq (sI m 0 0) m') : ma m m' := by
  refine ⟨fun k hk => ?_, fun k _ => by rw [h.2.2.1]; rfl, fun k hk => ?_⟩
  · rw [h.1 k (fun e => by rw [e] at hk; exact absurd hk (by decide)) (fun e => by rw [e] at hk; exact absurd hk (by decide)), sI_1, if_neg (fun (e : k = 0) => by rw [e] at hk; exact absurd hk (by decide))]
  · rw [h.2.2.2.1 k (fun e => by rw [e] at hk; exact absurd hk (by decide)) (fun e => by rw [e] at hk; exact absurd hk (by decide))]; rfl
theorem fr.ca {I J A : List Nat} {c c' : St} (h : fr I J A c c') (h1 : ∀ k, k ∈ cI → k ∉ I) (h2 : ∀ k, k ∈ cR → k ∉ A) : ca c c' := ⟨fun k hk => h.1 k (h1 k hk), fun k hk => h.2.2.1 k (h2 k hk), by rw [h.2.2.2]⟩
theorem fr.ma {I J A : List Nat} {m m' : St} (h : fr I J A m m') (h1 : ∀ k, k ∈ mI → k ∉ I) (h2 : ∀ k, k ∈ mR → k ∉ A) : ma m m' := ⟨fun k hk => h.1 k (h1 k hk), fun k hk => h.2.2.1 k (h2 k hk), fun k _ => by rw [h.2.2.2]⟩
theorem Cl.q {α : Type} {fz : List FP} {c m : St} {x y : Option (α × St)} (h : RR fz c m) (k : Sm c (sI m 0 0) x y) : Cl fz c m x y := by
  obtain ⟨v, c', m', e1, e2, e3, e4⟩ := k
  obtain ⟨r1, r2⟩ := h.a e3.lo.ca e4.ma
  exact ⟨v, c', m', e1, e2, r1, r2⟩
theorem Cl.q2 {α : Type} {fz : List FP} {c m : St} {x y : Option (α × St)} (h : RR fz c m) (k : Sm2 c (sI m 0 0) x y) : Cl fz c m x y := by
  obtain ⟨v, c', m', e1, e2, e3, e4⟩ := k
  obtain ⟨r1, r2⟩ := h.a e3.ca e4.ma
  exact ⟨v, c', m', e1, e2, r1, r2⟩
theorem Cl.ok {fz : List FP} {c m : St} {x y : Option (Int32 × St)} (h : RR fz c m) (k : Ok fz c m x y) : Cl fz c m x y := by
  obtain ⟨v, c', m', e1, e2, q, s, f, g, e, u⟩ := k
  obtain ⟨-, -, h5, h6, h7, h8, h9, h10, h11⟩ := h
  have fi : ∀ {l : List Nat}, (∀ x, x ∈ l → x ∉ [9, 108, 109, 110, 204, 905]) → ∀ x, x ∈ l → c'.1 x = c.1 x := fun s x hx => f.1 x (s x hx)
  have fa : ∀ {l : List Nat}, (∀ x, x ∈ l → x ∉ [8, 103, 104, 105, 200, 201, 202, 203]) → ∀ x, x ∈ l → c'.2.2.1 x = c.2.2.1 x := fun s x hx => f.2.2.1 x (s x hx)
  have gi1 : ∀ {l : List Nat}, (∀ x, x ∈ l → x ∉ [0, 1, 8]) → ∀ x, x ∈ l → m'.1 x = m.1 x := fun s x hx => g.1 x (s x hx)
  refine ⟨v, c', m', e1, e2, ⟨q, s, ?_, ?_, ?_, ?_, ?_, ?_, ?_⟩, by rw [f.2.2.2], g.2.2.1 4 (by decide), g.2.2.1 5 (by decide)⟩
  · exact h5.a (f.1 504 (by decide)) (f.2.2.1 500 (by decide)) (g.1 13 (by decide)) (g.2.2.1 12 (by decide))
  · exact h6.a (fi (by decide)) (fa (by decide)) (fun k hk => e k (by omega))
  · exact h7.a (f.1 404 (by decide)) (fa (by decide)) (fun k hk => e k (by omega))
  · rcases u with ⟨u1, u2, u3⟩ | ⟨u1, u2⟩
    · exact h8.a u1 (f.2.2.1 902 (by decide)) u2 (g.2.2.1 6 (by decide)) (g.2.2.1 7 (by decide)) u3
    · exact Ru.z u1 u2
  · exact h9.a (f.1 1104 (by decide)) (fa (by decide)) (g.1 52 (by decide)) (g.2.2.1 51 (by decide))
  · exact h10.a (fi (by decide)) (gi1 (by decide))
  · exact h11.a (fun k _ => by rw [g.2.2.2])
