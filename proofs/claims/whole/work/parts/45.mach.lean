/-! T2, the reference's reading machine: its pile and code -/
def fr (I J A : List Nat) (st st' : St) : Prop := (∀ k, k ∉ I → st'.1 k = st.1 k) ∧ (∀ k, k ∉ J → st'.2.1 k = st.2.1 k) ∧ (∀ k, k ∉ A → st'.2.2.1 k = st.2.2.1 k) ∧ st'.2.2.2 = st.2.2.2
theorem fr.rf {I J A : List Nat} {st : St} : fr I J A st st := ⟨fun _ _ => rfl, fun _ _ => rfl, fun _ _ => rfl, rfl⟩
theorem fr.tr {I J A : List Nat} {a b c : St} (h : fr I J A a b) (k : fr I J A b c) : fr I J A a c := ⟨fun q hq => (k.1 q hq).trans (h.1 q hq), fun q hq => (k.2.1 q hq).trans (h.2.1 q hq), fun q hq => (k.2.2.1 q hq).trans (h.2.2.1 q hq), k.2.2.2.trans h.2.2.2⟩
theorem fr.up {I J A I' J' A' : List Nat} {a b : St} (h : fr I J A a b) (h1 : ∀ k, k ∈ I → k ∈ I') (h2 : ∀ k, k ∈ J → k ∈ J') (h3 : ∀ k, k ∈ A → k ∈ A') : fr I' J' A' a b := ⟨fun q hq => h.1 q (fun m => hq (h1 q m)), fun q hq => h.2.1 q (fun m => hq (h2 q m)), fun q hq => h.2.2.1 q (fun m => hq (h3 q m)), h.2.2.2⟩
theorem fr.sI {I J A : List Nat} {st : St} {k : Nat} {x : Int32} (h : k ∈ I) : fr I J A st (sI st k x) := ⟨fun q hq => by rw [sI_1, if_neg (fun (e : q = k) => hq (by rw [e]; exact h))], fun _ _ => rfl, fun _ _ => rfl, rfl⟩
theorem fr.sJ {I J A : List Nat} {st : St} {k : Nat} {x : Int64} (h : k ∈ J) : fr I J A st (sJ st k x) := ⟨fun _ _ => rfl, fun q hq => by rw [sJ_2, if_neg (fun (e : q = k) => hq (by rw [e]; exact h))], fun _ _ => rfl, rfl⟩
theorem fr.sA {I J A : List Nat} {st : St} {k : Nat} {x : Nat → Int32} (h : k ∈ A) : fr I J A st (sA st k x) := ⟨fun _ _ => rfl, fun _ _ => rfl, fun q hq => by rw [sA_3, if_neg (fun (e : q = k) => hq (by rw [e]; exact h))], rfl⟩
def bnd (o : Nat) : Nat := if 31 ≤ o then 0 else if o = 30 then 1 else if o = 29 then 2 else if o = 28 then 3 else if 25 ≤ o then 4 else if 22 ≤ o then 6 else 5
def setA : Cd → Nat → Nat → Cd
  | [], _, _ => []
  | x :: C, 0, v => (x.1, v) :: C
  | x :: C, k + 1, v => x :: setA C k v
def setl (l : Nat) : Cd → Cd → Cd × Cd
  | [], C => ([], C)
  | x :: P, C => if l ≤ bnd x.1 then (if x.1 = 29 ∨ x.1 = 30 then setl l P (setA C x.2 C.length) else setl l P (C ++ [(x.1, 0)])) else (x :: P, C)
def cst : Cd → Nat
  | [] => 0
  | x :: P => (if x.1 < 29 then 1 else 0) + cst P
def pileR (f g : Nat → Int32) : Cd → Prop
  | [] => True
  | x :: P => f P.length = Int32.ofNat x.1 ∧ g P.length = Int32.ofNat x.2 ∧ pileR f g P
def codeR (f g : Nat → Int32) (C : Cd) : Prop := ∀ i x, C[i]? = some x → f i = Int32.ofNat x.1 ∧ g i = Int32.ofNat x.2
def Mq (bb : Bool) (j : Nat) (P C : Cd) (st : St) : Prop := st.1 29 = Int32.ofNat P.length ∧ pileR (st.2.2.1 27) (st.2.2.1 28) P ∧ st.1 23 = Int32.ofNat C.length ∧ (bb = true → codeR (st.2.2.1 24) (st.2.2.1 25) C) ∧ C.length + cst P ≤ j ∧ P.length ≤ j ∧ j ≤ 400 ∧ (∀ x ∈ P, 20 ≤ x.1 ∧ x.1 ≤ 32 ∧ x.2 < 400)
theorem bnd_le (o : Nat) : bnd o ≤ 6 := by
  unfold bnd
  repeat' split
  all_goals omega
theorem setA_len : ∀ (C : Cd) (k v : Nat), (setA C k v).length = C.length := by
  intro C
  induction C with
  | nil => intro k v; rfl
  | cons x C ih =>
    intro k v
    cases k with
    | zero => rfl
    | succ k => show (setA C k v).length + 1 = _; rw [ih]; rfl
theorem setA_app : ∀ (A : Cd) (x : Nat × Nat) (B : Cd) (v : Nat), setA (A ++ x :: B) A.length v = A ++ (x.1, v) :: B := by
  intro A
  induction A with
  | nil => intro x B v; rfl
  | cons y A ih => intro x B v; show y :: setA (A ++ x :: B) A.length v = _; rw [ih]; rfl
theorem codeR_set {f g : Nat → Int32} {C : Cd} {k v : Nat} (h : codeR f g C) : codeR f (upd g k (Int32.ofNat v)) (setA C k v) := by
  induction C generalizing f g k with
  | nil => intro i x hx; simp [setA] at hx
  | cons y C ih =>
    intro i x hx
    have hs : codeR (fun i => f (i + 1)) (fun i => g (i + 1)) C := fun i x hx => h (i + 1) x hx
    cases k with
    | zero =>
      cases i with
      | zero =>
        have hx : (y.1, v) = x := by simpa [setA] using hx
        subst hx
        exact ⟨(h 0 y rfl).1, by rw [upd_v, if_pos rfl]⟩
      | succ i =>
        rw [upd_v, if_neg (by omega)]
        exact h (i + 1) x hx
    | succ k =>
      cases i with
      | zero => rw [upd_v, if_neg (by omega)]; exact h 0 x hx
      | succ i =>
        have := ih hs (k := k) i x hx
        rw [upd_v] at this ⊢
        refine ⟨this.1, ?_⟩
        rw [← this.2]
        by_cases e : i = k
        · rw [if_pos e, if_pos (by omega)]
        · rw [if_neg e, if_neg (by omega)]
theorem codeR_app {f g : Nat → Int32} {C : Cd} {o a : Nat} (h : codeR f g C) : codeR (upd f C.length (Int32.ofNat o)) (upd g C.length (Int32.ofNat a)) (C ++ [(o, a)]) := by
  intro i x hx
  rw [upd_v, upd_v]
  by_cases e : i = C.length
  · rw [if_pos e, if_pos e]
    rw [e, List.getElem?_append_right (Nat.le_refl _), Nat.sub_self] at hx
    cases hx
    exact ⟨rfl, rfl⟩
  · rw [if_neg e, if_neg e]
    have hl := (List.getElem?_eq_some_iff.mp hx).1
    rw [List.length_append] at hl
    have hl : i < C.length := by simp at hl; omega
    rw [List.getElem?_append_left hl] at hx
    exact h i x hx
theorem pileR_upd {f g : Nat → Int32} {a b : Int32} : ∀ {P : Cd} {k : Nat}, P.length ≤ k → pileR f g P → pileR (upd f k a) (upd g k b) P := by
  intro P
  induction P with
  | nil => intro k _ _; trivial
  | cons x P ih =>
    intro k hk h
    have hk : P.length + 1 ≤ k := hk
    refine ⟨?_, ?_, ih (by omega) h.2.2⟩
    · rw [upd_v, if_neg (by omega)]; exact h.1
    · rw [upd_v, if_neg (by omega)]; exact h.2.1
theorem m_binds {x : Nat} (h : x ≤ 40) : fX12_binds (Int32.ofNat x) = some (Int32.ofNat (bnd x)) := by
  have hall : ∀ x : Nat, x ≤ 40 → fX12_binds (Int32.ofNat x) = some (Int32.ofNat (bnd x)) := by decide +kernel
  exact hall x h
theorem m_emit {st : St} {c : Nat} {o a : Int32} (h : st.1 23 = Int32.ofNat c) (hc : c < 400) : fX12_emit o a st = some ((), sI (sA (sA st 24 (upd (st.2.2.1 24) c o)) 25 (upd (st.2.2.1 25) c a)) 23 (Int32.ofNat (c + 1))) := by
  unfold fX12_emit
  rw [h, gi_N hc (by omega), lt_v, oN_tn (by omega)]
  have e1 : (sA st 24 (upd (st.2.2.1 24) c o)).1 23 = Int32.ofNat c := h
  rw [e1, gi_N hc (by omega), lt_v, oN_tn (by omega), lt_v]
  have e2 : (sA (sA st 24 (upd (st.2.2.1 24) c o)) 25 (upd ((sA st 24 (upd (st.2.2.1 24) c o)).2.2.1 25) c a)).1 23 = Int32.ofNat c := h
  rw [e2, oN_lit, oN_add]
  rfl
theorem m_push {st : St} {c : Nat} {o a : Int32} (h : st.1 29 = Int32.ofNat c) (hc : c < 400) : fX12_push o a st = some ((), sI (sA (sA st 27 (upd (st.2.2.1 27) c o)) 28 (upd (st.2.2.1 28) c a)) 29 (Int32.ofNat (c + 1))) := by
  unfold fX12_push
  rw [h, gi_N hc (by omega), lt_v, oN_tn (by omega)]
  have e1 : (sA st 27 (upd (st.2.2.1 27) c o)).1 29 = Int32.ofNat c := h
  rw [e1, gi_N hc (by omega), lt_v, oN_tn (by omega), lt_v]
  have e2 : (sA (sA st 27 (upd (st.2.2.1 27) c o)) 28 (upd ((sA st 27 (upd (st.2.2.1 27) c o)).2.2.1 28) c a)).1 29 = Int32.ofNat c := h
  rw [e2, oN_lit, oN_add]
  rfl
theorem Mq.emit {bb : Bool} {j : Nat} {P C : Cd} {st : St} {o a : Nat} (h : Mq bb j P C st) (hc : C.length + 1 + cst P ≤ j) : ∃ st', fX12_emit (Int32.ofNat o) (Int32.ofNat a) st = some ((), st') ∧ Mq bb j P (C ++ [(o, a)]) st' ∧ fr [23] [] [24, 25] st st' := by
  obtain ⟨h29, hp, h23, hcd, h1, h2, h3, h4⟩ := h
  refine ⟨_, m_emit h23 (by omega), ⟨h29, hp, ?_, fun e => codeR_app (hcd e), ?_, h2, h3, h4⟩, ?_⟩
  · rw [List.length_append]; rfl
  · rw [List.length_append]; exact hc
  · exact (fr.sA (k := 24) (by decide)).tr ((fr.sA (k := 25) (by decide)).tr (fr.sI (k := 23) (by decide)))
theorem Mq.push {bb : Bool} {j : Nat} {P C : Cd} {st : St} {o a : Nat} (h : Mq bb j P C st) (hp : P.length + 1 ≤ j) (hc : C.length + cst ((o, a) :: P) ≤ j) (ho : 20 ≤ o) (ho2 : o ≤ 32) (ha : a < 400) : ∃ st', fX12_push (Int32.ofNat o) (Int32.ofNat a) st = some ((), st') ∧ Mq bb j ((o, a) :: P) C st' ∧ fr [29] [] [27, 28] st st' := by
  obtain ⟨h29, hq, h23, hcd, h1, h2, h3, h4⟩ := h
  refine ⟨_, m_push h29 (by omega), ⟨rfl, ⟨?_, ?_, pileR_upd (Nat.le_refl _) hq⟩, h23, hcd, hc, hp, h3, ?_⟩, ?_⟩
  · show upd _ _ _ _ = _; rw [upd_v, if_pos rfl]
  · show upd _ _ _ _ = _; rw [upd_v, if_pos rfl]
  · intro x hx
    rcases List.mem_cons.mp hx with e | e
    · subst e; exact ⟨ho, ho2, ha⟩
    · exact h4 x e
  · exact (fr.sA (k := 27) (by decide)).tr ((fr.sA (k := 28) (by decide)).tr (fr.sI (k := 29) (by decide)))
theorem m_settle_l {bb : Bool} {j l : Nat} (hl : l ≤ 6) (hl1 : 1 ≤ l) : ∀ (P C : Cd) (n : Nat) (st : St), Mq bb j P C st → ∃ st', lp (fun _ _ => none) fX12_settle_b0 (n + 1 + P.length) (Int32.ofNat l) st = some ((), st') ∧ Mq bb j (setl l P C).1 (setl l P C).2 st' ∧ fr [23, 29] [] [24, 25] st st' := by
  intro P
  induction P with
  | nil =>
    intro C n st h
    refine ⟨st, ?_, h, fr.rf⟩
    show lp (fun _ _ => none) fX12_settle_b0 (n + 1) (Int32.ofNat l) st = _
    rw [lp_s]
    generalize lp (fun _ _ => none) fX12_settle_b0 n = k
    unfold fX12_settle_b0
    rw [h.1, if_pos (by decide)]
    rfl
  | cons x P ih =>
    intro C n st h
    obtain ⟨h29, hp, h23, hcd, h1, h2, h3, h4⟩ := h
    obtain ⟨hx1, hx2, hx3⟩ := h4 x List.mem_cons_self
    have hlen : (x :: P).length = P.length + 1 := rfl
    rw [hlen] at h29 h2
    rw [show n + 1 + (x :: P).length = (n + 1 + P.length) + 1 from rfl, lp_s]
    have ih := fun C st h => ih C n st h
    generalize lp (fun _ _ => none) fX12_settle_b0 (n + 1 + P.length) = k at ih ⊢
    unfold fX12_settle_b0
    have e0 : ¬ (Int32.ofNat (P.length + 1) ≤ 0) := fun q => by have := (oN_le (b := 0) (by omega) (by omega)).mp q; omega
    have e1 : Int32.ofNat (P.length + 1) - 1 = Int32.ofNat P.length := by rw [oN_lit, oN_sub (by omega)]; rfl
    rw [h29, if_neg e0, e1, gi_N (by omega) (by omega), oN_tn (by omega), hp.1, m_binds (by omega), bs_v]
    have hb6 := bnd_le x.1
    unfold setl
    by_cases hlx : l ≤ bnd x.1
    · rw [if_ltF hlx (by omega), if_pos hlx, lt_v]
      have q29 : (sI st 29 (Int32.ofNat P.length)).1 29 = Int32.ofNat P.length := rfl
      have q27 : (sI st 29 (Int32.ofNat P.length)).2.2.1 27 P.length = Int32.ofNat x.1 := hp.1
      have q28 : (sI st 29 (Int32.ofNat P.length)).2.2.1 28 P.length = Int32.ofNat x.2 := hp.2.1
      have hM : Mq bb j P C (sI st 29 (Int32.ofNat P.length)) := by
        refine ⟨rfl, hp.2.2, h23, hcd, ?_, by omega, h3, fun y hy => h4 y (List.mem_cons_of_mem _ hy)⟩
        unfold cst at h1; omega
      rw [q29, gi_N (by omega) (by omega), oN_tn (by omega), q27, oN_lit]
      by_cases hao : x.1 = 29 ∨ x.1 = 30
      · rw [if_pos hao]
        have hb63 : ∃ st', fX12_settle_b63 k (Int32.ofNat l) (sI st 29 (Int32.ofNat P.length)) = some ((), st') ∧ Mq bb j (setl l P (setA C x.2 C.length)).1 (setl l P (setA C x.2 C.length)).2 st' ∧ fr [23, 29] [] [24, 25] st st' := by
          unfold fX12_settle_b63
          rw [q29, gi_N (by omega) (by omega), oN_tn (by omega), q28, gi_N (by omega) (by omega), oN_tn (by omega), lt_v]
          have q23 : (sI st 29 (Int32.ofNat P.length)).1 23 = Int32.ofNat C.length := h23
          rw [q23]
          obtain ⟨st', g1, g2, g3⟩ := ih (setA C x.2 C.length) (sA (sI st 29 (Int32.ofNat P.length)) 25 (upd ((sI st 29 (Int32.ofNat P.length)).2.2.1 25) x.2 (Int32.ofNat C.length))) (by
            obtain ⟨m1, m2, m3, m4, m5, m6, m7, m8⟩ := hM
            refine ⟨m1, m2, ?_, fun e => codeR_set (m4 e), ?_, m6, m7, m8⟩
            · rw [setA_len]; exact m3
            · rw [setA_len]; exact m5)
          exact ⟨st', g1, g2, ((fr.sI (k := 29) (by decide)).tr (fr.sA (k := 25) (by decide))).tr g3⟩
        rcases hao with e | e
        · rw [if_eqT e]; exact hb63
        · rw [if_eqF (by omega) (by omega) (by omega), gi_N (by omega) (by omega), oN_lit, if_eqT e]; exact hb63
      · rw [if_neg hao, if_eqF (by omega) (by omega) (by omega), gi_N (by omega) (by omega), oN_lit, if_eqF (by omega) (by omega) (by omega), gi_N (by omega) (by omega)]
        have hlt : x.1 < 29 := by
          by_cases h29' : x.1 < 29
          · exact h29'
          · exfalso
            unfold bnd at hlx
            rw [if_pos (by omega)] at hlx
            omega
        obtain ⟨st1, g1, g2, g3⟩ := hM.emit (o := x.1) (a := 0) (by unfold cst at h1; rw [if_pos hlt] at h1; omega)
        rw [show (0 : Int32) = Int32.ofNat 0 from rfl, g1, bd_v]
        obtain ⟨st', r1, r2, r3⟩ := ih (C ++ [(x.1, 0)]) st1 g2
        exact ⟨st', r1, r2, ((fr.sI (k := 29) (by decide)).tr (g3.up (by decide) (by decide) (by decide))).tr r3⟩
    · rw [if_ltT (by omega) (by omega), if_neg hlx]
      exact ⟨st, rfl, ⟨h29, hp, h23, hcd, h1, h2, h3, h4⟩, fr.rf⟩
theorem Mq.settle {bb : Bool} {j l : Nat} {P C : Cd} {st : St} (h : Mq bb j P C st) (hl : l ≤ 6) (hl1 : 1 ≤ l) : ∃ st', fX12_settle (Int32.ofNat l) st = some ((), st') ∧ Mq bb j (setl l P C).1 (setl l P C).2 st' ∧ fr [23, 29] [] [24, 25] st st' := by
  have hp : P.length ≤ 400 := by have := h.2.2.2.2.2.1; have := h.2.2.2.2.2.2.1; omega
  obtain ⟨st', g1, g2, g3⟩ := m_settle_l hl hl1 P C (5999 - P.length) st h
  refine ⟨st', ?_, g2, g3⟩
  unfold fX12_settle
  rw [← g1, show 5999 - P.length + 1 + P.length = 6000 by omega]
theorem Mq.fr {bb : Bool} {j : Nat} {P C : Cd} {st st' : St} {I J A : List Nat} (h : Mq bb j P C st) (f : fr I J A st st') (h1 : 29 ∉ I ∧ 23 ∉ I) (h2 : 24 ∉ A ∧ 25 ∉ A ∧ 27 ∉ A ∧ 28 ∉ A) : Mq bb j P C st' := by
  obtain ⟨a, b, c, d, e⟩ := h
  refine ⟨by rw [f.1 29 h1.1]; exact a, by rw [f.2.2.1 27 h2.2.2.1, f.2.2.1 28 h2.2.2.2]; exact b, by rw [f.1 23 h1.2]; exact c, by rw [f.2.2.1 24 h2.1, f.2.2.1 25 h2.2.1]; exact d, e⟩
theorem Mq.up {bb : Bool} {j j' : Nat} {P C : Cd} {st : St} (h : Mq bb j P C st) (hj : j ≤ j') (hj2 : j' ≤ 400) : Mq bb j' P C st := by
  obtain ⟨a, b, c, d, e, f, g, k⟩ := h
  exact ⟨a, b, c, d, by omega, by omega, hj2, k⟩
/-! what stands on the pile -/
def innr : Cd → Int32
  | [] => -1
  | x :: P => if 31 ≤ x.1 then Int32.ofNat x.1 else innr P
def cmpd : Cd → Bool
  | [] => false
  | x :: P => if 20 ≤ x.1 ∧ x.1 ≤ 24 then cmpd P else decide (25 ≤ x.1 ∧ x.1 ≤ 27)
theorem m_inner_l {st : St} {m : Nat} (h29 : st.1 29 = Int32.ofNat m) (hm : m ≤ 400) : ∀ (P : Cd) (n : Nat), P.length ≤ m → pileR (st.2.2.1 27) (st.2.2.1 28) P → (∀ x ∈ P, x.1 ≤ 32) → lp (fun _ _ _ => none) fX12_inner_b4 (n + P.length) (-1) (0 : Int32) st = lp (fun _ _ _ => none) fX12_inner_b4 n (innr P) (Int32.ofNat P.length) st := by
  intro P
  induction P with
  | nil => intro n _ _ _; rfl
  | cons x P ih =>
    intro n hl hp hx
    have hl : P.length + 1 ≤ m := hl
    have hx1 := hx x List.mem_cons_self
    rw [show n + (x :: P).length = (n + 1) + P.length by show n + (P.length + 1) = _; omega, ih (n + 1) (by omega) hp.2.2 (fun y hy => hx y (List.mem_cons_of_mem _ hy)), lp_s]
    generalize lp (fun _ _ _ => none) fX12_inner_b4 n = k
    unfold fX12_inner_b4
    rw [h29, if_leF (by omega) (by omega), gi_N (by omega) (by omega), oN_tn (by omega), hp.1, oN_lit]
    unfold fX12_inner_b33
    have ei : innr (x :: P) = if 31 ≤ x.1 then Int32.ofNat x.1 else innr P := rfl
    rw [ei]
    have e : (x :: P).length = P.length + 1 := rfl
    by_cases hc : 31 ≤ x.1
    · rw [if_ltF hc (by omega), if_pos hc, gi_N (by omega) (by omega), lt_v, oN_lit, oN_add, e]
    · rw [if_ltT (by omega) (by omega), if_neg hc, lt_v, oN_lit, oN_add, e]
theorem Mq.inner {bb : Bool} {j : Nat} {P C : Cd} {st : St} (h : Mq bb j P C st) : fX12_inner st = some (innr P, st) := by
  obtain ⟨h29, hp, h23, hcd, h1, h2, h3, h4⟩ := h
  unfold fX12_inner
  rw [show (6000 : Nat) = (5999 - P.length) + 1 + P.length by omega, m_inner_l h29 (by omega) P _ (Nat.le_refl _) hp (fun x hx => (h4 x hx).2.1), lp_s]
  generalize lp (fun _ _ _ => none) fX12_inner_b4 (5999 - P.length) = k
  unfold fX12_inner_b4
  rw [h29, if_leT (Nat.le_refl _) (by omega)]
theorem m_cmpd_l {st : St} : ∀ (P : Cd) (n : Nat), P.length ≤ 400 → pileR (st.2.2.1 27) (st.2.2.1 28) P → (∀ x ∈ P, x.1 ≤ 32) → lp (fun _ _ => none) fX12_isCompared_b7 (n + 1 + P.length) (Int32.ofNat P.length - 1) st = some (if cmpd P = true then 1 else 0, st) := by
  intro P
  induction P with
  | nil =>
    intro n _ _ _
    show lp (fun _ _ => none) fX12_isCompared_b7 (n + 1) (Int32.ofNat 0 - 1) st = _
    rw [lp_s]
    generalize lp (fun _ _ => none) fX12_isCompared_b7 n = k
    unfold fX12_isCompared_b7
    rw [if_pos (by decide)]
    unfold fX12_isCompared_b36
    rw [if_pos (by decide)]
    rfl
  | cons x P ih =>
    intro n hl hp hx
    have hl : P.length + 1 ≤ 400 := hl
    have hx1 := hx x List.mem_cons_self
    have e1 : Int32.ofNat (x :: P).length - 1 = Int32.ofNat P.length := by
      show Int32.ofNat (P.length + 1) - 1 = _
      rw [oN_lit, oN_sub (by omega)]; rfl
    have e2 : Int32.ofNat P.length + -1 = Int32.ofNat P.length - 1 := by rw [Int32.sub_eq_add_neg]
    have ih := ih n (by omega) hp.2.2 (fun y hy => hx y (List.mem_cons_of_mem _ hy))
    rw [show n + 1 + (x :: P).length = (n + 1 + P.length) + 1 from rfl, e1, lp_s]
    generalize lp (fun _ _ => none) fX12_isCompared_b7 (n + 1 + P.length) = k at ih ⊢
    unfold fX12_isCompared_b7
    have em : ∀ a b : Nat, a ≤ 40 → b ≤ 40 → fX12_in (Int32.ofNat x.1).toInt64 (Int64.ofNat a) (Int64.ofNat b) = some (if a ≤ x.1 ∧ x.1 ≤ b then 1 else 0) := by
      intro a b ha hb
      rw [← o64 (by omega), ← o64 (by omega), m_inI]
      simp only [oN_le (a := a) (b := x.1) (by omega) (by omega), oN_le (a := x.1) (b := b) (by omega) (by omega)]
    rw [if_neg (oN_neg (by omega)), gi_N (by omega) (by omega), oN_tn (by omega), hp.1]
    rw [show (20 : Int64) = Int64.ofNat 20 from rfl, show (24 : Int64) = Int64.ofNat 24 from rfl, em 20 24 (by omega) (by omega), bs_v]
    unfold cmpd
    by_cases hc : 20 ≤ x.1 ∧ x.1 ≤ 24
    · simp only [if_pos hc]
      rw [if_neg (by decide), lt_v, e2]
      exact ih
    · simp only [if_neg hc]
      rw [if_pos (by trivial)]
      unfold fX12_isCompared_b36
      rw [if_neg (oN_neg (by omega)), gi_N (by omega) (by omega), oN_tn (by omega), hp.1]
      rw [show (25 : Int64) = Int64.ofNat 25 from rfl, show (27 : Int64) = Int64.ofNat 27 from rfl, em 25 27 (by omega) (by omega), bs_v]
      by_cases hd : 25 ≤ x.1 ∧ x.1 ≤ 27
      · rw [if_pos hd, if_neg (by decide), if_pos (decide_eq_true hd)]; rfl
      · rw [if_neg hd, if_pos rfl, if_neg (fun q => hd (of_decide_eq_true q))]; rfl
theorem Mq.isCompared {bb : Bool} {j : Nat} {P C : Cd} {st : St} (h : Mq bb j P C st) : fX12_isCompared st = some (if cmpd P = true then 1 else 0, st) := by
  obtain ⟨h29, hp, h23, hcd, h1, h2, h3, h4⟩ := h
  unfold fX12_isCompared
  rw [lt_v, h29, show (6000 : Nat) = (5999 - P.length) + 1 + P.length by omega]
  exact m_cmpd_l P _ (by omega) hp (fun x hx => (h4 x hx).2.1)
theorem Mq.weak {bb : Bool} {j : Nat} {P C : Cd} {st : St} (h : Mq bb j P C st) : Mq false j P C st := ⟨h.1, h.2.1, h.2.2.1, fun e => (by cases e), h.2.2.2.2⟩
