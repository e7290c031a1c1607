/-! T2, the grammar as a function of the tokens' kinds K and values V: the reference's code, the class's code, and what both are worth -/
abbrev Re : Type := Nat × Nat × Cd × Cd × Dn
abbrev Ps : Type := Except Nat Re
abbrev Rd : Type := Nat → Nat → Nat → Nat → Nat → Ps
def oWord (k : Nat) : Nat := if k = 324 then 1 else if k = 326 then 2 else if k = 327 then 3 else if k = 317 then 4 else if k = 328 then 5 else if k = 302 then 6 else 0
def sLeaf (lw : Bool) (K V : Nat → Nat) (j n : Nat) : Ps :=
  if 50 ≤ n then .error j
  else if K j = 256 ∧ V j ≤ 1000 then .ok (j + 1, n + 1, [(0, V j)], [(0, V j)], fun _ => some (Int64.ofNat (V j)))
  else if lw = true then (if 316 ≤ K j ∧ K j ≤ 325 then .ok (j + 1, n + 1, [(K j - 315, 0)], [(1, K j - 316)], fun w => some (w (K j - 316))) else .error j)
  else if oWord (K j) = 0 then .error j
  else if oWord (K j) ≤ 3 then .ok (j + 1, n + 1, [(oWord (K j), 0)], [(1, oWord (K j) - 1)], fun w => some (w (oWord (K j) - 1)))
  else if K (j + 1) = 256 ∧ V (j + 1) ≤ (if oWord (K j) = 6 then 3 else 5) then .ok (j + 2, n + 1, [(oWord (K j), V (j + 1))], [(1, wi false (oWord (K j)) (V (j + 1)))], fun w => some (w (wi false (oWord (K j)) (V (j + 1)))))
  else .error (j + 1)
def sClose (K : Nat → Nat) (k : Nat) (r : Re) : Ps := if K r.1 = k then .ok (r.1 + 1, r.2) else .error r.1
def sPart (lw : Bool) (K V : Nat → Nat) (rS : Rd) (dep bm bc j n : Nat) : Ps :=
  if K j = 91 then (if 8 ≤ dep then .error j else (rS (dep + 1) bm bc (j + 1) n).bind (sClose K 93)) else sLeaf lw K V j n
def mulO (k : Nat) : Nat := if k = 42 then 4 else if k = 47 then 5 else if k = 37 then 6 else 0
def addO (k : Nat) : Nat := if k = 43 then 2 else if k = 45 then 3 else 0
def cmpO (k : Nat) : Nat := if k = 60 then 7 else if k = 62 then 8 else if k = 61 then 9 else 0
def joinR (o : Nat) (r q : Re) : Re := (q.1, q.2.1, r.2.2.1 ++ q.2.2.1 ++ [(o + 18, 0)], r.2.2.2.1 ++ q.2.2.2.1 ++ [(o, 0)], dBin o r.2.2.2.2 q.2.2.2.2)
def sLoop (op : Nat → Nat) (K : Nat → Nat) (next : Nat → Nat → Nat → Nat → Ps) (bm bc : Nat) : Nat → Re → Ps
  | 0, r => .ok r
  | f + 1, r => if op (K r.1) = 0 then .ok r else (next (bm + r.2.2.1.length) (bc + r.2.2.2.1.length) (r.1 + 1) r.2.1).bind fun q => sLoop op K next bm bc f (joinR (op (K r.1)) r q)
def sTerm (lw : Bool) (K V : Nat → Nat) (rS : Rd) (dep bm bc j n : Nat) : Ps := (sPart lw K V rS dep bm bc j n).bind (sLoop mulO K (sPart lw K V rS dep) bm bc 400)
def sSum (lw : Bool) (K V : Nat → Nat) (rS : Rd) (dep bm bc j n : Nat) : Ps := (sTerm lw K V rS dep bm bc j n).bind (sLoop addO K (sTerm lw K V rS dep) bm bc 400)
def sComp (lw : Bool) (K V : Nat → Nat) (rS : Rd) (dep bm bc j n : Nat) : Ps :=
  (sSum lw K V rS dep bm bc j n).bind fun r => if cmpO (K r.1) = 0 then .error r.1 else (sSum lw K V rS dep (bm + r.2.2.1.length) (bc + r.2.2.2.1.length) (r.1 + 1) r.2.1).bind fun q => .ok (joinR (cmpO (K r.1)) r q)
def sNots (K : Nat → Nat) : Nat → Nat → Nat
  | 0, _ => 0
  | f + 1, j => if K j = 315 then sNots K f (j + 1) + 1 else 0
def notR (k : Nat) (r : Re) : Re := (r.1, r.2.1, r.2.2.1 ++ List.replicate k (28, 0), r.2.2.2.1 ++ (if k % 2 = 1 then [(10, 0)] else []), if k % 2 = 1 then dNot r.2.2.2.2 else r.2.2.2.2)
def sBase (lw : Bool) (K V : Nat → Nat) (rT rS : Rd) (dep bm bc i n : Nat) : Ps :=
  if K i = 40 then (if 8 ≤ dep then .error i else (rT (dep + 1) bm bc (i + 1) n).bind (sClose K 41)) else sComp lw K V rS dep bm bc i n
def sPlain (lw : Bool) (K V : Nat → Nat) (rT rS : Rd) (dep bm bc j n : Nat) : Ps :=
  (sBase lw K V rT rS dep bm bc (j + sNots K 400 j) n).bind fun r => .ok (notR (sNots K 400 j) r)
def jumpR (oc om : Nat) (cmb : Dn → Dn → Dn) (bm bc : Nat) (r q : Re) : Re :=
  (q.1, q.2.1, r.2.2.1 ++ (om, bm + r.2.2.1.length + 1 + q.2.2.1.length) :: q.2.2.1, r.2.2.2.1 ++ (oc, bc + r.2.2.2.1.length + 1 + q.2.2.2.1.length) :: q.2.2.2.1, cmb r.2.2.2.2 q.2.2.2.2)
def sLoopJ (tk oc om : Nat) (cmb : Dn → Dn → Dn) (K : Nat → Nat) (next : Nat → Nat → Nat → Nat → Ps) (bm bc : Nat) : Nat → Re → Ps
  | 0, r => .ok r
  | f + 1, r => if K r.1 = tk then (next (bm + r.2.2.1.length + 1) (bc + r.2.2.2.1.length + 1) (r.1 + 1) r.2.1).bind fun q => sLoopJ tk oc om cmb K next bm bc f (jumpR oc om cmb bm bc r q) else .ok r
def sBoth (lw : Bool) (K V : Nat → Nat) (rT rS : Rd) (dep bm bc j n : Nat) : Ps := (sPlain lw K V rT rS dep bm bc j n).bind (sLoopJ 314 12 29 dAnd K (sPlain lw K V rT rS dep) bm bc 400)
def sTest (lw : Bool) (K V : Nat → Nat) (rT rS : Rd) (dep bm bc j n : Nat) : Ps := (sBoth lw K V rT rS dep bm bc j n).bind (sLoopJ 313 11 30 dOr K (sBoth lw K V rT rS dep) bm bc 400)
def sS (lw : Bool) (K V : Nat → Nat) : Nat → Rd
  | 0 => fun _ _ _ j _ => .error j
  | l + 1 => sSum lw K V (sS lw K V l)
def sT (lw : Bool) (K V : Nat → Nat) : Nat → Rd
  | 0 => fun _ _ _ j _ => .error j
  | l + 1 => sTest lw K V (sT lw K V l) (sS lw K V l)
theorem exb_ok {α β : Type} {x : Except Nat α} {f : α → Except Nat β} {r : β} (h : x.bind f = .ok r) : ∃ a, x = .ok a ∧ f a = .ok r := by
  cases x with
  | error e => cases h
  | ok a => exact ⟨a, rfl, h⟩
theorem exb_err {α β : Type} {x : Except Nat α} {f : α → Except Nat β} {e : Nat} (h : x.bind f = .error e) : x = .error e ∨ ∃ a, x = .ok a ∧ f a = .error e := by
  cases x with
  | error e' => cases h; exact Or.inl rfl
  | ok a => exact Or.inr ⟨a, rfl, h⟩
/-! what a good reading gives -/
def has (cd : Nat → Nat × Nat) (b : Nat) (l : Cd) : Prop := ∀ i x, l[i]? = some x → cd (b + i) = x
theorem has_app {cd : Nat → Nat × Nat} {b : Nat} {l k : Cd} (h : has cd b (l ++ k)) : has cd b l ∧ has cd (b + l.length) k := by
  constructor
  · intro i x hx
    refine h i x ?_
    rw [List.getElem?_append_left (by have := (List.getElem?_eq_some_iff.mp hx).1; exact this)]
    exact hx
  · intro i x hx
    rw [Nat.add_assoc]
    refine h (l.length + i) x ?_
    rw [List.getElem?_append_right (Nat.le_add_right _ _), Nat.add_sub_cancel_left]
    exact hx
theorem has_cons {cd : Nat → Nat × Nat} {b : Nat} {x : Nat × Nat} {k : Cd} (h : has cd b (x :: k)) : cd b = x ∧ has cd (b + 1) k := by
  refine ⟨h 0 x rfl, fun i y hy => ?_⟩
  rw [Nat.add_assoc, Nat.add_comm 1 i]
  exact h (i + 1) y hy
/-- tokens, parts and sizes -/
def Gz (j n : Nat) (r : Re) : Prop := j + r.2.2.1.length ≤ r.1 ∧ j + r.2.2.2.1.length ≤ r.1 ∧ j < r.1 ∧ n < r.2.1 ∧ r.2.1 ≤ 50
/-- worth -/
def Gd (bo lw : Bool) (bm bc n : Nat) (r : Re) : Prop :=
  Lv r.2.2.2.2 ∧ (bo = true → Bv r.2.2.2.2) ∧ (∀ cd, has cd bm r.2.2.1 → bm + r.2.2.1.length ≤ 400 → DenM lw cd bm (bm + r.2.2.1.length) (r.2.1 - n) r.2.2.2.2) ∧ (∀ cd, has cd bc r.2.2.2.1 → bc + r.2.2.2.1.length ≤ 400 → DenC cd (if lw = true then 10 else 19) bc (bc + r.2.2.2.1.length) (r.2.1 - n) r.2.2.2.2)
def Gr (bo lw : Bool) (rd : Rd) : Prop := ∀ dep bm bc j n r, rd dep bm bc j n = .ok r → Gz j n r ∧ Gd bo lw bm bc n r
theorem Bv.lv {D : Dn} (h : Bv D) : Lv D := by
  intro w v _ h2
  rcases h w v h2 with e | e <;> subst e <;> decide
theorem oWord_le (k : Nat) : oWord k ≤ 6 := by
  unfold oWord
  repeat' split
  all_goals omega
theorem sLeaf_ok {lw : Bool} {K V : Nat → Nat} {bm bc j n : Nat} {r : Re} (h : sLeaf lw K V j n = .ok r) : Gz j n r ∧ Gd false lw bm bc n r := by
  unfold sLeaf at h
  split at h
  · cases h
  rename_i hn
  have hd : n + 1 - n = 1 := by omega
  split at h
  · rename_i hv
    cases h
    refine ⟨⟨by simp, by simp, by simp, by simp, by simp; omega⟩, fun w v hw e => ?_, fun e => (by cases e), fun cd hc _ => ?_, fun cd hc _ => ?_⟩
    · cases e
      have : (Int64.ofNat (V j)).toInt = (V j : Int) := Int64.toInt_ofNat_of_lt (by omega)
      rw [Int64.le_iff_toInt_le, Int64.le_iff_toInt_le, this]
      have h1 : (-1000000000 : Int64).toInt = -1000000000 := by decide
      have h2 : (1000000000 : Int64).toInt = 1000000000 := by decide
      omega
    · show DenM lw cd bm (bm + 1) (n + 1 - n) _
      rw [hd]; exact DenM.push (has_cons hc).1 hv.2
    · show DenC cd _ bc (bc + 1) (n + 1 - n) _
      rw [hd]; exact DenC.push (has_cons hc).1 hv.2
  split at h
  · rename_i hl
    subst hl
    split at h
    · rename_i hk
      cases h
      refine ⟨⟨by simp, by simp, by simp, by simp, by simp; omega⟩, fun w v hw e => ?_, fun e => (by cases e), fun cd hc _ => ?_, fun cd hc _ => ?_⟩
      · cases e; exact hw _
      · show DenM true cd bm (bm + 1) (n + 1 - n) _
        rw [hd]
        have := DenM.look (lw := true) (has_cons hc).1 (by unfold leafM; simp; omega)
        have e2 : wi true (K j - 315) 0 = K j - 316 := by unfold wi; simp; omega
        rw [e2] at this
        exact this
      · show DenC cd _ bc (bc + 1) (n + 1 - n) _
        rw [hd]; exact DenC.look (has_cons hc).1 (by simp; omega)
    · cases h
  rename_i hl
  have hl : lw = false := by cases lw <;> simp_all
  subst hl
  split at h
  · cases h
  rename_i ho
  split at h
  · rename_i ho3
    cases h
    refine ⟨⟨by simp, by simp, by simp, by simp, by simp; omega⟩, fun w v hw e => ?_, fun e => (by cases e), fun cd hc _ => ?_, fun cd hc _ => ?_⟩
    · cases e; exact hw _
    · show DenM false cd bm (bm + 1) (n + 1 - n) _
      rw [hd]
      have := DenM.look (lw := false) (has_cons hc).1 (by unfold leafM; simp; omega)
      have e2 : wi false (oWord (K j)) 0 = oWord (K j) - 1 := by unfold wi; rw [if_pos (Or.inr (by omega))]
      rw [e2] at this
      exact this
    · show DenC cd _ bc (bc + 1) (n + 1 - n) _
      rw [hd]; exact DenC.look (has_cons hc).1 (by simp; omega)
  rename_i ho3
  by_cases hv : K (j + 1) = 256 ∧ V (j + 1) ≤ (if oWord (K j) = 6 then 3 else 5)
  · rw [if_pos hv] at h
    cases h
    have hv5 : V (j + 1) ≤ 5 := by
      have := hv.2
      split at this <;> omega
    have hv3 : oWord (K j) = 6 → V (j + 1) ≤ 3 := by
      intro e
      have := hv.2
      rw [if_pos e] at this
      exact this
    have h6 := oWord_le (K j)
    refine ⟨⟨by simp, by simp, by simp, by simp, by simp; omega⟩, fun w v hw e => ?_, fun e => (by cases e), fun cd hc _ => ?_, fun cd hc _ => ?_⟩
    · cases e; exact hw _
    · show DenM false cd bm (bm + 1) (n + 1 - n) _
      rw [hd]
      exact DenM.look (lw := false) (has_cons hc).1 (by unfold leafM; simp; omega)
    · show DenC cd _ bc (bc + 1) (n + 1 - n) _
      rw [hd]
      refine DenC.look (has_cons hc).1 ?_
      unfold wi
      simp
      rw [if_neg (by omega)]
      split
      · omega
      · split <;> omega
  · rw [if_neg hv] at h
    cases h
theorem sClose_ok {bo lw : Bool} {K : Nat → Nat} {k bm bc j n : Nat} {r q : Re} (h : sClose K k r = .ok q) (g : Gz (j + 1) n r ∧ Gd bo lw bm bc n r) : Gz j n q ∧ Gd bo lw bm bc n q := by
  unfold sClose at h
  split at h
  · cases h
    obtain ⟨⟨g1, g2, g3, g4, g5⟩, g6⟩ := g
    exact ⟨⟨by show j + r.2.2.1.length ≤ r.1 + 1; omega, by show j + r.2.2.2.1.length ≤ r.1 + 1; omega, by show j < r.1 + 1; omega, g4, g5⟩, g6⟩
  · cases h
theorem sPart_ok {lw : Bool} {K V : Nat → Nat} {rS : Rd} (hS : Gr false lw rS) : Gr false lw (sPart lw K V rS) := by
  intro dep bm bc j n r h
  unfold sPart at h
  split at h
  · split at h
    · cases h
    · obtain ⟨a, h1, h2⟩ := exb_ok h
      exact sClose_ok h2 (hS _ _ _ _ _ _ h1)
  · exact sLeaf_ok h
theorem joinR_ok {bo lw : Bool} {o bm bc j n : Nat} {r q : Re} (ho : 2 ≤ o) (ho2 : o ≤ 9) (hb : bo = true → 7 ≤ o) (g : Gz j n r) (g' : Gd false lw bm bc n r) (k : Gz (r.1 + 1) r.2.1 q) (k' : Gd false lw (bm + r.2.2.1.length) (bc + r.2.2.2.1.length) r.2.1 q) : Gz j n (joinR o r q) ∧ Gd bo lw bm bc n (joinR o r q) := by
  obtain ⟨g1, g2, g3, g4, g5⟩ := g
  obtain ⟨k1, k2, k3, k4, k5⟩ := k
  refine ⟨⟨?_, ?_, ?_, ?_, ?_⟩, Lv.bin, fun h => Bv.cmp (hb h), fun cd hc hl => ?_, fun cd hc hl => ?_⟩
  · simp only [joinR, List.length_append, List.length_cons, List.length_nil]; omega
  · simp only [joinR, List.length_append, List.length_cons, List.length_nil]; omega
  · simp only [joinR]; omega
  · simp only [joinR]; omega
  · simp only [joinR]; omega
  · simp only [joinR, List.length_append, List.length_cons, List.length_nil] at hc hl ⊢
    obtain ⟨hc1, hc3⟩ := has_app hc
    obtain ⟨hc1, hc2⟩ := has_app hc1
    have a := g'.2.2.1 cd hc1 (by omega)
    have b := k'.2.2.1 cd hc2 (by omega)
    have c := (has_cons hc3).1
    rw [List.length_append] at c
    have := DenM.bin (o := o) a b (x := 0) (by rw [← c]; congr 1; omega) ho ho2 (by omega) (by omega)
    rw [show bm + (r.2.2.1.length + q.2.2.1.length + (0 + 1)) = bm + r.2.2.1.length + q.2.2.1.length + 1 by omega, show q.2.1 - n = r.2.1 - n + (q.2.1 - r.2.1) by omega]
    exact this
  · simp only [joinR, List.length_append, List.length_cons, List.length_nil] at hc hl ⊢
    obtain ⟨hc1, hc3⟩ := has_app hc
    obtain ⟨hc1, hc2⟩ := has_app hc1
    have a := g'.2.2.2 cd hc1 (by omega)
    have b := k'.2.2.2 cd hc2 (by omega)
    have c := (has_cons hc3).1
    rw [List.length_append] at c
    have := DenC.bin (o := o) a b (x := 0) (by rw [← c]; congr 1; omega) ho ho2 (by omega) (by omega)
    rw [show bc + (r.2.2.2.1.length + q.2.2.2.1.length + (0 + 1)) = bc + r.2.2.2.1.length + q.2.2.2.1.length + 1 by omega, show q.2.1 - n = r.2.1 - n + (q.2.1 - r.2.1) by omega]
    exact this
theorem sLoop_ok {lw : Bool} {op K : Nat → Nat} {next : Nat → Nat → Nat → Nat → Ps} (hop : ∀ k, op k ≠ 0 → 2 ≤ op k ∧ op k ≤ 9) (hn : ∀ bm bc j n r, next bm bc j n = .ok r → Gz j n r ∧ Gd false lw bm bc n r) {bm bc j n : Nat} : ∀ (f : Nat) (r q : Re), Gz j n r ∧ Gd false lw bm bc n r → sLoop op K next bm bc f r = .ok q → Gz j n q ∧ Gd false lw bm bc n q := by
  intro f
  induction f with
  | zero => intro r q g h; cases h; exact g
  | succ f ih =>
    intro r q g h
    unfold sLoop at h
    split at h
    · cases h; exact g
    · rename_i ho
      obtain ⟨a, h1, h2⟩ := exb_ok h
      have := hop _ ho
      obtain ⟨k1, k2⟩ := hn _ _ _ _ _ h1
      exact ih _ _ (joinR_ok this.1 this.2 (fun e => by cases e) g.1 g.2 k1 k2) h2
theorem mulO_b (k : Nat) (h : mulO k ≠ 0) : 2 ≤ mulO k ∧ mulO k ≤ 9 := by
  unfold mulO at *
  repeat' split
  all_goals simp_all
theorem addO_b (k : Nat) (h : addO k ≠ 0) : 2 ≤ addO k ∧ addO k ≤ 9 := by
  unfold addO at *
  repeat' split
  all_goals simp_all
theorem cmpO_b (k : Nat) (h : cmpO k ≠ 0) : 7 ≤ cmpO k ∧ cmpO k ≤ 9 := by
  unfold cmpO at *
  repeat' split
  all_goals simp_all
theorem sTerm_ok {lw : Bool} {K V : Nat → Nat} {rS : Rd} (hS : Gr false lw rS) : Gr false lw (sTerm lw K V rS) := by
  intro dep bm bc j n r h
  obtain ⟨a, h1, h2⟩ := exb_ok h
  exact sLoop_ok mulO_b (fun _ _ _ _ _ h => sPart_ok hS _ _ _ _ _ _ h) _ _ _ (sPart_ok hS _ _ _ _ _ _ h1) h2
theorem sSum_ok {lw : Bool} {K V : Nat → Nat} {rS : Rd} (hS : Gr false lw rS) : Gr false lw (sSum lw K V rS) := by
  intro dep bm bc j n r h
  obtain ⟨a, h1, h2⟩ := exb_ok h
  exact sLoop_ok addO_b (fun _ _ _ _ _ h => sTerm_ok hS _ _ _ _ _ _ h) _ _ _ (sTerm_ok hS _ _ _ _ _ _ h1) h2
theorem sComp_ok {lw : Bool} {K V : Nat → Nat} {rS : Rd} (hS : Gr false lw rS) : Gr true lw (sComp lw K V rS) := by
  intro dep bm bc j n r h
  obtain ⟨a, h1, h2⟩ := exb_ok h
  have g := sSum_ok hS _ _ _ _ _ _ h1
  split at h2
  · cases h2
  · rename_i ho
    obtain ⟨b, h3, h4⟩ := exb_ok h2
    cases h4
    have k := sSum_ok hS _ _ _ _ _ _ h3
    have := cmpO_b _ ho
    exact joinR_ok (by omega) (by omega) (fun _ => by omega) g.1 g.2 k.1 k.2
theorem sNots_K {K : Nat → Nat} : ∀ (f j i : Nat), i < sNots K f j → K (j + i) = 315 := by
  intro f
  induction f with
  | zero => intro j i h; exact absurd h (Nat.not_lt_zero i)
  | succ f ih =>
    intro j i h
    unfold sNots at h
    split at h
    · rename_i hk
      cases i with
      | zero => exact hk
      | succ i =>
        have := ih (j + 1) i (by omega)
        rw [show j + (i + 1) = j + 1 + i by omega]
        exact this
    · exact absurd h (Nat.not_lt_zero i)
theorem DenM.nots {lw : Bool} {cd : Nat → Nat × Nat} {a b d : Nat} {D : Dn} (hB : Bv D) (h : DenM lw cd a b d D) (hd : 1 ≤ d) : ∀ k, has cd b (List.replicate k (28, 0)) → DenM lw cd a (b + k) d (if k % 2 = 1 then dNot D else D) := by
  intro k
  induction k with
  | zero => intro _; exact h
  | succ k ih =>
    intro hc
    rw [List.replicate_succ'] at hc
    obtain ⟨h1, h2⟩ := has_app hc
    rw [List.length_replicate] at h2
    have := DenM.not (ih h1) (has_cons h2).1 hd
    rw [show b + (k + 1) = b + k + 1 by omega]
    by_cases hk : k % 2 = 1
    · rw [if_pos hk, dNot2 hB] at this
      rw [if_neg (by omega)]
      exact this
    · rw [if_neg hk] at this
      rw [if_pos (by omega)]
      exact this
theorem notR_ok {lw : Bool} {bm bc j n k : Nat} {r : Re} (g : Gz (j + k) n r) (g' : Gd true lw bm bc n r) : Gz j n (notR k r) ∧ Gd true lw bm bc n (notR k r) := by
  obtain ⟨g1, g2, g3, g4, g5⟩ := g
  have hB : Bv (if k % 2 = 1 then dNot r.2.2.2.2 else r.2.2.2.2) := by
    split
    · exact Bv.not (g'.2.1 rfl)
    · exact g'.2.1 rfl
  refine ⟨⟨?_, ?_, ?_, g4, g5⟩, hB.lv, fun _ => hB, fun cd hc hl => ?_, fun cd hc hl => ?_⟩
  · simp only [notR, List.length_append, List.length_replicate]; omega
  · simp only [notR, List.length_append]
    split
    · simp only [List.length_cons, List.length_nil]; omega
    · simp only [List.length_nil]; omega
  · simp only [notR]; omega
  · simp only [notR, List.length_append, List.length_replicate] at hc hl ⊢
    obtain ⟨h1, h2⟩ := has_app hc
    have := DenM.nots (g'.2.1 rfl) (g'.2.2.1 cd h1 (by omega)) (by omega) k h2
    rw [← Nat.add_assoc]
    exact this
  · simp only [notR, List.length_append] at hc hl ⊢
    obtain ⟨h1, h2⟩ := has_app hc
    by_cases hk : k % 2 = 1
    · rw [if_pos hk] at h2 hl ⊢
      simp only [List.length_cons, List.length_nil] at hl ⊢
      rw [if_pos hk]
      have := DenC.not (g'.2.2.2 cd h1 (by omega)) (has_cons h2).1 (by omega)
      exact this
    · rw [if_neg hk] at h2 hl ⊢
      simp only [List.length_nil] at hl ⊢
      rw [if_neg hk]
      exact g'.2.2.2 cd h1 (by omega)
theorem sPlain_ok {lw : Bool} {K V : Nat → Nat} {rT rS : Rd} (hT : Gr true lw rT) (hS : Gr false lw rS) : Gr true lw (sPlain lw K V rT rS) := by
  intro dep bm bc j n r h
  obtain ⟨a, h1, h2⟩ := exb_ok h
  cases h2
  have g : Gz (j + sNots K 400 j) n a ∧ Gd true lw bm bc n a := by
    unfold sBase at h1
    split at h1
    · split at h1
      · cases h1
      · obtain ⟨b, h3, h4⟩ := exb_ok h1
        exact sClose_ok h4 (hT _ _ _ _ _ _ h3)
    · exact sComp_ok hS _ _ _ _ _ _ h1
  exact notR_ok g.1 g.2
theorem jumpR_ok {lw : Bool} {oc om bm bc j n : Nat} {cmb : Dn → Dn → Dn} {r q : Re} (ho : (oc = 11 ∧ om = 30 ∧ cmb = dOr) ∨ (oc = 12 ∧ om = 29 ∧ cmb = dAnd)) (g : Gz j n r) (g' : Gd true lw bm bc n r) (k : Gz (r.1 + 1) r.2.1 q) (k' : Gd true lw (bm + r.2.2.1.length + 1) (bc + r.2.2.2.1.length + 1) r.2.1 q) : Gz j n (jumpR oc om cmb bm bc r q) ∧ Gd true lw bm bc n (jumpR oc om cmb bm bc r q) := by
  obtain ⟨g1, g2, g3, g4, g5⟩ := g
  obtain ⟨k1, k2, k3, k4, k5⟩ := k
  have hB : Bv (cmb r.2.2.2.2 q.2.2.2.2) := by
    rcases ho with ⟨_, _, e⟩ | ⟨_, _, e⟩ <;> subst e
    · exact Bv.orr (g'.2.1 rfl) (k'.2.1 rfl)
    · exact Bv.andd (g'.2.1 rfl) (k'.2.1 rfl)
  refine ⟨⟨?_, ?_, ?_, ?_, ?_⟩, hB.lv, fun _ => hB, fun cd hc hl => ?_, fun cd hc hl => ?_⟩
  · simp only [jumpR, List.length_append, List.length_cons]; omega
  · simp only [jumpR, List.length_append, List.length_cons]; omega
  · simp only [jumpR]; omega
  · simp only [jumpR]; omega
  · simp only [jumpR]; omega
  · simp only [jumpR, List.length_append, List.length_cons] at hc hl ⊢
    obtain ⟨hc1, hc2⟩ := has_app hc
    obtain ⟨hc2, hc3⟩ := has_cons hc2
    have a := g'.2.2.1 cd hc1 (by omega)
    have b := k'.2.2.1 cd hc3 (by omega)
    rw [show bm + (r.2.2.1.length + (q.2.2.1.length + 1)) = bm + r.2.2.1.length + 1 + q.2.2.1.length by omega, show q.2.1 - n = r.2.1 - n + (q.2.1 - r.2.1) by omega]
    rcases ho with ⟨_, e2, e⟩ | ⟨_, e2, e⟩ <;> subst e <;> subst e2
    · exact DenM.orr a (g'.2.1 rfl) hc2 b (by omega) (by omega)
    · exact DenM.andd a (g'.2.1 rfl) hc2 b (by omega) (by omega)
  · simp only [jumpR, List.length_append, List.length_cons] at hc hl ⊢
    obtain ⟨hc1, hc2⟩ := has_app hc
    obtain ⟨hc2, hc3⟩ := has_cons hc2
    have a := g'.2.2.2 cd hc1 (by omega)
    have b := k'.2.2.2 cd hc3 (by omega)
    rw [show bc + (r.2.2.2.1.length + (q.2.2.2.1.length + 1)) = bc + r.2.2.2.1.length + 1 + q.2.2.2.1.length by omega, show q.2.1 - n = r.2.1 - n + (q.2.1 - r.2.1) by omega]
    rcases ho with ⟨e2, _, e⟩ | ⟨e2, _, e⟩ <;> subst e <;> subst e2
    · exact DenC.orr a hc2 b (by omega) (by omega)
    · exact DenC.andd a hc2 b (by omega) (by omega)
theorem sLoopJ_ok {lw : Bool} {tk oc om : Nat} {cmb : Dn → Dn → Dn} {K : Nat → Nat} {next : Nat → Nat → Nat → Nat → Ps} (ho : (oc = 11 ∧ om = 30 ∧ cmb = dOr) ∨ (oc = 12 ∧ om = 29 ∧ cmb = dAnd)) (hn : ∀ bm bc j n r, next bm bc j n = .ok r → Gz j n r ∧ Gd true lw bm bc n r) {bm bc j n : Nat} : ∀ (f : Nat) (r q : Re), Gz j n r ∧ Gd true lw bm bc n r → sLoopJ tk oc om cmb K next bm bc f r = .ok q → Gz j n q ∧ Gd true lw bm bc n q := by
  intro f
  induction f with
  | zero => intro r q g h; cases h; exact g
  | succ f ih =>
    intro r q g h
    unfold sLoopJ at h
    split at h
    · obtain ⟨a, h1, h2⟩ := exb_ok h
      obtain ⟨k1, k2⟩ := hn _ _ _ _ _ h1
      exact ih _ _ (jumpR_ok ho g.1 g.2 k1 k2) h2
    · cases h; exact g
theorem sBoth_ok {lw : Bool} {K V : Nat → Nat} {rT rS : Rd} (hT : Gr true lw rT) (hS : Gr false lw rS) : Gr true lw (sBoth lw K V rT rS) := by
  intro dep bm bc j n r h
  obtain ⟨a, h1, h2⟩ := exb_ok h
  exact sLoopJ_ok (Or.inr ⟨rfl, rfl, rfl⟩) (fun _ _ _ _ _ h => sPlain_ok hT hS _ _ _ _ _ _ h) _ _ _ (sPlain_ok hT hS _ _ _ _ _ _ h1) h2
theorem sTest_ok {lw : Bool} {K V : Nat → Nat} {rT rS : Rd} (hT : Gr true lw rT) (hS : Gr false lw rS) : Gr true lw (sTest lw K V rT rS) := by
  intro dep bm bc j n r h
  obtain ⟨a, h1, h2⟩ := exb_ok h
  exact sLoopJ_ok (Or.inl ⟨rfl, rfl, rfl⟩) (fun _ _ _ _ _ h => sBoth_ok hT hS _ _ _ _ _ _ h) _ _ _ (sBoth_ok hT hS _ _ _ _ _ _ h1) h2
theorem sS_ok {lw : Bool} {K V : Nat → Nat} : ∀ l, Gr false lw (sS lw K V l) := by
  intro l
  induction l with
  | zero => intro _ _ _ _ _ _ h; cases h
  | succ l ih => exact sSum_ok ih
theorem sT_ok {lw : Bool} {K V : Nat → Nat} : ∀ l, Gr true lw (sT lw K V l) := by
  intro l
  induction l with
  | zero => intro _ _ _ _ _ _ h; cases h
  | succ l ih => exact sTest_ok ih (sS_ok l)
