/-! T2, texts: all clauses, both readers side by side -/
theorem DenM.mono {lw : Bool} {cd : Nat → Nat × Nat} {a b d d' : Nat} {D : Dn} (h : DenM lw cd a b d D) (hd : d ≤ d') : DenM lw cd a b d' D := ⟨h.1, fun α w stop K bk hs hb n t s ht => h.2 α w stop K bk hs hb n t s (by omega)⟩
/-- nothing that was read is without code -/
def Gn (r : Re) : Prop := 1 ≤ r.2.2.1.length ∧ 1 ≤ r.2.2.2.1.length
theorem sLeaf_n {lw : Bool} {K V : Nat → Nat} {j n : Nat} {r : Re} (h : sLeaf lw K V j n = .ok r) : Gn r := by
  unfold sLeaf at h
  split at h
  · cases h
  split at h
  · cases h; exact ⟨Nat.le_refl _, Nat.le_refl _⟩
  split at h
  · split at h
    · cases h; exact ⟨Nat.le_refl _, Nat.le_refl _⟩
    · cases h
  split at h
  · cases h
  split at h
  · cases h; exact ⟨Nat.le_refl _, Nat.le_refl _⟩
  by_cases hv : K (j + 1) = 256 ∧ V (j + 1) ≤ (if oWord (K j) = 6 then 3 else 5)
  · rw [if_pos hv] at h; cases h; exact ⟨Nat.le_refl _, Nat.le_refl _⟩
  · rw [if_neg hv] at h; cases h
def Nn (rd : Rd) : Prop := ∀ dep bm bc j n r, rd dep bm bc j n = .ok r → Gn r
theorem sClose_n {K : Nat → Nat} {k : Nat} {r q : Re} (h : sClose K k r = .ok q) (g : Gn r) : Gn q := by
  unfold sClose at h
  split at h
  · cases h; exact g
  · cases h
theorem sPart_n {lw : Bool} {K V : Nat → Nat} {rS : Rd} (hS : Nn rS) : Nn (sPart lw K V rS) := by
  intro dep bm bc j n r h
  unfold sPart at h
  split at h
  · split at h
    · cases h
    · obtain ⟨a, h1, h2⟩ := exb_ok h
      exact sClose_n h2 (hS _ _ _ _ _ _ h1)
  · exact sLeaf_n h
theorem joinR_n {o : Nat} {r q : Re} : Gn (joinR o r q) := by
  constructor
  · simp only [joinR, List.length_append, List.length_cons, List.length_nil]; omega
  · simp only [joinR, List.length_append, List.length_cons, List.length_nil]; omega
theorem sLoop_n {op K : Nat → Nat} {next : Nat → Nat → Nat → Nat → Ps} {bm bc : Nat} : ∀ (f : Nat) (r q : Re), Gn r → sLoop op K next bm bc f r = .ok q → Gn q := by
  intro f
  induction f with
  | zero => intro r q g h; cases h; exact g
  | succ f ih =>
    intro r q g h
    unfold sLoop at h
    split at h
    · cases h; exact g
    · obtain ⟨a, h1, h2⟩ := exb_ok h
      exact ih _ _ joinR_n h2
theorem sTerm_n {lw : Bool} {K V : Nat → Nat} {rS : Rd} (hS : Nn rS) : Nn (sTerm lw K V rS) := by
  intro dep bm bc j n r h
  obtain ⟨a, h1, h2⟩ := exb_ok h
  exact sLoop_n _ _ _ (sPart_n hS _ _ _ _ _ _ h1) h2
theorem sSum_n {lw : Bool} {K V : Nat → Nat} {rS : Rd} (hS : Nn rS) : Nn (sSum lw K V rS) := by
  intro dep bm bc j n r h
  obtain ⟨a, h1, h2⟩ := exb_ok h
  exact sLoop_n _ _ _ (sTerm_n hS _ _ _ _ _ _ h1) h2
theorem sS_n {lw : Bool} {K V : Nat → Nat} : ∀ l, Nn (sS lw K V l) := by
  intro l
  induction l with
  | zero => intro _ _ _ _ _ _ h; cases h
  | succ l ih => exact sSum_n ih
theorem sPlain_n {lw : Bool} {K V : Nat → Nat} {rT rS : Rd} (hT : Nn rT) : Nn (sPlain lw K V rT rS) := by
  intro dep bm bc j n r h
  obtain ⟨a, h1, h2⟩ := exb_ok h
  cases h2
  have g : Gn a := by
    unfold sBase at h1
    split at h1
    · split at h1
      · cases h1
      · obtain ⟨b, h3, h4⟩ := exb_ok h1
        exact sClose_n h4 (hT _ _ _ _ _ _ h3)
    · unfold sComp at h1
      obtain ⟨b, h3, h4⟩ := exb_ok h1
      split at h4
      · cases h4
      · obtain ⟨c, h5, h6⟩ := exb_ok h4
        cases h6
        exact joinR_n
  constructor
  · simp only [notR, List.length_append]; have := g.1; omega
  · simp only [notR, List.length_append]; have := g.2; omega
theorem sLoopJ_n {tk oc om : Nat} {cmb : Dn → Dn → Dn} {K : Nat → Nat} {next : Nat → Nat → Nat → Nat → Ps} {bm bc : Nat} : ∀ (f : Nat) (r q : Re), Gn r → sLoopJ tk oc om cmb K next bm bc f r = .ok q → Gn q := by
  intro f
  induction f with
  | zero => intro r q g h; cases h; exact g
  | succ f ih =>
    intro r q g h
    unfold sLoopJ at h
    split at h
    · obtain ⟨a, h1, h2⟩ := exb_ok h
      refine ih _ _ ⟨?_, ?_⟩ h2
      · simp only [jumpR, List.length_append, List.length_cons]; omega
      · simp only [jumpR, List.length_append, List.length_cons]; omega
    · cases h; exact g
theorem sBoth_n {lw : Bool} {K V : Nat → Nat} {rT rS : Rd} (hT : Nn rT) : Nn (sBoth lw K V rT rS) := by
  intro dep bm bc j n r h
  obtain ⟨a, h1, h2⟩ := exb_ok h
  exact sLoopJ_n _ _ _ (sPlain_n hT _ _ _ _ _ _ h1) h2
theorem sT_n {lw : Bool} {K V : Nat → Nat} : ∀ l, Nn (sT lw K V l) := by
  intro l
  induction l with
  | zero => intro _ _ _ _ _ _ h; cases h
  | succ l ih =>
    intro dep bm bc j n r h
    obtain ⟨a, h1, h2⟩ := exb_ok h
    exact sLoopJ_n _ _ _ (sBoth_n ih _ _ _ _ _ _ h1) h2
/-- a piece of code, worth the same in both: at bm .. bm + a of the reference's, bc .. bc + b of the class's -/
def SegR (lw : Bool) (Cm Cc : Cd) (bm a bc b : Nat) (D : Dn) : Prop := 0 < a ∧ 0 < b ∧ bm + a ≤ Cm.length ∧ bc + b ≤ Cc.length ∧ Lv D ∧ (∀ cd, has cd 0 Cm → DenM lw cd bm (bm + a) 50 D) ∧ (∀ cd, has cd 0 Cc → DenC cd (if lw = true then 10 else 19) bc (bc + b) 50 D)
theorem SegR.app {lw : Bool} {Cm Cc x y : Cd} {bm a bc b : Nat} {D : Dn} (h : SegR lw Cm Cc bm a bc b D) : SegR lw (Cm ++ x) (Cc ++ y) bm a bc b D := by
  obtain ⟨h1, h2, h3, h4, h5, h6, h7⟩ := h
  exact ⟨h1, h2, by rw [List.length_append]; omega, by rw [List.length_append]; omega, h5, fun cd hc => h6 cd (has_app hc).1, fun cd hc => h7 cd (has_app hc).1⟩
theorem has_at {cd : Nat → Nat × Nat} {A X : Cd} (h : has cd 0 (A ++ X)) : has cd A.length X := by
  have := (has_app h).2
  rw [Nat.zero_add] at this
  exact this
theorem Gd.seg {bo lw : Bool} {Cm Cc : Cd} {j n : Nat} {r : Re} (h : Gd bo lw Cm.length Cc.length n r) (hz : Gz j n r) (hn : Gn r) (h4 : Cm.length + r.2.2.1.length ≤ 400) (h5 : Cc.length + r.2.2.2.1.length ≤ 400) : SegR lw (Cm ++ r.2.2.1) (Cc ++ r.2.2.2.1) Cm.length r.2.2.1.length Cc.length r.2.2.2.1.length r.2.2.2.2 := by
  obtain ⟨g1, g2, g3, g4⟩ := h
  obtain ⟨z1, z2, z3, z4, z5⟩ := hz
  refine ⟨hn.1, hn.2, by rw [List.length_append]; omega, by rw [List.length_append]; omega, g1, fun cd hc => ?_, fun cd hc => ?_⟩
  · exact (g3 cd (has_at hc) h4).mono (by omega)
  · exact (g4 cd (has_at hc) h5).mono (by omega)
/-- a law's clause, in both tables -/
def ClL (Cm Cc : Cd) (i : Nat) (t a b : Nat → Int32) : Prop := ∃ h bm am dm bc ac dc D1 D2, h ≤ 3 ∧ t (8 * i) = Int32.ofNat h ∧ t (8 * i + 3) = Int32.ofNat bm ∧ t (8 * i + 4) = Int32.ofNat (bm + am) ∧ t (8 * i + 5) = Int32.ofNat (bm + am) ∧ t (8 * i + 6) = Int32.ofNat (bm + am + dm) ∧ a i = Int32.ofNat (300 + h) ∧ b (4 * i) = Int32.ofNat bc ∧ b (4 * i + 1) = Int32.ofNat (bc + ac) ∧ b (4 * i + 2) = Int32.ofNat (bc + ac) ∧ b (4 * i + 3) = Int32.ofNat (bc + ac + dc) ∧ bm + am + dm ≤ Cm.length ∧ bc + ac + dc ≤ Cc.length ∧ (h = 3 → am = 0 ∧ ac = 0) ∧ (h ≠ 3 → SegR true Cm Cc bm am bc ac D1) ∧ ((dm = 0 ∧ dc = 0) ∨ (SegR true Cm Cc (bm + am) dm (bc + ac) dc D2 ∧ Bv D2))
theorem ClL.app {Cm Cc x y : Cd} {i : Nat} {t a b t' a' b' : Nat → Int32} (h : ClL Cm Cc i t a b) (ht : ∀ q, q < 8 * i + 8 → t' q = t q) (ha : a' i = a i) (hb : ∀ q, q < 4 * i + 4 → b' q = b q) : ClL (Cm ++ x) (Cc ++ y) i t' a' b' := by
  obtain ⟨h0, bm, am, dm, bc, ac, dc, D1, D2, e1, e2, e3, e4, e5, e6, e7, e8, e9, e10, e11, e12, e13, e14, e15, e16⟩ := h
  refine ⟨h0, bm, am, dm, bc, ac, dc, D1, D2, e1, ?_, ?_, ?_, ?_, ?_, ?_, ?_, ?_, ?_, ?_, ?_, ?_, e14, fun q => (e15 q).app, ?_⟩
  · rw [ht _ (by omega)]; exact e2
  · rw [ht _ (by omega)]; exact e3
  · rw [ht _ (by omega)]; exact e4
  · rw [ht _ (by omega)]; exact e5
  · rw [ht _ (by omega)]; exact e6
  · rw [ha]; exact e7
  · rw [hb _ (by omega)]; exact e8
  · rw [hb _ (by omega)]; exact e9
  · rw [hb _ (by omega)]; exact e10
  · rw [hb _ (by omega)]; exact e11
  · rw [List.length_append]; omega
  · rw [List.length_append]; omega
  · rcases e16 with q | q
    · exact Or.inl q
    · exact Or.inr ⟨q.1.app, q.2⟩
/-- both readers, k clauses read, at token j -/
def JL (B : Nat → Nat) (L T k j n : Nat) (Cm Cc : Cd) (c m : St) : Prop := (∃ P o, Mp true B L j n P Cm o m) ∧ Cp true B L T j n Cc c ∧ m.1 21 = Int32.ofNat k ∧ c.1 605 = Int32.ofNat k ∧ k ≤ 12 ∧ ∀ i, i < k → ClL Cm Cc i (m.2.2.1 22) (c.2.2.1 600) (c.2.2.1 602)
theorem sLawC_cl {B : Nat → Nat} {L k j n : Nat} {Cm Cc : Cd} {x : Lr} {m' c' : St} (h : sLawC (tK B L) (tV B L) k Cm.length Cc.length j n = .ok x) (hm : lawT Cm.length k x.1 x.2.1.2.2.1.length x.2.2.2.2.2.1.length m') (hc : lawC Cc.length k x.1 x.2.1.2.2.2.1.length x.2.2.2.2.2.2.1.length c') (h4 : (Cm ++ x.2.1.2.2.1 ++ x.2.2.2.2.2.1).length ≤ 400) (h5 : (Cc ++ x.2.1.2.2.2.1 ++ x.2.2.2.2.2.2.1).length ≤ 400) : ClL (Cm ++ x.2.1.2.2.1 ++ x.2.2.2.2.2.1) (Cc ++ x.2.1.2.2.2.1 ++ x.2.2.2.2.2.2.1) k (m'.2.2.1 22) (c'.2.2.1 600) (c'.2.2.1 602) := by
  unfold sLawC at h
  by_cases hh : ¬ (300 ≤ tK B L j ∧ tK B L j ≤ 303) ∨ 12 ≤ k
  · rw [if_pos hh] at h; cases h
  rw [if_neg hh] at h
  obtain ⟨r, hr, h⟩ := exb_ok h
  obtain ⟨t, ht, h⟩ := exb_ok h
  have h := Except.ok.inj h
  subst h
  obtain ⟨m1, m2, m3, m4, m5⟩ := hm
  obtain ⟨c1, c2, c3, c4, c5⟩ := hc
  dsimp only at m1 m2 m3 m4 m5 c1 c2 c3 c4 c5 h4 h5 ⊢
  rw [List.length_append, List.length_append] at h4 h5
  refine ⟨tK B L j - 300, Cm.length, r.2.2.1.length, t.2.2.2.1.length, Cc.length, r.2.2.2.1.length, t.2.2.2.2.1.length, r.2.2.2.2, t.2.2.2.2.2, by omega, m1, m2, m3, m4, m5, c1, c2, c3, c4, c5, by rw [List.length_append, List.length_append]; omega, by rw [List.length_append, List.length_append]; omega, fun q => ?_, fun q => ?_, ?_⟩
  · rw [if_pos (show tK B L j = 303 by omega)] at hr
    have hr := Except.ok.inj hr
    subst hr
    exact ⟨rfl, rfl⟩
  · rw [if_neg (show ¬ tK B L j = 303 by omega)] at hr
    obtain ⟨gz, gd⟩ := sS_ok 10 _ _ _ _ _ _ hr
    exact (Gd.seg gd gz (sS_n 10 _ _ _ _ _ _ hr) (by omega) (by omega)).app
  · unfold sIf at ht
    by_cases hif : tK B L r.1 = 312
    · rw [if_pos hif] at ht
      obtain ⟨a, ha1, ha2⟩ := exb_ok ht
      have ha2 := Except.ok.inj ha2
      subst ha2
      obtain ⟨gz, gd⟩ := sT_ok 10 _ _ _ _ _ _ ha1
      refine Or.inr ⟨?_, gd.2.1 rfl⟩
      have e1 : Cm.length + r.2.2.1.length = (Cm ++ r.2.2.1).length := by rw [List.length_append]
      have e2 : Cc.length + r.2.2.2.1.length = (Cc ++ r.2.2.2.1).length := by rw [List.length_append]
      rw [e1, e2] at gd
      rw [e1, e2]
      dsimp only at h4 h5
      exact Gd.seg gd gz (sT_n 10 _ _ _ _ _ _ ha1) (by rw [List.length_append]; omega) (by rw [List.length_append]; omega)
    · rw [if_neg hif] at ht
      have ht := Except.ok.inj ht
      subst ht
      exact Or.inl ⟨rfl, rfl⟩
