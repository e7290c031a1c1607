/-! T2, retreat as a call -/
section Walk
variable {fz : List FP} {r : Nat → Int32} {n to : Nat}
theorem quick_l {c m : St} {e : Nat → Nat} {x : Nat} (H : Dq r n to c m) (hLc : Lc n e c) (hLm : Lm n e m) (hb : Lb n 3564 e) (hx : x < n) (hxf : e x ≤ 3564) : ∀ q, q ≤ n → (∃ o, n - q ≤ o ∧ o < n ∧ ldN r to x o = true ∧ e x = rdN r x o + e o) → ∃ o, o < n ∧ ldN r to x o = true ∧ e x = rdN r x o + e o ∧ (∀ N, lp (fun _ _ _ _ => none) (fX6_quickestStop_b2 fz) (N + 1 + q) (Int32.ofNat x) (Int32.ofNat to) (Int32.ofNat (n - q)) c = some (Int32.ofNat o, c)) ∧ ∀ N (k85 : Int32 → Int32 → Int32 → Int32 → St → Option (Int32 × St)) v3 v5, lp (fun _ _ _ _ _ _ => none) (fX12_retreat_b102 k85) (N + 1 + q) (Int32.ofNat to) v3 (Int32.ofNat x) v5 (Int32.ofNat (n - q)) m = k85 (Int32.ofNat to) v3 (Int32.ofNat o) (v5 + 1) m := by
  have h6 := H.2.1
  have ht := H.2.2.1
  intro q
  induction q with
  | zero => intro _ ⟨o, h1, h2, _⟩; omega
  | succ q ih =>
    intro hq hex
    have e1 : n - q = (n - (q + 1)) + 1 := by omega
    have hi : n - (q + 1) < n := by omega
    have ih' := ih (by omega)
    generalize n - (q + 1) = i at e1 hi hex ⊢
    rw [e1] at ih'
    obtain ⟨hr, er⟩ := rdN_le H hx hi
    have hei := hb i hi
    have hh := m_hours H hx hi (hLm i hi) (by omega)
    have i1 : Int32.ofNat x * (6 : Int32) + Int32.ofNat i = Int32.ofNat (x * 6 + i) := by rw [show (6 : Int32) = Int32.ofNat 6 from rfl, oN_mul, oN_add]
    have fx : fmN (e x) = e x := by unfold fmN; rw [if_neg (by omega)]
    have hbn : hbN r to x i (e i) ≤ 100000000 := by
      unfold hbN
      split
      · rename_i z; omega
      · exact Nat.le_refl _
    by_cases P : ldN r to x i = true ∧ e x = rdN r x i + e i
    · refine ⟨i, hi, P.1, P.2, fun N => ?_, fun N k85 v3 v5 => ?_⟩
      · rw [← Nat.add_assoc, lp_s]
        generalize lp (fun _ _ _ _ => none) (fX6_quickestStop_b2 fz) (N + 1 + q) = kk
        unfold fX6_quickestStop_b2
        rw [H.2.2.2.2.1, if_leF hi (by omega), c_leads H hx hi, bd_v, if_pos P.1, if_neg one_ne0, i1, gi_N (show x * 6 + i < 36 by omega) (by decide), gi_N (show i < 6 by omega) (by decide), gi_N (show x < 6 by omega) (by decide), oN_tn (show x * 6 + i < 2147483648 by omega), oN_tn (show i < 2147483648 by omega), oN_tn (show x < 2147483648 by omega), (H.2.2.2.2.2.1 (x * 6 + i) (by omega)).1, er, hLc i hi, hLc x hx, oN_add, if_eqT P.2.symm]
      · rw [← Nat.add_assoc, lp_s]
        generalize lp (fun _ _ _ _ _ _ => none) (fX12_retreat_b102 k85) (N + 1 + q) = kk
        unfold fX12_retreat_b102
        have hq2 : hbN r to x i (e i) = e x := by
          unfold hbN
          rw [if_pos ⟨P.1, by omega⟩]; exact P.2.symm
        rw [hh, bd_v, gi_N (show x < 6 by omega) (by decide), oN_tn (show x < 2147483648 by omega), hLm x hx, fx, if_eqT hq2, lt_v]
    · obtain ⟨o, o1, o2, o3, o4, o5⟩ := ih' (by
        obtain ⟨o, z1, z2, z3, z4⟩ := hex
        refine ⟨o, ?_, z2, z3, z4⟩
        by_cases w : o = i
        · rw [w] at z3 z4; exact absurd ⟨z3, z4⟩ P
        · omega)
      refine ⟨o, o1, o2, o3, fun N => ?_, fun N k85 v3 v5 => ?_⟩
      · rw [← o4 N, ← Nat.add_assoc, lp_s]
        generalize lp (fun _ _ _ _ => none) (fX6_quickestStop_b2 fz) (N + 1 + q) = kk
        unfold fX6_quickestStop_b2 fX6_quickestStop_b49
        rw [H.2.2.2.2.1, if_leF hi (by omega), c_leads H hx hi, bd_v, lt_v, oN_s]
        by_cases w : ldN r to x i = true
        · rw [if_pos w, if_neg one_ne0, i1, gi_N (show x * 6 + i < 36 by omega) (by decide), gi_N (show i < 6 by omega) (by decide), gi_N (show x < 6 by omega) (by decide), oN_tn (show x * 6 + i < 2147483648 by omega), oN_tn (show i < 2147483648 by omega), oN_tn (show x < 2147483648 by omega), (H.2.2.2.2.2.1 (x * 6 + i) (by omega)).1, er, hLc i hi, hLc x hx, oN_add, if_eqF (fun z => P ⟨w, z.symm⟩) (by omega) (by omega)]
        · rw [if_neg w, if_pos rfl]
      · rw [← o5 N k85 v3 v5, ← Nat.add_assoc, lp_s]
        generalize lp (fun _ _ _ _ _ _ => none) (fX12_retreat_b102 k85) (N + 1 + q) = kk
        unfold fX12_retreat_b102
        have hq2 : hbN r to x i (e i) ≠ e x := by
          unfold hbN
          by_cases w : ldN r to x i = true ∧ e i ≠ 1000000
          · rw [if_pos w]; exact fun z => P ⟨w.1, z.symm⟩
          · rw [if_neg w]; omega
        rw [hh, bd_v, gi_N (show x < 6 by omega) (by decide), oN_tn (show x < 2147483648 by omega), hLm x hx, fx, if_eqF hq2 (by omega) (by omega), lt_v, oN_s]
theorem walk_l {c m : St} {e : Nat → Nat} {i : Nat} (hi : i < 2147483648) (H : Dq r n to c m) (hLc : Lc n e c) (hLm : Lm n e m) (hb : Lb n 3564 e) (h0 : e to = 0) (hat : ∀ x, x < n → x ≠ to → e x ≠ 1000000 → ∃ o, o < n ∧ ldN r to x o = true ∧ e x = rdN r x o + e o) (hpos : ∀ f o, ldN r to f o = true → 0 < rdN r f o) : ∀ (K s x : Nat), x < n → e x ≠ 1000000 → cn (fun u => decide (e u < e x)) n ≤ K → s + K ≤ n - 1 → s ≤ i → ∃ v, (∀ N, lp (fun _ _ _ _ _ => none) (fX6_stopOnWay_b6 fz) (N + 1 + K) (Int32.ofNat to) (Int32.ofNat i) (Int32.ofNat x) (Int32.ofNat s) c = some (v, c)) ∧ ∀ N, lp (fun _ _ _ _ _ => none) fX12_retreat_b85 (N + 2 + K) (Int32.ofNat to) (Int32.ofNat i) (Int32.ofNat x) (Int32.ofNat s) m = some (v, m) := by
  have h6 := H.2.1
  have ht := H.2.2.1
  have atgoal : ∀ s, s ≤ i → s ≤ 6 → (∀ kk, fX6_stopOnWay_b6 fz kk (Int32.ofNat to) (Int32.ofNat i) (Int32.ofNat to) (Int32.ofNat s) c = some (-1, c)) ∧ ∀ kk, fX12_retreat_b85 kk (Int32.ofNat to) (Int32.ofNat i) (Int32.ofNat to) (Int32.ofNat s) m = some (-1, m) := by
    intro s hs hs6
    constructor
    · intro kk
      unfold fX6_stopOnWay_b6 fX6_stopOnWay_b51
      rw [if_pos (show Int32.ofNat to = Int32.ofNat to from rfl)]
      split <;> rfl
    · intro kk
      unfold fX12_retreat_b85
      rw [if_ltF hs (by omega), if_pos rfl]
  intro K
  induction K with
  | zero =>
    intro s x hx hxf hc hs hsi
    have hxt : x = to := by
      by_cases w : x = to
      · exact w
      · exfalso
        obtain ⟨o, o1, o2, o3⟩ := hat x hx w hxf
        have hp := hpos x o o2
        have := cn_one (p := fun _ => false) (q := fun u => decide (e u < e x)) (w := to) n ht (fun _ _ h => by cases h) (by decide) (decide_eq_true (by omega))
        omega
    subst hxt
    obtain ⟨g1, g2⟩ := atgoal s hsi (by omega)
    refine ⟨-1, fun N => ?_, fun N => ?_⟩
    · rw [Nat.add_zero, lp_s]; exact g1 _
    · rw [Nat.add_zero, show N + 2 = N + 1 + 1 from rfl, lp_s]; exact g2 _
  | succ K ih =>
    intro s x hx hxf hc hs hsi
    by_cases hxt : x = to
    · subst hxt
      obtain ⟨g1, g2⟩ := atgoal s hsi (by omega)
      refine ⟨-1, fun N => ?_, fun N => ?_⟩
      · rw [← Nat.add_assoc, lp_s]; exact g1 _
      · rw [← Nat.add_assoc, lp_s]; exact g2 _
    · have hxb : e x ≤ 3564 := by rcases hb x hx with z | z; exact absurd z hxf; exact z
      obtain ⟨o0, z1, z2, z3⟩ := hat x hx hxt hxf
      obtain ⟨o, o1, o2, o3, o4, o5⟩ := quick_l (fz := fz) H hLc hLm hb hx hxb n (Nat.le_refl _) ⟨o0, by omega, z1, z2, z3⟩
      have hp := hpos x o o2
      have hof : e o ≠ 1000000 := by omega
      have hco : cn (fun u => decide (e u < e o)) n + 1 ≤ cn (fun u => decide (e u < e x)) n := cn_one (w := o) n o1 (fun u _ hq => decide_eq_true (by have := of_decide_eq_true hq; omega)) (fun hq => by have := of_decide_eq_true hq; omega) (decide_eq_true (by omega))
      have q1 := o4 (5999 - n)
      rw [show 5999 - n + 1 + n = 6000 by omega, Nat.sub_self] at q1
      have q1' : fX6_quickestStop (Int32.ofNat x) (Int32.ofNat to) fz c = some (Int32.ofNat o, c) := q1
      have q2 := fun k85 v3 v5 => o5 (5999 - n) k85 v3 v5
      rw [show 5999 - n + 1 + n = 6000 by omega, Nat.sub_self] at q2
      have cs1 : ∀ kk, fX6_stopOnWay_b6 fz kk (Int32.ofNat to) (Int32.ofNat i) (Int32.ofNat x) (Int32.ofNat s) c = if s = i then some (Int32.ofNat o, c) else kk (Int32.ofNat to) (Int32.ofNat i) (Int32.ofNat o) (Int32.ofNat (s + 1)) c := by
        intro kk
        unfold fX6_stopOnWay_b6 fX6_stopOnWay_b42
        rw [H.2.2.2.2.1, if_leF (show s < n by omega) (by omega), if_eqF hxt (by omega) (by omega), q1', bd_v]
        by_cases w : s = i
        · rw [if_eqT w, if_pos w]
        · rw [if_eqF w (by omega) (by omega), if_neg w, if_neg (oN_ne1 (by omega)), lt_v, oN_s]
      have ms1 : ∀ kk, fX12_retreat_b85 kk (Int32.ofNat to) (Int32.ofNat i) (Int32.ofNat x) (Int32.ofNat s) m = kk (Int32.ofNat to) (Int32.ofNat i) (Int32.ofNat o) (Int32.ofNat (s + 1)) m := by
        intro kk
        unfold fX12_retreat_b85
        rw [if_ltF hsi (by omega), if_eqF hxt (by omega) (by omega)]
        have := q2 kk (Int32.ofNat i) (Int32.ofNat s)
        rw [oN_s] at this
        exact this
      by_cases w : s = i
      · refine ⟨Int32.ofNat o, fun N => ?_, fun N => ?_⟩
        · rw [← Nat.add_assoc, lp_s, cs1, if_pos w]
        · rw [← Nat.add_assoc, lp_s, ms1, show N + 2 + K = (N + 1 + K) + 1 by omega, lp_s]
          generalize lp (fun _ _ _ _ _ => none) fX12_retreat_b85 (N + 1 + K) = kk
          unfold fX12_retreat_b85
          rw [if_ltT (by omega) (by omega)]
      · obtain ⟨v, v1, v2⟩ := ih (s + 1) o o1 hof (by omega) (by omega) (by omega)
        refine ⟨v, fun N => ?_, fun N => ?_⟩
        · rw [← Nat.add_assoc, lp_s, cs1, if_neg w]; exact v1 N
        · rw [← Nat.add_assoc, lp_s, ms1]; exact v2 N
theorem retreat_call {c m : St} (a b i : Int32) (h : RR fz c m) : Cl fz c m (fX11_retreat a b i fz c) (fX12_retreat a b i m) := by
  have h' : Rq fz c (sI m 0 0) := h.z.1
  obtain ⟨v1, e1, e2, hv1⟩ := has_both a h'
  obtain ⟨v2, e3, e4, hv2⟩ := has_both b h'
  unfold fX11_retreat fX12_retreat fX11_retreat_b32 fX12_retreat_b31
  rw [lt_v, e1, bd_v, e2, bd_v]
  rcases hv1 with hv1 | ⟨hv1, x, hx6, hxn, ea⟩
  · rw [if_pos hv1, if_pos hv1]; exact Cl.of h
  subst hv1
  rw [if_neg one_ne0, if_neg one_ne0, e3, bd_v, e4, bd_v]
  rcases hv2 with hv2 | ⟨hv2, t, ht6, htn, eb⟩
  · rw [if_pos hv2, if_pos hv2]; exact Cl.of h
  subst hv2
  rw [if_neg one_ne0, if_neg one_ne0]
  by_cases hab : a = b
  · rw [if_pos hab, if_pos hab]; exact Cl.of h
  rw [if_neg hab, if_neg hab]
  by_cases him : ¬ ((-1 : Int32) ≤ i)
  · rw [if_neg him, if_neg him]; exact Cl.of h
  replace him := Decidable.of_not_not him
  rw [if_pos him, if_pos him]
  subst ea
  subst eb
  have hxt : x ≠ t := fun z => hab (by rw [z])
  obtain ⟨q0, n, hn, en⟩ := h'.1.1
  rw [en, oN_tn (by omega)] at hxn htn
  have H : Dq (m.2.2.1 3) n t c (sI m 0 0) := ⟨rfl, hn, htn, en, q0.trans en, h'.1.2.2.2.2.2.2.2.2.2.2, h'.1.2.2.2.2.2.2.2.1⟩
  obtain ⟨e, c1, m1, a1, a2, a3, a4, a5, a6, a7, a8, a9, a10⟩ := lay_both (fz := fz) (v := Int32.ofNat x) H
  have R1 := h.a (a9.ca (by decide) (by decide)) (m' := m1) (((fr.sI (I := [0]) (J := []) (A := [41]) (by decide)).tr (a10.up (by decide) (by decide) (by decide))).ma (by decide) (by decide))
  have fin : ∀ v : Int32, Cl fz c m (some (v, c1)) (some (v, m1)) := fun v => ⟨v, c1, m1, rfl, rfl, R1.1, R1.2⟩
  have hpos : ∀ f o, ldN (m.2.2.1 3) t f o = true → 0 < rdN (m.2.2.1 3) f o := by
    intro f o h
    unfold ldN at h
    have := (Bool.and_eq_true _ _ ▸ h).1
    exact of_decide_eq_true this
  unfold fX11_retreat_b85 fX12_retreat_b56 fX12_retreat_b78
  rw [a1, bd_v, a2, bd_v, gi_N hx6 (by decide), gi_N hx6 (by decide), gi_N hx6 (by decide), gi_N hx6 (by decide), gi_N hx6 (by decide), oN_tn (show x < 2147483648 by omega), a3 x hxn, a4 x hxn]
  by_cases hf : e x = 1000000
  · have hfm : fmN (e x) = 100000000 := by unfold fmN; rw [if_pos hf]
    rw [hf] at hfm ⊢
    rw [hfm, if_pos (show Int32.ofNat 1000000 = 1000000 from rfl), if_pos (show Int32.ofNat 100000000 = 100000000 from rfl), if_pos (show Int32.ofNat 100000000 = 100000000 from rfl)]
    exact fin _
  · have hxb : e x ≤ 3564 := by rcases a5 x hxn with z | z; exact absurd z hf; exact z
    have hfm : fmN (e x) = e x := by unfold fmN; rw [if_neg hf]
    have n1 : ¬ (Int32.ofNat (e x) = 1000000) := fun q => by have := (oN_eq (b := 1000000) (by omega) (by decide)).mp q; omega
    have n2 : ¬ (Int32.ofNat (e x) = 100000000) := fun q => by have := (oN_eq (b := 100000000) (by omega) (by decide)).mp q; omega
    rw [hfm, if_neg n1, if_neg n2]
    by_cases hi1 : i = -1
    · rw [if_pos hi1, if_pos hi1, if_neg n2]; exact fin _
    · rw [if_neg hi1, if_neg hi1]
      have hi0 : (0 : Int32) ≤ i := by
        have w1 := Int32.le_iff_toInt_le.mp him
        have w2 : (-1 : Int32).toInt = -1 := by decide
        have w3 : (0 : Int32).toInt = 0 := by decide
        rw [Int32.le_iff_toInt_le, w3]
        have : i.toInt ≠ -1 := fun z => hi1 (by rw [← Int32.toInt_inj, z, w2])
        omega
      obtain ⟨j, hj, ej⟩ := oN_ex hi0
      subst ej
      have hcx := cn_lt (p := fun u => decide (e u < e x)) (v := x) (k := n) hxn (fun q => by have := of_decide_eq_true q; omega)
      obtain ⟨v, g1, g2⟩ := walk_l (fz := fz) hj (H.f a9 a10) a3 a4 a5 a6 a8 hpos (n - 1) 0 x hxn hf (by omega) (by omega) (by omega)
      have g1' := g1 (5999 - (n - 1))
      have g2' := g2 (5998 - (n - 1))
      rw [show 5999 - (n - 1) + 1 + (n - 1) = 6000 by omega] at g1'
      rw [show 5998 - (n - 1) + 2 + (n - 1) = 6000 by omega] at g2'
      have g1'' : fX6_stopOnWay (Int32.ofNat x) (Int32.ofNat t) (Int32.ofNat j) fz c1 = some (v, c1) := g1'
      have g2'' : lp (fun _ _ _ _ _ => none) fX12_retreat_b85 6000 (Int32.ofNat t) (Int32.ofNat j) (Int32.ofNat x) 0 m1 = some (v, m1) := g2'
      rw [g1'', bd_v, g2'']
      exact fin v
end Walk
