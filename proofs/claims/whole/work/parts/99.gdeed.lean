/-! T2, deeds: what they change, without the log -/
def df (c c' : St) : Prop := (∀ k, k ∉ [204, 905] → c'.1 k = c.1 k) ∧ c'.2.1 = c.2.1 ∧ (∀ k, k ∉ [200, 201, 202, 203, 801, 902] → c'.2.2.1 k = c.2.2.1 k) ∧ (∀ k, k ∉ [803] → c'.2.2.2.1 k = c.2.2.2.1 k) ∧ c'.2.2.2.2 = c.2.2.2.2
def dm (m m' : St) : Prop := (∀ k, k ∉ [8, 34, 38] → m'.1 k = m.1 k) ∧ (∀ k, k ∉ [39, 40] → m'.2.1 k = m.2.1 k) ∧ (∀ k, k ∉ [3, 6, 7] → m'.2.2.1 k = m.2.2.1 k) ∧ (∀ k, k ∉ [35, 37] → m'.2.2.2.1 k = m.2.2.2.1 k) ∧ m'.2.2.2.2 = m.2.2.2.2 ∧ (∀ k, k < 6 ∨ 31 ≤ k → m'.2.2.1 3 k = m.2.2.1 3 k)
theorem df.rf {c : St} : df c c := ⟨fun _ _ => rfl, rfl, fun _ _ => rfl, fun _ _ => rfl, rfl⟩
theorem dm.rf {m : St} : dm m m := ⟨fun _ _ => rfl, fun _ _ => rfl, fun _ _ => rfl, fun _ _ => rfl, rfl, fun _ _ => rfl⟩
theorem df.tr {a b c : St} (h : df a b) (k : df b c) : df a c := ⟨fun q hq => (k.1 q hq).trans (h.1 q hq), k.2.1.trans h.2.1, fun q hq => (k.2.2.1 q hq).trans (h.2.2.1 q hq), fun q hq => (k.2.2.2.1 q hq).trans (h.2.2.2.1 q hq), k.2.2.2.2.trans h.2.2.2.2⟩
theorem dm.tr {a b c : St} (h : dm a b) (k : dm b c) : dm a c := ⟨fun q hq => (k.1 q hq).trans (h.1 q hq), fun q hq => (k.2.1 q hq).trans (h.2.1 q hq), fun q hq => (k.2.2.1 q hq).trans (h.2.2.1 q hq), fun q hq => (k.2.2.2.1 q hq).trans (h.2.2.2.1 q hq), k.2.2.2.2.1.trans h.2.2.2.2.1, fun q hq => (k.2.2.2.2.2 q hq).trans (h.2.2.2.2.2 q hq)⟩
theorem cq.df {c c' : St} (h : cq c c') : df c c' := ⟨fun k _ => by rw [h.1], h.2.1, fun k hk => h.2.2.1 k (fun e => hk (by rw [e]; decide)), fun k hk => h.2.2.2.1 k (fun e => hk (by rw [e]; decide)), h.2.2.2.2⟩
theorem mq.dm {m m' : St} (h : mq m m') : dm m m' := ⟨fun k hk => h.1 k (fun e => hk (by rw [e]; decide)) (fun e => hk (by rw [e]; decide)), fun k hk => h.2.1 k (fun e => hk (by rw [e]; decide)) (fun e => hk (by rw [e]; decide)), fun k _ => by rw [h.2.2.1], fun k hk => h.2.2.2.1 k (fun e => hk (by rw [e]; decide)) (fun e => hk (by rw [e]; decide)), h.2.2.2.2, fun k _ => by rw [h.2.2.1]⟩
theorem fr.df {I J A : List Nat} {c c' : St} (h : fr I [] A c c') (h1 : ∀ k, k ∈ I → k ∈ [204, 905]) (h2 : ∀ k, k ∈ A → k ∈ [200, 201, 202, 203, 801, 902]) : df c c' := ⟨fun k hk => h.1 k (fun e => hk (h1 k e)), funext (fun k => h.2.1 k (by intro e; cases e)), fun k hk => h.2.2.1 k (fun e => hk (h2 k e)), fun k _ => by rw [h.2.2.2], by rw [h.2.2.2]⟩
theorem fr.dm {I A : List Nat} {m m' : St} (h : fr I [] A m m') (h1 : ∀ k, k ∈ I → k ∈ [8, 34, 38]) (h2 : ∀ k, k ∈ A → k ∈ [3, 6, 7]) (h3 : ∀ k, k < 6 ∨ 31 ≤ k → m'.2.2.1 3 k = m.2.2.1 3 k) : dm m m' := ⟨fun k hk => h.1 k (fun e => hk (h1 k e)), fun k _ => h.2.1 k (by intro e; cases e), fun k hk => h.2.2.1 k (fun e => hk (h2 k e)), fun k _ => by rw [h.2.2.2], by rw [h.2.2.2], h3⟩
/-- a deed at fort f of general g, without the log -/
def Mt (fz : List FP) (f g : Nat) (c m c' m' : St) : Prop := Rq fz c' m' ∧ df c c' ∧ dm m m' ∧ c'.1 905 = c.1 905 ∧ c'.2.2.1 902 = c.2.2.1 902 ∧ m'.1 8 = m.1 8 ∧ m'.2.2.1 6 = m.2.2.1 6 ∧ m'.2.2.1 7 = m.2.2.1 7 ∧ (∀ k, k < 37 → k ≠ 6 → k ≠ 9 + g → k ≠ 13 + f → k ≠ 19 + f → k ≠ 25 + f → m'.2.2.1 3 k = m.2.2.1 3 k)
set_option maxRecDepth 100000 in
theorem bx_all : ∀ s : Fin 6, ∀ v : Fin 64, (((Int32.ofNat v.val >>> (Int32.ofNat s.val &&& 31)) &&& 1) = 1 → Int32.ofNat v.val ^^^ ((1 : Int32) <<< (Int32.ofNat s.val &&& 31)) = Int32.ofNat v.val - ((1 : Int32) <<< (Int32.ofNat s.val &&& 31))) ∧ (¬ ((Int32.ofNat v.val >>> (Int32.ofNat s.val &&& 31)) &&& 1) = 1 → Int32.ofNat v.val ^^^ ((1 : Int32) <<< (Int32.ofNat s.val &&& 31)) = Int32.ofNat v.val ||| ((1 : Int32) <<< (Int32.ofNat s.val &&& 31))) ∧ (Int32.ofNat v.val ^^^ ((1 : Int32) <<< (Int32.ofNat s.val &&& 31))).toNatClampNeg ≤ 63 ∧ Int32.ofNat (Int32.ofNat v.val ^^^ ((1 : Int32) <<< (Int32.ofNat s.val &&& 31))).toNatClampNeg = Int32.ofNat v.val ^^^ ((1 : Int32) <<< (Int32.ofNat s.val &&& 31)) := by decide +kernel
theorem bx_nb {x : Int32} {s : Nat} (hx : nb 63 x) (hs : s < 6) : nb 63 (x ^^^ ((1 : Int32) <<< (Int32.ofNat s &&& 31))) := by
  obtain ⟨v, hv, ev⟩ := hx
  subst ev
  obtain ⟨-, -, h3, h4⟩ := bx_all ⟨s, hs⟩ ⟨v, by omega⟩
  exact ⟨_, h3, h4.symm⟩
theorem bx_set {x : Int32} {s : Nat} (hx : nb 63 x) (hs : s < 6) (h : ((x >>> (Int32.ofNat s &&& 31)) &&& 1) = 1) : x - ((1 : Int32) <<< (Int32.ofNat s &&& 31)) = x ^^^ ((1 : Int32) <<< (Int32.ofNat s &&& 31)) := by
  obtain ⟨v, hv, ev⟩ := hx
  subst ev
  exact ((bx_all ⟨s, hs⟩ ⟨v, by omega⟩).1 h).symm
theorem bx_clr {x : Int32} {s : Nat} (hx : nb 63 x) (hs : s < 6) (h : ¬ ((x >>> (Int32.ofNat s &&& 31)) &&& 1) = 1) : x ||| ((1 : Int32) <<< (Int32.ofNat s &&& 31)) = x ^^^ ((1 : Int32) <<< (Int32.ofNat s &&& 31)) := by
  obtain ⟨v, hv, ev⟩ := hx
  subst ev
  exact ((bx_all ⟨s, hs⟩ ⟨v, by omega⟩).2.1 h).symm
section Deed
variable {fz : List FP} {c m : St} {f g : Nat}
/-- the signs of a fort are turned -/
theorem Mt.shown {x : Int32} (h : Rq fz c m) (hf : f < 6) (hx : nb 63 x) : Mt fz f g c m (sA c 201 (upd (c.2.2.1 201) f x)) (sA m 3 (upd (m.2.2.1 3) (19 + f) x)) := by
  have hu : ∀ k, k ≠ 19 + f → upd (m.2.2.1 3) (19 + f) x k = m.2.2.1 3 k := fun k hk => by rw [upd_v, if_neg hk]
  refine ⟨⟨Rl.u201 h.1 hf hx, Rw.u h.2.1 (by omega) rfl rfl rfl, h.2.2⟩, fr.df (J := []) (fr.sA (I := []) (A := [201]) (by decide)) (by decide) (by decide), fr.dm (fr.sA (I := []) (A := [3]) (by decide)) (by decide) (by decide) (fun k hk => hu k (by omega)), rfl, rfl, rfl, rfl, rfl, fun k _ _ _ _ h4 _ => hu k h4⟩
theorem Mt.men {x : Int32} (h : Rq fz c m) (hf : f < 6) (hx : nb 99 x) : Mt fz f g c m (sA c 200 (upd (c.2.2.1 200) f x)) (sA m 3 (upd (m.2.2.1 3) (13 + f) x)) := by
  have hu : ∀ k, k ≠ 13 + f → upd (m.2.2.1 3) (13 + f) x k = m.2.2.1 3 k := fun k hk => by rw [upd_v, if_neg hk]
  refine ⟨⟨Rl.u200 h.1 hf hx, Rw.u h.2.1 (by omega) rfl rfl rfl, h.2.2⟩, fr.df (J := []) (fr.sA (I := []) (A := [200]) (by decide)) (by decide) (by decide), fr.dm (fr.sA (I := []) (A := [3]) (by decide)) (by decide) (by decide) (fun k hk => hu k (by omega)), rfl, rfl, rfl, rfl, rfl, fun k _ _ _ h3 _ _ => hu k h3⟩
theorem Mt.taken {x : Int32} (h : Rq fz c m) (hf : f < 6) (hx : nb 1 x) : Mt fz f g c m (sA c 202 (upd (c.2.2.1 202) f x)) (sA m 3 (upd (m.2.2.1 3) (25 + f) x)) := by
  have hu : ∀ k, k ≠ 25 + f → upd (m.2.2.1 3) (25 + f) x k = m.2.2.1 3 k := fun k hk => by rw [upd_v, if_neg hk]
  refine ⟨⟨Rl.u202 h.1 hf hx, Rw.u h.2.1 (by omega) rfl rfl rfl, h.2.2⟩, fr.df (J := []) (fr.sA (I := []) (A := [202]) (by decide)) (by decide) (by decide), fr.dm (fr.sA (I := []) (A := [3]) (by decide)) (by decide) (by decide) (fun k hk => hu k (by omega)), rfl, rfl, rfl, rfl, rfl, fun k _ _ _ _ _ h5 => hu k h5⟩
theorem Mt.fame {x : Int32} (h : Rq fz c m) (hg : g < 4) (hx : nb 100 x) : Mt fz f g c m (sA c 203 (upd (c.2.2.1 203) g x)) (sA m 3 (upd (m.2.2.1 3) (9 + g) x)) := by
  have hu : ∀ k, k ≠ 9 + g → upd (m.2.2.1 3) (9 + g) x k = m.2.2.1 3 k := fun k hk => by rw [upd_v, if_neg hk]
  refine ⟨⟨Rl.u203 h.1 hg hx, Rw.u h.2.1 (by omega) rfl rfl rfl, h.2.2⟩, fr.df (J := []) (fr.sA (I := []) (A := [203]) (by decide)) (by decide) (by decide), fr.dm (fr.sA (I := []) (A := [3]) (by decide)) (by decide) (by decide) (fun k hk => hu k (by omega)), rfl, rfl, rfl, rfl, rfl, fun k _ _ h2 _ _ _ => hu k h2⟩
theorem Mt.day {x : Int32} (h : Rq fz c m) (hx : nb 999 x) : Mt fz f g c m (sI c 204 x) (sA m 3 (upd (m.2.2.1 3) 6 x)) := by
  have hu : ∀ k, k ≠ 6 → upd (m.2.2.1 3) 6 x k = m.2.2.1 3 k := fun k hk => by rw [upd_v, if_neg hk]
  refine ⟨⟨Rl.i204 h.1 hx, Rw.u h.2.1 (by omega) rfl rfl rfl, h.2.2⟩, fr.df (J := []) (fr.sI (I := [204]) (A := []) (by decide)) (by decide) (by decide), fr.dm (fr.sA (I := []) (A := [3]) (by decide)) (by decide) (by decide) (fun k hk => hu k (by omega)), rfl, rfl, rfl, rfl, rfl, fun k _ h1 _ _ _ _ => hu k h1⟩
theorem Mt.q {c' m' : St} (h : Rq fz c m) (k : cq c c') (k2 : mq m m') : Mt fz f g c m c' m' := ⟨h.q k k2, k.df, k2.dm, by rw [k.1], k.2.2.1 902 (by decide), k2.1 8 (by decide) (by decide), by rw [k2.2.2.1], by rw [k2.2.2.1], fun q _ _ _ _ _ _ => by rw [k2.2.2.1]⟩
theorem Mt.tr {c1 m1 c2 m2 : St} (a : Mt fz f g c m c1 m1) (b : Mt fz f g c1 m1 c2 m2) : Mt fz f g c m c2 m2 := by
  obtain ⟨-, a1, a2, a3, a4, a5, a6, a7, a8⟩ := a
  obtain ⟨b0, b1, b2, b3, b4, b5, b6, b7, b8⟩ := b
  exact ⟨b0, a1.tr b1, a2.tr b2, b3.trans a3, b4.trans a4, b5.trans a5, b6.trans a6, b7.trans a7, fun k h0 h1 h2 h3 h4 h5 => (b8 k h0 h1 h2 h3 h4 h5).trans (a8 k h0 h1 h2 h3 h4 h5)⟩
/-- man -/
theorem man_mut {v : Int32} (h : Rq fz c m) (hf : f < 6) (hv : nb 99 (m.2.2.1 3 (13 + f) + v)) : fX2_changeFort 2 (Int32.ofNat f) v fz c = some (m.2.2.1 3 (13 + f) + v, sA c 200 (upd (c.2.2.1 200) f (m.2.2.1 3 (13 + f) + v))) := by
  have q200 : c.2.2.1 200 f = m.2.2.1 3 (13 + f) := (h.1.2.2.2.2.2.1 f hf).1
  have t : ∀ x, (sA c 200 (upd (c.2.2.1 200) f x)).2.2.1 200 f = x := fun x => by
    show upd (c.2.2.1 200) f x f = x
    rw [upd_v, if_pos rfl]
  unfold fX2_changeFort
  rw [if_pos rfl, gi_N hf (by decide), gi_N hf (by decide), lt_v, gi_N hf (by decide), oN_tn (by omega), q200, t]
theorem hide_mut {s : Nat} (h : Rq fz c m) (hf : f < 6) : fX2_changeFort 1 (Int32.ofNat f) (Int32.ofNat s) fz c = some (m.2.2.1 3 (19 + f) ^^^ ((1 : Int32) <<< (Int32.ofNat s &&& 31)), sA c 201 (upd (c.2.2.1 201) f (m.2.2.1 3 (19 + f) ^^^ ((1 : Int32) <<< (Int32.ofNat s &&& 31))))) := by
  have q201 : c.2.2.1 201 f = m.2.2.1 3 (19 + f) := (h.1.2.2.2.2.2.2.1 f hf).1
  have t : ∀ x, (sA c 201 (upd (c.2.2.1 201) f x)).2.2.1 201 f = x := fun x => by
    show upd (c.2.2.1 201) f x f = x
    rw [upd_v, if_pos rfl]
  unfold fX2_changeFort fX2_changeFort_b70
  rw [if_neg (show ¬ ((1 : Int32) = 2) by decide), gi_N hf (by decide), gi_N hf (by decide), lt_v, if_pos rfl, gi_N hf (by decide), oN_tn (by omega), q201, t]
theorem show_mut {s : Nat} (h : Rq fz c m) (hf : f < 6) (hs : s < 6) : ∃ v c' m', nb 99 v ∧ fX2_changeFort 0 (Int32.ofNat f) (Int32.ofNat s) fz c = some (v, c') ∧ fX12_paysOf (Int32.ofNat f) (Int32.ofNat s) m = some (v, m') ∧ cq (sA c 201 (upd (c.2.2.1 201) f (m.2.2.1 3 (19 + f) ^^^ ((1 : Int32) <<< (Int32.ofNat s &&& 31))))) c' ∧ mq m m' := by
  have q201 : c.2.2.1 201 f = m.2.2.1 3 (19 + f) := (h.1.2.2.2.2.2.2.1 f hf).1
  obtain ⟨v, c', m', k1, k2, k3, k4, k5⟩ := pays6 (fz := fz) (c := sA c 201 (upd (c.2.2.1 201) f (m.2.2.1 3 (19 + f) ^^^ ((1 : Int32) <<< (Int32.ofNat s &&& 31))))) (m := m) (f := f) (s := s) ⟨h.1.six, h.2.1, h.2.2⟩ hf hs
  refine ⟨v, c', m', k5, ?_, k2, k3, k4⟩
  unfold fX2_changeFort fX2_changeFort_b70
  rw [if_neg (show ¬ ((0 : Int32) = 2) by decide), gi_N hf (by decide), gi_N hf (by decide), lt_v, if_neg (show ¬ ((0 : Int32) = 1) by decide), oN_tn (by omega), q201, k1, bd_v]
/-- clamps of a fame -/
theorem clF (y : Int32) : ∃ z, nb 100 z ∧ (if (0 : Int32) < (if y < (100 : Int32) then y else (100 : Int32)) then (if y < (100 : Int32) then y else (100 : Int32)) else (0 : Int32)) = z ∧ fX12_within y.toInt64 0 100 = some z := by
  unfold fX12_within fX12_within_b24
  by_cases h0 : (0 : Int32) ≤ y
  · have h0' : (0 : Int32).toInt64 ≤ y.toInt64 := (i64_le _ _).mpr h0
    rw [if_pos ((cmp_ge _ _).mpr h0'), Int32.toInt32_toInt64]
    obtain ⟨n, hn, en⟩ := oN_ex h0
    subst en
    by_cases h1 : n ≤ 100
    · have h1' : Int32.ofNat n ≤ 100 := (oN_le (b := 100) hn (by decide)).mpr h1
      rw [if_pos ((cmp_le _ _).mpr ((i64_le _ _).mpr h1'))]
      refine ⟨_, ⟨n, h1, rfl⟩, ?_, rfl⟩
      by_cases h2 : n = 100
      · subst h2; rfl
      · rw [if_pos (show Int32.ofNat n < 100 from (oN_lt (b := 100) hn (by decide)).mpr (by omega))]
        by_cases h3 : n = 0
        · subst h3; rfl
        · rw [if_pos (show (0 : Int32) < Int32.ofNat n from (oN_lt (a := 0) (by decide) hn).mpr (by omega))]
    · have h1' : ¬ (Int32.ofNat n ≤ 100) := fun q => h1 ((oN_le (b := 100) hn (by decide)).mp q)
      rw [if_neg (fun q => h1' ((i64_le _ _).mp ((cmp_le _ _).mp q)))]
      refine ⟨_, ⟨100, Nat.le_refl _, rfl⟩, ?_, rfl⟩
      rw [if_neg (show ¬ (Int32.ofNat n < 100) from fun q => by have := (oN_lt (b := 100) hn (by decide)).mp q; omega)]
      rfl
  · have h0' : ¬ ((0 : Int32).toInt64 ≤ y.toInt64) := fun q => h0 ((i64_le _ _).mp q)
    rw [if_neg (fun q => h0' ((cmp_ge _ _).mp q))]
    refine ⟨0, ⟨0, by omega, rfl⟩, ?_, rfl⟩
    have hy : y < 0 := Int32.not_le.mp h0
    rw [if_pos (Int32.lt_trans hy (by decide)), if_neg (Int32.not_lt.mpr (Int32.le_of_lt hy))]
/-- the end of a march: fame and day -/
theorem march_end {a e : Int32} (h : Rq fz c m) (hf : f < 6) (hg : m.2.2.1 3 (31 + f) = Int32.ofNat g) (hg4 : g < 4) (ha : wsm a) (he : wsm e) (hd : ∃ n, n < 999 ∧ m.2.2.1 3 6 = Int32.ofNat n) : ∃ c' m', fX2_marchOn_b70 fz (Int32.ofNat f) a e c = some (e, c') ∧ fX12_marchIt_b89 a (Int32.ofNat f) e m = some (e, m') ∧ Mt fz f g c m c' m' := by
  obtain ⟨v, b, x, c1, m1, k1, k2, k3, k4, k5, k6, -⟩ := fame_both a e h hf ha he
  have h1 : Rq fz c1 m1 := h.q k5 k6
  have q103 : c.2.2.1 103 f = Int32.ofNat g := ((h.1.2.2.2.2.2.2.2.2.1 f hf).1).trans hg
  have q203 : c.2.2.1 203 g = m.2.2.1 3 (9 + g) := (h.1.2.2.2.2.1 g hg4).1
  have r3 : m1.2.2.1 3 = m.2.2.1 3 := by rw [k6.2.2.1]
  have e19 : (19 : Int32) + Int32.ofNat f = Int32.ofNat (19 + f) := oN_add 19 f
  have e31 : (31 : Int32) + Int32.ofNat f = Int32.ofNat (31 + f) := oN_add 31 f
  have e9 : (9 : Int32) + Int32.ofNat g = Int32.ofNat (9 + g) := oN_add 9 g
  obtain ⟨z, hz, z1, z2⟩ := clF (m.2.2.1 3 (9 + g) + v)
  obtain ⟨n, hn, en⟩ := hd
  have M1 : Mt fz f g c m c1 m1 := Mt.q h k5 k6
  have M2 : Mt fz f g c1 m1 (sA c1 203 (upd (c1.2.2.1 203) g z)) (sA m1 3 (upd (m1.2.2.1 3) (9 + g) z)) := Mt.fame h1 hg4 hz
  have M3 : Mt fz f g (sA c1 203 (upd (c1.2.2.1 203) g z)) (sA m1 3 (upd (m1.2.2.1 3) (9 + g) z)) (sI (sA c1 203 (upd (c1.2.2.1 203) g z)) 204 (Int32.ofNat (n + 1))) (sA (sA m1 3 (upd (m1.2.2.1 3) (9 + g) z)) 3 (upd ((sA m1 3 (upd (m1.2.2.1 3) (9 + g) z)).2.2.1 3) 6 (Int32.ofNat (n + 1)))) := Mt.day M2.1 ⟨n + 1, by omega, rfl⟩
  refine ⟨_, _, ?_, ?_, (M1.tr M2).tr M3⟩
  · unfold fX2_marchOn_b70
    have q204 : (sA c1 203 (upd (c1.2.2.1 203) g z)).1 204 = Int32.ofNat n := by
      show c1.1 204 = _
      rw [h1.1.2.1.1, r3]; exact en
    rw [gi_N hf (by decide), lt_v, oN_tn (show f < 2147483648 by omega), q103, gi_N hg4 (by decide), k1, bd_v, lt_v, gi_N hg4 (by decide), oN_tn (show g < 2147483648 by omega), q203, z1, lt_v, lt_v, q204, oN_s]
  · unfold fX12_marchIt_b89
    have o6 : (6 : Int32).toNatClampNeg = 6 := rfl
    have q6 : (sA m1 3 (upd (m1.2.2.1 3) (9 + g) z)).2.2.1 3 6 = Int32.ofNat n := by
      show upd (m1.2.2.1 3) (9 + g) z 6 = _
      rw [upd_v, if_neg (by omega), r3]; exact en
    rw [e19, gi_N (show 19 + f < 5550 by omega) (by decide), oN_tn (show 19 + f < 2147483648 by omega), k2, bd_v, k3, bd_v, k4, bs_v, e31, gi_N (show 31 + f < 5550 by omega) (by decide), oN_tn (show 31 + f < 2147483648 by omega), r3, hg, e9, lt_v, gi_N (show 9 + g < 5550 by omega) (by decide), oN_tn (show 9 + g < 2147483648 by omega), z2, bs_v, gi_N (show 9 + g < 5550 by omega) (by decide), lt_v, lt_v, o6]
    rw [← r3, q6, oN_s]
end Deed
