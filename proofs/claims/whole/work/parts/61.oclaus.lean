/-! T2, one clause of orders: the grammar and the reference -/
def jointO (k : Nat) : Nat := if k = 307 then 309 else if k = 306 then 310 else 308
def actO (k : Nat) : Nat := if k = 304 then 0 else if k = 305 then 1 else if k = 307 then 2 else 3
def sTimes (K V : Nat → Nat) (j : Nat) : Except Nat (Nat × Nat) := if K j = 311 then (if K (j + 1) = 256 ∧ 1 ≤ V (j + 1) ∧ V (j + 1) ≤ 20 then .ok (V (j + 1), j + 2) else .error (j + 1)) else .ok (1, j)
/-- the two sums as one reading, for what follows -/
def both2 (r1 r2 : Re) (j : Nat) : Re := (j, r2.2.1, r1.2.2.1 ++ r2.2.2.1, r1.2.2.2.1 ++ r2.2.2.2.1, fun _ => some 1)
abbrev Or' : Type := Nat × Re × Re × Nat × Bool × Re
def sOrdC (K V : Nat → Nat) (k bm bc j n : Nat) : Except Nat Or' :=
  if ¬ (304 ≤ K j ∧ K j ≤ 307) ∨ 12 ≤ k then .error j
  else (sS false K V 10 0 bm bc (j + 1) n).bind fun r1 => if K r1.1 = jointO (K j) then ((sS false K V 10 0 (bm + r1.2.2.1.length) (bc + r1.2.2.2.1.length) (r1.1 + 1) r1.2.1).bind fun r2 => (sTimes K V r2.1).bind fun tm => (sIf false K V bm bc (both2 r1 r2 tm.2)).bind fun t => .ok (K j, r1, r2, tm.1, t.1, t.2)) else .error r1.1
def OF : St → St → Prop := fr [14, 15, 16, 18, 19, 21, 23, 26, 29, 30] [17] [45, 24, 25, 27, 28]
theorem OF.rf {st : St} : OF st st := fr.rf
theorem OF.tr {a b c : St} (h : OF a b) (k : OF b c) : OF a c := fr.tr h k
theorem PF.of {a b : St} (h : PF a b) : OF a b := fr.up h (by decide) (by decide) (by decide)
theorem actO_le (k : Nat) : actO k ≤ 3 := by
  unfold actO
  repeat' split
  all_goals omega
theorem actO_at (K k : Nat) (hk : k < 4) (hK : 304 ≤ K ∧ K ≤ 307) : K = 300 + [4, 5, 7, 6].getD k 0 ↔ actO K = k := by
  have h1 : K = 304 ∨ K = 305 ∨ K = 306 ∨ K = 307 := by omega
  have h2 : k = 0 ∨ k = 1 ∨ k = 2 ∨ k = 3 := by omega
  rcases h1 with rfl | rfl | rfl | rfl <;> rcases h2 with rfl | rfl | rfl | rfl <;> decide
section OrdM
variable {lw : Bool} {B : Nat → Nat} {L j n o : Nat} {P C : Cd} {st : St}
theorem m_actAt (h : Mp lw B L j n P C o st) : lp (fun _ _ _ => none) fX12_readOrder_b4 6000 (-1 : Int32) (0 : Int32) st = (if 304 ≤ tK B L j ∧ tK B L j ≤ 307 then (if 12 ≤ (st.1 21) then fX12_readOrder_b53 (Int32.ofNat (actO (tK B L j))) st else fX12_readOrder_b54 (Int32.ofNat (actO (tK B L j))) 1 st) else fX12_readOrder_b53 (-1) st) := by
  have ha3 := actO_le (tK B L j)
  have hlt : ∀ q, q < 4 → [4, 5, 7, 6].getD q 0 < 29 := by decide
  have hin : ∀ q, q < 4 → 4 ≤ [4, 5, 7, 6].getD q 0 ∧ [4, 5, 7, 6].getD q 0 ≤ 7 := by decide
  have hloop : ∀ (k m : Nat), k ≤ 4 → lp (fun _ _ _ => none) fX12_readOrder_b4 (m + k) (if (304 ≤ tK B L j ∧ tK B L j ≤ 307) ∧ actO (tK B L j) < 4 - k then Int32.ofNat (actO (tK B L j)) else -1) (Int32.ofNat (4 - k)) st = lp (fun _ _ _ => none) fX12_readOrder_b4 m (if (304 ≤ tK B L j ∧ tK B L j ≤ 307) ∧ actO (tK B L j) < 4 then Int32.ofNat (actO (tK B L j)) else -1) (Int32.ofNat 4) st := by
    intro k
    induction k with
    | zero => intro m _; rfl
    | succ k ih =>
      intro m hk
      rw [← ih m (by omega), ← Nat.add_assoc, lp_s]
      generalize lp (fun _ _ _ => none) fX12_readOrder_b4 (m + k) = kk
      conv => lhs; unfold fX12_readOrder_b4
      rw [oN_lit, if_leF (by omega) (by omega), gi_N (by omega) (by omega), oN_tn (by omega), h.2.2.1.2.2.2 _ (by omega), h.isWord (hlt _ (by omega)) rfl, bd_v]
      unfold fX12_readOrder_b27
      have e10 : 4 - (k + 1) + 1 = 4 - k := by omega
      have hin2 := hin (4 - (k + 1)) (by omega)
      by_cases hc : tK B L j = 300 + [4, 5, 7, 6].getD (4 - (k + 1)) 0
      · have ha := (actO_at (tK B L j) (4 - (k + 1)) (by omega) (by omega)).mp hc
        rw [if_pos hc]
        rw [if_neg (show ¬ ((1 : Int32) = 0) by decide), lt_v, oN_s, e10]
        rw [if_pos (show (304 ≤ tK B L j ∧ tK B L j ≤ 307) ∧ actO (tK B L j) < 4 - k by omega), ha]
      · rw [if_neg hc, if_pos rfl, lt_v, oN_s, e10]
        by_cases hd : (304 ≤ tK B L j ∧ tK B L j ≤ 307) ∧ actO (tK B L j) < 4 - (k + 1)
        · rw [if_pos hd, if_pos (show (304 ≤ tK B L j ∧ tK B L j ≤ 307) ∧ actO (tK B L j) < 4 - k by omega)]
        · have hne : ¬ ((304 ≤ tK B L j ∧ tK B L j ≤ 307) ∧ actO (tK B L j) < 4 - k) := by
            intro q
            have : ¬ actO (tK B L j) = 4 - (k + 1) := fun e => hc ((actO_at (tK B L j) (4 - (k + 1)) (by omega) q.1).mpr e)
            exact hd ⟨q.1, by omega⟩
          rw [if_neg hd, if_neg hne]
  have := hloop 4 5996 (Nat.le_refl _)
  rw [if_neg (show ¬ ((304 ≤ tK B L j ∧ tK B L j ≤ 307) ∧ actO (tK B L j) < 4 - 4) by omega)] at this
  refine this.trans ?_
  rw [show (5996 : Nat) = 5995 + 1 from rfl, lp_s]
  generalize lp (fun _ _ _ => none) fX12_readOrder_b4 5995 = kk
  unfold fX12_readOrder_b4
  rw [show (4 : Int32) = Int32.ofNat 4 from rfl, if_leT (Nat.le_refl _) (by omega)]
  by_cases hd : 304 ≤ tK B L j ∧ tK B L j ≤ 307
  · rw [if_pos (show (304 ≤ tK B L j ∧ tK B L j ≤ 307) ∧ actO (tK B L j) < 4 by omega), if_pos hd, if_neg (oN_ne1 (by omega))]
  · rw [if_neg (show ¬ ((304 ≤ tK B L j ∧ tK B L j ≤ 307) ∧ actO (tK B L j) < 4) from fun q => hd q.1), if_neg hd, if_pos rfl]
theorem m_clearO {v1 : Int32} {k : Nat} (hk : k < 12) : ∀ (f i m : Nat) (st : St), i + f = 8 → ∃ g, lp (fun _ _ _ _ => none) fX12_readOrder_b85 (m + f) v1 (Int32.ofNat (8 * k)) (Int32.ofNat i) st = lp (fun _ _ _ _ => none) fX12_readOrder_b85 m v1 (Int32.ofNat (8 * k)) (Int32.ofNat 8) (sA st 45 g) ∧ ∀ q, q < 8 * k → g q = st.2.2.1 45 q := by
  intro f
  induction f with
  | zero =>
    intro i m st hi
    refine ⟨st.2.2.1 45, ?_, fun _ _ => rfl⟩
    rw [sA_self, show i = 8 by omega]
    rfl
  | succ f ih =>
    intro i m st hi
    obtain ⟨g, g1, g2⟩ := ih (i + 1) m (sA st 45 (upd (st.2.2.1 45) (8 * k + i) 0)) (by omega)
    refine ⟨g, ?_, fun q hq => ?_⟩
    · rw [sA_sA] at g1
      rw [← g1, ← Nat.add_assoc, lp_s]
      generalize lp (fun _ _ _ _ => none) fX12_readOrder_b85 (m + f) = kk
      conv => lhs; unfold fX12_readOrder_b85
      rw [show (8 : Int32) = Int32.ofNat 8 from rfl, if_leF (by omega) (by omega), oN_add, gi_N (by omega) (by omega), oN_tn (by omega), lt_v, lt_v, oN_s]
    · rw [g2 q hq]
      show upd (st.2.2.1 45) (8 * k + i) 0 q = _
      rw [upd_v, if_neg (by omega)]
/-- a table's number is written: what the reading knows stays -/
theorem Mp.w45 (h : Mp lw B L j n P C o st) {f : Nat → Int32} : Mp lw B L j n P C o (sA st 45 f) ∧ fr [] [] [45] st (sA st 45 f) := by
  have hf : fr [] [] [45] st (sA st 45 f) := fr.sA (by decide)
  exact ⟨h.keep hf (by decide) (by decide), hf⟩
/-- after a fault the tables are still written, and nothing throws -/
theorem m_badO {k : Nat} (hk : k < 12) (h19 : st.1 19 = 1) : ∃ st', fX12_readOrder_b160 (Int32.ofNat (8 * k)) st = some ((), st') ∧ fr [] [] [45] st st' := by
  unfold fX12_readOrder_b160 fX12_readSum fX12_readSum_b22
  have q19 : ∀ f, (sA st 45 f).1 19 = 1 := fun _ => h19
  rw [show (3 : Int32) = Int32.ofNat 3 from rfl, oN_add, gi_N (by omega) (by omega), lt_v, q19, if_neg (by decide), oN_s, gi_N (by omega) (by omega), lt_v, bd_v, show (7 : Int32) = Int32.ofNat 7 from rfl, oN_add, gi_N (by omega) (by omega), lt_v]
  have q19b : ∀ f g h, (sA (sA (sA st 45 f) 45 g) 45 h).1 19 = 1 := fun _ _ _ => h19
  rw [q19b, if_neg (by decide)]
  unfold fX12_readOrder_b215
  rw [show (5 : Int32) = Int32.ofNat 5 from rfl, oN_add, gi_N (by omega) (by omega), lt_v]
  have q19c : ∀ f g h i, (sA (sA (sA (sA st 45 f) 45 g) 45 h) 45 i).1 19 = 1 := fun _ _ _ _ => h19
  rw [q19c, if_neg (by decide)]
  unfold fX12_readOrder_b253
  rw [show (6 : Int32) = Int32.ofNat 6 from rfl, oN_add, gi_N (by omega) (by omega), lt_v]
  exact ⟨_, rfl, ((((fr.sA (k := 45) (by decide)).tr (fr.sA (k := 45) (by decide))).tr (fr.sA (k := 45) (by decide))).tr (fr.sA (k := 45) (by decide))).tr (fr.sA (k := 45) (by decide))⟩
theorem m_badO2 {k : Nat} (hk : k < 12) (h19 : st.1 19 = 1) : ∃ st', fX12_readOrder_b215 (Int32.ofNat (8 * k)) st = some ((), st') ∧ fr [] [] [45] st st' := by
  unfold fX12_readOrder_b215
  rw [show (5 : Int32) = Int32.ofNat 5 from rfl, oN_add, gi_N (by omega) (by omega), lt_v]
  have q19c : ∀ f, (sA st 45 f).1 19 = 1 := fun _ => h19
  rw [q19c, if_neg (by decide)]
  unfold fX12_readOrder_b253
  rw [show (6 : Int32) = Int32.ofNat 6 from rfl, oN_add, gi_N (by omega) (by omega), lt_v]
  exact ⟨_, rfl, (fr.sA (k := 45) (by decide)).tr (fr.sA (k := 45) (by decide))⟩
end OrdM
/-- what a clause leaves in the reference's table: act, two sums, times, test -/
def ordT (bm k act a b tm c : Nat) (st : St) : Prop := st.2.2.1 45 (8 * k) = Int32.ofNat act ∧ st.2.2.1 45 (8 * k + 1) = Int32.ofNat bm ∧ st.2.2.1 45 (8 * k + 2) = Int32.ofNat (bm + a) ∧ st.2.2.1 45 (8 * k + 3) = Int32.ofNat (bm + a) ∧ st.2.2.1 45 (8 * k + 4) = Int32.ofNat (bm + a + b) ∧ st.2.2.1 45 (8 * k + 7) = Int32.ofNat tm ∧ st.2.2.1 45 (8 * k + 5) = Int32.ofNat (bm + a + b) ∧ st.2.2.1 45 (8 * k + 6) = Int32.ofNat (bm + a + b + c)
/-- the last piece: "if", and the end of the clause -/
theorem m_ordIf {B : Nat → Nat} {L n o k bm bc : Nat} {P C : Cd} {st : St} {r : Re} (h : Mp false B L r.1 r.2.1 P C o st) (hn : r.2.1 = n) (hr1 : 1 ≤ r.1) (hk : k < 12) (hbm : C.length = bm + r.2.2.1.length) :
    (∀ t, sIf false (tK B L) (tV B L) bm bc r = .ok t → ∃ st' P' o', fX12_readOrder_b215 (Int32.ofNat (8 * k)) st = some ((), st') ∧ Mp false B L t.2.1 t.2.2.1 P' (C ++ t.2.2.2.1) o' st' ∧ (∀ q, st'.2.2.1 45 q = if q = 8 * k + 6 then Int32.ofNat (C.length + t.2.2.2.1.length) else if q = 8 * k + 5 then Int32.ofNat C.length else st.2.2.1 45 q) ∧ st'.1 21 = st.1 21 ∧ OF st st') ∧
    (∀ e, sIf false (tK B L) (tV B L) bm bc r = .error e → ∃ st', fX12_readOrder_b215 (Int32.ofNat (8 * k)) st = some ((), st') ∧ st'.1 19 = 1 ∧ st'.1 18 = Int32.ofNat (tP B L e) ∧ OF st st') := by
  unfold fX12_readOrder_b215
  have h23 : st.1 23 = Int32.ofNat C.length := h.q.2.2.1
  rw [show (5 : Int32) = Int32.ofNat 5 from rfl, oN_add, gi_N (by omega) (by omega), oN_tn (by omega), lt_v, h23]
  obtain ⟨h1, hf1⟩ := h.w45 (f := upd (st.2.2.1 45) (8 * k + 5) (Int32.ofNat C.length))
  generalize hs1 : sA st 45 (upd (st.2.2.1 45) (8 * k + 5) (Int32.ofNat C.length)) = st1 at h1 hf1 ⊢
  have e45 : st1.2.2.1 45 = upd (st.2.2.1 45) (8 * k + 5) (Int32.ofNat C.length) := by rw [← hs1]; rfl
  clear hs1
  have fin : ∀ (st5 : St) (D : Cd) (P5 : Cd) (o5 j5 n5 : Nat), Mp false B L j5 n5 P5 (C ++ D) o5 st5 → st5.2.2.1 45 = st1.2.2.1 45 → st5.1 21 = st.1 21 → OF st st5 → ∃ st' P' o', fX12_readOrder_b253 (Int32.ofNat (8 * k)) st5 = some ((), st') ∧ Mp false B L j5 n5 P' (C ++ D) o' st' ∧ (∀ q, st'.2.2.1 45 q = if q = 8 * k + 6 then Int32.ofNat (C.length + D.length) else if q = 8 * k + 5 then Int32.ofNat C.length else st.2.2.1 45 q) ∧ st'.1 21 = st.1 21 ∧ OF st st' := by
    intro st5 D P5 o5 j5 n5 hM f3 f2 f4
    obtain ⟨h6, hf6⟩ := hM.w45 (f := upd (st5.2.2.1 45) (8 * k + 6) (Int32.ofNat (C.length + D.length)))
    refine ⟨_, P5, o5, ?_, h6, fun q => ?_, f2, f4.tr (hf6.up (by decide) (by decide) (by decide))⟩
    · unfold fX12_readOrder_b253
      have h235 : st5.1 23 = Int32.ofNat (C.length + D.length) := by rw [hM.q.2.2.1, List.length_append]
      rw [show (6 : Int32) = Int32.ofNat 6 from rfl, oN_add, gi_N (by omega) (by omega), oN_tn (by omega), lt_v, h235]
    · show upd (st5.2.2.1 45) (8 * k + 6) _ q = _
      rw [upd_v, f3, e45]
      by_cases e1 : q = 8 * k + 6
      · rw [if_pos e1, if_pos e1]
      · rw [if_neg e1, if_neg e1, upd_v]
  have hw := h1.isWord (i := 12) (a := 294) (by decide) (by decide +kernel)
  have hF1 : OF st st1 := hf1.up (by decide) (by decide) (by decide)
  rw [h1.2.2.2.2.1, if_pos rfl, hw, bd_v]
  unfold sIf
  by_cases hif : tK B L r.1 = 312
  · rw [if_pos hif, if_pos (show tK B L r.1 = 300 + 12 from hif), if_neg (show ¬ ((1 : Int32) = 0) by decide)]
    obtain ⟨st5, n1, n2, n3⟩ := h1.next (by omega)
    rw [n1, bd_v]
    have hN3 : OF st st5 := hF1.tr (n3.up (by decide) (by decide) (by decide))
    obtain ⟨p1, p2⟩ := m_readTest (bc := bc + r.2.2.2.1.length) n2 (by omega)
    rw [hbm] at p1 p2
    constructor
    · intro t ht
      obtain ⟨a, ha1, ha2⟩ := exb_ok ht
      have ha2 := Except.ok.inj ha2
      subst ha2
      obtain ⟨st6, q1, q2, q3⟩ := p1 a ha1
      rw [q1, bd_v]
      exact fin st6 a.2.2.1 _ _ _ _ q2 (by rw [q3.2.2.1 45 (by decide), n3.2.2.1 45 (by decide)]) (by rw [q3.1 21 (by decide), n3.1 21 (by decide), hf1.1 21 (by decide)]) (hN3.tr q3.of)
    · intro e he
      rcases exb_err he with he | ⟨a, ha1, ha2⟩
      · obtain ⟨st6, q1, q2, q3, q4⟩ := p2 e he
        rw [q1, bd_v]
        have hf6 : ∀ f, fr [] [] [45] st6 (sA st6 45 f) := fun f => fr.sA (by decide)
        refine ⟨_, ?_, ?_, ?_, (hN3.tr q4.of).tr ((hf6 (upd (st6.2.2.1 45) (8 * k + 6) (st6.1 23))).up (by decide) (by decide) (by decide))⟩
        · unfold fX12_readOrder_b253
          rw [show (6 : Int32) = Int32.ofNat 6 from rfl, oN_add, gi_N (by omega) (by omega), oN_tn (by omega), lt_v]
        · exact q2
        · exact q3
      · cases ha2
  · rw [if_neg hif, if_neg (show ¬ (tK B L r.1 = 300 + 12) from hif), if_pos rfl]
    refine ⟨fun t ht => ?_, fun e he => (by cases he)⟩
    have ht := Except.ok.inj ht
    subst ht
    exact fin st1 [] P o _ _ (by rw [List.append_nil]; exact h1) rfl (hf1.1 21 (by decide)) hF1
/-- "times", where it stands -/
theorem m_ordTimes {B : Nat → Nat} {L j n o k : Nat} {P C : Cd} {st : St} (h : Mp false B L j n P C o st) (hk : k < 12) :
    (∀ tm, sTimes (tK B L) (tV B L) j = .ok tm → ∃ st' , (if (st.1 19) = 0 then (bd (fX12_isWord (21279923 : Int64) st) (fun r12 st13 => if r12 = 0 then (fX12_readOrder_b215 (Int32.ofNat (8 * k)) st13) else (bd (fX12_nextToken st13) (fun r14 st15 => bd (fX12_number (1 : Int64) (20 : Int64) st15) (fun r16 st17 => gi (Int32.ofNat (8 * k) + (7 : Int32)) 96 (lt (sA st17 45 (upd (st17.2.2.1 45) (Int32.ofNat (8 * k) + (7 : Int32)).toNatClampNeg r16)) (fun st18 => fX12_readOrder_b215 (Int32.ofNat (8 * k)) st18))))))) else (fX12_readOrder_b215 (Int32.ofNat (8 * k)) st)) = fX12_readOrder_b215 (Int32.ofNat (8 * k)) st' ∧ Mp false B L tm.2 n P C o st' ∧ (∀ q, st'.2.2.1 45 q = if q = 8 * k + 7 ∧ tK B L j = 311 then Int32.ofNat tm.1 else st.2.2.1 45 q) ∧ st'.1 21 = st.1 21 ∧ OF st st' ∧ j ≤ tm.2 ∧ (tK B L j = 311 ∨ tm.1 = 1)) ∧
    (∀ e, sTimes (tK B L) (tV B L) j = .error e → ∃ st', (if (st.1 19) = 0 then (bd (fX12_isWord (21279923 : Int64) st) (fun r12 st13 => if r12 = 0 then (fX12_readOrder_b215 (Int32.ofNat (8 * k)) st13) else (bd (fX12_nextToken st13) (fun r14 st15 => bd (fX12_number (1 : Int64) (20 : Int64) st15) (fun r16 st17 => gi (Int32.ofNat (8 * k) + (7 : Int32)) 96 (lt (sA st17 45 (upd (st17.2.2.1 45) (Int32.ofNat (8 * k) + (7 : Int32)).toNatClampNeg r16)) (fun st18 => fX12_readOrder_b215 (Int32.ofNat (8 * k)) st18))))))) else (fX12_readOrder_b215 (Int32.ofNat (8 * k)) st)) = some ((), st') ∧ st'.1 19 = 1 ∧ st'.1 18 = Int32.ofNat (tP B L e) ∧ OF st st') := by
  have hw := h.isWord (i := 11) (a := 21279923) (by decide) (by decide +kernel)
  rw [h.2.2.2.2.1, if_pos rfl, hw, bd_v]
  unfold sTimes
  by_cases ht : tK B L j = 311
  · rw [if_pos ht, if_pos (show tK B L j = 300 + 11 from ht), if_neg (show ¬ ((1 : Int32) = 0) by decide)]
    obtain ⟨st1, n1, n2, n3⟩ := h.next (by omega)
    rw [n1, bd_v, show (7 : Int32) = Int32.ofNat 7 from rfl, oN_add]
    have hN : OF st st1 := n3.up (by decide) (by decide) (by decide)
    by_cases hv : tK B L (j + 1) = 256 ∧ 1 ≤ tV B L (j + 1) ∧ tV B L (j + 1) ≤ 20
    · rw [if_pos hv]
      refine ⟨fun tm htm => ?_, fun e he => (by cases he)⟩
      have htm := Except.ok.inj htm
      subst htm
      obtain ⟨st2, k1, k2, k3⟩ := n2.number (lo := 1) (hi := 20) (by decide) (by decide) hv.1 hv.2.1 hv.2.2
      replace k1 : fX12_number 1 20 st1 = _ := k1
      obtain ⟨h3, hf3⟩ := k2.w45 (f := upd (st2.2.2.1 45) (8 * k + 7) (Int32.ofNat (tV B L (j + 1))))
      refine ⟨_, ?_, h3, fun q => ?_, ?_, (hN.tr (k3.up (by decide) (by decide) (by decide))).tr (hf3.up (by decide) (by decide) (by decide)), by show j ≤ j + 2; omega, Or.inl ht⟩
      · rw [k1, bd_v, gi_N (by omega) (by omega), lt_v, oN_tn (by omega)]
      · show upd (st2.2.2.1 45) (8 * k + 7) _ q = _
        rw [upd_v, k3.2.2.1 45 (by decide), n3.2.2.1 45 (by decide)]
        by_cases e : q = 8 * k + 7
        · rw [if_pos e, if_pos ⟨e, ht⟩]
        · rw [if_neg e, if_neg (fun q => e q.1)]
      · rw [hf3.1 21 (by decide), k3.1 21 (by decide), n3.1 21 (by decide)]
    · rw [if_neg hv]
      refine ⟨fun tm htm => (by cases htm), fun e he => ?_⟩
      cases he
      obtain ⟨st2, k1, k2, k3, k4⟩ := n2.numberBad (lo := 1) (hi := 20) (by decide) (by decide) hv
      replace k1 : fX12_number 1 20 st1 = _ := k1
      rw [k1, bd_v, gi_N (by omega) (by omega), lt_v]
      have hf3 : ∀ f, fr [] [] [45] st2 (sA st2 45 f) := fun f => fr.sA (by decide)
      obtain ⟨st4, b1, b2⟩ := m_badO2 (st := sA st2 45 (upd (st2.2.2.1 45) (Int32.ofNat (8 * k + 7)).toNatClampNeg (tWorth B L (j + 1)).toInt32)) hk k2.1
      refine ⟨st4, b1, ?_, ?_, ((hN.tr (k3.up (by decide) (by decide) (by decide))).tr ((hf3 _).up (by decide) (by decide) (by decide))).tr (b2.up (by decide) (by decide) (by decide))⟩
      · rw [b2.1 19 (by decide)]; exact k2.1
      · rw [b2.1 18 (by decide)]; exact k2.2.1
  · rw [if_neg ht, if_neg (show ¬ (tK B L j = 300 + 11) from ht), if_pos rfl]
    refine ⟨fun tm htm => ?_, fun e he => (by cases he)⟩
    have htm := Except.ok.inj htm
    subst htm
    exact ⟨st, rfl, h, fun q => by rw [if_neg (fun q => ht q.2)], rfl, OF.rf, Nat.le_refl _, Or.inr rfl⟩
/-- a sum of an order, with its two marks -/
theorem m_sums {B : Nat → Nat} {L : Nat} (a : Nat) (j' n' : Nat) (C' P' : Cd) (o' : Nat) (bc' : Nat) (st3 : St) (ha : a + 1 ≤ 95) (hM : Mp false B L j' n' P' C' o' st3) :
      (∀ r, sS false (tK B L) (tV B L) 10 0 C'.length bc' j' n' = .ok r → ∃ st', fX12_readSum (Int32.ofNat a) st3 = some ((), st') ∧ Mp false B L r.1 r.2.1 [] (C' ++ r.2.2.1) 0 st' ∧ (∀ q, st'.2.2.1 45 q = if q = a + 1 then Int32.ofNat (C'.length + r.2.2.1.length) else if q = a then Int32.ofNat C'.length else st3.2.2.1 45 q) ∧ st'.1 21 = st3.1 21 ∧ OF st3 st') ∧
      (∀ e, sS false (tK B L) (tV B L) 10 0 C'.length bc' j' n' = .error e → ∃ st', fX12_readSum (Int32.ofNat a) st3 = some ((), st') ∧ st'.1 19 = 1 ∧ st'.1 18 = Int32.ofNat (tP B L e) ∧ OF st3 st') := by
  have h23 : st3.1 23 = Int32.ofNat C'.length := hM.q.2.2.1
  unfold fX12_readSum
  rw [gi_N (by omega) (by omega), lt_v, oN_tn (by omega), h23]
  obtain ⟨h4, hf4⟩ := hM.w45 (f := upd (st3.2.2.1 45) a (Int32.ofNat C'.length))
  generalize hs4 : sA st3 45 (upd (st3.2.2.1 45) a (Int32.ofNat C'.length)) = st4 at h4 hf4 ⊢
  have e45 : st4.2.2.1 45 = upd (st3.2.2.1 45) a (Int32.ofNat C'.length) := by rw [← hs4]; rfl
  clear hs4
  rw [h4.2.2.2.2.1, if_pos rfl]
  obtain ⟨p1, p2⟩ := m_readSum (bc := bc') h4
  unfold fX12_readSum_b22
  constructor
  · intro r hr
    obtain ⟨st5, q1, q2, q3⟩ := p1 r hr
    rw [q1, bd_v, oN_s, gi_N (by omega) (by omega), lt_v, oN_tn (by omega), q2.q.2.2.1]
    obtain ⟨h6, hf6⟩ := q2.w45 (f := upd (st5.2.2.1 45) (a + 1) (Int32.ofNat (C' ++ r.2.2.1).length))
    refine ⟨_, rfl, h6, fun q => ?_, ?_, ((hf4.up (by decide) (by decide) (by decide)).tr q3.of).tr (hf6.up (by decide) (by decide) (by decide))⟩
    · show upd (st5.2.2.1 45) (a + 1) _ q = _
      rw [upd_v, List.length_append, q3.2.2.1 45 (by decide), e45]
      by_cases e1 : q = a + 1
      · rw [if_pos e1, if_pos e1]
      · rw [if_neg e1, if_neg e1, upd_v]
    · rw [hf6.1 21 (by decide), q3.1 21 (by decide), hf4.1 21 (by decide)]
  · intro e he
    obtain ⟨st5, q1, q2, q3, q4⟩ := p2 e he
    rw [q1, bd_v, oN_s, gi_N (by omega) (by omega), lt_v]
    have hf6 : ∀ f, fr [] [] [45] st5 (sA st5 45 f) := fun f => fr.sA (by decide)
    exact ⟨_, rfl, q2, q3, ((hf4.up (by decide) (by decide) (by decide)).tr q4.of).tr ((hf6 _).up (by decide) (by decide) (by decide))⟩
/-- behind the joint -/
theorem m_ord160 {B : Nat → Nat} {L n o k bm bc : Nat} {P C : Cd} {st : St} {r1 : Re} (h : Mp false B L (r1.1 + 1) r1.2.1 P C o st) (hk : k < 12) (hC : C.length = bm + r1.2.2.1.length) :
    (∀ r2 tm t, sS false (tK B L) (tV B L) 10 0 (bm + r1.2.2.1.length) (bc + r1.2.2.2.1.length) (r1.1 + 1) r1.2.1 = .ok r2 → sTimes (tK B L) (tV B L) r2.1 = .ok tm → sIf false (tK B L) (tV B L) bm bc (both2 r1 r2 tm.2) = .ok t → ∃ st' P' o', fX12_readOrder_b160 (Int32.ofNat (8 * k)) st = some ((), st') ∧ Mp false B L t.2.1 t.2.2.1 P' (C ++ r2.2.2.1 ++ t.2.2.2.1) o' st' ∧ (∀ q, st'.2.2.1 45 q = if q = 8 * k + 6 then Int32.ofNat (C.length + r2.2.2.1.length + t.2.2.2.1.length) else if q = 8 * k + 5 then Int32.ofNat (C.length + r2.2.2.1.length) else if q = 8 * k + 7 then Int32.ofNat tm.1 else if q = 8 * k + 4 then Int32.ofNat (C.length + r2.2.2.1.length) else if q = 8 * k + 3 then Int32.ofNat C.length else st.2.2.1 45 q) ∧ st'.1 21 = st.1 21 ∧ OF st st') ∧
    (∀ e, (sS false (tK B L) (tV B L) 10 0 (bm + r1.2.2.1.length) (bc + r1.2.2.2.1.length) (r1.1 + 1) r1.2.1 = .error e ∨ (∃ r2, sS false (tK B L) (tV B L) 10 0 (bm + r1.2.2.1.length) (bc + r1.2.2.2.1.length) (r1.1 + 1) r1.2.1 = .ok r2 ∧ (sTimes (tK B L) (tV B L) r2.1 = .error e ∨ ∃ tm, sTimes (tK B L) (tV B L) r2.1 = .ok tm ∧ sIf false (tK B L) (tV B L) bm bc (both2 r1 r2 tm.2) = .error e))) → ∃ st', fX12_readOrder_b160 (Int32.ofNat (8 * k)) st = some ((), st') ∧ st'.1 19 = 1 ∧ st'.1 18 = Int32.ofNat (tP B L e) ∧ OF st st') := by
  obtain ⟨p1, p2⟩ := m_sums (8 * k + 3) (r1.1 + 1) r1.2.1 C P o (bc + r1.2.2.2.1.length) st (by omega) h
  rw [hC] at p1 p2
  unfold fX12_readOrder_b160
  rw [show (3 : Int32) = Int32.ofNat 3 from rfl, oN_add]
  -- behind the second sum, up to "times"
  have mid : ∀ r2, sS false (tK B L) (tV B L) 10 0 (bm + r1.2.2.1.length) (bc + r1.2.2.2.1.length) (r1.1 + 1) r1.2.1 = .ok r2 → ∃ st8, Mp false B L r2.1 r2.2.1 [] (C ++ r2.2.2.1) 0 st8 ∧ (∀ q, st8.2.2.1 45 q = if q = 8 * k + 7 then 1 else if q = 8 * k + 4 then Int32.ofNat (C.length + r2.2.2.1.length) else if q = 8 * k + 3 then Int32.ofNat C.length else st.2.2.1 45 q) ∧ st8.1 21 = st.1 21 ∧ OF st st8 ∧ 1 ≤ r2.1 ∧ (bd (fX12_readSum (Int32.ofNat (8 * k + 3)) st) fun r9 st10 => gi (Int32.ofNat (8 * k) + 7) 96 (lt (sA st10 45 (upd (st10.2.2.1 45) (Int32.ofNat (8 * k) + 7).toNatClampNeg 1)) fun st11 => if st11.1 19 = 0 then bd (fX12_isWord 21279923 st11) fun r12 st13 => if r12 = 0 then fX12_readOrder_b215 (Int32.ofNat (8 * k)) st13 else bd (fX12_nextToken st13) fun r14 st15 => bd (fX12_number 1 20 st15) fun r16 st17 => gi (Int32.ofNat (8 * k) + 7) 96 (lt (sA st17 45 (upd (st17.2.2.1 45) (Int32.ofNat (8 * k) + 7).toNatClampNeg r16)) fun st18 => fX12_readOrder_b215 (Int32.ofNat (8 * k)) st18) else fX12_readOrder_b215 (Int32.ofNat (8 * k)) st11)) = (if (st8.1 19) = 0 then (bd (fX12_isWord (21279923 : Int64) st8) (fun r12 st13 => if r12 = 0 then (fX12_readOrder_b215 (Int32.ofNat (8 * k)) st13) else (bd (fX12_nextToken st13) (fun r14 st15 => bd (fX12_number (1 : Int64) (20 : Int64) st15) (fun r16 st17 => gi (Int32.ofNat (8 * k) + (7 : Int32)) 96 (lt (sA st17 45 (upd (st17.2.2.1 45) (Int32.ofNat (8 * k) + (7 : Int32)).toNatClampNeg r16)) (fun st18 => fX12_readOrder_b215 (Int32.ofNat (8 * k)) st18))))))) else (fX12_readOrder_b215 (Int32.ofNat (8 * k)) st8)) := by
    intro r2 hr2
    obtain ⟨st7, q1, q2, q3, q4, q5⟩ := p1 r2 hr2
    obtain ⟨h8, hf8⟩ := q2.w45 (f := upd (st7.2.2.1 45) (8 * k + 7) 1)
    have hz := (sS_ok 10 _ _ _ _ _ _ hr2).1.2.2.1
    have e7 : Int32.ofNat (8 * k) + 7 = Int32.ofNat (8 * k + 7) := oN_add _ _
    refine ⟨sA st7 45 (upd (st7.2.2.1 45) (8 * k + 7) 1), h8, fun q => ?_, q4, q5.tr (hf8.up (by decide) (by decide) (by decide)), by omega, ?_⟩
    · show upd (st7.2.2.1 45) (8 * k + 7) 1 q = _
      rw [upd_v, q3 q, hC]
    · rw [q1, bd_v, e7, gi_N (by omega) (by omega), oN_tn (by omega), lt_v]
  constructor
  · intro r2 tm t hr2 htm ht
    obtain ⟨st8, a1, a2, a3, a4, a5, a6⟩ := mid r2 hr2
    rw [a6]
    obtain ⟨st9, b1, b2, b3, b4, b5, b6, b7⟩ := (m_ordTimes (k := k) a1 hk).1 tm htm
    rw [b1]
    obtain ⟨st10, P', o', c1, c2, c3, c4, c5⟩ := (m_ordIf (bm := bm) (bc := bc) (r := both2 r1 r2 tm.2) (n := r2.2.1) b2 rfl (by show 1 ≤ tm.2; omega) hk (by rw [List.length_append, hC]; show _ = bm + (r1.2.2.1 ++ r2.2.2.1).length; rw [List.length_append]; omega)).1 t ht
    refine ⟨st10, P', o', c1, c2, fun q => ?_, by rw [c4, b4, a3], (a4.tr b5).tr c5⟩
    rw [c3 q, List.length_append]
    by_cases e1 : q = 8 * k + 6
    · rw [if_pos e1, if_pos e1]
    rw [if_neg e1, if_neg e1]
    by_cases e2 : q = 8 * k + 5
    · rw [if_pos e2, if_pos e2]
    rw [if_neg e2, if_neg e2, b3 q]
    by_cases e3 : q = 8 * k + 7
    · rw [if_pos e3]
      by_cases e4 : tK B L r2.1 = 311
      · rw [if_pos ⟨e3, e4⟩]
      · rw [if_neg (fun q => e4 q.2), a2 q, if_pos e3]
        rcases b7 with b7 | b7
        · exact absurd b7 e4
        · rw [b7]; rfl
    · rw [if_neg (fun q => e3 q.1), if_neg e3, a2 q, if_neg e3]
  · intro e he
    rcases he with he | ⟨r2, hr2, he⟩
    · obtain ⟨st7, q1, q2, q3, q4⟩ := p2 e he
      rw [q1, bd_v, show (7 : Int32) = Int32.ofNat 7 from rfl, oN_add, gi_N (by omega) (by omega), lt_v]
      have q19 : ∀ f, (sA st7 45 f).1 19 = 1 := fun _ => q2
      rw [q19, if_neg (by decide)]
      have hf8 : ∀ f, fr [] [] [45] st7 (sA st7 45 f) := fun f => fr.sA (by decide)
      obtain ⟨st9, b1, b2⟩ := m_badO2 (st := sA st7 45 (upd (st7.2.2.1 45) (Int32.ofNat (8 * k + 7)).toNatClampNeg 1)) hk q2
      exact ⟨st9, b1, by rw [b2.1 19 (by decide)]; exact q2, by rw [b2.1 18 (by decide)]; exact q3, (q4.tr ((hf8 _).up (by decide) (by decide) (by decide))).tr (b2.up (by decide) (by decide) (by decide))⟩
    · obtain ⟨st8, a1, a2, a3, a4, a5, a6⟩ := mid r2 hr2
      rw [a6]
      rcases he with he | ⟨tm, htm, he⟩
      · obtain ⟨st9, b1, b2, b3, b4⟩ := (m_ordTimes (k := k) a1 hk).2 e he
        exact ⟨st9, b1, b2, b3, a4.tr b4⟩
      · obtain ⟨st9, b1, b2, b3, b4, b5, b6, b7⟩ := (m_ordTimes (k := k) a1 hk).1 tm htm
        rw [b1]
        obtain ⟨st10, c1, c2, c3, c4⟩ := (m_ordIf (bm := bm) (bc := bc) (r := both2 r1 r2 tm.2) (n := r2.2.1) b2 rfl (by show 1 ≤ tm.2; omega) hk (by rw [List.length_append, hC]; show _ = bm + (r1.2.2.1 ++ r2.2.2.1).length; rw [List.length_append]; omega)).2 e he
        exact ⟨st10, c1, c2, c3, (a4.tr b5).tr c4⟩
theorem m_readOrder {B : Nat → Nat} {L j n o k bc : Nat} {P C : Cd} {st : St} (h : Mp false B L j n P C o st) (h21 : st.1 21 = Int32.ofNat k) (hk : k ≤ 12) :
    (∀ x, sOrdC (tK B L) (tV B L) k C.length bc j n = .ok x → ∃ st' P' o', fX12_readOrder st = some ((), st') ∧ Mp false B L x.2.2.2.2.2.1 x.2.2.2.2.2.2.1 P' (C ++ x.2.1.2.2.1 ++ x.2.2.1.2.2.1 ++ x.2.2.2.2.2.2.2.1) o' st' ∧ st'.1 21 = Int32.ofNat (k + 1) ∧ ordT C.length k (actO x.1) x.2.1.2.2.1.length x.2.2.1.2.2.1.length x.2.2.2.1 x.2.2.2.2.2.2.2.1.length st' ∧ (∀ q, q < 8 * k → st'.2.2.1 45 q = st.2.2.1 45 q) ∧ OF st st') ∧
    (∀ e, sOrdC (tK B L) (tV B L) k C.length bc j n = .error e → ∃ st', fX12_readOrder st = some ((), st') ∧ st'.1 19 = 1 ∧ st'.1 18 = Int32.ofNat (tP B L e) ∧ OF st st') := by
  have hu : fX12_readOrder st = lp (fun _ _ _ => none) fX12_readOrder_b4 6000 (-1 : Int32) (0 : Int32) st := rfl
  rw [hu, m_actAt h]
  unfold sOrdC
  have ha3 := actO_le (tK B L j)
  have hbad : ∀ v, ∃ st', fX12_readOrder_b53 v st = some ((), st') ∧ st'.1 19 = 1 ∧ st'.1 18 = Int32.ofNat (tP B L j) ∧ OF st st' := by
    intro v
    obtain ⟨st1, g1, g2, g3, g4⟩ := h.must0
    refine ⟨st1, ?_, g2.1, g2.2.1, g3.up (by decide) (by decide) (by decide)⟩
    unfold fX12_readOrder_b53 fX12_readOrder_b54
    rw [g1, bd_v, g2.1, if_neg (by decide)]
  by_cases hh : ¬ (304 ≤ tK B L j ∧ tK B L j ≤ 307)
  · rw [if_neg hh, if_pos (Or.inl hh)]
    refine ⟨fun x hx => (by cases hx), fun e he => ?_⟩
    cases he
    exact hbad _
  replace hh := Decidable.not_not.mp hh
  rw [if_pos hh, h21, show (12 : Int32) = Int32.ofNat 12 from rfl]
  by_cases hk12 : 12 ≤ k
  · rw [if_leT hk12 (by omega), if_pos (Or.inr hk12)]
    refine ⟨fun x hx => (by cases hx), fun e he => ?_⟩
    cases he
    exact hbad _
  rw [if_leF (by omega) (by omega), if_neg (by omega)]
  obtain ⟨st1, g1, g2, g3⟩ := h.must1 (by omega)
  have e21 : st1.1 21 = Int32.ofNat k := by rw [g3.1 21 (by decide)]; exact h21
  obtain ⟨g, c1, c2⟩ := m_clearO (v1 := Int32.ofNat (actO (tK B L j))) (k := k) (by omega) 8 0 5992 (sI st1 21 (Int32.ofNat (k + 1))) (by omega)
  have hst : fX12_readOrder_b54 (Int32.ofNat (actO (tK B L j))) 1 st = lp (fun _ _ _ _ => none) fX12_readOrder_b85 5992 (Int32.ofNat (actO (tK B L j))) (Int32.ofNat (8 * k)) (Int32.ofNat 8) (sA (sI st1 21 (Int32.ofNat (k + 1))) 45 g) := by
    unfold fX12_readOrder_b54
    rw [g1, bd_v, g2.2.2.2.2.1, if_pos rfl, lt_v, e21, show (8 : Int32) = Int32.ofNat 8 from rfl, oN_mul, lt_v, oN_s]
    exact c1
  rw [hst, show (5992 : Nat) = 5991 + 1 from rfl, lp_s]
  generalize lp (fun _ _ _ _ => none) fX12_readOrder_b85 5991 = kk
  unfold fX12_readOrder_b85
  rw [show (8 : Int32) = Int32.ofNat 8 from rfl, if_leT (Nat.le_refl _) (by omega), gi_N (by omega) (by omega), oN_tn (by omega), lt_v, oN_s]
  -- the state ahead of the first sum
  generalize hs2 : sA (sA (sI st1 21 (Int32.ofNat (k + 1))) 45 g) 45 (upd ((sA (sI st1 21 (Int32.ofNat (k + 1))) 45 g).2.2.1 45) (8 * k) (Int32.ofNat (actO (tK B L j)))) = st2
  have hf2 : fr [21] [] [45] st1 st2 := by
    rw [← hs2]
    exact ((fr.sI (k := 21) (by decide)).tr (fr.sA (k := 45) (by decide))).tr (fr.sA (k := 45) (by decide))
  have hM2 : Mp false B L (j + 1) n P C o st2 := g2.keep hf2 (by decide) (by decide)
  have t21 : st2.1 21 = Int32.ofNat (k + 1) := by rw [← hs2]; rfl
  have t0 : st2.2.2.1 45 (8 * k) = Int32.ofNat (actO (tK B L j)) := by
    rw [← hs2]
    show upd g (8 * k) _ (8 * k) = _
    rw [upd_v, if_pos rfl]
  have told : ∀ q, q < 8 * k → st2.2.2.1 45 q = st.2.2.1 45 q := by
    intro q hq
    rw [← hs2]
    show upd g (8 * k) _ q = _
    rw [upd_v, if_neg (by omega), c2 q hq]
    show st1.2.2.1 45 q = _
    rw [g3.2.2.1 45 (by decide)]
  have hF2 : OF st st2 := (g3.up (by decide) (by decide) (by decide)).tr (hf2.up (by decide) (by decide) (by decide))
  clear hs2 hst c1 c2
  obtain ⟨p1, p2⟩ := m_sums (8 * k + 1) (j + 1) n C P o bc st2 (by omega) hM2
  -- the joint, and what follows
  have ejoint : ∀ (st5 : St), (if (2 : Int32) ≤ Int32.ofNat (actO (tK B L j)) then (if Int32.ofNat (actO (tK B L j)) = (2 : Int32) then (fX12_readOrder_b154 (Int32.ofNat (8 * k)) (655 : Int64) st5) else (fX12_readOrder_b154 (Int32.ofNat (8 * k)) (89 : Int64) st5)) else (fX12_readOrder_b154 (Int32.ofNat (8 * k)) (52 : Int64) st5)) = fX12_readOrder_b154 (Int32.ofNat (8 * k)) (Int64.ofNat (wcd (jointO (tK B L j) - 300))) st5 := by
    intro st5
    have h1 : tK B L j = 304 ∨ tK B L j = 305 ∨ tK B L j = 306 ∨ tK B L j = 307 := by omega
    have w8 : (52 : Int64) = Int64.ofNat (wcd 8) := by decide +kernel
    have w9 : (655 : Int64) = Int64.ofNat (wcd 9) := by decide +kernel
    have w10 : (89 : Int64) = Int64.ofNat (wcd 10) := by decide +kernel
    rcases h1 with e | e | e | e
    · rw [e, w8]; rfl
    · rw [e, w8]; rfl
    · rw [e, w10]; rfl
    · rw [e, w9]; rfl
  have hj3 : 308 ≤ jointO (tK B L j) ∧ jointO (tK B L j) ≤ 310 := by unfold jointO; split <;> (try split) <;> omega
  have hjn : ∀ (r1 : Re) (st5 : St), Mp false B L r1.1 r1.2.1 [] (C ++ r1.2.2.1) 0 st5 → (tK B L r1.1 = jointO (tK B L j) → ∃ st6, fX12_readOrder_b154 (Int32.ofNat (8 * k)) (Int64.ofNat (wcd (jointO (tK B L j) - 300))) st5 = fX12_readOrder_b160 (Int32.ofNat (8 * k)) st6 ∧ Mp false B L (r1.1 + 1) r1.2.1 [] (C ++ r1.2.2.1) 0 st6 ∧ fr [14, 15, 16] [17] [] st5 st6) ∧ (tK B L r1.1 ≠ jointO (tK B L j) → ∃ st6, fX12_readOrder_b154 (Int32.ofNat (8 * k)) (Int64.ofNat (wcd (jointO (tK B L j) - 300))) st5 = some ((), st6) ∧ st6.1 19 = 1 ∧ st6.1 18 = Int32.ofNat (tP B L r1.1) ∧ OF st5 st6) := by
    intro r1 st5 hM
    have hw := hM.isWord (i := jointO (tK B L j) - 300) (by omega) rfl
    rw [show 300 + (jointO (tK B L j) - 300) = jointO (tK B L j) by omega] at hw
    unfold fX12_readOrder_b154
    rw [hw, bd_v]
    constructor
    · intro e
      rw [if_pos e]
      obtain ⟨st6, m1, m2, m3⟩ := hM.must1 (by omega)
      exact ⟨st6, by rw [m1, bd_v], m2, m3⟩
    · intro e
      rw [if_neg e]
      obtain ⟨st6, m1, m2, m3, m4⟩ := hM.must0
      obtain ⟨st7, b1, b2⟩ := m_badO (st := st6) (k := k) (by omega) m2.1
      exact ⟨st7, by rw [m1, bd_v]; exact b1, by rw [b2.1 19 (by decide)]; exact m2.1, by rw [b2.1 18 (by decide)]; exact m2.2.1, (m3.up (by decide) (by decide) (by decide)).tr (b2.up (by decide) (by decide) (by decide))⟩
  constructor
  · intro x hx
    obtain ⟨r1, hr1, hx⟩ := exb_ok hx
    by_cases hjo : tK B L r1.1 = jointO (tK B L j)
    · rw [if_pos hjo] at hx
      obtain ⟨r2, hr2, hx⟩ := exb_ok hx
      obtain ⟨tm, htm, hx⟩ := exb_ok hx
      obtain ⟨t, ht, hx⟩ := exb_ok hx
      have hx := Except.ok.inj hx
      subst hx
      obtain ⟨st5, q1, q2, q3, q4, q5⟩ := p1 r1 hr1
      obtain ⟨st6, s1, s2, s3⟩ := (hjn r1 st5 q2).1 hjo
      rw [q1, bd_v, q2.2.2.2.2.1, if_pos rfl, ejoint, s1]
      obtain ⟨st7, P', o', c1, c2, c3, c4, c5⟩ := (m_ord160 (n := n) (bc := bc) (bm := C.length) (k := k) s2 (by omega) (by rw [List.length_append])).1 r2 tm t hr2 htm ht
      have e45 : ∀ q, st6.2.2.1 45 q = if q = 8 * k + 1 + 1 then Int32.ofNat (C.length + r1.2.2.1.length) else if q = 8 * k + 1 then Int32.ofNat C.length else st2.2.2.1 45 q := fun q => by rw [s3.2.2.1 45 (by decide)]; exact q3 q
      rw [List.length_append] at c3
      refine ⟨st7, P', o', c1, c2, by rw [c4, s3.1 21 (by decide), q4, t21], ⟨?_, ?_, ?_, ?_, ?_, ?_, ?_, ?_⟩, fun q hq => ?_, ((hF2.tr q5).tr (s3.up (by decide) (by decide) (by decide))).tr c5⟩
      · rw [c3, if_neg (by omega), if_neg (by omega), if_neg (by omega), if_neg (by omega), if_neg (by omega), e45, if_neg (by omega), if_neg (by omega)]; exact t0
      · rw [c3, if_neg (by omega), if_neg (by omega), if_neg (by omega), if_neg (by omega), if_neg (by omega), e45, if_neg (by omega), if_pos rfl]
      · rw [c3, if_neg (by omega), if_neg (by omega), if_neg (by omega), if_neg (by omega), if_neg (by omega), e45, if_pos rfl]
      · rw [c3, if_neg (by omega), if_neg (by omega), if_neg (by omega), if_neg (by omega), if_pos rfl]
      · rw [c3, if_neg (by omega), if_neg (by omega), if_neg (by omega), if_pos rfl]
      · rw [c3, if_neg (by omega), if_neg (by omega), if_pos rfl]
      · rw [c3, if_neg (by omega), if_pos rfl]
      · rw [c3, if_pos rfl]
      · rw [c3, if_neg (by omega), if_neg (by omega), if_neg (by omega), if_neg (by omega), if_neg (by omega), e45, if_neg (by omega), if_neg (by omega), told q hq]
    · rw [if_neg hjo] at hx; cases hx
  · intro e he
    rcases exb_err he with he | ⟨r1, hr1, he⟩
    · obtain ⟨st5, q1, q2, q3, q4⟩ := p2 e he
      rw [q1, bd_v, q2, if_neg (by decide)]
      obtain ⟨st7, b1, b2⟩ := m_badO (st := st5) (k := k) (by omega) q2
      exact ⟨st7, b1, by rw [b2.1 19 (by decide)]; exact q2, by rw [b2.1 18 (by decide)]; exact q3, (hF2.tr q4).tr (b2.up (by decide) (by decide) (by decide))⟩
    · obtain ⟨st5, q1, q2, q3, q4, q5⟩ := p1 r1 hr1
      rw [q1, bd_v, q2.2.2.2.2.1, if_pos rfl, ejoint]
      by_cases hjo : tK B L r1.1 = jointO (tK B L j)
      · rw [if_pos hjo] at he
        obtain ⟨st6, s1, s2, s3⟩ := (hjn r1 st5 q2).1 hjo
        rw [s1]
        have hchain : sS false (tK B L) (tV B L) 10 0 (C.length + r1.2.2.1.length) (bc + r1.2.2.2.1.length) (r1.1 + 1) r1.2.1 = .error e ∨ (∃ r2, sS false (tK B L) (tV B L) 10 0 (C.length + r1.2.2.1.length) (bc + r1.2.2.2.1.length) (r1.1 + 1) r1.2.1 = .ok r2 ∧ (sTimes (tK B L) (tV B L) r2.1 = .error e ∨ ∃ tm, sTimes (tK B L) (tV B L) r2.1 = .ok tm ∧ sIf false (tK B L) (tV B L) C.length bc (both2 r1 r2 tm.2) = .error e)) := by
          rcases exb_err he with he | ⟨r2, hr2, he⟩
          · exact Or.inl he
          · rcases exb_err he with he | ⟨tm, htm, he⟩
            · exact Or.inr ⟨r2, hr2, Or.inl he⟩
            · rcases exb_err he with he | ⟨t, ht, he⟩
              · exact Or.inr ⟨r2, hr2, Or.inr ⟨tm, htm, he⟩⟩
              · cases he
        obtain ⟨st7, c1, c2, c3, c4⟩ := (m_ord160 (n := n) (bc := bc) (bm := C.length) (k := k) s2 (by omega) (by rw [List.length_append])).2 e hchain
        exact ⟨st7, c1, c2, c3, ((hF2.tr q5).tr (s3.up (by decide) (by decide) (by decide))).tr c4⟩
      · rw [if_neg hjo] at he
        have he := Except.error.inj he
        subst he
        obtain ⟨st6, s1, s2, s3, s4⟩ := (hjn r1 st5 q2).2 hjo
        exact ⟨st6, s1, s2, s3, (hF2.tr q5).tr s4⟩
