def fX6_leads_b36 (fz : List FP) (w0 : Int32) (st : St) : Option (Int32 × St) := gb w0 (some (w0, st))
def fX6_leads_b35 (fz : List FP) (st : St) : Option (Int32 × St) := fX6_leads_b36 fz (0 : Int32) st
def fX6_leads_b31 (fz : List FP) (st : St) : Option (Int32 × St) := fX6_leads_b36 fz (1 : Int32) st
def fX6_leads (a0 : Int32) (a1 : Int32) (a2 : Int32) (fz : List FP) (st : St) : Option (Int32 × St) := gi ((a0 * (6 : Int32)) + a1) 36 (if (st.2.2.1 105 ((a0 * (6 : Int32)) + a1).toNatClampNeg) ≤ 0 then (fX6_leads_b35 fz st) else (if a1 = a2 then (fX6_leads_b31 fz st) else (gi a1 6 (if (st.2.2.1 202 a1.toNatClampNeg) = 0 then (fX6_leads_b31 fz st) else (fX6_leads_b35 fz st)))))
set_option maxHeartbeats 4000000 in
set_option maxRecDepth 100000 in
theorem tX6_leads (l : Launch) (D : va_G) (cy : Nat → ClassId) (ad : Nat → Nat) (fz : List FP) (hJ : (cads ad fz).Nodup) (sz : Nat) (a0 : Int32) (a1 : Int32) (a2 : Int32) (st : St) (rr : Int32) (st' : St) (hf : fX6_leads a0 a1 a2 fz st = some (rr, st')) : Met l yX6_leads (Cond.code yX6_leads cX6_leads 4 (some .boolean) :: TT) (rmD 0) (cPc D cy ad fz [.ref (ad 199), .int a0, .int a1, .int a2] st sz) (cQi D cy ad fz rr st' sz) 0 0 (cA ad fz sz) := by
  refine c_meti (by decide) hJ (Nat.le_of_ble_eq_true rfl) (fun p e s m args below meth c ls E hx hb hr hlocks hown hT hD hN hl hP hS => ?_)
  replace hl : lv_has ls 4 [(0, .ref (ad 199)), (1, .int a0), (2, .int a1), (3, .int a2)] := hl
  unfold fX6_leads at hf
  have B36 : ∀ (w0 : Int32) (st : St) (H : Heap) (locs : List Loc) (ls : Array Slot), fX6_leads_b36 fz w0 st = some (rr, st') → lv_has ls 4 [] → va_P D classes (cx cy ad fz st) H → va_S (cA ad fz s.heap.size) s.heap H locs → cGi l 0 D cy ad fz rr st' p e s m args below meth c H locs (F0 m 36 ls [.int w0]) := by
    intro w0 st H locs ls hf hl hP hS
    unfold fX6_leads_b36 at hf
    obtain ⟨hn, hf⟩ := gb_some hf
    exact c_zret hx hb hr hlocks hn hf hP hS dX6_leads_36
  have B35 : ∀ (st : St) (H : Heap) (locs : List Loc) (ls : Array Slot), fX6_leads_b35 fz st = some (rr, st') → lv_has ls 4 [] → va_P D classes (cx cy ad fz st) H → va_S (cA ad fz s.heap.size) s.heap H locs → cGi l 0 D cy ad fz rr st' p e s m args below meth c H locs (F0 m 35 ls []) := by
    intro st H locs ls hf hl hP hS
    unfold fX6_leads_b35 at hf
    refine lv_iconst (v := 0) hx hb dX6_leads_35 (by decide) ?_
    exact B36 (0 : Int32) st _ _ ls hf hl hP hS
  have B31 : ∀ (st : St) (H : Heap) (locs : List Loc) (ls : Array Slot), fX6_leads_b31 fz st = some (rr, st') → lv_has ls 4 [] → va_P D classes (cx cy ad fz st) H → va_S (cA ad fz s.heap.size) s.heap H locs → cGi l 0 D cy ad fz rr st' p e s m args below meth c H locs (F0 m 31 ls []) := by
    intro st H locs ls hf hl hP hS
    unfold fX6_leads_b31 at hf
    refine lv_iconst (v := 1) hx hb dX6_leads_31 (by decide) ?_
    refine lv_goto (tgt := 36) hx hb dX6_leads_32 (by decide) ?_
    exact B36 (1 : Int32) st _ _ ls hf hl hP hS
  refine lv_aload_n hx hb dX6_leads_0 rfl (lv_at hl 0 rfl) ?_
  refine cg_6_39_1 E hP dX6_leads_1 ?_
  refine lv_iload_n hx hb dX6_leads_4 rfl (lv_at hl 1 rfl) ?_
  refine lv_bipush (v := 6) hx hb dX6_leads_5 (by decide) ?_
  refine lv_imul hx hb dX6_leads_7 ?_
  refine lv_iload_n hx hb dX6_leads_8 rfl (lv_at hl 2 rfl) ?_
  refine lv_iadd hx hb dX6_leads_9 ?_
  obtain ⟨hi, hf⟩ := gi_some hf
  refine cl_105 E hP hi dX6_leads_10 ?_
  refine lv_if_le (tgt := 35) hx hb dX6_leads_11 (by decide) (fun hc => ?_) (fun hc => ?_)
  · replace hf := it_pos hc hf
    exact B35 st _ _ ls hf (lv_sub hl [] rfl) hP hS
  · replace hf := it_neg hc hf
    refine lv_iload_n hx hb dX6_leads_14 rfl (lv_at hl 2 rfl) ?_
    refine lv_iload_n hx hb dX6_leads_15 rfl (lv_at hl 3 rfl) ?_
    refine lv_icmp_eq (tgt := 31) hx hb dX6_leads_16 (by decide) (fun hc => ?_) (fun hc => ?_)
    · replace hf := it_pos hc hf
      exact B31 st _ _ ls hf (lv_sub hl [] rfl) hP hS
    · replace hf := it_neg hc hf
      refine lv_aload_n hx hb dX6_leads_19 rfl (lv_at hl 0 rfl) ?_
      refine cg_6_12_1 E hP dX6_leads_20 ?_
      refine cg_6_105_2 E hP dX6_leads_23 ?_
      refine lv_iload_n hx hb dX6_leads_26 rfl (lv_at hl 2 rfl) ?_
      obtain ⟨hi, hf⟩ := gi_some hf
      refine cl_202 E hP hi dX6_leads_27 ?_
      refine lv_if_ne (tgt := 35) hx hb dX6_leads_28 (by decide) (fun hc => ?_) (fun hc => ?_)
      · replace hf := it_neg hc hf
        exact B35 st _ _ ls hf (lv_sub hl [] rfl) hP hS
      · replace hf := it_pos hc hf
        exact B31 st _ _ ls hf (lv_sub hl [] rfl) hP hS
def fX6_shortestFrom_b51 (fz : List FP) (k6 : Int32 → Int32 → Int32 → Int32 → St → Option (Int32 × St)) (v1 : Int32) (v2 : Int32) (v3 : Int32) (v4 : Int32) (st : St) : Option (Int32 × St) := lt (v4 + (1 : Int32)) (fun x1 => k6 v1 v2 v3 x1 st)
def fX6_shortestFrom_b6 (fz : List FP) (k6 : Int32 → Int32 → Int32 → Int32 → St → Option (Int32 × St)) (v1 : Int32) (v2 : Int32) (v3 : Int32) (v4 : Int32) (st : St) : Option (Int32 × St) := if (st.1 108) ≤ v4 then (some (v3, st)) else (bd (fX6_leads v1 v4 v2 fz st) (fun r2 st3 => if r2 = 0 then (fX6_shortestFrom_b51 fz k6 v1 v2 v3 v4 st3) else (gi ((v1 * (6 : Int32)) + v4) 36 (gi v4 6 (lt (if ((st3.2.2.1 105 ((v1 * (6 : Int32)) + v4).toNatClampNeg) + (st3.2.2.1 106 v4.toNatClampNeg)) < v3 then ((st3.2.2.1 105 ((v1 * (6 : Int32)) + v4).toNatClampNeg) + (st3.2.2.1 106 v4.toNatClampNeg)) else v3) (fun x4 => fX6_shortestFrom_b51 fz k6 v1 v2 x4 v4 st3))))))
def fX6_shortestFrom (a0 : Int32) (a1 : Int32) (fz : List FP) (st : St) : Option (Int32 × St) := lp (fun _ _ _ _ _ => none) (fX6_shortestFrom_b6 fz) 6000 a0 a1 (1000000 : Int32) (0 : Int32) st
set_option maxHeartbeats 4000000 in
set_option maxRecDepth 100000 in
theorem tX6_shortestFrom (l : Launch) (D : va_G) (cy : Nat → ClassId) (ad : Nat → Nat) (fz : List FP) (hJ : (cads ad fz).Nodup) (sz : Nat) (a0 : Int32) (a1 : Int32) (st : St) (rr : Int32) (st' : St) (hf : fX6_shortestFrom a0 a1 fz st = some (rr, st')) : Met l yX6_shortestFrom (Cond.code yX6_shortestFrom cX6_shortestFrom 5 (some .int) :: TT) (rmD 1) (cPc D cy ad fz [.ref (ad 199), .int a0, .int a1] st sz) (cQi D cy ad fz rr st' sz) 0 0 (cA ad fz sz) := by
  refine c_meti (by decide) hJ (Nat.le_of_ble_eq_true rfl) (fun p e s m args below meth c ls E hx hb hr hlocks hown hT hD hN hl hP hS => ?_)
  replace hl : lv_has ls 5 [(0, .ref (ad 199)), (1, .int a0), (2, .int a1)] := hl
  unfold fX6_shortestFrom at hf
  have L6 : ∀ (n : Nat) (v1 : Int32) (v2 : Int32) (v3 : Int32) (v4 : Int32) (st : St) (H : Heap) (locs : List Loc) (ls : Array Slot), lp (fun _ _ _ _ _ => none) (fX6_shortestFrom_b6 fz) n v1 v2 v3 v4 st = some (rr, st') → lv_has ls 5 [(0, .ref (ad 199)), (1, .int v1), (2, .int v2), (3, .int v3), (4, .int v4)] → va_P D classes (cx cy ad fz st) H → va_S (cA ad fz s.heap.size) s.heap H locs → cGi l 1 D cy ad fz rr st' p e s m args below meth c H locs (F0 m 6 ls []) := by
    intro n
    induction n with
    | zero => intro v1 v2 v3 v4 st H locs ls hf; exact absurd hf (fun h => by cases h)
    | succ n K6 =>
      intro v1 v2 v3 v4 st H locs ls hf hl hP hS
      replace hf : fX6_shortestFrom_b6 fz (lp (fun _ _ _ _ _ => none) (fX6_shortestFrom_b6 fz) n) v1 v2 v3 v4 st = some (rr, st') := hf
      generalize lp (fun _ _ _ _ _ => none) (fX6_shortestFrom_b6 fz) n = k6 at hf K6
      have B51 : ∀ (v1 : Int32) (v2 : Int32) (v3 : Int32) (v4 : Int32) (st : St) (H : Heap) (locs : List Loc) (ls : Array Slot), fX6_shortestFrom_b51 fz k6 v1 v2 v3 v4 st = some (rr, st') → lv_has ls 5 [(0, .ref (ad 199)), (1, .int v1), (2, .int v2), (3, .int v3), (4, .int v4)] → va_P D classes (cx cy ad fz st) H → va_S (cA ad fz s.heap.size) s.heap H locs → cGi l 1 D cy ad fz rr st' p e s m args below meth c H locs (F0 m 51 ls []) := by
        intro v1 v2 v3 v4 st H locs ls hf hl hP hS
        unfold fX6_shortestFrom_b51 at hf
        obtain ⟨x1, ex⟩ : ∃ y : Int32, y = v4 + (1 : Int32) := ⟨_, rfl⟩
        replace hf := lt_at ex hf
        refine lv_iinc (v := x1) (lv' := [(4, .int x1), (0, .ref (ad 199)), (1, .int v1), (2, .int v2), (3, .int v3)]) hx hb dX6_shortestFrom_51 hl (k := 4) rfl (by rw [ex]; rfl) (by decide) rfl (fun ls hl => ?_)
        clear ex
        refine lv_goto (tgt := 6) hx hb dX6_shortestFrom_54 (by decide) ?_
        exact K6 v1 v2 v3 x1 st _ _ ls hf (lv_sub hl [1, 2, 3, 4, 0] rfl) hP hS
      unfold fX6_shortestFrom_b6 at hf
      refine lv_iload hx hb dX6_shortestFrom_6 (lv_at hl 4 rfl) ?_
      refine lv_aload_n hx hb dX6_shortestFrom_8 rfl (lv_at hl 0 rfl) ?_
      refine cg_6_86_1 E hP dX6_shortestFrom_9 ?_
      refine lv_icmp_ge (tgt := 57) hx hb dX6_shortestFrom_12 (by decide) (fun hc => ?_) (fun hc => ?_)
      · replace hf := it_pos hc hf
        refine lv_iload_n hx hb dX6_shortestFrom_57 rfl (lv_at hl 3 rfl) ?_
        exact c_iret hx hb hr hlocks hf hP hS dX6_shortestFrom_58
      · replace hf := it_neg hc hf
        refine lv_aload_n hx hb dX6_shortestFrom_15 rfl (lv_at hl 0 rfl) ?_
        refine lv_iload_n hx hb dX6_shortestFrom_16 rfl (lv_at hl 1 rfl) ?_
        refine lv_iload hx hb dX6_shortestFrom_17 (lv_at hl 4 rfl) ?_
        refine lv_iload_n hx hb dX6_shortestFrom_19 rfl (lv_at hl 2 rfl) ?_
        obtain ⟨r2, st3, hc, hf⟩ := bd_some hf
        refine c_calli (n := 3) (rest := []) E hN hP hS (fun sz => tX6_leads l D cy ad fz hJ sz v1 v4 v2 st r2 st3 hc) (va_recv E.2 hP (ci := 6) (q0 := 3) rfl rfl) (gV k_939 k_941 ks_29 k_2 k_942) qX6_leads ⟨Nat.le_of_ble_eq_true rfl, Nat.le_of_ble_eq_true rfl⟩ ⟨Nat.le_refl _, Nat.le_refl _⟩ rfl hl.1 rfl (Nat.le_of_ble_eq_true rfl) dX6_shortestFrom_20 (fun H locs hP hS => ?_)
        refine lv_if_eq (tgt := 51) hx hb dX6_shortestFrom_23 (by decide) (fun hc => ?_) (fun hc => ?_)
        · replace hf := it_pos hc hf
          exact B51 v1 v2 v3 v4 st3 _ _ ls hf hl hP hS
        · replace hf := it_neg hc hf
          refine lv_iload_n hx hb dX6_shortestFrom_26 rfl (lv_at hl 3 rfl) ?_
          refine lv_aload_n hx hb dX6_shortestFrom_27 rfl (lv_at hl 0 rfl) ?_
          refine cg_6_39_1 E hP dX6_shortestFrom_28 ?_
          refine lv_iload_n hx hb dX6_shortestFrom_31 rfl (lv_at hl 1 rfl) ?_
          refine lv_bipush (v := 6) hx hb dX6_shortestFrom_32 (by decide) ?_
          refine lv_imul hx hb dX6_shortestFrom_34 ?_
          refine lv_iload hx hb dX6_shortestFrom_35 (lv_at hl 4 rfl) ?_
          refine lv_iadd hx hb dX6_shortestFrom_37 ?_
          obtain ⟨hi, hf⟩ := gi_some hf
          refine cl_105 E hP hi dX6_shortestFrom_38 ?_
          refine lv_aload_n hx hb dX6_shortestFrom_39 rfl (lv_at hl 0 rfl) ?_
          refine cg_6_42_1 E hP dX6_shortestFrom_40 ?_
          refine lv_iload hx hb dX6_shortestFrom_43 (lv_at hl 4 rfl) ?_
          obtain ⟨hi, hf⟩ := gi_some hf
          refine cl_106 E hP hi dX6_shortestFrom_45 ?_
          refine lv_iadd hx hb dX6_shortestFrom_46 ?_
          refine va_mmin hx hb (E.1.2.2.1.trans hl.1.symm) hown (hT _ k_943) (hT _ k_526) (hT _ k_15) (hT _ k_527) (Nat.le_of_ble_eq_true rfl) (Nat.le_of_ble_eq_true rfl) (Nat.zero_le _) (Nat.zero_le _) dX6_shortestFrom_47 ?_
          refine lv_topi (fun x4 ex => ?_)
          replace hf := lt_at ex hf; clear ex
          refine lv_istore_n (lv' := [(3, .int x4), (0, .ref (ad 199)), (1, .int v1), (2, .int v2), (4, .int v4)]) hx hb dX6_shortestFrom_50 rfl hl (by decide) rfl (fun ls hl => ?_)
          exact B51 v1 v2 x4 v4 st3 _ _ ls hf (lv_sub hl [1, 2, 3, 0, 4] rfl) hP hS
  refine lv_ldc (v := 1000000) hx hb hown (hT _ k_934) dX6_shortestFrom_0 ?_
  refine lv_istore_n (lv' := [(3, .int (1000000 : Int32)), (0, .ref (ad 199)), (1, .int a0), (2, .int a1)]) hx hb dX6_shortestFrom_2 rfl hl (by decide) rfl (fun ls hl => ?_)
  refine lv_iconst (v := 0) hx hb dX6_shortestFrom_3 (by decide) ?_
  refine lv_istore (lv' := [(4, .int (0 : Int32)), (3, .int (1000000 : Int32)), (0, .ref (ad 199)), (1, .int a0), (2, .int a1)]) hx hb dX6_shortestFrom_4 hl (by decide) rfl (fun ls hl => ?_)
  exact L6 6000 a0 a1 (1000000 : Int32) (0 : Int32) st _ _ ls hf (lv_sub hl [2, 3, 4, 1, 0] rfl) hP hS
def fX6_measureTo_b28 (fz : List FP) (k18 : Int32 → Int32 → St → Option (Unit × St)) (k28 : Int32 → Int32 → Int32 → St → Option (Unit × St)) (v1 : Int32) (v2 : Int32) (v3 : Int32) (st : St) : Option (Unit × St) := if (st.1 108) ≤ v3 then (lt (v2 + (1 : Int32)) (fun x1 => k18 v1 x1 st)) else (gi v3 6 (bd (fX6_shortestFrom v3 v1 fz st) (fun r2 st3 => gi v3 6 (lt (sA st3 106 (upd (st3.2.2.1 106) v3.toNatClampNeg (if r2 < (st.2.2.1 106 v3.toNatClampNeg) then r2 else (st.2.2.1 106 v3.toNatClampNeg)))) (fun st4 => lt (v3 + (1 : Int32)) (fun x5 => k28 v1 v2 x5 st4))))))
def fX6_measureTo_b18 (fz : List FP) (k18 : Int32 → Int32 → St → Option (Unit × St)) (v1 : Int32) (v2 : Int32) (st : St) : Option (Unit × St) := if (st.1 108) ≤ v2 then (some ((), st)) else (lp (fun _ _ _ _ => none) (fX6_measureTo_b28 fz k18) 6000 v1 v2 (0 : Int32) st)
def fX6_measureTo (a0 : Int32) (fz : List FP) (st : St) : Option (Unit × St) := bd (fJ7_fill_53178__106 (1000000 : Int32) fz st) (fun r6 st7 => gi a0 6 (lt (sA st7 106 (upd (st7.2.2.1 106) a0.toNatClampNeg (0 : Int32))) (fun st8 => lp (fun _ _ _ => none) (fX6_measureTo_b18 fz) 6000 a0 (1 : Int32) st8)))
set_option maxHeartbeats 4000000 in
set_option maxRecDepth 100000 in
theorem tX6_measureTo (l : Launch) (D : va_G) (cy : Nat → ClassId) (ad : Nat → Nat) (fz : List FP) (hJ : (cads ad fz).Nodup) (sz : Nat) (a0 : Int32) (st : St) (rr : Unit) (st' : St) (hf : fX6_measureTo a0 fz st = some (rr, st')) : Met l yX6_measureTo (Cond.code yX6_measureTo cX6_measureTo 4 none :: TT) (rmD 2) (cPc D cy ad fz [.ref (ad 199), .int a0] st sz) (cQv D cy ad fz rr st' sz) 0 0 (cA ad fz sz) := by
  refine c_metv (by decide) hJ (Nat.le_of_ble_eq_true rfl) (fun p e s m args below meth c ls E hx hb hr hlocks hown hT hD hN hl hP hS => ?_)
  replace hl : lv_has ls 4 [(0, .ref (ad 199)), (1, .int a0)] := hl
  unfold fX6_measureTo at hf
  have L18 : ∀ (n : Nat) (v1 : Int32) (v2 : Int32) (st : St) (H : Heap) (locs : List Loc) (ls : Array Slot), lp (fun _ _ _ => none) (fX6_measureTo_b18 fz) n v1 v2 st = some (rr, st') → lv_has ls 4 [(0, .ref (ad 199)), (1, .int v1), (2, .int v2)] → va_P D classes (cx cy ad fz st) H → va_S (cA ad fz s.heap.size) s.heap H locs → cGv l 2 D cy ad fz rr st' p e s m args below meth c H locs (F0 m 18 ls []) := by
    intro n
    induction n with
    | zero => intro v1 v2 st H locs ls hf; exact absurd hf (fun h => by cases h)
    | succ n K18 =>
      intro v1 v2 st H locs ls hf hl hP hS
      replace hf : fX6_measureTo_b18 fz (lp (fun _ _ _ => none) (fX6_measureTo_b18 fz) n) v1 v2 st = some (rr, st') := hf
      generalize lp (fun _ _ _ => none) (fX6_measureTo_b18 fz) n = k18 at hf K18
      have L28 : ∀ (n : Nat) (v1 : Int32) (v2 : Int32) (v3 : Int32) (st : St) (H : Heap) (locs : List Loc) (ls : Array Slot), lp (fun _ _ _ _ => none) (fX6_measureTo_b28 fz k18) n v1 v2 v3 st = some (rr, st') → lv_has ls 4 [(0, .ref (ad 199)), (1, .int v1), (2, .int v2), (3, .int v3)] → va_P D classes (cx cy ad fz st) H → va_S (cA ad fz s.heap.size) s.heap H locs → cGv l 2 D cy ad fz rr st' p e s m args below meth c H locs (F0 m 28 ls []) := by
        intro n
        induction n with
        | zero => intro v1 v2 v3 st H locs ls hf; exact absurd hf (fun h => by cases h)
        | succ n K28 =>
          intro v1 v2 v3 st H locs ls hf hl hP hS
          replace hf : fX6_measureTo_b28 fz k18 (lp (fun _ _ _ _ => none) (fX6_measureTo_b28 fz k18) n) v1 v2 v3 st = some (rr, st') := hf
          generalize lp (fun _ _ _ _ => none) (fX6_measureTo_b28 fz k18) n = k28 at hf K28
          unfold fX6_measureTo_b28 at hf
          refine lv_iload_n hx hb dX6_measureTo_28 rfl (lv_at hl 3 rfl) ?_
          refine lv_aload_n hx hb dX6_measureTo_29 rfl (lv_at hl 0 rfl) ?_
          refine cg_6_86_1 E hP dX6_measureTo_30 ?_
          refine lv_icmp_ge (tgt := 63) hx hb dX6_measureTo_33 (by decide) (fun hc => ?_) (fun hc => ?_)
          · replace hf := it_pos hc hf
            obtain ⟨x1, ex⟩ : ∃ y : Int32, y = v2 + (1 : Int32) := ⟨_, rfl⟩
            replace hf := lt_at ex hf
            refine lv_iinc (v := x1) (lv' := [(2, .int x1), (0, .ref (ad 199)), (1, .int v1), (3, .int v3)]) hx hb dX6_measureTo_63 hl (k := 2) rfl (by rw [ex]; rfl) (by decide) rfl (fun ls hl => ?_)
            clear ex
            refine lv_goto (tgt := 18) hx hb dX6_measureTo_66 (by decide) ?_
            exact K18 v1 x1 st _ _ ls hf (lv_sub hl [1, 2, 0] rfl) hP hS
          · replace hf := it_neg hc hf
            refine lv_aload_n hx hb dX6_measureTo_36 rfl (lv_at hl 0 rfl) ?_
            refine cg_6_42_1 E hP dX6_measureTo_37 ?_
            refine lv_iload_n hx hb dX6_measureTo_40 rfl (lv_at hl 3 rfl) ?_
            refine lv_aload_n hx hb dX6_measureTo_41 rfl (lv_at hl 0 rfl) ?_
            refine cg_6_42_1 E hP dX6_measureTo_42 ?_
            refine lv_iload_n hx hb dX6_measureTo_45 rfl (lv_at hl 3 rfl) ?_
            obtain ⟨hi, hf⟩ := gi_some hf
            refine cl_106 E hP hi dX6_measureTo_46 ?_
            refine lv_aload_n hx hb dX6_measureTo_47 rfl (lv_at hl 0 rfl) ?_
            refine lv_iload_n hx hb dX6_measureTo_48 rfl (lv_at hl 3 rfl) ?_
            refine lv_iload_n hx hb dX6_measureTo_49 rfl (lv_at hl 1 rfl) ?_
            obtain ⟨r2, st3, hc, hf⟩ := bd_some hf
            refine c_calli (n := 2) (rest := [.int (st.2.2.1 106 v3.toNatClampNeg), .int v3, .ref (ad 106)]) E hN hP hS (fun sz => tX6_shortestFrom l D cy ad fz hJ sz v3 v1 st r2 st3 hc) (va_recv E.2 hP (ci := 6) (q0 := 3) rfl rfl) (gV k_935 k_937 ks_28 k_2 k_938) qX6_shortestFrom ⟨Nat.le_of_ble_eq_true rfl, Nat.le_of_ble_eq_true rfl⟩ ⟨Nat.le_refl _, Nat.le_refl _⟩ rfl hl.1 rfl (Nat.le_of_ble_eq_true rfl) dX6_measureTo_50 (fun H locs hP hS => ?_)
            refine va_mmin hx hb (E.1.2.2.1.trans hl.1.symm) hown (hT _ k_943) (hT _ k_526) (hT _ k_15) (hT _ k_527) (Nat.le_of_ble_eq_true rfl) (Nat.le_of_ble_eq_true rfl) (Nat.zero_le _) (Nat.zero_le _) dX6_measureTo_53 ?_
            obtain ⟨hi, hf⟩ := gi_some hf
            refine cs_106 E hD hP hS hi dX6_measureTo_56 (fun st4 H locs ex hP hS => ?_)
            replace hf := lt_at ex hf; clear ex
            obtain ⟨x5, ex⟩ : ∃ y : Int32, y = v3 + (1 : Int32) := ⟨_, rfl⟩
            replace hf := lt_at ex hf
            refine lv_iinc (v := x5) (lv' := [(3, .int x5), (0, .ref (ad 199)), (1, .int v1), (2, .int v2)]) hx hb dX6_measureTo_57 hl (k := 3) rfl (by rw [ex]; rfl) (by decide) rfl (fun ls hl => ?_)
            clear ex
            refine lv_goto (tgt := 28) hx hb dX6_measureTo_60 (by decide) ?_
            exact K28 v1 v2 x5 st4 _ _ ls hf (lv_sub hl [1, 2, 3, 0] rfl) hP hS
      unfold fX6_measureTo_b18 at hf
      refine lv_iload_n hx hb dX6_measureTo_18 rfl (lv_at hl 2 rfl) ?_
      refine lv_aload_n hx hb dX6_measureTo_19 rfl (lv_at hl 0 rfl) ?_
      refine cg_6_86_1 E hP dX6_measureTo_20 ?_
      refine lv_icmp_ge (tgt := 69) hx hb dX6_measureTo_23 (by decide) (fun hc => ?_) (fun hc => ?_)
      · replace hf := it_pos hc hf
        exact c_vret hx hb hr hlocks hf hP hS dX6_measureTo_69
      · replace hf := it_neg hc hf
        refine lv_iconst (v := 0) hx hb dX6_measureTo_26 (by decide) ?_
        refine lv_istore_n (lv' := [(3, .int (0 : Int32)), (0, .ref (ad 199)), (1, .int v1), (2, .int v2)]) hx hb dX6_measureTo_27 rfl hl (by decide) rfl (fun ls hl => ?_)
        exact L28 6000 v1 v2 (0 : Int32) st _ _ ls hf (lv_sub hl [1, 2, 3, 0] rfl) hP hS
  refine lv_aload_n hx hb dX6_measureTo_0 rfl (lv_at hl 0 rfl) ?_
  refine cg_6_42_1 E hP dX6_measureTo_1 ?_
  refine lv_ldc (v := 1000000) hx hb hown (hT _ k_934) dX6_measureTo_4 ?_
  obtain ⟨r6, st7, hc, hf⟩ := bd_some hf
  refine c_callSv (n := 2) (rest := []) E hN hP hS (fun sz => tJ7_fill_53178__106 l D cy ad fz hJ sz (1000000 : Int32) st r6 st7 hc) k_139 k_140 k_6 k_141 qJ7_fill_53178.2 ⟨Nat.le_of_ble_eq_true rfl, Nat.le_of_ble_eq_true rfl⟩ ⟨Nat.le_refl _, Nat.le_refl _⟩ rfl hl.1 rfl (Nat.le_of_ble_eq_true rfl) dX6_measureTo_6 (fun H locs hP hS => ?_)
  refine lv_aload_n hx hb dX6_measureTo_9 rfl (lv_at hl 0 rfl) ?_
  refine cg_6_42_1 E hP dX6_measureTo_10 ?_
  refine lv_iload_n hx hb dX6_measureTo_13 rfl (lv_at hl 1 rfl) ?_
  refine lv_iconst (v := 0) hx hb dX6_measureTo_14 (by decide) ?_
  obtain ⟨hi, hf⟩ := gi_some hf
  refine cs_106 E hD hP hS hi dX6_measureTo_15 (fun st8 H locs ex hP hS => ?_)
  replace hf := lt_at ex hf; clear ex
  refine lv_iconst (v := 1) hx hb dX6_measureTo_16 (by decide) ?_
  refine lv_istore_n (lv' := [(2, .int (1 : Int32)), (0, .ref (ad 199)), (1, .int a0)]) hx hb dX6_measureTo_17 rfl hl (by decide) rfl (fun ls hl => ?_)
  exact L18 6000 a0 (1 : Int32) st8 _ _ ls hf (lv_sub hl [1, 2, 0] rfl) hP hS
def fX6_quickestStop_b49 (fz : List FP) (k2 : Int32 → Int32 → Int32 → St → Option (Int32 × St)) (v1 : Int32) (v2 : Int32) (v3 : Int32) (st : St) : Option (Int32 × St) := lt (v3 + (1 : Int32)) (fun x1 => k2 v1 v2 x1 st)
def fX6_quickestStop_b2 (fz : List FP) (k2 : Int32 → Int32 → Int32 → St → Option (Int32 × St)) (v1 : Int32) (v2 : Int32) (v3 : Int32) (st : St) : Option (Int32 × St) := if (st.1 108) ≤ v3 then (some ((-1 : Int32), st)) else (bd (fX6_leads v1 v3 v2 fz st) (fun r2 st3 => if r2 = 0 then (fX6_quickestStop_b49 fz k2 v1 v2 v3 st3) else (gi ((v1 * (6 : Int32)) + v3) 36 (gi v3 6 (gi v1 6 (if ((st3.2.2.1 105 ((v1 * (6 : Int32)) + v3).toNatClampNeg) + (st3.2.2.1 106 v3.toNatClampNeg)) = (st3.2.2.1 106 v1.toNatClampNeg) then (some (v3, st3)) else (fX6_quickestStop_b49 fz k2 v1 v2 v3 st3)))))))
def fX6_quickestStop (a0 : Int32) (a1 : Int32) (fz : List FP) (st : St) : Option (Int32 × St) := lp (fun _ _ _ _ => none) (fX6_quickestStop_b2 fz) 6000 a0 a1 (0 : Int32) st
set_option maxHeartbeats 4000000 in
set_option maxRecDepth 100000 in
theorem tX6_quickestStop (l : Launch) (D : va_G) (cy : Nat → ClassId) (ad : Nat → Nat) (fz : List FP) (hJ : (cads ad fz).Nodup) (sz : Nat) (a0 : Int32) (a1 : Int32) (st : St) (rr : Int32) (st' : St) (hf : fX6_quickestStop a0 a1 fz st = some (rr, st')) : Met l yX6_quickestStop (Cond.code yX6_quickestStop cX6_quickestStop 4 (some .int) :: TT) (rmD 1) (cPc D cy ad fz [.ref (ad 199), .int a0, .int a1] st sz) (cQi D cy ad fz rr st' sz) 0 0 (cA ad fz sz) := by
  refine c_meti (by decide) hJ (Nat.le_of_ble_eq_true rfl) (fun p e s m args below meth c ls E hx hb hr hlocks hown hT hD hN hl hP hS => ?_)
  replace hl : lv_has ls 4 [(0, .ref (ad 199)), (1, .int a0), (2, .int a1)] := hl
  unfold fX6_quickestStop at hf
  have L2 : ∀ (n : Nat) (v1 : Int32) (v2 : Int32) (v3 : Int32) (st : St) (H : Heap) (locs : List Loc) (ls : Array Slot), lp (fun _ _ _ _ => none) (fX6_quickestStop_b2 fz) n v1 v2 v3 st = some (rr, st') → lv_has ls 4 [(0, .ref (ad 199)), (1, .int v1), (2, .int v2), (3, .int v3)] → va_P D classes (cx cy ad fz st) H → va_S (cA ad fz s.heap.size) s.heap H locs → cGi l 1 D cy ad fz rr st' p e s m args below meth c H locs (F0 m 2 ls []) := by
    intro n
    induction n with
    | zero => intro v1 v2 v3 st H locs ls hf; exact absurd hf (fun h => by cases h)
    | succ n K2 =>
      intro v1 v2 v3 st H locs ls hf hl hP hS
      replace hf : fX6_quickestStop_b2 fz (lp (fun _ _ _ _ => none) (fX6_quickestStop_b2 fz) n) v1 v2 v3 st = some (rr, st') := hf
      generalize lp (fun _ _ _ _ => none) (fX6_quickestStop_b2 fz) n = k2 at hf K2
      have B49 : ∀ (v1 : Int32) (v2 : Int32) (v3 : Int32) (st : St) (H : Heap) (locs : List Loc) (ls : Array Slot), fX6_quickestStop_b49 fz k2 v1 v2 v3 st = some (rr, st') → lv_has ls 4 [(0, .ref (ad 199)), (1, .int v1), (2, .int v2), (3, .int v3)] → va_P D classes (cx cy ad fz st) H → va_S (cA ad fz s.heap.size) s.heap H locs → cGi l 1 D cy ad fz rr st' p e s m args below meth c H locs (F0 m 49 ls []) := by
        intro v1 v2 v3 st H locs ls hf hl hP hS
        unfold fX6_quickestStop_b49 at hf
        obtain ⟨x1, ex⟩ : ∃ y : Int32, y = v3 + (1 : Int32) := ⟨_, rfl⟩
        replace hf := lt_at ex hf
        refine lv_iinc (v := x1) (lv' := [(3, .int x1), (0, .ref (ad 199)), (1, .int v1), (2, .int v2)]) hx hb dX6_quickestStop_49 hl (k := 3) rfl (by rw [ex]; rfl) (by decide) rfl (fun ls hl => ?_)
        clear ex
        refine lv_goto (tgt := 2) hx hb dX6_quickestStop_52 (by decide) ?_
        exact K2 v1 v2 x1 st _ _ ls hf (lv_sub hl [1, 2, 3, 0] rfl) hP hS
      unfold fX6_quickestStop_b2 at hf
      refine lv_iload_n hx hb dX6_quickestStop_2 rfl (lv_at hl 3 rfl) ?_
      refine lv_aload_n hx hb dX6_quickestStop_3 rfl (lv_at hl 0 rfl) ?_
      refine cg_6_86_1 E hP dX6_quickestStop_4 ?_
      refine lv_icmp_ge (tgt := 55) hx hb dX6_quickestStop_7 (by decide) (fun hc => ?_) (fun hc => ?_)
      · replace hf := it_pos hc hf
        refine lv_iconst (v := -1) hx hb dX6_quickestStop_55 (by decide) ?_
        exact c_iret hx hb hr hlocks hf hP hS dX6_quickestStop_56
      · replace hf := it_neg hc hf
        refine lv_aload_n hx hb dX6_quickestStop_10 rfl (lv_at hl 0 rfl) ?_
        refine lv_iload_n hx hb dX6_quickestStop_11 rfl (lv_at hl 1 rfl) ?_
        refine lv_iload_n hx hb dX6_quickestStop_12 rfl (lv_at hl 3 rfl) ?_
        refine lv_iload_n hx hb dX6_quickestStop_13 rfl (lv_at hl 2 rfl) ?_
        obtain ⟨r2, st3, hc, hf⟩ := bd_some hf
        refine c_calli (n := 3) (rest := []) E hN hP hS (fun sz => tX6_leads l D cy ad fz hJ sz v1 v3 v2 st r2 st3 hc) (va_recv E.2 hP (ci := 6) (q0 := 3) rfl rfl) (gV k_939 k_941 ks_29 k_2 k_942) qX6_leads ⟨Nat.le_of_ble_eq_true rfl, Nat.le_of_ble_eq_true rfl⟩ ⟨Nat.le_refl _, Nat.le_refl _⟩ rfl hl.1 rfl (Nat.le_of_ble_eq_true rfl) dX6_quickestStop_14 (fun H locs hP hS => ?_)
        refine lv_if_eq (tgt := 49) hx hb dX6_quickestStop_17 (by decide) (fun hc => ?_) (fun hc => ?_)
        · replace hf := it_pos hc hf
          exact B49 v1 v2 v3 st3 _ _ ls hf hl hP hS
        · replace hf := it_neg hc hf
          refine lv_aload_n hx hb dX6_quickestStop_20 rfl (lv_at hl 0 rfl) ?_
          refine cg_6_39_1 E hP dX6_quickestStop_21 ?_
          refine lv_iload_n hx hb dX6_quickestStop_24 rfl (lv_at hl 1 rfl) ?_
          refine lv_bipush (v := 6) hx hb dX6_quickestStop_25 (by decide) ?_
          refine lv_imul hx hb dX6_quickestStop_27 ?_
          refine lv_iload_n hx hb dX6_quickestStop_28 rfl (lv_at hl 3 rfl) ?_
          refine lv_iadd hx hb dX6_quickestStop_29 ?_
          obtain ⟨hi, hf⟩ := gi_some hf
          refine cl_105 E hP hi dX6_quickestStop_30 ?_
          refine lv_aload_n hx hb dX6_quickestStop_31 rfl (lv_at hl 0 rfl) ?_
          refine cg_6_42_1 E hP dX6_quickestStop_32 ?_
          refine lv_iload_n hx hb dX6_quickestStop_35 rfl (lv_at hl 3 rfl) ?_
          obtain ⟨hi, hf⟩ := gi_some hf
          refine cl_106 E hP hi dX6_quickestStop_36 ?_
          refine lv_iadd hx hb dX6_quickestStop_37 ?_
          refine lv_aload_n hx hb dX6_quickestStop_38 rfl (lv_at hl 0 rfl) ?_
          refine cg_6_42_1 E hP dX6_quickestStop_39 ?_
          refine lv_iload_n hx hb dX6_quickestStop_42 rfl (lv_at hl 1 rfl) ?_
          obtain ⟨hi, hf⟩ := gi_some hf
          refine cl_106 E hP hi dX6_quickestStop_43 ?_
          refine lv_icmp_ne (tgt := 49) hx hb dX6_quickestStop_44 (by decide) (fun hc => ?_) (fun hc => ?_)
          · replace hf := it_neg hc hf
            exact B49 v1 v2 v3 st3 _ _ ls hf hl hP hS
          · replace hf := it_pos hc hf
            refine lv_iload_n hx hb dX6_quickestStop_47 rfl (lv_at hl 3 rfl) ?_
            exact c_iret hx hb hr hlocks hf hP hS dX6_quickestStop_48
  refine lv_iconst (v := 0) hx hb dX6_quickestStop_0 (by decide) ?_
  refine lv_istore_n (lv' := [(3, .int (0 : Int32)), (0, .ref (ad 199)), (1, .int a0), (2, .int a1)]) hx hb dX6_quickestStop_1 rfl hl (by decide) rfl (fun ls hl => ?_)
  exact L2 6000 a0 a1 (0 : Int32) st _ _ ls hf (lv_sub hl [1, 2, 3, 0] rfl) hP hS
def fX6_stopOnWay_b51 (fz : List FP) (st : St) : Option (Int32 × St) := some ((-1 : Int32), st)
def fX6_stopOnWay_b42 (fz : List FP) (v4 : Int32) (st : St) : Option (Int32 × St) := some (v4, st)
def fX6_stopOnWay_b6 (fz : List FP) (k6 : Int32 → Int32 → Int32 → Int32 → St → Option (Int32 × St)) (v2 : Int32) (v3 : Int32) (v4 : Int32) (v5 : Int32) (st : St) : Option (Int32 × St) := if (st.1 108) ≤ v5 then (fX6_stopOnWay_b51 fz st) else (if v4 = v2 then (fX6_stopOnWay_b51 fz st) else (bd (fX6_quickestStop v4 v2 fz st) (fun r1 st2 => if v5 = v3 then (fX6_stopOnWay_b42 fz r1 st2) else (if r1 = (-1 : Int32) then (fX6_stopOnWay_b42 fz r1 st2) else (lt (v5 + (1 : Int32)) (fun x3 => k6 v2 v3 r1 x3 st2))))))
def fX6_stopOnWay (a0 : Int32) (a1 : Int32) (a2 : Int32) (fz : List FP) (st : St) : Option (Int32 × St) := lp (fun _ _ _ _ _ => none) (fX6_stopOnWay_b6 fz) 6000 a1 a2 a0 (0 : Int32) st
set_option maxHeartbeats 4000000 in
set_option maxRecDepth 100000 in
theorem tX6_stopOnWay (l : Launch) (D : va_G) (cy : Nat → ClassId) (ad : Nat → Nat) (fz : List FP) (hJ : (cads ad fz).Nodup) (sz : Nat) (a0 : Int32) (a1 : Int32) (a2 : Int32) (st : St) (rr : Int32) (st' : St) (hf : fX6_stopOnWay a0 a1 a2 fz st = some (rr, st')) : Met l yX6_stopOnWay (Cond.code yX6_stopOnWay cX6_stopOnWay 6 (some .int) :: TT) (rmD 2) (cPc D cy ad fz [.ref (ad 199), .int a0, .int a1, .int a2] st sz) (cQi D cy ad fz rr st' sz) 0 0 (cA ad fz sz) := by
  refine c_meti (by decide) hJ (Nat.le_of_ble_eq_true rfl) (fun p e s m args below meth c ls E hx hb hr hlocks hown hT hD hN hl hP hS => ?_)
  replace hl : lv_has ls 6 [(0, .ref (ad 199)), (1, .int a0), (2, .int a1), (3, .int a2)] := hl
  unfold fX6_stopOnWay at hf
  have B51 : ∀ (st : St) (H : Heap) (locs : List Loc) (ls : Array Slot), fX6_stopOnWay_b51 fz st = some (rr, st') → lv_has ls 6 [] → va_P D classes (cx cy ad fz st) H → va_S (cA ad fz s.heap.size) s.heap H locs → cGi l 2 D cy ad fz rr st' p e s m args below meth c H locs (F0 m 51 ls []) := by
    intro st H locs ls hf hl hP hS
    unfold fX6_stopOnWay_b51 at hf
    refine lv_iconst (v := -1) hx hb dX6_stopOnWay_51 (by decide) ?_
    exact c_iret hx hb hr hlocks hf hP hS dX6_stopOnWay_52
  have B42 : ∀ (v4 : Int32) (st : St) (H : Heap) (locs : List Loc) (ls : Array Slot), fX6_stopOnWay_b42 fz v4 st = some (rr, st') → lv_has ls 6 [(4, .int v4)] → va_P D classes (cx cy ad fz st) H → va_S (cA ad fz s.heap.size) s.heap H locs → cGi l 2 D cy ad fz rr st' p e s m args below meth c H locs (F0 m 42 ls []) := by
    intro v4 st H locs ls hf hl hP hS
    unfold fX6_stopOnWay_b42 at hf
    refine lv_iload hx hb dX6_stopOnWay_42 (lv_at hl 0 rfl) ?_
    exact c_iret hx hb hr hlocks hf hP hS dX6_stopOnWay_44
  have L6 : ∀ (n : Nat) (v2 : Int32) (v3 : Int32) (v4 : Int32) (v5 : Int32) (st : St) (H : Heap) (locs : List Loc) (ls : Array Slot), lp (fun _ _ _ _ _ => none) (fX6_stopOnWay_b6 fz) n v2 v3 v4 v5 st = some (rr, st') → lv_has ls 6 [(0, .ref (ad 199)), (2, .int v2), (3, .int v3), (4, .int v4), (5, .int v5)] → va_P D classes (cx cy ad fz st) H → va_S (cA ad fz s.heap.size) s.heap H locs → cGi l 2 D cy ad fz rr st' p e s m args below meth c H locs (F0 m 6 ls []) := by
    intro n
    induction n with
    | zero => intro v2 v3 v4 v5 st H locs ls hf; exact absurd hf (fun h => by cases h)
    | succ n K6 =>
      intro v2 v3 v4 v5 st H locs ls hf hl hP hS
      replace hf : fX6_stopOnWay_b6 fz (lp (fun _ _ _ _ _ => none) (fX6_stopOnWay_b6 fz) n) v2 v3 v4 v5 st = some (rr, st') := hf
      generalize lp (fun _ _ _ _ _ => none) (fX6_stopOnWay_b6 fz) n = k6 at hf K6
      unfold fX6_stopOnWay_b6 at hf
      refine lv_iload hx hb dX6_stopOnWay_6 (lv_at hl 4 rfl) ?_
      refine lv_aload_n hx hb dX6_stopOnWay_8 rfl (lv_at hl 0 rfl) ?_
      refine cg_6_86_1 E hP dX6_stopOnWay_9 ?_
      refine lv_icmp_ge (tgt := 51) hx hb dX6_stopOnWay_12 (by decide) (fun hc => ?_) (fun hc => ?_)
      · replace hf := it_pos hc hf
        exact B51 st _ _ ls hf (lv_sub hl [] rfl) hP hS
      · replace hf := it_neg hc hf
        refine lv_iload hx hb dX6_stopOnWay_15 (lv_at hl 3 rfl) ?_
        refine lv_iload_n hx hb dX6_stopOnWay_17 rfl (lv_at hl 1 rfl) ?_
        refine lv_icmp_eq (tgt := 51) hx hb dX6_stopOnWay_18 (by decide) (fun hc => ?_) (fun hc => ?_)
        · replace hf := it_pos hc hf
          exact B51 st _ _ ls hf (lv_sub hl [] rfl) hP hS
        · replace hf := it_neg hc hf
          refine lv_aload_n hx hb dX6_stopOnWay_21 rfl (lv_at hl 0 rfl) ?_
          refine lv_iload hx hb dX6_stopOnWay_22 (lv_at hl 3 rfl) ?_
          refine lv_iload_n hx hb dX6_stopOnWay_24 rfl (lv_at hl 1 rfl) ?_
          obtain ⟨r1, st2, hc, hf⟩ := bd_some hf
          refine c_calli (n := 2) (rest := []) E hN hP hS (fun sz => tX6_quickestStop l D cy ad fz hJ sz v4 v2 st r1 st2 hc) (va_recv E.2 hP (ci := 6) (q0 := 3) rfl rfl) (gV k_949 k_951 ks_30 k_2 k_952) qX6_quickestStop ⟨Nat.le_of_ble_eq_true rfl, Nat.le_of_ble_eq_true rfl⟩ ⟨Nat.le_refl _, Nat.le_refl _⟩ rfl hl.1 rfl (Nat.le_of_ble_eq_true rfl) dX6_stopOnWay_25 (fun H locs hP hS => ?_)
          refine lv_istore (lv' := [(4, .int r1), (0, .ref (ad 199)), (2, .int v2), (3, .int v3), (5, .int v5)]) hx hb dX6_stopOnWay_28 hl (by decide) rfl (fun ls hl => ?_)
          refine lv_iload hx hb dX6_stopOnWay_30 (lv_at hl 4 rfl) ?_
          refine lv_iload_n hx hb dX6_stopOnWay_32 rfl (lv_at hl 3 rfl) ?_
          refine lv_icmp_eq (tgt := 42) hx hb dX6_stopOnWay_33 (by decide) (fun hc => ?_) (fun hc => ?_)
          · replace hf := it_pos hc hf
            exact B42 r1 st2 _ _ ls hf (lv_sub hl [0] rfl) hP hS
          · replace hf := it_neg hc hf
            refine lv_iload hx hb dX6_stopOnWay_36 (lv_at hl 0 rfl) ?_
            refine lv_iconst (v := -1) hx hb dX6_stopOnWay_38 (by decide) ?_
            refine lv_icmp_ne (tgt := 45) hx hb dX6_stopOnWay_39 (by decide) (fun hc => ?_) (fun hc => ?_)
            · replace hf := it_neg hc hf
              obtain ⟨x3, ex⟩ : ∃ y : Int32, y = v5 + (1 : Int32) := ⟨_, rfl⟩
              replace hf := lt_at ex hf
              refine lv_iinc (v := x3) (lv' := [(5, .int x3), (4, .int r1), (0, .ref (ad 199)), (2, .int v2), (3, .int v3)]) hx hb dX6_stopOnWay_45 hl (k := 4) rfl (by rw [ex]; rfl) (by decide) rfl (fun ls hl => ?_)
              clear ex
              refine lv_goto (tgt := 6) hx hb dX6_stopOnWay_48 (by decide) ?_
              exact K6 v2 v3 r1 x3 st2 _ _ ls hf (lv_sub hl [2, 3, 4, 1, 0] rfl) hP hS
            · replace hf := it_pos hc hf
              exact B42 r1 st2 _ _ ls hf (lv_sub hl [0] rfl) hP hS
  refine lv_iload_n hx hb dX6_stopOnWay_0 rfl (lv_at hl 1 rfl) ?_
  refine lv_istore (lv' := [(4, .int a0), (0, .ref (ad 199)), (1, .int a0), (2, .int a1), (3, .int a2)]) hx hb dX6_stopOnWay_1 hl (by decide) rfl (fun ls hl => ?_)
  refine lv_iconst (v := 0) hx hb dX6_stopOnWay_3 (by decide) ?_
  refine lv_istore (lv' := [(5, .int (0 : Int32)), (4, .int a0), (0, .ref (ad 199)), (1, .int a0), (2, .int a1), (3, .int a2)]) hx hb dX6_stopOnWay_4 hl (by decide) rfl (fun ls hl => ?_)
  exact L6 6000 a1 a2 a0 (0 : Int32) st _ _ ls hf (lv_sub hl [2, 4, 5, 1, 0] rfl) hP hS
def fX11_retreat_b32 (fz : List FP) (st : St) : Option (Int32 × St) := some ((-1 : Int32), st)
def fX11_retreat_b85 (fz : List FP) (w0 : Int32) (st : St) : Option (Int32 × St) := some (w0, st)
def fX11_retreat (a0 : Int32) (a1 : Int32) (a2 : Int32) (fz : List FP) (st : St) : Option (Int32 × St) := bd (fX6_has a0 fz st) (fun r1 st2 => if r1 = 0 then (fX11_retreat_b32 fz st2) else (bd (fX6_has a1 fz st2) (fun r3 st4 => if r3 = 0 then (fX11_retreat_b32 fz st4) else (if a0 = a1 then (fX11_retreat_b32 fz st4) else (if (-1 : Int32) ≤ a2 then (bd (fX6_measureTo a1 fz st4) (fun r5 st6 => gi a0 6 (if (st6.2.2.1 106 a0.toNatClampNeg) = (1000000 : Int32) then (some ((-1 : Int32), st6)) else (if a2 = (-1 : Int32) then (gi a0 6 (fX11_retreat_b85 fz (st6.2.2.1 106 a0.toNatClampNeg) st6)) else (bd (fX6_stopOnWay a0 a1 a2 fz st6) (fun r7 st8 => fX11_retreat_b85 fz r7 st8)))))) else (fX11_retreat_b32 fz st4))))))
set_option maxHeartbeats 4000000 in
set_option maxRecDepth 100000 in
theorem tX11_retreat (l : Launch) (D : va_G) (cy : Nat → ClassId) (ad : Nat → Nat) (fz : List FP) (hJ : (cads ad fz).Nodup) (sz : Nat) (a0 : Int32) (a1 : Int32) (a2 : Int32) (st : St) (rr : Int32) (st' : St) (hf : fX11_retreat a0 a1 a2 fz st = some (rr, st')) : Met l yX11_retreat (Cond.code yX11_retreat cX11_retreat 4 (some .int) :: TT) (rmD 3) (cPc D cy ad fz [.ref (ad 99), .int a0, .int a1, .int a2] st sz) (cQi D cy ad fz rr st' sz) 0 0 (cA ad fz sz) := by
  refine c_meti (by decide) hJ (Nat.le_of_ble_eq_true rfl) (fun p e s m args below meth c ls E hx hb hr hlocks hown hT hD hN hl hP hS => ?_)
  replace hl : lv_has ls 4 [(0, .ref (ad 99)), (1, .int a0), (2, .int a1), (3, .int a2)] := hl
  unfold fX11_retreat at hf
  have B32 : ∀ (st : St) (H : Heap) (locs : List Loc) (ls : Array Slot), fX11_retreat_b32 fz st = some (rr, st') → lv_has ls 4 [] → va_P D classes (cx cy ad fz st) H → va_S (cA ad fz s.heap.size) s.heap H locs → cGi l 3 D cy ad fz rr st' p e s m args below meth c H locs (F0 m 32 ls []) := by
    intro st H locs ls hf hl hP hS
    unfold fX11_retreat_b32 at hf
    refine lv_iconst (v := -1) hx hb dX11_retreat_32 (by decide) ?_
    exact c_iret hx hb hr hlocks hf hP hS dX11_retreat_33
  have B85 : ∀ (w0 : Int32) (st : St) (H : Heap) (locs : List Loc) (ls : Array Slot), fX11_retreat_b85 fz w0 st = some (rr, st') → lv_has ls 4 [] → va_P D classes (cx cy ad fz st) H → va_S (cA ad fz s.heap.size) s.heap H locs → cGi l 3 D cy ad fz rr st' p e s m args below meth c H locs (F0 m 85 ls [.int w0]) := by
    intro w0 st H locs ls hf hl hP hS
    unfold fX11_retreat_b85 at hf
    exact c_iret hx hb hr hlocks hf hP hS dX11_retreat_85
  refine lv_aload_n hx hb dX11_retreat_0 rfl (lv_at hl 0 rfl) ?_
  refine cg_11_10_0 E hP dX11_retreat_1 ?_
  refine lv_iload_n hx hb dX11_retreat_4 rfl (lv_at hl 1 rfl) ?_
  obtain ⟨r1, st2, hc, hf⟩ := bd_some hf
  refine c_calli (n := 1) (rest := []) E hN hP hS (fun sz => tX6_has l D cy ad fz hJ sz a0 st r1 st2 hc) (va_recv E.2 hP (ci := 6) (q0 := 3) rfl rfl) (gV k_477 k_478 k_479 k_2 k_480) qX6_has ⟨Nat.le_of_ble_eq_true rfl, Nat.le_of_ble_eq_true rfl⟩ ⟨Nat.le_refl _, Nat.le_refl _⟩ rfl hl.1 rfl (Nat.le_of_ble_eq_true rfl) dX11_retreat_5 (fun H locs hP hS => ?_)
  refine lv_if_eq (tgt := 32) hx hb dX11_retreat_8 (by decide) (fun hc => ?_) (fun hc => ?_)
  · replace hf := it_pos hc hf
    exact B32 st2 _ _ ls hf (lv_sub hl [] rfl) hP hS
  · replace hf := it_neg hc hf
    refine lv_aload_n hx hb dX11_retreat_11 rfl (lv_at hl 0 rfl) ?_
    refine cg_11_10_0 E hP dX11_retreat_12 ?_
    refine lv_iload_n hx hb dX11_retreat_15 rfl (lv_at hl 2 rfl) ?_
    obtain ⟨r3, st4, hc, hf⟩ := bd_some hf
    refine c_calli (n := 1) (rest := []) E hN hP hS (fun sz => tX6_has l D cy ad fz hJ sz a1 st2 r3 st4 hc) (va_recv E.2 hP (ci := 6) (q0 := 3) rfl rfl) (gV k_477 k_478 k_479 k_2 k_480) qX6_has ⟨Nat.le_of_ble_eq_true rfl, Nat.le_of_ble_eq_true rfl⟩ ⟨Nat.le_refl _, Nat.le_refl _⟩ rfl hl.1 rfl (Nat.le_of_ble_eq_true rfl) dX11_retreat_16 (fun H locs hP hS => ?_)
    refine lv_if_eq (tgt := 32) hx hb dX11_retreat_19 (by decide) (fun hc => ?_) (fun hc => ?_)
    · replace hf := it_pos hc hf
      exact B32 st4 _ _ ls hf (lv_sub hl [] rfl) hP hS
    · replace hf := it_neg hc hf
      refine lv_iload_n hx hb dX11_retreat_22 rfl (lv_at hl 1 rfl) ?_
      refine lv_iload_n hx hb dX11_retreat_23 rfl (lv_at hl 2 rfl) ?_
      refine lv_icmp_eq (tgt := 32) hx hb dX11_retreat_24 (by decide) (fun hc => ?_) (fun hc => ?_)
      · replace hf := it_pos hc hf
        exact B32 st4 _ _ ls hf (lv_sub hl [] rfl) hP hS
      · replace hf := it_neg hc hf
        refine lv_iload_n hx hb dX11_retreat_27 rfl (lv_at hl 3 rfl) ?_
        refine lv_iconst (v := -1) hx hb dX11_retreat_28 (by decide) ?_
        refine lv_icmp_ge (tgt := 34) hx hb dX11_retreat_29 (by decide) (fun hc => ?_) (fun hc => ?_)
        · replace hf := it_pos hc hf
          refine lv_aload_n hx hb dX11_retreat_34 rfl (lv_at hl 0 rfl) ?_
          refine cg_11_10_0 E hP dX11_retreat_35 ?_
          refine lv_iload_n hx hb dX11_retreat_38 rfl (lv_at hl 2 rfl) ?_
          obtain ⟨r5, st6, hc, hf⟩ := bd_some hf
          refine c_callv (n := 1) (rest := []) E hN hP hS (fun sz => tX6_measureTo l D cy ad fz hJ sz a1 st4 r5 st6 hc) (va_recv E.2 hP (ci := 6) (q0 := 3) rfl rfl) (gV k_930 k_931 k_932 k_2 k_933) qX6_measureTo ⟨Nat.le_of_ble_eq_true rfl, Nat.le_of_ble_eq_true rfl⟩ ⟨Nat.le_refl _, Nat.le_refl _⟩ rfl hl.1 rfl (Nat.le_of_ble_eq_true rfl) dX11_retreat_39 (fun H locs hP hS => ?_)
          refine lv_aload_n hx hb dX11_retreat_42 rfl (lv_at hl 0 rfl) ?_
          refine cg_11_10_0 E hP dX11_retreat_43 ?_
          refine cg_11_231_1 E hP dX11_retreat_46 ?_
          refine lv_iload_n hx hb dX11_retreat_49 rfl (lv_at hl 1 rfl) ?_
          obtain ⟨hi, hf⟩ := gi_some hf
          refine cl_106 E hP hi dX11_retreat_50 ?_
          refine lv_ldc (v := 1000000) hx hb hown (hT _ k_944) dX11_retreat_51 ?_
          refine lv_icmp_ne (tgt := 58) hx hb dX11_retreat_53 (by decide) (fun hc => ?_) (fun hc => ?_)
          · replace hf := it_neg hc hf
            refine lv_iload_n hx hb dX11_retreat_58 rfl (lv_at hl 3 rfl) ?_
            refine lv_iconst (v := -1) hx hb dX11_retreat_59 (by decide) ?_
            refine lv_icmp_ne (tgt := 75) hx hb dX11_retreat_60 (by decide) (fun hc => ?_) (fun hc => ?_)
            · replace hf := it_neg hc hf
              refine lv_aload_n hx hb dX11_retreat_75 rfl (lv_at hl 0 rfl) ?_
              refine cg_11_10_0 E hP dX11_retreat_76 ?_
              refine lv_iload_n hx hb dX11_retreat_79 rfl (lv_at hl 1 rfl) ?_
              refine lv_iload_n hx hb dX11_retreat_80 rfl (lv_at hl 2 rfl) ?_
              refine lv_iload_n hx hb dX11_retreat_81 rfl (lv_at hl 3 rfl) ?_
              obtain ⟨r7, st8, hc, hf⟩ := bd_some hf
              refine c_calli (n := 3) (rest := []) E hN hP hS (fun sz => tX6_stopOnWay l D cy ad fz hJ sz a0 a1 a2 st6 r7 st8 hc) (va_recv E.2 hP (ci := 6) (q0 := 3) rfl rfl) (gV k_945 k_946 k_947 k_2 k_948) qX6_stopOnWay ⟨Nat.le_of_ble_eq_true rfl, Nat.le_of_ble_eq_true rfl⟩ ⟨Nat.le_refl _, Nat.le_refl _⟩ rfl hl.1 rfl (Nat.le_of_ble_eq_true rfl) dX11_retreat_82 (fun H locs hP hS => ?_)
              exact B85 r7 st8 _ _ ls hf (lv_sub hl [] rfl) hP hS
            · replace hf := it_pos hc hf
              refine lv_aload_n hx hb dX11_retreat_63 rfl (lv_at hl 0 rfl) ?_
              refine cg_11_10_0 E hP dX11_retreat_64 ?_
              refine cg_11_231_1 E hP dX11_retreat_67 ?_
              refine lv_iload_n hx hb dX11_retreat_70 rfl (lv_at hl 1 rfl) ?_
              obtain ⟨hi, hf⟩ := gi_some hf
              refine cl_106 E hP hi dX11_retreat_71 ?_
              refine lv_goto (tgt := 85) hx hb dX11_retreat_72 (by decide) ?_
              exact B85 (st6.2.2.1 106 a0.toNatClampNeg) st6 _ _ ls hf (lv_sub hl [] rfl) hP hS
          · replace hf := it_pos hc hf
            refine lv_iconst (v := -1) hx hb dX11_retreat_56 (by decide) ?_
            exact c_iret hx hb hr hlocks hf hP hS dX11_retreat_57
        · replace hf := it_neg hc hf
          exact B32 st4 _ _ ls hf (lv_sub hl [] rfl) hP hS
def fX11_isEntry (a0 : Int32) : Option Int32 := bs (fX11_within a0 (-99 : Int32) (99 : Int32)) (fun r1 => gb r1 (some r1))
set_option maxHeartbeats 4000000 in
set_option maxRecDepth 100000 in
theorem tX11_isEntry (l : Launch) (hh : Heap) (a0 : Int32) (rr : Int32) (hf : fX11_isEntry a0 = some rr) : Met l yX11_isEntry (Cond.code yX11_isEntry cX11_isEntry 1 (some .boolean) :: TT) (rmD 1) (sPc [.int a0] hh) (sQi rr hh) 0 0 (fun _ => False) := by
  refine s_meti (by decide) (Nat.le_of_ble_eq_true rfl) (fun p e s m args below meth c ls E hx hb hr hlocks hown hT hl => ?_)
  replace hl : lv_has ls 1 [(0, .int a0)] := hl
  unfold fX11_isEntry at hf
  refine lv_iload_n hx hb dX11_isEntry_0 rfl (lv_at hl 0 rfl) ?_
  refine lv_bipush (v := -99) hx hb dX11_isEntry_1 (by decide) ?_
  refine lv_bipush (v := 99) hx hb dX11_isEntry_3 (by decide) ?_
  obtain ⟨r1, hc, hf⟩ := bs_some hf
  refine s_calli (n := 3) (rest := []) E (tX11_within l _ a0 (-99 : Int32) (99 : Int32) r1 hc) (gS k_472 k_458 k_1 k_459) qX11_within ⟨Nat.le_of_ble_eq_true rfl, Nat.le_of_ble_eq_true rfl⟩ ⟨Nat.le_refl _, Nat.le_refl _⟩ rfl hl.1 rfl (Nat.le_of_ble_eq_true rfl) dX11_isEntry_5 ?_
  obtain ⟨hn, hf⟩ := gb_some hf
  exact s_zret hx hb hr hlocks hn hf dX11_isEntry_8
def fX11_pureRest_b18 (w0 : Int32) : Option Int32 := some w0
def fX11_pureRest (a0 : Int32) (a1 : Int32) (a2 : Int32) : Option Int32 := if a2 = 0 then (fX11_pureRest_b18 a0) else (if a2 = (2 : Int32) then (fX11_pureRest_b18 a1) else (fX11_pureRest_b18 (1 : Int32)))
set_option maxHeartbeats 4000000 in
set_option maxRecDepth 100000 in
theorem tX11_pureRest (l : Launch) (hh : Heap) (a0 : Int32) (a1 : Int32) (a2 : Int32) (rr : Int32) (hf : fX11_pureRest a0 a1 a2 = some rr) : Met l yX11_pureRest (Cond.code yX11_pureRest cX11_pureRest 3 (some .int) :: TT) (rmD 0) (sPc [.int a0, .int a1, .int a2] hh) (sQi rr hh) 0 0 (fun _ => False) := by
  refine s_meti (by decide) (Nat.le_of_ble_eq_true rfl) (fun p e s m args below meth c ls E hx hb hr hlocks hown hT hl => ?_)
  replace hl : lv_has ls 3 [(0, .int a0), (1, .int a1), (2, .int a2)] := hl
  unfold fX11_pureRest at hf
  have B18 : ∀ (w0 : Int32) (ls : Array Slot), fX11_pureRest_b18 w0 = some rr → lv_has ls 3 [] → sGi l 0 rr p e s m args below meth c (F0 m 18 ls [.int w0]) := by
    intro w0 ls hf hl
    unfold fX11_pureRest_b18 at hf
    exact s_iret hx hb hr hlocks hf dX11_pureRest_18
  refine lv_iload_n hx hb dX11_pureRest_0 rfl (lv_at hl 2 rfl) ?_
  refine lv_if_ne (tgt := 8) hx hb dX11_pureRest_1 (by decide) (fun hc => ?_) (fun hc => ?_)
  · replace hf := it_neg hc hf
    refine lv_iload_n hx hb dX11_pureRest_8 rfl (lv_at hl 2 rfl) ?_
    refine lv_iconst (v := 2) hx hb dX11_pureRest_9 (by decide) ?_
    refine lv_icmp_ne (tgt := 17) hx hb dX11_pureRest_10 (by decide) (fun hc => ?_) (fun hc => ?_)
    · replace hf := it_neg hc hf
      refine lv_iconst (v := 1) hx hb dX11_pureRest_17 (by decide) ?_
      exact B18 (1 : Int32) ls hf (lv_sub hl [] rfl)
    · replace hf := it_pos hc hf
      refine lv_iload_n hx hb dX11_pureRest_13 rfl (lv_at hl 1 rfl) ?_
      refine lv_goto (tgt := 18) hx hb dX11_pureRest_14 (by decide) ?_
      exact B18 a1 ls hf (lv_sub hl [] rfl)
  · replace hf := it_pos hc hf
    refine lv_iload_n hx hb dX11_pureRest_4 rfl (lv_at hl 0 rfl) ?_
    refine lv_goto (tgt := 18) hx hb dX11_pureRest_5 (by decide) ?_
    exact B18 a0 ls hf (lv_sub hl [] rfl)
def fX11_commonDivisor_b34 (v2 : Int32) : Option Int32 := some v2
def fX11_commonDivisor_b7 (k7 : Int32 → Int32 → Int32 → Option Int32) (v2 : Int32) (v3 : Int32) (v4 : Int32) : Option Int32 := if v3 = 0 then (fX11_commonDivisor_b34 v2) else (if (100 : Int32) ≤ v4 then (fX11_commonDivisor_b34 v2) else (gz v3 (lt (v2 - v2 / v3 * v3) (fun x1 => lt (v4 + (1 : Int32)) (fun x2 => k7 v3 x1 x2)))))
def fX11_commonDivisor (a0 : Int32) (a1 : Int32) : Option Int32 := lp (fun _ _ _ => none) (fX11_commonDivisor_b7) 6000 a0 a1 (0 : Int32)
set_option maxHeartbeats 4000000 in
set_option maxRecDepth 100000 in
theorem tX11_commonDivisor (l : Launch) (hh : Heap) (a0 : Int32) (a1 : Int32) (rr : Int32) (hf : fX11_commonDivisor a0 a1 = some rr) : Met l yX11_commonDivisor (Cond.code yX11_commonDivisor cX11_commonDivisor 6 (some .int) :: TT) (rmD 0) (sPc [.int a0, .int a1] hh) (sQi rr hh) 0 0 (fun _ => False) := by
  refine s_meti (by decide) (Nat.le_of_ble_eq_true rfl) (fun p e s m args below meth c ls E hx hb hr hlocks hown hT hl => ?_)
  replace hl : lv_has ls 6 [(0, .int a0), (1, .int a1)] := hl
  unfold fX11_commonDivisor at hf
  have B34 : ∀ (v2 : Int32) (ls : Array Slot), fX11_commonDivisor_b34 v2 = some rr → lv_has ls 6 [(2, .int v2)] → sGi l 0 rr p e s m args below meth c (F0 m 34 ls []) := by
    intro v2 ls hf hl
    unfold fX11_commonDivisor_b34 at hf
    refine lv_iload_n hx hb dX11_commonDivisor_34 rfl (lv_at hl 0 rfl) ?_
    exact s_iret hx hb hr hlocks hf dX11_commonDivisor_35
  have L7 : ∀ (n : Nat) (v2 : Int32) (v3 : Int32) (v4 : Int32) (ls : Array Slot), lp (fun _ _ _ => none) (fX11_commonDivisor_b7) n v2 v3 v4 = some rr → lv_has ls 6 [(2, .int v2), (3, .int v3), (4, .int v4)] → sGi l 0 rr p e s m args below meth c (F0 m 7 ls []) := by
    intro n
    induction n with
    | zero => intro v2 v3 v4 ls hf; exact absurd hf (fun h => by cases h)
    | succ n K7 =>
      intro v2 v3 v4 ls hf hl
      replace hf : fX11_commonDivisor_b7 (lp (fun _ _ _ => none) (fX11_commonDivisor_b7) n) v2 v3 v4 = some rr := hf
      generalize lp (fun _ _ _ => none) (fX11_commonDivisor_b7) n = k7 at hf K7
      unfold fX11_commonDivisor_b7 at hf
      refine lv_iload_n hx hb dX11_commonDivisor_7 rfl (lv_at hl 1 rfl) ?_
      refine lv_if_eq (tgt := 34) hx hb dX11_commonDivisor_8 (by decide) (fun hc => ?_) (fun hc => ?_)
      · replace hf := it_pos hc hf
        exact B34 v2 ls hf (lv_sub hl [0] rfl)
      · replace hf := it_neg hc hf
        refine lv_iload hx hb dX11_commonDivisor_11 (lv_at hl 2 rfl) ?_
        refine lv_bipush (v := 100) hx hb dX11_commonDivisor_13 (by decide) ?_
        refine lv_icmp_ge (tgt := 34) hx hb dX11_commonDivisor_15 (by decide) (fun hc => ?_) (fun hc => ?_)
        · replace hf := it_pos hc hf
          exact B34 v2 ls hf (lv_sub hl [0] rfl)
        · replace hf := it_neg hc hf
          refine lv_iload_n hx hb dX11_commonDivisor_18 rfl (lv_at hl 0 rfl) ?_
          refine lv_iload_n hx hb dX11_commonDivisor_19 rfl (lv_at hl 1 rfl) ?_
          obtain ⟨hz, hf⟩ := gz_some hf
          refine lv_irem hx hb dX11_commonDivisor_20 hz ?_
          refine lv_topi (fun x1 ex => ?_)
          replace hf := lt_at ex hf; clear ex
          refine lv_istore (lv' := [(5, .int x1), (2, .int v2), (3, .int v3), (4, .int v4)]) hx hb dX11_commonDivisor_21 hl (by decide) rfl (fun ls hl => ?_)
          refine lv_iload_n hx hb dX11_commonDivisor_23 rfl (lv_at hl 2 rfl) ?_
          refine lv_istore_n (lv' := [(2, .int v3), (5, .int x1), (3, .int v3), (4, .int v4)]) hx hb dX11_commonDivisor_24 rfl hl (by decide) rfl (fun ls hl => ?_)
          refine lv_iload hx hb dX11_commonDivisor_25 (lv_at hl 1 rfl) ?_
          refine lv_istore_n (lv' := [(3, .int x1), (2, .int v3), (5, .int x1), (4, .int v4)]) hx hb dX11_commonDivisor_27 rfl hl (by decide) rfl (fun ls hl => ?_)
          obtain ⟨x2, ex⟩ : ∃ y : Int32, y = v4 + (1 : Int32) := ⟨_, rfl⟩
          replace hf := lt_at ex hf
          refine lv_iinc (v := x2) (lv' := [(4, .int x2), (3, .int x1), (2, .int v3), (5, .int x1)]) hx hb dX11_commonDivisor_28 hl (k := 3) rfl (by rw [ex]; rfl) (by decide) rfl (fun ls hl => ?_)
          clear ex
          refine lv_goto (tgt := 7) hx hb dX11_commonDivisor_31 (by decide) ?_
          exact K7 v3 x1 x2 ls hf (lv_sub hl [2, 1, 0] rfl)
  refine lv_iload_n hx hb dX11_commonDivisor_0 rfl (lv_at hl 0 rfl) ?_
  refine lv_istore_n (lv' := [(2, .int a0), (0, .int a0), (1, .int a1)]) hx hb dX11_commonDivisor_1 rfl hl (by decide) rfl (fun ls hl => ?_)
  refine lv_iload_n hx hb dX11_commonDivisor_2 rfl (lv_at hl 2 rfl) ?_
  refine lv_istore_n (lv' := [(3, .int a1), (2, .int a0), (0, .int a0), (1, .int a1)]) hx hb dX11_commonDivisor_3 rfl hl (by decide) rfl (fun ls hl => ?_)
  refine lv_iconst (v := 0) hx hb dX11_commonDivisor_4 (by decide) ?_
  refine lv_istore (lv' := [(4, .int (0 : Int32)), (3, .int a1), (2, .int a0), (0, .int a0), (1, .int a1)]) hx hb dX11_commonDivisor_5 hl (by decide) rfl (fun ls hl => ?_)
  exact L7 6000 a0 a1 (0 : Int32) ls hf (lv_sub hl [2, 1, 0] rfl)
def fX11_fraction_b40 (v4 : Int32) (w0 : Int32) : Option Int32 := gz v4 (some (w0 / v4))
def fX11_fraction_b29 (v0 : Int32) (v1 : Int32) (v2 : Int32) (w0 : Int32) : Option Int32 := if v2 = 0 then (fX11_fraction_b40 w0 v0) else (fX11_fraction_b40 w0 v1)
def fX11_fraction (a0 : Int32) (a1 : Int32) (a2 : Int32) : Option Int32 := bs (fX11_commonDivisor (if 0 ≤ a0 then a0 else 0 - a0) (if 0 ≤ a1 then a1 else 0 - a1)) (fun r1 => if r1 = 0 then (some (-100000 : Int32)) else (if 0 ≤ a1 then (fX11_fraction_b29 a0 a1 a2 r1) else (fX11_fraction_b29 a0 a1 a2 (-r1))))
set_option maxHeartbeats 4000000 in
set_option maxRecDepth 100000 in
theorem tX11_fraction (l : Launch) (hh : Heap) (a0 : Int32) (a1 : Int32) (a2 : Int32) (rr : Int32) (hf : fX11_fraction a0 a1 a2 = some rr) : Met l yX11_fraction (Cond.code yX11_fraction cX11_fraction 5 (some .int) :: TT) (rmD 1) (sPc [.int a0, .int a1, .int a2] hh) (sQi rr hh) 0 0 (fun _ => False) := by
  refine s_meti (by decide) (Nat.le_of_ble_eq_true rfl) (fun p e s m args below meth c ls E hx hb hr hlocks hown hT hl => ?_)
  replace hl : lv_has ls 5 [(0, .int a0), (1, .int a1), (2, .int a2)] := hl
  unfold fX11_fraction at hf
  have B40 : ∀ (v4 : Int32) (w0 : Int32) (ls : Array Slot), fX11_fraction_b40 v4 w0 = some rr → lv_has ls 5 [(4, .int v4)] → sGi l 1 rr p e s m args below meth c (F0 m 40 ls [.int w0]) := by
    intro v4 w0 ls hf hl
    unfold fX11_fraction_b40 at hf
    refine lv_iload hx hb dX11_fraction_40 (lv_at hl 0 rfl) ?_
    obtain ⟨hz, hf⟩ := gz_some hf
    refine lv_idiv hx hb dX11_fraction_42 hz ?_
    exact s_iret hx hb hr hlocks hf dX11_fraction_43
  have B29 : ∀ (v0 : Int32) (v1 : Int32) (v2 : Int32) (w0 : Int32) (ls : Array Slot), fX11_fraction_b29 v0 v1 v2 w0 = some rr → lv_has ls 5 [(0, .int v0), (1, .int v1), (2, .int v2)] → sGi l 1 rr p e s m args below meth c (F0 m 29 ls [.int w0]) := by
    intro v0 v1 v2 w0 ls hf hl
    unfold fX11_fraction_b29 at hf
    refine lv_istore (lv' := [(4, .int w0), (0, .int v0), (1, .int v1), (2, .int v2)]) hx hb dX11_fraction_29 hl (by decide) rfl (fun ls hl => ?_)
    refine lv_iload_n hx hb dX11_fraction_31 rfl (lv_at hl 3 rfl) ?_
    refine lv_if_eq (tgt := 39) hx hb dX11_fraction_32 (by decide) (fun hc => ?_) (fun hc => ?_)
    · replace hf := it_pos hc hf
      refine lv_iload_n hx hb dX11_fraction_39 rfl (lv_at hl 1 rfl) ?_
      exact B40 w0 v0 ls hf (lv_sub hl [0] rfl)
    · replace hf := it_neg hc hf
      refine lv_iload_n hx hb dX11_fraction_35 rfl (lv_at hl 2 rfl) ?_
      refine lv_goto (tgt := 40) hx hb dX11_fraction_36 (by decide) ?_
      exact B40 w0 v1 ls hf (lv_sub hl [0] rfl)
  refine lv_iload_n hx hb dX11_fraction_0 rfl (lv_at hl 0 rfl) ?_
  refine va_mabs hx hb (E.2.2.1.trans hl.1.symm) hown (hT _ k_967) (hT _ k_917) (hT _ k_15) (hT _ k_918) (Nat.le_of_ble_eq_true rfl) (Nat.le_of_ble_eq_true rfl) (Nat.zero_le _) (Nat.zero_le _) dX11_fraction_1 ?_
  refine lv_iload_n hx hb dX11_fraction_4 rfl (lv_at hl 1 rfl) ?_
  refine va_mabs hx hb (E.2.2.1.trans hl.1.symm) hown (hT _ k_967) (hT _ k_917) (hT _ k_15) (hT _ k_918) (Nat.le_of_ble_eq_true rfl) (Nat.le_of_ble_eq_true rfl) (Nat.zero_le _) (Nat.zero_le _) dX11_fraction_5 ?_
  obtain ⟨r1, hc, hf⟩ := bs_some hf
  refine s_calli (n := 2) (rest := []) E (tX11_commonDivisor l _ (if 0 ≤ a0 then a0 else 0 - a0) (if 0 ≤ a1 then a1 else 0 - a1) r1 hc) (gS k_968 k_969 k_1 k_970) qX11_commonDivisor ⟨Nat.le_of_ble_eq_true rfl, Nat.le_of_ble_eq_true rfl⟩ ⟨Nat.le_refl _, Nat.le_refl _⟩ rfl hl.1 rfl (Nat.le_of_ble_eq_true rfl) dX11_fraction_8 ?_
  refine lv_istore_n (lv' := [(3, .int r1), (0, .int a0), (1, .int a1), (2, .int a2)]) hx hb dX11_fraction_11 rfl hl (by decide) rfl (fun ls hl => ?_)
  refine lv_iload_n hx hb dX11_fraction_12 rfl (lv_at hl 0 rfl) ?_
  refine lv_if_ne (tgt := 19) hx hb dX11_fraction_13 (by decide) (fun hc => ?_) (fun hc => ?_)
  · replace hf := it_neg hc hf
    refine lv_iload_n hx hb dX11_fraction_19 rfl (lv_at hl 2 rfl) ?_
    refine lv_if_ge (tgt := 28) hx hb dX11_fraction_20 (by decide) (fun hc => ?_) (fun hc => ?_)
    · replace hf := it_pos hc hf
      refine lv_iload_n hx hb dX11_fraction_28 rfl (lv_at hl 0 rfl) ?_
      exact B29 a0 a1 a2 r1 ls hf (lv_sub hl [1, 2, 3] rfl)
    · replace hf := it_neg hc hf
      refine lv_iload_n hx hb dX11_fraction_23 rfl (lv_at hl 0 rfl) ?_
      refine lv_ineg hx hb dX11_fraction_24 ?_
      refine lv_goto (tgt := 29) hx hb dX11_fraction_25 (by decide) ?_
      exact B29 a0 a1 a2 (-r1) ls hf (lv_sub hl [1, 2, 3] rfl)
  · replace hf := it_pos hc hf
    refine lv_ldc (v := -100000) hx hb hown (hT _ k_960) dX11_fraction_16 ?_
    exact s_iret hx hb hr hlocks hf dX11_fraction_18
def fX11_game_b39 (fz : List FP) (st : St) : Option (Int32 × St) := some ((-100000 : Int32), st)
def fX11_game_b165 (fz : List FP) (w0 : Int32) (w1 : Int32) (w2 : Int32) (st : St) : Option (Int32 × St) := bs (fX11_fraction w2 w1 w0) (fun r1 => some (r1, st))
def fX11_game_b140 (fz : List FP) (v1 : Int32) (v2 : Int32) (v3 : Int32) (v4 : Int32) (v5 : Int32) (w0 : Int32) (st : St) : Option (Int32 × St) := if (v5 &&& (1 : Int32)) = (1 : Int32) then (fX11_game_b165 fz (1 : Int32) (((v1 - v2) + v4) - v3) w0 st) else (fX11_game_b165 fz (0 : Int32) (((v1 - v2) + v4) - v3) w0 st)
def fX11_game_b119 (fz : List FP) (v1 : Int32) (v2 : Int32) (v3 : Int32) (v4 : Int32) (v5 : Int32) (st : St) : Option (Int32 × St) := if (1 : Int32) < v5 then (fX11_game_b140 fz v1 v2 v3 v4 v5 ((v1 * v4) - (v2 * v3)) st) else (fX11_game_b140 fz v1 v2 v3 v4 v5 (v4 - v3) st)
def fX11_game_b98 (fz : List FP) (v1 : Int32) (v2 : Int32) (v3 : Int32) (v4 : Int32) (v5 : Int32) (st : St) : Option (Int32 × St) := if v3 < v4 then (fX11_game_b119 fz v1 v2 v3 v4 v5 st) else (if v4 < v2 then (fX11_game_b119 fz v1 v2 v3 v4 v5 st) else (bs (fX11_pureRest (0 : Int32) v4 v5) (fun r2 => some (r2, st))))
def fX11_game_b79 (fz : List FP) (v1 : Int32) (v2 : Int32) (v3 : Int32) (v4 : Int32) (v5 : Int32) (st : St) : Option (Int32 × St) := if v4 < v3 then (fX11_game_b98 fz v1 v2 v3 v4 v5 st) else (if v3 < v1 then (fX11_game_b98 fz v1 v2 v3 v4 v5 st) else (bs (fX11_pureRest (0 : Int32) v3 v5) (fun r3 => some (r3, st))))
def fX11_game_b60 (fz : List FP) (v1 : Int32) (v2 : Int32) (v3 : Int32) (v4 : Int32) (v5 : Int32) (st : St) : Option (Int32 × St) := if v1 < v2 then (fX11_game_b79 fz v1 v2 v3 v4 v5 st) else (if v2 < v4 then (fX11_game_b79 fz v1 v2 v3 v4 v5 st) else (bs (fX11_pureRest (1 : Int32) v2 v5) (fun r4 => some (r4, st))))
def fX11_game (a0 : Int32) (a1 : Int32) (a2 : Int32) (a3 : Int32) (a4 : Int32) (fz : List FP) (st : St) : Option (Int32 × St) := bs (fX11_isEntry a0) (fun r5 => if r5 = 0 then (fX11_game_b39 fz st) else (bs (fX11_isEntry a1) (fun r6 => if r6 = 0 then (fX11_game_b39 fz st) else (bs (fX11_isEntry a2) (fun r7 => if r7 = 0 then (fX11_game_b39 fz st) else (bs (fX11_isEntry a3) (fun r8 => if r8 = 0 then (fX11_game_b39 fz st) else (bs (fX11_within a4 (0 : Int32) (3 : Int32)) (fun r9 => if r9 = 0 then (fX11_game_b39 fz st) else (if a1 < a0 then (fX11_game_b60 fz a0 a1 a2 a3 a4 st) else (if a0 < a2 then (fX11_game_b60 fz a0 a1 a2 a3 a4 st) else (bs (fX11_pureRest (1 : Int32) a0 a4) (fun r10 => some (r10, st))))))))))))))
set_option maxHeartbeats 4000000 in
set_option maxRecDepth 100000 in
theorem tX11_game (l : Launch) (D : va_G) (cy : Nat → ClassId) (ad : Nat → Nat) (fz : List FP) (hJ : (cads ad fz).Nodup) (sz : Nat) (a0 : Int32) (a1 : Int32) (a2 : Int32) (a3 : Int32) (a4 : Int32) (st : St) (rr : Int32) (st' : St) (hf : fX11_game a0 a1 a2 a3 a4 fz st = some (rr, st')) : Met l yX11_game (Cond.code yX11_game cX11_game 7 (some .int) :: TT) (rmD 2) (cPc D cy ad fz [.ref (ad 99), .int a0, .int a1, .int a2, .int a3, .int a4] st sz) (cQi D cy ad fz rr st' sz) 0 0 (cA ad fz sz) := by
  refine c_meti (by decide) hJ (Nat.le_of_ble_eq_true rfl) (fun p e s m args below meth c ls E hx hb hr hlocks hown hT hD hN hl hP hS => ?_)
  replace hl : lv_has ls 7 [(0, .ref (ad 99)), (1, .int a0), (2, .int a1), (3, .int a2), (4, .int a3), (5, .int a4)] := hl
  unfold fX11_game at hf
  have B39 : ∀ (st : St) (H : Heap) (locs : List Loc) (ls : Array Slot), fX11_game_b39 fz st = some (rr, st') → lv_has ls 7 [] → va_P D classes (cx cy ad fz st) H → va_S (cA ad fz s.heap.size) s.heap H locs → cGi l 2 D cy ad fz rr st' p e s m args below meth c H locs (F0 m 39 ls []) := by
    intro st H locs ls hf hl hP hS
    unfold fX11_game_b39 at hf
    refine lv_ldc (v := -100000) hx hb hown (hT _ k_960) dX11_game_39 ?_
    exact c_iret hx hb hr hlocks hf hP hS dX11_game_41
  have B165 : ∀ (w0 : Int32) (w1 : Int32) (w2 : Int32) (st : St) (H : Heap) (locs : List Loc) (ls : Array Slot), fX11_game_b165 fz w0 w1 w2 st = some (rr, st') → lv_has ls 7 [] → va_P D classes (cx cy ad fz st) H → va_S (cA ad fz s.heap.size) s.heap H locs → cGi l 2 D cy ad fz rr st' p e s m args below meth c H locs (F0 m 165 ls [.int w0, .int w1, .int w2]) := by
    intro w0 w1 w2 st H locs ls hf hl hP hS
    unfold fX11_game_b165 at hf
    obtain ⟨r1, hc, hf⟩ := bs_some hf
    refine s_calli (n := 3) (rest := []) E.1 (tX11_fraction l _ w2 w1 w0 r1 hc) (gS k_964 k_965 k_1 k_966) qX11_fraction ⟨Nat.le_of_ble_eq_true rfl, Nat.le_of_ble_eq_true rfl⟩ ⟨Nat.le_refl _, Nat.le_refl _⟩ rfl hl.1 rfl (Nat.le_of_ble_eq_true rfl) dX11_game_165 ?_
    exact c_iret hx hb hr hlocks hf hP hS dX11_game_168
  have B140 : ∀ (v1 : Int32) (v2 : Int32) (v3 : Int32) (v4 : Int32) (v5 : Int32) (w0 : Int32) (st : St) (H : Heap) (locs : List Loc) (ls : Array Slot), fX11_game_b140 fz v1 v2 v3 v4 v5 w0 st = some (rr, st') → lv_has ls 7 [(1, .int v1), (2, .int v2), (3, .int v3), (4, .int v4), (5, .int v5)] → va_P D classes (cx cy ad fz st) H → va_S (cA ad fz s.heap.size) s.heap H locs → cGi l 2 D cy ad fz rr st' p e s m args below meth c H locs (F0 m 140 ls [.int w0]) := by
    intro v1 v2 v3 v4 v5 w0 st H locs ls hf hl hP hS
    unfold fX11_game_b140 at hf
    refine lv_istore (lv' := [(6, .int w0), (1, .int v1), (2, .int v2), (3, .int v3), (4, .int v4), (5, .int v5)]) hx hb dX11_game_140 hl (by decide) rfl (fun ls hl => ?_)
    refine lv_iload hx hb dX11_game_142 (lv_at hl 0 rfl) ?_
    refine lv_iload_n hx hb dX11_game_144 rfl (lv_at hl 1 rfl) ?_
    refine lv_iload_n hx hb dX11_game_145 rfl (lv_at hl 2 rfl) ?_
    refine lv_isub hx hb dX11_game_146 ?_
    refine lv_iload hx hb dX11_game_147 (lv_at hl 4 rfl) ?_
    refine lv_iadd hx hb dX11_game_149 ?_
    refine lv_iload_n hx hb dX11_game_150 rfl (lv_at hl 3 rfl) ?_
    refine lv_isub hx hb dX11_game_151 ?_
    refine lv_iload hx hb dX11_game_152 (lv_at hl 5 rfl) ?_
    refine lv_iconst (v := 1) hx hb dX11_game_154 (by decide) ?_
    refine lv_iand hx hb dX11_game_155 ?_
    refine lv_iconst (v := 1) hx hb dX11_game_156 (by decide) ?_
    refine lv_icmp_ne (tgt := 164) hx hb dX11_game_157 (by decide) (fun hc => ?_) (fun hc => ?_)
    · replace hf := it_neg hc hf
      refine lv_iconst (v := 0) hx hb dX11_game_164 (by decide) ?_
      exact B165 (0 : Int32) (((v1 - v2) + v4) - v3) w0 st _ _ ls hf (lv_sub hl [] rfl) hP hS
    · replace hf := it_pos hc hf
      refine lv_iconst (v := 1) hx hb dX11_game_160 (by decide) ?_
      refine lv_goto (tgt := 165) hx hb dX11_game_161 (by decide) ?_
      exact B165 (1 : Int32) (((v1 - v2) + v4) - v3) w0 st _ _ ls hf (lv_sub hl [] rfl) hP hS
  have B119 : ∀ (v1 : Int32) (v2 : Int32) (v3 : Int32) (v4 : Int32) (v5 : Int32) (st : St) (H : Heap) (locs : List Loc) (ls : Array Slot), fX11_game_b119 fz v1 v2 v3 v4 v5 st = some (rr, st') → lv_has ls 7 [(1, .int v1), (2, .int v2), (3, .int v3), (4, .int v4), (5, .int v5)] → va_P D classes (cx cy ad fz st) H → va_S (cA ad fz s.heap.size) s.heap H locs → cGi l 2 D cy ad fz rr st' p e s m args below meth c H locs (F0 m 119 ls []) := by
    intro v1 v2 v3 v4 v5 st H locs ls hf hl hP hS
    unfold fX11_game_b119 at hf
    refine lv_iload hx hb dX11_game_119 (lv_at hl 4 rfl) ?_
    refine lv_iconst (v := 1) hx hb dX11_game_121 (by decide) ?_
    refine lv_icmp_gt (tgt := 132) hx hb dX11_game_122 (by decide) (fun hc => ?_) (fun hc => ?_)
    · replace hf := it_pos hc hf
      refine lv_iload_n hx hb dX11_game_132 rfl (lv_at hl 0 rfl) ?_
      refine lv_iload hx hb dX11_game_133 (lv_at hl 3 rfl) ?_
      refine lv_imul hx hb dX11_game_135 ?_
      refine lv_iload_n hx hb dX11_game_136 rfl (lv_at hl 1 rfl) ?_
      refine lv_iload_n hx hb dX11_game_137 rfl (lv_at hl 2 rfl) ?_
      refine lv_imul hx hb dX11_game_138 ?_
      refine lv_isub hx hb dX11_game_139 ?_
      exact B140 v1 v2 v3 v4 v5 ((v1 * v4) - (v2 * v3)) st _ _ ls hf hl hP hS
    · replace hf := it_neg hc hf
      refine lv_iload hx hb dX11_game_125 (lv_at hl 3 rfl) ?_
      refine lv_iload_n hx hb dX11_game_127 rfl (lv_at hl 2 rfl) ?_
      refine lv_isub hx hb dX11_game_128 ?_
      refine lv_goto (tgt := 140) hx hb dX11_game_129 (by decide) ?_
      exact B140 v1 v2 v3 v4 v5 (v4 - v3) st _ _ ls hf hl hP hS
  have B98 : ∀ (v1 : Int32) (v2 : Int32) (v3 : Int32) (v4 : Int32) (v5 : Int32) (st : St) (H : Heap) (locs : List Loc) (ls : Array Slot), fX11_game_b98 fz v1 v2 v3 v4 v5 st = some (rr, st') → lv_has ls 7 [(1, .int v1), (2, .int v2), (3, .int v3), (4, .int v4), (5, .int v5)] → va_P D classes (cx cy ad fz st) H → va_S (cA ad fz s.heap.size) s.heap H locs → cGi l 2 D cy ad fz rr st' p e s m args below meth c H locs (F0 m 98 ls []) := by
    intro v1 v2 v3 v4 v5 st H locs ls hf hl hP hS
    unfold fX11_game_b98 at hf
    refine lv_iload hx hb dX11_game_98 (lv_at hl 3 rfl) ?_
    refine lv_iload_n hx hb dX11_game_100 rfl (lv_at hl 2 rfl) ?_
    refine lv_icmp_gt (tgt := 119) hx hb dX11_game_101 (by decide) (fun hc => ?_) (fun hc => ?_)
    · replace hf := it_pos hc hf
      exact B119 v1 v2 v3 v4 v5 st _ _ ls hf hl hP hS
    · replace hf := it_neg hc hf
      refine lv_iload hx hb dX11_game_104 (lv_at hl 3 rfl) ?_
      refine lv_iload_n hx hb dX11_game_106 rfl (lv_at hl 1 rfl) ?_
      refine lv_icmp_lt (tgt := 119) hx hb dX11_game_107 (by decide) (fun hc => ?_) (fun hc => ?_)
      · replace hf := it_pos hc hf
        exact B119 v1 v2 v3 v4 v5 st _ _ ls hf hl hP hS
      · replace hf := it_neg hc hf
        refine lv_iconst (v := 0) hx hb dX11_game_110 (by decide) ?_
        refine lv_iload hx hb dX11_game_111 (lv_at hl 3 rfl) ?_
        refine lv_iload hx hb dX11_game_113 (lv_at hl 4 rfl) ?_
        obtain ⟨r2, hc, hf⟩ := bs_some hf
        refine s_calli (n := 3) (rest := []) E.1 (tX11_pureRest l _ (0 : Int32) v4 v5 r2 hc) (gS k_961 k_962 k_1 k_963) qX11_pureRest ⟨Nat.le_of_ble_eq_true rfl, Nat.le_of_ble_eq_true rfl⟩ ⟨Nat.le_refl _, Nat.le_refl _⟩ rfl hl.1 rfl (Nat.le_of_ble_eq_true rfl) dX11_game_115 ?_
        exact c_iret hx hb hr hlocks hf hP hS dX11_game_118
  have B79 : ∀ (v1 : Int32) (v2 : Int32) (v3 : Int32) (v4 : Int32) (v5 : Int32) (st : St) (H : Heap) (locs : List Loc) (ls : Array Slot), fX11_game_b79 fz v1 v2 v3 v4 v5 st = some (rr, st') → lv_has ls 7 [(1, .int v1), (2, .int v2), (3, .int v3), (4, .int v4), (5, .int v5)] → va_P D classes (cx cy ad fz st) H → va_S (cA ad fz s.heap.size) s.heap H locs → cGi l 2 D cy ad fz rr st' p e s m args below meth c H locs (F0 m 79 ls []) := by
    intro v1 v2 v3 v4 v5 st H locs ls hf hl hP hS
    unfold fX11_game_b79 at hf
    refine lv_iload_n hx hb dX11_game_79 rfl (lv_at hl 2 rfl) ?_
    refine lv_iload hx hb dX11_game_80 (lv_at hl 3 rfl) ?_
    refine lv_icmp_gt (tgt := 98) hx hb dX11_game_82 (by decide) (fun hc => ?_) (fun hc => ?_)
    · replace hf := it_pos hc hf
      exact B98 v1 v2 v3 v4 v5 st _ _ ls hf hl hP hS
    · replace hf := it_neg hc hf
      refine lv_iload_n hx hb dX11_game_85 rfl (lv_at hl 2 rfl) ?_
      refine lv_iload_n hx hb dX11_game_86 rfl (lv_at hl 0 rfl) ?_
      refine lv_icmp_lt (tgt := 98) hx hb dX11_game_87 (by decide) (fun hc => ?_) (fun hc => ?_)
      · replace hf := it_pos hc hf
        exact B98 v1 v2 v3 v4 v5 st _ _ ls hf hl hP hS
      · replace hf := it_neg hc hf
        refine lv_iconst (v := 0) hx hb dX11_game_90 (by decide) ?_
        refine lv_iload_n hx hb dX11_game_91 rfl (lv_at hl 2 rfl) ?_
        refine lv_iload hx hb dX11_game_92 (lv_at hl 4 rfl) ?_
        obtain ⟨r3, hc, hf⟩ := bs_some hf
        refine s_calli (n := 3) (rest := []) E.1 (tX11_pureRest l _ (0 : Int32) v3 v5 r3 hc) (gS k_961 k_962 k_1 k_963) qX11_pureRest ⟨Nat.le_of_ble_eq_true rfl, Nat.le_of_ble_eq_true rfl⟩ ⟨Nat.le_refl _, Nat.le_refl _⟩ rfl hl.1 rfl (Nat.le_of_ble_eq_true rfl) dX11_game_94 ?_
        exact c_iret hx hb hr hlocks hf hP hS dX11_game_97
  have B60 : ∀ (v1 : Int32) (v2 : Int32) (v3 : Int32) (v4 : Int32) (v5 : Int32) (st : St) (H : Heap) (locs : List Loc) (ls : Array Slot), fX11_game_b60 fz v1 v2 v3 v4 v5 st = some (rr, st') → lv_has ls 7 [(1, .int v1), (2, .int v2), (3, .int v3), (4, .int v4), (5, .int v5)] → va_P D classes (cx cy ad fz st) H → va_S (cA ad fz s.heap.size) s.heap H locs → cGi l 2 D cy ad fz rr st' p e s m args below meth c H locs (F0 m 60 ls []) := by
    intro v1 v2 v3 v4 v5 st H locs ls hf hl hP hS
    unfold fX11_game_b60 at hf
    refine lv_iload_n hx hb dX11_game_60 rfl (lv_at hl 1 rfl) ?_
    refine lv_iload_n hx hb dX11_game_61 rfl (lv_at hl 0 rfl) ?_
    refine lv_icmp_gt (tgt := 79) hx hb dX11_game_62 (by decide) (fun hc => ?_) (fun hc => ?_)
    · replace hf := it_pos hc hf
      exact B79 v1 v2 v3 v4 v5 st _ _ ls hf hl hP hS
    · replace hf := it_neg hc hf
      refine lv_iload_n hx hb dX11_game_65 rfl (lv_at hl 1 rfl) ?_
      refine lv_iload hx hb dX11_game_66 (lv_at hl 3 rfl) ?_
      refine lv_icmp_lt (tgt := 79) hx hb dX11_game_68 (by decide) (fun hc => ?_) (fun hc => ?_)
      · replace hf := it_pos hc hf
        exact B79 v1 v2 v3 v4 v5 st _ _ ls hf hl hP hS
      · replace hf := it_neg hc hf
        refine lv_iconst (v := 1) hx hb dX11_game_71 (by decide) ?_
        refine lv_iload_n hx hb dX11_game_72 rfl (lv_at hl 1 rfl) ?_
        refine lv_iload hx hb dX11_game_73 (lv_at hl 4 rfl) ?_
        obtain ⟨r4, hc, hf⟩ := bs_some hf
        refine s_calli (n := 3) (rest := []) E.1 (tX11_pureRest l _ (1 : Int32) v2 v5 r4 hc) (gS k_961 k_962 k_1 k_963) qX11_pureRest ⟨Nat.le_of_ble_eq_true rfl, Nat.le_of_ble_eq_true rfl⟩ ⟨Nat.le_refl _, Nat.le_refl _⟩ rfl hl.1 rfl (Nat.le_of_ble_eq_true rfl) dX11_game_75 ?_
        exact c_iret hx hb hr hlocks hf hP hS dX11_game_78
  refine lv_iload_n hx hb dX11_game_0 rfl (lv_at hl 1 rfl) ?_
  obtain ⟨r5, hc, hf⟩ := bs_some hf
  refine s_calli (n := 1) (rest := []) E.1 (tX11_isEntry l _ a0 r5 hc) (gS k_957 k_958 k_1 k_959) qX11_isEntry ⟨Nat.le_of_ble_eq_true rfl, Nat.le_of_ble_eq_true rfl⟩ ⟨Nat.le_refl _, Nat.le_refl _⟩ rfl hl.1 rfl (Nat.le_of_ble_eq_true rfl) dX11_game_1 ?_
  refine lv_if_eq (tgt := 39) hx hb dX11_game_4 (by decide) (fun hc => ?_) (fun hc => ?_)
  · replace hf := it_pos hc hf
    exact B39 st _ _ ls hf (lv_sub hl [] rfl) hP hS
  · replace hf := it_neg hc hf
    refine lv_iload_n hx hb dX11_game_7 rfl (lv_at hl 2 rfl) ?_
    obtain ⟨r6, hc, hf⟩ := bs_some hf
    refine s_calli (n := 1) (rest := []) E.1 (tX11_isEntry l _ a1 r6 hc) (gS k_957 k_958 k_1 k_959) qX11_isEntry ⟨Nat.le_of_ble_eq_true rfl, Nat.le_of_ble_eq_true rfl⟩ ⟨Nat.le_refl _, Nat.le_refl _⟩ rfl hl.1 rfl (Nat.le_of_ble_eq_true rfl) dX11_game_8 ?_
    refine lv_if_eq (tgt := 39) hx hb dX11_game_11 (by decide) (fun hc => ?_) (fun hc => ?_)
    · replace hf := it_pos hc hf
      exact B39 st _ _ ls hf (lv_sub hl [] rfl) hP hS
    · replace hf := it_neg hc hf
      refine lv_iload_n hx hb dX11_game_14 rfl (lv_at hl 3 rfl) ?_
      obtain ⟨r7, hc, hf⟩ := bs_some hf
      refine s_calli (n := 1) (rest := []) E.1 (tX11_isEntry l _ a2 r7 hc) (gS k_957 k_958 k_1 k_959) qX11_isEntry ⟨Nat.le_of_ble_eq_true rfl, Nat.le_of_ble_eq_true rfl⟩ ⟨Nat.le_refl _, Nat.le_refl _⟩ rfl hl.1 rfl (Nat.le_of_ble_eq_true rfl) dX11_game_15 ?_
      refine lv_if_eq (tgt := 39) hx hb dX11_game_18 (by decide) (fun hc => ?_) (fun hc => ?_)
      · replace hf := it_pos hc hf
        exact B39 st _ _ ls hf (lv_sub hl [] rfl) hP hS
      · replace hf := it_neg hc hf
        refine lv_iload hx hb dX11_game_21 (lv_at hl 4 rfl) ?_
        obtain ⟨r8, hc, hf⟩ := bs_some hf
        refine s_calli (n := 1) (rest := []) E.1 (tX11_isEntry l _ a3 r8 hc) (gS k_957 k_958 k_1 k_959) qX11_isEntry ⟨Nat.le_of_ble_eq_true rfl, Nat.le_of_ble_eq_true rfl⟩ ⟨Nat.le_refl _, Nat.le_refl _⟩ rfl hl.1 rfl (Nat.le_of_ble_eq_true rfl) dX11_game_23 ?_
        refine lv_if_eq (tgt := 39) hx hb dX11_game_26 (by decide) (fun hc => ?_) (fun hc => ?_)
        · replace hf := it_pos hc hf
          exact B39 st _ _ ls hf (lv_sub hl [] rfl) hP hS
        · replace hf := it_neg hc hf
          refine lv_iload hx hb dX11_game_29 (lv_at hl 5 rfl) ?_
          refine lv_iconst (v := 0) hx hb dX11_game_31 (by decide) ?_
          refine lv_iconst (v := 3) hx hb dX11_game_32 (by decide) ?_
          obtain ⟨r9, hc, hf⟩ := bs_some hf
          refine s_calli (n := 3) (rest := []) E.1 (tX11_within l _ a4 (0 : Int32) (3 : Int32) r9 hc) (gS k_472 k_458 k_1 k_459) qX11_within ⟨Nat.le_of_ble_eq_true rfl, Nat.le_of_ble_eq_true rfl⟩ ⟨Nat.le_refl _, Nat.le_refl _⟩ rfl hl.1 rfl (Nat.le_of_ble_eq_true rfl) dX11_game_33 ?_
          refine lv_if_ne (tgt := 42) hx hb dX11_game_36 (by decide) (fun hc => ?_) (fun hc => ?_)
          · replace hf := it_neg hc hf
            refine lv_iload_n hx hb dX11_game_42 rfl (lv_at hl 1 rfl) ?_
            refine lv_iload_n hx hb dX11_game_43 rfl (lv_at hl 2 rfl) ?_
            refine lv_icmp_gt (tgt := 60) hx hb dX11_game_44 (by decide) (fun hc => ?_) (fun hc => ?_)
            · replace hf := it_pos hc hf
              exact B60 a0 a1 a2 a3 a4 st _ _ ls hf (lv_sub hl [1, 2, 3, 4, 5] rfl) hP hS
            · replace hf := it_neg hc hf
              refine lv_iload_n hx hb dX11_game_47 rfl (lv_at hl 1 rfl) ?_
              refine lv_iload_n hx hb dX11_game_48 rfl (lv_at hl 3 rfl) ?_
              refine lv_icmp_lt (tgt := 60) hx hb dX11_game_49 (by decide) (fun hc => ?_) (fun hc => ?_)
              · replace hf := it_pos hc hf
                exact B60 a0 a1 a2 a3 a4 st _ _ ls hf (lv_sub hl [1, 2, 3, 4, 5] rfl) hP hS
              · replace hf := it_neg hc hf
                refine lv_iconst (v := 1) hx hb dX11_game_52 (by decide) ?_
                refine lv_iload_n hx hb dX11_game_53 rfl (lv_at hl 1 rfl) ?_
                refine lv_iload hx hb dX11_game_54 (lv_at hl 5 rfl) ?_
                obtain ⟨r10, hc, hf⟩ := bs_some hf
                refine s_calli (n := 3) (rest := []) E.1 (tX11_pureRest l _ (1 : Int32) a0 a4 r10 hc) (gS k_961 k_962 k_1 k_963) qX11_pureRest ⟨Nat.le_of_ble_eq_true rfl, Nat.le_of_ble_eq_true rfl⟩ ⟨Nat.le_refl _, Nat.le_refl _⟩ rfl hl.1 rfl (Nat.le_of_ble_eq_true rfl) dX11_game_56 ?_
                exact c_iret hx hb hr hlocks hf hP hS dX11_game_59
          · replace hf := it_pos hc hf
            exact B39 st _ _ ls hf (lv_sub hl [] rfl) hP hS
def fX1_add (a0 : Int32) (a1 : Int32) (a2 : Int32) (fz : List FP) (st : St) : Option (Int32 × St) := if (st.1 404) < (8 : Int32) then (gi (st.1 404) 8 (lt (sA st 400 (upd (st.2.2.1 400) (st.1 404).toNatClampNeg a0)) (fun st1 => gi (st1.1 404) 8 (lt (sA st1 401 (upd (st1.2.2.1 401) (st1.1 404).toNatClampNeg a1)) (fun st2 => gi (st2.1 404) 8 (lt (sA st2 402 (upd (st2.2.2.1 402) (st2.1 404).toNatClampNeg a2)) (fun st3 => lt (sI st3 404 ((st3.1 404) + (1 : Int32))) (fun st4 => some (((st4.1 404) - (1 : Int32)), st4))))))))) else (some ((-5 : Int32), st))
set_option maxHeartbeats 4000000 in
set_option maxRecDepth 100000 in
theorem tX1_add (l : Launch) (D : va_G) (cy : Nat → ClassId) (ad : Nat → Nat) (fz : List FP) (hJ : (cads ad fz).Nodup) (sz : Nat) (a0 : Int32) (a1 : Int32) (a2 : Int32) (st : St) (rr : Int32) (st' : St) (hf : fX1_add a0 a1 a2 fz st = some (rr, st')) : Met l yX1_add (Cond.code yX1_add cX1_add 4 (some .int) :: TT) (rmD 0) (cPc D cy ad fz [.ref (ad 499), .int a0, .int a1, .int a2] st sz) (cQi D cy ad fz rr st' sz) 0 0 (cA ad fz sz) := by
  refine c_meti (by decide) hJ (Nat.le_of_ble_eq_true rfl) (fun p e s m args below meth c ls E hx hb hr hlocks hown hT hD hN hl hP hS => ?_)
  replace hl : lv_has ls 4 [(0, .ref (ad 499)), (1, .int a0), (2, .int a1), (3, .int a2)] := hl
  unfold fX1_add at hf
  refine lv_aload_n hx hb dX1_add_0 rfl (lv_at hl 0 rfl) ?_
  refine cg_1_30_4 E hP dX1_add_1 ?_
  refine lv_bipush (v := 8) hx hb dX1_add_4 (by decide) ?_
  refine lv_icmp_lt (tgt := 12) hx hb dX1_add_6 (by decide) (fun hc => ?_) (fun hc => ?_)
  · replace hf := it_pos hc hf
    refine lv_aload_n hx hb dX1_add_12 rfl (lv_at hl 0 rfl) ?_
    refine cg_1_11_4 E hP dX1_add_13 ?_
    refine lv_aload_n hx hb dX1_add_16 rfl (lv_at hl 0 rfl) ?_
    refine cg_1_30_4 E hP dX1_add_17 ?_
    refine lv_iload_n hx hb dX1_add_20 rfl (lv_at hl 1 rfl) ?_
    obtain ⟨hi, hf⟩ := gi_some hf
    refine cs_400 E hD hP hS hi dX1_add_21 (fun st1 H locs ex hP hS => ?_)
    replace hf := lt_at ex hf; clear ex
    refine lv_aload_n hx hb dX1_add_22 rfl (lv_at hl 0 rfl) ?_
    refine cg_1_15_4 E hP dX1_add_23 ?_
    refine lv_aload_n hx hb dX1_add_26 rfl (lv_at hl 0 rfl) ?_
    refine cg_1_30_4 E hP dX1_add_27 ?_
    refine lv_iload_n hx hb dX1_add_30 rfl (lv_at hl 2 rfl) ?_
    obtain ⟨hi, hf⟩ := gi_some hf
    refine cs_401 E hD hP hS hi dX1_add_31 (fun st2 H locs ex hP hS => ?_)
    replace hf := lt_at ex hf; clear ex
    refine lv_aload_n hx hb dX1_add_32 rfl (lv_at hl 0 rfl) ?_
    refine cg_1_18_4 E hP dX1_add_33 ?_
    refine lv_aload_n hx hb dX1_add_36 rfl (lv_at hl 0 rfl) ?_
    refine cg_1_30_4 E hP dX1_add_37 ?_
    refine lv_iload_n hx hb dX1_add_40 rfl (lv_at hl 3 rfl) ?_
    obtain ⟨hi, hf⟩ := gi_some hf
    refine cs_402 E hD hP hS hi dX1_add_41 (fun st3 H locs ex hP hS => ?_)
    replace hf := lt_at ex hf; clear ex
    refine lv_aload_n hx hb dX1_add_42 rfl (lv_at hl 0 rfl) ?_
    refine lv_dup hx hb dX1_add_43 rfl ?_
    refine cg_1_30_4 E hP dX1_add_44 ?_
    refine lv_iconst (v := 1) hx hb dX1_add_47 (by decide) ?_
    refine lv_iadd hx hb dX1_add_48 ?_
    refine cp_1_30_4 E hD hP hS dX1_add_49 (fun st4 H locs ex hP hS => ?_)
    replace hf := lt_at ex hf; clear ex
    refine lv_aload_n hx hb dX1_add_52 rfl (lv_at hl 0 rfl) ?_
    refine cg_1_30_4 E hP dX1_add_53 ?_
    refine lv_iconst (v := 1) hx hb dX1_add_56 (by decide) ?_
    refine lv_isub hx hb dX1_add_57 ?_
    exact c_iret hx hb hr hlocks hf hP hS dX1_add_58
  · replace hf := it_neg hc hf
    refine lv_bipush (v := -5) hx hb dX1_add_9 (by decide) ?_
    exact c_iret hx hb hr hlocks hf hP hS dX1_add_11
def fX11_siege_b31 (fz : List FP) (st : St) : Option (Int32 × St) := bd (fX11_refuse (-1 : Int32) fz st) (fun r1 st2 => some (r1, st2))
def fX11_siege (a0 : Int32) (a1 : Int32) (a2 : Int32) (fz : List FP) (st : St) : Option (Int32 × St) := bs (fX11_within a0 (0 : Int32) (99 : Int32)) (fun r3 => if r3 = 0 then (fX11_siege_b31 fz st) else (bs (fX11_within a1 (0 : Int32) (10 : Int32)) (fun r4 => if r4 = 0 then (fX11_siege_b31 fz st) else (bs (fX11_within a2 (0 : Int32) (999 : Int32)) (fun r5 => if r5 = 0 then (fX11_siege_b31 fz st) else (bd (fX1_add a0 a1 a2 fz st) (fun r6 st7 => bd (fX11_settle r6 fz st7) (fun r8 st9 => some (r8, st9)))))))))
set_option maxHeartbeats 4000000 in
set_option maxRecDepth 100000 in
theorem tX11_siege (l : Launch) (D : va_G) (cy : Nat → ClassId) (ad : Nat → Nat) (fz : List FP) (hJ : (cads ad fz).Nodup) (sz : Nat) (a0 : Int32) (a1 : Int32) (a2 : Int32) (st : St) (rr : Int32) (st' : St) (hf : fX11_siege a0 a1 a2 fz st = some (rr, st')) : Met l yX11_siege (Cond.code yX11_siege cX11_siege 4 (some .int) :: TT) (rmD 3) (cPc D cy ad fz [.ref (ad 99), .int a0, .int a1, .int a2] st sz) (cQi D cy ad fz rr st' sz) 0 0 (cA ad fz sz) := by
  refine c_meti (by decide) hJ (Nat.le_of_ble_eq_true rfl) (fun p e s m args below meth c ls E hx hb hr hlocks hown hT hD hN hl hP hS => ?_)
  replace hl : lv_has ls 4 [(0, .ref (ad 99)), (1, .int a0), (2, .int a1), (3, .int a2)] := hl
  unfold fX11_siege at hf
  have B31 : ∀ (st : St) (H : Heap) (locs : List Loc) (ls : Array Slot), fX11_siege_b31 fz st = some (rr, st') → lv_has ls 4 [(0, .ref (ad 99))] → va_P D classes (cx cy ad fz st) H → va_S (cA ad fz s.heap.size) s.heap H locs → cGi l 3 D cy ad fz rr st' p e s m args below meth c H locs (F0 m 31 ls []) := by
    intro st H locs ls hf hl hP hS
    unfold fX11_siege_b31 at hf
    refine lv_aload_n hx hb dX11_siege_31 rfl (lv_at hl 0 rfl) ?_
    refine lv_iconst (v := -1) hx hb dX11_siege_32 (by decide) ?_
    obtain ⟨r1, st2, hc, hf⟩ := bd_some hf
    refine c_calli (n := 1) (rest := []) E hN hP hS (fun sz => tX11_refuse l D cy ad fz hJ sz (-1 : Int32) st r1 st2 hc) (va_recv E.2 hP (ci := 11) (q0 := 0) rfl rfl) (gV k_468 k_470 ks_1 k_1 k_471) qX11_refuse ⟨Nat.le_of_ble_eq_true rfl, Nat.le_of_ble_eq_true rfl⟩ ⟨Nat.le_refl _, Nat.le_refl _⟩ rfl hl.1 rfl (Nat.le_of_ble_eq_true rfl) dX11_siege_33 (fun H locs hP hS => ?_)
    exact c_iret hx hb hr hlocks hf hP hS dX11_siege_36
  refine lv_iload_n hx hb dX11_siege_0 rfl (lv_at hl 1 rfl) ?_
  refine lv_iconst (v := 0) hx hb dX11_siege_1 (by decide) ?_
  refine lv_bipush (v := 99) hx hb dX11_siege_2 (by decide) ?_
  obtain ⟨r3, hc, hf⟩ := bs_some hf
  refine s_calli (n := 3) (rest := []) E.1 (tX11_within l _ a0 (0 : Int32) (99 : Int32) r3 hc) (gS k_472 k_458 k_1 k_459) qX11_within ⟨Nat.le_of_ble_eq_true rfl, Nat.le_of_ble_eq_true rfl⟩ ⟨Nat.le_refl _, Nat.le_refl _⟩ rfl hl.1 rfl (Nat.le_of_ble_eq_true rfl) dX11_siege_4 ?_
  refine lv_if_eq (tgt := 31) hx hb dX11_siege_7 (by decide) (fun hc => ?_) (fun hc => ?_)
  · replace hf := it_pos hc hf
    exact B31 st _ _ ls hf (lv_sub hl [0] rfl) hP hS
  · replace hf := it_neg hc hf
    refine lv_iload_n hx hb dX11_siege_10 rfl (lv_at hl 2 rfl) ?_
    refine lv_iconst (v := 0) hx hb dX11_siege_11 (by decide) ?_
    refine lv_bipush (v := 10) hx hb dX11_siege_12 (by decide) ?_
    obtain ⟨r4, hc, hf⟩ := bs_some hf
    refine s_calli (n := 3) (rest := []) E.1 (tX11_within l _ a1 (0 : Int32) (10 : Int32) r4 hc) (gS k_472 k_458 k_1 k_459) qX11_within ⟨Nat.le_of_ble_eq_true rfl, Nat.le_of_ble_eq_true rfl⟩ ⟨Nat.le_refl _, Nat.le_refl _⟩ rfl hl.1 rfl (Nat.le_of_ble_eq_true rfl) dX11_siege_14 ?_
    refine lv_if_eq (tgt := 31) hx hb dX11_siege_17 (by decide) (fun hc => ?_) (fun hc => ?_)
    · replace hf := it_pos hc hf
      exact B31 st _ _ ls hf (lv_sub hl [0] rfl) hP hS
    · replace hf := it_neg hc hf
      refine lv_iload_n hx hb dX11_siege_20 rfl (lv_at hl 3 rfl) ?_
      refine lv_iconst (v := 0) hx hb dX11_siege_21 (by decide) ?_
      refine lv_sipush (v := 999) hx hb dX11_siege_22 (by decide) ?_
      obtain ⟨r5, hc, hf⟩ := bs_some hf
      refine s_calli (n := 3) (rest := []) E.1 (tX11_within l _ a2 (0 : Int32) (999 : Int32) r5 hc) (gS k_472 k_458 k_1 k_459) qX11_within ⟨Nat.le_of_ble_eq_true rfl, Nat.le_of_ble_eq_true rfl⟩ ⟨Nat.le_refl _, Nat.le_refl _⟩ rfl hl.1 rfl (Nat.le_of_ble_eq_true rfl) dX11_siege_25 ?_
      refine lv_if_ne (tgt := 37) hx hb dX11_siege_28 (by decide) (fun hc => ?_) (fun hc => ?_)
      · replace hf := it_neg hc hf
        refine lv_aload_n hx hb dX11_siege_37 rfl (lv_at hl 0 rfl) ?_
        refine lv_aload_n hx hb dX11_siege_38 rfl (lv_at hl 0 rfl) ?_
        refine cg_11_10_0 E hP dX11_siege_39 ?_
        refine cg_11_251_1 E hP dX11_siege_42 ?_
        refine lv_iload_n hx hb dX11_siege_45 rfl (lv_at hl 1 rfl) ?_
        refine lv_iload_n hx hb dX11_siege_46 rfl (lv_at hl 2 rfl) ?_
        refine lv_iload_n hx hb dX11_siege_47 rfl (lv_at hl 3 rfl) ?_
        obtain ⟨r6, st7, hc, hf⟩ := bd_some hf
        refine c_calli (n := 3) (rest := [.ref (ad 99)]) E hN hP hS (fun sz => tX1_add l D cy ad fz hJ sz a0 a1 a2 st r6 st7 hc) (va_recv E.2 hP (ci := 1) (q0 := 20) rfl rfl) (gV k_975 k_976 k_977 k_5 k_978) qX1_add ⟨Nat.le_of_ble_eq_true rfl, Nat.le_of_ble_eq_true rfl⟩ ⟨Nat.le_refl _, Nat.le_refl _⟩ rfl hl.1 rfl (Nat.le_of_ble_eq_true rfl) dX11_siege_48 (fun H locs hP hS => ?_)
        obtain ⟨r8, st9, hc, hf⟩ := bd_some hf
        refine c_calli (n := 1) (rest := []) E hN hP hS (fun sz => tX11_settle l D cy ad fz hJ sz r6 st7 r8 st9 hc) (va_recv E.2 hP (ci := 11) (q0 := 0) rfl rfl) (gV k_464 k_466 ks_0 k_1 k_467) qX11_settle ⟨Nat.le_of_ble_eq_true rfl, Nat.le_of_ble_eq_true rfl⟩ ⟨Nat.le_refl _, Nat.le_refl _⟩ rfl hl.1 rfl (Nat.le_of_ble_eq_true rfl) dX11_siege_51 (fun H locs hP hS => ?_)
        exact c_iret hx hb hr hlocks hf hP hS dX11_siege_54
      · replace hf := it_pos hc hf
        exact B31 st _ _ ls hf (lv_sub hl [0] rfl) hP hS
def fJ7_rangeCheck_23922 (a0 : Int32) (a1 : Int32) (a2 : Int32) : Option Unit := if a1 ≤ a2 then (if 0 ≤ a1 then (if a2 ≤ a0 then (some ()) else (none)) else (none)) else (none)
set_option maxHeartbeats 4000000 in
set_option maxRecDepth 100000 in
theorem tJ7_rangeCheck_23922 (l : Launch) (hh : Heap) (a0 : Int32) (a1 : Int32) (a2 : Int32) (rr : Unit) (hf : fJ7_rangeCheck_23922 a0 a1 a2 = some rr) : Met l yJ7_rangeCheck_23922 (Cond.code yJ7_rangeCheck_23922 cJ7_rangeCheck_23922 3 none :: TT) (rmD 0) (sPc [.int a0, .int a1, .int a2] hh) (sQv rr hh) 0 0 (fun _ => False) := by
  refine s_metv (by decide) (Nat.le_of_ble_eq_true rfl) (fun p e s m args below meth c ls E hx hb hr hlocks hown hT hl => ?_)
  replace hl : lv_has ls 3 [(0, .int a0), (1, .int a1), (2, .int a2)] := hl
  unfold fJ7_rangeCheck_23922 at hf
  refine lv_iload_n hx hb dJ7_rangeCheck_23922_0 rfl (lv_at hl 1 rfl) ?_
  refine lv_iload_n hx hb dJ7_rangeCheck_23922_1 rfl (lv_at hl 2 rfl) ?_
  refine lv_icmp_le (tgt := 46) hx hb dJ7_rangeCheck_23922_2 (by decide) (fun hc => ?_) (fun hc => ?_)
  · replace hf := it_pos hc hf
    refine lv_iload_n hx hb dJ7_rangeCheck_23922_46 rfl (lv_at hl 1 rfl) ?_
    refine lv_if_ge (tgt := 59) hx hb dJ7_rangeCheck_23922_47 (by decide) (fun hc => ?_) (fun hc => ?_)
    · replace hf := it_pos hc hf
      refine lv_iload_n hx hb dJ7_rangeCheck_23922_59 rfl (lv_at hl 2 rfl) ?_
      refine lv_iload_n hx hb dJ7_rangeCheck_23922_60 rfl (lv_at hl 0 rfl) ?_
      refine lv_icmp_le (tgt := 73) hx hb dJ7_rangeCheck_23922_61 (by decide) (fun hc => ?_) (fun hc => ?_)
      · replace hf := it_pos hc hf
        exact s_vret hx hb hr hlocks hf dJ7_rangeCheck_23922_73
      · replace hf := it_neg hc hf
        cases hf
    · replace hf := it_neg hc hf
      cases hf
  · replace hf := it_neg hc hf
    cases hf
def fJ7_fill_fda19__403_b10 (fz : List FP) (k10 : Int32 → Int32 → Int32 → St → Option (Unit × St)) (v2 : Int32) (v3 : Int32) (v4 : Int32) (st : St) : Option (Unit × St) := if v2 ≤ v4 then (some ((), st)) else (gi v4 99 (lt (sA st 403 (upd (st.2.2.1 403) v4.toNatClampNeg v3)) (fun st1 => lt (v4 + (1 : Int32)) (fun x2 => k10 v2 v3 x2 st1))))
def fJ7_fill_fda19__403 (a1 : Int32) (a2 : Int32) (a3 : Int32) (fz : List FP) (st : St) : Option (Unit × St) := bs (fJ7_rangeCheck_23922 (99 : Int32) a1 a2) (fun r3 => lp (fun _ _ _ _ => none) (fJ7_fill_fda19__403_b10 fz) 6000 a2 a3 a1 st)
set_option maxHeartbeats 4000000 in
set_option maxRecDepth 100000 in
theorem tJ7_fill_fda19__403 (l : Launch) (D : va_G) (cy : Nat → ClassId) (ad : Nat → Nat) (fz : List FP) (hJ : (cads ad fz).Nodup) (sz : Nat) (a1 : Int32) (a2 : Int32) (a3 : Int32) (st : St) (rr : Unit) (st' : St) (hf : fJ7_fill_fda19__403 a1 a2 a3 fz st = some (rr, st')) : Met l yJ7_fill_fda19 (Cond.code yJ7_fill_fda19 cJ7_fill_fda19 5 none :: TT) (rmD 1) (cPc D cy ad fz [.ref (ad 403), .int a1, .int a2, .int a3] st sz) (cQv D cy ad fz rr st' sz) 0 0 (cA ad fz sz) := by
  refine c_metv (by decide) hJ (Nat.le_of_ble_eq_true rfl) (fun p e s m args below meth c ls E hx hb hr hlocks hown hT hD hN hl hP hS => ?_)
  replace hl : lv_has ls 5 [(0, .ref (ad 403)), (1, .int a1), (2, .int a2), (3, .int a3)] := hl
  unfold fJ7_fill_fda19__403 at hf
  have L10 : ∀ (n : Nat) (v2 : Int32) (v3 : Int32) (v4 : Int32) (st : St) (H : Heap) (locs : List Loc) (ls : Array Slot), lp (fun _ _ _ _ => none) (fJ7_fill_fda19__403_b10 fz) n v2 v3 v4 st = some (rr, st') → lv_has ls 5 [(0, .ref (ad 403)), (2, .int v2), (3, .int v3), (4, .int v4)] → va_P D classes (cx cy ad fz st) H → va_S (cA ad fz s.heap.size) s.heap H locs → cGv l 1 D cy ad fz rr st' p e s m args below meth c H locs (F0 m 10 ls []) := by
    intro n
    induction n with
    | zero => intro v2 v3 v4 st H locs ls hf; exact absurd hf (fun h => by cases h)
    | succ n K10 =>
      intro v2 v3 v4 st H locs ls hf hl hP hS
      replace hf : fJ7_fill_fda19__403_b10 fz (lp (fun _ _ _ _ => none) (fJ7_fill_fda19__403_b10 fz) n) v2 v3 v4 st = some (rr, st') := hf
      generalize lp (fun _ _ _ _ => none) (fJ7_fill_fda19__403_b10 fz) n = k10 at hf K10
      unfold fJ7_fill_fda19__403_b10 at hf
      refine lv_iload hx hb dJ7_fill_fda19_10 (lv_at hl 3 rfl) ?_
      refine lv_iload_n hx hb dJ7_fill_fda19_12 rfl (lv_at hl 1 rfl) ?_
      refine lv_icmp_ge (tgt := 27) hx hb dJ7_fill_fda19_13 (by decide) (fun hc => ?_) (fun hc => ?_)
      · replace hf := it_pos hc hf
        exact c_vret hx hb hr hlocks hf hP hS dJ7_fill_fda19_27
      · replace hf := it_neg hc hf
        refine lv_aload_n hx hb dJ7_fill_fda19_16 rfl (lv_at hl 0 rfl) ?_
        refine lv_iload hx hb dJ7_fill_fda19_17 (lv_at hl 3 rfl) ?_
        refine lv_iload_n hx hb dJ7_fill_fda19_19 rfl (lv_at hl 2 rfl) ?_
        obtain ⟨hi, hf⟩ := gi_some hf
        refine cs_403 E hD hP hS hi dJ7_fill_fda19_20 (fun st1 H locs ex hP hS => ?_)
        replace hf := lt_at ex hf; clear ex
        obtain ⟨x2, ex⟩ : ∃ y : Int32, y = v4 + (1 : Int32) := ⟨_, rfl⟩
        replace hf := lt_at ex hf
        refine lv_iinc (v := x2) (lv' := [(4, .int x2), (0, .ref (ad 403)), (2, .int v2), (3, .int v3)]) hx hb dJ7_fill_fda19_21 hl (k := 3) rfl (by rw [ex]; rfl) (by decide) rfl (fun ls hl => ?_)
        clear ex
        refine lv_goto (tgt := 10) hx hb dJ7_fill_fda19_24 (by decide) ?_
        exact K10 v2 v3 x2 st1 _ _ ls hf (lv_sub hl [1, 2, 3, 0] rfl) hP hS
  refine lv_aload_n hx hb dJ7_fill_fda19_0 rfl (lv_at hl 0 rfl) ?_
  refine cn_403 E hP dJ7_fill_fda19_1 ?_
  refine lv_iload_n hx hb dJ7_fill_fda19_2 rfl (lv_at hl 1 rfl) ?_
  refine lv_iload_n hx hb dJ7_fill_fda19_3 rfl (lv_at hl 2 rfl) ?_
  obtain ⟨r3, hc, hf⟩ := bs_some hf
  refine s_callv (n := 3) (rest := []) E.1 (tJ7_rangeCheck_23922 l _ (99 : Int32) a1 a2 r3 hc) (gS k_145 k_146 k_6 k_147) qJ7_rangeCheck_23922 ⟨Nat.le_of_ble_eq_true rfl, Nat.le_of_ble_eq_true rfl⟩ ⟨Nat.le_refl _, Nat.le_refl _⟩ rfl hl.1 rfl (Nat.le_of_ble_eq_true rfl) dJ7_fill_fda19_4 ?_
  refine lv_iload_n hx hb dJ7_fill_fda19_7 rfl (lv_at hl 1 rfl) ?_
  refine lv_istore (lv' := [(4, .int a1), (0, .ref (ad 403)), (1, .int a1), (2, .int a2), (3, .int a3)]) hx hb dJ7_fill_fda19_8 hl (by decide) rfl (fun ls hl => ?_)
  exact L10 6000 a2 a3 a1 st _ _ ls hf (lv_sub hl [1, 3, 4, 0] rfl) hP hS
def fX1_carefully (a0 : Int32) (a1 : Int32) (fz : List FP) (st : St) : Option (Int32 × St) := gi (((a0 + (1 : Int32)) * (11 : Int32)) + (if (10 : Int32) < (a1 + (1 : Int32)) then (10 : Int32) else (a1 + (1 : Int32)))) 99 (gi a0 8 (some (((st.2.2.1 403 (((a0 + (1 : Int32)) * (11 : Int32)) + (if (10 : Int32) < (a1 + (1 : Int32)) then (10 : Int32) else (a1 + (1 : Int32)))).toNatClampNeg) - (st.2.2.1 400 a0.toNatClampNeg)), st)))
set_option maxHeartbeats 4000000 in
set_option maxRecDepth 100000 in
theorem tX1_carefully (l : Launch) (D : va_G) (cy : Nat → ClassId) (ad : Nat → Nat) (fz : List FP) (hJ : (cads ad fz).Nodup) (sz : Nat) (a0 : Int32) (a1 : Int32) (st : St) (rr : Int32) (st' : St) (hf : fX1_carefully a0 a1 fz st = some (rr, st')) : Met l yX1_carefully (Cond.code yX1_carefully cX1_carefully 3 (some .int) :: TT) (rmD 1) (cPc D cy ad fz [.ref (ad 499), .int a0, .int a1] st sz) (cQi D cy ad fz rr st' sz) 0 0 (cA ad fz sz) := by
  refine c_meti (by decide) hJ (Nat.le_of_ble_eq_true rfl) (fun p e s m args below meth c ls E hx hb hr hlocks hown hT hD hN hl hP hS => ?_)
  replace hl : lv_has ls 3 [(0, .ref (ad 499)), (1, .int a0), (2, .int a1)] := hl
  unfold fX1_carefully at hf
  refine lv_aload_n hx hb dX1_carefully_0 rfl (lv_at hl 0 rfl) ?_
  refine cg_1_21_4 E hP dX1_carefully_1 ?_
  refine lv_iload_n hx hb dX1_carefully_4 rfl (lv_at hl 1 rfl) ?_
  refine lv_iconst (v := 1) hx hb dX1_carefully_5 (by decide) ?_
  refine lv_iadd hx hb dX1_carefully_6 ?_
  refine lv_bipush (v := 11) hx hb dX1_carefully_7 (by decide) ?_
  refine lv_imul hx hb dX1_carefully_9 ?_
  refine lv_iload_n hx hb dX1_carefully_10 rfl (lv_at hl 2 rfl) ?_
  refine lv_iconst (v := 1) hx hb dX1_carefully_11 (by decide) ?_
  refine lv_iadd hx hb dX1_carefully_12 ?_
  refine lv_bipush (v := 10) hx hb dX1_carefully_13 (by decide) ?_
  refine va_mmin hx hb (E.1.2.2.1.trans hl.1.symm) hown (hT _ k_992) (hT _ k_526) (hT _ k_15) (hT _ k_527) (Nat.le_of_ble_eq_true rfl) (Nat.le_of_ble_eq_true rfl) (Nat.zero_le _) (Nat.zero_le _) dX1_carefully_15 ?_
  refine lv_iadd hx hb dX1_carefully_18 ?_
  obtain ⟨hi, hf⟩ := gi_some hf
  refine cl_403 E hP hi dX1_carefully_19 ?_
  refine lv_aload_n hx hb dX1_carefully_20 rfl (lv_at hl 0 rfl) ?_
  refine cg_1_11_4 E hP dX1_carefully_21 ?_
  refine lv_iload_n hx hb dX1_carefully_24 rfl (lv_at hl 1 rfl) ?_
  obtain ⟨hi, hf⟩ := gi_some hf
  refine cl_400 E hP hi dX1_carefully_25 ?_
  refine lv_isub hx hb dX1_carefully_26 ?_
  exact c_iret hx hb hr hlocks hf hP hS dX1_carefully_27
def fX1_boldly_b37 (fz : List FP) (w0 : Int32) (w1 : Int32) (st : St) : Option (Int32 × St) := some ((w1 + w0), st)
def fX1_boldly (a0 : Int32) (a1 : Int32) (fz : List FP) (st : St) : Option (Int32 × St) := gi ((a0 + (1 : Int32)) * (11 : Int32)) 99 (gi a0 8 (if a1 < (st.2.2.1 401 a0.toNatClampNeg) then (gi a0 8 (fX1_boldly_b37 fz (-(st.2.2.1 402 a0.toNatClampNeg)) (st.2.2.1 403 ((a0 + (1 : Int32)) * (11 : Int32)).toNatClampNeg) st)) else (gi a0 8 (fX1_boldly_b37 fz (st.2.2.1 402 a0.toNatClampNeg) (st.2.2.1 403 ((a0 + (1 : Int32)) * (11 : Int32)).toNatClampNeg) st))))
set_option maxHeartbeats 4000000 in
set_option maxRecDepth 100000 in
theorem tX1_boldly (l : Launch) (D : va_G) (cy : Nat → ClassId) (ad : Nat → Nat) (fz : List FP) (hJ : (cads ad fz).Nodup) (sz : Nat) (a0 : Int32) (a1 : Int32) (st : St) (rr : Int32) (st' : St) (hf : fX1_boldly a0 a1 fz st = some (rr, st')) : Met l yX1_boldly (Cond.code yX1_boldly cX1_boldly 3 (some .int) :: TT) (rmD 0) (cPc D cy ad fz [.ref (ad 499), .int a0, .int a1] st sz) (cQi D cy ad fz rr st' sz) 0 0 (cA ad fz sz) := by
  refine c_meti (by decide) hJ (Nat.le_of_ble_eq_true rfl) (fun p e s m args below meth c ls E hx hb hr hlocks hown hT hD hN hl hP hS => ?_)
  replace hl : lv_has ls 3 [(0, .ref (ad 499)), (1, .int a0), (2, .int a1)] := hl
  unfold fX1_boldly at hf
  have B37 : ∀ (w0 : Int32) (w1 : Int32) (st : St) (H : Heap) (locs : List Loc) (ls : Array Slot), fX1_boldly_b37 fz w0 w1 st = some (rr, st') → lv_has ls 3 [] → va_P D classes (cx cy ad fz st) H → va_S (cA ad fz s.heap.size) s.heap H locs → cGi l 0 D cy ad fz rr st' p e s m args below meth c H locs (F0 m 37 ls [.int w0, .int w1]) := by
    intro w0 w1 st H locs ls hf hl hP hS
    unfold fX1_boldly_b37 at hf
    refine lv_iadd hx hb dX1_boldly_37 ?_
    exact c_iret hx hb hr hlocks hf hP hS dX1_boldly_38
  refine lv_aload_n hx hb dX1_boldly_0 rfl (lv_at hl 0 rfl) ?_
  refine cg_1_21_4 E hP dX1_boldly_1 ?_
  refine lv_iload_n hx hb dX1_boldly_4 rfl (lv_at hl 1 rfl) ?_
  refine lv_iconst (v := 1) hx hb dX1_boldly_5 (by decide) ?_
  refine lv_iadd hx hb dX1_boldly_6 ?_
  refine lv_bipush (v := 11) hx hb dX1_boldly_7 (by decide) ?_
  refine lv_imul hx hb dX1_boldly_9 ?_
  obtain ⟨hi, hf⟩ := gi_some hf
  refine cl_403 E hP hi dX1_boldly_10 ?_
  refine lv_iload_n hx hb dX1_boldly_11 rfl (lv_at hl 2 rfl) ?_
  refine lv_aload_n hx hb dX1_boldly_12 rfl (lv_at hl 0 rfl) ?_
  refine cg_1_15_4 E hP dX1_boldly_13 ?_
  refine lv_iload_n hx hb dX1_boldly_16 rfl (lv_at hl 1 rfl) ?_
  obtain ⟨hi, hf⟩ := gi_some hf
  refine cl_401 E hP hi dX1_boldly_17 ?_
  refine lv_icmp_lt (tgt := 30) hx hb dX1_boldly_18 (by decide) (fun hc => ?_) (fun hc => ?_)
  · replace hf := it_pos hc hf
    refine lv_aload_n hx hb dX1_boldly_30 rfl (lv_at hl 0 rfl) ?_
    refine cg_1_18_4 E hP dX1_boldly_31 ?_
    refine lv_iload_n hx hb dX1_boldly_34 rfl (lv_at hl 1 rfl) ?_
    obtain ⟨hi, hf⟩ := gi_some hf
    refine cl_402 E hP hi dX1_boldly_35 ?_
    refine lv_ineg hx hb dX1_boldly_36 ?_
    exact B37 (-(st.2.2.1 402 a0.toNatClampNeg)) (st.2.2.1 403 ((a0 + (1 : Int32)) * (11 : Int32)).toNatClampNeg) st _ _ ls hf (lv_sub hl [] rfl) hP hS
  · replace hf := it_neg hc hf
    refine lv_aload_n hx hb dX1_boldly_21 rfl (lv_at hl 0 rfl) ?_
    refine cg_1_18_4 E hP dX1_boldly_22 ?_
    refine lv_iload_n hx hb dX1_boldly_25 rfl (lv_at hl 1 rfl) ?_
    obtain ⟨hi, hf⟩ := gi_some hf
    refine cl_402 E hP hi dX1_boldly_26 ?_
    refine lv_goto (tgt := 37) hx hb dX1_boldly_27 (by decide) ?_
    exact B37 (st.2.2.1 402 a0.toNatClampNeg) (st.2.2.1 403 ((a0 + (1 : Int32)) * (11 : Int32)).toNatClampNeg) st _ _ ls hf (lv_sub hl [] rfl) hP hS
def fX1_solve_b37 (fz : List FP) (k31 : Int32 → St → Option (Unit × St)) (k37 : Int32 → Int32 → St → Option (Unit × St)) (v1 : Int32) (v2 : Int32) (st : St) : Option (Unit × St) := if (11 : Int32) ≤ v2 then (lt (v1 + (-1 : Int32)) (fun x1 => k31 x1 st)) else (bd (fX1_carefully v1 v2 fz st) (fun r2 st3 => bd (fX1_boldly v1 v2 fz st3) (fun r4 st5 => gi ((v1 * (11 : Int32)) + v2) 99 (lt (sA st5 403 (upd (st5.2.2.1 403) ((v1 * (11 : Int32)) + v2).toNatClampNeg (if r2 < r4 then r4 else r2))) (fun st6 => lt (v2 + (1 : Int32)) (fun x7 => k37 v1 x7 st6))))))
def fX1_solve_b31 (fz : List FP) (k31 : Int32 → St → Option (Unit × St)) (v1 : Int32) (st : St) : Option (Unit × St) := if v1 < 0 then (some ((), st)) else (lp (fun _ _ _ => none) (fX1_solve_b37 fz k31) 6000 v1 (0 : Int32) st)
def fX1_solve (fz : List FP) (st : St) : Option (Unit × St) := bd (fJ7_fill_fda19__403 ((st.1 404) * (11 : Int32)) (((st.1 404) + (1 : Int32)) * (11 : Int32)) (0 : Int32) fz st) (fun r8 st9 => lt ((st9.1 404) - (1 : Int32)) (fun x10 => lp (fun _ _ => none) (fX1_solve_b31 fz) 6000 x10 st9))
set_option maxHeartbeats 4000000 in
set_option maxRecDepth 100000 in
theorem tX1_solve (l : Launch) (D : va_G) (cy : Nat → ClassId) (ad : Nat → Nat) (fz : List FP) (hJ : (cads ad fz).Nodup) (sz : Nat) (st : St) (rr : Unit) (st' : St) (hf : fX1_solve fz st = some (rr, st')) : Met l yX1_solve (Cond.code yX1_solve cX1_solve 3 none :: TT) (rmD 2) (cPc D cy ad fz [.ref (ad 499)] st sz) (cQv D cy ad fz rr st' sz) 0 0 (cA ad fz sz) := by
  refine c_metv (by decide) hJ (Nat.le_of_ble_eq_true rfl) (fun p e s m args below meth c ls E hx hb hr hlocks hown hT hD hN hl hP hS => ?_)
  replace hl : lv_has ls 3 [(0, .ref (ad 499))] := hl
  unfold fX1_solve at hf
  have L31 : ∀ (n : Nat) (v1 : Int32) (st : St) (H : Heap) (locs : List Loc) (ls : Array Slot), lp (fun _ _ => none) (fX1_solve_b31 fz) n v1 st = some (rr, st') → lv_has ls 3 [(0, .ref (ad 499)), (1, .int v1)] → va_P D classes (cx cy ad fz st) H → va_S (cA ad fz s.heap.size) s.heap H locs → cGv l 2 D cy ad fz rr st' p e s m args below meth c H locs (F0 m 31 ls []) := by
    intro n
    induction n with
    | zero => intro v1 st H locs ls hf; exact absurd hf (fun h => by cases h)
    | succ n K31 =>
      intro v1 st H locs ls hf hl hP hS
      replace hf : fX1_solve_b31 fz (lp (fun _ _ => none) (fX1_solve_b31 fz) n) v1 st = some (rr, st') := hf
      generalize lp (fun _ _ => none) (fX1_solve_b31 fz) n = k31 at hf K31
      have L37 : ∀ (n : Nat) (v1 : Int32) (v2 : Int32) (st : St) (H : Heap) (locs : List Loc) (ls : Array Slot), lp (fun _ _ _ => none) (fX1_solve_b37 fz k31) n v1 v2 st = some (rr, st') → lv_has ls 3 [(0, .ref (ad 499)), (1, .int v1), (2, .int v2)] → va_P D classes (cx cy ad fz st) H → va_S (cA ad fz s.heap.size) s.heap H locs → cGv l 2 D cy ad fz rr st' p e s m args below meth c H locs (F0 m 37 ls []) := by
        intro n
        induction n with
        | zero => intro v1 v2 st H locs ls hf; exact absurd hf (fun h => by cases h)
        | succ n K37 =>
          intro v1 v2 st H locs ls hf hl hP hS
          replace hf : fX1_solve_b37 fz k31 (lp (fun _ _ _ => none) (fX1_solve_b37 fz k31) n) v1 v2 st = some (rr, st') := hf
          generalize lp (fun _ _ _ => none) (fX1_solve_b37 fz k31) n = k37 at hf K37
          unfold fX1_solve_b37 at hf
          refine lv_iload_n hx hb dX1_solve_37 rfl (lv_at hl 2 rfl) ?_
          refine lv_bipush (v := 11) hx hb dX1_solve_38 (by decide) ?_
          refine lv_icmp_ge (tgt := 75) hx hb dX1_solve_40 (by decide) (fun hc => ?_) (fun hc => ?_)
          · replace hf := it_pos hc hf
            obtain ⟨x1, ex⟩ : ∃ y : Int32, y = v1 + (-1 : Int32) := ⟨_, rfl⟩
            replace hf := lt_at ex hf
            refine lv_iinc (v := x1) (lv' := [(1, .int x1), (0, .ref (ad 499)), (2, .int v2)]) hx hb dX1_solve_75 hl (k := 1) rfl (by rw [ex]; rfl) (by decide) rfl (fun ls hl => ?_)
            clear ex
            refine lv_goto (tgt := 31) hx hb dX1_solve_78 (by decide) ?_
            exact K31 x1 st _ _ ls hf (lv_sub hl [1, 0] rfl) hP hS
          · replace hf := it_neg hc hf
            refine lv_aload_n hx hb dX1_solve_43 rfl (lv_at hl 0 rfl) ?_
            refine cg_1_21_4 E hP dX1_solve_44 ?_
            refine lv_iload_n hx hb dX1_solve_47 rfl (lv_at hl 1 rfl) ?_
            refine lv_bipush (v := 11) hx hb dX1_solve_48 (by decide) ?_
            refine lv_imul hx hb dX1_solve_50 ?_
            refine lv_iload_n hx hb dX1_solve_51 rfl (lv_at hl 2 rfl) ?_
            refine lv_iadd hx hb dX1_solve_52 ?_
            refine lv_aload_n hx hb dX1_solve_53 rfl (lv_at hl 0 rfl) ?_
            refine lv_iload_n hx hb dX1_solve_54 rfl (lv_at hl 1 rfl) ?_
            refine lv_iload_n hx hb dX1_solve_55 rfl (lv_at hl 2 rfl) ?_
            obtain ⟨r2, st3, hc, hf⟩ := bd_some hf
            refine c_calli (n := 2) (rest := [.int ((v1 * (11 : Int32)) + v2), .ref (ad 403)]) E hN hP hS (fun sz => tX1_carefully l D cy ad fz hJ sz v1 v2 st r2 st3 hc) (va_recv E.2 hP (ci := 1) (q0 := 20) rfl rfl) (gV k_988 k_990 ks_31 k_5 k_991) qX1_carefully ⟨Nat.le_of_ble_eq_true rfl, Nat.le_of_ble_eq_true rfl⟩ ⟨Nat.le_refl _, Nat.le_refl _⟩ rfl hl.1 rfl (Nat.le_of_ble_eq_true rfl) dX1_solve_56 (fun H locs hP hS => ?_)
            refine lv_aload_n hx hb dX1_solve_59 rfl (lv_at hl 0 rfl) ?_
            refine lv_iload_n hx hb dX1_solve_60 rfl (lv_at hl 1 rfl) ?_
            refine lv_iload_n hx hb dX1_solve_61 rfl (lv_at hl 2 rfl) ?_
            obtain ⟨r4, st5, hc, hf⟩ := bd_some hf
            refine c_calli (n := 2) (rest := [.int r2, .int ((v1 * (11 : Int32)) + v2), .ref (ad 403)]) E hN hP hS (fun sz => tX1_boldly l D cy ad fz hJ sz v1 v2 st3 r4 st5 hc) (va_recv E.2 hP (ci := 1) (q0 := 20) rfl rfl) (gV k_993 k_995 ks_32 k_5 k_996) qX1_boldly ⟨Nat.le_of_ble_eq_true rfl, Nat.le_of_ble_eq_true rfl⟩ ⟨Nat.le_refl _, Nat.le_refl _⟩ rfl hl.1 rfl (Nat.le_of_ble_eq_true rfl) dX1_solve_62 (fun H locs hP hS => ?_)
            refine va_mmax hx hb (E.1.2.2.1.trans hl.1.symm) hown (hT _ k_997) (hT _ k_537) (hT _ k_15) (hT _ k_538) (Nat.le_of_ble_eq_true rfl) (Nat.le_of_ble_eq_true rfl) (Nat.zero_le _) (Nat.zero_le _) dX1_solve_65 ?_
            obtain ⟨hi, hf⟩ := gi_some hf
            refine cs_403 E hD hP hS hi dX1_solve_68 (fun st6 H locs ex hP hS => ?_)
            replace hf := lt_at ex hf; clear ex
            obtain ⟨x7, ex⟩ : ∃ y : Int32, y = v2 + (1 : Int32) := ⟨_, rfl⟩
            replace hf := lt_at ex hf
            refine lv_iinc (v := x7) (lv' := [(2, .int x7), (0, .ref (ad 499)), (1, .int v1)]) hx hb dX1_solve_69 hl (k := 2) rfl (by rw [ex]; rfl) (by decide) rfl (fun ls hl => ?_)
            clear ex
            refine lv_goto (tgt := 37) hx hb dX1_solve_72 (by decide) ?_
            exact K37 v1 x7 st6 _ _ ls hf (lv_sub hl [1, 2, 0] rfl) hP hS
      unfold fX1_solve_b31 at hf
      refine lv_iload_n hx hb dX1_solve_31 rfl (lv_at hl 1 rfl) ?_
      refine lv_if_lt (tgt := 81) hx hb dX1_solve_32 (by decide) (fun hc => ?_) (fun hc => ?_)
      · replace hf := it_pos hc hf
        exact c_vret hx hb hr hlocks hf hP hS dX1_solve_81
      · replace hf := it_neg hc hf
        refine lv_iconst (v := 0) hx hb dX1_solve_35 (by decide) ?_
        refine lv_istore_n (lv' := [(2, .int (0 : Int32)), (0, .ref (ad 499)), (1, .int v1)]) hx hb dX1_solve_36 rfl hl (by decide) rfl (fun ls hl => ?_)
        exact L37 6000 v1 (0 : Int32) st _ _ ls hf (lv_sub hl [1, 2, 0] rfl) hP hS
  refine lv_aload_n hx hb dX1_solve_0 rfl (lv_at hl 0 rfl) ?_
  refine cg_1_21_4 E hP dX1_solve_1 ?_
  refine lv_aload_n hx hb dX1_solve_4 rfl (lv_at hl 0 rfl) ?_
  refine cg_1_30_4 E hP dX1_solve_5 ?_
  refine lv_bipush (v := 11) hx hb dX1_solve_8 (by decide) ?_
  refine lv_imul hx hb dX1_solve_10 ?_
  refine lv_aload_n hx hb dX1_solve_11 rfl (lv_at hl 0 rfl) ?_
  refine cg_1_30_4 E hP dX1_solve_12 ?_
  refine lv_iconst (v := 1) hx hb dX1_solve_15 (by decide) ?_
  refine lv_iadd hx hb dX1_solve_16 ?_
  refine lv_bipush (v := 11) hx hb dX1_solve_17 (by decide) ?_
  refine lv_imul hx hb dX1_solve_19 ?_
  refine lv_iconst (v := 0) hx hb dX1_solve_20 (by decide) ?_
  obtain ⟨r8, st9, hc, hf⟩ := bd_some hf
  refine c_callSv (n := 4) (rest := []) E hN hP hS (fun sz => tJ7_fill_fda19__403 l D cy ad fz hJ sz ((st.1 404) * (11 : Int32)) (((st.1 404) + (1 : Int32)) * (11 : Int32)) (0 : Int32) st r8 st9 hc) k_987 k_143 k_6 k_144 qJ7_fill_fda19.2 ⟨Nat.le_of_ble_eq_true rfl, Nat.le_of_ble_eq_true rfl⟩ ⟨Nat.le_refl _, Nat.le_refl _⟩ rfl hl.1 rfl (Nat.le_of_ble_eq_true rfl) dX1_solve_21 (fun H locs hP hS => ?_)
  refine lv_aload_n hx hb dX1_solve_24 rfl (lv_at hl 0 rfl) ?_
  refine cg_1_30_4 E hP dX1_solve_25 ?_
  refine lv_iconst (v := 1) hx hb dX1_solve_28 (by decide) ?_
  refine lv_isub hx hb dX1_solve_29 ?_
  refine lv_topi (fun x10 ex => ?_)
  replace hf := lt_at ex hf; clear ex
  refine lv_istore_n (lv' := [(1, .int x10), (0, .ref (ad 499))]) hx hb dX1_solve_30 rfl hl (by decide) rfl (fun ls hl => ?_)
  exact L31 6000 x10 st9 _ _ ls hf (lv_sub hl [1, 0] rfl) hP hS
def fX1_choiceAt_b75 (fz : List FP) (v4 : Int32) (st : St) : Option (Int32 × St) := some (v4, st)
def fX1_choiceAt_b68 (fz : List FP) (k8 : Int32 → Int32 → Int32 → Int32 → St → Option (Int32 × St)) (v2 : Int32) (v4 : Int32) (v5 : Int32) (w0 : Int32) (st : St) : Option (Int32 × St) := lt (v5 + (1 : Int32)) (fun x1 => k8 v2 w0 v4 x1 st)
def fX1_choiceAt_b45 (fz : List FP) (k8 : Int32 → Int32 → Int32 → Int32 → St → Option (Int32 × St)) (v2 : Int32) (v3 : Int32) (v5 : Int32) (w0 : Int32) (st : St) : Option (Int32 × St) := bs (fX11_bit w0) (fun r2 => if r2 = (1 : Int32) then (fX1_choiceAt_b68 fz k8 v2 r2 v5 (0 : Int32) st) else (fX1_choiceAt_b68 fz k8 v2 r2 v5 (if (10 : Int32) < (v3 + (1 : Int32)) then (10 : Int32) else (v3 + (1 : Int32))) st))
def fX1_choiceAt_b8 (fz : List FP) (k8 : Int32 → Int32 → Int32 → Int32 → St → Option (Int32 × St)) (v2 : Int32) (v3 : Int32) (v4 : Int32) (v5 : Int32) (st : St) : Option (Int32 × St) := if v2 < v5 then (fX1_choiceAt_b75 fz v4 st) else (if (st.1 404) ≤ v5 then (fX1_choiceAt_b75 fz v4 st) else (bd (fX1_boldly v5 v3 fz st) (fun r3 st4 => bd (fX1_carefully v5 v3 fz st4) (fun r5 st6 => if r3 ≤ r5 then (fX1_choiceAt_b45 fz k8 v2 v3 v5 (0 : Int32) st6) else (fX1_choiceAt_b45 fz k8 v2 v3 v5 (1 : Int32) st6)))))
def fX1_choiceAt (a0 : Int32) (a1 : Int32) (fz : List FP) (st : St) : Option (Int32 × St) := lp (fun _ _ _ _ _ => none) (fX1_choiceAt_b8 fz) 6000 a1 a0 (0 : Int32) (0 : Int32) st
set_option maxHeartbeats 4000000 in
set_option maxRecDepth 100000 in
theorem tX1_choiceAt (l : Launch) (D : va_G) (cy : Nat → ClassId) (ad : Nat → Nat) (fz : List FP) (hJ : (cads ad fz).Nodup) (sz : Nat) (a0 : Int32) (a1 : Int32) (st : St) (rr : Int32) (st' : St) (hf : fX1_choiceAt a0 a1 fz st = some (rr, st')) : Met l yX1_choiceAt (Cond.code yX1_choiceAt cX1_choiceAt 6 (some .int) :: TT) (rmD 2) (cPc D cy ad fz [.ref (ad 499), .int a0, .int a1] st sz) (cQi D cy ad fz rr st' sz) 0 0 (cA ad fz sz) := by
  refine c_meti (by decide) hJ (Nat.le_of_ble_eq_true rfl) (fun p e s m args below meth c ls E hx hb hr hlocks hown hT hD hN hl hP hS => ?_)
  replace hl : lv_has ls 6 [(0, .ref (ad 499)), (1, .int a0), (2, .int a1)] := hl
  unfold fX1_choiceAt at hf
  have B75 : ∀ (v4 : Int32) (st : St) (H : Heap) (locs : List Loc) (ls : Array Slot), fX1_choiceAt_b75 fz v4 st = some (rr, st') → lv_has ls 6 [(4, .int v4)] → va_P D classes (cx cy ad fz st) H → va_S (cA ad fz s.heap.size) s.heap H locs → cGi l 2 D cy ad fz rr st' p e s m args below meth c H locs (F0 m 75 ls []) := by
    intro v4 st H locs ls hf hl hP hS
    unfold fX1_choiceAt_b75 at hf
    refine lv_iload hx hb dX1_choiceAt_75 (lv_at hl 0 rfl) ?_
    exact c_iret hx hb hr hlocks hf hP hS dX1_choiceAt_77
  have L8 : ∀ (n : Nat) (v2 : Int32) (v3 : Int32) (v4 : Int32) (v5 : Int32) (st : St) (H : Heap) (locs : List Loc) (ls : Array Slot), lp (fun _ _ _ _ _ => none) (fX1_choiceAt_b8 fz) n v2 v3 v4 v5 st = some (rr, st') → lv_has ls 6 [(0, .ref (ad 499)), (2, .int v2), (3, .int v3), (4, .int v4), (5, .int v5)] → va_P D classes (cx cy ad fz st) H → va_S (cA ad fz s.heap.size) s.heap H locs → cGi l 2 D cy ad fz rr st' p e s m args below meth c H locs (F0 m 8 ls []) := by
    intro n
    induction n with
    | zero => intro v2 v3 v4 v5 st H locs ls hf; exact absurd hf (fun h => by cases h)
    | succ n K8 =>
      intro v2 v3 v4 v5 st H locs ls hf hl hP hS
      replace hf : fX1_choiceAt_b8 fz (lp (fun _ _ _ _ _ => none) (fX1_choiceAt_b8 fz) n) v2 v3 v4 v5 st = some (rr, st') := hf
      generalize lp (fun _ _ _ _ _ => none) (fX1_choiceAt_b8 fz) n = k8 at hf K8
      have B68 : ∀ (v2 : Int32) (v4 : Int32) (v5 : Int32) (w0 : Int32) (st : St) (H : Heap) (locs : List Loc) (ls : Array Slot), fX1_choiceAt_b68 fz k8 v2 v4 v5 w0 st = some (rr, st') → lv_has ls 6 [(0, .ref (ad 499)), (2, .int v2), (4, .int v4), (5, .int v5)] → va_P D classes (cx cy ad fz st) H → va_S (cA ad fz s.heap.size) s.heap H locs → cGi l 2 D cy ad fz rr st' p e s m args below meth c H locs (F0 m 68 ls [.int w0]) := by
        intro v2 v4 v5 w0 st H locs ls hf hl hP hS
        unfold fX1_choiceAt_b68 at hf
        refine lv_istore_n (lv' := [(3, .int w0), (0, .ref (ad 499)), (2, .int v2), (4, .int v4), (5, .int v5)]) hx hb dX1_choiceAt_68 rfl hl (by decide) rfl (fun ls hl => ?_)
        obtain ⟨x1, ex⟩ : ∃ y : Int32, y = v5 + (1 : Int32) := ⟨_, rfl⟩
        replace hf := lt_at ex hf
        refine lv_iinc (v := x1) (lv' := [(5, .int x1), (3, .int w0), (0, .ref (ad 499)), (2, .int v2), (4, .int v4)]) hx hb dX1_choiceAt_69 hl (k := 4) rfl (by rw [ex]; rfl) (by decide) rfl (fun ls hl => ?_)
        clear ex
        refine lv_goto (tgt := 8) hx hb dX1_choiceAt_72 (by decide) ?_
        exact K8 v2 w0 v4 x1 st _ _ ls hf (lv_sub hl [2, 3, 1, 4, 0] rfl) hP hS
      have B45 : ∀ (v2 : Int32) (v3 : Int32) (v5 : Int32) (w0 : Int32) (st : St) (H : Heap) (locs : List Loc) (ls : Array Slot), fX1_choiceAt_b45 fz k8 v2 v3 v5 w0 st = some (rr, st') → lv_has ls 6 [(0, .ref (ad 499)), (2, .int v2), (3, .int v3), (5, .int v5)] → va_P D classes (cx cy ad fz st) H → va_S (cA ad fz s.heap.size) s.heap H locs → cGi l 2 D cy ad fz rr st' p e s m args below meth c H locs (F0 m 45 ls [.int w0]) := by
        intro v2 v3 v5 w0 st H locs ls hf hl hP hS
        unfold fX1_choiceAt_b45 at hf
        obtain ⟨r2, hc, hf⟩ := bs_some hf
        refine s_calliN (n := 1) (rest := []) E.1 (tX11_bit l _ w0 r2 hc) (hN.1 (Cond.methodLinkNest "OpenGates$Career" 55 ⟨"OpenGates", "bit", "(Z)I"⟩ "OpenGates") (List.mem_of_getElem? (i := 9) rfl)) k_544 k_1 k_545 qX11_bit.2 ⟨Nat.le_of_ble_eq_true rfl, Nat.le_of_ble_eq_true rfl⟩ ⟨Nat.le_refl _, Nat.le_refl _⟩ rfl hl.1 rfl (Nat.le_of_ble_eq_true rfl) dX1_choiceAt_45 ?_
        refine lv_istore (lv' := [(4, .int r2), (0, .ref (ad 499)), (2, .int v2), (3, .int v3), (5, .int v5)]) hx hb dX1_choiceAt_48 hl (by decide) rfl (fun ls hl => ?_)
        refine lv_iload hx hb dX1_choiceAt_50 (lv_at hl 0 rfl) ?_
        refine lv_iconst (v := 1) hx hb dX1_choiceAt_52 (by decide) ?_
        refine lv_icmp_ne (tgt := 60) hx hb dX1_choiceAt_53 (by decide) (fun hc => ?_) (fun hc => ?_)
        · replace hf := it_neg hc hf
          refine lv_iload_n hx hb dX1_choiceAt_60 rfl (lv_at hl 3 rfl) ?_
          refine lv_iconst (v := 1) hx hb dX1_choiceAt_61 (by decide) ?_
          refine lv_iadd hx hb dX1_choiceAt_62 ?_
          refine lv_bipush (v := 10) hx hb dX1_choiceAt_63 (by decide) ?_
          refine va_mmin hx hb (E.1.2.2.1.trans hl.1.symm) hown (hT _ k_992) (hT _ k_526) (hT _ k_15) (hT _ k_527) (Nat.le_of_ble_eq_true rfl) (Nat.le_of_ble_eq_true rfl) (Nat.zero_le _) (Nat.zero_le _) dX1_choiceAt_65 ?_
          exact B68 v2 r2 v5 (if (10 : Int32) < (v3 + (1 : Int32)) then (10 : Int32) else (v3 + (1 : Int32))) st _ _ ls hf (lv_sub hl [1, 2, 0, 4] rfl) hP hS
        · replace hf := it_pos hc hf
          refine lv_iconst (v := 0) hx hb dX1_choiceAt_56 (by decide) ?_
          refine lv_goto (tgt := 68) hx hb dX1_choiceAt_57 (by decide) ?_
          exact B68 v2 r2 v5 (0 : Int32) st _ _ ls hf (lv_sub hl [1, 2, 0, 4] rfl) hP hS
      unfold fX1_choiceAt_b8 at hf
      refine lv_iload hx hb dX1_choiceAt_8 (lv_at hl 4 rfl) ?_
      refine lv_iload_n hx hb dX1_choiceAt_10 rfl (lv_at hl 1 rfl) ?_
      refine lv_icmp_gt (tgt := 75) hx hb dX1_choiceAt_11 (by decide) (fun hc => ?_) (fun hc => ?_)
      · replace hf := it_pos hc hf
        exact B75 v4 st _ _ ls hf (lv_sub hl [3] rfl) hP hS
      · replace hf := it_neg hc hf
        refine lv_iload hx hb dX1_choiceAt_14 (lv_at hl 4 rfl) ?_
        refine lv_aload_n hx hb dX1_choiceAt_16 rfl (lv_at hl 0 rfl) ?_
        refine cg_1_30_4 E hP dX1_choiceAt_17 ?_
        refine lv_icmp_ge (tgt := 75) hx hb dX1_choiceAt_20 (by decide) (fun hc => ?_) (fun hc => ?_)
        · replace hf := it_pos hc hf
          exact B75 v4 st _ _ ls hf (lv_sub hl [3] rfl) hP hS
        · replace hf := it_neg hc hf
          refine lv_aload_n hx hb dX1_choiceAt_23 rfl (lv_at hl 0 rfl) ?_
          refine lv_iload hx hb dX1_choiceAt_24 (lv_at hl 4 rfl) ?_
          refine lv_iload_n hx hb dX1_choiceAt_26 rfl (lv_at hl 2 rfl) ?_
          obtain ⟨r3, st4, hc, hf⟩ := bd_some hf
          refine c_calli (n := 2) (rest := []) E hN hP hS (fun sz => tX1_boldly l D cy ad fz hJ sz v5 v3 st r3 st4 hc) (va_recv E.2 hP (ci := 1) (q0 := 20) rfl rfl) (gV k_993 k_995 ks_32 k_5 k_996) qX1_boldly ⟨Nat.le_of_ble_eq_true rfl, Nat.le_of_ble_eq_true rfl⟩ ⟨Nat.le_refl _, Nat.le_refl _⟩ rfl hl.1 rfl (Nat.le_of_ble_eq_true rfl) dX1_choiceAt_27 (fun H locs hP hS => ?_)
          refine lv_aload_n hx hb dX1_choiceAt_30 rfl (lv_at hl 0 rfl) ?_
          refine lv_iload hx hb dX1_choiceAt_31 (lv_at hl 4 rfl) ?_
          refine lv_iload_n hx hb dX1_choiceAt_33 rfl (lv_at hl 2 rfl) ?_
          obtain ⟨r5, st6, hc, hf⟩ := bd_some hf
          refine c_calli (n := 2) (rest := [.int r3]) E hN hP hS (fun sz => tX1_carefully l D cy ad fz hJ sz v5 v3 st4 r5 st6 hc) (va_recv E.2 hP (ci := 1) (q0 := 20) rfl rfl) (gV k_988 k_990 ks_31 k_5 k_991) qX1_carefully ⟨Nat.le_of_ble_eq_true rfl, Nat.le_of_ble_eq_true rfl⟩ ⟨Nat.le_refl _, Nat.le_refl _⟩ rfl hl.1 rfl (Nat.le_of_ble_eq_true rfl) dX1_choiceAt_34 (fun H locs hP hS => ?_)
          refine lv_icmp_le (tgt := 44) hx hb dX1_choiceAt_37 (by decide) (fun hc => ?_) (fun hc => ?_)
          · replace hf := it_pos hc hf
            refine lv_iconst (v := 0) hx hb dX1_choiceAt_44 (by decide) ?_
            exact B45 v2 v3 v5 (0 : Int32) st6 _ _ ls hf (lv_sub hl [0, 1, 2, 4] rfl) hP hS
          · replace hf := it_neg hc hf
            refine lv_iconst (v := 1) hx hb dX1_choiceAt_40 (by decide) ?_
            refine lv_goto (tgt := 45) hx hb dX1_choiceAt_41 (by decide) ?_
            exact B45 v2 v3 v5 (1 : Int32) st6 _ _ ls hf (lv_sub hl [0, 1, 2, 4] rfl) hP hS
  refine lv_iload_n hx hb dX1_choiceAt_0 rfl (lv_at hl 1 rfl) ?_
  refine lv_istore_n (lv' := [(3, .int a0), (0, .ref (ad 499)), (1, .int a0), (2, .int a1)]) hx hb dX1_choiceAt_1 rfl hl (by decide) rfl (fun ls hl => ?_)
  refine lv_iconst (v := 0) hx hb dX1_choiceAt_2 (by decide) ?_
  refine lv_istore (lv' := [(4, .int (0 : Int32)), (3, .int a0), (0, .ref (ad 499)), (1, .int a0), (2, .int a1)]) hx hb dX1_choiceAt_3 hl (by decide) rfl (fun ls hl => ?_)
  refine lv_iconst (v := 0) hx hb dX1_choiceAt_5 (by decide) ?_
  refine lv_istore (lv' := [(5, .int (0 : Int32)), (4, .int (0 : Int32)), (3, .int a0), (0, .ref (ad 499)), (1, .int a0), (2, .int a1)]) hx hb dX1_choiceAt_6 hl (by decide) rfl (fun ls hl => ?_)
  exact L8 6000 a1 a0 (0 : Int32) (0 : Int32) st _ _ ls hf (lv_sub hl [3, 5, 2, 1, 0] rfl) hP hS
def fX11_career_b30 (fz : List FP) (st : St) : Option (Int32 × St) := some ((-100000 : Int32), st)
def fX11_career_b58 (fz : List FP) (w0 : Int32) (st : St) : Option (Int32 × St) := some (w0, st)
def fX11_career (a0 : Int32) (a1 : Int32) (fz : List FP) (st : St) : Option (Int32 × St) := bs (fX11_within a0 (0 : Int32) (10 : Int32)) (fun r1 => if r1 = 0 then (fX11_career_b30 fz st) else (bs (fX11_within a1 (0 : Int32) (st.1 404)) (fun r2 => if r2 = 0 then (fX11_career_b30 fz st) else (bd (fX1_solve fz st) (fun r3 st4 => if a1 = 0 then (gi a0 99 (fX11_career_b58 fz (st4.2.2.1 403 a0.toNatClampNeg) st4)) else (bd (fX1_choiceAt a0 (a1 - (1 : Int32)) fz st4) (fun r5 st6 => fX11_career_b58 fz r5 st6)))))))
set_option maxHeartbeats 4000000 in
set_option maxRecDepth 100000 in
theorem tX11_career (l : Launch) (D : va_G) (cy : Nat → ClassId) (ad : Nat → Nat) (fz : List FP) (hJ : (cads ad fz).Nodup) (sz : Nat) (a0 : Int32) (a1 : Int32) (st : St) (rr : Int32) (st' : St) (hf : fX11_career a0 a1 fz st = some (rr, st')) : Met l yX11_career (Cond.code yX11_career cX11_career 4 (some .int) :: TT) (rmD 3) (cPc D cy ad fz [.ref (ad 99), .int a0, .int a1] st sz) (cQi D cy ad fz rr st' sz) 0 0 (cA ad fz sz) := by
  refine c_meti (by decide) hJ (Nat.le_of_ble_eq_true rfl) (fun p e s m args below meth c ls E hx hb hr hlocks hown hT hD hN hl hP hS => ?_)
  replace hl : lv_has ls 4 [(0, .ref (ad 99)), (1, .int a0), (2, .int a1)] := hl
  unfold fX11_career at hf
  have B30 : ∀ (st : St) (H : Heap) (locs : List Loc) (ls : Array Slot), fX11_career_b30 fz st = some (rr, st') → lv_has ls 4 [] → va_P D classes (cx cy ad fz st) H → va_S (cA ad fz s.heap.size) s.heap H locs → cGi l 3 D cy ad fz rr st' p e s m args below meth c H locs (F0 m 30 ls []) := by
    intro st H locs ls hf hl hP hS
    unfold fX11_career_b30 at hf
    refine lv_ldc (v := -100000) hx hb hown (hT _ k_960) dX11_career_30 ?_
    exact c_iret hx hb hr hlocks hf hP hS dX11_career_32
  have B58 : ∀ (w0 : Int32) (st : St) (H : Heap) (locs : List Loc) (ls : Array Slot), fX11_career_b58 fz w0 st = some (rr, st') → lv_has ls 4 [] → va_P D classes (cx cy ad fz st) H → va_S (cA ad fz s.heap.size) s.heap H locs → cGi l 3 D cy ad fz rr st' p e s m args below meth c H locs (F0 m 58 ls [.int w0]) := by
    intro w0 st H locs ls hf hl hP hS
    unfold fX11_career_b58 at hf
    exact c_iret hx hb hr hlocks hf hP hS dX11_career_58
  refine lv_aload_n hx hb dX11_career_0 rfl (lv_at hl 0 rfl) ?_
  refine cg_11_10_0 E hP dX11_career_1 ?_
  refine cg_11_251_1 E hP dX11_career_4 ?_
  refine lv_astore_n (lv' := [(3, .ref (ad 499)), (0, .ref (ad 99)), (1, .int a0), (2, .int a1)]) hx hb dX11_career_7 rfl hl (by decide) rfl (fun ls hl => ?_)
  refine lv_iload_n hx hb dX11_career_8 rfl (lv_at hl 2 rfl) ?_
  refine lv_iconst (v := 0) hx hb dX11_career_9 (by decide) ?_
  refine lv_bipush (v := 10) hx hb dX11_career_10 (by decide) ?_
  obtain ⟨r1, hc, hf⟩ := bs_some hf
  refine s_calli (n := 3) (rest := []) E.1 (tX11_within l _ a0 (0 : Int32) (10 : Int32) r1 hc) (gS k_472 k_458 k_1 k_459) qX11_within ⟨Nat.le_of_ble_eq_true rfl, Nat.le_of_ble_eq_true rfl⟩ ⟨Nat.le_refl _, Nat.le_refl _⟩ rfl hl.1 rfl (Nat.le_of_ble_eq_true rfl) dX11_career_12 ?_
  refine lv_if_eq (tgt := 30) hx hb dX11_career_15 (by decide) (fun hc => ?_) (fun hc => ?_)
  · replace hf := it_pos hc hf
    exact B30 st _ _ ls hf (lv_sub hl [] rfl) hP hS
  · replace hf := it_neg hc hf
    refine lv_iload_n hx hb dX11_career_18 rfl (lv_at hl 3 rfl) ?_
    refine lv_iconst (v := 0) hx hb dX11_career_19 (by decide) ?_
    refine lv_aload_n hx hb dX11_career_20 rfl (lv_at hl 0 rfl) ?_
    refine cg_11_258_4 E hP dX11_career_21 ?_
    obtain ⟨r2, hc, hf⟩ := bs_some hf
    refine s_calli (n := 3) (rest := []) E.1 (tX11_within l _ a1 (0 : Int32) (st.1 404) r2 hc) (gS k_472 k_458 k_1 k_459) qX11_within ⟨Nat.le_of_ble_eq_true rfl, Nat.le_of_ble_eq_true rfl⟩ ⟨Nat.le_refl _, Nat.le_refl _⟩ rfl hl.1 rfl (Nat.le_of_ble_eq_true rfl) dX11_career_24 ?_
    refine lv_if_ne (tgt := 33) hx hb dX11_career_27 (by decide) (fun hc => ?_) (fun hc => ?_)
    · replace hf := it_neg hc hf
      refine lv_aload_n hx hb dX11_career_33 rfl (lv_at hl 0 rfl) ?_
      obtain ⟨r3, st4, hc, hf⟩ := bd_some hf
      refine c_callv (n := 0) (rest := []) E hN hP hS (fun sz => tX1_solve l D cy ad fz hJ sz st r3 st4 hc) (va_recv E.2 hP (ci := 1) (q0 := 20) rfl rfl) (gV k_983 k_984 k_985 k_5 k_986) qX1_solve ⟨Nat.le_of_ble_eq_true rfl, Nat.le_of_ble_eq_true rfl⟩ ⟨Nat.le_refl _, Nat.le_refl _⟩ rfl hl.1 rfl (Nat.le_of_ble_eq_true rfl) dX11_career_34 (fun H locs hP hS => ?_)
      refine lv_iload_n hx hb dX11_career_37 rfl (lv_at hl 3 rfl) ?_
      refine lv_if_ne (tgt := 50) hx hb dX11_career_38 (by decide) (fun hc => ?_) (fun hc => ?_)
      · replace hf := it_neg hc hf
        refine lv_aload_n hx hb dX11_career_50 rfl (lv_at hl 0 rfl) ?_
        refine lv_iload_n hx hb dX11_career_51 rfl (lv_at hl 2 rfl) ?_
        refine lv_iload_n hx hb dX11_career_52 rfl (lv_at hl 3 rfl) ?_
        refine lv_iconst (v := 1) hx hb dX11_career_53 (by decide) ?_
        refine lv_isub hx hb dX11_career_54 ?_
        obtain ⟨r5, st6, hc, hf⟩ := bd_some hf
        refine c_calli (n := 2) (rest := []) E hN hP hS (fun sz => tX1_choiceAt l D cy ad fz hJ sz a0 (a1 - (1 : Int32)) st4 r5 st6 hc) (va_recv E.2 hP (ci := 1) (q0 := 20) rfl rfl) (gV k_998 k_999 k_1000 k_5 k_1001) qX1_choiceAt ⟨Nat.le_of_ble_eq_true rfl, Nat.le_of_ble_eq_true rfl⟩ ⟨Nat.le_refl _, Nat.le_refl _⟩ rfl hl.1 rfl (Nat.le_of_ble_eq_true rfl) dX11_career_55 (fun H locs hP hS => ?_)
        exact B58 r5 st6 _ _ ls hf (lv_sub hl [] rfl) hP hS
      · replace hf := it_pos hc hf
        refine lv_aload_n hx hb dX11_career_41 rfl (lv_at hl 0 rfl) ?_
        refine cg_11_264_4 E hP dX11_career_42 ?_
        refine lv_iload_n hx hb dX11_career_45 rfl (lv_at hl 2 rfl) ?_
        obtain ⟨hi, hf⟩ := gi_some hf
        refine cl_403 E hP hi dX11_career_46 ?_
        refine lv_goto (tgt := 58) hx hb dX11_career_47 (by decide) ?_
        exact B58 (st4.2.2.1 403 a0.toNatClampNeg) st4 _ _ ls hf (lv_sub hl [] rfl) hP hS
    · replace hf := it_pos hc hf
      exact B30 st _ _ ls hf (lv_sub hl [] rfl) hP hS
def fX4_light_b14 (fz : List FP) (k14 : Int32 → Int32 → St → Option (Int32 × St)) (v1 : Int32) (v2 : Int32) (st : St) : Option (Int32 × St) := if (6 : Int32) ≤ v2 then (lt (sI st 305 ((st.1 305) + (1 : Int32))) (fun st1 => some (((st1.1 305) - (1 : Int32)), st1))) else (gi v2 6 (gi v2 6 (lt (sA st 300 (upd (st.2.2.1 300) v2.toNatClampNeg ((st.2.2.1 300 v2.toNatClampNeg) ||| (((v1 >>> (v2 &&& 31)) &&& (1 : Int32)) <<< ((st.1 305) &&& 31))))) (fun st2 => lt (v2 + (1 : Int32)) (fun x3 => k14 v1 x3 st2)))))
def fX4_light (a0 : Int32) (fz : List FP) (st : St) : Option (Int32 × St) := if (st.1 305) < (10 : Int32) then (lp (fun _ _ _ => none) (fX4_light_b14 fz) 6000 a0 (0 : Int32) st) else (some ((-5 : Int32), st))
set_option maxHeartbeats 4000000 in
set_option maxRecDepth 100000 in
theorem tX4_light (l : Launch) (D : va_G) (cy : Nat → ClassId) (ad : Nat → Nat) (fz : List FP) (hJ : (cads ad fz).Nodup) (sz : Nat) (a0 : Int32) (st : St) (rr : Int32) (st' : St) (hf : fX4_light a0 fz st = some (rr, st')) : Met l yX4_light (Cond.code yX4_light cX4_light 3 (some .int) :: TT) (rmD 0) (cPc D cy ad fz [.ref (ad 399), .int a0] st sz) (cQi D cy ad fz rr st' sz) 0 0 (cA ad fz sz) := by
  refine c_meti (by decide) hJ (Nat.le_of_ble_eq_true rfl) (fun p e s m args below meth c ls E hx hb hr hlocks hown hT hD hN hl hP hS => ?_)
  replace hl : lv_has ls 3 [(0, .ref (ad 399)), (1, .int a0)] := hl
  unfold fX4_light at hf
  have L14 : ∀ (n : Nat) (v1 : Int32) (v2 : Int32) (st : St) (H : Heap) (locs : List Loc) (ls : Array Slot), lp (fun _ _ _ => none) (fX4_light_b14 fz) n v1 v2 st = some (rr, st') → lv_has ls 3 [(0, .ref (ad 399)), (1, .int v1), (2, .int v2)] → va_P D classes (cx cy ad fz st) H → va_S (cA ad fz s.heap.size) s.heap H locs → cGi l 0 D cy ad fz rr st' p e s m args below meth c H locs (F0 m 14 ls []) := by
    intro n
    induction n with
    | zero => intro v1 v2 st H locs ls hf; exact absurd hf (fun h => by cases h)
    | succ n K14 =>
      intro v1 v2 st H locs ls hf hl hP hS
      replace hf : fX4_light_b14 fz (lp (fun _ _ _ => none) (fX4_light_b14 fz) n) v1 v2 st = some (rr, st') := hf
      generalize lp (fun _ _ _ => none) (fX4_light_b14 fz) n = k14 at hf K14
      unfold fX4_light_b14 at hf
      refine lv_iload_n hx hb dX4_light_14 rfl (lv_at hl 2 rfl) ?_
      refine lv_bipush (v := 6) hx hb dX4_light_15 (by decide) ?_
      refine lv_icmp_ge (tgt := 45) hx hb dX4_light_17 (by decide) (fun hc => ?_) (fun hc => ?_)
      · replace hf := it_pos hc hf
        refine lv_aload_n hx hb dX4_light_45 rfl (lv_at hl 0 rfl) ?_
        refine lv_dup hx hb dX4_light_46 rfl ?_
        refine cg_4_33_3 E hP dX4_light_47 ?_
        refine lv_iconst (v := 1) hx hb dX4_light_50 (by decide) ?_
        refine lv_iadd hx hb dX4_light_51 ?_
        refine cp_4_33_3 E hD hP hS dX4_light_52 (fun st1 H locs ex hP hS => ?_)
        replace hf := lt_at ex hf; clear ex
        refine lv_aload_n hx hb dX4_light_55 rfl (lv_at hl 0 rfl) ?_
        refine cg_4_33_3 E hP dX4_light_56 ?_
        refine lv_iconst (v := 1) hx hb dX4_light_59 (by decide) ?_
        refine lv_isub hx hb dX4_light_60 ?_
        exact c_iret hx hb hr hlocks hf hP hS dX4_light_61
      · replace hf := it_neg hc hf
        refine lv_aload_n hx hb dX4_light_20 rfl (lv_at hl 0 rfl) ?_
        refine cg_4_9_3 E hP dX4_light_21 ?_
        refine lv_iload_n hx hb dX4_light_24 rfl (lv_at hl 2 rfl) ?_
        refine lv_dup2_11 hx hb dX4_light_25 rfl rfl ?_
        obtain ⟨hi, hf⟩ := gi_some hf
        refine cl_300 E hP hi dX4_light_26 ?_
        refine lv_iload_n hx hb dX4_light_27 rfl (lv_at hl 1 rfl) ?_
        refine lv_iload_n hx hb dX4_light_28 rfl (lv_at hl 2 rfl) ?_
        refine lv_ishr hx hb dX4_light_29 ?_
        refine lv_iconst (v := 1) hx hb dX4_light_30 (by decide) ?_
        refine lv_iand hx hb dX4_light_31 ?_
        refine lv_aload_n hx hb dX4_light_32 rfl (lv_at hl 0 rfl) ?_
        refine cg_4_33_3 E hP dX4_light_33 ?_
        refine lv_ishl hx hb dX4_light_36 ?_
        refine lv_ior hx hb dX4_light_37 ?_
        obtain ⟨hi, hf⟩ := gi_some hf
        refine cs_300 E hD hP hS hi dX4_light_38 (fun st2 H locs ex hP hS => ?_)
        replace hf := lt_at ex hf; clear ex
        obtain ⟨x3, ex⟩ : ∃ y : Int32, y = v2 + (1 : Int32) := ⟨_, rfl⟩
        replace hf := lt_at ex hf
        refine lv_iinc (v := x3) (lv' := [(2, .int x3), (0, .ref (ad 399)), (1, .int v1)]) hx hb dX4_light_39 hl (k := 2) rfl (by rw [ex]; rfl) (by decide) rfl (fun ls hl => ?_)
        clear ex
        refine lv_goto (tgt := 14) hx hb dX4_light_42 (by decide) ?_
        exact K14 v1 x3 st2 _ _ ls hf (lv_sub hl [1, 2, 0] rfl) hP hS
  refine lv_aload_n hx hb dX4_light_0 rfl (lv_at hl 0 rfl) ?_
  refine cg_4_33_3 E hP dX4_light_1 ?_
  refine lv_bipush (v := 10) hx hb dX4_light_4 (by decide) ?_
  refine lv_icmp_lt (tgt := 12) hx hb dX4_light_6 (by decide) (fun hc => ?_) (fun hc => ?_)
  · replace hf := it_pos hc hf
    refine lv_iconst (v := 0) hx hb dX4_light_12 (by decide) ?_
    refine lv_istore_n (lv' := [(2, .int (0 : Int32)), (0, .ref (ad 399)), (1, .int a0)]) hx hb dX4_light_13 rfl hl (by decide) rfl (fun ls hl => ?_)
    exact L14 6000 a0 (0 : Int32) st _ _ ls hf (lv_sub hl [1, 2, 0] rfl) hP hS
  · replace hf := it_neg hc hf
    refine lv_bipush (v := -5) hx hb dX4_light_9 (by decide) ?_
    exact c_iret hx hb hr hlocks hf hP hS dX4_light_11
def fX11_fire (a0 : Int32) (fz : List FP) (st : St) : Option (Int32 × St) := bs (fX11_within a0 (0 : Int32) (63 : Int32)) (fun r1 => if r1 = 0 then (bd (fX11_refuse (-1 : Int32) fz st) (fun r6 st7 => some (r6, st7))) else (bd (fX4_light a0 fz st) (fun r2 st3 => bd (fX11_settle r2 fz st3) (fun r4 st5 => some (r4, st5)))))
set_option maxHeartbeats 4000000 in
set_option maxRecDepth 100000 in
theorem tX11_fire (l : Launch) (D : va_G) (cy : Nat → ClassId) (ad : Nat → Nat) (fz : List FP) (hJ : (cads ad fz).Nodup) (sz : Nat) (a0 : Int32) (st : St) (rr : Int32) (st' : St) (hf : fX11_fire a0 fz st = some (rr, st')) : Met l yX11_fire (Cond.code yX11_fire cX11_fire 2 (some .int) :: TT) (rmD 3) (cPc D cy ad fz [.ref (ad 99), .int a0] st sz) (cQi D cy ad fz rr st' sz) 0 0 (cA ad fz sz) := by
  refine c_meti (by decide) hJ (Nat.le_of_ble_eq_true rfl) (fun p e s m args below meth c ls E hx hb hr hlocks hown hT hD hN hl hP hS => ?_)
  replace hl : lv_has ls 2 [(0, .ref (ad 99)), (1, .int a0)] := hl
  unfold fX11_fire at hf
  refine lv_iload_n hx hb dX11_fire_0 rfl (lv_at hl 1 rfl) ?_
  refine lv_iconst (v := 0) hx hb dX11_fire_1 (by decide) ?_
  refine lv_bipush (v := 63) hx hb dX11_fire_2 (by decide) ?_
  obtain ⟨r1, hc, hf⟩ := bs_some hf
  refine s_calli (n := 3) (rest := []) E.1 (tX11_within l _ a0 (0 : Int32) (63 : Int32) r1 hc) (gS k_472 k_458 k_1 k_459) qX11_within ⟨Nat.le_of_ble_eq_true rfl, Nat.le_of_ble_eq_true rfl⟩ ⟨Nat.le_refl _, Nat.le_refl _⟩ rfl hl.1 rfl (Nat.le_of_ble_eq_true rfl) dX11_fire_4 ?_
  refine lv_if_ne (tgt := 16) hx hb dX11_fire_7 (by decide) (fun hc => ?_) (fun hc => ?_)
  · replace hf := it_neg hc hf
    refine lv_aload_n hx hb dX11_fire_16 rfl (lv_at hl 0 rfl) ?_
    refine lv_aload_n hx hb dX11_fire_17 rfl (lv_at hl 0 rfl) ?_
    refine cg_11_10_0 E hP dX11_fire_18 ?_
    refine cg_11_270_1 E hP dX11_fire_21 ?_
    refine lv_iload_n hx hb dX11_fire_24 rfl (lv_at hl 1 rfl) ?_
    obtain ⟨r2, st3, hc, hf⟩ := bd_some hf
    refine c_calli (n := 1) (rest := [.ref (ad 99)]) E hN hP hS (fun sz => tX4_light l D cy ad fz hJ sz a0 st r2 st3 hc) (va_recv E.2 hP (ci := 4) (q0 := 14) rfl rfl) (gV k_1007 k_1008 k_1009 k_4 k_1010) qX4_light ⟨Nat.le_of_ble_eq_true rfl, Nat.le_of_ble_eq_true rfl⟩ ⟨Nat.le_refl _, Nat.le_refl _⟩ rfl hl.1 rfl (Nat.le_of_ble_eq_true rfl) dX11_fire_25 (fun H locs hP hS => ?_)
    obtain ⟨r4, st5, hc, hf⟩ := bd_some hf
    refine c_calli (n := 1) (rest := []) E hN hP hS (fun sz => tX11_settle l D cy ad fz hJ sz r2 st3 r4 st5 hc) (va_recv E.2 hP (ci := 11) (q0 := 0) rfl rfl) (gV k_464 k_466 ks_0 k_1 k_467) qX11_settle ⟨Nat.le_of_ble_eq_true rfl, Nat.le_of_ble_eq_true rfl⟩ ⟨Nat.le_refl _, Nat.le_refl _⟩ rfl hl.1 rfl (Nat.le_of_ble_eq_true rfl) dX11_fire_28 (fun H locs hP hS => ?_)
    exact c_iret hx hb hr hlocks hf hP hS dX11_fire_31
  · replace hf := it_pos hc hf
    refine lv_aload_n hx hb dX11_fire_10 rfl (lv_at hl 0 rfl) ?_
    refine lv_iconst (v := -1) hx hb dX11_fire_11 (by decide) ?_
    obtain ⟨r6, st7, hc, hf⟩ := bd_some hf
    refine c_calli (n := 1) (rest := []) E hN hP hS (fun sz => tX11_refuse l D cy ad fz hJ sz (-1 : Int32) st r6 st7 hc) (va_recv E.2 hP (ci := 11) (q0 := 0) rfl rfl) (gV k_468 k_470 ks_1 k_1 k_471) qX11_refuse ⟨Nat.le_of_ble_eq_true rfl, Nat.le_of_ble_eq_true rfl⟩ ⟨Nat.le_refl _, Nat.le_refl _⟩ rfl hl.1 rfl (Nat.le_of_ble_eq_true rfl) dX11_fire_12 (fun H locs hP hS => ?_)
    exact c_iret hx hb hr hlocks hf hP hS dX11_fire_15
def fX11_needs_b19 (fz : List FP) (st : St) : Option (Int32 × St) := bd (fX11_refuse (-1 : Int32) fz st) (fun r1 st2 => some (r1, st2))
def fX11_needs (a0 : Int32) (a1 : Int32) (fz : List FP) (st : St) : Option (Int32 × St) := bs (fX11_within a0 (0 : Int32) (5 : Int32)) (fun r3 => if r3 = 0 then (fX11_needs_b19 fz st) else (bs (fX11_within a1 (0 : Int32) (9 : Int32)) (fun r4 => if r4 = 0 then (fX11_needs_b19 fz st) else (gi a0 6 (lt (st.2.2.1 301 a0.toNatClampNeg) (fun x5 => gi a0 6 (lt (sA st 301 (upd (st.2.2.1 301) a0.toNatClampNeg a1)) (fun st6 => bd (fX11_settle x5 fz st6) (fun r7 st8 => some (r7, st8))))))))))
set_option maxHeartbeats 4000000 in
set_option maxRecDepth 100000 in
theorem tX11_needs (l : Launch) (D : va_G) (cy : Nat → ClassId) (ad : Nat → Nat) (fz : List FP) (hJ : (cads ad fz).Nodup) (sz : Nat) (a0 : Int32) (a1 : Int32) (st : St) (rr : Int32) (st' : St) (hf : fX11_needs a0 a1 fz st = some (rr, st')) : Met l yX11_needs (Cond.code yX11_needs cX11_needs 4 (some .int) :: TT) (rmD 3) (cPc D cy ad fz [.ref (ad 99), .int a0, .int a1] st sz) (cQi D cy ad fz rr st' sz) 0 0 (cA ad fz sz) := by
  refine c_meti (by decide) hJ (Nat.le_of_ble_eq_true rfl) (fun p e s m args below meth c ls E hx hb hr hlocks hown hT hD hN hl hP hS => ?_)
  replace hl : lv_has ls 4 [(0, .ref (ad 99)), (1, .int a0), (2, .int a1)] := hl
  unfold fX11_needs at hf
  have B19 : ∀ (st : St) (H : Heap) (locs : List Loc) (ls : Array Slot), fX11_needs_b19 fz st = some (rr, st') → lv_has ls 4 [(0, .ref (ad 99))] → va_P D classes (cx cy ad fz st) H → va_S (cA ad fz s.heap.size) s.heap H locs → cGi l 3 D cy ad fz rr st' p e s m args below meth c H locs (F0 m 19 ls []) := by
    intro st H locs ls hf hl hP hS
    unfold fX11_needs_b19 at hf
    refine lv_aload_n hx hb dX11_needs_19 rfl (lv_at hl 0 rfl) ?_
    refine lv_iconst (v := -1) hx hb dX11_needs_20 (by decide) ?_
    obtain ⟨r1, st2, hc, hf⟩ := bd_some hf
    refine c_calli (n := 1) (rest := []) E hN hP hS (fun sz => tX11_refuse l D cy ad fz hJ sz (-1 : Int32) st r1 st2 hc) (va_recv E.2 hP (ci := 11) (q0 := 0) rfl rfl) (gV k_468 k_470 ks_1 k_1 k_471) qX11_refuse ⟨Nat.le_of_ble_eq_true rfl, Nat.le_of_ble_eq_true rfl⟩ ⟨Nat.le_refl _, Nat.le_refl _⟩ rfl hl.1 rfl (Nat.le_of_ble_eq_true rfl) dX11_needs_21 (fun H locs hP hS => ?_)
    exact c_iret hx hb hr hlocks hf hP hS dX11_needs_24
  refine lv_iload_n hx hb dX11_needs_0 rfl (lv_at hl 1 rfl) ?_
  refine lv_iconst (v := 0) hx hb dX11_needs_1 (by decide) ?_
  refine lv_iconst (v := 5) hx hb dX11_needs_2 (by decide) ?_
  obtain ⟨r3, hc, hf⟩ := bs_some hf
  refine s_calli (n := 3) (rest := []) E.1 (tX11_within l _ a0 (0 : Int32) (5 : Int32) r3 hc) (gS k_472 k_458 k_1 k_459) qX11_within ⟨Nat.le_of_ble_eq_true rfl, Nat.le_of_ble_eq_true rfl⟩ ⟨Nat.le_refl _, Nat.le_refl _⟩ rfl hl.1 rfl (Nat.le_of_ble_eq_true rfl) dX11_needs_3 ?_
  refine lv_if_eq (tgt := 19) hx hb dX11_needs_6 (by decide) (fun hc => ?_) (fun hc => ?_)
  · replace hf := it_pos hc hf
    exact B19 st _ _ ls hf (lv_sub hl [0] rfl) hP hS
  · replace hf := it_neg hc hf
    refine lv_iload_n hx hb dX11_needs_9 rfl (lv_at hl 2 rfl) ?_
    refine lv_iconst (v := 0) hx hb dX11_needs_10 (by decide) ?_
    refine lv_bipush (v := 9) hx hb dX11_needs_11 (by decide) ?_
    obtain ⟨r4, hc, hf⟩ := bs_some hf
    refine s_calli (n := 3) (rest := []) E.1 (tX11_within l _ a1 (0 : Int32) (9 : Int32) r4 hc) (gS k_472 k_458 k_1 k_459) qX11_within ⟨Nat.le_of_ble_eq_true rfl, Nat.le_of_ble_eq_true rfl⟩ ⟨Nat.le_refl _, Nat.le_refl _⟩ rfl hl.1 rfl (Nat.le_of_ble_eq_true rfl) dX11_needs_13 ?_
    refine lv_if_ne (tgt := 25) hx hb dX11_needs_16 (by decide) (fun hc => ?_) (fun hc => ?_)
    · replace hf := it_neg hc hf
      refine lv_aload_n hx hb dX11_needs_25 rfl (lv_at hl 0 rfl) ?_
      refine cg_11_10_0 E hP dX11_needs_26 ?_
      refine cg_11_270_1 E hP dX11_needs_29 ?_
      refine cg_11_279_3 E hP dX11_needs_32 ?_
      refine lv_iload_n hx hb dX11_needs_35 rfl (lv_at hl 1 rfl) ?_
      obtain ⟨hi, hf⟩ := gi_some hf
      refine cl_301 E hP hi dX11_needs_36 ?_
      refine lv_topi (fun x5 ex => ?_)
      replace hf := lt_at ex hf; clear ex
      refine lv_istore_n (lv' := [(3, .int x5), (0, .ref (ad 99)), (1, .int a0), (2, .int a1)]) hx hb dX11_needs_37 rfl hl (by decide) rfl (fun ls hl => ?_)
      refine lv_aload_n hx hb dX11_needs_38 rfl (lv_at hl 1 rfl) ?_
      refine cg_11_10_0 E hP dX11_needs_39 ?_
      refine cg_11_270_1 E hP dX11_needs_42 ?_
      refine cg_11_279_3 E hP dX11_needs_45 ?_
      refine lv_iload_n hx hb dX11_needs_48 rfl (lv_at hl 2 rfl) ?_
      refine lv_iload_n hx hb dX11_needs_49 rfl (lv_at hl 3 rfl) ?_
      obtain ⟨hi, hf⟩ := gi_some hf
      refine cs_301 E hD hP hS hi dX11_needs_50 (fun st6 H locs ex hP hS => ?_)
      replace hf := lt_at ex hf; clear ex
      refine lv_aload_n hx hb dX11_needs_51 rfl (lv_at hl 1 rfl) ?_
      refine lv_iload_n hx hb dX11_needs_52 rfl (lv_at hl 0 rfl) ?_
      obtain ⟨r7, st8, hc, hf⟩ := bd_some hf
      refine c_calli (n := 1) (rest := []) E hN hP hS (fun sz => tX11_settle l D cy ad fz hJ sz x5 st6 r7 st8 hc) (va_recv E.2 hP (ci := 11) (q0 := 0) rfl rfl) (gV k_464 k_466 ks_0 k_1 k_467) qX11_settle ⟨Nat.le_of_ble_eq_true rfl, Nat.le_of_ble_eq_true rfl⟩ ⟨Nat.le_refl _, Nat.le_refl _⟩ rfl hl.1 rfl (Nat.le_of_ble_eq_true rfl) dX11_needs_53 (fun H locs hP hS => ?_)
      exact c_iret hx hb hr hlocks hf hP hS dX11_needs_56
    · replace hf := it_pos hc hf
      exact B19 st _ _ ls hf (lv_sub hl [0] rfl) hP hS
def fJ6_bitCount_0f7a4 (a0 : Int32) : Option Int32 := lt (a0 - (((a0.toUInt32 >>> ((1 : Int32).toUInt32 &&& Int32.toUInt32 31)).toInt32) &&& (1431655765 : Int32))) (fun x1 => lt ((x1 &&& (858993459 : Int32)) + (((x1.toUInt32 >>> ((2 : Int32).toUInt32 &&& Int32.toUInt32 31)).toInt32) &&& (858993459 : Int32))) (fun x2 => lt ((x2 + ((x2.toUInt32 >>> ((4 : Int32).toUInt32 &&& Int32.toUInt32 31)).toInt32)) &&& (252645135 : Int32)) (fun x3 => lt (x3 + ((x3.toUInt32 >>> ((8 : Int32).toUInt32 &&& Int32.toUInt32 31)).toInt32)) (fun x4 => lt (x4 + ((x4.toUInt32 >>> ((16 : Int32).toUInt32 &&& Int32.toUInt32 31)).toInt32)) (fun x5 => some (x5 &&& (63 : Int32)))))))
set_option maxHeartbeats 4000000 in
set_option maxRecDepth 100000 in
theorem tJ6_bitCount_0f7a4 (l : Launch) (hh : Heap) (a0 : Int32) (rr : Int32) (hf : fJ6_bitCount_0f7a4 a0 = some rr) : Met l yJ6_bitCount_0f7a4 (Cond.code yJ6_bitCount_0f7a4 cJ6_bitCount_0f7a4 1 (some .int) :: TT) (rmD 0) (sPc [.int a0] hh) (sQi rr hh) 0 0 (fun _ => False) := by
  refine s_meti (by decide) (Nat.le_of_ble_eq_true rfl) (fun p e s m args below meth c ls E hx hb hr hlocks hown hT hl => ?_)
  replace hl : lv_has ls 1 [(0, .int a0)] := hl
  unfold fJ6_bitCount_0f7a4 at hf
  refine lv_iload_n hx hb dJ6_bitCount_0f7a4_0 rfl (lv_at hl 0 rfl) ?_
  refine lv_iload_n hx hb dJ6_bitCount_0f7a4_1 rfl (lv_at hl 0 rfl) ?_
  refine lv_iconst (v := 1) hx hb dJ6_bitCount_0f7a4_2 (by decide) ?_
  refine lv_iushr (v := (a0.toUInt32 >>> ((1 : Int32).toUInt32 &&& Int32.toUInt32 31)).toInt32) hx hb dJ6_bitCount_0f7a4_3 rfl ?_
  refine lv_ldcw (v := 1431655765) hx hb hown (hT _ k_1026) dJ6_bitCount_0f7a4_4 ?_
  refine lv_iand hx hb dJ6_bitCount_0f7a4_7 ?_
  refine lv_isub hx hb dJ6_bitCount_0f7a4_8 ?_
  refine lv_topi (fun x1 ex => ?_)
  replace hf := lt_at ex hf; clear ex
  refine lv_istore_n (lv' := [(0, .int x1)]) hx hb dJ6_bitCount_0f7a4_9 rfl hl (by decide) rfl (fun ls hl => ?_)
  refine lv_iload_n hx hb dJ6_bitCount_0f7a4_10 rfl (lv_at hl 0 rfl) ?_
  refine lv_ldcw (v := 858993459) hx hb hown (hT _ k_1027) dJ6_bitCount_0f7a4_11 ?_
  refine lv_iand hx hb dJ6_bitCount_0f7a4_14 ?_
  refine lv_iload_n hx hb dJ6_bitCount_0f7a4_15 rfl (lv_at hl 0 rfl) ?_
  refine lv_iconst (v := 2) hx hb dJ6_bitCount_0f7a4_16 (by decide) ?_
  refine lv_iushr (v := (x1.toUInt32 >>> ((2 : Int32).toUInt32 &&& Int32.toUInt32 31)).toInt32) hx hb dJ6_bitCount_0f7a4_17 rfl ?_
  refine lv_ldcw (v := 858993459) hx hb hown (hT _ k_1027) dJ6_bitCount_0f7a4_18 ?_
  refine lv_iand hx hb dJ6_bitCount_0f7a4_21 ?_
  refine lv_iadd hx hb dJ6_bitCount_0f7a4_22 ?_
  refine lv_topi (fun x2 ex => ?_)
  replace hf := lt_at ex hf; clear ex
  refine lv_istore_n (lv' := [(0, .int x2)]) hx hb dJ6_bitCount_0f7a4_23 rfl hl (by decide) rfl (fun ls hl => ?_)
  refine lv_iload_n hx hb dJ6_bitCount_0f7a4_24 rfl (lv_at hl 0 rfl) ?_
  refine lv_iload_n hx hb dJ6_bitCount_0f7a4_25 rfl (lv_at hl 0 rfl) ?_
  refine lv_iconst (v := 4) hx hb dJ6_bitCount_0f7a4_26 (by decide) ?_
  refine lv_iushr (v := (x2.toUInt32 >>> ((4 : Int32).toUInt32 &&& Int32.toUInt32 31)).toInt32) hx hb dJ6_bitCount_0f7a4_27 rfl ?_
  refine lv_iadd hx hb dJ6_bitCount_0f7a4_28 ?_
  refine lv_ldcw (v := 252645135) hx hb hown (hT _ k_1028) dJ6_bitCount_0f7a4_29 ?_
  refine lv_iand hx hb dJ6_bitCount_0f7a4_32 ?_
  refine lv_topi (fun x3 ex => ?_)
  replace hf := lt_at ex hf; clear ex
  refine lv_istore_n (lv' := [(0, .int x3)]) hx hb dJ6_bitCount_0f7a4_33 rfl hl (by decide) rfl (fun ls hl => ?_)
  refine lv_iload_n hx hb dJ6_bitCount_0f7a4_34 rfl (lv_at hl 0 rfl) ?_
  refine lv_iload_n hx hb dJ6_bitCount_0f7a4_35 rfl (lv_at hl 0 rfl) ?_
  refine lv_bipush (v := 8) hx hb dJ6_bitCount_0f7a4_36 (by decide) ?_
  refine lv_iushr (v := (x3.toUInt32 >>> ((8 : Int32).toUInt32 &&& Int32.toUInt32 31)).toInt32) hx hb dJ6_bitCount_0f7a4_38 rfl ?_
  refine lv_iadd hx hb dJ6_bitCount_0f7a4_39 ?_
  refine lv_topi (fun x4 ex => ?_)
  replace hf := lt_at ex hf; clear ex
  refine lv_istore_n (lv' := [(0, .int x4)]) hx hb dJ6_bitCount_0f7a4_40 rfl hl (by decide) rfl (fun ls hl => ?_)
  refine lv_iload_n hx hb dJ6_bitCount_0f7a4_41 rfl (lv_at hl 0 rfl) ?_
  refine lv_iload_n hx hb dJ6_bitCount_0f7a4_42 rfl (lv_at hl 0 rfl) ?_
  refine lv_bipush (v := 16) hx hb dJ6_bitCount_0f7a4_43 (by decide) ?_
  refine lv_iushr (v := (x4.toUInt32 >>> ((16 : Int32).toUInt32 &&& Int32.toUInt32 31)).toInt32) hx hb dJ6_bitCount_0f7a4_45 rfl ?_
  refine lv_iadd hx hb dJ6_bitCount_0f7a4_46 ?_
  refine lv_topi (fun x5 ex => ?_)
  replace hf := lt_at ex hf; clear ex
  refine lv_istore_n (lv' := [(0, .int x5)]) hx hb dJ6_bitCount_0f7a4_47 rfl hl (by decide) rfl (fun ls hl => ?_)
  refine lv_iload_n hx hb dJ6_bitCount_0f7a4_48 rfl (lv_at hl 0 rfl) ?_
  refine lv_bipush (v := 63) hx hb dJ6_bitCount_0f7a4_49 (by decide) ?_
  refine lv_iand hx hb dJ6_bitCount_0f7a4_51 ?_
  exact s_iret hx hb hr hlocks hf dJ6_bitCount_0f7a4_52
def fX4_suffices_b2 (fz : List FP) (k2 : Int32 → Int32 → St → Option (Int32 × St)) (v1 : Int32) (v2 : Int32) (st : St) : Option (Int32 × St) := if (6 : Int32) ≤ v2 then (some ((1 : Int32), st)) else (gi v2 6 (bs (fJ6_bitCount_0f7a4 (v1 &&& (st.2.2.1 300 v2.toNatClampNeg))) (fun r1 => gi v2 6 (if (st.2.2.1 301 v2.toNatClampNeg) ≤ r1 then (lt (v2 + (1 : Int32)) (fun x2 => k2 v1 x2 st)) else (some ((0 : Int32), st))))))
def fX4_suffices (a0 : Int32) (fz : List FP) (st : St) : Option (Int32 × St) := lp (fun _ _ _ => none) (fX4_suffices_b2 fz) 6000 a0 (0 : Int32) st
set_option maxHeartbeats 4000000 in
set_option maxRecDepth 100000 in
theorem tX4_suffices (l : Launch) (D : va_G) (cy : Nat → ClassId) (ad : Nat → Nat) (fz : List FP) (hJ : (cads ad fz).Nodup) (sz : Nat) (a0 : Int32) (st : St) (rr : Int32) (st' : St) (hf : fX4_suffices a0 fz st = some (rr, st')) : Met l yX4_suffices (Cond.code yX4_suffices cX4_suffices 3 (some .boolean) :: TT) (rmD 1) (cPc D cy ad fz [.ref (ad 399), .int a0] st sz) (cQi D cy ad fz rr st' sz) 0 0 (cA ad fz sz) := by
  refine c_meti (by decide) hJ (Nat.le_of_ble_eq_true rfl) (fun p e s m args below meth c ls E hx hb hr hlocks hown hT hD hN hl hP hS => ?_)
  replace hl : lv_has ls 3 [(0, .ref (ad 399)), (1, .int a0)] := hl
  unfold fX4_suffices at hf
  have L2 : ∀ (n : Nat) (v1 : Int32) (v2 : Int32) (st : St) (H : Heap) (locs : List Loc) (ls : Array Slot), lp (fun _ _ _ => none) (fX4_suffices_b2 fz) n v1 v2 st = some (rr, st') → lv_has ls 3 [(0, .ref (ad 399)), (1, .int v1), (2, .int v2)] → va_P D classes (cx cy ad fz st) H → va_S (cA ad fz s.heap.size) s.heap H locs → cGi l 1 D cy ad fz rr st' p e s m args below meth c H locs (F0 m 2 ls []) := by
    intro n
    induction n with
    | zero => intro v1 v2 st H locs ls hf; exact absurd hf (fun h => by cases h)
    | succ n K2 =>
      intro v1 v2 st H locs ls hf hl hP hS
      replace hf : fX4_suffices_b2 fz (lp (fun _ _ _ => none) (fX4_suffices_b2 fz) n) v1 v2 st = some (rr, st') := hf
      generalize lp (fun _ _ _ => none) (fX4_suffices_b2 fz) n = k2 at hf K2
      unfold fX4_suffices_b2 at hf
      refine lv_iload_n hx hb dX4_suffices_2 rfl (lv_at hl 2 rfl) ?_
      refine lv_bipush (v := 6) hx hb dX4_suffices_3 (by decide) ?_
      refine lv_icmp_ge (tgt := 36) hx hb dX4_suffices_5 (by decide) (fun hc => ?_) (fun hc => ?_)
      · replace hf := it_pos hc hf
        refine lv_iconst (v := 1) hx hb dX4_suffices_36 (by decide) ?_
        exact c_zret hx hb hr hlocks (by decide) hf hP hS dX4_suffices_37
      · replace hf := it_neg hc hf
        refine lv_iload_n hx hb dX4_suffices_8 rfl (lv_at hl 1 rfl) ?_
        refine lv_aload_n hx hb dX4_suffices_9 rfl (lv_at hl 0 rfl) ?_
        refine cg_4_9_3 E hP dX4_suffices_10 ?_
        refine lv_iload_n hx hb dX4_suffices_13 rfl (lv_at hl 2 rfl) ?_
        obtain ⟨hi, hf⟩ := gi_some hf
        refine cl_300 E hP hi dX4_suffices_14 ?_
        refine lv_iand hx hb dX4_suffices_15 ?_
        obtain ⟨r1, hc, hf⟩ := bs_some hf
        refine s_calliX (n := 1) (rest := []) E.1 (tJ6_bitCount_0f7a4 l _ (v1 &&& (st.2.2.1 300 v2.toNatClampNeg)) r1 hc) k_1023 k_1024 k_21 k_1025 qJ6_bitCount_0f7a4.2 ⟨Nat.le_of_ble_eq_true rfl, Nat.le_of_ble_eq_true rfl⟩ ⟨Nat.le_refl _, Nat.le_refl _⟩ rfl hl.1 rfl (Nat.le_of_ble_eq_true rfl) dX4_suffices_16 ?_
        refine lv_aload_n hx hb dX4_suffices_19 rfl (lv_at hl 0 rfl) ?_
        refine cg_4_15_3 E hP dX4_suffices_20 ?_
        refine lv_iload_n hx hb dX4_suffices_23 rfl (lv_at hl 2 rfl) ?_
        obtain ⟨hi, hf⟩ := gi_some hf
        refine cl_301 E hP hi dX4_suffices_24 ?_
        refine lv_icmp_ge (tgt := 30) hx hb dX4_suffices_25 (by decide) (fun hc => ?_) (fun hc => ?_)
        · replace hf := it_pos hc hf
          obtain ⟨x2, ex⟩ : ∃ y : Int32, y = v2 + (1 : Int32) := ⟨_, rfl⟩
          replace hf := lt_at ex hf
          refine lv_iinc (v := x2) (lv' := [(2, .int x2), (0, .ref (ad 399)), (1, .int v1)]) hx hb dX4_suffices_30 hl (k := 2) rfl (by rw [ex]; rfl) (by decide) rfl (fun ls hl => ?_)
          clear ex
          refine lv_goto (tgt := 2) hx hb dX4_suffices_33 (by decide) ?_
          exact K2 v1 x2 st _ _ ls hf (lv_sub hl [1, 2, 0] rfl) hP hS
        · replace hf := it_neg hc hf
          refine lv_iconst (v := 0) hx hb dX4_suffices_28 (by decide) ?_
          exact c_zret hx hb hr hlocks (by decide) hf hP hS dX4_suffices_29
  refine lv_iconst (v := 0) hx hb dX4_suffices_0 (by decide) ?_
  refine lv_istore_n (lv' := [(2, .int (0 : Int32)), (0, .ref (ad 399)), (1, .int a0)]) hx hb dX4_suffices_1 rfl hl (by decide) rfl (fun ls hl => ?_)
  exact L2 6000 a0 (0 : Int32) st _ _ ls hf (lv_sub hl [1, 2, 0] rfl) hP hS
def fX4_fewestFires_b50 (fz : List FP) (k4 : Int32 → Int32 → St → Option (Int32 × St)) (v1 : Int32) (v2 : Int32) (st : St) : Option (Int32 × St) := lt (v2 + (1 : Int32)) (fun x1 => k4 v1 x1 st)
def fX4_fewestFires_b35 (fz : List FP) (k4 : Int32 → Int32 → St → Option (Int32 × St)) (v1 : Int32) (v2 : Int32) (w0 : Int32) (st : St) : Option (Int32 × St) := if w0 = 0 then (fX4_fewestFires_b50 fz k4 v1 v2 st) else (bd (fX4_suffices v2 fz st) (fun r2 st3 => if r2 = 0 then (fX4_fewestFires_b50 fz k4 v1 v2 st3) else (fX4_fewestFires_b50 fz k4 v2 v2 st3)))
def fX4_fewestFires_b30 (fz : List FP) (k4 : Int32 → Int32 → St → Option (Int32 × St)) (v1 : Int32) (v2 : Int32) (st : St) : Option (Int32 × St) := fX4_fewestFires_b35 fz k4 v1 v2 (1 : Int32) st
def fX4_fewestFires_b4 (fz : List FP) (k4 : Int32 → Int32 → St → Option (Int32 × St)) (v1 : Int32) (v2 : Int32) (st : St) : Option (Int32 × St) := if ((1 : Int32) <<< ((st.1 305) &&& 31)) ≤ v2 then (some (v1, st)) else (if v1 = (-1 : Int32) then (fX4_fewestFires_b30 fz k4 v1 v2 st) else (bs (fJ6_bitCount_0f7a4 v2) (fun r4 => bs (fJ6_bitCount_0f7a4 v1) (fun r5 => if r5 ≤ r4 then (fX4_fewestFires_b35 fz k4 v1 v2 (0 : Int32) st) else (fX4_fewestFires_b30 fz k4 v1 v2 st)))))
def fX4_fewestFires (fz : List FP) (st : St) : Option (Int32 × St) := lp (fun _ _ _ => none) (fX4_fewestFires_b4 fz) 6000 (-1 : Int32) (0 : Int32) st
set_option maxHeartbeats 4000000 in
set_option maxRecDepth 100000 in
theorem tX4_fewestFires (l : Launch) (D : va_G) (cy : Nat → ClassId) (ad : Nat → Nat) (fz : List FP) (hJ : (cads ad fz).Nodup) (sz : Nat) (st : St) (rr : Int32) (st' : St) (hf : fX4_fewestFires fz st = some (rr, st')) : Met l yX4_fewestFires (Cond.code yX4_fewestFires cX4_fewestFires 4 (some .int) :: TT) (rmD 2) (cPc D cy ad fz [.ref (ad 399)] st sz) (cQi D cy ad fz rr st' sz) 0 0 (cA ad fz sz) := by
  refine c_meti (by decide) hJ (Nat.le_of_ble_eq_true rfl) (fun p e s m args below meth c ls E hx hb hr hlocks hown hT hD hN hl hP hS => ?_)
  replace hl : lv_has ls 4 [(0, .ref (ad 399))] := hl
  unfold fX4_fewestFires at hf
  have L4 : ∀ (n : Nat) (v1 : Int32) (v2 : Int32) (st : St) (H : Heap) (locs : List Loc) (ls : Array Slot), lp (fun _ _ _ => none) (fX4_fewestFires_b4 fz) n v1 v2 st = some (rr, st') → lv_has ls 4 [(0, .ref (ad 399)), (1, .int v1), (2, .int v2)] → va_P D classes (cx cy ad fz st) H → va_S (cA ad fz s.heap.size) s.heap H locs → cGi l 2 D cy ad fz rr st' p e s m args below meth c H locs (F0 m 4 ls []) := by
    intro n
    induction n with
    | zero => intro v1 v2 st H locs ls hf; exact absurd hf (fun h => by cases h)
    | succ n K4 =>
      intro v1 v2 st H locs ls hf hl hP hS
      replace hf : fX4_fewestFires_b4 fz (lp (fun _ _ _ => none) (fX4_fewestFires_b4 fz) n) v1 v2 st = some (rr, st') := hf
      generalize lp (fun _ _ _ => none) (fX4_fewestFires_b4 fz) n = k4 at hf K4
      have B50 : ∀ (v1 : Int32) (v2 : Int32) (st : St) (H : Heap) (locs : List Loc) (ls : Array Slot), fX4_fewestFires_b50 fz k4 v1 v2 st = some (rr, st') → lv_has ls 4 [(0, .ref (ad 399)), (1, .int v1), (2, .int v2)] → va_P D classes (cx cy ad fz st) H → va_S (cA ad fz s.heap.size) s.heap H locs → cGi l 2 D cy ad fz rr st' p e s m args below meth c H locs (F0 m 50 ls []) := by
        intro v1 v2 st H locs ls hf hl hP hS
        unfold fX4_fewestFires_b50 at hf
        obtain ⟨x1, ex⟩ : ∃ y : Int32, y = v2 + (1 : Int32) := ⟨_, rfl⟩
        replace hf := lt_at ex hf
        refine lv_iinc (v := x1) (lv' := [(2, .int x1), (0, .ref (ad 399)), (1, .int v1)]) hx hb dX4_fewestFires_50 hl (k := 2) rfl (by rw [ex]; rfl) (by decide) rfl (fun ls hl => ?_)
        clear ex
        refine lv_goto (tgt := 4) hx hb dX4_fewestFires_53 (by decide) ?_
        exact K4 v1 x1 st _ _ ls hf (lv_sub hl [1, 2, 0] rfl) hP hS
      have B35 : ∀ (v1 : Int32) (v2 : Int32) (w0 : Int32) (st : St) (H : Heap) (locs : List Loc) (ls : Array Slot), fX4_fewestFires_b35 fz k4 v1 v2 w0 st = some (rr, st') → lv_has ls 4 [(0, .ref (ad 399)), (1, .int v1), (2, .int v2)] → va_P D classes (cx cy ad fz st) H → va_S (cA ad fz s.heap.size) s.heap H locs → cGi l 2 D cy ad fz rr st' p e s m args below meth c H locs (F0 m 35 ls [.int w0]) := by
        intro v1 v2 w0 st H locs ls hf hl hP hS
        unfold fX4_fewestFires_b35 at hf
        refine lv_istore_n (lv' := [(3, .int w0), (0, .ref (ad 399)), (1, .int v1), (2, .int v2)]) hx hb dX4_fewestFires_35 rfl hl (by decide) rfl (fun ls hl => ?_)
        refine lv_iload_n hx hb dX4_fewestFires_36 rfl (lv_at hl 0 rfl) ?_
        refine lv_if_eq (tgt := 50) hx hb dX4_fewestFires_37 (by decide) (fun hc => ?_) (fun hc => ?_)
        · replace hf := it_pos hc hf
          exact B50 v1 v2 st _ _ ls hf (lv_sub hl [1, 2, 3] rfl) hP hS
        · replace hf := it_neg hc hf
          refine lv_aload_n hx hb dX4_fewestFires_40 rfl (lv_at hl 1 rfl) ?_
          refine lv_iload_n hx hb dX4_fewestFires_41 rfl (lv_at hl 3 rfl) ?_
          obtain ⟨r2, st3, hc, hf⟩ := bd_some hf
          refine c_calli (n := 1) (rest := []) E hN hP hS (fun sz => tX4_suffices l D cy ad fz hJ sz v2 st r2 st3 hc) (va_recv E.2 hP (ci := 4) (q0 := 14) rfl rfl) (gV k_1029 k_1031 ks_33 k_4 k_1032) qX4_suffices ⟨Nat.le_of_ble_eq_true rfl, Nat.le_of_ble_eq_true rfl⟩ ⟨Nat.le_refl _, Nat.le_refl _⟩ rfl hl.1 rfl (Nat.le_of_ble_eq_true rfl) dX4_fewestFires_42 (fun H locs hP hS => ?_)
          refine lv_if_eq (tgt := 50) hx hb dX4_fewestFires_45 (by decide) (fun hc => ?_) (fun hc => ?_)
          · replace hf := it_pos hc hf
            exact B50 v1 v2 st3 _ _ ls hf (lv_sub hl [1, 2, 3] rfl) hP hS
          · replace hf := it_neg hc hf
            refine lv_iload_n hx hb dX4_fewestFires_48 rfl (lv_at hl 3 rfl) ?_
            refine lv_istore_n (lv' := [(1, .int v2), (3, .int w0), (0, .ref (ad 399)), (2, .int v2)]) hx hb dX4_fewestFires_49 rfl hl (by decide) rfl (fun ls hl => ?_)
            exact B50 v2 v2 st3 _ _ ls hf (lv_sub hl [2, 0, 3] rfl) hP hS
      have B30 : ∀ (v1 : Int32) (v2 : Int32) (st : St) (H : Heap) (locs : List Loc) (ls : Array Slot), fX4_fewestFires_b30 fz k4 v1 v2 st = some (rr, st') → lv_has ls 4 [(0, .ref (ad 399)), (1, .int v1), (2, .int v2)] → va_P D classes (cx cy ad fz st) H → va_S (cA ad fz s.heap.size) s.heap H locs → cGi l 2 D cy ad fz rr st' p e s m args below meth c H locs (F0 m 30 ls []) := by
        intro v1 v2 st H locs ls hf hl hP hS
        unfold fX4_fewestFires_b30 at hf
        refine lv_iconst (v := 1) hx hb dX4_fewestFires_30 (by decide) ?_
        refine lv_goto (tgt := 35) hx hb dX4_fewestFires_31 (by decide) ?_
        exact B35 v1 v2 (1 : Int32) st _ _ ls hf hl hP hS
      unfold fX4_fewestFires_b4 at hf
      refine lv_iload_n hx hb dX4_fewestFires_4 rfl (lv_at hl 2 rfl) ?_
      refine lv_iconst (v := 1) hx hb dX4_fewestFires_5 (by decide) ?_
      refine lv_aload_n hx hb dX4_fewestFires_6 rfl (lv_at hl 0 rfl) ?_
      refine cg_4_33_3 E hP dX4_fewestFires_7 ?_
      refine lv_ishl hx hb dX4_fewestFires_10 ?_
      refine lv_icmp_ge (tgt := 56) hx hb dX4_fewestFires_11 (by decide) (fun hc => ?_) (fun hc => ?_)
      · replace hf := it_pos hc hf
        refine lv_iload_n hx hb dX4_fewestFires_56 rfl (lv_at hl 1 rfl) ?_
        exact c_iret hx hb hr hlocks hf hP hS dX4_fewestFires_57
      · replace hf := it_neg hc hf
        refine lv_iload_n hx hb dX4_fewestFires_14 rfl (lv_at hl 1 rfl) ?_
        refine lv_iconst (v := -1) hx hb dX4_fewestFires_15 (by decide) ?_
        refine lv_icmp_eq (tgt := 30) hx hb dX4_fewestFires_16 (by decide) (fun hc => ?_) (fun hc => ?_)
        · replace hf := it_pos hc hf
          exact B30 v1 v2 st _ _ ls hf hl hP hS
        · replace hf := it_neg hc hf
          refine lv_iload_n hx hb dX4_fewestFires_19 rfl (lv_at hl 2 rfl) ?_
          obtain ⟨r4, hc, hf⟩ := bs_some hf
          refine s_calliX (n := 1) (rest := []) E.1 (tJ6_bitCount_0f7a4 l _ v2 r4 hc) k_1023 k_1024 k_21 k_1025 qJ6_bitCount_0f7a4.2 ⟨Nat.le_of_ble_eq_true rfl, Nat.le_of_ble_eq_true rfl⟩ ⟨Nat.le_refl _, Nat.le_refl _⟩ rfl hl.1 rfl (Nat.le_of_ble_eq_true rfl) dX4_fewestFires_20 ?_
          refine lv_iload_n hx hb dX4_fewestFires_23 rfl (lv_at hl 1 rfl) ?_
          obtain ⟨r5, hc, hf⟩ := bs_some hf
          refine s_calliX (n := 1) (rest := [.int r4]) E.1 (tJ6_bitCount_0f7a4 l _ v1 r5 hc) k_1023 k_1024 k_21 k_1025 qJ6_bitCount_0f7a4.2 ⟨Nat.le_of_ble_eq_true rfl, Nat.le_of_ble_eq_true rfl⟩ ⟨Nat.le_refl _, Nat.le_refl _⟩ rfl hl.1 rfl (Nat.le_of_ble_eq_true rfl) dX4_fewestFires_24 ?_
          refine lv_icmp_ge (tgt := 34) hx hb dX4_fewestFires_27 (by decide) (fun hc => ?_) (fun hc => ?_)
          · replace hf := it_pos hc hf
            refine lv_iconst (v := 0) hx hb dX4_fewestFires_34 (by decide) ?_
            exact B35 v1 v2 (0 : Int32) st _ _ ls hf hl hP hS
          · replace hf := it_neg hc hf
            exact B30 v1 v2 st _ _ ls hf hl hP hS
  refine lv_iconst (v := -1) hx hb dX4_fewestFires_0 (by decide) ?_
  refine lv_istore_n (lv' := [(1, .int (-1 : Int32)), (0, .ref (ad 399))]) hx hb dX4_fewestFires_1 rfl hl (by decide) rfl (fun ls hl => ?_)
  refine lv_iconst (v := 0) hx hb dX4_fewestFires_2 (by decide) ?_
  refine lv_istore_n (lv' := [(2, .int (0 : Int32)), (1, .int (-1 : Int32)), (0, .ref (ad 399))]) hx hb dX4_fewestFires_3 rfl hl (by decide) rfl (fun ls hl => ?_)
  exact L4 6000 (-1 : Int32) (0 : Int32) st _ _ ls hf (lv_sub hl [2, 1, 0] rfl) hP hS
def fX11_enough_b40 (fz : List FP) (w0 : Int32) (st : St) : Option (Int32 × St) := some (w0, st)
def fX11_enough_b32 (fz : List FP) (v2 : Int32) (st : St) : Option (Int32 × St) := fX11_enough_b40 fz v2 st
def fX11_enough (a0 : Int32) (fz : List FP) (st : St) : Option (Int32 × St) := bs (fX11_within a0 (0 : Int32) (1 : Int32)) (fun r1 => if r1 = 0 then (some ((-1 : Int32), st)) else (bd (fX4_fewestFires fz st) (fun r2 st3 => if r2 = (-1 : Int32) then (fX11_enough_b32 fz r2 st3) else (if a0 = (1 : Int32) then (fX11_enough_b32 fz r2 st3) else (bs (fJ6_bitCount_0f7a4 r2) (fun r4 => fX11_enough_b40 fz r4 st3))))))
set_option maxHeartbeats 4000000 in
set_option maxRecDepth 100000 in
theorem tX11_enough (l : Launch) (D : va_G) (cy : Nat → ClassId) (ad : Nat → Nat) (fz : List FP) (hJ : (cads ad fz).Nodup) (sz : Nat) (a0 : Int32) (st : St) (rr : Int32) (st' : St) (hf : fX11_enough a0 fz st = some (rr, st')) : Met l yX11_enough (Cond.code yX11_enough cX11_enough 3 (some .int) :: TT) (rmD 3) (cPc D cy ad fz [.ref (ad 99), .int a0] st sz) (cQi D cy ad fz rr st' sz) 0 0 (cA ad fz sz) := by
  refine c_meti (by decide) hJ (Nat.le_of_ble_eq_true rfl) (fun p e s m args below meth c ls E hx hb hr hlocks hown hT hD hN hl hP hS => ?_)
  replace hl : lv_has ls 3 [(0, .ref (ad 99)), (1, .int a0)] := hl
  unfold fX11_enough at hf
  have B40 : ∀ (w0 : Int32) (st : St) (H : Heap) (locs : List Loc) (ls : Array Slot), fX11_enough_b40 fz w0 st = some (rr, st') → lv_has ls 3 [] → va_P D classes (cx cy ad fz st) H → va_S (cA ad fz s.heap.size) s.heap H locs → cGi l 3 D cy ad fz rr st' p e s m args below meth c H locs (F0 m 40 ls [.int w0]) := by
    intro w0 st H locs ls hf hl hP hS
    unfold fX11_enough_b40 at hf
    exact c_iret hx hb hr hlocks hf hP hS dX11_enough_40
  have B32 : ∀ (v2 : Int32) (st : St) (H : Heap) (locs : List Loc) (ls : Array Slot), fX11_enough_b32 fz v2 st = some (rr, st') → lv_has ls 3 [(2, .int v2)] → va_P D classes (cx cy ad fz st) H → va_S (cA ad fz s.heap.size) s.heap H locs → cGi l 3 D cy ad fz rr st' p e s m args below meth c H locs (F0 m 32 ls []) := by
    intro v2 st H locs ls hf hl hP hS
    unfold fX11_enough_b32 at hf
    refine lv_iload_n hx hb dX11_enough_32 rfl (lv_at hl 0 rfl) ?_
    refine lv_goto (tgt := 40) hx hb dX11_enough_33 (by decide) ?_
    exact B40 v2 st _ _ ls hf (lv_sub hl [] rfl) hP hS
  refine lv_iload_n hx hb dX11_enough_0 rfl (lv_at hl 1 rfl) ?_
  refine lv_iconst (v := 0) hx hb dX11_enough_1 (by decide) ?_
  refine lv_iconst (v := 1) hx hb dX11_enough_2 (by decide) ?_
  obtain ⟨r1, hc, hf⟩ := bs_some hf
  refine s_calli (n := 3) (rest := []) E.1 (tX11_within l _ a0 (0 : Int32) (1 : Int32) r1 hc) (gS k_472 k_458 k_1 k_459) qX11_within ⟨Nat.le_of_ble_eq_true rfl, Nat.le_of_ble_eq_true rfl⟩ ⟨Nat.le_refl _, Nat.le_refl _⟩ rfl hl.1 rfl (Nat.le_of_ble_eq_true rfl) dX11_enough_3 ?_
  refine lv_if_ne (tgt := 11) hx hb dX11_enough_6 (by decide) (fun hc => ?_) (fun hc => ?_)
  · replace hf := it_neg hc hf
    refine lv_aload_n hx hb dX11_enough_11 rfl (lv_at hl 0 rfl) ?_
    refine cg_11_10_0 E hP dX11_enough_12 ?_
    refine cg_11_270_1 E hP dX11_enough_15 ?_
    obtain ⟨r2, st3, hc, hf⟩ := bd_some hf
    refine c_calli (n := 0) (rest := []) E hN hP hS (fun sz => tX4_fewestFires l D cy ad fz hJ sz st r2 st3 hc) (va_recv E.2 hP (ci := 4) (q0 := 14) rfl rfl) (gV k_1019 k_1020 k_1021 k_4 k_1022) qX4_fewestFires ⟨Nat.le_of_ble_eq_true rfl, Nat.le_of_ble_eq_true rfl⟩ ⟨Nat.le_refl _, Nat.le_refl _⟩ rfl hl.1 rfl (Nat.le_of_ble_eq_true rfl) dX11_enough_18 (fun H locs hP hS => ?_)
    refine lv_istore_n (lv' := [(2, .int r2), (0, .ref (ad 99)), (1, .int a0)]) hx hb dX11_enough_21 rfl hl (by decide) rfl (fun ls hl => ?_)
    refine lv_iload_n hx hb dX11_enough_22 rfl (lv_at hl 0 rfl) ?_
    refine lv_iconst (v := -1) hx hb dX11_enough_23 (by decide) ?_
    refine lv_icmp_eq (tgt := 32) hx hb dX11_enough_24 (by decide) (fun hc => ?_) (fun hc => ?_)
    · replace hf := it_pos hc hf
      exact B32 r2 st3 _ _ ls hf (lv_sub hl [0] rfl) hP hS
    · replace hf := it_neg hc hf
      refine lv_iload_n hx hb dX11_enough_27 rfl (lv_at hl 2 rfl) ?_
      refine lv_iconst (v := 1) hx hb dX11_enough_28 (by decide) ?_
      refine lv_icmp_ne (tgt := 36) hx hb dX11_enough_29 (by decide) (fun hc => ?_) (fun hc => ?_)
      · replace hf := it_neg hc hf
        refine lv_iload_n hx hb dX11_enough_36 rfl (lv_at hl 0 rfl) ?_
        obtain ⟨r4, hc, hf⟩ := bs_some hf
        refine s_calliX (n := 1) (rest := []) E.1 (tJ6_bitCount_0f7a4 l _ r2 r4 hc) k_1033 k_1024 k_21 k_1025 qJ6_bitCount_0f7a4.2 ⟨Nat.le_of_ble_eq_true rfl, Nat.le_of_ble_eq_true rfl⟩ ⟨Nat.le_refl _, Nat.le_refl _⟩ rfl hl.1 rfl (Nat.le_of_ble_eq_true rfl) dX11_enough_37 ?_
        exact B40 r4 st3 _ _ ls hf (lv_sub hl [] rfl) hP hS
      · replace hf := it_pos hc hf
        exact B32 r2 st3 _ _ ls hf (lv_sub hl [0] rfl) hP hS
  · replace hf := it_pos hc hf
    refine lv_iconst (v := -1) hx hb dX11_enough_9 (by decide) ?_
    exact c_iret hx hb hr hlocks hf hP hS dX11_enough_10
def fX4_note (a0 : Int32) (a1 : Int32) (fz : List FP) (st : St) : Option (Int32 × St) := if (st.1 306) < (8 : Int32) then (gi (st.1 306) 8 (lt (sA st 302 (upd (st.2.2.1 302) (st.1 306).toNatClampNeg a0)) (fun st1 => gi (st1.1 306) 8 (lt (sA st1 303 (upd (st1.2.2.1 303) (st1.1 306).toNatClampNeg a1)) (fun st2 => lt (sI st2 306 ((st2.1 306) + (1 : Int32))) (fun st3 => some ((st3.1 306), st3))))))) else (some ((-5 : Int32), st))
set_option maxHeartbeats 4000000 in
set_option maxRecDepth 100000 in
theorem tX4_note (l : Launch) (D : va_G) (cy : Nat → ClassId) (ad : Nat → Nat) (fz : List FP) (hJ : (cads ad fz).Nodup) (sz : Nat) (a0 : Int32) (a1 : Int32) (st : St) (rr : Int32) (st' : St) (hf : fX4_note a0 a1 fz st = some (rr, st')) : Met l yX4_note (Cond.code yX4_note cX4_note 3 (some .int) :: TT) (rmD 0) (cPc D cy ad fz [.ref (ad 399), .int a0, .int a1] st sz) (cQi D cy ad fz rr st' sz) 0 0 (cA ad fz sz) := by
  refine c_meti (by decide) hJ (Nat.le_of_ble_eq_true rfl) (fun p e s m args below meth c ls E hx hb hr hlocks hown hT hD hN hl hP hS => ?_)
  replace hl : lv_has ls 3 [(0, .ref (ad 399)), (1, .int a0), (2, .int a1)] := hl
  unfold fX4_note at hf
  refine lv_aload_n hx hb dX4_note_0 rfl (lv_at hl 0 rfl) ?_
  refine cg_4_37_3 E hP dX4_note_1 ?_
  refine lv_bipush (v := 8) hx hb dX4_note_4 (by decide) ?_
  refine lv_icmp_lt (tgt := 12) hx hb dX4_note_6 (by decide) (fun hc => ?_) (fun hc => ?_)
  · replace hf := it_pos hc hf
    refine lv_aload_n hx hb dX4_note_12 rfl (lv_at hl 0 rfl) ?_
    refine cg_4_18_3 E hP dX4_note_13 ?_
    refine lv_aload_n hx hb dX4_note_16 rfl (lv_at hl 0 rfl) ?_
    refine cg_4_37_3 E hP dX4_note_17 ?_
    refine lv_iload_n hx hb dX4_note_20 rfl (lv_at hl 1 rfl) ?_
    obtain ⟨hi, hf⟩ := gi_some hf
    refine cs_302 E hD hP hS hi dX4_note_21 (fun st1 H locs ex hP hS => ?_)
    replace hf := lt_at ex hf; clear ex
    refine lv_aload_n hx hb dX4_note_22 rfl (lv_at hl 0 rfl) ?_
    refine cg_4_21_3 E hP dX4_note_23 ?_
    refine lv_aload_n hx hb dX4_note_26 rfl (lv_at hl 0 rfl) ?_
    refine cg_4_37_3 E hP dX4_note_27 ?_
    refine lv_iload_n hx hb dX4_note_30 rfl (lv_at hl 2 rfl) ?_
    obtain ⟨hi, hf⟩ := gi_some hf
    refine cs_303 E hD hP hS hi dX4_note_31 (fun st2 H locs ex hP hS => ?_)
    replace hf := lt_at ex hf; clear ex
    refine lv_aload_n hx hb dX4_note_32 rfl (lv_at hl 0 rfl) ?_
    refine lv_dup hx hb dX4_note_33 rfl ?_
    refine cg_4_37_3 E hP dX4_note_34 ?_
    refine lv_iconst (v := 1) hx hb dX4_note_37 (by decide) ?_
    refine lv_iadd hx hb dX4_note_38 ?_
    refine cp_4_37_3 E hD hP hS dX4_note_39 (fun st3 H locs ex hP hS => ?_)
    replace hf := lt_at ex hf; clear ex
    refine lv_aload_n hx hb dX4_note_42 rfl (lv_at hl 0 rfl) ?_
    refine cg_4_37_3 E hP dX4_note_43 ?_
    exact c_iret hx hb hr hlocks hf hP hS dX4_note_46
  · replace hf := it_neg hc hf
    refine lv_bipush (v := -5) hx hb dX4_note_9 (by decide) ?_
    exact c_iret hx hb hr hlocks hf hP hS dX4_note_11
def fX11_counted_b19 (fz : List FP) (st : St) : Option (Int32 × St) := bd (fX11_refuse (-1 : Int32) fz st) (fun r1 st2 => some (r1, st2))
def fX11_counted (a0 : Int32) (a1 : Int32) (fz : List FP) (st : St) : Option (Int32 × St) := bs (fX11_within a0 (0 : Int32) (5 : Int32)) (fun r3 => if r3 = 0 then (fX11_counted_b19 fz st) else (bs (fX11_within a1 (0 : Int32) (9 : Int32)) (fun r4 => if r4 = 0 then (fX11_counted_b19 fz st) else (bd (fX4_note a0 a1 fz st) (fun r5 st6 => bd (fX11_settle r5 fz st6) (fun r7 st8 => some (r7, st8)))))))
set_option maxHeartbeats 4000000 in
set_option maxRecDepth 100000 in
theorem tX11_counted (l : Launch) (D : va_G) (cy : Nat → ClassId) (ad : Nat → Nat) (fz : List FP) (hJ : (cads ad fz).Nodup) (sz : Nat) (a0 : Int32) (a1 : Int32) (st : St) (rr : Int32) (st' : St) (hf : fX11_counted a0 a1 fz st = some (rr, st')) : Met l yX11_counted (Cond.code yX11_counted cX11_counted 3 (some .int) :: TT) (rmD 3) (cPc D cy ad fz [.ref (ad 99), .int a0, .int a1] st sz) (cQi D cy ad fz rr st' sz) 0 0 (cA ad fz sz) := by
  refine c_meti (by decide) hJ (Nat.le_of_ble_eq_true rfl) (fun p e s m args below meth c ls E hx hb hr hlocks hown hT hD hN hl hP hS => ?_)
  replace hl : lv_has ls 3 [(0, .ref (ad 99)), (1, .int a0), (2, .int a1)] := hl
  unfold fX11_counted at hf
  have B19 : ∀ (st : St) (H : Heap) (locs : List Loc) (ls : Array Slot), fX11_counted_b19 fz st = some (rr, st') → lv_has ls 3 [(0, .ref (ad 99))] → va_P D classes (cx cy ad fz st) H → va_S (cA ad fz s.heap.size) s.heap H locs → cGi l 3 D cy ad fz rr st' p e s m args below meth c H locs (F0 m 19 ls []) := by
    intro st H locs ls hf hl hP hS
    unfold fX11_counted_b19 at hf
    refine lv_aload_n hx hb dX11_counted_19 rfl (lv_at hl 0 rfl) ?_
    refine lv_iconst (v := -1) hx hb dX11_counted_20 (by decide) ?_
    obtain ⟨r1, st2, hc, hf⟩ := bd_some hf
    refine c_calli (n := 1) (rest := []) E hN hP hS (fun sz => tX11_refuse l D cy ad fz hJ sz (-1 : Int32) st r1 st2 hc) (va_recv E.2 hP (ci := 11) (q0 := 0) rfl rfl) (gV k_468 k_470 ks_1 k_1 k_471) qX11_refuse ⟨Nat.le_of_ble_eq_true rfl, Nat.le_of_ble_eq_true rfl⟩ ⟨Nat.le_refl _, Nat.le_refl _⟩ rfl hl.1 rfl (Nat.le_of_ble_eq_true rfl) dX11_counted_21 (fun H locs hP hS => ?_)
    exact c_iret hx hb hr hlocks hf hP hS dX11_counted_24
  refine lv_iload_n hx hb dX11_counted_0 rfl (lv_at hl 1 rfl) ?_
  refine lv_iconst (v := 0) hx hb dX11_counted_1 (by decide) ?_
  refine lv_iconst (v := 5) hx hb dX11_counted_2 (by decide) ?_
  obtain ⟨r3, hc, hf⟩ := bs_some hf
  refine s_calli (n := 3) (rest := []) E.1 (tX11_within l _ a0 (0 : Int32) (5 : Int32) r3 hc) (gS k_472 k_458 k_1 k_459) qX11_within ⟨Nat.le_of_ble_eq_true rfl, Nat.le_of_ble_eq_true rfl⟩ ⟨Nat.le_refl _, Nat.le_refl _⟩ rfl hl.1 rfl (Nat.le_of_ble_eq_true rfl) dX11_counted_3 ?_
  refine lv_if_eq (tgt := 19) hx hb dX11_counted_6 (by decide) (fun hc => ?_) (fun hc => ?_)
  · replace hf := it_pos hc hf
    exact B19 st _ _ ls hf (lv_sub hl [0] rfl) hP hS
  · replace hf := it_neg hc hf
    refine lv_iload_n hx hb dX11_counted_9 rfl (lv_at hl 2 rfl) ?_
    refine lv_iconst (v := 0) hx hb dX11_counted_10 (by decide) ?_
    refine lv_bipush (v := 9) hx hb dX11_counted_11 (by decide) ?_
    obtain ⟨r4, hc, hf⟩ := bs_some hf
    refine s_calli (n := 3) (rest := []) E.1 (tX11_within l _ a1 (0 : Int32) (9 : Int32) r4 hc) (gS k_472 k_458 k_1 k_459) qX11_within ⟨Nat.le_of_ble_eq_true rfl, Nat.le_of_ble_eq_true rfl⟩ ⟨Nat.le_refl _, Nat.le_refl _⟩ rfl hl.1 rfl (Nat.le_of_ble_eq_true rfl) dX11_counted_13 ?_
    refine lv_if_ne (tgt := 25) hx hb dX11_counted_16 (by decide) (fun hc => ?_) (fun hc => ?_)
    · replace hf := it_neg hc hf
      refine lv_aload_n hx hb dX11_counted_25 rfl (lv_at hl 0 rfl) ?_
      refine lv_aload_n hx hb dX11_counted_26 rfl (lv_at hl 0 rfl) ?_
      refine cg_11_10_0 E hP dX11_counted_27 ?_
      refine cg_11_270_1 E hP dX11_counted_30 ?_
      refine lv_iload_n hx hb dX11_counted_33 rfl (lv_at hl 1 rfl) ?_
      refine lv_iload_n hx hb dX11_counted_34 rfl (lv_at hl 2 rfl) ?_
      obtain ⟨r5, st6, hc, hf⟩ := bd_some hf
      refine c_calli (n := 2) (rest := [.ref (ad 99)]) E hN hP hS (fun sz => tX4_note l D cy ad fz hJ sz a0 a1 st r5 st6 hc) (va_recv E.2 hP (ci := 4) (q0 := 14) rfl rfl) (gV k_1038 k_1039 k_1040 k_4 k_1041) qX4_note ⟨Nat.le_of_ble_eq_true rfl, Nat.le_of_ble_eq_true rfl⟩ ⟨Nat.le_refl _, Nat.le_refl _⟩ rfl hl.1 rfl (Nat.le_of_ble_eq_true rfl) dX11_counted_35 (fun H locs hP hS => ?_)
      obtain ⟨r7, st8, hc, hf⟩ := bd_some hf
      refine c_calli (n := 1) (rest := []) E hN hP hS (fun sz => tX11_settle l D cy ad fz hJ sz r5 st6 r7 st8 hc) (va_recv E.2 hP (ci := 11) (q0 := 0) rfl rfl) (gV k_464 k_466 ks_0 k_1 k_467) qX11_settle ⟨Nat.le_of_ble_eq_true rfl, Nat.le_of_ble_eq_true rfl⟩ ⟨Nat.le_refl _, Nat.le_refl _⟩ rfl hl.1 rfl (Nat.le_of_ble_eq_true rfl) dX11_counted_38 (fun H locs hP hS => ?_)
      exact c_iret hx hb hr hlocks hf hP hS dX11_counted_41
    · replace hf := it_pos hc hf
      exact B19 st _ _ ls hf (lv_sub hl [0] rfl) hP hS
