def fJ7_fill_53178__300_b5 (fz : List FP) (k5 : Int32 → Int32 → Int32 → St → Option (Unit × St)) (v1 : Int32) (v2 : Int32) (v3 : Int32) (st : St) : Option (Unit × St) := if v3 ≤ v2 then (some ((), st)) else (gi v2 6 (lt (sA st 300 (upd (st.2.2.1 300) v2.toNatClampNeg v1)) (fun st1 => lt (v2 + (1 : Int32)) (fun x2 => k5 v1 x2 v3 st1))))
def fJ7_fill_53178__300 (a1 : Int32) (fz : List FP) (st : St) : Option (Unit × St) := lp (fun _ _ _ _ => none) (fJ7_fill_53178__300_b5 fz) 6000 a1 (0 : Int32) (6 : Int32) st
set_option maxHeartbeats 4000000 in
set_option maxRecDepth 100000 in
theorem tJ7_fill_53178__300 (l : Launch) (D : va_G) (cy : Nat → ClassId) (ad : Nat → Nat) (fz : List FP) (hJ : (cads ad fz).Nodup) (sz : Nat) (a1 : Int32) (st : St) (rr : Unit) (st' : St) (hf : fJ7_fill_53178__300 a1 fz st = some (rr, st')) : Met l yJ7_fill_53178 (Cond.code yJ7_fill_53178 cJ7_fill_53178 4 none :: TT) (rmD 0) (cPc D cy ad fz [.ref (ad 300), .int a1] st sz) (cQv D cy ad fz rr st' sz) 0 0 (cA ad fz sz) := by
  refine c_metv (by decide) hJ (Nat.le_of_ble_eq_true rfl) (fun p e s m args below meth c ls E hx hb hr hlocks hown hT hD hN hl hP hS => ?_)
  replace hl : lv_has ls 4 [(0, .ref (ad 300)), (1, .int a1)] := hl
  unfold fJ7_fill_53178__300 at hf
  have L5 : ∀ (n : Nat) (v1 : Int32) (v2 : Int32) (v3 : Int32) (st : St) (H : Heap) (locs : List Loc) (ls : Array Slot), lp (fun _ _ _ _ => none) (fJ7_fill_53178__300_b5 fz) n v1 v2 v3 st = some (rr, st') → lv_has ls 4 [(0, .ref (ad 300)), (1, .int v1), (2, .int v2), (3, .int v3)] → va_P D classes (cx cy ad fz st) H → va_S (cA ad fz s.heap.size) s.heap H locs → cGv l 0 D cy ad fz rr st' p e s m args below meth c H locs (F0 m 5 ls []) := by
    intro n
    induction n with
    | zero => intro v1 v2 v3 st H locs ls hf; exact absurd hf (fun h => by cases h)
    | succ n K5 =>
      intro v1 v2 v3 st H locs ls hf hl hP hS
      replace hf : fJ7_fill_53178__300_b5 fz (lp (fun _ _ _ _ => none) (fJ7_fill_53178__300_b5 fz) n) v1 v2 v3 st = some (rr, st') := hf
      generalize lp (fun _ _ _ _ => none) (fJ7_fill_53178__300_b5 fz) n = k5 at hf K5
      unfold fJ7_fill_53178__300_b5 at hf
      refine lv_iload_n hx hb dJ7_fill_53178_5 rfl (lv_at hl 2 rfl) ?_
      refine lv_iload_n hx hb dJ7_fill_53178_6 rfl (lv_at hl 3 rfl) ?_
      refine lv_icmp_ge (tgt := 20) hx hb dJ7_fill_53178_7 (by decide) (fun hc => ?_) (fun hc => ?_)
      · replace hf := it_pos hc hf
        exact c_vret hx hb hr hlocks hf hP hS dJ7_fill_53178_20
      · replace hf := it_neg hc hf
        refine lv_aload_n hx hb dJ7_fill_53178_10 rfl (lv_at hl 0 rfl) ?_
        refine lv_iload_n hx hb dJ7_fill_53178_11 rfl (lv_at hl 2 rfl) ?_
        refine lv_iload_n hx hb dJ7_fill_53178_12 rfl (lv_at hl 1 rfl) ?_
        obtain ⟨hi, hf⟩ := gi_some hf
        refine cs_300 E hD hP hS hi dJ7_fill_53178_13 (fun st1 H locs ex hP hS => ?_)
        replace hf := lt_at ex hf; clear ex
        obtain ⟨x2, ex⟩ : ∃ y : Int32, y = v2 + (1 : Int32) := ⟨_, rfl⟩
        replace hf := lt_at ex hf
        refine lv_iinc (v := x2) (lv' := [(2, .int x2), (0, .ref (ad 300)), (1, .int v1), (3, .int v3)]) hx hb dJ7_fill_53178_14 hl (k := 2) rfl (by rw [ex]; rfl) (by decide) rfl (fun ls hl => ?_)
        clear ex
        refine lv_goto (tgt := 5) hx hb dJ7_fill_53178_17 (by decide) ?_
        exact K5 v1 x2 v3 st1 _ _ ls hf (lv_sub hl [1, 2, 0, 3] rfl) hP hS
  refine lv_iconst (v := 0) hx hb dJ7_fill_53178_0 (by decide) ?_
  refine lv_istore_n (lv' := [(2, .int (0 : Int32)), (0, .ref (ad 300)), (1, .int a1)]) hx hb dJ7_fill_53178_1 rfl hl (by decide) rfl (fun ls hl => ?_)
  refine lv_aload_n hx hb dJ7_fill_53178_2 rfl (lv_at hl 1 rfl) ?_
  refine cn_300 E hP dJ7_fill_53178_3 ?_
  refine lv_istore_n (lv' := [(3, .int (6 : Int32)), (2, .int (0 : Int32)), (0, .ref (ad 300)), (1, .int a1)]) hx hb dJ7_fill_53178_4 rfl hl (by decide) rfl (fun ls hl => ?_)
  exact L5 6000 a1 (0 : Int32) (6 : Int32) st _ _ ls hf (lv_sub hl [2, 3, 1, 0] rfl) hP hS
def fX4_clear (fz : List FP) (st : St) : Option (Unit × St) := bd (fJ7_fill_53178__300 (0 : Int32) fz st) (fun r1 st2 => lt (sI st2 305 (0 : Int32)) (fun st3 => lt (sI st3 306 (0 : Int32)) (fun st4 => some ((), st4))))
set_option maxHeartbeats 4000000 in
set_option maxRecDepth 100000 in
theorem tX4_clear (l : Launch) (D : va_G) (cy : Nat → ClassId) (ad : Nat → Nat) (fz : List FP) (hJ : (cads ad fz).Nodup) (sz : Nat) (st : St) (rr : Unit) (st' : St) (hf : fX4_clear fz st = some (rr, st')) : Met l yX4_clear (Cond.code yX4_clear cX4_clear 1 none :: TT) (rmD 1) (cPc D cy ad fz [.ref (ad 399)] st sz) (cQv D cy ad fz rr st' sz) 0 0 (cA ad fz sz) := by
  refine c_metv (by decide) hJ (Nat.le_of_ble_eq_true rfl) (fun p e s m args below meth c ls E hx hb hr hlocks hown hT hD hN hl hP hS => ?_)
  replace hl : lv_has ls 1 [(0, .ref (ad 399))] := hl
  unfold fX4_clear at hf
  refine lv_aload_n hx hb dX4_clear_0 rfl (lv_at hl 0 rfl) ?_
  refine cg_4_9_3 E hP dX4_clear_1 ?_
  refine lv_iconst (v := 0) hx hb dX4_clear_4 (by decide) ?_
  obtain ⟨r1, st2, hc, hf⟩ := bd_some hf
  refine c_callSv (n := 2) (rest := []) E hN hP hS (fun sz => tJ7_fill_53178__300 l D cy ad fz hJ sz (0 : Int32) st r1 st2 hc) k_1050 k_140 k_6 k_141 qJ7_fill_53178.2 ⟨Nat.le_of_ble_eq_true rfl, Nat.le_of_ble_eq_true rfl⟩ ⟨Nat.le_refl _, Nat.le_refl _⟩ rfl hl.1 rfl (Nat.le_of_ble_eq_true rfl) dX4_clear_5 (fun H locs hP hS => ?_)
  refine lv_aload_n hx hb dX4_clear_8 rfl (lv_at hl 0 rfl) ?_
  refine lv_iconst (v := 0) hx hb dX4_clear_9 (by decide) ?_
  refine cp_4_33_3 E hD hP hS dX4_clear_10 (fun st3 H locs ex hP hS => ?_)
  replace hf := lt_at ex hf; clear ex
  refine lv_aload_n hx hb dX4_clear_13 rfl (lv_at hl 0 rfl) ?_
  refine lv_iconst (v := 0) hx hb dX4_clear_14 (by decide) ?_
  refine cp_4_37_3 E hD hP hS dX4_clear_15 (fun st4 H locs ex hP hS => ?_)
  replace hf := lt_at ex hf; clear ex
  exact c_vret hx hb hr hlocks hf hP hS dX4_clear_18
def fX11_forget (fz : List FP) (st : St) : Option (Int32 × St) := lt (((st.1 404) + (st.1 305)) + (st.1 306)) (fun x1 => lt (sI st 404 (0 : Int32)) (fun st2 => bd (fX4_clear fz st2) (fun r3 st4 => some (x1, st4))))
set_option maxHeartbeats 4000000 in
set_option maxRecDepth 100000 in
theorem tX11_forget (l : Launch) (D : va_G) (cy : Nat → ClassId) (ad : Nat → Nat) (fz : List FP) (hJ : (cads ad fz).Nodup) (sz : Nat) (st : St) (rr : Int32) (st' : St) (hf : fX11_forget fz st = some (rr, st')) : Met l yX11_forget (Cond.code yX11_forget cX11_forget 2 (some .int) :: TT) (rmD 2) (cPc D cy ad fz [.ref (ad 99)] st sz) (cQi D cy ad fz rr st' sz) 0 0 (cA ad fz sz) := by
  refine c_meti (by decide) hJ (Nat.le_of_ble_eq_true rfl) (fun p e s m args below meth c ls E hx hb hr hlocks hown hT hD hN hl hP hS => ?_)
  replace hl : lv_has ls 2 [(0, .ref (ad 99))] := hl
  unfold fX11_forget at hf
  refine lv_aload_n hx hb dX11_forget_0 rfl (lv_at hl 0 rfl) ?_
  refine cg_11_10_0 E hP dX11_forget_1 ?_
  refine cg_11_251_1 E hP dX11_forget_4 ?_
  refine cg_11_258_4 E hP dX11_forget_7 ?_
  refine lv_aload_n hx hb dX11_forget_10 rfl (lv_at hl 0 rfl) ?_
  refine cg_11_10_0 E hP dX11_forget_11 ?_
  refine cg_11_270_1 E hP dX11_forget_14 ?_
  refine cg_11_293_3 E hP dX11_forget_17 ?_
  refine lv_iadd hx hb dX11_forget_20 ?_
  refine lv_aload_n hx hb dX11_forget_21 rfl (lv_at hl 0 rfl) ?_
  refine cg_11_10_0 E hP dX11_forget_22 ?_
  refine cg_11_270_1 E hP dX11_forget_25 ?_
  refine cg_11_296_3 E hP dX11_forget_28 ?_
  refine lv_iadd hx hb dX11_forget_31 ?_
  refine lv_topi (fun x1 ex => ?_)
  replace hf := lt_at ex hf; clear ex
  refine lv_istore_n (lv' := [(1, .int x1), (0, .ref (ad 99))]) hx hb dX11_forget_32 rfl hl (by decide) rfl (fun ls hl => ?_)
  refine lv_aload_n hx hb dX11_forget_33 rfl (lv_at hl 1 rfl) ?_
  refine cg_11_10_0 E hP dX11_forget_34 ?_
  refine cg_11_251_1 E hP dX11_forget_37 ?_
  refine lv_iconst (v := 0) hx hb dX11_forget_40 (by decide) ?_
  refine cp_11_258_4 E hD hP hS dX11_forget_41 (fun st2 H locs ex hP hS => ?_)
  replace hf := lt_at ex hf; clear ex
  refine lv_aload_n hx hb dX11_forget_44 rfl (lv_at hl 1 rfl) ?_
  refine cg_11_10_0 E hP dX11_forget_45 ?_
  refine cg_11_270_1 E hP dX11_forget_48 ?_
  obtain ⟨r3, st4, hc, hf⟩ := bd_some hf
  refine c_callv (n := 0) (rest := []) E hN hP hS (fun sz => tX4_clear l D cy ad fz hJ sz st2 r3 st4 hc) (va_recv E.2 hP (ci := 4) (q0 := 14) rfl rfl) (gV k_1046 k_1047 k_1048 k_4 k_1049) qX4_clear ⟨Nat.le_of_ble_eq_true rfl, Nat.le_of_ble_eq_true rfl⟩ ⟨Nat.le_refl _, Nat.le_refl _⟩ rfl hl.1 rfl (Nat.le_of_ble_eq_true rfl) dX11_forget_51 (fun H locs hP hS => ?_)
  refine lv_iload_n hx hb dX11_forget_54 rfl (lv_at hl 0 rfl) ?_
  exact c_iret hx hb hr hlocks hf hP hS dX11_forget_55
def fX4_agrees_b2 (fz : List FP) (k2 : Int32 → Int32 → St → Option (Int32 × St)) (v1 : Int32) (v2 : Int32) (st : St) : Option (Int32 × St) := if (st.1 306) ≤ v2 then (some ((1 : Int32), st)) else (gi v2 8 (gi (st.2.2.1 302 v2.toNatClampNeg) 6 (bs (fJ6_bitCount_0f7a4 (v1 &&& (st.2.2.1 300 (st.2.2.1 302 v2.toNatClampNeg).toNatClampNeg))) (fun r1 => gi v2 8 (if r1 = (st.2.2.1 303 v2.toNatClampNeg) then (lt (v2 + (1 : Int32)) (fun x2 => k2 v1 x2 st)) else (some ((0 : Int32), st)))))))
def fX4_agrees (a0 : Int32) (fz : List FP) (st : St) : Option (Int32 × St) := lp (fun _ _ _ => none) (fX4_agrees_b2 fz) 6000 a0 (0 : Int32) st
set_option maxHeartbeats 4000000 in
set_option maxRecDepth 100000 in
theorem tX4_agrees (l : Launch) (D : va_G) (cy : Nat → ClassId) (ad : Nat → Nat) (fz : List FP) (hJ : (cads ad fz).Nodup) (sz : Nat) (a0 : Int32) (st : St) (rr : Int32) (st' : St) (hf : fX4_agrees a0 fz st = some (rr, st')) : Met l yX4_agrees (Cond.code yX4_agrees cX4_agrees 3 (some .boolean) :: TT) (rmD 1) (cPc D cy ad fz [.ref (ad 399), .int a0] st sz) (cQi D cy ad fz rr st' sz) 0 0 (cA ad fz sz) := by
  refine c_meti (by decide) hJ (Nat.le_of_ble_eq_true rfl) (fun p e s m args below meth c ls E hx hb hr hlocks hown hT hD hN hl hP hS => ?_)
  replace hl : lv_has ls 3 [(0, .ref (ad 399)), (1, .int a0)] := hl
  unfold fX4_agrees at hf
  have L2 : ∀ (n : Nat) (v1 : Int32) (v2 : Int32) (st : St) (H : Heap) (locs : List Loc) (ls : Array Slot), lp (fun _ _ _ => none) (fX4_agrees_b2 fz) n v1 v2 st = some (rr, st') → lv_has ls 3 [(0, .ref (ad 399)), (1, .int v1), (2, .int v2)] → va_P D classes (cx cy ad fz st) H → va_S (cA ad fz s.heap.size) s.heap H locs → cGi l 1 D cy ad fz rr st' p e s m args below meth c H locs (F0 m 2 ls []) := by
    intro n
    induction n with
    | zero => intro v1 v2 st H locs ls hf; exact absurd hf (fun h => by cases h)
    | succ n K2 =>
      intro v1 v2 st H locs ls hf hl hP hS
      replace hf : fX4_agrees_b2 fz (lp (fun _ _ _ => none) (fX4_agrees_b2 fz) n) v1 v2 st = some (rr, st') := hf
      generalize lp (fun _ _ _ => none) (fX4_agrees_b2 fz) n = k2 at hf K2
      unfold fX4_agrees_b2 at hf
      refine lv_iload_n hx hb dX4_agrees_2 rfl (lv_at hl 2 rfl) ?_
      refine lv_aload_n hx hb dX4_agrees_3 rfl (lv_at hl 0 rfl) ?_
      refine cg_4_37_3 E hP dX4_agrees_4 ?_
      refine lv_icmp_ge (tgt := 43) hx hb dX4_agrees_7 (by decide) (fun hc => ?_) (fun hc => ?_)
      · replace hf := it_pos hc hf
        refine lv_iconst (v := 1) hx hb dX4_agrees_43 (by decide) ?_
        exact c_zret hx hb hr hlocks (by decide) hf hP hS dX4_agrees_44
      · replace hf := it_neg hc hf
        refine lv_iload_n hx hb dX4_agrees_10 rfl (lv_at hl 1 rfl) ?_
        refine lv_aload_n hx hb dX4_agrees_11 rfl (lv_at hl 0 rfl) ?_
        refine cg_4_9_3 E hP dX4_agrees_12 ?_
        refine lv_aload_n hx hb dX4_agrees_15 rfl (lv_at hl 0 rfl) ?_
        refine cg_4_18_3 E hP dX4_agrees_16 ?_
        refine lv_iload_n hx hb dX4_agrees_19 rfl (lv_at hl 2 rfl) ?_
        obtain ⟨hi, hf⟩ := gi_some hf
        refine cl_302 E hP hi dX4_agrees_20 ?_
        obtain ⟨hi, hf⟩ := gi_some hf
        refine cl_300 E hP hi dX4_agrees_21 ?_
        refine lv_iand hx hb dX4_agrees_22 ?_
        obtain ⟨r1, hc, hf⟩ := bs_some hf
        refine s_calliX (n := 1) (rest := []) E.1 (tJ6_bitCount_0f7a4 l _ (v1 &&& (st.2.2.1 300 (st.2.2.1 302 v2.toNatClampNeg).toNatClampNeg)) r1 hc) k_1023 k_1024 k_21 k_1025 qJ6_bitCount_0f7a4.2 ⟨Nat.le_of_ble_eq_true rfl, Nat.le_of_ble_eq_true rfl⟩ ⟨Nat.le_refl _, Nat.le_refl _⟩ rfl hl.1 rfl (Nat.le_of_ble_eq_true rfl) dX4_agrees_23 ?_
        refine lv_aload_n hx hb dX4_agrees_26 rfl (lv_at hl 0 rfl) ?_
        refine cg_4_21_3 E hP dX4_agrees_27 ?_
        refine lv_iload_n hx hb dX4_agrees_30 rfl (lv_at hl 2 rfl) ?_
        obtain ⟨hi, hf⟩ := gi_some hf
        refine cl_303 E hP hi dX4_agrees_31 ?_
        refine lv_icmp_eq (tgt := 37) hx hb dX4_agrees_32 (by decide) (fun hc => ?_) (fun hc => ?_)
        · replace hf := it_pos hc hf
          obtain ⟨x2, ex⟩ : ∃ y : Int32, y = v2 + (1 : Int32) := ⟨_, rfl⟩
          replace hf := lt_at ex hf
          refine lv_iinc (v := x2) (lv' := [(2, .int x2), (0, .ref (ad 399)), (1, .int v1)]) hx hb dX4_agrees_37 hl (k := 2) rfl (by rw [ex]; rfl) (by decide) rfl (fun ls hl => ?_)
          clear ex
          refine lv_goto (tgt := 2) hx hb dX4_agrees_40 (by decide) ?_
          exact K2 v1 x2 st _ _ ls hf (lv_sub hl [1, 2, 0] rfl) hP hS
        · replace hf := it_neg hc hf
          refine lv_iconst (v := 0) hx hb dX4_agrees_35 (by decide) ?_
          exact c_zret hx hb hr hlocks (by decide) hf hP hS dX4_agrees_36
  refine lv_iconst (v := 0) hx hb dX4_agrees_0 (by decide) ?_
  refine lv_istore_n (lv' := [(2, .int (0 : Int32)), (0, .ref (ad 399)), (1, .int a0)]) hx hb dX4_agrees_1 rfl hl (by decide) rfl (fun ls hl => ?_)
  exact L2 6000 a0 (0 : Int32) st _ _ ls hf (lv_sub hl [1, 2, 0] rfl) hP hS
def fX4_fittingAt_b31 (fz : List FP) (k4 : Int32 → Int32 → St → Option (Int32 × St)) (v2 : Int32) (v3 : Int32) (st : St) : Option (Int32 × St) := lt (v3 + (1 : Int32)) (fun x1 => k4 v2 x1 st)
def fX4_fittingAt_b4 (fz : List FP) (k4 : Int32 → Int32 → St → Option (Int32 × St)) (v2 : Int32) (v3 : Int32) (st : St) : Option (Int32 × St) := if ((1 : Int32) <<< ((st.1 305) &&& 31)) ≤ v3 then (some ((-1 : Int32), st)) else (bd (fX4_agrees v3 fz st) (fun r2 st3 => if r2 = 0 then (fX4_fittingAt_b31 fz k4 v2 v3 st3) else (if v2 = 0 then (some (v3, st3)) else (lt (v2 + (-1 : Int32)) (fun x4 => fX4_fittingAt_b31 fz k4 x4 v3 st3)))))
def fX4_fittingAt (a0 : Int32) (fz : List FP) (st : St) : Option (Int32 × St) := lp (fun _ _ _ => none) (fX4_fittingAt_b4 fz) 6000 a0 (0 : Int32) st
set_option maxHeartbeats 4000000 in
set_option maxRecDepth 100000 in
theorem tX4_fittingAt (l : Launch) (D : va_G) (cy : Nat → ClassId) (ad : Nat → Nat) (fz : List FP) (hJ : (cads ad fz).Nodup) (sz : Nat) (a0 : Int32) (st : St) (rr : Int32) (st' : St) (hf : fX4_fittingAt a0 fz st = some (rr, st')) : Met l yX4_fittingAt (Cond.code yX4_fittingAt cX4_fittingAt 4 (some .int) :: TT) (rmD 2) (cPc D cy ad fz [.ref (ad 399), .int a0] st sz) (cQi D cy ad fz rr st' sz) 0 0 (cA ad fz sz) := by
  refine c_meti (by decide) hJ (Nat.le_of_ble_eq_true rfl) (fun p e s m args below meth c ls E hx hb hr hlocks hown hT hD hN hl hP hS => ?_)
  replace hl : lv_has ls 4 [(0, .ref (ad 399)), (1, .int a0)] := hl
  unfold fX4_fittingAt at hf
  have L4 : ∀ (n : Nat) (v2 : Int32) (v3 : Int32) (st : St) (H : Heap) (locs : List Loc) (ls : Array Slot), lp (fun _ _ _ => none) (fX4_fittingAt_b4 fz) n v2 v3 st = some (rr, st') → lv_has ls 4 [(0, .ref (ad 399)), (2, .int v2), (3, .int v3)] → va_P D classes (cx cy ad fz st) H → va_S (cA ad fz s.heap.size) s.heap H locs → cGi l 2 D cy ad fz rr st' p e s m args below meth c H locs (F0 m 4 ls []) := by
    intro n
    induction n with
    | zero => intro v2 v3 st H locs ls hf; exact absurd hf (fun h => by cases h)
    | succ n K4 =>
      intro v2 v3 st H locs ls hf hl hP hS
      replace hf : fX4_fittingAt_b4 fz (lp (fun _ _ _ => none) (fX4_fittingAt_b4 fz) n) v2 v3 st = some (rr, st') := hf
      generalize lp (fun _ _ _ => none) (fX4_fittingAt_b4 fz) n = k4 at hf K4
      have B31 : ∀ (v2 : Int32) (v3 : Int32) (st : St) (H : Heap) (locs : List Loc) (ls : Array Slot), fX4_fittingAt_b31 fz k4 v2 v3 st = some (rr, st') → lv_has ls 4 [(0, .ref (ad 399)), (2, .int v2), (3, .int v3)] → va_P D classes (cx cy ad fz st) H → va_S (cA ad fz s.heap.size) s.heap H locs → cGi l 2 D cy ad fz rr st' p e s m args below meth c H locs (F0 m 31 ls []) := by
        intro v2 v3 st H locs ls hf hl hP hS
        unfold fX4_fittingAt_b31 at hf
        obtain ⟨x1, ex⟩ : ∃ y : Int32, y = v3 + (1 : Int32) := ⟨_, rfl⟩
        replace hf := lt_at ex hf
        refine lv_iinc (v := x1) (lv' := [(3, .int x1), (0, .ref (ad 399)), (2, .int v2)]) hx hb dX4_fittingAt_31 hl (k := 2) rfl (by rw [ex]; rfl) (by decide) rfl (fun ls hl => ?_)
        clear ex
        refine lv_goto (tgt := 4) hx hb dX4_fittingAt_34 (by decide) ?_
        exact K4 v2 x1 st _ _ ls hf (lv_sub hl [1, 2, 0] rfl) hP hS
      unfold fX4_fittingAt_b4 at hf
      refine lv_iload_n hx hb dX4_fittingAt_4 rfl (lv_at hl 2 rfl) ?_
      refine lv_iconst (v := 1) hx hb dX4_fittingAt_5 (by decide) ?_
      refine lv_aload_n hx hb dX4_fittingAt_6 rfl (lv_at hl 0 rfl) ?_
      refine cg_4_33_3 E hP dX4_fittingAt_7 ?_
      refine lv_ishl hx hb dX4_fittingAt_10 ?_
      refine lv_icmp_ge (tgt := 37) hx hb dX4_fittingAt_11 (by decide) (fun hc => ?_) (fun hc => ?_)
      · replace hf := it_pos hc hf
        refine lv_iconst (v := -1) hx hb dX4_fittingAt_37 (by decide) ?_
        exact c_iret hx hb hr hlocks hf hP hS dX4_fittingAt_38
      · replace hf := it_neg hc hf
        refine lv_aload_n hx hb dX4_fittingAt_14 rfl (lv_at hl 0 rfl) ?_
        refine lv_iload_n hx hb dX4_fittingAt_15 rfl (lv_at hl 2 rfl) ?_
        obtain ⟨r2, st3, hc, hf⟩ := bd_some hf
        refine c_calli (n := 1) (rest := []) E hN hP hS (fun sz => tX4_agrees l D cy ad fz hJ sz v3 st r2 st3 hc) (va_recv E.2 hP (ci := 4) (q0 := 14) rfl rfl) (gV k_1059 k_1061 ks_34 k_4 k_1062) qX4_agrees ⟨Nat.le_of_ble_eq_true rfl, Nat.le_of_ble_eq_true rfl⟩ ⟨Nat.le_refl _, Nat.le_refl _⟩ rfl hl.1 rfl (Nat.le_of_ble_eq_true rfl) dX4_fittingAt_16 (fun H locs hP hS => ?_)
        refine lv_if_eq (tgt := 31) hx hb dX4_fittingAt_19 (by decide) (fun hc => ?_) (fun hc => ?_)
        · replace hf := it_pos hc hf
          exact B31 v2 v3 st3 _ _ ls hf hl hP hS
        · replace hf := it_neg hc hf
          refine lv_iload_n hx hb dX4_fittingAt_22 rfl (lv_at hl 1 rfl) ?_
          refine lv_if_ne (tgt := 28) hx hb dX4_fittingAt_23 (by decide) (fun hc => ?_) (fun hc => ?_)
          · replace hf := it_neg hc hf
            obtain ⟨x4, ex⟩ : ∃ y : Int32, y = v2 + (-1 : Int32) := ⟨_, rfl⟩
            replace hf := lt_at ex hf
            refine lv_iinc (v := x4) (lv' := [(2, .int x4), (0, .ref (ad 399)), (3, .int v3)]) hx hb dX4_fittingAt_28 hl (k := 1) rfl (by rw [ex]; rfl) (by decide) rfl (fun ls hl => ?_)
            clear ex
            exact B31 x4 v3 st3 _ _ ls hf (lv_sub hl [1, 0, 2] rfl) hP hS
          · replace hf := it_pos hc hf
            refine lv_iload_n hx hb dX4_fittingAt_26 rfl (lv_at hl 2 rfl) ?_
            exact c_iret hx hb hr hlocks hf hP hS dX4_fittingAt_27
  refine lv_iload_n hx hb dX4_fittingAt_0 rfl (lv_at hl 1 rfl) ?_
  refine lv_istore_n (lv' := [(2, .int a0), (0, .ref (ad 399)), (1, .int a0)]) hx hb dX4_fittingAt_1 rfl hl (by decide) rfl (fun ls hl => ?_)
  refine lv_iconst (v := 0) hx hb dX4_fittingAt_2 (by decide) ?_
  refine lv_istore_n (lv' := [(3, .int (0 : Int32)), (2, .int a0), (0, .ref (ad 399)), (1, .int a0)]) hx hb dX4_fittingAt_3 rfl hl (by decide) rfl (fun ls hl => ?_)
  exact L4 6000 a0 (0 : Int32) st _ _ ls hf (lv_sub hl [2, 1, 0] rfl) hP hS
def fX4_countFitting_b4 (fz : List FP) (k4 : Int32 → Int32 → St → Option (Int32 × St)) (v1 : Int32) (v2 : Int32) (st : St) : Option (Int32 × St) := if ((1 : Int32) <<< ((st.1 305) &&& 31)) ≤ v2 then (some (v1, st)) else (bd (fX4_agrees v2 fz st) (fun r1 st2 => bs (fX11_bit r1) (fun r3 => lt (v1 + r3) (fun x4 => lt (v2 + (1 : Int32)) (fun x5 => k4 x4 x5 st2)))))
def fX4_countFitting (fz : List FP) (st : St) : Option (Int32 × St) := lp (fun _ _ _ => none) (fX4_countFitting_b4 fz) 6000 (0 : Int32) (0 : Int32) st
set_option maxHeartbeats 4000000 in
set_option maxRecDepth 100000 in
theorem tX4_countFitting (l : Launch) (D : va_G) (cy : Nat → ClassId) (ad : Nat → Nat) (fz : List FP) (hJ : (cads ad fz).Nodup) (sz : Nat) (st : St) (rr : Int32) (st' : St) (hf : fX4_countFitting fz st = some (rr, st')) : Met l yX4_countFitting (Cond.code yX4_countFitting cX4_countFitting 3 (some .int) :: TT) (rmD 2) (cPc D cy ad fz [.ref (ad 399)] st sz) (cQi D cy ad fz rr st' sz) 0 0 (cA ad fz sz) := by
  refine c_meti (by decide) hJ (Nat.le_of_ble_eq_true rfl) (fun p e s m args below meth c ls E hx hb hr hlocks hown hT hD hN hl hP hS => ?_)
  replace hl : lv_has ls 3 [(0, .ref (ad 399))] := hl
  unfold fX4_countFitting at hf
  have L4 : ∀ (n : Nat) (v1 : Int32) (v2 : Int32) (st : St) (H : Heap) (locs : List Loc) (ls : Array Slot), lp (fun _ _ _ => none) (fX4_countFitting_b4 fz) n v1 v2 st = some (rr, st') → lv_has ls 3 [(0, .ref (ad 399)), (1, .int v1), (2, .int v2)] → va_P D classes (cx cy ad fz st) H → va_S (cA ad fz s.heap.size) s.heap H locs → cGi l 2 D cy ad fz rr st' p e s m args below meth c H locs (F0 m 4 ls []) := by
    intro n
    induction n with
    | zero => intro v1 v2 st H locs ls hf; exact absurd hf (fun h => by cases h)
    | succ n K4 =>
      intro v1 v2 st H locs ls hf hl hP hS
      replace hf : fX4_countFitting_b4 fz (lp (fun _ _ _ => none) (fX4_countFitting_b4 fz) n) v1 v2 st = some (rr, st') := hf
      generalize lp (fun _ _ _ => none) (fX4_countFitting_b4 fz) n = k4 at hf K4
      unfold fX4_countFitting_b4 at hf
      refine lv_iload_n hx hb dX4_countFitting_4 rfl (lv_at hl 2 rfl) ?_
      refine lv_iconst (v := 1) hx hb dX4_countFitting_5 (by decide) ?_
      refine lv_aload_n hx hb dX4_countFitting_6 rfl (lv_at hl 0 rfl) ?_
      refine cg_4_33_3 E hP dX4_countFitting_7 ?_
      refine lv_ishl hx hb dX4_countFitting_10 ?_
      refine lv_icmp_ge (tgt := 31) hx hb dX4_countFitting_11 (by decide) (fun hc => ?_) (fun hc => ?_)
      · replace hf := it_pos hc hf
        refine lv_iload_n hx hb dX4_countFitting_31 rfl (lv_at hl 1 rfl) ?_
        exact c_iret hx hb hr hlocks hf hP hS dX4_countFitting_32
      · replace hf := it_neg hc hf
        refine lv_iload_n hx hb dX4_countFitting_14 rfl (lv_at hl 1 rfl) ?_
        refine lv_aload_n hx hb dX4_countFitting_15 rfl (lv_at hl 0 rfl) ?_
        refine lv_iload_n hx hb dX4_countFitting_16 rfl (lv_at hl 2 rfl) ?_
        obtain ⟨r1, st2, hc, hf⟩ := bd_some hf
        refine c_calli (n := 1) (rest := [.int v1]) E hN hP hS (fun sz => tX4_agrees l D cy ad fz hJ sz v2 st r1 st2 hc) (va_recv E.2 hP (ci := 4) (q0 := 14) rfl rfl) (gV k_1059 k_1061 ks_34 k_4 k_1062) qX4_agrees ⟨Nat.le_of_ble_eq_true rfl, Nat.le_of_ble_eq_true rfl⟩ ⟨Nat.le_refl _, Nat.le_refl _⟩ rfl hl.1 rfl (Nat.le_of_ble_eq_true rfl) dX4_countFitting_17 (fun H locs hP hS => ?_)
        obtain ⟨r3, hc, hf⟩ := bs_some hf
        refine s_calliN (n := 1) (rest := [.int v1]) E.1 (tX11_bit l _ r1 r3 hc) (hN.1 (Cond.methodLinkNest "OpenGates$Hills" 59 ⟨"OpenGates", "bit", "(Z)I"⟩ "OpenGates") (List.mem_of_getElem? (i := 10) rfl)) k_544 k_1 k_545 qX11_bit.2 ⟨Nat.le_of_ble_eq_true rfl, Nat.le_of_ble_eq_true rfl⟩ ⟨Nat.le_refl _, Nat.le_refl _⟩ rfl hl.1 rfl (Nat.le_of_ble_eq_true rfl) dX4_countFitting_20 ?_
        refine lv_iadd hx hb dX4_countFitting_23 ?_
        refine lv_topi (fun x4 ex => ?_)
        replace hf := lt_at ex hf; clear ex
        refine lv_istore_n (lv' := [(1, .int x4), (0, .ref (ad 399)), (2, .int v2)]) hx hb dX4_countFitting_24 rfl hl (by decide) rfl (fun ls hl => ?_)
        obtain ⟨x5, ex⟩ : ∃ y : Int32, y = v2 + (1 : Int32) := ⟨_, rfl⟩
        replace hf := lt_at ex hf
        refine lv_iinc (v := x5) (lv' := [(2, .int x5), (1, .int x4), (0, .ref (ad 399))]) hx hb dX4_countFitting_25 hl (k := 2) rfl (by rw [ex]; rfl) (by decide) rfl (fun ls hl => ?_)
        clear ex
        refine lv_goto (tgt := 4) hx hb dX4_countFitting_28 (by decide) ?_
        exact K4 x4 x5 st2 _ _ ls hf (lv_sub hl [2, 1, 0] rfl) hP hS
  refine lv_iconst (v := 0) hx hb dX4_countFitting_0 (by decide) ?_
  refine lv_istore_n (lv' := [(1, .int (0 : Int32)), (0, .ref (ad 399))]) hx hb dX4_countFitting_1 rfl hl (by decide) rfl (fun ls hl => ?_)
  refine lv_iconst (v := 0) hx hb dX4_countFitting_2 (by decide) ?_
  refine lv_istore_n (lv' := [(2, .int (0 : Int32)), (1, .int (0 : Int32)), (0, .ref (ad 399))]) hx hb dX4_countFitting_3 rfl hl (by decide) rfl (fun ls hl => ?_)
  exact L4 6000 (0 : Int32) (0 : Int32) st _ _ ls hf (lv_sub hl [2, 1, 0] rfl) hP hS
def fX11_fits_b35 (fz : List FP) (w0 : Int32) (st : St) : Option (Int32 × St) := some (w0, st)
def fX11_fits (a0 : Int32) (fz : List FP) (st : St) : Option (Int32 × St) := if a0 = (-1 : Int32) then (bd (fX4_countFitting fz st) (fun r3 st4 => some (r3, st4))) else (if 0 ≤ a0 then (bd (fX4_fittingAt a0 fz st) (fun r1 st2 => fX11_fits_b35 fz r1 st2)) else (fX11_fits_b35 fz (-1 : Int32) st))
set_option maxHeartbeats 4000000 in
set_option maxRecDepth 100000 in
theorem tX11_fits (l : Launch) (D : va_G) (cy : Nat → ClassId) (ad : Nat → Nat) (fz : List FP) (hJ : (cads ad fz).Nodup) (sz : Nat) (a0 : Int32) (st : St) (rr : Int32) (st' : St) (hf : fX11_fits a0 fz st = some (rr, st')) : Met l yX11_fits (Cond.code yX11_fits cX11_fits 2 (some .int) :: TT) (rmD 3) (cPc D cy ad fz [.ref (ad 99), .int a0] st sz) (cQi D cy ad fz rr st' sz) 0 0 (cA ad fz sz) := by
  refine c_meti (by decide) hJ (Nat.le_of_ble_eq_true rfl) (fun p e s m args below meth c ls E hx hb hr hlocks hown hT hD hN hl hP hS => ?_)
  replace hl : lv_has ls 2 [(0, .ref (ad 99)), (1, .int a0)] := hl
  unfold fX11_fits at hf
  have B35 : ∀ (w0 : Int32) (st : St) (H : Heap) (locs : List Loc) (ls : Array Slot), fX11_fits_b35 fz w0 st = some (rr, st') → lv_has ls 2 [] → va_P D classes (cx cy ad fz st) H → va_S (cA ad fz s.heap.size) s.heap H locs → cGi l 3 D cy ad fz rr st' p e s m args below meth c H locs (F0 m 35 ls [.int w0]) := by
    intro w0 st H locs ls hf hl hP hS
    unfold fX11_fits_b35 at hf
    exact c_iret hx hb hr hlocks hf hP hS dX11_fits_35
  refine lv_iload_n hx hb dX11_fits_0 rfl (lv_at hl 1 rfl) ?_
  refine lv_iconst (v := -1) hx hb dX11_fits_1 (by decide) ?_
  refine lv_icmp_ne (tgt := 16) hx hb dX11_fits_2 (by decide) (fun hc => ?_) (fun hc => ?_)
  · replace hf := it_neg hc hf
    refine lv_iload_n hx hb dX11_fits_16 rfl (lv_at hl 1 rfl) ?_
    refine lv_if_ge (tgt := 24) hx hb dX11_fits_17 (by decide) (fun hc => ?_) (fun hc => ?_)
    · replace hf := it_pos hc hf
      refine lv_aload_n hx hb dX11_fits_24 rfl (lv_at hl 0 rfl) ?_
      refine cg_11_10_0 E hP dX11_fits_25 ?_
      refine cg_11_270_1 E hP dX11_fits_28 ?_
      refine lv_iload_n hx hb dX11_fits_31 rfl (lv_at hl 1 rfl) ?_
      obtain ⟨r1, st2, hc, hf⟩ := bd_some hf
      refine c_calli (n := 1) (rest := []) E hN hP hS (fun sz => tX4_fittingAt l D cy ad fz hJ sz a0 st r1 st2 hc) (va_recv E.2 hP (ci := 4) (q0 := 14) rfl rfl) (gV k_1064 k_1065 k_1066 k_4 k_1067) qX4_fittingAt ⟨Nat.le_of_ble_eq_true rfl, Nat.le_of_ble_eq_true rfl⟩ ⟨Nat.le_refl _, Nat.le_refl _⟩ rfl hl.1 rfl (Nat.le_of_ble_eq_true rfl) dX11_fits_32 (fun H locs hP hS => ?_)
      exact B35 r1 st2 _ _ ls hf (lv_sub hl [] rfl) hP hS
    · replace hf := it_neg hc hf
      refine lv_iconst (v := -1) hx hb dX11_fits_20 (by decide) ?_
      refine lv_goto (tgt := 35) hx hb dX11_fits_21 (by decide) ?_
      exact B35 (-1 : Int32) st _ _ ls hf (lv_sub hl [] rfl) hP hS
  · replace hf := it_pos hc hf
    refine lv_aload_n hx hb dX11_fits_5 rfl (lv_at hl 0 rfl) ?_
    refine cg_11_10_0 E hP dX11_fits_6 ?_
    refine cg_11_270_1 E hP dX11_fits_9 ?_
    obtain ⟨r3, st4, hc, hf⟩ := bd_some hf
    refine c_calli (n := 0) (rest := []) E hN hP hS (fun sz => tX4_countFitting l D cy ad fz hJ sz st r3 st4 hc) (va_recv E.2 hP (ci := 4) (q0 := 14) rfl rfl) (gV k_1055 k_1056 k_1057 k_4 k_1058) qX4_countFitting ⟨Nat.le_of_ble_eq_true rfl, Nat.le_of_ble_eq_true rfl⟩ ⟨Nat.le_refl _, Nat.le_refl _⟩ rfl hl.1 rfl (Nat.le_of_ble_eq_true rfl) dX11_fits_12 (fun H locs hP hS => ?_)
    exact c_iret hx hb hr hlocks hf hP hS dX11_fits_15
def fJ7_fill_53178__304_b5 (fz : List FP) (k5 : Int32 → Int32 → Int32 → St → Option (Unit × St)) (v1 : Int32) (v2 : Int32) (v3 : Int32) (st : St) : Option (Unit × St) := if v3 ≤ v2 then (some ((), st)) else (gi v2 66 (lt (sA st 304 (upd (st.2.2.1 304) v2.toNatClampNeg v1)) (fun st1 => lt (v2 + (1 : Int32)) (fun x2 => k5 v1 x2 v3 st1))))
def fJ7_fill_53178__304 (a1 : Int32) (fz : List FP) (st : St) : Option (Unit × St) := lp (fun _ _ _ _ => none) (fJ7_fill_53178__304_b5 fz) 6000 a1 (0 : Int32) (66 : Int32) st
set_option maxHeartbeats 4000000 in
set_option maxRecDepth 100000 in
theorem tJ7_fill_53178__304 (l : Launch) (D : va_G) (cy : Nat → ClassId) (ad : Nat → Nat) (fz : List FP) (hJ : (cads ad fz).Nodup) (sz : Nat) (a1 : Int32) (st : St) (rr : Unit) (st' : St) (hf : fJ7_fill_53178__304 a1 fz st = some (rr, st')) : Met l yJ7_fill_53178 (Cond.code yJ7_fill_53178 cJ7_fill_53178 4 none :: TT) (rmD 0) (cPc D cy ad fz [.ref (ad 304), .int a1] st sz) (cQv D cy ad fz rr st' sz) 0 0 (cA ad fz sz) := by
  refine c_metv (by decide) hJ (Nat.le_of_ble_eq_true rfl) (fun p e s m args below meth c ls E hx hb hr hlocks hown hT hD hN hl hP hS => ?_)
  replace hl : lv_has ls 4 [(0, .ref (ad 304)), (1, .int a1)] := hl
  unfold fJ7_fill_53178__304 at hf
  have L5 : ∀ (n : Nat) (v1 : Int32) (v2 : Int32) (v3 : Int32) (st : St) (H : Heap) (locs : List Loc) (ls : Array Slot), lp (fun _ _ _ _ => none) (fJ7_fill_53178__304_b5 fz) n v1 v2 v3 st = some (rr, st') → lv_has ls 4 [(0, .ref (ad 304)), (1, .int v1), (2, .int v2), (3, .int v3)] → va_P D classes (cx cy ad fz st) H → va_S (cA ad fz s.heap.size) s.heap H locs → cGv l 0 D cy ad fz rr st' p e s m args below meth c H locs (F0 m 5 ls []) := by
    intro n
    induction n with
    | zero => intro v1 v2 v3 st H locs ls hf; exact absurd hf (fun h => by cases h)
    | succ n K5 =>
      intro v1 v2 v3 st H locs ls hf hl hP hS
      replace hf : fJ7_fill_53178__304_b5 fz (lp (fun _ _ _ _ => none) (fJ7_fill_53178__304_b5 fz) n) v1 v2 v3 st = some (rr, st') := hf
      generalize lp (fun _ _ _ _ => none) (fJ7_fill_53178__304_b5 fz) n = k5 at hf K5
      unfold fJ7_fill_53178__304_b5 at hf
      refine lv_iload_n hx hb dJ7_fill_53178_5 rfl (lv_at hl 2 rfl) ?_
      refine lv_iload_n hx hb dJ7_fill_53178_6 rfl (lv_at hl 3 rfl) ?_
      refine lv_icmp_ge (tgt := 20) hx hb dJ7_fill_53178_7 (by decide) (fun hc => ?_) (fun hc => ?_)
      · replace hf := it_pos hc hf
        exact c_vret hx hb hr hlocks hf hP hS dJ7_fill_53178_20
      · replace hf := it_neg hc hf
        refine lv_aload_n hx hb dJ7_fill_53178_10 rfl (lv_at hl 0 rfl) ?_
        refine lv_iload_n hx hb dJ7_fill_53178_11 rfl (lv_at hl 2 rfl) ?_
        refine lv_iload_n hx hb dJ7_fill_53178_12 rfl (lv_at hl 1 rfl) ?_
        obtain ⟨hi, hf⟩ := gi_some hf
        refine cs_304 E hD hP hS hi dJ7_fill_53178_13 (fun st1 H locs ex hP hS => ?_)
        replace hf := lt_at ex hf; clear ex
        obtain ⟨x2, ex⟩ : ∃ y : Int32, y = v2 + (1 : Int32) := ⟨_, rfl⟩
        replace hf := lt_at ex hf
        refine lv_iinc (v := x2) (lv' := [(2, .int x2), (0, .ref (ad 304)), (1, .int v1), (3, .int v3)]) hx hb dJ7_fill_53178_14 hl (k := 2) rfl (by rw [ex]; rfl) (by decide) rfl (fun ls hl => ?_)
        clear ex
        refine lv_goto (tgt := 5) hx hb dJ7_fill_53178_17 (by decide) ?_
        exact K5 v1 x2 v3 st1 _ _ ls hf (lv_sub hl [1, 2, 0, 3] rfl) hP hS
  refine lv_iconst (v := 0) hx hb dJ7_fill_53178_0 (by decide) ?_
  refine lv_istore_n (lv' := [(2, .int (0 : Int32)), (0, .ref (ad 304)), (1, .int a1)]) hx hb dJ7_fill_53178_1 rfl hl (by decide) rfl (fun ls hl => ?_)
  refine lv_aload_n hx hb dJ7_fill_53178_2 rfl (lv_at hl 1 rfl) ?_
  refine cn_304 E hP dJ7_fill_53178_3 ?_
  refine lv_istore_n (lv' := [(3, .int (66 : Int32)), (2, .int (0 : Int32)), (0, .ref (ad 304)), (1, .int a1)]) hx hb dJ7_fill_53178_4 rfl hl (by decide) rfl (fun ls hl => ?_)
  exact L5 6000 a1 (0 : Int32) (66 : Int32) st _ _ ls hf (lv_sub hl [2, 3, 1, 0] rfl) hP hS
def fX4_tallyFitting_b67 (fz : List FP) (k10 : Int32 → St → Option (Unit × St)) (v1 : Int32) (st : St) : Option (Unit × St) := lt (v1 + (1 : Int32)) (fun x1 => k10 x1 st)
def fX4_tallyFitting_b30 (fz : List FP) (k10 : Int32 → St → Option (Unit × St)) (k30 : Int32 → Int32 → St → Option (Unit × St)) (v1 : Int32) (v2 : Int32) (st : St) : Option (Unit × St) := if (6 : Int32) ≤ v2 then (fX4_tallyFitting_b67 fz k10 v1 st) else (gi v2 6 (bs (fJ6_bitCount_0f7a4 (v1 &&& (st.2.2.1 300 v2.toNatClampNeg))) (fun r2 => gi ((v2 * (11 : Int32)) + r2) 66 (gi ((v2 * (11 : Int32)) + r2) 66 (lt (sA st 304 (upd (st.2.2.1 304) ((v2 * (11 : Int32)) + r2).toNatClampNeg ((st.2.2.1 304 ((v2 * (11 : Int32)) + r2).toNatClampNeg) + (1 : Int32)))) (fun st3 => lt (v2 + (1 : Int32)) (fun x4 => k30 v1 x4 st3)))))))
def fX4_tallyFitting_b10 (fz : List FP) (k10 : Int32 → St → Option (Unit × St)) (v1 : Int32) (st : St) : Option (Unit × St) := if ((1 : Int32) <<< ((st.1 305) &&& 31)) ≤ v1 then (some ((), st)) else (bd (fX4_agrees v1 fz st) (fun r5 st6 => if r5 = 0 then (fX4_tallyFitting_b67 fz k10 v1 st6) else (lp (fun _ _ _ => none) (fX4_tallyFitting_b30 fz k10) 6000 v1 (0 : Int32) st6)))
def fX4_tallyFitting (fz : List FP) (st : St) : Option (Unit × St) := bd (fJ7_fill_53178__304 (0 : Int32) fz st) (fun r7 st8 => lp (fun _ _ => none) (fX4_tallyFitting_b10 fz) 6000 (0 : Int32) st8)
set_option maxHeartbeats 4000000 in
set_option maxRecDepth 100000 in
theorem tX4_tallyFitting (l : Launch) (D : va_G) (cy : Nat → ClassId) (ad : Nat → Nat) (fz : List FP) (hJ : (cads ad fz).Nodup) (sz : Nat) (st : St) (rr : Unit) (st' : St) (hf : fX4_tallyFitting fz st = some (rr, st')) : Met l yX4_tallyFitting (Cond.code yX4_tallyFitting cX4_tallyFitting 3 none :: TT) (rmD 2) (cPc D cy ad fz [.ref (ad 399)] st sz) (cQv D cy ad fz rr st' sz) 0 0 (cA ad fz sz) := by
  refine c_metv (by decide) hJ (Nat.le_of_ble_eq_true rfl) (fun p e s m args below meth c ls E hx hb hr hlocks hown hT hD hN hl hP hS => ?_)
  replace hl : lv_has ls 3 [(0, .ref (ad 399))] := hl
  unfold fX4_tallyFitting at hf
  have L10 : ∀ (n : Nat) (v1 : Int32) (st : St) (H : Heap) (locs : List Loc) (ls : Array Slot), lp (fun _ _ => none) (fX4_tallyFitting_b10 fz) n v1 st = some (rr, st') → lv_has ls 3 [(0, .ref (ad 399)), (1, .int v1)] → va_P D classes (cx cy ad fz st) H → va_S (cA ad fz s.heap.size) s.heap H locs → cGv l 2 D cy ad fz rr st' p e s m args below meth c H locs (F0 m 10 ls []) := by
    intro n
    induction n with
    | zero => intro v1 st H locs ls hf; exact absurd hf (fun h => by cases h)
    | succ n K10 =>
      intro v1 st H locs ls hf hl hP hS
      replace hf : fX4_tallyFitting_b10 fz (lp (fun _ _ => none) (fX4_tallyFitting_b10 fz) n) v1 st = some (rr, st') := hf
      generalize lp (fun _ _ => none) (fX4_tallyFitting_b10 fz) n = k10 at hf K10
      have B67 : ∀ (v1 : Int32) (st : St) (H : Heap) (locs : List Loc) (ls : Array Slot), fX4_tallyFitting_b67 fz k10 v1 st = some (rr, st') → lv_has ls 3 [(0, .ref (ad 399)), (1, .int v1)] → va_P D classes (cx cy ad fz st) H → va_S (cA ad fz s.heap.size) s.heap H locs → cGv l 2 D cy ad fz rr st' p e s m args below meth c H locs (F0 m 67 ls []) := by
        intro v1 st H locs ls hf hl hP hS
        unfold fX4_tallyFitting_b67 at hf
        obtain ⟨x1, ex⟩ : ∃ y : Int32, y = v1 + (1 : Int32) := ⟨_, rfl⟩
        replace hf := lt_at ex hf
        refine lv_iinc (v := x1) (lv' := [(1, .int x1), (0, .ref (ad 399))]) hx hb dX4_tallyFitting_67 hl (k := 1) rfl (by rw [ex]; rfl) (by decide) rfl (fun ls hl => ?_)
        clear ex
        refine lv_goto (tgt := 10) hx hb dX4_tallyFitting_70 (by decide) ?_
        exact K10 x1 st _ _ ls hf (lv_sub hl [1, 0] rfl) hP hS
      have L30 : ∀ (n : Nat) (v1 : Int32) (v2 : Int32) (st : St) (H : Heap) (locs : List Loc) (ls : Array Slot), lp (fun _ _ _ => none) (fX4_tallyFitting_b30 fz k10) n v1 v2 st = some (rr, st') → lv_has ls 3 [(0, .ref (ad 399)), (1, .int v1), (2, .int v2)] → va_P D classes (cx cy ad fz st) H → va_S (cA ad fz s.heap.size) s.heap H locs → cGv l 2 D cy ad fz rr st' p e s m args below meth c H locs (F0 m 30 ls []) := by
        intro n
        induction n with
        | zero => intro v1 v2 st H locs ls hf; exact absurd hf (fun h => by cases h)
        | succ n K30 =>
          intro v1 v2 st H locs ls hf hl hP hS
          replace hf : fX4_tallyFitting_b30 fz k10 (lp (fun _ _ _ => none) (fX4_tallyFitting_b30 fz k10) n) v1 v2 st = some (rr, st') := hf
          generalize lp (fun _ _ _ => none) (fX4_tallyFitting_b30 fz k10) n = k30 at hf K30
          unfold fX4_tallyFitting_b30 at hf
          refine lv_iload_n hx hb dX4_tallyFitting_30 rfl (lv_at hl 2 rfl) ?_
          refine lv_bipush (v := 6) hx hb dX4_tallyFitting_31 (by decide) ?_
          refine lv_icmp_ge (tgt := 67) hx hb dX4_tallyFitting_33 (by decide) (fun hc => ?_) (fun hc => ?_)
          · replace hf := it_pos hc hf
            exact B67 v1 st _ _ ls hf (lv_sub hl [0, 1] rfl) hP hS
          · replace hf := it_neg hc hf
            refine lv_aload_n hx hb dX4_tallyFitting_36 rfl (lv_at hl 0 rfl) ?_
            refine cg_4_24_3 E hP dX4_tallyFitting_37 ?_
            refine lv_iload_n hx hb dX4_tallyFitting_40 rfl (lv_at hl 2 rfl) ?_
            refine lv_bipush (v := 11) hx hb dX4_tallyFitting_41 (by decide) ?_
            refine lv_imul hx hb dX4_tallyFitting_43 ?_
            refine lv_iload_n hx hb dX4_tallyFitting_44 rfl (lv_at hl 1 rfl) ?_
            refine lv_aload_n hx hb dX4_tallyFitting_45 rfl (lv_at hl 0 rfl) ?_
            refine cg_4_9_3 E hP dX4_tallyFitting_46 ?_
            refine lv_iload_n hx hb dX4_tallyFitting_49 rfl (lv_at hl 2 rfl) ?_
            obtain ⟨hi, hf⟩ := gi_some hf
            refine cl_300 E hP hi dX4_tallyFitting_50 ?_
            refine lv_iand hx hb dX4_tallyFitting_51 ?_
            obtain ⟨r2, hc, hf⟩ := bs_some hf
            refine s_calliX (n := 1) (rest := [.int (v2 * (11 : Int32)), .ref (ad 304)]) E.1 (tJ6_bitCount_0f7a4 l _ (v1 &&& (st.2.2.1 300 v2.toNatClampNeg)) r2 hc) k_1023 k_1024 k_21 k_1025 qJ6_bitCount_0f7a4.2 ⟨Nat.le_of_ble_eq_true rfl, Nat.le_of_ble_eq_true rfl⟩ ⟨Nat.le_refl _, Nat.le_refl _⟩ rfl hl.1 rfl (Nat.le_of_ble_eq_true rfl) dX4_tallyFitting_52 ?_
            refine lv_iadd hx hb dX4_tallyFitting_55 ?_
            refine lv_dup2_11 hx hb dX4_tallyFitting_56 rfl rfl ?_
            obtain ⟨hi, hf⟩ := gi_some hf
            refine cl_304 E hP hi dX4_tallyFitting_57 ?_
            refine lv_iconst (v := 1) hx hb dX4_tallyFitting_58 (by decide) ?_
            refine lv_iadd hx hb dX4_tallyFitting_59 ?_
            obtain ⟨hi, hf⟩ := gi_some hf
            refine cs_304 E hD hP hS hi dX4_tallyFitting_60 (fun st3 H locs ex hP hS => ?_)
            replace hf := lt_at ex hf; clear ex
            obtain ⟨x4, ex⟩ : ∃ y : Int32, y = v2 + (1 : Int32) := ⟨_, rfl⟩
            replace hf := lt_at ex hf
            refine lv_iinc (v := x4) (lv' := [(2, .int x4), (0, .ref (ad 399)), (1, .int v1)]) hx hb dX4_tallyFitting_61 hl (k := 2) rfl (by rw [ex]; rfl) (by decide) rfl (fun ls hl => ?_)
            clear ex
            refine lv_goto (tgt := 30) hx hb dX4_tallyFitting_64 (by decide) ?_
            exact K30 v1 x4 st3 _ _ ls hf (lv_sub hl [1, 2, 0] rfl) hP hS
      unfold fX4_tallyFitting_b10 at hf
      refine lv_iload_n hx hb dX4_tallyFitting_10 rfl (lv_at hl 1 rfl) ?_
      refine lv_iconst (v := 1) hx hb dX4_tallyFitting_11 (by decide) ?_
      refine lv_aload_n hx hb dX4_tallyFitting_12 rfl (lv_at hl 0 rfl) ?_
      refine cg_4_33_3 E hP dX4_tallyFitting_13 ?_
      refine lv_ishl hx hb dX4_tallyFitting_16 ?_
      refine lv_icmp_ge (tgt := 73) hx hb dX4_tallyFitting_17 (by decide) (fun hc => ?_) (fun hc => ?_)
      · replace hf := it_pos hc hf
        exact c_vret hx hb hr hlocks hf hP hS dX4_tallyFitting_73
      · replace hf := it_neg hc hf
        refine lv_aload_n hx hb dX4_tallyFitting_20 rfl (lv_at hl 0 rfl) ?_
        refine lv_iload_n hx hb dX4_tallyFitting_21 rfl (lv_at hl 1 rfl) ?_
        obtain ⟨r5, st6, hc, hf⟩ := bd_some hf
        refine c_calli (n := 1) (rest := []) E hN hP hS (fun sz => tX4_agrees l D cy ad fz hJ sz v1 st r5 st6 hc) (va_recv E.2 hP (ci := 4) (q0 := 14) rfl rfl) (gV k_1059 k_1061 ks_34 k_4 k_1062) qX4_agrees ⟨Nat.le_of_ble_eq_true rfl, Nat.le_of_ble_eq_true rfl⟩ ⟨Nat.le_refl _, Nat.le_refl _⟩ rfl hl.1 rfl (Nat.le_of_ble_eq_true rfl) dX4_tallyFitting_22 (fun H locs hP hS => ?_)
        refine lv_if_eq (tgt := 67) hx hb dX4_tallyFitting_25 (by decide) (fun hc => ?_) (fun hc => ?_)
        · replace hf := it_pos hc hf
          exact B67 v1 st6 _ _ ls hf hl hP hS
        · replace hf := it_neg hc hf
          refine lv_iconst (v := 0) hx hb dX4_tallyFitting_28 (by decide) ?_
          refine lv_istore_n (lv' := [(2, .int (0 : Int32)), (0, .ref (ad 399)), (1, .int v1)]) hx hb dX4_tallyFitting_29 rfl hl (by decide) rfl (fun ls hl => ?_)
          exact L30 6000 v1 (0 : Int32) st6 _ _ ls hf (lv_sub hl [1, 2, 0] rfl) hP hS
  refine lv_aload_n hx hb dX4_tallyFitting_0 rfl (lv_at hl 0 rfl) ?_
  refine cg_4_24_3 E hP dX4_tallyFitting_1 ?_
  refine lv_iconst (v := 0) hx hb dX4_tallyFitting_4 (by decide) ?_
  obtain ⟨r7, st8, hc, hf⟩ := bd_some hf
  refine c_callSv (n := 2) (rest := []) E hN hP hS (fun sz => tJ7_fill_53178__304 l D cy ad fz hJ sz (0 : Int32) st r7 st8 hc) k_1050 k_140 k_6 k_141 qJ7_fill_53178.2 ⟨Nat.le_of_ble_eq_true rfl, Nat.le_of_ble_eq_true rfl⟩ ⟨Nat.le_refl _, Nat.le_refl _⟩ rfl hl.1 rfl (Nat.le_of_ble_eq_true rfl) dX4_tallyFitting_5 (fun H locs hP hS => ?_)
  refine lv_iconst (v := 0) hx hb dX4_tallyFitting_8 (by decide) ?_
  refine lv_istore_n (lv' := [(1, .int (0 : Int32)), (0, .ref (ad 399))]) hx hb dX4_tallyFitting_9 rfl hl (by decide) rfl (fun ls hl => ?_)
  exact L10 6000 (0 : Int32) st8 _ _ ls hf (lv_sub hl [1, 0] rfl) hP hS
def fX4_mostAlike_b4 (fz : List FP) (k4 : Int32 → Int32 → Int32 → St → Option (Int32 × St)) (v1 : Int32) (v2 : Int32) (v3 : Int32) (st : St) : Option (Int32 × St) := if (10 : Int32) < v3 then (some (v2, st)) else (gi ((v1 * (11 : Int32)) + v3) 66 (lt (if v2 < (st.2.2.1 304 ((v1 * (11 : Int32)) + v3).toNatClampNeg) then (st.2.2.1 304 ((v1 * (11 : Int32)) + v3).toNatClampNeg) else v2) (fun x1 => lt (v3 + (1 : Int32)) (fun x2 => k4 v1 x1 x2 st))))
def fX4_mostAlike (a0 : Int32) (fz : List FP) (st : St) : Option (Int32 × St) := lp (fun _ _ _ _ => none) (fX4_mostAlike_b4 fz) 6000 a0 (0 : Int32) (0 : Int32) st
set_option maxHeartbeats 4000000 in
set_option maxRecDepth 100000 in
theorem tX4_mostAlike (l : Launch) (D : va_G) (cy : Nat → ClassId) (ad : Nat → Nat) (fz : List FP) (hJ : (cads ad fz).Nodup) (sz : Nat) (a0 : Int32) (st : St) (rr : Int32) (st' : St) (hf : fX4_mostAlike a0 fz st = some (rr, st')) : Met l yX4_mostAlike (Cond.code yX4_mostAlike cX4_mostAlike 4 (some .int) :: TT) (rmD 1) (cPc D cy ad fz [.ref (ad 399), .int a0] st sz) (cQi D cy ad fz rr st' sz) 0 0 (cA ad fz sz) := by
  refine c_meti (by decide) hJ (Nat.le_of_ble_eq_true rfl) (fun p e s m args below meth c ls E hx hb hr hlocks hown hT hD hN hl hP hS => ?_)
  replace hl : lv_has ls 4 [(0, .ref (ad 399)), (1, .int a0)] := hl
  unfold fX4_mostAlike at hf
  have L4 : ∀ (n : Nat) (v1 : Int32) (v2 : Int32) (v3 : Int32) (st : St) (H : Heap) (locs : List Loc) (ls : Array Slot), lp (fun _ _ _ _ => none) (fX4_mostAlike_b4 fz) n v1 v2 v3 st = some (rr, st') → lv_has ls 4 [(0, .ref (ad 399)), (1, .int v1), (2, .int v2), (3, .int v3)] → va_P D classes (cx cy ad fz st) H → va_S (cA ad fz s.heap.size) s.heap H locs → cGi l 1 D cy ad fz rr st' p e s m args below meth c H locs (F0 m 4 ls []) := by
    intro n
    induction n with
    | zero => intro v1 v2 v3 st H locs ls hf; exact absurd hf (fun h => by cases h)
    | succ n K4 =>
      intro v1 v2 v3 st H locs ls hf hl hP hS
      replace hf : fX4_mostAlike_b4 fz (lp (fun _ _ _ _ => none) (fX4_mostAlike_b4 fz) n) v1 v2 v3 st = some (rr, st') := hf
      generalize lp (fun _ _ _ _ => none) (fX4_mostAlike_b4 fz) n = k4 at hf K4
      unfold fX4_mostAlike_b4 at hf
      refine lv_iload_n hx hb dX4_mostAlike_4 rfl (lv_at hl 3 rfl) ?_
      refine lv_bipush (v := 10) hx hb dX4_mostAlike_5 (by decide) ?_
      refine lv_icmp_gt (tgt := 32) hx hb dX4_mostAlike_7 (by decide) (fun hc => ?_) (fun hc => ?_)
      · replace hf := it_pos hc hf
        refine lv_iload_n hx hb dX4_mostAlike_32 rfl (lv_at hl 2 rfl) ?_
        exact c_iret hx hb hr hlocks hf hP hS dX4_mostAlike_33
      · replace hf := it_neg hc hf
        refine lv_iload_n hx hb dX4_mostAlike_10 rfl (lv_at hl 2 rfl) ?_
        refine lv_aload_n hx hb dX4_mostAlike_11 rfl (lv_at hl 0 rfl) ?_
        refine cg_4_24_3 E hP dX4_mostAlike_12 ?_
        refine lv_iload_n hx hb dX4_mostAlike_15 rfl (lv_at hl 1 rfl) ?_
        refine lv_bipush (v := 11) hx hb dX4_mostAlike_16 (by decide) ?_
        refine lv_imul hx hb dX4_mostAlike_18 ?_
        refine lv_iload_n hx hb dX4_mostAlike_19 rfl (lv_at hl 3 rfl) ?_
        refine lv_iadd hx hb dX4_mostAlike_20 ?_
        obtain ⟨hi, hf⟩ := gi_some hf
        refine cl_304 E hP hi dX4_mostAlike_21 ?_
        refine va_mmax hx hb (E.1.2.2.1.trans hl.1.symm) hown (hT _ k_1080) (hT _ k_537) (hT _ k_15) (hT _ k_538) (Nat.le_of_ble_eq_true rfl) (Nat.le_of_ble_eq_true rfl) (Nat.zero_le _) (Nat.zero_le _) dX4_mostAlike_22 ?_
        refine lv_topi (fun x1 ex => ?_)
        replace hf := lt_at ex hf; clear ex
        refine lv_istore_n (lv' := [(2, .int x1), (0, .ref (ad 399)), (1, .int v1), (3, .int v3)]) hx hb dX4_mostAlike_25 rfl hl (by decide) rfl (fun ls hl => ?_)
        obtain ⟨x2, ex⟩ : ∃ y : Int32, y = v3 + (1 : Int32) := ⟨_, rfl⟩
        replace hf := lt_at ex hf
        refine lv_iinc (v := x2) (lv' := [(3, .int x2), (2, .int x1), (0, .ref (ad 399)), (1, .int v1)]) hx hb dX4_mostAlike_26 hl (k := 3) rfl (by rw [ex]; rfl) (by decide) rfl (fun ls hl => ?_)
        clear ex
        refine lv_goto (tgt := 4) hx hb dX4_mostAlike_29 (by decide) ?_
        exact K4 v1 x1 x2 st _ _ ls hf (lv_sub hl [2, 3, 1, 0] rfl) hP hS
  refine lv_iconst (v := 0) hx hb dX4_mostAlike_0 (by decide) ?_
  refine lv_istore_n (lv' := [(2, .int (0 : Int32)), (0, .ref (ad 399)), (1, .int a0)]) hx hb dX4_mostAlike_1 rfl hl (by decide) rfl (fun ls hl => ?_)
  refine lv_iconst (v := 0) hx hb dX4_mostAlike_2 (by decide) ?_
  refine lv_istore_n (lv' := [(3, .int (0 : Int32)), (2, .int (0 : Int32)), (0, .ref (ad 399)), (1, .int a0)]) hx hb dX4_mostAlike_3 rfl hl (by decide) rfl (fun ls hl => ?_)
  exact L4 6000 a0 (0 : Int32) (0 : Int32) st _ _ ls hf (lv_sub hl [2, 3, 1, 0] rfl) hP hS
def fX11_next_b93 (fz : List FP) (w0 : Int32) (st : St) : Option (Int32 × St) := some (w0, st)
def fX11_next_b58 (fz : List FP) (k25 : Int32 → Int32 → Int32 → St → Option (Int32 × St)) (v1 : Int32) (v2 : Int32) (v3 : Int32) (st : St) : Option (Int32 × St) := lt (v3 + (1 : Int32)) (fun x1 => k25 v1 v2 x1 st)
def fX11_next_b25 (fz : List FP) (k25 : Int32 → Int32 → Int32 → St → Option (Int32 × St)) (v1 : Int32) (v2 : Int32) (v3 : Int32) (st : St) : Option (Int32 × St) := if (6 : Int32) ≤ v3 then (bd (fX4_mostAlike v2 fz st) (fun r2 st3 => if r2 = 0 then (fX11_next_b93 fz (-1 : Int32) st3) else (if v1 = 0 then (fX11_next_b93 fz v2 st3) else (fX11_next_b93 fz r2 st3)))) else (bd (fX4_mostAlike v3 fz st) (fun r4 st5 => bd (fX4_mostAlike v2 fz st5) (fun r6 st7 => if r6 ≤ r4 then (fX11_next_b58 fz k25 v1 v2 v3 st7) else (fX11_next_b58 fz k25 v1 v3 v3 st7))))
def fX11_next (a0 : Int32) (fz : List FP) (st : St) : Option (Int32 × St) := bs (fX11_within a0 (0 : Int32) (1 : Int32)) (fun r8 => if r8 = 0 then (some ((-1 : Int32), st)) else (bd (fX4_tallyFitting fz st) (fun r9 st10 => lp (fun _ _ _ _ => none) (fX11_next_b25 fz) 6000 a0 (0 : Int32) (1 : Int32) st10)))
set_option maxHeartbeats 4000000 in
set_option maxRecDepth 100000 in
theorem tX11_next (l : Launch) (D : va_G) (cy : Nat → ClassId) (ad : Nat → Nat) (fz : List FP) (hJ : (cads ad fz).Nodup) (sz : Nat) (a0 : Int32) (st : St) (rr : Int32) (st' : St) (hf : fX11_next a0 fz st = some (rr, st')) : Met l yX11_next (Cond.code yX11_next cX11_next 4 (some .int) :: TT) (rmD 3) (cPc D cy ad fz [.ref (ad 99), .int a0] st sz) (cQi D cy ad fz rr st' sz) 0 0 (cA ad fz sz) := by
  refine c_meti (by decide) hJ (Nat.le_of_ble_eq_true rfl) (fun p e s m args below meth c ls E hx hb hr hlocks hown hT hD hN hl hP hS => ?_)
  replace hl : lv_has ls 4 [(0, .ref (ad 99)), (1, .int a0)] := hl
  unfold fX11_next at hf
  have B93 : ∀ (w0 : Int32) (st : St) (H : Heap) (locs : List Loc) (ls : Array Slot), fX11_next_b93 fz w0 st = some (rr, st') → lv_has ls 4 [] → va_P D classes (cx cy ad fz st) H → va_S (cA ad fz s.heap.size) s.heap H locs → cGi l 3 D cy ad fz rr st' p e s m args below meth c H locs (F0 m 93 ls [.int w0]) := by
    intro w0 st H locs ls hf hl hP hS
    unfold fX11_next_b93 at hf
    exact c_iret hx hb hr hlocks hf hP hS dX11_next_93
  have L25 : ∀ (n : Nat) (v1 : Int32) (v2 : Int32) (v3 : Int32) (st : St) (H : Heap) (locs : List Loc) (ls : Array Slot), lp (fun _ _ _ _ => none) (fX11_next_b25 fz) n v1 v2 v3 st = some (rr, st') → lv_has ls 4 [(0, .ref (ad 99)), (1, .int v1), (2, .int v2), (3, .int v3)] → va_P D classes (cx cy ad fz st) H → va_S (cA ad fz s.heap.size) s.heap H locs → cGi l 3 D cy ad fz rr st' p e s m args below meth c H locs (F0 m 25 ls []) := by
    intro n
    induction n with
    | zero => intro v1 v2 v3 st H locs ls hf; exact absurd hf (fun h => by cases h)
    | succ n K25 =>
      intro v1 v2 v3 st H locs ls hf hl hP hS
      replace hf : fX11_next_b25 fz (lp (fun _ _ _ _ => none) (fX11_next_b25 fz) n) v1 v2 v3 st = some (rr, st') := hf
      generalize lp (fun _ _ _ _ => none) (fX11_next_b25 fz) n = k25 at hf K25
      have B58 : ∀ (v1 : Int32) (v2 : Int32) (v3 : Int32) (st : St) (H : Heap) (locs : List Loc) (ls : Array Slot), fX11_next_b58 fz k25 v1 v2 v3 st = some (rr, st') → lv_has ls 4 [(0, .ref (ad 99)), (1, .int v1), (2, .int v2), (3, .int v3)] → va_P D classes (cx cy ad fz st) H → va_S (cA ad fz s.heap.size) s.heap H locs → cGi l 3 D cy ad fz rr st' p e s m args below meth c H locs (F0 m 58 ls []) := by
        intro v1 v2 v3 st H locs ls hf hl hP hS
        unfold fX11_next_b58 at hf
        obtain ⟨x1, ex⟩ : ∃ y : Int32, y = v3 + (1 : Int32) := ⟨_, rfl⟩
        replace hf := lt_at ex hf
        refine lv_iinc (v := x1) (lv' := [(3, .int x1), (0, .ref (ad 99)), (1, .int v1), (2, .int v2)]) hx hb dX11_next_58 hl (k := 3) rfl (by rw [ex]; rfl) (by decide) rfl (fun ls hl => ?_)
        clear ex
        refine lv_goto (tgt := 25) hx hb dX11_next_61 (by decide) ?_
        exact K25 v1 v2 x1 st _ _ ls hf (lv_sub hl [1, 2, 3, 0] rfl) hP hS
      unfold fX11_next_b25 at hf
      refine lv_iload_n hx hb dX11_next_25 rfl (lv_at hl 3 rfl) ?_
      refine lv_bipush (v := 6) hx hb dX11_next_26 (by decide) ?_
      refine lv_icmp_ge (tgt := 64) hx hb dX11_next_28 (by decide) (fun hc => ?_) (fun hc => ?_)
      · replace hf := it_pos hc hf
        refine lv_aload_n hx hb dX11_next_64 rfl (lv_at hl 0 rfl) ?_
        refine cg_11_10_0 E hP dX11_next_65 ?_
        refine cg_11_270_1 E hP dX11_next_68 ?_
        refine lv_iload_n hx hb dX11_next_71 rfl (lv_at hl 2 rfl) ?_
        obtain ⟨r2, st3, hc, hf⟩ := bd_some hf
        refine c_calli (n := 1) (rest := []) E hN hP hS (fun sz => tX4_mostAlike l D cy ad fz hJ sz v2 st r2 st3 hc) (va_recv E.2 hP (ci := 4) (q0 := 14) rfl rfl) (gV k_1076 k_1077 k_1078 k_4 k_1079) qX4_mostAlike ⟨Nat.le_of_ble_eq_true rfl, Nat.le_of_ble_eq_true rfl⟩ ⟨Nat.le_refl _, Nat.le_refl _⟩ rfl hl.1 rfl (Nat.le_of_ble_eq_true rfl) dX11_next_72 (fun H locs hP hS => ?_)
        refine lv_istore_n (lv' := [(3, .int r2), (0, .ref (ad 99)), (1, .int v1), (2, .int v2)]) hx hb dX11_next_75 rfl hl (by decide) rfl (fun ls hl => ?_)
        refine lv_iload_n hx hb dX11_next_76 rfl (lv_at hl 0 rfl) ?_
        refine lv_if_ne (tgt := 84) hx hb dX11_next_77 (by decide) (fun hc => ?_) (fun hc => ?_)
        · replace hf := it_neg hc hf
          refine lv_iload_n hx hb dX11_next_84 rfl (lv_at hl 2 rfl) ?_
          refine lv_if_ne (tgt := 92) hx hb dX11_next_85 (by decide) (fun hc => ?_) (fun hc => ?_)
          · replace hf := it_neg hc hf
            refine lv_iload_n hx hb dX11_next_92 rfl (lv_at hl 0 rfl) ?_
            exact B93 r2 st3 _ _ ls hf (lv_sub hl [] rfl) hP hS
          · replace hf := it_pos hc hf
            refine lv_iload_n hx hb dX11_next_88 rfl (lv_at hl 3 rfl) ?_
            refine lv_goto (tgt := 93) hx hb dX11_next_89 (by decide) ?_
            exact B93 v2 st3 _ _ ls hf (lv_sub hl [] rfl) hP hS
        · replace hf := it_pos hc hf
          refine lv_iconst (v := -1) hx hb dX11_next_80 (by decide) ?_
          refine lv_goto (tgt := 93) hx hb dX11_next_81 (by decide) ?_
          exact B93 (-1 : Int32) st3 _ _ ls hf (lv_sub hl [] rfl) hP hS
      · replace hf := it_neg hc hf
        refine lv_aload_n hx hb dX11_next_31 rfl (lv_at hl 0 rfl) ?_
        refine cg_11_10_0 E hP dX11_next_32 ?_
        refine cg_11_270_1 E hP dX11_next_35 ?_
        refine lv_iload_n hx hb dX11_next_38 rfl (lv_at hl 3 rfl) ?_
        obtain ⟨r4, st5, hc, hf⟩ := bd_some hf
        refine c_calli (n := 1) (rest := []) E hN hP hS (fun sz => tX4_mostAlike l D cy ad fz hJ sz v3 st r4 st5 hc) (va_recv E.2 hP (ci := 4) (q0 := 14) rfl rfl) (gV k_1076 k_1077 k_1078 k_4 k_1079) qX4_mostAlike ⟨Nat.le_of_ble_eq_true rfl, Nat.le_of_ble_eq_true rfl⟩ ⟨Nat.le_refl _, Nat.le_refl _⟩ rfl hl.1 rfl (Nat.le_of_ble_eq_true rfl) dX11_next_39 (fun H locs hP hS => ?_)
        refine lv_aload_n hx hb dX11_next_42 rfl (lv_at hl 0 rfl) ?_
        refine cg_11_10_0 E hP dX11_next_43 ?_
        refine cg_11_270_1 E hP dX11_next_46 ?_
        refine lv_iload_n hx hb dX11_next_49 rfl (lv_at hl 2 rfl) ?_
        obtain ⟨r6, st7, hc, hf⟩ := bd_some hf
        refine c_calli (n := 1) (rest := [.int r4]) E hN hP hS (fun sz => tX4_mostAlike l D cy ad fz hJ sz v2 st5 r6 st7 hc) (va_recv E.2 hP (ci := 4) (q0 := 14) rfl rfl) (gV k_1076 k_1077 k_1078 k_4 k_1079) qX4_mostAlike ⟨Nat.le_of_ble_eq_true rfl, Nat.le_of_ble_eq_true rfl⟩ ⟨Nat.le_refl _, Nat.le_refl _⟩ rfl hl.1 rfl (Nat.le_of_ble_eq_true rfl) dX11_next_50 (fun H locs hP hS => ?_)
        refine lv_icmp_ge (tgt := 58) hx hb dX11_next_53 (by decide) (fun hc => ?_) (fun hc => ?_)
        · replace hf := it_pos hc hf
          exact B58 v1 v2 v3 st7 _ _ ls hf hl hP hS
        · replace hf := it_neg hc hf
          refine lv_iload_n hx hb dX11_next_56 rfl (lv_at hl 3 rfl) ?_
          refine lv_istore_n (lv' := [(2, .int v3), (0, .ref (ad 99)), (1, .int v1), (3, .int v3)]) hx hb dX11_next_57 rfl hl (by decide) rfl (fun ls hl => ?_)
          exact B58 v1 v3 v3 st7 _ _ ls hf (lv_sub hl [1, 2, 0, 3] rfl) hP hS
  refine lv_iload_n hx hb dX11_next_0 rfl (lv_at hl 1 rfl) ?_
  refine lv_iconst (v := 0) hx hb dX11_next_1 (by decide) ?_
  refine lv_iconst (v := 1) hx hb dX11_next_2 (by decide) ?_
  obtain ⟨r8, hc, hf⟩ := bs_some hf
  refine s_calli (n := 3) (rest := []) E.1 (tX11_within l _ a0 (0 : Int32) (1 : Int32) r8 hc) (gS k_472 k_458 k_1 k_459) qX11_within ⟨Nat.le_of_ble_eq_true rfl, Nat.le_of_ble_eq_true rfl⟩ ⟨Nat.le_refl _, Nat.le_refl _⟩ rfl hl.1 rfl (Nat.le_of_ble_eq_true rfl) dX11_next_3 ?_
  refine lv_if_ne (tgt := 11) hx hb dX11_next_6 (by decide) (fun hc => ?_) (fun hc => ?_)
  · replace hf := it_neg hc hf
    refine lv_aload_n hx hb dX11_next_11 rfl (lv_at hl 0 rfl) ?_
    refine cg_11_10_0 E hP dX11_next_12 ?_
    refine cg_11_270_1 E hP dX11_next_15 ?_
    obtain ⟨r9, st10, hc, hf⟩ := bd_some hf
    refine c_callv (n := 0) (rest := []) E hN hP hS (fun sz => tX4_tallyFitting l D cy ad fz hJ sz st r9 st10 hc) (va_recv E.2 hP (ci := 4) (q0 := 14) rfl rfl) (gV k_1072 k_1073 k_1074 k_4 k_1075) qX4_tallyFitting ⟨Nat.le_of_ble_eq_true rfl, Nat.le_of_ble_eq_true rfl⟩ ⟨Nat.le_refl _, Nat.le_refl _⟩ rfl hl.1 rfl (Nat.le_of_ble_eq_true rfl) dX11_next_18 (fun H locs hP hS => ?_)
    refine lv_iconst (v := 0) hx hb dX11_next_21 (by decide) ?_
    refine lv_istore_n (lv' := [(2, .int (0 : Int32)), (0, .ref (ad 99)), (1, .int a0)]) hx hb dX11_next_22 rfl hl (by decide) rfl (fun ls hl => ?_)
    refine lv_iconst (v := 1) hx hb dX11_next_23 (by decide) ?_
    refine lv_istore_n (lv' := [(3, .int (1 : Int32)), (2, .int (0 : Int32)), (0, .ref (ad 99)), (1, .int a0)]) hx hb dX11_next_24 rfl hl (by decide) rfl (fun ls hl => ?_)
    exact L25 6000 a0 (0 : Int32) (1 : Int32) st10 _ _ ls hf (lv_sub hl [2, 3, 1, 0] rfl) hP hS
  · replace hf := it_pos hc hf
    refine lv_iconst (v := -1) hx hb dX11_next_9 (by decide) ?_
    exact c_iret hx hb hr hlocks hf hP hS dX11_next_10
def fX0_take__13_2 (fz : List FP) (st : St) : Option (Unit × St) := lt (sA st 1300 (va_cpy (st.2.2.1 200) (st.2.2.1 1300) (0 : Int32).toNatClampNeg (0 : Int32).toNatClampNeg (6 : Int32).toNatClampNeg)) (fun st1 => lt (sA st1 1301 (va_cpy (st1.2.2.1 201) (st1.2.2.1 1301) (0 : Int32).toNatClampNeg (0 : Int32).toNatClampNeg (6 : Int32).toNatClampNeg)) (fun st2 => lt (sA st2 1302 (va_cpy (st2.2.2.1 202) (st2.2.2.1 1302) (0 : Int32).toNatClampNeg (0 : Int32).toNatClampNeg (6 : Int32).toNatClampNeg)) (fun st3 => lt (sA st3 1303 (va_cpy (st3.2.2.1 203) (st3.2.2.1 1303) (0 : Int32).toNatClampNeg (0 : Int32).toNatClampNeg (4 : Int32).toNatClampNeg)) (fun st4 => lt (sI st4 1304 (st4.1 204)) (fun st5 => some ((), st5))))))
set_option maxHeartbeats 4000000 in
set_option maxRecDepth 100000 in
theorem tX0_take__13_2 (l : Launch) (D : va_G) (cy : Nat → ClassId) (ad : Nat → Nat) (fz : List FP) (hJ : (cads ad fz).Nodup) (sz : Nat) (st : St) (rr : Unit) (st' : St) (hf : fX0_take__13_2 fz st = some (rr, st')) : Met l yX0_take (Cond.code yX0_take cX0_take 2 none :: TT) (rmD 1) (cPc D cy ad fz [.ref (ad 1399), .ref (ad 299)] st sz) (cQv D cy ad fz rr st' sz) 0 0 (cA ad fz sz) := by
  refine c_metv (by decide) hJ (Nat.le_of_ble_eq_true rfl) (fun p e s m args below meth c ls E hx hb hr hlocks hown hT hD hN hl hP hS => ?_)
  replace hl : lv_has ls 2 [(0, .ref (ad 1399)), (1, .ref (ad 299))] := hl
  unfold fX0_take__13_2 at hf
  refine lv_aload_n hx hb dX0_take_0 rfl (lv_at hl 1 rfl) ?_
  refine cg_0_9_2 E hP dX0_take_1 ?_
  refine lv_iconst (v := 0) hx hb dX0_take_4 (by decide) ?_
  refine lv_aload_n hx hb dX0_take_5 rfl (lv_at hl 0 rfl) ?_
  refine cg_0_9_13 E hP dX0_take_6 ?_
  refine lv_iconst (v := 0) hx hb dX0_take_9 (by decide) ?_
  refine lv_bipush (v := 6) hx hb dX0_take_10 (by decide) ?_
  refine ccp_200_1300 E k_800 hD hP hS (by decide) hl.1 (Nat.le_of_ble_eq_true rfl) (Nat.le_of_ble_eq_true rfl) dX0_take_12 (fun st1 H locs ex hP hS => ?_)
  replace hf := lt_at ex hf; clear ex
  refine lv_aload_n hx hb dX0_take_15 rfl (lv_at hl 1 rfl) ?_
  refine cg_0_15_2 E hP dX0_take_16 ?_
  refine lv_iconst (v := 0) hx hb dX0_take_19 (by decide) ?_
  refine lv_aload_n hx hb dX0_take_20 rfl (lv_at hl 0 rfl) ?_
  refine cg_0_15_13 E hP dX0_take_21 ?_
  refine lv_iconst (v := 0) hx hb dX0_take_24 (by decide) ?_
  refine lv_bipush (v := 6) hx hb dX0_take_25 (by decide) ?_
  refine ccp_201_1301 E k_800 hD hP hS (by decide) hl.1 (Nat.le_of_ble_eq_true rfl) (Nat.le_of_ble_eq_true rfl) dX0_take_27 (fun st2 H locs ex hP hS => ?_)
  replace hf := lt_at ex hf; clear ex
  refine lv_aload_n hx hb dX0_take_30 rfl (lv_at hl 1 rfl) ?_
  refine cg_0_18_2 E hP dX0_take_31 ?_
  refine lv_iconst (v := 0) hx hb dX0_take_34 (by decide) ?_
  refine lv_aload_n hx hb dX0_take_35 rfl (lv_at hl 0 rfl) ?_
  refine cg_0_18_13 E hP dX0_take_36 ?_
  refine lv_iconst (v := 0) hx hb dX0_take_39 (by decide) ?_
  refine lv_bipush (v := 6) hx hb dX0_take_40 (by decide) ?_
  refine ccp_202_1302 E k_800 hD hP hS (by decide) hl.1 (Nat.le_of_ble_eq_true rfl) (Nat.le_of_ble_eq_true rfl) dX0_take_42 (fun st3 H locs ex hP hS => ?_)
  replace hf := lt_at ex hf; clear ex
  refine lv_aload_n hx hb dX0_take_45 rfl (lv_at hl 1 rfl) ?_
  refine cg_0_21_2 E hP dX0_take_46 ?_
  refine lv_iconst (v := 0) hx hb dX0_take_49 (by decide) ?_
  refine lv_aload_n hx hb dX0_take_50 rfl (lv_at hl 0 rfl) ?_
  refine cg_0_21_13 E hP dX0_take_51 ?_
  refine lv_iconst (v := 0) hx hb dX0_take_54 (by decide) ?_
  refine lv_iconst (v := 4) hx hb dX0_take_55 (by decide) ?_
  refine ccp_203_1303 E k_800 hD hP hS (by decide) hl.1 (Nat.le_of_ble_eq_true rfl) (Nat.le_of_ble_eq_true rfl) dX0_take_56 (fun st4 H locs ex hP hS => ?_)
  replace hf := lt_at ex hf; clear ex
  refine lv_aload_n hx hb dX0_take_59 rfl (lv_at hl 0 rfl) ?_
  refine lv_aload_n hx hb dX0_take_60 rfl (lv_at hl 1 rfl) ?_
  refine cg_0_30_2 E hP dX0_take_61 ?_
  refine cp_0_30_13 E hD hP hS dX0_take_64 (fun st5 H locs ex hP hS => ?_)
  replace hf := lt_at ex hf; clear ex
  exact c_vret hx hb hr hlocks hf hP hS dX0_take_67
def fX0_take__14_2 (fz : List FP) (st : St) : Option (Unit × St) := lt (sA st 1400 (va_cpy (st.2.2.1 200) (st.2.2.1 1400) (0 : Int32).toNatClampNeg (0 : Int32).toNatClampNeg (6 : Int32).toNatClampNeg)) (fun st1 => lt (sA st1 1401 (va_cpy (st1.2.2.1 201) (st1.2.2.1 1401) (0 : Int32).toNatClampNeg (0 : Int32).toNatClampNeg (6 : Int32).toNatClampNeg)) (fun st2 => lt (sA st2 1402 (va_cpy (st2.2.2.1 202) (st2.2.2.1 1402) (0 : Int32).toNatClampNeg (0 : Int32).toNatClampNeg (6 : Int32).toNatClampNeg)) (fun st3 => lt (sA st3 1403 (va_cpy (st3.2.2.1 203) (st3.2.2.1 1403) (0 : Int32).toNatClampNeg (0 : Int32).toNatClampNeg (4 : Int32).toNatClampNeg)) (fun st4 => lt (sI st4 1404 (st4.1 204)) (fun st5 => some ((), st5))))))
set_option maxHeartbeats 4000000 in
set_option maxRecDepth 100000 in
theorem tX0_take__14_2 (l : Launch) (D : va_G) (cy : Nat → ClassId) (ad : Nat → Nat) (fz : List FP) (hJ : (cads ad fz).Nodup) (sz : Nat) (st : St) (rr : Unit) (st' : St) (hf : fX0_take__14_2 fz st = some (rr, st')) : Met l yX0_take (Cond.code yX0_take cX0_take 2 none :: TT) (rmD 1) (cPc D cy ad fz [.ref (ad 1499), .ref (ad 299)] st sz) (cQv D cy ad fz rr st' sz) 0 0 (cA ad fz sz) := by
  refine c_metv (by decide) hJ (Nat.le_of_ble_eq_true rfl) (fun p e s m args below meth c ls E hx hb hr hlocks hown hT hD hN hl hP hS => ?_)
  replace hl : lv_has ls 2 [(0, .ref (ad 1499)), (1, .ref (ad 299))] := hl
  unfold fX0_take__14_2 at hf
  refine lv_aload_n hx hb dX0_take_0 rfl (lv_at hl 1 rfl) ?_
  refine cg_0_9_2 E hP dX0_take_1 ?_
  refine lv_iconst (v := 0) hx hb dX0_take_4 (by decide) ?_
  refine lv_aload_n hx hb dX0_take_5 rfl (lv_at hl 0 rfl) ?_
  refine cg_0_9_14 E hP dX0_take_6 ?_
  refine lv_iconst (v := 0) hx hb dX0_take_9 (by decide) ?_
  refine lv_bipush (v := 6) hx hb dX0_take_10 (by decide) ?_
  refine ccp_200_1400 E k_800 hD hP hS (by decide) hl.1 (Nat.le_of_ble_eq_true rfl) (Nat.le_of_ble_eq_true rfl) dX0_take_12 (fun st1 H locs ex hP hS => ?_)
  replace hf := lt_at ex hf; clear ex
  refine lv_aload_n hx hb dX0_take_15 rfl (lv_at hl 1 rfl) ?_
  refine cg_0_15_2 E hP dX0_take_16 ?_
  refine lv_iconst (v := 0) hx hb dX0_take_19 (by decide) ?_
  refine lv_aload_n hx hb dX0_take_20 rfl (lv_at hl 0 rfl) ?_
  refine cg_0_15_14 E hP dX0_take_21 ?_
  refine lv_iconst (v := 0) hx hb dX0_take_24 (by decide) ?_
  refine lv_bipush (v := 6) hx hb dX0_take_25 (by decide) ?_
  refine ccp_201_1401 E k_800 hD hP hS (by decide) hl.1 (Nat.le_of_ble_eq_true rfl) (Nat.le_of_ble_eq_true rfl) dX0_take_27 (fun st2 H locs ex hP hS => ?_)
  replace hf := lt_at ex hf; clear ex
  refine lv_aload_n hx hb dX0_take_30 rfl (lv_at hl 1 rfl) ?_
  refine cg_0_18_2 E hP dX0_take_31 ?_
  refine lv_iconst (v := 0) hx hb dX0_take_34 (by decide) ?_
  refine lv_aload_n hx hb dX0_take_35 rfl (lv_at hl 0 rfl) ?_
  refine cg_0_18_14 E hP dX0_take_36 ?_
  refine lv_iconst (v := 0) hx hb dX0_take_39 (by decide) ?_
  refine lv_bipush (v := 6) hx hb dX0_take_40 (by decide) ?_
  refine ccp_202_1402 E k_800 hD hP hS (by decide) hl.1 (Nat.le_of_ble_eq_true rfl) (Nat.le_of_ble_eq_true rfl) dX0_take_42 (fun st3 H locs ex hP hS => ?_)
  replace hf := lt_at ex hf; clear ex
  refine lv_aload_n hx hb dX0_take_45 rfl (lv_at hl 1 rfl) ?_
  refine cg_0_21_2 E hP dX0_take_46 ?_
  refine lv_iconst (v := 0) hx hb dX0_take_49 (by decide) ?_
  refine lv_aload_n hx hb dX0_take_50 rfl (lv_at hl 0 rfl) ?_
  refine cg_0_21_14 E hP dX0_take_51 ?_
  refine lv_iconst (v := 0) hx hb dX0_take_54 (by decide) ?_
  refine lv_iconst (v := 4) hx hb dX0_take_55 (by decide) ?_
  refine ccp_203_1403 E k_800 hD hP hS (by decide) hl.1 (Nat.le_of_ble_eq_true rfl) (Nat.le_of_ble_eq_true rfl) dX0_take_56 (fun st4 H locs ex hP hS => ?_)
  replace hf := lt_at ex hf; clear ex
  refine lv_aload_n hx hb dX0_take_59 rfl (lv_at hl 0 rfl) ?_
  refine lv_aload_n hx hb dX0_take_60 rfl (lv_at hl 1 rfl) ?_
  refine cg_0_30_2 E hP dX0_take_61 ?_
  refine cp_0_30_14 E hD hP hS dX0_take_64 (fun st5 H locs ex hP hS => ?_)
  replace hf := lt_at ex hf; clear ex
  exact c_vret hx hb hr hlocks hf hP hS dX0_take_67
def fX0_take__2_13 (fz : List FP) (st : St) : Option (Unit × St) := lt (sA st 200 (va_cpy (st.2.2.1 1300) (st.2.2.1 200) (0 : Int32).toNatClampNeg (0 : Int32).toNatClampNeg (6 : Int32).toNatClampNeg)) (fun st1 => lt (sA st1 201 (va_cpy (st1.2.2.1 1301) (st1.2.2.1 201) (0 : Int32).toNatClampNeg (0 : Int32).toNatClampNeg (6 : Int32).toNatClampNeg)) (fun st2 => lt (sA st2 202 (va_cpy (st2.2.2.1 1302) (st2.2.2.1 202) (0 : Int32).toNatClampNeg (0 : Int32).toNatClampNeg (6 : Int32).toNatClampNeg)) (fun st3 => lt (sA st3 203 (va_cpy (st3.2.2.1 1303) (st3.2.2.1 203) (0 : Int32).toNatClampNeg (0 : Int32).toNatClampNeg (4 : Int32).toNatClampNeg)) (fun st4 => lt (sI st4 204 (st4.1 1304)) (fun st5 => some ((), st5))))))
set_option maxHeartbeats 4000000 in
set_option maxRecDepth 100000 in
theorem tX0_take__2_13 (l : Launch) (D : va_G) (cy : Nat → ClassId) (ad : Nat → Nat) (fz : List FP) (hJ : (cads ad fz).Nodup) (sz : Nat) (st : St) (rr : Unit) (st' : St) (hf : fX0_take__2_13 fz st = some (rr, st')) : Met l yX0_take (Cond.code yX0_take cX0_take 2 none :: TT) (rmD 1) (cPc D cy ad fz [.ref (ad 299), .ref (ad 1399)] st sz) (cQv D cy ad fz rr st' sz) 0 0 (cA ad fz sz) := by
  refine c_metv (by decide) hJ (Nat.le_of_ble_eq_true rfl) (fun p e s m args below meth c ls E hx hb hr hlocks hown hT hD hN hl hP hS => ?_)
  replace hl : lv_has ls 2 [(0, .ref (ad 299)), (1, .ref (ad 1399))] := hl
  unfold fX0_take__2_13 at hf
  refine lv_aload_n hx hb dX0_take_0 rfl (lv_at hl 1 rfl) ?_
  refine cg_0_9_13 E hP dX0_take_1 ?_
  refine lv_iconst (v := 0) hx hb dX0_take_4 (by decide) ?_
  refine lv_aload_n hx hb dX0_take_5 rfl (lv_at hl 0 rfl) ?_
  refine cg_0_9_2 E hP dX0_take_6 ?_
  refine lv_iconst (v := 0) hx hb dX0_take_9 (by decide) ?_
  refine lv_bipush (v := 6) hx hb dX0_take_10 (by decide) ?_
  refine ccp_1300_200 E k_800 hD hP hS (by decide) hl.1 (Nat.le_of_ble_eq_true rfl) (Nat.le_of_ble_eq_true rfl) dX0_take_12 (fun st1 H locs ex hP hS => ?_)
  replace hf := lt_at ex hf; clear ex
  refine lv_aload_n hx hb dX0_take_15 rfl (lv_at hl 1 rfl) ?_
  refine cg_0_15_13 E hP dX0_take_16 ?_
  refine lv_iconst (v := 0) hx hb dX0_take_19 (by decide) ?_
  refine lv_aload_n hx hb dX0_take_20 rfl (lv_at hl 0 rfl) ?_
  refine cg_0_15_2 E hP dX0_take_21 ?_
  refine lv_iconst (v := 0) hx hb dX0_take_24 (by decide) ?_
  refine lv_bipush (v := 6) hx hb dX0_take_25 (by decide) ?_
  refine ccp_1301_201 E k_800 hD hP hS (by decide) hl.1 (Nat.le_of_ble_eq_true rfl) (Nat.le_of_ble_eq_true rfl) dX0_take_27 (fun st2 H locs ex hP hS => ?_)
  replace hf := lt_at ex hf; clear ex
  refine lv_aload_n hx hb dX0_take_30 rfl (lv_at hl 1 rfl) ?_
  refine cg_0_18_13 E hP dX0_take_31 ?_
  refine lv_iconst (v := 0) hx hb dX0_take_34 (by decide) ?_
  refine lv_aload_n hx hb dX0_take_35 rfl (lv_at hl 0 rfl) ?_
  refine cg_0_18_2 E hP dX0_take_36 ?_
  refine lv_iconst (v := 0) hx hb dX0_take_39 (by decide) ?_
  refine lv_bipush (v := 6) hx hb dX0_take_40 (by decide) ?_
  refine ccp_1302_202 E k_800 hD hP hS (by decide) hl.1 (Nat.le_of_ble_eq_true rfl) (Nat.le_of_ble_eq_true rfl) dX0_take_42 (fun st3 H locs ex hP hS => ?_)
  replace hf := lt_at ex hf; clear ex
  refine lv_aload_n hx hb dX0_take_45 rfl (lv_at hl 1 rfl) ?_
  refine cg_0_21_13 E hP dX0_take_46 ?_
  refine lv_iconst (v := 0) hx hb dX0_take_49 (by decide) ?_
  refine lv_aload_n hx hb dX0_take_50 rfl (lv_at hl 0 rfl) ?_
  refine cg_0_21_2 E hP dX0_take_51 ?_
  refine lv_iconst (v := 0) hx hb dX0_take_54 (by decide) ?_
  refine lv_iconst (v := 4) hx hb dX0_take_55 (by decide) ?_
  refine ccp_1303_203 E k_800 hD hP hS (by decide) hl.1 (Nat.le_of_ble_eq_true rfl) (Nat.le_of_ble_eq_true rfl) dX0_take_56 (fun st4 H locs ex hP hS => ?_)
  replace hf := lt_at ex hf; clear ex
  refine lv_aload_n hx hb dX0_take_59 rfl (lv_at hl 0 rfl) ?_
  refine lv_aload_n hx hb dX0_take_60 rfl (lv_at hl 1 rfl) ?_
  refine cg_0_30_13 E hP dX0_take_61 ?_
  refine cp_0_30_2 E hD hP hS dX0_take_64 (fun st5 H locs ex hP hS => ?_)
  replace hf := lt_at ex hf; clear ex
  exact c_vret hx hb hr hlocks hf hP hS dX0_take_67
def fX3_draw_b36 (fz : List FP) (w0 : Int32) (st : St) : Option (Int32 × St) := some (w0, st)
def fX3_draw (a0 : Int32) (fz : List FP) (st : St) : Option (Int32 × St) := lt (sJ st 1105 ((((st.2.1 1105) * (1103 : Int64)) + (12345 : Int64)) - (((st.2.1 1105) * (1103 : Int64)) + (12345 : Int64)) / (1000003 : Int64) * (1000003 : Int64))) (fun st1 => if 0 < a0 then (gzl (a0.toInt64) (fX3_draw_b36 fz (((st1.2.1 1105) - (st1.2.1 1105) / (a0.toInt64) * (a0.toInt64)).toInt32) st1)) else (fX3_draw_b36 fz (0 : Int32) st1))
set_option maxHeartbeats 4000000 in
set_option maxRecDepth 100000 in
theorem tX3_draw (l : Launch) (D : va_G) (cy : Nat → ClassId) (ad : Nat → Nat) (fz : List FP) (hJ : (cads ad fz).Nodup) (sz : Nat) (a0 : Int32) (st : St) (rr : Int32) (st' : St) (hf : fX3_draw a0 fz st = some (rr, st')) : Met l yX3_draw (Cond.code yX3_draw cX3_draw 2 (some .int) :: TT) (rmD 0) (cPc D cy ad fz [.ref (ad 1199), .int a0] st sz) (cQi D cy ad fz rr st' sz) 0 0 (cA ad fz sz) := by
  refine c_meti (by decide) hJ (Nat.le_of_ble_eq_true rfl) (fun p e s m args below meth c ls E hx hb hr hlocks hown hT hD hN hl hP hS => ?_)
  replace hl : lv_has ls 2 [(0, .ref (ad 1199)), (1, .int a0)] := hl
  unfold fX3_draw at hf
  have B36 : ∀ (w0 : Int32) (st : St) (H : Heap) (locs : List Loc) (ls : Array Slot), fX3_draw_b36 fz w0 st = some (rr, st') → lv_has ls 2 [] → va_P D classes (cx cy ad fz st) H → va_S (cA ad fz s.heap.size) s.heap H locs → cGi l 0 D cy ad fz rr st' p e s m args below meth c H locs (F0 m 36 ls [.int w0]) := by
    intro w0 st H locs ls hf hl hP hS
    unfold fX3_draw_b36 at hf
    exact c_iret hx hb hr hlocks hf hP hS dX3_draw_36
  refine lv_aload_n hx hb dX3_draw_0 rfl (lv_at hl 0 rfl) ?_
  refine lv_aload_n hx hb dX3_draw_1 rfl (lv_at hl 0 rfl) ?_
  refine cg_3_38_11 E hP dX3_draw_2 ?_
  refine lv_ldc2 (v := 1103) hx hb hown (hT _ k_1098) dX3_draw_5 ?_
  refine lv_lmul hx hb dX3_draw_8 ?_
  refine lv_ldc2 (v := 12345) hx hb hown (hT _ k_1099) dX3_draw_9 ?_
  refine lv_ladd hx hb dX3_draw_12 ?_
  refine lv_ldc2 (v := 1000003) hx hb hown (hT _ k_1100) dX3_draw_13 ?_
  refine lv_lrem hx hb dX3_draw_16 (by decide) ?_
  refine cp_3_38_11 E hD hP hS dX3_draw_17 (fun st1 H locs ex hP hS => ?_)
  replace hf := lt_at ex hf; clear ex
  refine lv_iload_n hx hb dX3_draw_20 rfl (lv_at hl 1 rfl) ?_
  refine lv_if_gt (tgt := 28) hx hb dX3_draw_21 (by decide) (fun hc => ?_) (fun hc => ?_)
  · replace hf := it_pos hc hf
    refine lv_aload_n hx hb dX3_draw_28 rfl (lv_at hl 0 rfl) ?_
    refine cg_3_38_11 E hP dX3_draw_29 ?_
    refine lv_iload_n hx hb dX3_draw_32 rfl (lv_at hl 1 rfl) ?_
    refine lv_i2l (v := a0.toInt64) hx hb dX3_draw_33 rfl ?_
    obtain ⟨hz, hf⟩ := gzl_some hf
    refine lv_lrem hx hb dX3_draw_34 hz ?_
    refine lv_l2i (v := ((st1.2.1 1105) - (st1.2.1 1105) / (a0.toInt64) * (a0.toInt64)).toInt32) hx hb dX3_draw_35 rfl ?_
    exact B36 (((st1.2.1 1105) - (st1.2.1 1105) / (a0.toInt64) * (a0.toInt64)).toInt32) st1 _ _ ls hf (lv_sub hl [] rfl) hP hS
  · replace hf := it_neg hc hf
    refine lv_iconst (v := 0) hx hb dX3_draw_24 (by decide) ?_
    refine lv_goto (tgt := 36) hx hb dX3_draw_25 (by decide) ?_
    exact B36 (0 : Int32) st1 _ _ ls hf (lv_sub hl [] rfl) hP hS
def fX3_runOnce_b137 (fz : List FP) (w0 : Int32) (st : St) : Option (Int32 × St) := gb w0 (some (w0, st))
def fX3_runOnce_b136 (fz : List FP) (st : St) : Option (Int32 × St) := fX3_runOnce_b137 fz (0 : Int32) st
def fX3_runOnce_b106 (fz : List FP) (v1 : Int32) (v2 : Int32) (st : St) : Option (Int32 × St) := bd (fX2_refusalOf (3 : Int32) v1 v2 fz st) (fun r1 st2 => if r1 = 0 then (bd (fX2_marchOn v1 v2 fz st2) (fun r3 st4 => if r3 = (1 : Int32) then (fX3_runOnce_b137 fz (1 : Int32) st4) else (fX3_runOnce_b136 fz st4))) else (fX3_runOnce_b136 fz st2))
def fX3_runOnce_b78 (fz : List FP) (v1 : Int32) (v2 : Int32) (v3 : Int32) (w0 : Int32) (st : St) : Option (Int32 × St) := bd (fX2_refusalOf w0 v1 v3 fz st) (fun r5 st6 => if r5 = 0 then (bd (fX2_changeFort w0 v1 v3 fz st6) (fun r7 st8 => fX3_runOnce_b106 fz v1 v2 st8)) else (fX3_runOnce_b106 fz v1 v2 st6))
def fX3_runOnce_b66 (fz : List FP) (v1 : Int32) (v2 : Int32) (v3 : Int32) (w0 : Int32) (st : St) : Option (Int32 × St) := if w0 = 0 then (fX3_runOnce_b78 fz v1 v2 v3 (0 : Int32) st) else (fX3_runOnce_b78 fz v1 v2 v3 (1 : Int32) st)
def fX3_runOnce (fz : List FP) (st : St) : Option (Int32 × St) := bd (fX3_draw (st.1 108) fz st) (fun r9 st10 => bd (fX3_draw (99 : Int32) fz st10) (fun r11 st12 => lt (r11 + (1 : Int32)) (fun x13 => bd (fX3_draw (6 : Int32) fz st12) (fun r14 st15 => bd (fX6_has r9 fz st15) (fun r16 st17 => if r16 = 0 then (some ((0 : Int32), st17)) else (gi r9 6 (if (((st17.2.2.1 201 r9.toNatClampNeg) >>> (r14 &&& 31)) &&& (1 : Int32)) = (1 : Int32) then (fX3_runOnce_b66 fz r9 x13 r14 (1 : Int32) st17) else (fX3_runOnce_b66 fz r9 x13 r14 (0 : Int32) st17))))))))
set_option maxHeartbeats 4000000 in
set_option maxRecDepth 100000 in
theorem tX3_runOnce (l : Launch) (D : va_G) (cy : Nat → ClassId) (ad : Nat → Nat) (fz : List FP) (hJ : (cads ad fz).Nodup) (sz : Nat) (st : St) (rr : Int32) (st' : St) (hf : fX3_runOnce fz st = some (rr, st')) : Met l yX3_runOnce (Cond.code yX3_runOnce cX3_runOnce 6 (some .boolean) :: TT) (rmD 5) (cPc D cy ad fz [.ref (ad 1199)] st sz) (cQi D cy ad fz rr st' sz) 0 0 (cA ad fz sz) := by
  refine c_meti (by decide) hJ (Nat.le_of_ble_eq_true rfl) (fun p e s m args below meth c ls E hx hb hr hlocks hown hT hD hN hl hP hS => ?_)
  replace hl : lv_has ls 6 [(0, .ref (ad 1199))] := hl
  unfold fX3_runOnce at hf
  have B137 : ∀ (w0 : Int32) (st : St) (H : Heap) (locs : List Loc) (ls : Array Slot), fX3_runOnce_b137 fz w0 st = some (rr, st') → lv_has ls 6 [] → va_P D classes (cx cy ad fz st) H → va_S (cA ad fz s.heap.size) s.heap H locs → cGi l 5 D cy ad fz rr st' p e s m args below meth c H locs (F0 m 137 ls [.int w0]) := by
    intro w0 st H locs ls hf hl hP hS
    unfold fX3_runOnce_b137 at hf
    obtain ⟨hn, hf⟩ := gb_some hf
    exact c_zret hx hb hr hlocks hn hf hP hS dX3_runOnce_137
  have B136 : ∀ (st : St) (H : Heap) (locs : List Loc) (ls : Array Slot), fX3_runOnce_b136 fz st = some (rr, st') → lv_has ls 6 [] → va_P D classes (cx cy ad fz st) H → va_S (cA ad fz s.heap.size) s.heap H locs → cGi l 5 D cy ad fz rr st' p e s m args below meth c H locs (F0 m 136 ls []) := by
    intro st H locs ls hf hl hP hS
    unfold fX3_runOnce_b136 at hf
    refine lv_iconst (v := 0) hx hb dX3_runOnce_136 (by decide) ?_
    exact B137 (0 : Int32) st _ _ ls hf hl hP hS
  have B106 : ∀ (v1 : Int32) (v2 : Int32) (st : St) (H : Heap) (locs : List Loc) (ls : Array Slot), fX3_runOnce_b106 fz v1 v2 st = some (rr, st') → lv_has ls 6 [(0, .ref (ad 1199)), (1, .int v1), (2, .int v2)] → va_P D classes (cx cy ad fz st) H → va_S (cA ad fz s.heap.size) s.heap H locs → cGi l 5 D cy ad fz rr st' p e s m args below meth c H locs (F0 m 106 ls []) := by
    intro v1 v2 st H locs ls hf hl hP hS
    unfold fX3_runOnce_b106 at hf
    refine lv_aload_n hx hb dX3_runOnce_106 rfl (lv_at hl 0 rfl) ?_
    refine cg_3_25_11 E hP dX3_runOnce_107 ?_
    refine lv_iconst (v := 3) hx hb dX3_runOnce_110 (by decide) ?_
    refine lv_iload_n hx hb dX3_runOnce_111 rfl (lv_at hl 1 rfl) ?_
    refine lv_iload_n hx hb dX3_runOnce_112 rfl (lv_at hl 2 rfl) ?_
    obtain ⟨r1, st2, hc, hf⟩ := bd_some hf
    refine c_calli (n := 3) (rest := []) E hN hP hS (fun sz => tX2_refusalOf l D cy ad fz hJ sz (3 : Int32) v1 v2 st r1 st2 hc) (va_recv E.2 hP (ci := 2) (q0 := 40) rfl rfl) (gV k_1102 k_818 k_819 k_11 k_820) qX2_refusalOf ⟨Nat.le_of_ble_eq_true rfl, Nat.le_of_ble_eq_true rfl⟩ ⟨Nat.le_refl _, Nat.le_refl _⟩ rfl hl.1 rfl (Nat.le_of_ble_eq_true rfl) dX3_runOnce_113 (fun H locs hP hS => ?_)
    refine lv_if_ne (tgt := 136) hx hb dX3_runOnce_116 (by decide) (fun hc => ?_) (fun hc => ?_)
    · replace hf := it_neg hc hf
      exact B136 st2 _ _ ls hf (lv_sub hl [] rfl) hP hS
    · replace hf := it_pos hc hf
      refine lv_aload_n hx hb dX3_runOnce_119 rfl (lv_at hl 0 rfl) ?_
      refine cg_3_25_11 E hP dX3_runOnce_120 ?_
      refine lv_iload_n hx hb dX3_runOnce_123 rfl (lv_at hl 1 rfl) ?_
      refine lv_iload_n hx hb dX3_runOnce_124 rfl (lv_at hl 2 rfl) ?_
      obtain ⟨r3, st4, hc, hf⟩ := bd_some hf
      refine c_calli (n := 2) (rest := []) E hN hP hS (fun sz => tX2_marchOn l D cy ad fz hJ sz v1 v2 st2 r3 st4 hc) (va_recv E.2 hP (ci := 2) (q0 := 40) rfl rfl) (gV k_1104 k_833 k_834 k_11 k_835) qX2_marchOn ⟨Nat.le_of_ble_eq_true rfl, Nat.le_of_ble_eq_true rfl⟩ ⟨Nat.le_refl _, Nat.le_refl _⟩ rfl hl.1 rfl (Nat.le_of_ble_eq_true rfl) dX3_runOnce_125 (fun H locs hP hS => ?_)
      refine lv_iconst (v := 1) hx hb dX3_runOnce_128 (by decide) ?_
      refine lv_icmp_ne (tgt := 136) hx hb dX3_runOnce_129 (by decide) (fun hc => ?_) (fun hc => ?_)
      · replace hf := it_neg hc hf
        exact B136 st4 _ _ ls hf (lv_sub hl [] rfl) hP hS
      · replace hf := it_pos hc hf
        refine lv_iconst (v := 1) hx hb dX3_runOnce_132 (by decide) ?_
        refine lv_goto (tgt := 137) hx hb dX3_runOnce_133 (by decide) ?_
        exact B137 (1 : Int32) st4 _ _ ls hf (lv_sub hl [] rfl) hP hS
  have B78 : ∀ (v1 : Int32) (v2 : Int32) (v3 : Int32) (w0 : Int32) (st : St) (H : Heap) (locs : List Loc) (ls : Array Slot), fX3_runOnce_b78 fz v1 v2 v3 w0 st = some (rr, st') → lv_has ls 6 [(0, .ref (ad 1199)), (1, .int v1), (2, .int v2), (3, .int v3)] → va_P D classes (cx cy ad fz st) H → va_S (cA ad fz s.heap.size) s.heap H locs → cGi l 5 D cy ad fz rr st' p e s m args below meth c H locs (F0 m 78 ls [.int w0]) := by
    intro v1 v2 v3 w0 st H locs ls hf hl hP hS
    unfold fX3_runOnce_b78 at hf
    refine lv_istore (lv' := [(5, .int w0), (0, .ref (ad 1199)), (1, .int v1), (2, .int v2), (3, .int v3)]) hx hb dX3_runOnce_78 hl (by decide) rfl (fun ls hl => ?_)
    refine lv_aload_n hx hb dX3_runOnce_80 rfl (lv_at hl 1 rfl) ?_
    refine cg_3_25_11 E hP dX3_runOnce_81 ?_
    refine lv_iload hx hb dX3_runOnce_84 (lv_at hl 0 rfl) ?_
    refine lv_iload_n hx hb dX3_runOnce_86 rfl (lv_at hl 2 rfl) ?_
    refine lv_iload_n hx hb dX3_runOnce_87 rfl (lv_at hl 4 rfl) ?_
    obtain ⟨r5, st6, hc, hf⟩ := bd_some hf
    refine c_calli (n := 3) (rest := []) E hN hP hS (fun sz => tX2_refusalOf l D cy ad fz hJ sz w0 v1 v3 st r5 st6 hc) (va_recv E.2 hP (ci := 2) (q0 := 40) rfl rfl) (gV k_1102 k_818 k_819 k_11 k_820) qX2_refusalOf ⟨Nat.le_of_ble_eq_true rfl, Nat.le_of_ble_eq_true rfl⟩ ⟨Nat.le_refl _, Nat.le_refl _⟩ rfl hl.1 rfl (Nat.le_of_ble_eq_true rfl) dX3_runOnce_88 (fun H locs hP hS => ?_)
    refine lv_if_ne (tgt := 106) hx hb dX3_runOnce_91 (by decide) (fun hc => ?_) (fun hc => ?_)
    · replace hf := it_neg hc hf
      exact B106 v1 v2 st6 _ _ ls hf (lv_sub hl [1, 2, 3] rfl) hP hS
    · replace hf := it_pos hc hf
      refine lv_aload_n hx hb dX3_runOnce_94 rfl (lv_at hl 1 rfl) ?_
      refine cg_3_25_11 E hP dX3_runOnce_95 ?_
      refine lv_iload hx hb dX3_runOnce_98 (lv_at hl 0 rfl) ?_
      refine lv_iload_n hx hb dX3_runOnce_100 rfl (lv_at hl 2 rfl) ?_
      refine lv_iload_n hx hb dX3_runOnce_101 rfl (lv_at hl 4 rfl) ?_
      obtain ⟨r7, st8, hc, hf⟩ := bd_some hf
      refine c_calli (n := 3) (rest := []) E hN hP hS (fun sz => tX2_changeFort l D cy ad fz hJ sz w0 v1 v3 st6 r7 st8 hc) (va_recv E.2 hP (ci := 2) (q0 := 40) rfl rfl) (gV k_1103 k_844 k_845 k_11 k_846) qX2_changeFort ⟨Nat.le_of_ble_eq_true rfl, Nat.le_of_ble_eq_true rfl⟩ ⟨Nat.le_refl _, Nat.le_refl _⟩ rfl hl.1 rfl (Nat.le_of_ble_eq_true rfl) dX3_runOnce_102 (fun H locs hP hS => ?_)
      refine lv_pop hx hb dX3_runOnce_105 rfl ?_
      exact B106 v1 v2 st8 _ _ ls hf (lv_sub hl [1, 2, 3] rfl) hP hS
  have B66 : ∀ (v1 : Int32) (v2 : Int32) (v3 : Int32) (w0 : Int32) (st : St) (H : Heap) (locs : List Loc) (ls : Array Slot), fX3_runOnce_b66 fz v1 v2 v3 w0 st = some (rr, st') → lv_has ls 6 [(0, .ref (ad 1199)), (1, .int v1), (2, .int v2), (3, .int v3)] → va_P D classes (cx cy ad fz st) H → va_S (cA ad fz s.heap.size) s.heap H locs → cGi l 5 D cy ad fz rr st' p e s m args below meth c H locs (F0 m 66 ls [.int w0]) := by
    intro v1 v2 v3 w0 st H locs ls hf hl hP hS
    unfold fX3_runOnce_b66 at hf
    refine lv_istore (lv' := [(4, .int w0), (0, .ref (ad 1199)), (1, .int v1), (2, .int v2), (3, .int v3)]) hx hb dX3_runOnce_66 hl (by decide) rfl (fun ls hl => ?_)
    refine lv_iload hx hb dX3_runOnce_68 (lv_at hl 0 rfl) ?_
    refine lv_if_eq (tgt := 77) hx hb dX3_runOnce_70 (by decide) (fun hc => ?_) (fun hc => ?_)
    · replace hf := it_pos hc hf
      refine lv_iconst (v := 0) hx hb dX3_runOnce_77 (by decide) ?_
      exact B78 v1 v2 v3 (0 : Int32) st _ _ ls hf (lv_sub hl [1, 2, 3, 4] rfl) hP hS
    · replace hf := it_neg hc hf
      refine lv_iconst (v := 1) hx hb dX3_runOnce_73 (by decide) ?_
      refine lv_goto (tgt := 78) hx hb dX3_runOnce_74 (by decide) ?_
      exact B78 v1 v2 v3 (1 : Int32) st _ _ ls hf (lv_sub hl [1, 2, 3, 4] rfl) hP hS
  refine lv_aload_n hx hb dX3_runOnce_0 rfl (lv_at hl 0 rfl) ?_
  refine lv_aload_n hx hb dX3_runOnce_1 rfl (lv_at hl 0 rfl) ?_
  refine cg_3_21_11 E hP dX3_runOnce_2 ?_
  refine cg_3_50_1 E hP dX3_runOnce_5 ?_
  obtain ⟨r9, st10, hc, hf⟩ := bd_some hf
  refine c_calli (n := 1) (rest := []) E hN hP hS (fun sz => tX3_draw l D cy ad fz hJ sz (st.1 108) st r9 st10 hc) (va_recv E.2 hP (ci := 3) (q0 := 46) rfl rfl) (gV k_1094 k_1096 ks_36 k_13 k_1097) qX3_draw ⟨Nat.le_of_ble_eq_true rfl, Nat.le_of_ble_eq_true rfl⟩ ⟨Nat.le_refl _, Nat.le_refl _⟩ rfl hl.1 rfl (Nat.le_of_ble_eq_true rfl) dX3_runOnce_8 (fun H locs hP hS => ?_)
  refine lv_istore_n (lv' := [(1, .int r9), (0, .ref (ad 1199))]) hx hb dX3_runOnce_11 rfl hl (by decide) rfl (fun ls hl => ?_)
  refine lv_aload_n hx hb dX3_runOnce_12 rfl (lv_at hl 1 rfl) ?_
  refine lv_bipush (v := 99) hx hb dX3_runOnce_13 (by decide) ?_
  obtain ⟨r11, st12, hc, hf⟩ := bd_some hf
  refine c_calli (n := 1) (rest := []) E hN hP hS (fun sz => tX3_draw l D cy ad fz hJ sz (99 : Int32) st10 r11 st12 hc) (va_recv E.2 hP (ci := 3) (q0 := 46) rfl rfl) (gV k_1094 k_1096 ks_36 k_13 k_1097) qX3_draw ⟨Nat.le_of_ble_eq_true rfl, Nat.le_of_ble_eq_true rfl⟩ ⟨Nat.le_refl _, Nat.le_refl _⟩ rfl hl.1 rfl (Nat.le_of_ble_eq_true rfl) dX3_runOnce_15 (fun H locs hP hS => ?_)
  refine lv_iconst (v := 1) hx hb dX3_runOnce_18 (by decide) ?_
  refine lv_iadd hx hb dX3_runOnce_19 ?_
  refine lv_topi (fun x13 ex => ?_)
  replace hf := lt_at ex hf; clear ex
  refine lv_istore_n (lv' := [(2, .int x13), (1, .int r9), (0, .ref (ad 1199))]) hx hb dX3_runOnce_20 rfl hl (by decide) rfl (fun ls hl => ?_)
  refine lv_aload_n hx hb dX3_runOnce_21 rfl (lv_at hl 2 rfl) ?_
  refine lv_bipush (v := 6) hx hb dX3_runOnce_22 (by decide) ?_
  obtain ⟨r14, st15, hc, hf⟩ := bd_some hf
  refine c_calli (n := 1) (rest := []) E hN hP hS (fun sz => tX3_draw l D cy ad fz hJ sz (6 : Int32) st12 r14 st15 hc) (va_recv E.2 hP (ci := 3) (q0 := 46) rfl rfl) (gV k_1094 k_1096 ks_36 k_13 k_1097) qX3_draw ⟨Nat.le_of_ble_eq_true rfl, Nat.le_of_ble_eq_true rfl⟩ ⟨Nat.le_refl _, Nat.le_refl _⟩ rfl hl.1 rfl (Nat.le_of_ble_eq_true rfl) dX3_runOnce_24 (fun H locs hP hS => ?_)
  refine lv_istore_n (lv' := [(3, .int r14), (2, .int x13), (1, .int r9), (0, .ref (ad 1199))]) hx hb dX3_runOnce_27 rfl hl (by decide) rfl (fun ls hl => ?_)
  refine lv_aload_n hx hb dX3_runOnce_28 rfl (lv_at hl 3 rfl) ?_
  refine cg_3_21_11 E hP dX3_runOnce_29 ?_
  refine lv_iload_n hx hb dX3_runOnce_32 rfl (lv_at hl 2 rfl) ?_
  obtain ⟨r16, st17, hc, hf⟩ := bd_some hf
  refine c_calli (n := 1) (rest := []) E hN hP hS (fun sz => tX6_has l D cy ad fz hJ sz r9 st15 r16 st17 hc) (va_recv E.2 hP (ci := 6) (q0 := 3) rfl rfl) (gV k_1101 k_478 k_479 k_2 k_480) qX6_has ⟨Nat.le_of_ble_eq_true rfl, Nat.le_of_ble_eq_true rfl⟩ ⟨Nat.le_refl _, Nat.le_refl _⟩ rfl hl.1 rfl (Nat.le_of_ble_eq_true rfl) dX3_runOnce_33 (fun H locs hP hS => ?_)
  refine lv_if_ne (tgt := 41) hx hb dX3_runOnce_36 (by decide) (fun hc => ?_) (fun hc => ?_)
  · replace hf := it_neg hc hf
    refine lv_aload_n hx hb dX3_runOnce_41 rfl (lv_at hl 3 rfl) ?_
    refine cg_3_21_11 E hP dX3_runOnce_42 ?_
    refine cg_3_29_1 E hP dX3_runOnce_45 ?_
    refine cg_3_69_2 E hP dX3_runOnce_48 ?_
    refine lv_iload_n hx hb dX3_runOnce_51 rfl (lv_at hl 2 rfl) ?_
    obtain ⟨hi, hf⟩ := gi_some hf
    refine cl_201 E hP hi dX3_runOnce_52 ?_
    refine lv_iload_n hx hb dX3_runOnce_53 rfl (lv_at hl 0 rfl) ?_
    refine lv_ishr hx hb dX3_runOnce_54 ?_
    refine lv_iconst (v := 1) hx hb dX3_runOnce_55 (by decide) ?_
    refine lv_iand hx hb dX3_runOnce_56 ?_
    refine lv_iconst (v := 1) hx hb dX3_runOnce_57 (by decide) ?_
    refine lv_icmp_ne (tgt := 65) hx hb dX3_runOnce_58 (by decide) (fun hc => ?_) (fun hc => ?_)
    · replace hf := it_neg hc hf
      refine lv_iconst (v := 0) hx hb dX3_runOnce_65 (by decide) ?_
      exact B66 r9 x13 r14 (0 : Int32) st17 _ _ ls hf (lv_sub hl [3, 2, 1, 0] rfl) hP hS
    · replace hf := it_pos hc hf
      refine lv_iconst (v := 1) hx hb dX3_runOnce_61 (by decide) ?_
      refine lv_goto (tgt := 66) hx hb dX3_runOnce_62 (by decide) ?_
      exact B66 r9 x13 r14 (1 : Int32) st17 _ _ ls hf (lv_sub hl [3, 2, 1, 0] rfl) hP hS
  · replace hf := it_pos hc hf
    refine lv_iconst (v := 0) hx hb dX3_runOnce_39 (by decide) ?_
    exact c_zret hx hb hr hlocks (by decide) hf hP hS dX3_runOnce_40
def fX3_run_b25 (fz : List FP) (k25 : Int32 → Int32 → Int32 → St → Option (Int32 × St)) (v2 : Int32) (v3 : Int32) (v4 : Int32) (st : St) : Option (Int32 × St) := if v2 ≤ v4 then (bd (fX0_take__14_2 fz st) (fun r1 st2 => lt (sI st2 1104 (st2.1 108)) (fun st3 => bd (fX0_take__2_13 fz st3) (fun r4 st5 => some (v3, st5))))) else (bd (fX3_runOnce fz st) (fun r6 st7 => bs (fX11_bit r6) (fun r8 => lt (v3 + r8) (fun x9 => lt (v4 + (1 : Int32)) (fun x10 => k25 v2 x9 x10 st7)))))
def fX3_run (a0 : Int32) (a1 : Int32) (fz : List FP) (st : St) : Option (Int32 × St) := bd (fX0_take__13_2 fz st) (fun r11 st12 => lt (sJ st12 1105 (a0.toInt64)) (fun st13 => lp (fun _ _ _ _ => none) (fX3_run_b25 fz) 6000 a1 (0 : Int32) (0 : Int32) st13))
set_option maxHeartbeats 4000000 in
set_option maxRecDepth 100000 in
theorem tX3_run (l : Launch) (D : va_G) (cy : Nat → ClassId) (ad : Nat → Nat) (fz : List FP) (hJ : (cads ad fz).Nodup) (sz : Nat) (a0 : Int32) (a1 : Int32) (st : St) (rr : Int32) (st' : St) (hf : fX3_run a0 a1 fz st = some (rr, st')) : Met l yX3_run (Cond.code yX3_run cX3_run 5 (some .int) :: TT) (rmD 6) (cPc D cy ad fz [.ref (ad 1199), .int a0, .int a1] st sz) (cQi D cy ad fz rr st' sz) 0 0 (cA ad fz sz) := by
  refine c_meti (by decide) hJ (Nat.le_of_ble_eq_true rfl) (fun p e s m args below meth c ls E hx hb hr hlocks hown hT hD hN hl hP hS => ?_)
  replace hl : lv_has ls 5 [(0, .ref (ad 1199)), (1, .int a0), (2, .int a1)] := hl
  unfold fX3_run at hf
  have L25 : ∀ (n : Nat) (v2 : Int32) (v3 : Int32) (v4 : Int32) (st : St) (H : Heap) (locs : List Loc) (ls : Array Slot), lp (fun _ _ _ _ => none) (fX3_run_b25 fz) n v2 v3 v4 st = some (rr, st') → lv_has ls 5 [(0, .ref (ad 1199)), (2, .int v2), (3, .int v3), (4, .int v4)] → va_P D classes (cx cy ad fz st) H → va_S (cA ad fz s.heap.size) s.heap H locs → cGi l 6 D cy ad fz rr st' p e s m args below meth c H locs (F0 m 25 ls []) := by
    intro n
    induction n with
    | zero => intro v2 v3 v4 st H locs ls hf; exact absurd hf (fun h => by cases h)
    | succ n K25 =>
      intro v2 v3 v4 st H locs ls hf hl hP hS
      replace hf : fX3_run_b25 fz (lp (fun _ _ _ _ => none) (fX3_run_b25 fz) n) v2 v3 v4 st = some (rr, st') := hf
      generalize lp (fun _ _ _ _ => none) (fX3_run_b25 fz) n = k25 at hf K25
      unfold fX3_run_b25 at hf
      refine lv_iload hx hb dX3_run_25 (lv_at hl 3 rfl) ?_
      refine lv_iload_n hx hb dX3_run_27 rfl (lv_at hl 1 rfl) ?_
      refine lv_icmp_ge (tgt := 47) hx hb dX3_run_28 (by decide) (fun hc => ?_) (fun hc => ?_)
      · replace hf := it_pos hc hf
        refine lv_aload_n hx hb dX3_run_47 rfl (lv_at hl 0 rfl) ?_
        refine cg_3_18_11 E hP dX3_run_48 ?_
        refine lv_aload_n hx hb dX3_run_51 rfl (lv_at hl 0 rfl) ?_
        refine cg_3_21_11 E hP dX3_run_52 ?_
        refine cg_3_29_1 E hP dX3_run_55 ?_
        obtain ⟨r1, st2, hc, hf⟩ := bd_some hf
        refine c_callv (n := 1) (rest := []) E hN hP hS (fun sz => tX0_take__14_2 l D cy ad fz hJ sz st r1 st2 hc) (va_recv E.2 hP (ci := 0) (q0 := 57) rfl rfl) (gV k_1089 k_797 k_798 k_3 k_799) qX0_take ⟨Nat.le_of_ble_eq_true rfl, Nat.le_of_ble_eq_true rfl⟩ ⟨Nat.le_refl _, Nat.le_refl _⟩ rfl hl.1 rfl (Nat.le_of_ble_eq_true rfl) dX3_run_58 (fun H locs hP hS => ?_)
        refine lv_aload_n hx hb dX3_run_61 rfl (lv_at hl 0 rfl) ?_
        refine lv_aload_n hx hb dX3_run_62 rfl (lv_at hl 0 rfl) ?_
        refine cg_3_21_11 E hP dX3_run_63 ?_
        refine cg_3_50_1 E hP dX3_run_66 ?_
        refine cp_3_54_11 E hD hP hS dX3_run_69 (fun st3 H locs ex hP hS => ?_)
        replace hf := lt_at ex hf; clear ex
        refine lv_aload_n hx hb dX3_run_72 rfl (lv_at hl 0 rfl) ?_
        refine cg_3_21_11 E hP dX3_run_73 ?_
        refine cg_3_29_1 E hP dX3_run_76 ?_
        refine lv_aload_n hx hb dX3_run_79 rfl (lv_at hl 0 rfl) ?_
        refine cg_3_12_11 E hP dX3_run_80 ?_
        obtain ⟨r4, st5, hc, hf⟩ := bd_some hf
        refine c_callv (n := 1) (rest := []) E hN hP hS (fun sz => tX0_take__2_13 l D cy ad fz hJ sz st3 r4 st5 hc) (va_recv E.2 hP (ci := 0) (q0 := 9) rfl rfl) (gV k_1089 k_797 k_798 k_3 k_799) qX0_take ⟨Nat.le_of_ble_eq_true rfl, Nat.le_of_ble_eq_true rfl⟩ ⟨Nat.le_refl _, Nat.le_refl _⟩ rfl hl.1 rfl (Nat.le_of_ble_eq_true rfl) dX3_run_83 (fun H locs hP hS => ?_)
        refine lv_iload_n hx hb dX3_run_86 rfl (lv_at hl 2 rfl) ?_
        exact c_iret hx hb hr hlocks hf hP hS dX3_run_87
      · replace hf := it_neg hc hf
        refine lv_iload_n hx hb dX3_run_31 rfl (lv_at hl 2 rfl) ?_
        refine lv_aload_n hx hb dX3_run_32 rfl (lv_at hl 0 rfl) ?_
        obtain ⟨r6, st7, hc, hf⟩ := bd_some hf
        refine c_calli (n := 0) (rest := [.int v3]) E hN hP hS (fun sz => tX3_runOnce l D cy ad fz hJ sz st r6 st7 hc) (va_recv E.2 hP (ci := 3) (q0 := 46) rfl rfl) (gV k_1090 k_1092 ks_35 k_13 k_1093) qX3_runOnce ⟨Nat.le_of_ble_eq_true rfl, Nat.le_of_ble_eq_true rfl⟩ ⟨Nat.le_refl _, Nat.le_refl _⟩ rfl hl.1 rfl (Nat.le_of_ble_eq_true rfl) dX3_run_33 (fun H locs hP hS => ?_)
        obtain ⟨r8, hc, hf⟩ := bs_some hf
        refine s_calliN (n := 1) (rest := [.int v3]) E.1 (tX11_bit l _ r6 r8 hc) (hN.1 (Cond.methodLinkNest "OpenGates$Draws" 46 ⟨"OpenGates", "bit", "(Z)I"⟩ "OpenGates") (List.mem_of_getElem? (i := 11) rfl)) k_544 k_1 k_545 qX11_bit.2 ⟨Nat.le_of_ble_eq_true rfl, Nat.le_of_ble_eq_true rfl⟩ ⟨Nat.le_refl _, Nat.le_refl _⟩ rfl hl.1 rfl (Nat.le_of_ble_eq_true rfl) dX3_run_36 ?_
        refine lv_iadd hx hb dX3_run_39 ?_
        refine lv_topi (fun x9 ex => ?_)
        replace hf := lt_at ex hf; clear ex
        refine lv_istore_n (lv' := [(3, .int x9), (0, .ref (ad 1199)), (2, .int v2), (4, .int v4)]) hx hb dX3_run_40 rfl hl (by decide) rfl (fun ls hl => ?_)
        obtain ⟨x10, ex⟩ : ∃ y : Int32, y = v4 + (1 : Int32) := ⟨_, rfl⟩
        replace hf := lt_at ex hf
        refine lv_iinc (v := x10) (lv' := [(4, .int x10), (3, .int x9), (0, .ref (ad 1199)), (2, .int v2)]) hx hb dX3_run_41 hl (k := 3) rfl (by rw [ex]; rfl) (by decide) rfl (fun ls hl => ?_)
        clear ex
        refine lv_goto (tgt := 25) hx hb dX3_run_44 (by decide) ?_
        exact K25 v2 x9 x10 st7 _ _ ls hf (lv_sub hl [2, 3, 1, 0] rfl) hP hS
  refine lv_aload_n hx hb dX3_run_0 rfl (lv_at hl 0 rfl) ?_
  refine cg_3_12_11 E hP dX3_run_1 ?_
  refine lv_aload_n hx hb dX3_run_4 rfl (lv_at hl 0 rfl) ?_
  refine cg_3_21_11 E hP dX3_run_5 ?_
  refine cg_3_29_1 E hP dX3_run_8 ?_
  obtain ⟨r11, st12, hc, hf⟩ := bd_some hf
  refine c_callv (n := 1) (rest := []) E hN hP hS (fun sz => tX0_take__13_2 l D cy ad fz hJ sz st r11 st12 hc) (va_recv E.2 hP (ci := 0) (q0 := 52) rfl rfl) (gV k_1089 k_797 k_798 k_3 k_799) qX0_take ⟨Nat.le_of_ble_eq_true rfl, Nat.le_of_ble_eq_true rfl⟩ ⟨Nat.le_refl _, Nat.le_refl _⟩ rfl hl.1 rfl (Nat.le_of_ble_eq_true rfl) dX3_run_11 (fun H locs hP hS => ?_)
  refine lv_aload_n hx hb dX3_run_14 rfl (lv_at hl 0 rfl) ?_
  refine lv_iload_n hx hb dX3_run_15 rfl (lv_at hl 1 rfl) ?_
  refine lv_i2l (v := a0.toInt64) hx hb dX3_run_16 rfl ?_
  refine cp_3_38_11 E hD hP hS dX3_run_17 (fun st13 H locs ex hP hS => ?_)
  replace hf := lt_at ex hf; clear ex
  refine lv_iconst (v := 0) hx hb dX3_run_20 (by decide) ?_
  refine lv_istore_n (lv' := [(3, .int (0 : Int32)), (0, .ref (ad 1199)), (1, .int a0), (2, .int a1)]) hx hb dX3_run_21 rfl hl (by decide) rfl (fun ls hl => ?_)
  refine lv_iconst (v := 0) hx hb dX3_run_22 (by decide) ?_
  refine lv_istore (lv' := [(4, .int (0 : Int32)), (3, .int (0 : Int32)), (0, .ref (ad 1199)), (1, .int a0), (2, .int a1)]) hx hb dX3_run_23 hl (by decide) rfl (fun ls hl => ?_)
  exact L25 6000 a1 (0 : Int32) (0 : Int32) st13 _ _ ls hf (lv_sub hl [2, 4, 1, 0] rfl) hP hS
def fX11_sieges_b20 (fz : List FP) (st : St) : Option (Int32 × St) := bd (fX11_refuse (-1 : Int32) fz st) (fun r1 st2 => some (r1, st2))
def fX11_sieges_b58 (fz : List FP) (w0 : Int32) (st : St) : Option (Int32 × St) := some (w0, st)
def fX11_sieges (a0 : Int32) (a1 : Int32) (fz : List FP) (st : St) : Option (Int32 × St) := bs (fX11_within a0 (0 : Int32) (1000000 : Int32)) (fun r3 => if r3 = 0 then (fX11_sieges_b20 fz st) else (bs (fX11_within a1 (1 : Int32) (60 : Int32)) (fun r4 => if r4 = 0 then (fX11_sieges_b20 fz st) else (if (st.1 108) = 0 then (bd (fX11_refuse (-3 : Int32) fz st) (fun r9 st10 => fX11_sieges_b58 fz r9 st10)) else (bd (fX3_run a0 a1 fz st) (fun r5 st6 => bd (fX11_settle r5 fz st6) (fun r7 st8 => fX11_sieges_b58 fz r7 st8)))))))
set_option maxHeartbeats 4000000 in
set_option maxRecDepth 100000 in
theorem tX11_sieges (l : Launch) (D : va_G) (cy : Nat → ClassId) (ad : Nat → Nat) (fz : List FP) (hJ : (cads ad fz).Nodup) (sz : Nat) (a0 : Int32) (a1 : Int32) (st : St) (rr : Int32) (st' : St) (hf : fX11_sieges a0 a1 fz st = some (rr, st')) : Met l yX11_sieges (Cond.code yX11_sieges cX11_sieges 3 (some .int) :: TT) (rmD 7) (cPc D cy ad fz [.ref (ad 99), .int a0, .int a1] st sz) (cQi D cy ad fz rr st' sz) 0 0 (cA ad fz sz) := by
  refine c_meti (by decide) hJ (Nat.le_of_ble_eq_true rfl) (fun p e s m args below meth c ls E hx hb hr hlocks hown hT hD hN hl hP hS => ?_)
  replace hl : lv_has ls 3 [(0, .ref (ad 99)), (1, .int a0), (2, .int a1)] := hl
  unfold fX11_sieges at hf
  have B20 : ∀ (st : St) (H : Heap) (locs : List Loc) (ls : Array Slot), fX11_sieges_b20 fz st = some (rr, st') → lv_has ls 3 [(0, .ref (ad 99))] → va_P D classes (cx cy ad fz st) H → va_S (cA ad fz s.heap.size) s.heap H locs → cGi l 7 D cy ad fz rr st' p e s m args below meth c H locs (F0 m 20 ls []) := by
    intro st H locs ls hf hl hP hS
    unfold fX11_sieges_b20 at hf
    refine lv_aload_n hx hb dX11_sieges_20 rfl (lv_at hl 0 rfl) ?_
    refine lv_iconst (v := -1) hx hb dX11_sieges_21 (by decide) ?_
    obtain ⟨r1, st2, hc, hf⟩ := bd_some hf
    refine c_calli (n := 1) (rest := []) E hN hP hS (fun sz => tX11_refuse l D cy ad fz hJ sz (-1 : Int32) st r1 st2 hc) (va_recv E.2 hP (ci := 11) (q0 := 0) rfl rfl) (gV k_468 k_470 ks_1 k_1 k_471) qX11_refuse ⟨Nat.le_of_ble_eq_true rfl, Nat.le_of_ble_eq_true rfl⟩ ⟨Nat.le_refl _, Nat.le_refl _⟩ rfl hl.1 rfl (Nat.le_of_ble_eq_true rfl) dX11_sieges_22 (fun H locs hP hS => ?_)
    exact c_iret hx hb hr hlocks hf hP hS dX11_sieges_25
  have B58 : ∀ (w0 : Int32) (st : St) (H : Heap) (locs : List Loc) (ls : Array Slot), fX11_sieges_b58 fz w0 st = some (rr, st') → lv_has ls 3 [] → va_P D classes (cx cy ad fz st) H → va_S (cA ad fz s.heap.size) s.heap H locs → cGi l 7 D cy ad fz rr st' p e s m args below meth c H locs (F0 m 58 ls [.int w0]) := by
    intro w0 st H locs ls hf hl hP hS
    unfold fX11_sieges_b58 at hf
    exact c_iret hx hb hr hlocks hf hP hS dX11_sieges_58
  refine lv_iload_n hx hb dX11_sieges_0 rfl (lv_at hl 1 rfl) ?_
  refine lv_iconst (v := 0) hx hb dX11_sieges_1 (by decide) ?_
  refine lv_ldc (v := 1000000) hx hb hown (hT _ k_944) dX11_sieges_2 ?_
  obtain ⟨r3, hc, hf⟩ := bs_some hf
  refine s_calli (n := 3) (rest := []) E.1 (tX11_within l _ a0 (0 : Int32) (1000000 : Int32) r3 hc) (gS k_472 k_458 k_1 k_459) qX11_within ⟨Nat.le_of_ble_eq_true rfl, Nat.le_of_ble_eq_true rfl⟩ ⟨Nat.le_refl _, Nat.le_refl _⟩ rfl hl.1 rfl (Nat.le_of_ble_eq_true rfl) dX11_sieges_4 ?_
  refine lv_if_eq (tgt := 20) hx hb dX11_sieges_7 (by decide) (fun hc => ?_) (fun hc => ?_)
  · replace hf := it_pos hc hf
    exact B20 st _ _ ls hf (lv_sub hl [0] rfl) hP hS
  · replace hf := it_neg hc hf
    refine lv_iload_n hx hb dX11_sieges_10 rfl (lv_at hl 2 rfl) ?_
    refine lv_iconst (v := 1) hx hb dX11_sieges_11 (by decide) ?_
    refine lv_bipush (v := 60) hx hb dX11_sieges_12 (by decide) ?_
    obtain ⟨r4, hc, hf⟩ := bs_some hf
    refine s_calli (n := 3) (rest := []) E.1 (tX11_within l _ a1 (1 : Int32) (60 : Int32) r4 hc) (gS k_472 k_458 k_1 k_459) qX11_within ⟨Nat.le_of_ble_eq_true rfl, Nat.le_of_ble_eq_true rfl⟩ ⟨Nat.le_refl _, Nat.le_refl _⟩ rfl hl.1 rfl (Nat.le_of_ble_eq_true rfl) dX11_sieges_14 ?_
    refine lv_if_ne (tgt := 26) hx hb dX11_sieges_17 (by decide) (fun hc => ?_) (fun hc => ?_)
    · replace hf := it_neg hc hf
      refine lv_aload_n hx hb dX11_sieges_26 rfl (lv_at hl 0 rfl) ?_
      refine cg_11_10_0 E hP dX11_sieges_27 ?_
      refine cg_11_314_1 E hP dX11_sieges_30 ?_
      refine lv_if_ne (tgt := 45) hx hb dX11_sieges_33 (by decide) (fun hc => ?_) (fun hc => ?_)
      · replace hf := it_neg hc hf
        refine lv_aload_n hx hb dX11_sieges_45 rfl (lv_at hl 0 rfl) ?_
        refine lv_aload_n hx hb dX11_sieges_46 rfl (lv_at hl 0 rfl) ?_
        refine cg_11_71_0 E hP dX11_sieges_47 ?_
        refine lv_iload_n hx hb dX11_sieges_50 rfl (lv_at hl 1 rfl) ?_
        refine lv_iload_n hx hb dX11_sieges_51 rfl (lv_at hl 2 rfl) ?_
        obtain ⟨r5, st6, hc, hf⟩ := bd_some hf
        refine c_calli (n := 2) (rest := [.ref (ad 99)]) E hN hP hS (fun sz => tX3_run l D cy ad fz hJ sz a0 a1 st r5 st6 hc) (va_recv E.2 hP (ci := 3) (q0 := 46) rfl rfl) (gV k_1085 k_1086 k_1087 k_13 k_1088) qX3_run ⟨Nat.le_of_ble_eq_true rfl, Nat.le_of_ble_eq_true rfl⟩ ⟨Nat.le_refl _, Nat.le_refl _⟩ rfl hl.1 rfl (Nat.le_of_ble_eq_true rfl) dX11_sieges_52 (fun H locs hP hS => ?_)
        obtain ⟨r7, st8, hc, hf⟩ := bd_some hf
        refine c_calli (n := 1) (rest := []) E hN hP hS (fun sz => tX11_settle l D cy ad fz hJ sz r5 st6 r7 st8 hc) (va_recv E.2 hP (ci := 11) (q0 := 0) rfl rfl) (gV k_464 k_466 ks_0 k_1 k_467) qX11_settle ⟨Nat.le_of_ble_eq_true rfl, Nat.le_of_ble_eq_true rfl⟩ ⟨Nat.le_refl _, Nat.le_refl _⟩ rfl hl.1 rfl (Nat.le_of_ble_eq_true rfl) dX11_sieges_55 (fun H locs hP hS => ?_)
        exact B58 r7 st8 _ _ ls hf (lv_sub hl [] rfl) hP hS
      · replace hf := it_pos hc hf
        refine lv_aload_n hx hb dX11_sieges_36 rfl (lv_at hl 0 rfl) ?_
        refine lv_bipush (v := -3) hx hb dX11_sieges_37 (by decide) ?_
        obtain ⟨r9, st10, hc, hf⟩ := bd_some hf
        refine c_calli (n := 1) (rest := []) E hN hP hS (fun sz => tX11_refuse l D cy ad fz hJ sz (-3 : Int32) st r9 st10 hc) (va_recv E.2 hP (ci := 11) (q0 := 0) rfl rfl) (gV k_468 k_470 ks_1 k_1 k_471) qX11_refuse ⟨Nat.le_of_ble_eq_true rfl, Nat.le_of_ble_eq_true rfl⟩ ⟨Nat.le_refl _, Nat.le_refl _⟩ rfl hl.1 rfl (Nat.le_of_ble_eq_true rfl) dX11_sieges_39 (fun H locs hP hS => ?_)
        refine lv_goto (tgt := 58) hx hb dX11_sieges_42 (by decide) ?_
        exact B58 r9 st10 _ _ ls hf (lv_sub hl [] rfl) hP hS
    · replace hf := it_pos hc hf
      exact B20 st _ _ ls hf (lv_sub hl [0] rfl) hP hS
def fX11_drawn_b46 (fz : List FP) (st : St) : Option (Int32 × St) := some ((-1 : Int32), st)
def fX11_drawn_b40 (fz : List FP) (v1 : Int32) (v2 : Int32) (w0 : Int32) (w1 : Int32) (w2 : Int32) (st : St) : Option (Int32 × St) := bs (fX11_within w2 w1 w0) (fun r1 => if r1 = 0 then (fX11_drawn_b46 fz st) else (if v2 = 0 then (gi v1 6 (some ((st.2.2.1 1400 v1.toNatClampNeg), st))) else (if v2 = 1 then (gi v1 6 (some ((st.2.2.1 1402 v1.toNatClampNeg), st))) else (if v2 = 2 then (gi v1 6 (some ((st.2.2.1 1401 v1.toNatClampNeg), st))) else (if v2 = 3 then (gi v1 4 (some ((st.2.2.1 1403 v1.toNatClampNeg), st))) else (some ((-1 : Int32), st)))))))
def fX11_drawn_b10 (fz : List FP) (v1 : Int32) (v2 : Int32) (w0 : Int32) (st : St) : Option (Int32 × St) := if (st.1 1104) = 0 then (fX11_drawn_b46 fz st) else (if w0 = 0 then (fX11_drawn_b40 fz v1 v2 ((st.1 1104) - (1 : Int32)) (0 : Int32) v1 st) else (fX11_drawn_b40 fz v1 v2 (3 : Int32) (0 : Int32) v1 st))
def fX11_drawn (a0 : Int32) (a1 : Int32) (fz : List FP) (st : St) : Option (Int32 × St) := if a1 = (3 : Int32) then (fX11_drawn_b10 fz a0 a1 (1 : Int32) st) else (fX11_drawn_b10 fz a0 a1 (0 : Int32) st)
set_option maxHeartbeats 4000000 in
set_option maxRecDepth 100000 in
theorem tX11_drawn (l : Launch) (D : va_G) (cy : Nat → ClassId) (ad : Nat → Nat) (fz : List FP) (hJ : (cads ad fz).Nodup) (sz : Nat) (a0 : Int32) (a1 : Int32) (st : St) (rr : Int32) (st' : St) (hf : fX11_drawn a0 a1 fz st = some (rr, st')) : Met l yX11_drawn (Cond.code yX11_drawn cX11_drawn 4 (some .int) :: TT) (rmD 1) (cPc D cy ad fz [.ref (ad 99), .int a0, .int a1] st sz) (cQi D cy ad fz rr st' sz) 0 0 (cA ad fz sz) := by
  refine c_meti (by decide) hJ (Nat.le_of_ble_eq_true rfl) (fun p e s m args below meth c ls E hx hb hr hlocks hown hT hD hN hl hP hS => ?_)
  replace hl : lv_has ls 4 [(0, .ref (ad 99)), (1, .int a0), (2, .int a1)] := hl
  unfold fX11_drawn at hf
  have B46 : ∀ (st : St) (H : Heap) (locs : List Loc) (ls : Array Slot), fX11_drawn_b46 fz st = some (rr, st') → lv_has ls 4 [] → va_P D classes (cx cy ad fz st) H → va_S (cA ad fz s.heap.size) s.heap H locs → cGi l 1 D cy ad fz rr st' p e s m args below meth c H locs (F0 m 46 ls []) := by
    intro st H locs ls hf hl hP hS
    unfold fX11_drawn_b46 at hf
    refine lv_iconst (v := -1) hx hb dX11_drawn_46 (by decide) ?_
    exact c_iret hx hb hr hlocks hf hP hS dX11_drawn_47
  have B40 : ∀ (v1 : Int32) (v2 : Int32) (w0 : Int32) (w1 : Int32) (w2 : Int32) (st : St) (H : Heap) (locs : List Loc) (ls : Array Slot), fX11_drawn_b40 fz v1 v2 w0 w1 w2 st = some (rr, st') → lv_has ls 4 [(0, .ref (ad 99)), (1, .int v1), (2, .int v2)] → va_P D classes (cx cy ad fz st) H → va_S (cA ad fz s.heap.size) s.heap H locs → cGi l 1 D cy ad fz rr st' p e s m args below meth c H locs (F0 m 40 ls [.int w0, .int w1, .int w2]) := by
    intro v1 v2 w0 w1 w2 st H locs ls hf hl hP hS
    unfold fX11_drawn_b40 at hf
    obtain ⟨r1, hc, hf⟩ := bs_some hf
    refine s_calli (n := 3) (rest := []) E.1 (tX11_within l _ w2 w1 w0 r1 hc) (gS k_472 k_458 k_1 k_459) qX11_within ⟨Nat.le_of_ble_eq_true rfl, Nat.le_of_ble_eq_true rfl⟩ ⟨Nat.le_refl _, Nat.le_refl _⟩ rfl hl.1 rfl (Nat.le_of_ble_eq_true rfl) dX11_drawn_40 ?_
    refine lv_if_ne (tgt := 48) hx hb dX11_drawn_43 (by decide) (fun hc => ?_) (fun hc => ?_)
    · replace hf := it_neg hc hf
      refine lv_iload_n hx hb dX11_drawn_48 rfl (lv_at hl 2 rfl) ?_
      by_cases hq0 : v2 = 0
      · replace hf := it_pos hq0 hf
        rw [hq0]; refine lv_tableIn (tgt := 80) hx hb dX11_drawn_49 (by decide) (by decide) rfl (by decide) ?_
        refine lv_aload_n hx hb dX11_drawn_80 rfl (lv_at hl 0 rfl) ?_
        refine cg_11_71_0 E hP dX11_drawn_81 ?_
        refine cg_11_320_11 E hP dX11_drawn_84 ?_
        refine cg_11_105_14 E hP dX11_drawn_87 ?_
        refine lv_iload_n hx hb dX11_drawn_90 rfl (lv_at hl 1 rfl) ?_
        obtain ⟨hi, hf⟩ := gi_some hf
        refine cl_1400 E hP hi dX11_drawn_91 ?_
        exact c_iret hx hb hr hlocks hf hP hS dX11_drawn_92
      replace hf := it_neg hq0 hf
      by_cases hq1 : v2 = 1
      · replace hf := it_pos hq1 hf
        rw [hq1]; refine lv_tableIn (tgt := 93) hx hb dX11_drawn_49 (by decide) (by decide) rfl (by decide) ?_
        refine lv_aload_n hx hb dX11_drawn_93 rfl (lv_at hl 0 rfl) ?_
        refine cg_11_71_0 E hP dX11_drawn_94 ?_
        refine cg_11_320_11 E hP dX11_drawn_97 ?_
        refine cg_11_116_14 E hP dX11_drawn_100 ?_
        refine lv_iload_n hx hb dX11_drawn_103 rfl (lv_at hl 1 rfl) ?_
        obtain ⟨hi, hf⟩ := gi_some hf
        refine cl_1402 E hP hi dX11_drawn_104 ?_
        exact c_iret hx hb hr hlocks hf hP hS dX11_drawn_105
      replace hf := it_neg hq1 hf
      by_cases hq2 : v2 = 2
      · replace hf := it_pos hq2 hf
        rw [hq2]; refine lv_tableIn (tgt := 106) hx hb dX11_drawn_49 (by decide) (by decide) rfl (by decide) ?_
        refine lv_aload_n hx hb dX11_drawn_106 rfl (lv_at hl 0 rfl) ?_
        refine cg_11_71_0 E hP dX11_drawn_107 ?_
        refine cg_11_320_11 E hP dX11_drawn_110 ?_
        refine cg_11_113_14 E hP dX11_drawn_113 ?_
        refine lv_iload_n hx hb dX11_drawn_116 rfl (lv_at hl 1 rfl) ?_
        obtain ⟨hi, hf⟩ := gi_some hf
        refine cl_1401 E hP hi dX11_drawn_117 ?_
        exact c_iret hx hb hr hlocks hf hP hS dX11_drawn_118
      replace hf := it_neg hq2 hf
      by_cases hq3 : v2 = 3
      · replace hf := it_pos hq3 hf
        rw [hq3]; refine lv_tableIn (tgt := 119) hx hb dX11_drawn_49 (by decide) (by decide) rfl (by decide) ?_
        refine lv_aload_n hx hb dX11_drawn_119 rfl (lv_at hl 0 rfl) ?_
        refine cg_11_71_0 E hP dX11_drawn_120 ?_
        refine cg_11_320_11 E hP dX11_drawn_123 ?_
        refine cg_11_135_14 E hP dX11_drawn_126 ?_
        refine lv_iload_n hx hb dX11_drawn_129 rfl (lv_at hl 1 rfl) ?_
        obtain ⟨hi, hf⟩ := gi_some hf
        refine cl_1403 E hP hi dX11_drawn_130 ?_
        exact c_iret hx hb hr hlocks hf hP hS dX11_drawn_131
      replace hf := it_neg hq3 hf
      refine lv_tableOut (tgt := 132) hx hb dX11_drawn_49 (tb_out (lo := 0) (hi := 3) (fun k h1 h2 he => ?_)) (by decide) ?_
      · have h3 : k = 0 ∨ k = 1 ∨ k = 2 ∨ k = 3 := by omega
        rcases h3 with rfl | rfl | rfl | rfl
        · exact hq0 he
        · exact hq1 he
        · exact hq2 he
        · exact hq3 he
      · refine lv_iconst (v := -1) hx hb dX11_drawn_132 (by decide) ?_
        exact c_iret hx hb hr hlocks hf hP hS dX11_drawn_133
    · replace hf := it_pos hc hf
      exact B46 st _ _ ls hf (lv_sub hl [] rfl) hP hS
  have B10 : ∀ (v1 : Int32) (v2 : Int32) (w0 : Int32) (st : St) (H : Heap) (locs : List Loc) (ls : Array Slot), fX11_drawn_b10 fz v1 v2 w0 st = some (rr, st') → lv_has ls 4 [(0, .ref (ad 99)), (1, .int v1), (2, .int v2)] → va_P D classes (cx cy ad fz st) H → va_S (cA ad fz s.heap.size) s.heap H locs → cGi l 1 D cy ad fz rr st' p e s m args below meth c H locs (F0 m 10 ls [.int w0]) := by
    intro v1 v2 w0 st H locs ls hf hl hP hS
    unfold fX11_drawn_b10 at hf
    refine lv_istore_n (lv' := [(3, .int w0), (0, .ref (ad 99)), (1, .int v1), (2, .int v2)]) hx hb dX11_drawn_10 rfl hl (by decide) rfl (fun ls hl => ?_)
    refine lv_aload_n hx hb dX11_drawn_11 rfl (lv_at hl 1 rfl) ?_
    refine cg_11_71_0 E hP dX11_drawn_12 ?_
    refine cg_11_319_11 E hP dX11_drawn_15 ?_
    refine lv_if_eq (tgt := 46) hx hb dX11_drawn_18 (by decide) (fun hc => ?_) (fun hc => ?_)
    · replace hf := it_pos hc hf
      exact B46 st _ _ ls hf (lv_sub hl [] rfl) hP hS
    · replace hf := it_neg hc hf
      refine lv_iload_n hx hb dX11_drawn_21 rfl (lv_at hl 2 rfl) ?_
      refine lv_iconst (v := 0) hx hb dX11_drawn_22 (by decide) ?_
      refine lv_iload_n hx hb dX11_drawn_23 rfl (lv_at hl 0 rfl) ?_
      refine lv_if_eq (tgt := 31) hx hb dX11_drawn_24 (by decide) (fun hc => ?_) (fun hc => ?_)
      · replace hf := it_pos hc hf
        refine lv_aload_n hx hb dX11_drawn_31 rfl (lv_at hl 1 rfl) ?_
        refine cg_11_71_0 E hP dX11_drawn_32 ?_
        refine cg_11_319_11 E hP dX11_drawn_35 ?_
        refine lv_iconst (v := 1) hx hb dX11_drawn_38 (by decide) ?_
        refine lv_isub hx hb dX11_drawn_39 ?_
        exact B40 v1 v2 ((st.1 1104) - (1 : Int32)) (0 : Int32) v1 st _ _ ls hf (lv_sub hl [1, 2, 3] rfl) hP hS
      · replace hf := it_neg hc hf
        refine lv_iconst (v := 3) hx hb dX11_drawn_27 (by decide) ?_
        refine lv_goto (tgt := 40) hx hb dX11_drawn_28 (by decide) ?_
        exact B40 v1 v2 (3 : Int32) (0 : Int32) v1 st _ _ ls hf (lv_sub hl [1, 2, 3] rfl) hP hS
  refine lv_iload_n hx hb dX11_drawn_0 rfl (lv_at hl 2 rfl) ?_
  refine lv_iconst (v := 3) hx hb dX11_drawn_1 (by decide) ?_
  refine lv_icmp_ne (tgt := 9) hx hb dX11_drawn_2 (by decide) (fun hc => ?_) (fun hc => ?_)
  · replace hf := it_neg hc hf
    refine lv_iconst (v := 0) hx hb dX11_drawn_9 (by decide) ?_
    exact B10 a0 a1 (0 : Int32) st _ _ ls hf hl hP hS
  · replace hf := it_pos hc hf
    refine lv_iconst (v := 1) hx hb dX11_drawn_5 (by decide) ?_
    refine lv_goto (tgt := 10) hx hb dX11_drawn_6 (by decide) ?_
    exact B10 a0 a1 (1 : Int32) st _ _ ls hf hl hP hS
def fX11_image (a0 : Int32) (fz : List FP) (st : St) : Option (Int32 × St) := bs (fX11_within a0 (0 : Int32) (1 : Int32)) (fun r1 => if r1 = 0 then (bd (fX11_refuse (-1 : Int32) fz st) (fun r2 st3 => some (r2, st3))) else (gi a0 2 (none)))
set_option maxHeartbeats 4000000 in
set_option maxRecDepth 100000 in
theorem tX11_image (l : Launch) (D : va_G) (cy : Nat → ClassId) (ad : Nat → Nat) (fz : List FP) (hJ : (cads ad fz).Nodup) (sz : Nat) (a0 : Int32) (st : St) (rr : Int32) (st' : St) (hf : fX11_image a0 fz st = some (rr, st')) : Met l yX11_image (Cond.code yX11_image cX11_image 2 (some .int) :: TT) (rmD 2) (cPc D cy ad fz [.ref (ad 99), .int a0] st sz) (cQi D cy ad fz rr st' sz) 0 0 (cA ad fz sz) := by
  refine c_meti (by decide) hJ (Nat.le_of_ble_eq_true rfl) (fun p e s m args below meth c ls E hx hb hr hlocks hown hT hD hN hl hP hS => ?_)
  replace hl : lv_has ls 2 [(0, .ref (ad 99)), (1, .int a0)] := hl
  unfold fX11_image at hf
  refine lv_iload_n hx hb dX11_image_0 rfl (lv_at hl 1 rfl) ?_
  refine lv_iconst (v := 0) hx hb dX11_image_1 (by decide) ?_
  refine lv_iconst (v := 1) hx hb dX11_image_2 (by decide) ?_
  obtain ⟨r1, hc, hf⟩ := bs_some hf
  refine s_calli (n := 3) (rest := []) E.1 (tX11_within l _ a0 (0 : Int32) (1 : Int32) r1 hc) (gS k_472 k_458 k_1 k_459) qX11_within ⟨Nat.le_of_ble_eq_true rfl, Nat.le_of_ble_eq_true rfl⟩ ⟨Nat.le_refl _, Nat.le_refl _⟩ rfl hl.1 rfl (Nat.le_of_ble_eq_true rfl) dX11_image_3 ?_
  refine lv_if_ne (tgt := 15) hx hb dX11_image_6 (by decide) (fun hc => ?_) (fun hc => ?_)
  · replace hf := it_neg hc hf
    refine lv_aload_n hx hb dX11_image_15 rfl (lv_at hl 0 rfl) ?_
    refine cg_11_16_0 E hP dX11_image_16 ?_
    refine lv_iload_n hx hb dX11_image_19 rfl (lv_at hl 1 rfl) ?_
    obtain ⟨hi, hf⟩ := gi_some hf
    refine cl_1 E hP hi dX11_image_20 ?_
    cases hf
  · replace hf := it_pos hc hf
    refine lv_aload_n hx hb dX11_image_9 rfl (lv_at hl 0 rfl) ?_
    refine lv_iconst (v := -1) hx hb dX11_image_10 (by decide) ?_
    obtain ⟨r2, st3, hc, hf⟩ := bd_some hf
    refine c_calli (n := 1) (rest := []) E hN hP hS (fun sz => tX11_refuse l D cy ad fz hJ sz (-1 : Int32) st r2 st3 hc) (va_recv E.2 hP (ci := 11) (q0 := 0) rfl rfl) (gV k_468 k_470 ks_1 k_1 k_471) qX11_refuse ⟨Nat.le_of_ble_eq_true rfl, Nat.le_of_ble_eq_true rfl⟩ ⟨Nat.le_refl _, Nat.le_refl _⟩ rfl hl.1 rfl (Nat.le_of_ble_eq_true rfl) dX11_image_11 (fun H locs hP hS => ?_)
    exact c_iret hx hb hr hlocks hf hP hS dX11_image_14
def fX11_back (a0 : Int32) (fz : List FP) (st : St) : Option (Int32 × St) := bs (fX11_within a0 (0 : Int32) (1 : Int32)) (fun r1 => if r1 = 0 then (bd (fX11_refuse (-1 : Int32) fz st) (fun r2 st3 => some (r2, st3))) else (gi a0 2 (none)))
set_option maxHeartbeats 4000000 in
set_option maxRecDepth 100000 in
theorem tX11_back (l : Launch) (D : va_G) (cy : Nat → ClassId) (ad : Nat → Nat) (fz : List FP) (hJ : (cads ad fz).Nodup) (sz : Nat) (a0 : Int32) (st : St) (rr : Int32) (st' : St) (hf : fX11_back a0 fz st = some (rr, st')) : Met l yX11_back (Cond.code yX11_back cX11_back 2 (some .int) :: TT) (rmD 2) (cPc D cy ad fz [.ref (ad 99), .int a0] st sz) (cQi D cy ad fz rr st' sz) 0 0 (cA ad fz sz) := by
  refine c_meti (by decide) hJ (Nat.le_of_ble_eq_true rfl) (fun p e s m args below meth c ls E hx hb hr hlocks hown hT hD hN hl hP hS => ?_)
  replace hl : lv_has ls 2 [(0, .ref (ad 99)), (1, .int a0)] := hl
  unfold fX11_back at hf
  refine lv_iload_n hx hb dX11_back_0 rfl (lv_at hl 1 rfl) ?_
  refine lv_iconst (v := 0) hx hb dX11_back_1 (by decide) ?_
  refine lv_iconst (v := 1) hx hb dX11_back_2 (by decide) ?_
  obtain ⟨r1, hc, hf⟩ := bs_some hf
  refine s_calli (n := 3) (rest := []) E.1 (tX11_within l _ a0 (0 : Int32) (1 : Int32) r1 hc) (gS k_472 k_458 k_1 k_459) qX11_within ⟨Nat.le_of_ble_eq_true rfl, Nat.le_of_ble_eq_true rfl⟩ ⟨Nat.le_refl _, Nat.le_refl _⟩ rfl hl.1 rfl (Nat.le_of_ble_eq_true rfl) dX11_back_3 ?_
  refine lv_if_ne (tgt := 15) hx hb dX11_back_6 (by decide) (fun hc => ?_) (fun hc => ?_)
  · replace hf := it_neg hc hf
    refine lv_aload_n hx hb dX11_back_15 rfl (lv_at hl 0 rfl) ?_
    refine cg_11_16_0 E hP dX11_back_16 ?_
    refine lv_iload_n hx hb dX11_back_19 rfl (lv_at hl 1 rfl) ?_
    obtain ⟨hi, hf⟩ := gi_some hf
    refine cl_1 E hP hi dX11_back_20 ?_
    cases hf
  · replace hf := it_pos hc hf
    refine lv_aload_n hx hb dX11_back_9 rfl (lv_at hl 0 rfl) ?_
    refine lv_iconst (v := -1) hx hb dX11_back_10 (by decide) ?_
    obtain ⟨r2, st3, hc, hf⟩ := bd_some hf
    refine c_calli (n := 1) (rest := []) E hN hP hS (fun sz => tX11_refuse l D cy ad fz hJ sz (-1 : Int32) st r2 st3 hc) (va_recv E.2 hP (ci := 11) (q0 := 0) rfl rfl) (gV k_468 k_470 ks_1 k_1 k_471) qX11_refuse ⟨Nat.le_of_ble_eq_true rfl, Nat.le_of_ble_eq_true rfl⟩ ⟨Nat.le_refl _, Nat.le_refl _⟩ rfl hl.1 rfl (Nat.le_of_ble_eq_true rfl) dX11_back_11 (fun H locs hP hS => ?_)
    exact c_iret hx hb hr hlocks hf hP hS dX11_back_14
def fX6_takenForts_b4 (fz : List FP) (k4 : Int32 → Int32 → St → Option (Int32 × St)) (v1 : Int32) (v2 : Int32) (st : St) : Option (Int32 × St) := if (st.1 108) ≤ v2 then (some (v1, st)) else (gi v2 6 (lt (v1 + (st.2.2.1 202 v2.toNatClampNeg)) (fun x1 => lt (v2 + (1 : Int32)) (fun x2 => k4 x1 x2 st))))
def fX6_takenForts (fz : List FP) (st : St) : Option (Int32 × St) := lp (fun _ _ _ => none) (fX6_takenForts_b4 fz) 6000 (0 : Int32) (0 : Int32) st
set_option maxHeartbeats 4000000 in
set_option maxRecDepth 100000 in
theorem tX6_takenForts (l : Launch) (D : va_G) (cy : Nat → ClassId) (ad : Nat → Nat) (fz : List FP) (hJ : (cads ad fz).Nodup) (sz : Nat) (st : St) (rr : Int32) (st' : St) (hf : fX6_takenForts fz st = some (rr, st')) : Met l yX6_takenForts (Cond.code yX6_takenForts cX6_takenForts 3 (some .int) :: TT) (rmD 0) (cPc D cy ad fz [.ref (ad 199)] st sz) (cQi D cy ad fz rr st' sz) 0 0 (cA ad fz sz) := by
  refine c_meti (by decide) hJ (Nat.le_of_ble_eq_true rfl) (fun p e s m args below meth c ls E hx hb hr hlocks hown hT hD hN hl hP hS => ?_)
  replace hl : lv_has ls 3 [(0, .ref (ad 199))] := hl
  unfold fX6_takenForts at hf
  have L4 : ∀ (n : Nat) (v1 : Int32) (v2 : Int32) (st : St) (H : Heap) (locs : List Loc) (ls : Array Slot), lp (fun _ _ _ => none) (fX6_takenForts_b4 fz) n v1 v2 st = some (rr, st') → lv_has ls 3 [(0, .ref (ad 199)), (1, .int v1), (2, .int v2)] → va_P D classes (cx cy ad fz st) H → va_S (cA ad fz s.heap.size) s.heap H locs → cGi l 0 D cy ad fz rr st' p e s m args below meth c H locs (F0 m 4 ls []) := by
    intro n
    induction n with
    | zero => intro v1 v2 st H locs ls hf; exact absurd hf (fun h => by cases h)
    | succ n K4 =>
      intro v1 v2 st H locs ls hf hl hP hS
      replace hf : fX6_takenForts_b4 fz (lp (fun _ _ _ => none) (fX6_takenForts_b4 fz) n) v1 v2 st = some (rr, st') := hf
      generalize lp (fun _ _ _ => none) (fX6_takenForts_b4 fz) n = k4 at hf K4
      unfold fX6_takenForts_b4 at hf
      refine lv_iload_n hx hb dX6_takenForts_4 rfl (lv_at hl 2 rfl) ?_
      refine lv_aload_n hx hb dX6_takenForts_5 rfl (lv_at hl 0 rfl) ?_
      refine cg_6_86_1 E hP dX6_takenForts_6 ?_
      refine lv_icmp_ge (tgt := 30) hx hb dX6_takenForts_9 (by decide) (fun hc => ?_) (fun hc => ?_)
      · replace hf := it_pos hc hf
        refine lv_iload_n hx hb dX6_takenForts_30 rfl (lv_at hl 1 rfl) ?_
        exact c_iret hx hb hr hlocks hf hP hS dX6_takenForts_31
      · replace hf := it_neg hc hf
        refine lv_iload_n hx hb dX6_takenForts_12 rfl (lv_at hl 1 rfl) ?_
        refine lv_aload_n hx hb dX6_takenForts_13 rfl (lv_at hl 0 rfl) ?_
        refine cg_6_12_1 E hP dX6_takenForts_14 ?_
        refine cg_6_105_2 E hP dX6_takenForts_17 ?_
        refine lv_iload_n hx hb dX6_takenForts_20 rfl (lv_at hl 2 rfl) ?_
        obtain ⟨hi, hf⟩ := gi_some hf
        refine cl_202 E hP hi dX6_takenForts_21 ?_
        refine lv_iadd hx hb dX6_takenForts_22 ?_
        refine lv_topi (fun x1 ex => ?_)
        replace hf := lt_at ex hf; clear ex
        refine lv_istore_n (lv' := [(1, .int x1), (0, .ref (ad 199)), (2, .int v2)]) hx hb dX6_takenForts_23 rfl hl (by decide) rfl (fun ls hl => ?_)
        obtain ⟨x2, ex⟩ : ∃ y : Int32, y = v2 + (1 : Int32) := ⟨_, rfl⟩
        replace hf := lt_at ex hf
        refine lv_iinc (v := x2) (lv' := [(2, .int x2), (1, .int x1), (0, .ref (ad 199))]) hx hb dX6_takenForts_24 hl (k := 2) rfl (by rw [ex]; rfl) (by decide) rfl (fun ls hl => ?_)
        clear ex
        refine lv_goto (tgt := 4) hx hb dX6_takenForts_27 (by decide) ?_
        exact K4 x1 x2 st _ _ ls hf (lv_sub hl [2, 1, 0] rfl) hP hS
  refine lv_iconst (v := 0) hx hb dX6_takenForts_0 (by decide) ?_
  refine lv_istore_n (lv' := [(1, .int (0 : Int32)), (0, .ref (ad 199))]) hx hb dX6_takenForts_1 rfl hl (by decide) rfl (fun ls hl => ?_)
  refine lv_iconst (v := 0) hx hb dX6_takenForts_2 (by decide) ?_
  refine lv_istore_n (lv' := [(2, .int (0 : Int32)), (1, .int (0 : Int32)), (0, .ref (ad 199))]) hx hb dX6_takenForts_3 rfl hl (by decide) rfl (fun ls hl => ?_)
  exact L4 6000 (0 : Int32) (0 : Int32) st _ _ ls hf (lv_sub hl [2, 1, 0] rfl) hP hS
def fX11_count_b32 (fz : List FP) (w0 : Int32) (st : St) : Option (Int32 × St) := gi w0 7 (some ((st.2.2.1 8 w0.toNatClampNeg), st))
def fX11_count (a0 : Int32) (fz : List FP) (st : St) : Option (Int32 × St) := bs (fX11_within a0 (8 : Int32) (12 : Int32)) (fun r1 => if r1 = 0 then (bs (fX11_within a0 (14 : Int32) (16 : Int32)) (fun r2 => if r2 = 0 then (bs (fX11_within a0 (17 : Int32) (20 : Int32)) (fun r3 => if r3 = 0 then (if a0 = 0 then (some ((st.1 108), st)) else (if a0 = 1 then (bd (fX6_takenForts fz st) (fun r4 st5 => some (r4, st5))) else (if a0 = 2 then (some ((st.1 404), st)) else (if a0 = 3 then (some ((st.1 305), st)) else (if a0 = 4 then (some ((st.1 306), st)) else (if a0 = 5 then (some ((st.1 111), st)) else (if a0 = 6 then (some ((st.1 905), st)) else (if a0 = 7 then (some ((st.1 504), st)) else (if a0 = 8 then (some ((-1 : Int32), st)) else (if a0 = 9 then (some ((-1 : Int32), st)) else (if a0 = 10 then (some ((-1 : Int32), st)) else (if a0 = 11 then (some ((-1 : Int32), st)) else (if a0 = 12 then (some ((-1 : Int32), st)) else (if a0 = 13 then (some ((st.1 112), st)) else (some ((-1 : Int32), st)))))))))))))))) else (gi (a0 - (17 : Int32)) 4 (some ((st.2.2.1 203 (a0 - (17 : Int32)).toNatClampNeg), st))))) else (bd (fX6_term (a0 - (14 : Int32)) fz st) (fun r6 st7 => some (r6, st7))))) else (if (10 : Int32) < a0 then (fX11_count_b32 fz (a0 - (6 : Int32)) st) else (fX11_count_b32 fz (a0 - (7 : Int32)) st)))
set_option maxHeartbeats 4000000 in
set_option maxRecDepth 100000 in
theorem tX11_count (l : Launch) (D : va_G) (cy : Nat → ClassId) (ad : Nat → Nat) (fz : List FP) (hJ : (cads ad fz).Nodup) (sz : Nat) (a0 : Int32) (st : St) (rr : Int32) (st' : St) (hf : fX11_count a0 fz st = some (rr, st')) : Met l yX11_count (Cond.code yX11_count cX11_count 2 (some .int) :: TT) (rmD 1) (cPc D cy ad fz [.ref (ad 99), .int a0] st sz) (cQi D cy ad fz rr st' sz) 0 0 (cA ad fz sz) := by
  refine c_meti (by decide) hJ (Nat.le_of_ble_eq_true rfl) (fun p e s m args below meth c ls E hx hb hr hlocks hown hT hD hN hl hP hS => ?_)
  replace hl : lv_has ls 2 [(0, .ref (ad 99)), (1, .int a0)] := hl
  unfold fX11_count at hf
  have B32 : ∀ (w0 : Int32) (st : St) (H : Heap) (locs : List Loc) (ls : Array Slot), fX11_count_b32 fz w0 st = some (rr, st') → lv_has ls 2 [] → va_P D classes (cx cy ad fz st) H → va_S (cA ad fz s.heap.size) s.heap H locs → cGi l 1 D cy ad fz rr st' p e s m args below meth c H locs (F0 m 32 ls [.int w0, .ref (ad 8)]) := by
    intro w0 st H locs ls hf hl hP hS
    unfold fX11_count_b32 at hf
    obtain ⟨hi, hf⟩ := gi_some hf
    refine cl_8 E hP hi dX11_count_32 ?_
    exact c_iret hx hb hr hlocks hf hP hS dX11_count_33
  refine lv_iload_n hx hb dX11_count_0 rfl (lv_at hl 1 rfl) ?_
  refine lv_bipush (v := 8) hx hb dX11_count_1 (by decide) ?_
  refine lv_bipush (v := 12) hx hb dX11_count_3 (by decide) ?_
  obtain ⟨r1, hc, hf⟩ := bs_some hf
  refine s_calli (n := 3) (rest := []) E.1 (tX11_within l _ a0 (8 : Int32) (12 : Int32) r1 hc) (gS k_472 k_458 k_1 k_459) qX11_within ⟨Nat.le_of_ble_eq_true rfl, Nat.le_of_ble_eq_true rfl⟩ ⟨Nat.le_refl _, Nat.le_refl _⟩ rfl hl.1 rfl (Nat.le_of_ble_eq_true rfl) dX11_count_5 ?_
  refine lv_if_eq (tgt := 34) hx hb dX11_count_8 (by decide) (fun hc => ?_) (fun hc => ?_)
  · replace hf := it_pos hc hf
    refine lv_iload_n hx hb dX11_count_34 rfl (lv_at hl 1 rfl) ?_
    refine lv_bipush (v := 14) hx hb dX11_count_35 (by decide) ?_
    refine lv_bipush (v := 16) hx hb dX11_count_37 (by decide) ?_
    obtain ⟨r2, hc, hf⟩ := bs_some hf
    refine s_calli (n := 3) (rest := []) E.1 (tX11_within l _ a0 (14 : Int32) (16 : Int32) r2 hc) (gS k_472 k_458 k_1 k_459) qX11_within ⟨Nat.le_of_ble_eq_true rfl, Nat.le_of_ble_eq_true rfl⟩ ⟨Nat.le_refl _, Nat.le_refl _⟩ rfl hl.1 rfl (Nat.le_of_ble_eq_true rfl) dX11_count_39 ?_
    refine lv_if_eq (tgt := 57) hx hb dX11_count_42 (by decide) (fun hc => ?_) (fun hc => ?_)
    · replace hf := it_pos hc hf
      refine lv_iload_n hx hb dX11_count_57 rfl (lv_at hl 1 rfl) ?_
      refine lv_bipush (v := 17) hx hb dX11_count_58 (by decide) ?_
      refine lv_bipush (v := 20) hx hb dX11_count_60 (by decide) ?_
      obtain ⟨r3, hc, hf⟩ := bs_some hf
      refine s_calli (n := 3) (rest := []) E.1 (tX11_within l _ a0 (17 : Int32) (20 : Int32) r3 hc) (gS k_472 k_458 k_1 k_459) qX11_within ⟨Nat.le_of_ble_eq_true rfl, Nat.le_of_ble_eq_true rfl⟩ ⟨Nat.le_refl _, Nat.le_refl _⟩ rfl hl.1 rfl (Nat.le_of_ble_eq_true rfl) dX11_count_62 ?_
      refine lv_if_eq (tgt := 84) hx hb dX11_count_65 (by decide) (fun hc => ?_) (fun hc => ?_)
      · replace hf := it_pos hc hf
        refine lv_iload_n hx hb dX11_count_84 rfl (lv_at hl 1 rfl) ?_
        by_cases hq0 : a0 = 0
        · replace hf := it_pos hq0 hf
          rw [hq0]; refine lv_tableIn (tgt := 156) hx hb dX11_count_85 (by decide) (by decide) rfl (by decide) ?_
          refine lv_aload_n hx hb dX11_count_156 rfl (lv_at hl 0 rfl) ?_
          refine cg_11_10_0 E hP dX11_count_157 ?_
          refine cg_11_314_1 E hP dX11_count_160 ?_
          exact c_iret hx hb hr hlocks hf hP hS dX11_count_163
        replace hf := it_neg hq0 hf
        by_cases hq1 : a0 = 1
        · replace hf := it_pos hq1 hf
          rw [hq1]; refine lv_tableIn (tgt := 164) hx hb dX11_count_85 (by decide) (by decide) rfl (by decide) ?_
          refine lv_aload_n hx hb dX11_count_164 rfl (lv_at hl 0 rfl) ?_
          refine cg_11_10_0 E hP dX11_count_165 ?_
          obtain ⟨r4, st5, hc, hf⟩ := bd_some hf
          refine c_calli (n := 0) (rest := []) E hN hP hS (fun sz => tX6_takenForts l D cy ad fz hJ sz st r4 st5 hc) (va_recv E.2 hP (ci := 6) (q0 := 3) rfl rfl) (gV k_1138 k_1139 k_1140 k_2 k_1141) qX6_takenForts ⟨Nat.le_of_ble_eq_true rfl, Nat.le_of_ble_eq_true rfl⟩ ⟨Nat.le_refl _, Nat.le_refl _⟩ rfl hl.1 rfl (Nat.le_of_ble_eq_true rfl) dX11_count_168 (fun H locs hP hS => ?_)
          exact c_iret hx hb hr hlocks hf hP hS dX11_count_171
        replace hf := it_neg hq1 hf
        by_cases hq2 : a0 = 2
        · replace hf := it_pos hq2 hf
          rw [hq2]; refine lv_tableIn (tgt := 172) hx hb dX11_count_85 (by decide) (by decide) rfl (by decide) ?_
          refine lv_aload_n hx hb dX11_count_172 rfl (lv_at hl 0 rfl) ?_
          refine cg_11_10_0 E hP dX11_count_173 ?_
          refine cg_11_251_1 E hP dX11_count_176 ?_
          refine cg_11_258_4 E hP dX11_count_179 ?_
          exact c_iret hx hb hr hlocks hf hP hS dX11_count_182
        replace hf := it_neg hq2 hf
        by_cases hq3 : a0 = 3
        · replace hf := it_pos hq3 hf
          rw [hq3]; refine lv_tableIn (tgt := 183) hx hb dX11_count_85 (by decide) (by decide) rfl (by decide) ?_
          refine lv_aload_n hx hb dX11_count_183 rfl (lv_at hl 0 rfl) ?_
          refine cg_11_10_0 E hP dX11_count_184 ?_
          refine cg_11_270_1 E hP dX11_count_187 ?_
          refine cg_11_293_3 E hP dX11_count_190 ?_
          exact c_iret hx hb hr hlocks hf hP hS dX11_count_193
        replace hf := it_neg hq3 hf
        by_cases hq4 : a0 = 4
        · replace hf := it_pos hq4 hf
          rw [hq4]; refine lv_tableIn (tgt := 194) hx hb dX11_count_85 (by decide) (by decide) rfl (by decide) ?_
          refine lv_aload_n hx hb dX11_count_194 rfl (lv_at hl 0 rfl) ?_
          refine cg_11_10_0 E hP dX11_count_195 ?_
          refine cg_11_270_1 E hP dX11_count_198 ?_
          refine cg_11_296_3 E hP dX11_count_201 ?_
          exact c_iret hx hb hr hlocks hf hP hS dX11_count_204
        replace hf := it_neg hq4 hf
        by_cases hq5 : a0 = 5
        · replace hf := it_pos hq5 hf
          rw [hq5]; refine lv_tableIn (tgt := 205) hx hb dX11_count_85 (by decide) (by decide) rfl (by decide) ?_
          refine lv_aload_n hx hb dX11_count_205 rfl (lv_at hl 0 rfl) ?_
          refine cg_11_10_0 E hP dX11_count_206 ?_
          refine cg_11_175_1 E hP dX11_count_209 ?_
          exact c_iret hx hb hr hlocks hf hP hS dX11_count_212
        replace hf := it_neg hq5 hf
        by_cases hq6 : a0 = 6
        · replace hf := it_pos hq6 hf
          rw [hq6]; refine lv_tableIn (tgt := 213) hx hb dX11_count_85 (by decide) (by decide) rfl (by decide) ?_
          refine lv_aload_n hx hb dX11_count_213 rfl (lv_at hl 0 rfl) ?_
          refine cg_11_53_0 E hP dX11_count_214 ?_
          refine cg_11_329_9 E hP dX11_count_217 ?_
          exact c_iret hx hb hr hlocks hf hP hS dX11_count_220
        replace hf := it_neg hq6 hf
        by_cases hq7 : a0 = 7
        · replace hf := it_pos hq7 hf
          rw [hq7]; refine lv_tableIn (tgt := 221) hx hb dX11_count_85 (by decide) (by decide) rfl (by decide) ?_
          refine lv_aload_n hx hb dX11_count_221 rfl (lv_at hl 0 rfl) ?_
          refine cg_11_23_0 E hP dX11_count_222 ?_
          refine cg_11_162_5 E hP dX11_count_225 ?_
          exact c_iret hx hb hr hlocks hf hP hS dX11_count_228
        replace hf := it_neg hq7 hf
        by_cases hq8 : a0 = 8
        · replace hf := it_pos hq8 hf
          rw [hq8]; refine lv_tableIn (tgt := 237) hx hb dX11_count_85 (by decide) (by decide) rfl (by decide) ?_
          refine lv_iconst (v := -1) hx hb dX11_count_237 (by decide) ?_
          exact c_iret hx hb hr hlocks hf hP hS dX11_count_238
        replace hf := it_neg hq8 hf
        by_cases hq9 : a0 = 9
        · replace hf := it_pos hq9 hf
          rw [hq9]; refine lv_tableIn (tgt := 237) hx hb dX11_count_85 (by decide) (by decide) rfl (by decide) ?_
          refine lv_iconst (v := -1) hx hb dX11_count_237 (by decide) ?_
          exact c_iret hx hb hr hlocks hf hP hS dX11_count_238
        replace hf := it_neg hq9 hf
        by_cases hq10 : a0 = 10
        · replace hf := it_pos hq10 hf
          rw [hq10]; refine lv_tableIn (tgt := 237) hx hb dX11_count_85 (by decide) (by decide) rfl (by decide) ?_
          refine lv_iconst (v := -1) hx hb dX11_count_237 (by decide) ?_
          exact c_iret hx hb hr hlocks hf hP hS dX11_count_238
        replace hf := it_neg hq10 hf
        by_cases hq11 : a0 = 11
        · replace hf := it_pos hq11 hf
          rw [hq11]; refine lv_tableIn (tgt := 237) hx hb dX11_count_85 (by decide) (by decide) rfl (by decide) ?_
          refine lv_iconst (v := -1) hx hb dX11_count_237 (by decide) ?_
          exact c_iret hx hb hr hlocks hf hP hS dX11_count_238
        replace hf := it_neg hq11 hf
        by_cases hq12 : a0 = 12
        · replace hf := it_pos hq12 hf
          rw [hq12]; refine lv_tableIn (tgt := 237) hx hb dX11_count_85 (by decide) (by decide) rfl (by decide) ?_
          refine lv_iconst (v := -1) hx hb dX11_count_237 (by decide) ?_
          exact c_iret hx hb hr hlocks hf hP hS dX11_count_238
        replace hf := it_neg hq12 hf
        by_cases hq13 : a0 = 13
        · replace hf := it_pos hq13 hf
          rw [hq13]; refine lv_tableIn (tgt := 229) hx hb dX11_count_85 (by decide) (by decide) rfl (by decide) ?_
          refine lv_aload_n hx hb dX11_count_229 rfl (lv_at hl 0 rfl) ?_
          refine cg_11_10_0 E hP dX11_count_230 ?_
          refine cg_11_200_1 E hP dX11_count_233 ?_
          exact c_iret hx hb hr hlocks hf hP hS dX11_count_236
        replace hf := it_neg hq13 hf
        refine lv_tableOut (tgt := 237) hx hb dX11_count_85 (tb_out (lo := 0) (hi := 13) (fun k h1 h2 he => ?_)) (by decide) ?_
        · have h3 : k = 0 ∨ k = 1 ∨ k = 2 ∨ k = 3 ∨ k = 4 ∨ k = 5 ∨ k = 6 ∨ k = 7 ∨ k = 8 ∨ k = 9 ∨ k = 10 ∨ k = 11 ∨ k = 12 ∨ k = 13 := by omega
          rcases h3 with rfl | rfl | rfl | rfl | rfl | rfl | rfl | rfl | rfl | rfl | rfl | rfl | rfl | rfl
          · exact hq0 he
          · exact hq1 he
          · exact hq2 he
          · exact hq3 he
          · exact hq4 he
          · exact hq5 he
          · exact hq6 he
          · exact hq7 he
          · exact hq8 he
          · exact hq9 he
          · exact hq10 he
          · exact hq11 he
          · exact hq12 he
          · exact hq13 he
        · refine lv_iconst (v := -1) hx hb dX11_count_237 (by decide) ?_
          exact c_iret hx hb hr hlocks hf hP hS dX11_count_238
      · replace hf := it_neg hc hf
        refine lv_aload_n hx hb dX11_count_68 rfl (lv_at hl 0 rfl) ?_
        refine cg_11_10_0 E hP dX11_count_69 ?_
        refine cg_11_101_1 E hP dX11_count_72 ?_
        refine cg_11_135_2 E hP dX11_count_75 ?_
        refine lv_iload_n hx hb dX11_count_78 rfl (lv_at hl 1 rfl) ?_
        refine lv_bipush (v := 17) hx hb dX11_count_79 (by decide) ?_
        refine lv_isub hx hb dX11_count_81 ?_
        obtain ⟨hi, hf⟩ := gi_some hf
        refine cl_203 E hP hi dX11_count_82 ?_
        exact c_iret hx hb hr hlocks hf hP hS dX11_count_83
    · replace hf := it_neg hc hf
      refine lv_aload_n hx hb dX11_count_45 rfl (lv_at hl 0 rfl) ?_
      refine cg_11_10_0 E hP dX11_count_46 ?_
      refine lv_iload_n hx hb dX11_count_49 rfl (lv_at hl 1 rfl) ?_
      refine lv_bipush (v := 14) hx hb dX11_count_50 (by decide) ?_
      refine lv_isub hx hb dX11_count_52 ?_
      obtain ⟨r6, st7, hc, hf⟩ := bd_some hf
      refine c_calli (n := 1) (rest := []) E hN hP hS (fun sz => tX6_term l D cy ad fz hJ sz (a0 - (14 : Int32)) st r6 st7 hc) (va_recv E.2 hP (ci := 6) (q0 := 3) rfl rfl) (gV k_559 k_560 k_561 k_2 k_562) qX6_term ⟨Nat.le_of_ble_eq_true rfl, Nat.le_of_ble_eq_true rfl⟩ ⟨Nat.le_refl _, Nat.le_refl _⟩ rfl hl.1 rfl (Nat.le_of_ble_eq_true rfl) dX11_count_53 (fun H locs hP hS => ?_)
      exact c_iret hx hb hr hlocks hf hP hS dX11_count_56
  · replace hf := it_neg hc hf
    refine lv_aload_n hx hb dX11_count_11 rfl (lv_at hl 0 rfl) ?_
    refine cg_11_75_0 E hP dX11_count_12 ?_
    refine lv_iload_n hx hb dX11_count_15 rfl (lv_at hl 1 rfl) ?_
    refine lv_bipush (v := 10) hx hb dX11_count_16 (by decide) ?_
    refine lv_icmp_gt (tgt := 28) hx hb dX11_count_18 (by decide) (fun hc => ?_) (fun hc => ?_)
    · replace hf := it_pos hc hf
      refine lv_iload_n hx hb dX11_count_28 rfl (lv_at hl 1 rfl) ?_
      refine lv_bipush (v := 6) hx hb dX11_count_29 (by decide) ?_
      refine lv_isub hx hb dX11_count_31 ?_
      exact B32 (a0 - (6 : Int32)) st _ _ ls hf (lv_sub hl [] rfl) hP hS
    · replace hf := it_neg hc hf
      refine lv_iload_n hx hb dX11_count_21 rfl (lv_at hl 1 rfl) ?_
      refine lv_bipush (v := 7) hx hb dX11_count_22 (by decide) ?_
      refine lv_isub hx hb dX11_count_24 ?_
      refine lv_goto (tgt := 32) hx hb dX11_count_25 (by decide) ?_
      exact B32 (a0 - (7 : Int32)) st _ _ ls hf (lv_sub hl [] rfl) hP hS
def fX11_status (fz : List FP) (st : St) : Option (Int32 × St) := some ((st.1 9), st)
set_option maxHeartbeats 4000000 in
set_option maxRecDepth 100000 in
theorem tX11_status (l : Launch) (D : va_G) (cy : Nat → ClassId) (ad : Nat → Nat) (fz : List FP) (hJ : (cads ad fz).Nodup) (sz : Nat) (st : St) (rr : Int32) (st' : St) (hf : fX11_status fz st = some (rr, st')) : Met l yX11_status (Cond.code yX11_status cX11_status 1 (some .int) :: TT) (rmD 0) (cPc D cy ad fz [.ref (ad 99)] st sz) (cQi D cy ad fz rr st' sz) 0 0 (cA ad fz sz) := by
  refine c_meti (by decide) hJ (Nat.le_of_ble_eq_true rfl) (fun p e s m args below meth c ls E hx hb hr hlocks hown hT hD hN hl hP hS => ?_)
  replace hl : lv_has ls 1 [(0, .ref (ad 99))] := hl
  unfold fX11_status at hf
  refine lv_aload_n hx hb dX11_status_0 rfl (lv_at hl 0 rfl) ?_
  refine cg_11_203_0 E hP dX11_status_1 ?_
  exact c_iret hx hb hr hlocks hf hP hS dX11_status_4
def fX0_takei__16_2 (fz : List FP) (st : St) : Option (Unit × St) := lt (sA st 1600 (va_cpy (st.2.2.1 200) (st.2.2.1 1600) (0 : Int32).toNatClampNeg (0 : Int32).toNatClampNeg (6 : Int32).toNatClampNeg)) (fun st1 => lt (sA st1 1601 (va_cpy (st1.2.2.1 201) (st1.2.2.1 1601) (0 : Int32).toNatClampNeg (0 : Int32).toNatClampNeg (6 : Int32).toNatClampNeg)) (fun st2 => lt (sA st2 1602 (va_cpy (st2.2.2.1 202) (st2.2.2.1 1602) (0 : Int32).toNatClampNeg (0 : Int32).toNatClampNeg (6 : Int32).toNatClampNeg)) (fun st3 => lt (sA st3 1603 (va_cpy (st3.2.2.1 203) (st3.2.2.1 1603) (0 : Int32).toNatClampNeg (0 : Int32).toNatClampNeg (4 : Int32).toNatClampNeg)) (fun st4 => lt (sI st4 1604 (st4.1 204)) (fun st5 => some ((), st5))))))
set_option maxHeartbeats 4000000 in
set_option maxRecDepth 100000 in
theorem tX0_takei__16_2 (l : Launch) (D : va_G) (cy : Nat → ClassId) (ad : Nat → Nat) (fz : List FP) (hJ : (iads ad fz).Nodup) (sz : Nat) (st : St) (rr : Unit) (st' : St) (hf : fX0_takei__16_2 fz st = some (rr, st')) : Met l yX0_take (Cond.code yX0_take cX0_take 2 none :: TT) (rmD 1) (iPc D cy ad fz [.ref (ad 1699), .ref (ad 299)] st sz) (iQv D cy ad fz rr st' sz) 0 0 (iA ad fz sz) := by
  refine i_metv (by decide) hJ (Nat.le_of_ble_eq_true rfl) (fun p e s m args below meth c ls E hx hb hr hlocks hown hT hD hN hl hP hS => ?_)
  replace hl : lv_has ls 2 [(0, .ref (ad 1699)), (1, .ref (ad 299))] := hl
  unfold fX0_takei__16_2 at hf
  refine lv_aload_n hx hb dX0_take_0 rfl (lv_at hl 1 rfl) ?_
  refine ig_0_9_2 E hP dX0_take_1 ?_
  refine lv_iconst (v := 0) hx hb dX0_take_4 (by decide) ?_
  refine lv_aload_n hx hb dX0_take_5 rfl (lv_at hl 0 rfl) ?_
  refine ig_0_9_16 E hP dX0_take_6 ?_
  refine lv_iconst (v := 0) hx hb dX0_take_9 (by decide) ?_
  refine lv_bipush (v := 6) hx hb dX0_take_10 (by decide) ?_
  refine icp_200_1600 E k_800 hD hP hS (by decide) hl.1 (Nat.le_of_ble_eq_true rfl) (Nat.le_of_ble_eq_true rfl) dX0_take_12 (fun st1 H locs ex hP hS => ?_)
  replace hf := lt_at ex hf; clear ex
  refine lv_aload_n hx hb dX0_take_15 rfl (lv_at hl 1 rfl) ?_
  refine ig_0_15_2 E hP dX0_take_16 ?_
  refine lv_iconst (v := 0) hx hb dX0_take_19 (by decide) ?_
  refine lv_aload_n hx hb dX0_take_20 rfl (lv_at hl 0 rfl) ?_
  refine ig_0_15_16 E hP dX0_take_21 ?_
  refine lv_iconst (v := 0) hx hb dX0_take_24 (by decide) ?_
  refine lv_bipush (v := 6) hx hb dX0_take_25 (by decide) ?_
  refine icp_201_1601 E k_800 hD hP hS (by decide) hl.1 (Nat.le_of_ble_eq_true rfl) (Nat.le_of_ble_eq_true rfl) dX0_take_27 (fun st2 H locs ex hP hS => ?_)
  replace hf := lt_at ex hf; clear ex
  refine lv_aload_n hx hb dX0_take_30 rfl (lv_at hl 1 rfl) ?_
  refine ig_0_18_2 E hP dX0_take_31 ?_
  refine lv_iconst (v := 0) hx hb dX0_take_34 (by decide) ?_
  refine lv_aload_n hx hb dX0_take_35 rfl (lv_at hl 0 rfl) ?_
  refine ig_0_18_16 E hP dX0_take_36 ?_
  refine lv_iconst (v := 0) hx hb dX0_take_39 (by decide) ?_
  refine lv_bipush (v := 6) hx hb dX0_take_40 (by decide) ?_
  refine icp_202_1602 E k_800 hD hP hS (by decide) hl.1 (Nat.le_of_ble_eq_true rfl) (Nat.le_of_ble_eq_true rfl) dX0_take_42 (fun st3 H locs ex hP hS => ?_)
  replace hf := lt_at ex hf; clear ex
  refine lv_aload_n hx hb dX0_take_45 rfl (lv_at hl 1 rfl) ?_
  refine ig_0_21_2 E hP dX0_take_46 ?_
  refine lv_iconst (v := 0) hx hb dX0_take_49 (by decide) ?_
  refine lv_aload_n hx hb dX0_take_50 rfl (lv_at hl 0 rfl) ?_
  refine ig_0_21_16 E hP dX0_take_51 ?_
  refine lv_iconst (v := 0) hx hb dX0_take_54 (by decide) ?_
  refine lv_iconst (v := 4) hx hb dX0_take_55 (by decide) ?_
  refine icp_203_1603 E k_800 hD hP hS (by decide) hl.1 (Nat.le_of_ble_eq_true rfl) (Nat.le_of_ble_eq_true rfl) dX0_take_56 (fun st4 H locs ex hP hS => ?_)
  replace hf := lt_at ex hf; clear ex
  refine lv_aload_n hx hb dX0_take_59 rfl (lv_at hl 0 rfl) ?_
  refine lv_aload_n hx hb dX0_take_60 rfl (lv_at hl 1 rfl) ?_
  refine ig_0_30_2 E hP dX0_take_61 ?_
  refine ip_0_30_16 E hD hP hS dX0_take_64 (fun st5 H locs ex hP hS => ?_)
  replace hf := lt_at ex hf; clear ex
  exact i_vret hx hb hr hlocks hf hP hS dX0_take_67
def fX4_takei__17_3 (fz : List FP) (st : St) : Option (Unit × St) := lt (sA st 1700 (va_cpy (st.2.2.1 300) (st.2.2.1 1700) (0 : Int32).toNatClampNeg (0 : Int32).toNatClampNeg (6 : Int32).toNatClampNeg)) (fun st1 => lt (sA st1 1701 (va_cpy (st1.2.2.1 301) (st1.2.2.1 1701) (0 : Int32).toNatClampNeg (0 : Int32).toNatClampNeg (6 : Int32).toNatClampNeg)) (fun st2 => lt (sA st2 1702 (va_cpy (st2.2.2.1 302) (st2.2.2.1 1702) (0 : Int32).toNatClampNeg (0 : Int32).toNatClampNeg (8 : Int32).toNatClampNeg)) (fun st3 => lt (sA st3 1703 (va_cpy (st3.2.2.1 303) (st3.2.2.1 1703) (0 : Int32).toNatClampNeg (0 : Int32).toNatClampNeg (8 : Int32).toNatClampNeg)) (fun st4 => lt (sI st4 1705 (st4.1 305)) (fun st5 => lt (sI st5 1706 (st5.1 306)) (fun st6 => some ((), st6)))))))
set_option maxHeartbeats 4000000 in
set_option maxRecDepth 100000 in
theorem tX4_takei__17_3 (l : Launch) (D : va_G) (cy : Nat → ClassId) (ad : Nat → Nat) (fz : List FP) (hJ : (iads ad fz).Nodup) (sz : Nat) (st : St) (rr : Unit) (st' : St) (hf : fX4_takei__17_3 fz st = some (rr, st')) : Met l yX4_take (Cond.code yX4_take cX4_take 2 none :: TT) (rmD 1) (iPc D cy ad fz [.ref (ad 1799), .ref (ad 399)] st sz) (iQv D cy ad fz rr st' sz) 0 0 (iA ad fz sz) := by
  refine i_metv (by decide) hJ (Nat.le_of_ble_eq_true rfl) (fun p e s m args below meth c ls E hx hb hr hlocks hown hT hD hN hl hP hS => ?_)
  replace hl : lv_has ls 2 [(0, .ref (ad 1799)), (1, .ref (ad 399))] := hl
  unfold fX4_takei__17_3 at hf
  refine lv_aload_n hx hb dX4_take_0 rfl (lv_at hl 1 rfl) ?_
  refine ig_4_9_3 E hP dX4_take_1 ?_
  refine lv_iconst (v := 0) hx hb dX4_take_4 (by decide) ?_
  refine lv_aload_n hx hb dX4_take_5 rfl (lv_at hl 0 rfl) ?_
  refine ig_4_9_17 E hP dX4_take_6 ?_
  refine lv_iconst (v := 0) hx hb dX4_take_9 (by decide) ?_
  refine lv_bipush (v := 6) hx hb dX4_take_10 (by decide) ?_
  refine icp_300_1700 E k_1123 hD hP hS (by decide) hl.1 (Nat.le_of_ble_eq_true rfl) (Nat.le_of_ble_eq_true rfl) dX4_take_12 (fun st1 H locs ex hP hS => ?_)
  replace hf := lt_at ex hf; clear ex
  refine lv_aload_n hx hb dX4_take_15 rfl (lv_at hl 1 rfl) ?_
  refine ig_4_15_3 E hP dX4_take_16 ?_
  refine lv_iconst (v := 0) hx hb dX4_take_19 (by decide) ?_
  refine lv_aload_n hx hb dX4_take_20 rfl (lv_at hl 0 rfl) ?_
  refine ig_4_15_17 E hP dX4_take_21 ?_
  refine lv_iconst (v := 0) hx hb dX4_take_24 (by decide) ?_
  refine lv_bipush (v := 6) hx hb dX4_take_25 (by decide) ?_
  refine icp_301_1701 E k_1123 hD hP hS (by decide) hl.1 (Nat.le_of_ble_eq_true rfl) (Nat.le_of_ble_eq_true rfl) dX4_take_27 (fun st2 H locs ex hP hS => ?_)
  replace hf := lt_at ex hf; clear ex
  refine lv_aload_n hx hb dX4_take_30 rfl (lv_at hl 1 rfl) ?_
  refine ig_4_18_3 E hP dX4_take_31 ?_
  refine lv_iconst (v := 0) hx hb dX4_take_34 (by decide) ?_
  refine lv_aload_n hx hb dX4_take_35 rfl (lv_at hl 0 rfl) ?_
  refine ig_4_18_17 E hP dX4_take_36 ?_
  refine lv_iconst (v := 0) hx hb dX4_take_39 (by decide) ?_
  refine lv_bipush (v := 8) hx hb dX4_take_40 (by decide) ?_
  refine icp_302_1702 E k_1123 hD hP hS (by decide) hl.1 (Nat.le_of_ble_eq_true rfl) (Nat.le_of_ble_eq_true rfl) dX4_take_42 (fun st3 H locs ex hP hS => ?_)
  replace hf := lt_at ex hf; clear ex
  refine lv_aload_n hx hb dX4_take_45 rfl (lv_at hl 1 rfl) ?_
  refine ig_4_21_3 E hP dX4_take_46 ?_
  refine lv_iconst (v := 0) hx hb dX4_take_49 (by decide) ?_
  refine lv_aload_n hx hb dX4_take_50 rfl (lv_at hl 0 rfl) ?_
  refine ig_4_21_17 E hP dX4_take_51 ?_
  refine lv_iconst (v := 0) hx hb dX4_take_54 (by decide) ?_
  refine lv_bipush (v := 8) hx hb dX4_take_55 (by decide) ?_
  refine icp_303_1703 E k_1123 hD hP hS (by decide) hl.1 (Nat.le_of_ble_eq_true rfl) (Nat.le_of_ble_eq_true rfl) dX4_take_57 (fun st4 H locs ex hP hS => ?_)
  replace hf := lt_at ex hf; clear ex
  refine lv_aload_n hx hb dX4_take_60 rfl (lv_at hl 0 rfl) ?_
  refine lv_aload_n hx hb dX4_take_61 rfl (lv_at hl 1 rfl) ?_
  refine ig_4_33_3 E hP dX4_take_62 ?_
  refine ip_4_33_17 E hD hP hS dX4_take_65 (fun st5 H locs ex hP hS => ?_)
  replace hf := lt_at ex hf; clear ex
  refine lv_aload_n hx hb dX4_take_68 rfl (lv_at hl 0 rfl) ?_
  refine lv_aload_n hx hb dX4_take_69 rfl (lv_at hl 1 rfl) ?_
  refine ig_4_37_3 E hP dX4_take_70 ?_
  refine ip_4_37_17 E hD hP hS dX4_take_73 (fun st6 H locs ex hP hS => ?_)
  replace hf := lt_at ex hf; clear ex
  exact i_vret hx hb hr hlocks hf hP hS dX4_take_76
def fX1_takei__18_4 (fz : List FP) (st : St) : Option (Unit × St) := lt (sA st 1800 (va_cpy (st.2.2.1 400) (st.2.2.1 1800) (0 : Int32).toNatClampNeg (0 : Int32).toNatClampNeg (8 : Int32).toNatClampNeg)) (fun st1 => lt (sA st1 1801 (va_cpy (st1.2.2.1 401) (st1.2.2.1 1801) (0 : Int32).toNatClampNeg (0 : Int32).toNatClampNeg (8 : Int32).toNatClampNeg)) (fun st2 => lt (sA st2 1802 (va_cpy (st2.2.2.1 402) (st2.2.2.1 1802) (0 : Int32).toNatClampNeg (0 : Int32).toNatClampNeg (8 : Int32).toNatClampNeg)) (fun st3 => lt (sI st3 1804 (st3.1 404)) (fun st4 => some ((), st4)))))
set_option maxHeartbeats 4000000 in
set_option maxRecDepth 100000 in
theorem tX1_takei__18_4 (l : Launch) (D : va_G) (cy : Nat → ClassId) (ad : Nat → Nat) (fz : List FP) (hJ : (iads ad fz).Nodup) (sz : Nat) (st : St) (rr : Unit) (st' : St) (hf : fX1_takei__18_4 fz st = some (rr, st')) : Met l yX1_take (Cond.code yX1_take cX1_take 2 none :: TT) (rmD 1) (iPc D cy ad fz [.ref (ad 1899), .ref (ad 499)] st sz) (iQv D cy ad fz rr st' sz) 0 0 (iA ad fz sz) := by
  refine i_metv (by decide) hJ (Nat.le_of_ble_eq_true rfl) (fun p e s m args below meth c ls E hx hb hr hlocks hown hT hD hN hl hP hS => ?_)
  replace hl : lv_has ls 2 [(0, .ref (ad 1899)), (1, .ref (ad 499))] := hl
  unfold fX1_takei__18_4 at hf
  refine lv_aload_n hx hb dX1_take_0 rfl (lv_at hl 1 rfl) ?_
  refine ig_1_11_4 E hP dX1_take_1 ?_
  refine lv_iconst (v := 0) hx hb dX1_take_4 (by decide) ?_
  refine lv_aload_n hx hb dX1_take_5 rfl (lv_at hl 0 rfl) ?_
  refine ig_1_11_18 E hP dX1_take_6 ?_
  refine lv_iconst (v := 0) hx hb dX1_take_9 (by decide) ?_
  refine lv_bipush (v := 8) hx hb dX1_take_10 (by decide) ?_
  refine icp_400_1800 E k_1128 hD hP hS (by decide) hl.1 (Nat.le_of_ble_eq_true rfl) (Nat.le_of_ble_eq_true rfl) dX1_take_12 (fun st1 H locs ex hP hS => ?_)
  replace hf := lt_at ex hf; clear ex
  refine lv_aload_n hx hb dX1_take_15 rfl (lv_at hl 1 rfl) ?_
  refine ig_1_15_4 E hP dX1_take_16 ?_
  refine lv_iconst (v := 0) hx hb dX1_take_19 (by decide) ?_
  refine lv_aload_n hx hb dX1_take_20 rfl (lv_at hl 0 rfl) ?_
  refine ig_1_15_18 E hP dX1_take_21 ?_
  refine lv_iconst (v := 0) hx hb dX1_take_24 (by decide) ?_
  refine lv_bipush (v := 8) hx hb dX1_take_25 (by decide) ?_
  refine icp_401_1801 E k_1128 hD hP hS (by decide) hl.1 (Nat.le_of_ble_eq_true rfl) (Nat.le_of_ble_eq_true rfl) dX1_take_27 (fun st2 H locs ex hP hS => ?_)
  replace hf := lt_at ex hf; clear ex
  refine lv_aload_n hx hb dX1_take_30 rfl (lv_at hl 1 rfl) ?_
  refine ig_1_18_4 E hP dX1_take_31 ?_
  refine lv_iconst (v := 0) hx hb dX1_take_34 (by decide) ?_
  refine lv_aload_n hx hb dX1_take_35 rfl (lv_at hl 0 rfl) ?_
  refine ig_1_18_18 E hP dX1_take_36 ?_
  refine lv_iconst (v := 0) hx hb dX1_take_39 (by decide) ?_
  refine lv_bipush (v := 8) hx hb dX1_take_40 (by decide) ?_
  refine icp_402_1802 E k_1128 hD hP hS (by decide) hl.1 (Nat.le_of_ble_eq_true rfl) (Nat.le_of_ble_eq_true rfl) dX1_take_42 (fun st3 H locs ex hP hS => ?_)
  replace hf := lt_at ex hf; clear ex
  refine lv_aload_n hx hb dX1_take_45 rfl (lv_at hl 0 rfl) ?_
  refine lv_aload_n hx hb dX1_take_46 rfl (lv_at hl 1 rfl) ?_
  refine ig_1_30_4 E hP dX1_take_47 ?_
  refine ip_1_30_18 E hD hP hS dX1_take_50 (fun st4 H locs ex hP hS => ?_)
  replace hf := lt_at ex hf; clear ex
  exact i_vret hx hb hr hlocks hf hP hS dX1_take_53
def fX6_takei__15_1_b80 (fz : List FP) (k80 : Int32 → St → Option (Unit × St)) (v2 : Int32) (st : St) : Option (Unit × St) := if (6 : Int32) ≤ v2 then (lt (sI st 1508 (st.1 108)) (fun st1 => lt (sI st1 1509 (st1.1 109)) (fun st2 => lt (sI st2 1510 (st2.1 110)) (fun st3 => lt (sI st3 1511 (st3.1 111)) (fun st4 => lt (sI st4 1512 (st4.1 112)) (fun st5 => some ((), st5))))))) else (gi v2 6 (oq (st.2.2.2.2 107 v2.toNatClampNeg) (gi v2 6 (lt (sR st 1507 (va_up (st.2.2.2.2 1507) v2.toNatClampNeg none)) (fun st7 => lt (v2 + (1 : Int32)) (fun x8 => k80 x8 st7)))) (fun q => bs (fzGet fz q) (fun P6 => gi v2 6 (lt (sR st 1507 (va_up (st.2.2.2.2 1507) v2.toNatClampNeg (some (P6.1 99)))) (fun st9 => lt (v2 + (1 : Int32)) (fun x10 => k80 x10 st9)))))))
def fX6_takei__15_1 (fz : List FP) (st : St) : Option (Unit × St) := bd (fX0_takei__16_2 fz st) (fun r11 st12 => bd (fX4_takei__17_3 fz st12) (fun r13 st14 => bd (fX1_takei__18_4 fz st14) (fun r15 st16 => lt (sA st16 1503 (va_cpy (st16.2.2.1 103) (st16.2.2.1 1503) (0 : Int32).toNatClampNeg (0 : Int32).toNatClampNeg (6 : Int32).toNatClampNeg)) (fun st17 => lt (sA st17 1504 (va_cpy (st17.2.2.1 104) (st17.2.2.1 1504) (0 : Int32).toNatClampNeg (0 : Int32).toNatClampNeg (18 : Int32).toNatClampNeg)) (fun st18 => lt (sA st18 1505 (va_cpy (st18.2.2.1 105) (st18.2.2.1 1505) (0 : Int32).toNatClampNeg (0 : Int32).toNatClampNeg (36 : Int32).toNatClampNeg)) (fun st19 => lp (fun _ _ => none) (fX6_takei__15_1_b80 fz) 6000 (0 : Int32) st19))))))
set_option maxHeartbeats 4000000 in
set_option maxRecDepth 100000 in
theorem tX6_takei__15_1 (l : Launch) (D : va_G) (cy : Nat → ClassId) (ad : Nat → Nat) (fz : List FP) (hJ : (iads ad fz).Nodup) (sz : Nat) (st : St) (rr : Unit) (st' : St) (hf : fX6_takei__15_1 fz st = some (rr, st')) : Met l yX6_take (Cond.code yX6_take cX6_take 3 none :: TT) (rmD 2) (iPc D cy ad fz [.ref (ad 1599), .ref (ad 199)] st sz) (iQv D cy ad fz rr st' sz) 0 0 (iA ad fz sz) := by
  refine i_metv (by decide) hJ (Nat.le_of_ble_eq_true rfl) (fun p e s m args below meth c ls E hx hb hr hlocks hown hT hD hN hl hP hS => ?_)
  replace hl : lv_has ls 3 [(0, .ref (ad 1599)), (1, .ref (ad 199))] := hl
  unfold fX6_takei__15_1 at hf
  have L80 : ∀ (n : Nat) (v2 : Int32) (st : St) (H : Heap) (locs : List Loc) (ls : Array Slot), lp (fun _ _ => none) (fX6_takei__15_1_b80 fz) n v2 st = some (rr, st') → lv_has ls 3 [(0, .ref (ad 1599)), (1, .ref (ad 199)), (2, .int v2)] → va_P D classes (cxi cy ad fz st) H → va_S (iA ad fz s.heap.size) s.heap H locs → iGv l 2 D cy ad fz rr st' p e s m args below meth c H locs (F0 m 80 ls []) := by
    intro n
    induction n with
    | zero => intro v2 st H locs ls hf; exact absurd hf (fun h => by cases h)
    | succ n K80 =>
      intro v2 st H locs ls hf hl hP hS
      replace hf : fX6_takei__15_1_b80 fz (lp (fun _ _ => none) (fX6_takei__15_1_b80 fz) n) v2 st = some (rr, st') := hf
      generalize lp (fun _ _ => none) (fX6_takei__15_1_b80 fz) n = k80 at hf K80
      unfold fX6_takei__15_1_b80 at hf
      refine lv_iload_n hx hb dX6_take_80 rfl (lv_at hl 2 rfl) ?_
      refine lv_bipush (v := 6) hx hb dX6_take_81 (by decide) ?_
      refine lv_icmp_ge (tgt := 104) hx hb dX6_take_83 (by decide) (fun hc => ?_) (fun hc => ?_)
      · replace hf := it_pos hc hf
        refine lv_aload_n hx hb dX6_take_104 rfl (lv_at hl 0 rfl) ?_
        refine lv_aload_n hx hb dX6_take_105 rfl (lv_at hl 1 rfl) ?_
        refine ig_6_86_1 E hP dX6_take_106 ?_
        refine ip_6_86_15 E hD hP hS dX6_take_109 (fun st1 H locs ex hP hS => ?_)
        replace hf := lt_at ex hf; clear ex
        refine lv_aload_n hx hb dX6_take_112 rfl (lv_at hl 0 rfl) ?_
        refine lv_aload_n hx hb dX6_take_113 rfl (lv_at hl 1 rfl) ?_
        refine ig_6_51_1 E hP dX6_take_114 ?_
        refine ip_6_51_15 E hD hP hS dX6_take_117 (fun st2 H locs ex hP hS => ?_)
        replace hf := lt_at ex hf; clear ex
        refine lv_aload_n hx hb dX6_take_120 rfl (lv_at hl 0 rfl) ?_
        refine lv_aload_n hx hb dX6_take_121 rfl (lv_at hl 1 rfl) ?_
        refine ig_6_89_1 E hP dX6_take_122 ?_
        refine ip_6_89_15 E hD hP hS dX6_take_125 (fun st3 H locs ex hP hS => ?_)
        replace hf := lt_at ex hf; clear ex
        refine lv_aload_n hx hb dX6_take_128 rfl (lv_at hl 0 rfl) ?_
        refine lv_aload_n hx hb dX6_take_129 rfl (lv_at hl 1 rfl) ?_
        refine ig_6_92_1 E hP dX6_take_130 ?_
        refine ip_6_92_15 E hD hP hS dX6_take_133 (fun st4 H locs ex hP hS => ?_)
        replace hf := lt_at ex hf; clear ex
        refine lv_aload_n hx hb dX6_take_136 rfl (lv_at hl 0 rfl) ?_
        refine lv_aload_n hx hb dX6_take_137 rfl (lv_at hl 1 rfl) ?_
        refine ig_6_55_1 E hP dX6_take_138 ?_
        refine ip_6_55_15 E hD hP hS dX6_take_141 (fun st5 H locs ex hP hS => ?_)
        replace hf := lt_at ex hf; clear ex
        exact i_vret hx hb hr hlocks hf hP hS dX6_take_144
      · replace hf := it_neg hc hf
        refine lv_aload_n hx hb dX6_take_86 rfl (lv_at hl 0 rfl) ?_
        refine ig_6_47_15 E hP dX6_take_87 ?_
        refine lv_iload_n hx hb dX6_take_90 rfl (lv_at hl 2 rfl) ?_
        refine lv_aload_n hx hb dX6_take_91 rfl (lv_at hl 1 rfl) ?_
        refine ig_6_47_1 E hP dX6_take_92 ?_
        refine lv_iload_n hx hb dX6_take_95 rfl (lv_at hl 2 rfl) ?_
        obtain ⟨hi, hf⟩ := gi_some hf
        refine il_107 E hP hi dX6_take_96 ?_
        generalize hrq : (st.2.2.2.2 107 v2.toNatClampNeg) = rq at hf ⊢
        clear hrq
        cases rq with
        | none =>
          replace hf := oq_none hf
          obtain ⟨hi, hf⟩ := gi_some hf
          refine ir_1507N E hD hP hS hi dX6_take_97 (fun st7 H locs ex hP hS => ?_)
          replace hf := lt_at ex hf; clear ex
          obtain ⟨x8, ex⟩ : ∃ y : Int32, y = v2 + (1 : Int32) := ⟨_, rfl⟩
          replace hf := lt_at ex hf
          refine lv_iinc (v := x8) (lv' := [(2, .int x8), (0, .ref (ad 1599)), (1, .ref (ad 199))]) hx hb dX6_take_98 hl (k := 2) rfl (by rw [ex]; rfl) (by decide) rfl (fun ls hl => ?_)
          clear ex
          refine lv_goto (tgt := 80) hx hb dX6_take_101 (by decide) ?_
          exact K80 x8 st7 _ _ ls hf (lv_sub hl [1, 2, 0] rfl) hP hS
        | some q =>
          replace hf := oq_some hf
          have hbs := bs_some hf
          clear hf
          obtain ⟨P6, hPf, hf⟩ := hbs
          obtain ⟨hPm, rfl⟩ := fzGet_some hPf
          obtain ⟨hi, hf⟩ := gi_some hf
          refine ir_1507L E hD hP hS hPm hi dX6_take_97 (fun st9 H locs ex hP hS => ?_)
          replace hf := lt_at ex hf; clear ex
          obtain ⟨x10, ex⟩ : ∃ y : Int32, y = v2 + (1 : Int32) := ⟨_, rfl⟩
          replace hf := lt_at ex hf
          refine lv_iinc (v := x10) (lv' := [(2, .int x10), (0, .ref (ad 1599)), (1, .ref (ad 199))]) hx hb dX6_take_98 hl (k := 2) rfl (by rw [ex]; rfl) (by decide) rfl (fun ls hl => ?_)
          clear ex
          refine lv_goto (tgt := 80) hx hb dX6_take_101 (by decide) ?_
          exact K80 x10 st9 _ _ ls hf (lv_sub hl [1, 2, 0] rfl) hP hS
  refine lv_aload_n hx hb dX6_take_0 rfl (lv_at hl 0 rfl) ?_
  refine ig_6_12_15 E hP dX6_take_1 ?_
  refine lv_aload_n hx hb dX6_take_4 rfl (lv_at hl 1 rfl) ?_
  refine ig_6_12_1 E hP dX6_take_5 ?_
  obtain ⟨r11, st12, hc, hf⟩ := bd_some hf
  refine i_callv (n := 1) (rest := []) E hN hP hS (fun sz => tX0_takei__16_2 l D cy ad fz hJ sz st r11 st12 hc) (va_recv E.2 hP (ci := 0) (q0 := 68) rfl rfl) (gV k_1118 k_797 k_798 k_3 k_799) qX0_take ⟨Nat.le_of_ble_eq_true rfl, Nat.le_of_ble_eq_true rfl⟩ ⟨Nat.le_refl _, Nat.le_refl _⟩ rfl hl.1 rfl (Nat.le_of_ble_eq_true rfl) dX6_take_8 (fun H locs hP hS => ?_)
  refine lv_aload_n hx hb dX6_take_11 rfl (lv_at hl 0 rfl) ?_
  refine ig_6_21_15 E hP dX6_take_12 ?_
  refine lv_aload_n hx hb dX6_take_15 rfl (lv_at hl 1 rfl) ?_
  refine ig_6_21_1 E hP dX6_take_16 ?_
  obtain ⟨r13, st14, hc, hf⟩ := bd_some hf
  refine i_callv (n := 1) (rest := []) E hN hP hS (fun sz => tX4_takei__17_3 l D cy ad fz hJ sz st12 r13 st14 hc) (va_recv E.2 hP (ci := 4) (q0 := 73) rfl rfl) (gV k_1119 k_1120 k_1121 k_4 k_1122) qX4_take ⟨Nat.le_of_ble_eq_true rfl, Nat.le_of_ble_eq_true rfl⟩ ⟨Nat.le_refl _, Nat.le_refl _⟩ rfl hl.1 rfl (Nat.le_of_ble_eq_true rfl) dX6_take_19 (fun H locs hP hS => ?_)
  refine lv_aload_n hx hb dX6_take_22 rfl (lv_at hl 0 rfl) ?_
  refine ig_6_28_15 E hP dX6_take_23 ?_
  refine lv_aload_n hx hb dX6_take_26 rfl (lv_at hl 1 rfl) ?_
  refine ig_6_28_1 E hP dX6_take_27 ?_
  obtain ⟨r15, st16, hc, hf⟩ := bd_some hf
  refine i_callv (n := 1) (rest := []) E hN hP hS (fun sz => tX1_takei__18_4 l D cy ad fz hJ sz st14 r15 st16 hc) (va_recv E.2 hP (ci := 1) (q0 := 79) rfl rfl) (gV k_1124 k_1125 k_1126 k_5 k_1127) qX1_take ⟨Nat.le_of_ble_eq_true rfl, Nat.le_of_ble_eq_true rfl⟩ ⟨Nat.le_refl _, Nat.le_refl _⟩ rfl hl.1 rfl (Nat.le_of_ble_eq_true rfl) dX6_take_30 (fun H locs hP hS => ?_)
  refine lv_aload_n hx hb dX6_take_33 rfl (lv_at hl 1 rfl) ?_
  refine ig_6_32_1 E hP dX6_take_34 ?_
  refine lv_iconst (v := 0) hx hb dX6_take_37 (by decide) ?_
  refine lv_aload_n hx hb dX6_take_38 rfl (lv_at hl 0 rfl) ?_
  refine ig_6_32_15 E hP dX6_take_39 ?_
  refine lv_iconst (v := 0) hx hb dX6_take_42 (by decide) ?_
  refine lv_bipush (v := 6) hx hb dX6_take_43 (by decide) ?_
  refine icp_103_1503 E k_1129 hD hP hS (by decide) hl.1 (Nat.le_of_ble_eq_true rfl) (Nat.le_of_ble_eq_true rfl) dX6_take_45 (fun st17 H locs ex hP hS => ?_)
  replace hf := lt_at ex hf; clear ex
  refine lv_aload_n hx hb dX6_take_48 rfl (lv_at hl 1 rfl) ?_
  refine ig_6_36_1 E hP dX6_take_49 ?_
  refine lv_iconst (v := 0) hx hb dX6_take_52 (by decide) ?_
  refine lv_aload_n hx hb dX6_take_53 rfl (lv_at hl 0 rfl) ?_
  refine ig_6_36_15 E hP dX6_take_54 ?_
  refine lv_iconst (v := 0) hx hb dX6_take_57 (by decide) ?_
  refine lv_bipush (v := 18) hx hb dX6_take_58 (by decide) ?_
  refine icp_104_1504 E k_1129 hD hP hS (by decide) hl.1 (Nat.le_of_ble_eq_true rfl) (Nat.le_of_ble_eq_true rfl) dX6_take_60 (fun st18 H locs ex hP hS => ?_)
  replace hf := lt_at ex hf; clear ex
  refine lv_aload_n hx hb dX6_take_63 rfl (lv_at hl 1 rfl) ?_
  refine ig_6_39_1 E hP dX6_take_64 ?_
  refine lv_iconst (v := 0) hx hb dX6_take_67 (by decide) ?_
  refine lv_aload_n hx hb dX6_take_68 rfl (lv_at hl 0 rfl) ?_
  refine ig_6_39_15 E hP dX6_take_69 ?_
  refine lv_iconst (v := 0) hx hb dX6_take_72 (by decide) ?_
  refine lv_bipush (v := 36) hx hb dX6_take_73 (by decide) ?_
  refine icp_105_1505 E k_1129 hD hP hS (by decide) hl.1 (Nat.le_of_ble_eq_true rfl) (Nat.le_of_ble_eq_true rfl) dX6_take_75 (fun st19 H locs ex hP hS => ?_)
  replace hf := lt_at ex hf; clear ex
  refine lv_iconst (v := 0) hx hb dX6_take_78 (by decide) ?_
  refine lv_istore_n (lv' := [(2, .int (0 : Int32)), (0, .ref (ad 1599)), (1, .ref (ad 199))]) hx hb dX6_take_79 rfl hl (by decide) rfl (fun ls hl => ?_)
  exact L80 6000 (0 : Int32) st19 _ _ ls hf (lv_sub hl [1, 2, 0] rfl) hP hS
