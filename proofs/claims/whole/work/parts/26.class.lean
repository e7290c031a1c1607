def fX2_changeFort_b70 (fz : List FP) (w0 : Int32) (st : St) : Option (Int32 × St) := some (w0, st)
def fX2_changeFort (a0 : Int32) (a1 : Int32) (a2 : Int32) (fz : List FP) (st : St) : Option (Int32 × St) := if a0 = (2 : Int32) then (gi a1 6 (gi a1 6 (lt (sA st 200 (upd (st.2.2.1 200) a1.toNatClampNeg ((st.2.2.1 200 a1.toNatClampNeg) + a2))) (fun st4 => gi a1 6 (some ((st4.2.2.1 200 a1.toNatClampNeg), st4)))))) else (gi a1 6 (gi a1 6 (lt (sA st 201 (upd (st.2.2.1 201) a1.toNatClampNeg ((st.2.2.1 201 a1.toNatClampNeg) ^^^ ((1 : Int32) <<< (a2 &&& 31))))) (fun st1 => if a0 = (1 : Int32) then (gi a1 6 (fX2_changeFort_b70 fz (st1.2.2.1 201 a1.toNatClampNeg) st1)) else (bd (fX5_pays a1 a2 fz st1) (fun r2 st3 => fX2_changeFort_b70 fz r2 st3))))))
set_option maxHeartbeats 4000000 in
set_option maxRecDepth 100000 in
theorem tX2_changeFort (l : Launch) (D : va_G) (cy : Nat → ClassId) (ad : Nat → Nat) (fz : List FP) (hJ : (cads ad fz).Nodup) (sz : Nat) (a0 : Int32) (a1 : Int32) (a2 : Int32) (st : St) (rr : Int32) (st' : St) (hf : fX2_changeFort a0 a1 a2 fz st = some (rr, st')) : Met l yX2_changeFort (Cond.code yX2_changeFort cX2_changeFort 5 (some .int) :: TT) (rmD 4) (cPc D cy ad fz [.ref (ad 999), .int a0, .int a1, .int a2] st sz) (cQi D cy ad fz rr st' sz) 0 0 (cA ad fz sz) := by
  refine c_meti (by decide) hJ (Nat.le_of_ble_eq_true rfl) (fun p e s m args below meth c ls E hx hb hr hlocks hown hT hD hN hl hP hS => ?_)
  replace hl : lv_has ls 5 [(0, .ref (ad 999)), (1, .int a0), (2, .int a1), (3, .int a2)] := hl
  unfold fX2_changeFort at hf
  have B70 : ∀ (w0 : Int32) (st : St) (H : Heap) (locs : List Loc) (ls : Array Slot), fX2_changeFort_b70 fz w0 st = some (rr, st') → lv_has ls 5 [] → va_P D classes (cx cy ad fz st) H → va_S (cA ad fz s.heap.size) s.heap H locs → cGi l 4 D cy ad fz rr st' p e s m args below meth c H locs (F0 m 70 ls [.int w0]) := by
    intro w0 st H locs ls hf hl hP hS
    unfold fX2_changeFort_b70 at hf
    exact c_iret hx hb hr hlocks hf hP hS dX2_changeFort_70
  refine lv_aload_n hx hb dX2_changeFort_0 rfl (lv_at hl 0 rfl) ?_
  refine cg_2_18_9 E hP dX2_changeFort_1 ?_
  refine cg_2_57_1 E hP dX2_changeFort_4 ?_
  refine lv_astore (lv' := [(4, .ref (ad 299)), (0, .ref (ad 999)), (1, .int a0), (2, .int a1), (3, .int a2)]) hx hb dX2_changeFort_7 hl (by decide) rfl (fun ls hl => ?_)
  refine lv_iload_n hx hb dX2_changeFort_9 rfl (lv_at hl 2 rfl) ?_
  refine lv_iconst (v := 2) hx hb dX2_changeFort_10 (by decide) ?_
  refine lv_icmp_ne (tgt := 33) hx hb dX2_changeFort_11 (by decide) (fun hc => ?_) (fun hc => ?_)
  · replace hf := it_neg hc hf
    refine lv_aload hx hb dX2_changeFort_33 (lv_at hl 0 rfl) ?_
    refine cg_2_73_2 E hP dX2_changeFort_35 ?_
    refine lv_iload_n hx hb dX2_changeFort_38 rfl (lv_at hl 3 rfl) ?_
    refine lv_dup2_11 hx hb dX2_changeFort_39 rfl rfl ?_
    obtain ⟨hi, hf⟩ := gi_some hf
    refine cl_201 E hP hi dX2_changeFort_40 ?_
    refine lv_iconst (v := 1) hx hb dX2_changeFort_41 (by decide) ?_
    refine lv_iload_n hx hb dX2_changeFort_42 rfl (lv_at hl 4 rfl) ?_
    refine lv_ishl hx hb dX2_changeFort_43 ?_
    refine lv_ixor hx hb dX2_changeFort_44 ?_
    obtain ⟨hi, hf⟩ := gi_some hf
    refine cs_201 E hD hP hS hi dX2_changeFort_45 (fun st1 H locs ex hP hS => ?_)
    replace hf := lt_at ex hf; clear ex
    refine lv_iload_n hx hb dX2_changeFort_46 rfl (lv_at hl 2 rfl) ?_
    refine lv_iconst (v := 1) hx hb dX2_changeFort_47 (by decide) ?_
    refine lv_icmp_ne (tgt := 61) hx hb dX2_changeFort_48 (by decide) (fun hc => ?_) (fun hc => ?_)
    · replace hf := it_neg hc hf
      refine lv_aload_n hx hb dX2_changeFort_61 rfl (lv_at hl 1 rfl) ?_
      refine cg_2_22_9 E hP dX2_changeFort_62 ?_
      refine lv_iload_n hx hb dX2_changeFort_65 rfl (lv_at hl 3 rfl) ?_
      refine lv_iload_n hx hb dX2_changeFort_66 rfl (lv_at hl 4 rfl) ?_
      obtain ⟨r2, st3, hc, hf⟩ := bd_some hf
      refine c_calli (n := 2) (rest := []) E hN hP hS (fun sz => tX5_pays l D cy ad fz hJ sz a1 a2 st1 r2 st3 hc) (va_recv E.2 hP (ci := 5) (q0 := 36) rfl rfl) (gV k_847 k_505 k_506 k_10 k_507) qX5_pays ⟨Nat.le_of_ble_eq_true rfl, Nat.le_of_ble_eq_true rfl⟩ ⟨Nat.le_refl _, Nat.le_refl _⟩ rfl hl.1 rfl (Nat.le_of_ble_eq_true rfl) dX2_changeFort_67 (fun H locs hP hS => ?_)
      exact B70 r2 st3 _ _ ls hf (lv_sub hl [] rfl) hP hS
    · replace hf := it_pos hc hf
      refine lv_aload hx hb dX2_changeFort_51 (lv_at hl 0 rfl) ?_
      refine cg_2_73_2 E hP dX2_changeFort_53 ?_
      refine lv_iload_n hx hb dX2_changeFort_56 rfl (lv_at hl 3 rfl) ?_
      obtain ⟨hi, hf⟩ := gi_some hf
      refine cl_201 E hP hi dX2_changeFort_57 ?_
      refine lv_goto (tgt := 70) hx hb dX2_changeFort_58 (by decide) ?_
      exact B70 (st1.2.2.1 201 a1.toNatClampNeg) st1 _ _ ls hf (lv_sub hl [] rfl) hP hS
  · replace hf := it_pos hc hf
    refine lv_aload hx hb dX2_changeFort_14 (lv_at hl 0 rfl) ?_
    refine cg_2_70_2 E hP dX2_changeFort_16 ?_
    refine lv_iload_n hx hb dX2_changeFort_19 rfl (lv_at hl 3 rfl) ?_
    refine lv_dup2_11 hx hb dX2_changeFort_20 rfl rfl ?_
    obtain ⟨hi, hf⟩ := gi_some hf
    refine cl_200 E hP hi dX2_changeFort_21 ?_
    refine lv_iload_n hx hb dX2_changeFort_22 rfl (lv_at hl 4 rfl) ?_
    refine lv_iadd hx hb dX2_changeFort_23 ?_
    obtain ⟨hi, hf⟩ := gi_some hf
    refine cs_200 E hD hP hS hi dX2_changeFort_24 (fun st4 H locs ex hP hS => ?_)
    replace hf := lt_at ex hf; clear ex
    refine lv_aload hx hb dX2_changeFort_25 (lv_at hl 0 rfl) ?_
    refine cg_2_70_2 E hP dX2_changeFort_27 ?_
    refine lv_iload_n hx hb dX2_changeFort_30 rfl (lv_at hl 3 rfl) ?_
    obtain ⟨hi, hf⟩ := gi_some hf
    refine cl_200 E hP hi dX2_changeFort_31 ?_
    exact c_iret hx hb hr hlocks hf hP hS dX2_changeFort_32
def fX5_fameBy (a0 : Int32) (a1 : Int32) (a2 : Int32) (fz : List FP) (st : St) : Option (Int32 × St) := gi a0 6 (bd (fX5_belief a0 (st.2.2.1 201 a0.toNatClampNeg) fz st) (fun r1 st2 => bd (fX5_ask a0 (-1 : Int32) a1 (r1 / (10000 : Int32)) a2 fz st2) (fun r3 st4 => bd (fX5_told (302 : Int32) (0 : Int32) (-20 : Int32) (20 : Int32) fz st4) (fun r5 st6 => some (r5, st6)))))
set_option maxHeartbeats 4000000 in
set_option maxRecDepth 100000 in
theorem tX5_fameBy (l : Launch) (D : va_G) (cy : Nat → ClassId) (ad : Nat → Nat) (fz : List FP) (hJ : (cads ad fz).Nodup) (sz : Nat) (a0 : Int32) (a1 : Int32) (a2 : Int32) (st : St) (rr : Int32) (st' : St) (hf : fX5_fameBy a0 a1 a2 fz st = some (rr, st')) : Met l yX5_fameBy (Cond.code yX5_fameBy cX5_fameBy 4 (some .int) :: TT) (rmD 3) (cPc D cy ad fz [.ref (ad 899), .int a0, .int a1, .int a2] st sz) (cQi D cy ad fz rr st' sz) 0 0 (cA ad fz sz) := by
  refine c_meti (by decide) hJ (Nat.le_of_ble_eq_true rfl) (fun p e s m args below meth c ls E hx hb hr hlocks hown hT hD hN hl hP hS => ?_)
  replace hl : lv_has ls 4 [(0, .ref (ad 899)), (1, .int a0), (2, .int a1), (3, .int a2)] := hl
  unfold fX5_fameBy at hf
  refine lv_aload_n hx hb dX5_fameBy_0 rfl (lv_at hl 0 rfl) ?_
  refine lv_iload_n hx hb dX5_fameBy_1 rfl (lv_at hl 1 rfl) ?_
  refine lv_iconst (v := -1) hx hb dX5_fameBy_2 (by decide) ?_
  refine lv_iload_n hx hb dX5_fameBy_3 rfl (lv_at hl 2 rfl) ?_
  refine lv_aload_n hx hb dX5_fameBy_4 rfl (lv_at hl 0 rfl) ?_
  refine lv_iload_n hx hb dX5_fameBy_5 rfl (lv_at hl 1 rfl) ?_
  refine lv_aload_n hx hb dX5_fameBy_6 rfl (lv_at hl 0 rfl) ?_
  refine cg_5_24_8 E hP dX5_fameBy_7 ?_
  refine cg_5_41_1 E hP dX5_fameBy_10 ?_
  refine cg_5_65_2 E hP dX5_fameBy_13 ?_
  refine lv_iload_n hx hb dX5_fameBy_16 rfl (lv_at hl 1 rfl) ?_
  obtain ⟨hi, hf⟩ := gi_some hf
  refine cl_201 E hP hi dX5_fameBy_17 ?_
  obtain ⟨r1, st2, hc, hf⟩ := bd_some hf
  refine c_calli (n := 2) (rest := [.int a1, .int (-1 : Int32), .int a0, .ref (ad 899)]) E hN hP hS (fun sz => tX5_belief l D cy ad fz hJ sz a0 (st.2.2.1 201 a0.toNatClampNeg) st r1 st2 hc) (va_recv E.2 hP (ci := 5) (q0 := 36) rfl rfl) (gV k_550 k_482 k_483 k_10 k_484) qX5_belief ⟨Nat.le_of_ble_eq_true rfl, Nat.le_of_ble_eq_true rfl⟩ ⟨Nat.le_refl _, Nat.le_refl _⟩ rfl hl.1 rfl (Nat.le_of_ble_eq_true rfl) dX5_fameBy_18 (fun H locs hP hS => ?_)
  refine lv_sipush (v := 10000) hx hb dX5_fameBy_21 (by decide) ?_
  refine lv_idiv hx hb dX5_fameBy_24 (by decide) ?_
  refine lv_iload_n hx hb dX5_fameBy_25 rfl (lv_at hl 3 rfl) ?_
  obtain ⟨r3, st4, hc, hf⟩ := bd_some hf
  refine c_callv (n := 5) (rest := []) E hN hP hS (fun sz => tX5_ask l D cy ad fz hJ sz a0 (-1 : Int32) a1 (r1 / (10000 : Int32)) a2 st2 r3 st4 hc) (va_recv E.2 hP (ci := 5) (q0 := 36) rfl rfl) (gV k_508 k_510 ks_2 k_10 k_511) qX5_ask ⟨Nat.le_of_ble_eq_true rfl, Nat.le_of_ble_eq_true rfl⟩ ⟨Nat.le_refl _, Nat.le_refl _⟩ rfl hl.1 rfl (Nat.le_of_ble_eq_true rfl) dX5_fameBy_26 (fun H locs hP hS => ?_)
  refine lv_aload_n hx hb dX5_fameBy_29 rfl (lv_at hl 0 rfl) ?_
  refine lv_sipush (v := 302) hx hb dX5_fameBy_30 (by decide) ?_
  refine lv_iconst (v := 0) hx hb dX5_fameBy_33 (by decide) ?_
  refine lv_bipush (v := -20) hx hb dX5_fameBy_34 (by decide) ?_
  refine lv_bipush (v := 20) hx hb dX5_fameBy_36 (by decide) ?_
  obtain ⟨r5, st6, hc, hf⟩ := bd_some hf
  refine c_calli (n := 4) (rest := []) E hN hP hS (fun sz => tX5_told l D cy ad fz hJ sz (302 : Int32) (0 : Int32) (-20 : Int32) (20 : Int32) st4 r5 st6 hc) (va_recv E.2 hP (ci := 5) (q0 := 36) rfl rfl) (gV k_512 k_514 ks_3 k_10 k_515) qX5_told ⟨Nat.le_of_ble_eq_true rfl, Nat.le_of_ble_eq_true rfl⟩ ⟨Nat.le_refl _, Nat.le_refl _⟩ rfl hl.1 rfl (Nat.le_of_ble_eq_true rfl) dX5_fameBy_38 (fun H locs hP hS => ?_)
  exact c_iret hx hb hr hlocks hf hP hS dX5_fameBy_41
def fX2_marchOn_b70 (fz : List FP) (v1 : Int32) (v2 : Int32) (v4 : Int32) (st : St) : Option (Int32 × St) := gi v1 6 (lt (st.2.2.1 103 v1.toNatClampNeg) (fun x1 => gi x1 4 (bd (fX5_fameBy v1 v2 v4 fz st) (fun r2 st3 => lt ((st.2.2.1 203 x1.toNatClampNeg) + r2) (fun x4 => gi x1 4 (lt (sA st3 203 (upd (st3.2.2.1 203) x1.toNatClampNeg (if (0 : Int32) < (if x4 < (100 : Int32) then x4 else (100 : Int32)) then (if x4 < (100 : Int32) then x4 else (100 : Int32)) else (0 : Int32)))) (fun st5 => lt (sI st5 204 ((st5.1 204) + (1 : Int32))) (fun st6 => some (v4, st6)))))))))
def fX2_marchOn (a0 : Int32) (a1 : Int32) (fz : List FP) (st : St) : Option (Int32 × St) := gi a0 6 (bd (fX5_turns a0 a1 (st.2.2.1 201 a0.toNatClampNeg) fz st) (fun r7 st8 => if r7 = 0 then (gi a0 6 (if a1 ≤ (st8.2.2.1 200 a0.toNatClampNeg) then (gi a0 6 (gi a0 6 (lt (sA st8 200 (upd (st8.2.2.1 200) a0.toNatClampNeg ((st8.2.2.1 200 a0.toNatClampNeg) - (a1 / (3 : Int32))))) (fun st9 => fX2_marchOn_b70 fz a0 a1 (0 : Int32) st9)))) else (gi a0 6 (lt (sA st8 202 (upd (st8.2.2.1 202) a0.toNatClampNeg (1 : Int32))) (fun st10 => fX2_marchOn_b70 fz a0 a1 (2 : Int32) st10))))) else (fX2_marchOn_b70 fz a0 a1 (1 : Int32) st8)))
set_option maxHeartbeats 4000000 in
set_option maxRecDepth 100000 in
theorem tX2_marchOn (l : Launch) (D : va_G) (cy : Nat → ClassId) (ad : Nat → Nat) (fz : List FP) (hJ : (cads ad fz).Nodup) (sz : Nat) (a0 : Int32) (a1 : Int32) (st : St) (rr : Int32) (st' : St) (hf : fX2_marchOn a0 a1 fz st = some (rr, st')) : Met l yX2_marchOn (Cond.code yX2_marchOn cX2_marchOn 7 (some .int) :: TT) (rmD 4) (cPc D cy ad fz [.ref (ad 999), .int a0, .int a1] st sz) (cQi D cy ad fz rr st' sz) 0 0 (cA ad fz sz) := by
  refine c_meti (by decide) hJ (Nat.le_of_ble_eq_true rfl) (fun p e s m args below meth c ls E hx hb hr hlocks hown hT hD hN hl hP hS => ?_)
  replace hl : lv_has ls 7 [(0, .ref (ad 999)), (1, .int a0), (2, .int a1)] := hl
  unfold fX2_marchOn at hf
  have B70 : ∀ (v1 : Int32) (v2 : Int32) (v4 : Int32) (st : St) (H : Heap) (locs : List Loc) (ls : Array Slot), fX2_marchOn_b70 fz v1 v2 v4 st = some (rr, st') → lv_has ls 7 [(0, .ref (ad 999)), (1, .int v1), (2, .int v2), (3, .ref (ad 299)), (4, .int v4)] → va_P D classes (cx cy ad fz st) H → va_S (cA ad fz s.heap.size) s.heap H locs → cGi l 4 D cy ad fz rr st' p e s m args below meth c H locs (F0 m 70 ls []) := by
    intro v1 v2 v4 st H locs ls hf hl hP hS
    unfold fX2_marchOn_b70 at hf
    refine lv_aload_n hx hb dX2_marchOn_70 rfl (lv_at hl 0 rfl) ?_
    refine cg_2_18_9 E hP dX2_marchOn_71 ?_
    refine cg_2_88_1 E hP dX2_marchOn_74 ?_
    refine lv_iload_n hx hb dX2_marchOn_77 rfl (lv_at hl 1 rfl) ?_
    obtain ⟨hi, hf⟩ := gi_some hf
    refine cl_103 E hP hi dX2_marchOn_78 ?_
    refine lv_topi (fun x1 ex => ?_)
    replace hf := lt_at ex hf; clear ex
    refine lv_istore (lv' := [(5, .int x1), (0, .ref (ad 999)), (1, .int v1), (2, .int v2), (3, .ref (ad 299)), (4, .int v4)]) hx hb dX2_marchOn_79 hl (by decide) rfl (fun ls hl => ?_)
    refine lv_aload_n hx hb dX2_marchOn_81 rfl (lv_at hl 4 rfl) ?_
    refine cg_2_91_2 E hP dX2_marchOn_82 ?_
    refine lv_iload hx hb dX2_marchOn_85 (lv_at hl 0 rfl) ?_
    obtain ⟨hi, hf⟩ := gi_some hf
    refine cl_203 E hP hi dX2_marchOn_87 ?_
    refine lv_aload_n hx hb dX2_marchOn_88 rfl (lv_at hl 1 rfl) ?_
    refine cg_2_22_9 E hP dX2_marchOn_89 ?_
    refine lv_iload_n hx hb dX2_marchOn_92 rfl (lv_at hl 2 rfl) ?_
    refine lv_iload_n hx hb dX2_marchOn_93 rfl (lv_at hl 3 rfl) ?_
    refine lv_iload hx hb dX2_marchOn_94 (lv_at hl 5 rfl) ?_
    obtain ⟨r2, st3, hc, hf⟩ := bd_some hf
    refine c_calli (n := 3) (rest := [.int (st.2.2.1 203 x1.toNatClampNeg)]) E hN hP hS (fun sz => tX5_fameBy l D cy ad fz hJ sz v1 v2 v4 st r2 st3 hc) (va_recv E.2 hP (ci := 5) (q0 := 36) rfl rfl) (gV k_837 k_838 k_839 k_10 k_840) qX5_fameBy ⟨Nat.le_of_ble_eq_true rfl, Nat.le_of_ble_eq_true rfl⟩ ⟨Nat.le_refl _, Nat.le_refl _⟩ rfl hl.1 rfl (Nat.le_of_ble_eq_true rfl) dX2_marchOn_96 (fun H locs hP hS => ?_)
    refine lv_iadd hx hb dX2_marchOn_99 ?_
    refine lv_topi (fun x4 ex => ?_)
    replace hf := lt_at ex hf; clear ex
    refine lv_istore (lv' := [(6, .int x4), (5, .int x1), (0, .ref (ad 999)), (1, .int v1), (2, .int v2), (3, .ref (ad 299)), (4, .int v4)]) hx hb dX2_marchOn_100 hl (by decide) rfl (fun ls hl => ?_)
    refine lv_aload_n hx hb dX2_marchOn_102 rfl (lv_at hl 5 rfl) ?_
    refine cg_2_91_2 E hP dX2_marchOn_103 ?_
    refine lv_iload hx hb dX2_marchOn_106 (lv_at hl 1 rfl) ?_
    refine lv_iconst (v := 0) hx hb dX2_marchOn_108 (by decide) ?_
    refine lv_bipush (v := 100) hx hb dX2_marchOn_109 (by decide) ?_
    refine lv_iload hx hb dX2_marchOn_111 (lv_at hl 0 rfl) ?_
    refine va_mmin hx hb (E.1.2.2.1.trans hl.1.symm) hown (hT _ k_841) (hT _ k_526) (hT _ k_15) (hT _ k_527) (Nat.le_of_ble_eq_true rfl) (Nat.le_of_ble_eq_true rfl) (Nat.zero_le _) (Nat.zero_le _) dX2_marchOn_113 ?_
    refine va_mmax hx hb (E.1.2.2.1.trans hl.1.symm) hown (hT _ k_842) (hT _ k_537) (hT _ k_15) (hT _ k_538) (Nat.le_of_ble_eq_true rfl) (Nat.le_of_ble_eq_true rfl) (Nat.zero_le _) (Nat.zero_le _) dX2_marchOn_116 ?_
    obtain ⟨hi, hf⟩ := gi_some hf
    refine cs_203 E hD hP hS hi dX2_marchOn_119 (fun st5 H locs ex hP hS => ?_)
    replace hf := lt_at ex hf; clear ex
    refine lv_aload_n hx hb dX2_marchOn_120 rfl (lv_at hl 5 rfl) ?_
    refine lv_dup hx hb dX2_marchOn_121 rfl ?_
    refine cg_2_66_2 E hP dX2_marchOn_122 ?_
    refine lv_iconst (v := 1) hx hb dX2_marchOn_125 (by decide) ?_
    refine lv_iadd hx hb dX2_marchOn_126 ?_
    refine cp_2_66_2 E hD hP hS dX2_marchOn_127 (fun st6 H locs ex hP hS => ?_)
    replace hf := lt_at ex hf; clear ex
    refine lv_iload hx hb dX2_marchOn_130 (lv_at hl 6 rfl) ?_
    exact c_iret hx hb hr hlocks hf hP hS dX2_marchOn_132
  refine lv_aload_n hx hb dX2_marchOn_0 rfl (lv_at hl 0 rfl) ?_
  refine cg_2_18_9 E hP dX2_marchOn_1 ?_
  refine cg_2_57_1 E hP dX2_marchOn_4 ?_
  refine lv_astore_n (lv' := [(3, .ref (ad 299)), (0, .ref (ad 999)), (1, .int a0), (2, .int a1)]) hx hb dX2_marchOn_7 rfl hl (by decide) rfl (fun ls hl => ?_)
  refine lv_iconst (v := 0) hx hb dX2_marchOn_8 (by decide) ?_
  refine lv_istore (lv' := [(4, .int (0 : Int32)), (3, .ref (ad 299)), (0, .ref (ad 999)), (1, .int a0), (2, .int a1)]) hx hb dX2_marchOn_9 hl (by decide) rfl (fun ls hl => ?_)
  refine lv_aload_n hx hb dX2_marchOn_11 rfl (lv_at hl 2 rfl) ?_
  refine cg_2_22_9 E hP dX2_marchOn_12 ?_
  refine lv_iload_n hx hb dX2_marchOn_15 rfl (lv_at hl 3 rfl) ?_
  refine lv_iload_n hx hb dX2_marchOn_16 rfl (lv_at hl 4 rfl) ?_
  refine lv_aload_n hx hb dX2_marchOn_17 rfl (lv_at hl 1 rfl) ?_
  refine cg_2_73_2 E hP dX2_marchOn_18 ?_
  refine lv_iload_n hx hb dX2_marchOn_21 rfl (lv_at hl 3 rfl) ?_
  obtain ⟨hi, hf⟩ := gi_some hf
  refine cl_201 E hP hi dX2_marchOn_22 ?_
  obtain ⟨r7, st8, hc, hf⟩ := bd_some hf
  refine c_calli (n := 3) (rest := []) E hN hP hS (fun sz => tX5_turns l D cy ad fz hJ sz a0 a1 (st.2.2.1 201 a0.toNatClampNeg) st r7 st8 hc) (va_recv E.2 hP (ci := 5) (q0 := 36) rfl rfl) (gV k_836 k_552 k_553 k_10 k_554) qX5_turns ⟨Nat.le_of_ble_eq_true rfl, Nat.le_of_ble_eq_true rfl⟩ ⟨Nat.le_refl _, Nat.le_refl _⟩ rfl hl.1 rfl (Nat.le_of_ble_eq_true rfl) dX2_marchOn_23 (fun H locs hP hS => ?_)
  refine lv_if_eq (tgt := 35) hx hb dX2_marchOn_26 (by decide) (fun hc => ?_) (fun hc => ?_)
  · replace hf := it_pos hc hf
    refine lv_iload_n hx hb dX2_marchOn_35 rfl (lv_at hl 4 rfl) ?_
    refine lv_aload_n hx hb dX2_marchOn_36 rfl (lv_at hl 1 rfl) ?_
    refine cg_2_70_2 E hP dX2_marchOn_37 ?_
    refine lv_iload_n hx hb dX2_marchOn_40 rfl (lv_at hl 3 rfl) ?_
    obtain ⟨hi, hf⟩ := gi_some hf
    refine cl_200 E hP hi dX2_marchOn_41 ?_
    refine lv_icmp_le (tgt := 58) hx hb dX2_marchOn_42 (by decide) (fun hc => ?_) (fun hc => ?_)
    · replace hf := it_pos hc hf
      refine lv_aload_n hx hb dX2_marchOn_58 rfl (lv_at hl 1 rfl) ?_
      refine cg_2_70_2 E hP dX2_marchOn_59 ?_
      refine lv_iload_n hx hb dX2_marchOn_62 rfl (lv_at hl 3 rfl) ?_
      refine lv_dup2_11 hx hb dX2_marchOn_63 rfl rfl ?_
      obtain ⟨hi, hf⟩ := gi_some hf
      refine cl_200 E hP hi dX2_marchOn_64 ?_
      refine lv_iload_n hx hb dX2_marchOn_65 rfl (lv_at hl 4 rfl) ?_
      refine lv_iconst (v := 3) hx hb dX2_marchOn_66 (by decide) ?_
      refine lv_idiv hx hb dX2_marchOn_67 (by decide) ?_
      refine lv_isub hx hb dX2_marchOn_68 ?_
      obtain ⟨hi, hf⟩ := gi_some hf
      refine cs_200 E hD hP hS hi dX2_marchOn_69 (fun st9 H locs ex hP hS => ?_)
      replace hf := lt_at ex hf; clear ex
      exact B70 a0 a1 (0 : Int32) st9 _ _ ls hf (lv_sub hl [2, 3, 4, 1, 0] rfl) hP hS
    · replace hf := it_neg hc hf
      refine lv_iconst (v := 2) hx hb dX2_marchOn_45 (by decide) ?_
      refine lv_istore (lv' := [(4, .int (2 : Int32)), (3, .ref (ad 299)), (0, .ref (ad 999)), (1, .int a0), (2, .int a1)]) hx hb dX2_marchOn_46 hl (by decide) rfl (fun ls hl => ?_)
      refine lv_aload_n hx hb dX2_marchOn_48 rfl (lv_at hl 1 rfl) ?_
      refine cg_2_61_2 E hP dX2_marchOn_49 ?_
      refine lv_iload_n hx hb dX2_marchOn_52 rfl (lv_at hl 3 rfl) ?_
      refine lv_iconst (v := 1) hx hb dX2_marchOn_53 (by decide) ?_
      obtain ⟨hi, hf⟩ := gi_some hf
      refine cs_202 E hD hP hS hi dX2_marchOn_54 (fun st10 H locs ex hP hS => ?_)
      replace hf := lt_at ex hf; clear ex
      refine lv_goto (tgt := 70) hx hb dX2_marchOn_55 (by decide) ?_
      exact B70 a0 a1 (2 : Int32) st10 _ _ ls hf (lv_sub hl [2, 3, 4, 1, 0] rfl) hP hS
  · replace hf := it_neg hc hf
    refine lv_iconst (v := 1) hx hb dX2_marchOn_29 (by decide) ?_
    refine lv_istore (lv' := [(4, .int (1 : Int32)), (3, .ref (ad 299)), (0, .ref (ad 999)), (1, .int a0), (2, .int a1)]) hx hb dX2_marchOn_30 hl (by decide) rfl (fun ls hl => ?_)
    refine lv_goto (tgt := 70) hx hb dX2_marchOn_32 (by decide) ?_
    exact B70 a0 a1 (1 : Int32) st8 _ _ ls hf (lv_sub hl [2, 3, 4, 1, 0] rfl) hP hS
def fX2_attempt_b44 (fz : List FP) (w0 : Int32) (st : St) : Option (Int32 × St) := some (w0, st)
def fX2_attempt (a0 : Int32) (a1 : Int32) (a2 : Int32) (fz : List FP) (st : St) : Option (Int32 × St) := bd (fX2_refusalOf a0 a1 a2 fz st) (fun r1 st2 => if r1 = 0 then (bd (fX2_remember a0 a1 fz st2) (fun r3 st4 => if a0 = (3 : Int32) then (bd (fX2_marchOn a1 a2 fz st4) (fun r7 st8 => fX2_attempt_b44 fz r7 st8)) else (bd (fX2_changeFort a0 a1 a2 fz st4) (fun r5 st6 => fX2_attempt_b44 fz r5 st6)))) else (some (r1, st2)))
set_option maxHeartbeats 4000000 in
set_option maxRecDepth 100000 in
theorem tX2_attempt (l : Launch) (D : va_G) (cy : Nat → ClassId) (ad : Nat → Nat) (fz : List FP) (hJ : (cads ad fz).Nodup) (sz : Nat) (a0 : Int32) (a1 : Int32) (a2 : Int32) (st : St) (rr : Int32) (st' : St) (hf : fX2_attempt a0 a1 a2 fz st = some (rr, st')) : Met l yX2_attempt (Cond.code yX2_attempt cX2_attempt 5 (some .int) :: TT) (rmD 5) (cPc D cy ad fz [.ref (ad 999), .int a0, .int a1, .int a2] st sz) (cQi D cy ad fz rr st' sz) 0 0 (cA ad fz sz) := by
  refine c_meti (by decide) hJ (Nat.le_of_ble_eq_true rfl) (fun p e s m args below meth c ls E hx hb hr hlocks hown hT hD hN hl hP hS => ?_)
  replace hl : lv_has ls 5 [(0, .ref (ad 999)), (1, .int a0), (2, .int a1), (3, .int a2)] := hl
  unfold fX2_attempt at hf
  have B44 : ∀ (w0 : Int32) (st : St) (H : Heap) (locs : List Loc) (ls : Array Slot), fX2_attempt_b44 fz w0 st = some (rr, st') → lv_has ls 5 [] → va_P D classes (cx cy ad fz st) H → va_S (cA ad fz s.heap.size) s.heap H locs → cGi l 5 D cy ad fz rr st' p e s m args below meth c H locs (F0 m 44 ls [.int w0]) := by
    intro w0 st H locs ls hf hl hP hS
    unfold fX2_attempt_b44 at hf
    exact c_iret hx hb hr hlocks hf hP hS dX2_attempt_44
  refine lv_aload_n hx hb dX2_attempt_0 rfl (lv_at hl 0 rfl) ?_
  refine lv_iload_n hx hb dX2_attempt_1 rfl (lv_at hl 1 rfl) ?_
  refine lv_iload_n hx hb dX2_attempt_2 rfl (lv_at hl 2 rfl) ?_
  refine lv_iload_n hx hb dX2_attempt_3 rfl (lv_at hl 3 rfl) ?_
  obtain ⟨r1, st2, hc, hf⟩ := bd_some hf
  refine c_calli (n := 3) (rest := []) E hN hP hS (fun sz => tX2_refusalOf l D cy ad fz hJ sz a0 a1 a2 st r1 st2 hc) (va_recv E.2 hP (ci := 2) (q0 := 40) rfl rfl) (gV k_817 k_818 k_819 k_11 k_820) qX2_refusalOf ⟨Nat.le_of_ble_eq_true rfl, Nat.le_of_ble_eq_true rfl⟩ ⟨Nat.le_refl _, Nat.le_refl _⟩ rfl hl.1 rfl (Nat.le_of_ble_eq_true rfl) dX2_attempt_4 (fun H locs hP hS => ?_)
  refine lv_istore (lv' := [(4, .int r1), (0, .ref (ad 999)), (1, .int a0), (2, .int a1), (3, .int a2)]) hx hb dX2_attempt_7 hl (by decide) rfl (fun ls hl => ?_)
  refine lv_iload hx hb dX2_attempt_9 (lv_at hl 0 rfl) ?_
  refine lv_if_eq (tgt := 17) hx hb dX2_attempt_11 (by decide) (fun hc => ?_) (fun hc => ?_)
  · replace hf := it_pos hc hf
    refine lv_aload_n hx hb dX2_attempt_17 rfl (lv_at hl 1 rfl) ?_
    refine lv_iload_n hx hb dX2_attempt_18 rfl (lv_at hl 2 rfl) ?_
    refine lv_iload_n hx hb dX2_attempt_19 rfl (lv_at hl 3 rfl) ?_
    obtain ⟨r3, st4, hc, hf⟩ := bd_some hf
    refine c_callv (n := 2) (rest := []) E hN hP hS (fun sz => tX2_remember l D cy ad fz hJ sz a0 a1 st2 r3 st4 hc) (va_recv E.2 hP (ci := 2) (q0 := 40) rfl rfl) (gV k_828 k_830 ks_26 k_11 k_831) qX2_remember ⟨Nat.le_of_ble_eq_true rfl, Nat.le_of_ble_eq_true rfl⟩ ⟨Nat.le_refl _, Nat.le_refl _⟩ rfl hl.1 rfl (Nat.le_of_ble_eq_true rfl) dX2_attempt_20 (fun H locs hP hS => ?_)
    refine lv_iload_n hx hb dX2_attempt_23 rfl (lv_at hl 2 rfl) ?_
    refine lv_iconst (v := 3) hx hb dX2_attempt_24 (by decide) ?_
    refine lv_icmp_ne (tgt := 37) hx hb dX2_attempt_25 (by decide) (fun hc => ?_) (fun hc => ?_)
    · replace hf := it_neg hc hf
      refine lv_aload_n hx hb dX2_attempt_37 rfl (lv_at hl 1 rfl) ?_
      refine lv_iload_n hx hb dX2_attempt_38 rfl (lv_at hl 2 rfl) ?_
      refine lv_iload_n hx hb dX2_attempt_39 rfl (lv_at hl 3 rfl) ?_
      refine lv_iload_n hx hb dX2_attempt_40 rfl (lv_at hl 4 rfl) ?_
      obtain ⟨r5, st6, hc, hf⟩ := bd_some hf
      refine c_calli (n := 3) (rest := []) E hN hP hS (fun sz => tX2_changeFort l D cy ad fz hJ sz a0 a1 a2 st4 r5 st6 hc) (va_recv E.2 hP (ci := 2) (q0 := 40) rfl rfl) (gV k_843 k_844 k_845 k_11 k_846) qX2_changeFort ⟨Nat.le_of_ble_eq_true rfl, Nat.le_of_ble_eq_true rfl⟩ ⟨Nat.le_refl _, Nat.le_refl _⟩ rfl hl.1 rfl (Nat.le_of_ble_eq_true rfl) dX2_attempt_41 (fun H locs hP hS => ?_)
      exact B44 r5 st6 _ _ ls hf (lv_sub hl [] rfl) hP hS
    · replace hf := it_pos hc hf
      refine lv_aload_n hx hb dX2_attempt_28 rfl (lv_at hl 1 rfl) ?_
      refine lv_iload_n hx hb dX2_attempt_29 rfl (lv_at hl 3 rfl) ?_
      refine lv_iload_n hx hb dX2_attempt_30 rfl (lv_at hl 4 rfl) ?_
      obtain ⟨r7, st8, hc, hf⟩ := bd_some hf
      refine c_calli (n := 2) (rest := []) E hN hP hS (fun sz => tX2_marchOn l D cy ad fz hJ sz a1 a2 st4 r7 st8 hc) (va_recv E.2 hP (ci := 2) (q0 := 40) rfl rfl) (gV k_832 k_833 k_834 k_11 k_835) qX2_marchOn ⟨Nat.le_of_ble_eq_true rfl, Nat.le_of_ble_eq_true rfl⟩ ⟨Nat.le_refl _, Nat.le_refl _⟩ rfl hl.1 rfl (Nat.le_of_ble_eq_true rfl) dX2_attempt_31 (fun H locs hP hS => ?_)
      refine lv_goto (tgt := 44) hx hb dX2_attempt_34 (by decide) ?_
      exact B44 r7 st8 _ _ ls hf (lv_sub hl [] rfl) hP hS
  · replace hf := it_neg hc hf
    refine lv_iload hx hb dX2_attempt_14 (lv_at hl 0 rfl) ?_
    exact c_iret hx hb hr hlocks hf hP hS dX2_attempt_16
def fX0_take__2_12 (fz : List FP) (st : St) : Option (Unit × St) := lt (sA st 200 (va_cpy (st.2.2.1 1200) (st.2.2.1 200) (0 : Int32).toNatClampNeg (0 : Int32).toNatClampNeg (6 : Int32).toNatClampNeg)) (fun st1 => lt (sA st1 201 (va_cpy (st1.2.2.1 1201) (st1.2.2.1 201) (0 : Int32).toNatClampNeg (0 : Int32).toNatClampNeg (6 : Int32).toNatClampNeg)) (fun st2 => lt (sA st2 202 (va_cpy (st2.2.2.1 1202) (st2.2.2.1 202) (0 : Int32).toNatClampNeg (0 : Int32).toNatClampNeg (6 : Int32).toNatClampNeg)) (fun st3 => lt (sA st3 203 (va_cpy (st3.2.2.1 1203) (st3.2.2.1 203) (0 : Int32).toNatClampNeg (0 : Int32).toNatClampNeg (4 : Int32).toNatClampNeg)) (fun st4 => lt (sI st4 204 (st4.1 1204)) (fun st5 => some ((), st5))))))
set_option maxHeartbeats 4000000 in
set_option maxRecDepth 100000 in
theorem tX0_take__2_12 (l : Launch) (D : va_G) (cy : Nat → ClassId) (ad : Nat → Nat) (fz : List FP) (hJ : (cads ad fz).Nodup) (sz : Nat) (st : St) (rr : Unit) (st' : St) (hf : fX0_take__2_12 fz st = some (rr, st')) : Met l yX0_take (Cond.code yX0_take cX0_take 2 none :: TT) (rmD 1) (cPc D cy ad fz [.ref (ad 299), .ref (ad 1299)] st sz) (cQv D cy ad fz rr st' sz) 0 0 (cA ad fz sz) := by
  refine c_metv (by decide) hJ (Nat.le_of_ble_eq_true rfl) (fun p e s m args below meth c ls E hx hb hr hlocks hown hT hD hN hl hP hS => ?_)
  replace hl : lv_has ls 2 [(0, .ref (ad 299)), (1, .ref (ad 1299))] := hl
  unfold fX0_take__2_12 at hf
  refine lv_aload_n hx hb dX0_take_0 rfl (lv_at hl 1 rfl) ?_
  refine cg_0_9_12 E hP dX0_take_1 ?_
  refine lv_iconst (v := 0) hx hb dX0_take_4 (by decide) ?_
  refine lv_aload_n hx hb dX0_take_5 rfl (lv_at hl 0 rfl) ?_
  refine cg_0_9_2 E hP dX0_take_6 ?_
  refine lv_iconst (v := 0) hx hb dX0_take_9 (by decide) ?_
  refine lv_bipush (v := 6) hx hb dX0_take_10 (by decide) ?_
  refine ccp_1200_200 E k_800 hD hP hS (by decide) hl.1 (Nat.le_of_ble_eq_true rfl) (Nat.le_of_ble_eq_true rfl) dX0_take_12 (fun st1 H locs ex hP hS => ?_)
  replace hf := lt_at ex hf; clear ex
  refine lv_aload_n hx hb dX0_take_15 rfl (lv_at hl 1 rfl) ?_
  refine cg_0_15_12 E hP dX0_take_16 ?_
  refine lv_iconst (v := 0) hx hb dX0_take_19 (by decide) ?_
  refine lv_aload_n hx hb dX0_take_20 rfl (lv_at hl 0 rfl) ?_
  refine cg_0_15_2 E hP dX0_take_21 ?_
  refine lv_iconst (v := 0) hx hb dX0_take_24 (by decide) ?_
  refine lv_bipush (v := 6) hx hb dX0_take_25 (by decide) ?_
  refine ccp_1201_201 E k_800 hD hP hS (by decide) hl.1 (Nat.le_of_ble_eq_true rfl) (Nat.le_of_ble_eq_true rfl) dX0_take_27 (fun st2 H locs ex hP hS => ?_)
  replace hf := lt_at ex hf; clear ex
  refine lv_aload_n hx hb dX0_take_30 rfl (lv_at hl 1 rfl) ?_
  refine cg_0_18_12 E hP dX0_take_31 ?_
  refine lv_iconst (v := 0) hx hb dX0_take_34 (by decide) ?_
  refine lv_aload_n hx hb dX0_take_35 rfl (lv_at hl 0 rfl) ?_
  refine cg_0_18_2 E hP dX0_take_36 ?_
  refine lv_iconst (v := 0) hx hb dX0_take_39 (by decide) ?_
  refine lv_bipush (v := 6) hx hb dX0_take_40 (by decide) ?_
  refine ccp_1202_202 E k_800 hD hP hS (by decide) hl.1 (Nat.le_of_ble_eq_true rfl) (Nat.le_of_ble_eq_true rfl) dX0_take_42 (fun st3 H locs ex hP hS => ?_)
  replace hf := lt_at ex hf; clear ex
  refine lv_aload_n hx hb dX0_take_45 rfl (lv_at hl 1 rfl) ?_
  refine cg_0_21_12 E hP dX0_take_46 ?_
  refine lv_iconst (v := 0) hx hb dX0_take_49 (by decide) ?_
  refine lv_aload_n hx hb dX0_take_50 rfl (lv_at hl 0 rfl) ?_
  refine cg_0_21_2 E hP dX0_take_51 ?_
  refine lv_iconst (v := 0) hx hb dX0_take_54 (by decide) ?_
  refine lv_iconst (v := 4) hx hb dX0_take_55 (by decide) ?_
  refine ccp_1203_203 E k_800 hD hP hS (by decide) hl.1 (Nat.le_of_ble_eq_true rfl) (Nat.le_of_ble_eq_true rfl) dX0_take_56 (fun st4 H locs ex hP hS => ?_)
  replace hf := lt_at ex hf; clear ex
  refine lv_aload_n hx hb dX0_take_59 rfl (lv_at hl 0 rfl) ?_
  refine lv_aload_n hx hb dX0_take_60 rfl (lv_at hl 1 rfl) ?_
  refine cg_0_30_12 E hP dX0_take_61 ?_
  refine cp_0_30_2 E hD hP hS dX0_take_64 (fun st5 H locs ex hP hS => ?_)
  replace hf := lt_at ex hf; clear ex
  exact c_vret hx hb hr hlocks hf hP hS dX0_take_67
def fX2_returnToMark (fz : List FP) (st : St) : Option (Unit × St) := lt (sI st 905 (st.1 904)) (fun st1 => gcp (0 : Int32) (0 : Int32) ((st1.1 905) * (7 : Int32)) 112 112 (lt (sA st1 902 (va_cpy (st1.2.2.1 903) (st1.2.2.1 902) (0 : Int32).toNatClampNeg (0 : Int32).toNatClampNeg ((st1.1 905) * (7 : Int32)).toNatClampNeg)) (fun st2 => some ((), st2))))
set_option maxHeartbeats 4000000 in
set_option maxRecDepth 100000 in
theorem tX2_returnToMark (l : Launch) (D : va_G) (cy : Nat → ClassId) (ad : Nat → Nat) (fz : List FP) (hJ : (cads ad fz).Nodup) (sz : Nat) (st : St) (rr : Unit) (st' : St) (hf : fX2_returnToMark fz st = some (rr, st')) : Met l yX2_returnToMark (Cond.code yX2_returnToMark cX2_returnToMark 1 none :: TT) (rmD 1) (cPc D cy ad fz [.ref (ad 999)] st sz) (cQv D cy ad fz rr st' sz) 0 0 (cA ad fz sz) := by
  refine c_metv (by decide) hJ (Nat.le_of_ble_eq_true rfl) (fun p e s m args below meth c ls E hx hb hr hlocks hown hT hD hN hl hP hS => ?_)
  replace hl : lv_has ls 1 [(0, .ref (ad 999))] := hl
  unfold fX2_returnToMark at hf
  refine lv_aload_n hx hb dX2_returnToMark_0 rfl (lv_at hl 0 rfl) ?_
  refine lv_aload_n hx hb dX2_returnToMark_1 rfl (lv_at hl 0 rfl) ?_
  refine cg_2_114_9 E hP dX2_returnToMark_2 ?_
  refine cp_2_105_9 E hD hP hS dX2_returnToMark_5 (fun st1 H locs ex hP hS => ?_)
  replace hf := lt_at ex hf; clear ex
  refine lv_aload_n hx hb dX2_returnToMark_8 rfl (lv_at hl 0 rfl) ?_
  refine cg_2_15_9 E hP dX2_returnToMark_9 ?_
  refine lv_iconst (v := 0) hx hb dX2_returnToMark_12 (by decide) ?_
  refine lv_aload_n hx hb dX2_returnToMark_13 rfl (lv_at hl 0 rfl) ?_
  refine cg_2_11_9 E hP dX2_returnToMark_14 ?_
  refine lv_iconst (v := 0) hx hb dX2_returnToMark_17 (by decide) ?_
  refine lv_aload_n hx hb dX2_returnToMark_18 rfl (lv_at hl 0 rfl) ?_
  refine cg_2_105_9 E hP dX2_returnToMark_19 ?_
  refine lv_bipush (v := 7) hx hb dX2_returnToMark_22 (by decide) ?_
  refine lv_imul hx hb dX2_returnToMark_24 ?_
  obtain ⟨hg, hf⟩ := gcp_some hf
  refine ccp_903_902 E k_805 hD hP hS hg hl.1 (Nat.le_of_ble_eq_true rfl) (Nat.le_of_ble_eq_true rfl) dX2_returnToMark_25 (fun st2 H locs ex hP hS => ?_)
  replace hf := lt_at ex hf; clear ex
  exact c_vret hx hb hr hlocks hf hP hS dX2_returnToMark_28
def fX7_run_b268 (fz : List FP) (k33 : Int32 → St → Option (Int32 × St)) (k60 : Int32 → Int32 → Int32 → St → Option (Int32 × St)) (v1 : Int32) (v2 : Int32) (v3 : Int32) (st : St) : Option (Int32 × St) := lt (v3 + (1 : Int32)) (fun x1 => k60 v1 v2 x1 st)
def fX7_run_b265 (fz : List FP) (k33 : Int32 → St → Option (Int32 × St)) (k60 : Int32 → Int32 → Int32 → St → Option (Int32 × St)) (v1 : Int32) (v2 : Int32) (v3 : Int32) (w0 : Int32) (st : St) : Option (Int32 × St) := lt (sI st 1006 w0) (fun st2 => fX7_run_b268 fz k33 k60 v1 v2 v3 st2)
def fX7_run_b210 (fz : List FP) (k33 : Int32 → St → Option (Int32 × St)) (k60 : Int32 → Int32 → Int32 → St → Option (Int32 × St)) (v1 : Int32) (v2 : Int32) (v3 : Int32) (w0 : Int32) (st : St) : Option (Int32 × St) := if 0 ≤ w0 then (lt (sI st 1007 ((st.1 1007) + (1 : Int32))) (fun st3 => if v2 = (3 : Int32) then (fX7_run_b265 fz k33 k60 v1 v2 v3 w0 st3) else (fX7_run_b265 fz k33 k60 v1 v2 v3 (st3.1 1006) st3))) else (bd (fX0_take__2_12 fz st) (fun r4 st5 => bd (fX2_returnToMark fz st5) (fun r6 st7 => some (v1, st7))))
def fX7_run_b186 (fz : List FP) (k33 : Int32 → St → Option (Int32 × St)) (k60 : Int32 → Int32 → Int32 → St → Option (Int32 × St)) (v1 : Int32) (v2 : Int32) (v3 : Int32) (v6 : Int32) (v7 : Int32) (w0 : Int32) (st : St) : Option (Int32 × St) := if v6 = 0 then (bd (fX2_attempt v2 v7 w0 fz st) (fun r8 st9 => fX7_run_b210 fz k33 k60 v1 v2 v3 r8 st9)) else (fX7_run_b210 fz k33 k60 v1 v2 v3 (-3 : Int32) st)
def fX7_run_b172 (fz : List FP) (k33 : Int32 → St → Option (Int32 × St)) (k60 : Int32 → Int32 → Int32 → St → Option (Int32 × St)) (v1 : Int32) (v2 : Int32) (v3 : Int32) (v4 : Int32) (v5 : Int32) (v6 : Int32) (w0 : Int32) (st : St) : Option (Int32 × St) := if v2 = (2 : Int32) then (fX7_run_b186 fz k33 k60 v1 v2 v3 v6 w0 v5 st) else (fX7_run_b186 fz k33 k60 v1 v2 v3 v6 w0 v4 st)
def fX7_run_b158 (fz : List FP) (k33 : Int32 → St → Option (Int32 × St)) (k60 : Int32 → Int32 → Int32 → St → Option (Int32 × St)) (v1 : Int32) (v2 : Int32) (v3 : Int32) (v4 : Int32) (v5 : Int32) (w0 : Int32) (st : St) : Option (Int32 × St) := if v2 = (2 : Int32) then (fX7_run_b172 fz k33 k60 v1 v2 v3 v4 v5 w0 v4 st) else (fX7_run_b172 fz k33 k60 v1 v2 v3 v4 v5 w0 v5 st)
def fX7_run_b153 (fz : List FP) (k33 : Int32 → St → Option (Int32 × St)) (k60 : Int32 → Int32 → Int32 → St → Option (Int32 × St)) (v1 : Int32) (v2 : Int32) (v3 : Int32) (v4 : Int32) (v5 : Int32) (st : St) : Option (Int32 × St) := fX7_run_b158 fz k33 k60 v1 v2 v3 v4 v5 (1 : Int32) st
def fX7_run_b60 (fz : List FP) (k33 : Int32 → St → Option (Int32 × St)) (k60 : Int32 → Int32 → Int32 → St → Option (Int32 × St)) (v1 : Int32) (v2 : Int32) (v3 : Int32) (st : St) : Option (Int32 × St) := gi v1 12 (if (st.2.2.1 601 v1.toNatClampNeg) ≤ v3 then (lt (v1 + (1 : Int32)) (fun x10 => k33 x10 st)) else (bd (fX7_lookAround fz st) (fun r11 st12 => bd (fX8_worth__6_1004_1005 v1 (2 : Int32) fz st12) (fun r13 st14 => if r13 = (1 : Int32) then (bd (fX8_worth__6_1004_1005 v1 (0 : Int32) fz st14) (fun r15 st16 => bd (fX8_worth__6_1004_1005 v1 (1 : Int32) fz st16) (fun r17 st18 => if r15 = (-2147483648 : Int32) then (fX7_run_b153 fz k33 k60 v1 v2 v3 r15 r17 st18) else (if r17 = (-2147483648 : Int32) then (fX7_run_b153 fz k33 k60 v1 v2 v3 r15 r17 st18) else (fX7_run_b158 fz k33 k60 v1 v2 v3 r15 r17 (0 : Int32) st18))))) else (fX7_run_b268 fz k33 k60 v1 v2 v3 st14)))))
def fX7_run_b33 (fz : List FP) (k33 : Int32 → St → Option (Int32 × St)) (v1 : Int32) (st : St) : Option (Int32 × St) := if (st.1 605) ≤ v1 then (some ((-1 : Int32), st)) else (gi v1 12 (lt ((st.2.2.1 600 v1.toNatClampNeg) - (304 : Int32)) (fun x19 => lp (fun _ _ _ _ => none) (fX7_run_b60 fz k33) 6000 v1 x19 (0 : Int32) st)))
def fX7_run (fz : List FP) (st : St) : Option (Int32 × St) := bd (fX0_take__12_2 fz st) (fun r20 st21 => bd (fX2_markLog fz st21) (fun r22 st23 => lt (sI st23 1007 (0 : Int32)) (fun st24 => lt (sI st24 1006 (-1 : Int32)) (fun st25 => lp (fun _ _ => none) (fX7_run_b33 fz) 6000 (0 : Int32) st25))))
set_option maxHeartbeats 4000000 in
set_option maxRecDepth 100000 in
theorem tX7_run (l : Launch) (D : va_G) (cy : Nat → ClassId) (ad : Nat → Nat) (fz : List FP) (hJ : (cads ad fz).Nodup) (sz : Nat) (st : St) (rr : Int32) (st' : St) (hf : fX7_run fz st = some (rr, st')) : Met l yX7_run (Cond.code yX7_run cX7_run 10 (some .int) :: TT) (rmD 6) (cPc D cy ad fz [.ref (ad 1099)] st sz) (cQi D cy ad fz rr st' sz) 0 0 (cA ad fz sz) := by
  refine c_meti (by decide) hJ (Nat.le_of_ble_eq_true rfl) (fun p e s m args below meth c ls E hx hb hr hlocks hown hT hD hN hl hP hS => ?_)
  replace hl : lv_has ls 10 [(0, .ref (ad 1099))] := hl
  unfold fX7_run at hf
  have L33 : ∀ (n : Nat) (v1 : Int32) (st : St) (H : Heap) (locs : List Loc) (ls : Array Slot), lp (fun _ _ => none) (fX7_run_b33 fz) n v1 st = some (rr, st') → lv_has ls 10 [(0, .ref (ad 1099)), (1, .int v1)] → va_P D classes (cx cy ad fz st) H → va_S (cA ad fz s.heap.size) s.heap H locs → cGi l 6 D cy ad fz rr st' p e s m args below meth c H locs (F0 m 33 ls []) := by
    intro n
    induction n with
    | zero => intro v1 st H locs ls hf; exact absurd hf (fun h => by cases h)
    | succ n K33 =>
      intro v1 st H locs ls hf hl hP hS
      replace hf : fX7_run_b33 fz (lp (fun _ _ => none) (fX7_run_b33 fz) n) v1 st = some (rr, st') := hf
      generalize lp (fun _ _ => none) (fX7_run_b33 fz) n = k33 at hf K33
      have L60 : ∀ (n : Nat) (v1 : Int32) (v2 : Int32) (v3 : Int32) (st : St) (H : Heap) (locs : List Loc) (ls : Array Slot), lp (fun _ _ _ _ => none) (fX7_run_b60 fz k33) n v1 v2 v3 st = some (rr, st') → lv_has ls 10 [(0, .ref (ad 1099)), (1, .int v1), (2, .int v2), (3, .int v3)] → va_P D classes (cx cy ad fz st) H → va_S (cA ad fz s.heap.size) s.heap H locs → cGi l 6 D cy ad fz rr st' p e s m args below meth c H locs (F0 m 60 ls []) := by
        intro n
        induction n with
        | zero => intro v1 v2 v3 st H locs ls hf; exact absurd hf (fun h => by cases h)
        | succ n K60 =>
          intro v1 v2 v3 st H locs ls hf hl hP hS
          replace hf : fX7_run_b60 fz k33 (lp (fun _ _ _ _ => none) (fX7_run_b60 fz k33) n) v1 v2 v3 st = some (rr, st') := hf
          generalize lp (fun _ _ _ _ => none) (fX7_run_b60 fz k33) n = k60 at hf K60
          have B268 : ∀ (v1 : Int32) (v2 : Int32) (v3 : Int32) (st : St) (H : Heap) (locs : List Loc) (ls : Array Slot), fX7_run_b268 fz k33 k60 v1 v2 v3 st = some (rr, st') → lv_has ls 10 [(0, .ref (ad 1099)), (1, .int v1), (2, .int v2), (3, .int v3)] → va_P D classes (cx cy ad fz st) H → va_S (cA ad fz s.heap.size) s.heap H locs → cGi l 6 D cy ad fz rr st' p e s m args below meth c H locs (F0 m 268 ls []) := by
            intro v1 v2 v3 st H locs ls hf hl hP hS
            unfold fX7_run_b268 at hf
            obtain ⟨x1, ex⟩ : ∃ y : Int32, y = v3 + (1 : Int32) := ⟨_, rfl⟩
            replace hf := lt_at ex hf
            refine lv_iinc (v := x1) (lv' := [(3, .int x1), (0, .ref (ad 1099)), (1, .int v1), (2, .int v2)]) hx hb dX7_run_268 hl (k := 3) rfl (by rw [ex]; rfl) (by decide) rfl (fun ls hl => ?_)
            clear ex
            refine lv_goto (tgt := 60) hx hb dX7_run_271 (by decide) ?_
            exact K60 v1 v2 x1 st _ _ ls hf (lv_sub hl [1, 2, 3, 0] rfl) hP hS
          have B265 : ∀ (v1 : Int32) (v2 : Int32) (v3 : Int32) (w0 : Int32) (st : St) (H : Heap) (locs : List Loc) (ls : Array Slot), fX7_run_b265 fz k33 k60 v1 v2 v3 w0 st = some (rr, st') → lv_has ls 10 [(0, .ref (ad 1099)), (1, .int v1), (2, .int v2), (3, .int v3)] → va_P D classes (cx cy ad fz st) H → va_S (cA ad fz s.heap.size) s.heap H locs → cGi l 6 D cy ad fz rr st' p e s m args below meth c H locs (F0 m 265 ls [.int w0, .ref (ad 1099)]) := by
            intro v1 v2 v3 w0 st H locs ls hf hl hP hS
            unfold fX7_run_b265 at hf
            refine cp_7_60_10 E hD hP hS dX7_run_265 (fun st2 H locs ex hP hS => ?_)
            replace hf := lt_at ex hf; clear ex
            exact B268 v1 v2 v3 st2 _ _ ls hf hl hP hS
          have B210 : ∀ (v1 : Int32) (v2 : Int32) (v3 : Int32) (w0 : Int32) (st : St) (H : Heap) (locs : List Loc) (ls : Array Slot), fX7_run_b210 fz k33 k60 v1 v2 v3 w0 st = some (rr, st') → lv_has ls 10 [(0, .ref (ad 1099)), (1, .int v1), (2, .int v2), (3, .int v3)] → va_P D classes (cx cy ad fz st) H → va_S (cA ad fz s.heap.size) s.heap H locs → cGi l 6 D cy ad fz rr st' p e s m args below meth c H locs (F0 m 210 ls [.int w0]) := by
            intro v1 v2 v3 w0 st H locs ls hf hl hP hS
            unfold fX7_run_b210 at hf
            refine lv_istore (lv' := [(9, .int w0), (0, .ref (ad 1099)), (1, .int v1), (2, .int v2), (3, .int v3)]) hx hb dX7_run_210 hl (by decide) rfl (fun ls hl => ?_)
            refine lv_iload hx hb dX7_run_212 (lv_at hl 0 rfl) ?_
            refine lv_if_ge (tgt := 240) hx hb dX7_run_214 (by decide) (fun hc => ?_) (fun hc => ?_)
            · replace hf := it_pos hc hf
              refine lv_aload_n hx hb dX7_run_240 rfl (lv_at hl 1 rfl) ?_
              refine lv_dup hx hb dX7_run_241 rfl ?_
              refine cg_7_56_10 E hP dX7_run_242 ?_
              refine lv_iconst (v := 1) hx hb dX7_run_245 (by decide) ?_
              refine lv_iadd hx hb dX7_run_246 ?_
              refine cp_7_56_10 E hD hP hS dX7_run_247 (fun st3 H locs ex hP hS => ?_)
              replace hf := lt_at ex hf; clear ex
              refine lv_aload_n hx hb dX7_run_250 rfl (lv_at hl 1 rfl) ?_
              refine lv_iload_n hx hb dX7_run_251 rfl (lv_at hl 3 rfl) ?_
              refine lv_iconst (v := 3) hx hb dX7_run_252 (by decide) ?_
              refine lv_icmp_ne (tgt := 261) hx hb dX7_run_253 (by decide) (fun hc => ?_) (fun hc => ?_)
              · replace hf := it_neg hc hf
                refine lv_aload_n hx hb dX7_run_261 rfl (lv_at hl 1 rfl) ?_
                refine cg_7_60_10 E hP dX7_run_262 ?_
                exact B265 v1 v2 v3 (st3.1 1006) st3 _ _ ls hf (lv_sub hl [1, 2, 3, 4] rfl) hP hS
              · replace hf := it_pos hc hf
                refine lv_iload hx hb dX7_run_256 (lv_at hl 0 rfl) ?_
                refine lv_goto (tgt := 265) hx hb dX7_run_258 (by decide) ?_
                exact B265 v1 v2 v3 w0 st3 _ _ ls hf (lv_sub hl [1, 2, 3, 4] rfl) hP hS
            · replace hf := it_neg hc hf
              refine lv_aload_n hx hb dX7_run_217 rfl (lv_at hl 1 rfl) ?_
              refine cg_7_30_10 E hP dX7_run_218 ?_
              refine cg_7_42_1 E hP dX7_run_221 ?_
              refine lv_aload_n hx hb dX7_run_224 rfl (lv_at hl 1 rfl) ?_
              refine cg_7_12_10 E hP dX7_run_225 ?_
              obtain ⟨r4, st5, hc, hf⟩ := bd_some hf
              refine c_callv (n := 1) (rest := []) E hN hP hS (fun sz => tX0_take__2_12 l D cy ad fz hJ sz st r4 st5 hc) (va_recv E.2 hP (ci := 0) (q0 := 9) rfl rfl) (gV k_796 k_797 k_798 k_3 k_799) qX0_take ⟨Nat.le_of_ble_eq_true rfl, Nat.le_of_ble_eq_true rfl⟩ ⟨Nat.le_refl _, Nat.le_refl _⟩ rfl hl.1 rfl (Nat.le_of_ble_eq_true rfl) dX7_run_228 (fun H locs hP hS => ?_)
              refine lv_aload_n hx hb dX7_run_231 rfl (lv_at hl 1 rfl) ?_
              refine cg_7_34_10 E hP dX7_run_232 ?_
              obtain ⟨r6, st7, hc, hf⟩ := bd_some hf
              refine c_callv (n := 0) (rest := []) E hN hP hS (fun sz => tX2_returnToMark l D cy ad fz hJ sz st5 r6 st7 hc) (va_recv E.2 hP (ci := 2) (q0 := 40) rfl rfl) (gV k_848 k_849 k_850 k_11 k_851) qX2_returnToMark ⟨Nat.le_of_ble_eq_true rfl, Nat.le_of_ble_eq_true rfl⟩ ⟨Nat.le_refl _, Nat.le_refl _⟩ rfl hl.1 rfl (Nat.le_of_ble_eq_true rfl) dX7_run_235 (fun H locs hP hS => ?_)
              refine lv_iload_n hx hb dX7_run_238 rfl (lv_at hl 2 rfl) ?_
              exact c_iret hx hb hr hlocks hf hP hS dX7_run_239
          have B186 : ∀ (v1 : Int32) (v2 : Int32) (v3 : Int32) (v6 : Int32) (v7 : Int32) (w0 : Int32) (st : St) (H : Heap) (locs : List Loc) (ls : Array Slot), fX7_run_b186 fz k33 k60 v1 v2 v3 v6 v7 w0 st = some (rr, st') → lv_has ls 10 [(0, .ref (ad 1099)), (1, .int v1), (2, .int v2), (3, .int v3), (6, .int v6), (7, .int v7)] → va_P D classes (cx cy ad fz st) H → va_S (cA ad fz s.heap.size) s.heap H locs → cGi l 6 D cy ad fz rr st' p e s m args below meth c H locs (F0 m 186 ls [.int w0]) := by
            intro v1 v2 v3 v6 v7 w0 st H locs ls hf hl hP hS
            unfold fX7_run_b186 at hf
            refine lv_istore (lv' := [(8, .int w0), (0, .ref (ad 1099)), (1, .int v1), (2, .int v2), (3, .int v3), (6, .int v6), (7, .int v7)]) hx hb dX7_run_186 hl (by decide) rfl (fun ls hl => ?_)
            refine lv_iload hx hb dX7_run_188 (lv_at hl 5 rfl) ?_
            refine lv_if_eq (tgt := 198) hx hb dX7_run_190 (by decide) (fun hc => ?_) (fun hc => ?_)
            · replace hf := it_pos hc hf
              refine lv_aload_n hx hb dX7_run_198 rfl (lv_at hl 1 rfl) ?_
              refine cg_7_34_10 E hP dX7_run_199 ?_
              refine lv_iload_n hx hb dX7_run_202 rfl (lv_at hl 3 rfl) ?_
              refine lv_iload hx hb dX7_run_203 (lv_at hl 6 rfl) ?_
              refine lv_iload hx hb dX7_run_205 (lv_at hl 0 rfl) ?_
              obtain ⟨r8, st9, hc, hf⟩ := bd_some hf
              refine c_calli (n := 3) (rest := []) E hN hP hS (fun sz => tX2_attempt l D cy ad fz hJ sz v2 v7 w0 st r8 st9 hc) (va_recv E.2 hP (ci := 2) (q0 := 40) rfl rfl) (gV k_813 k_814 k_815 k_11 k_816) qX2_attempt ⟨Nat.le_of_ble_eq_true rfl, Nat.le_of_ble_eq_true rfl⟩ ⟨Nat.le_refl _, Nat.le_refl _⟩ rfl hl.1 rfl (Nat.le_of_ble_eq_true rfl) dX7_run_207 (fun H locs hP hS => ?_)
              exact B210 v1 v2 v3 r8 st9 _ _ ls hf (lv_sub hl [1, 2, 3, 4] rfl) hP hS
            · replace hf := it_neg hc hf
              refine lv_bipush (v := -3) hx hb dX7_run_193 (by decide) ?_
              refine lv_goto (tgt := 210) hx hb dX7_run_195 (by decide) ?_
              exact B210 v1 v2 v3 (-3 : Int32) st _ _ ls hf (lv_sub hl [1, 2, 3, 4] rfl) hP hS
          have B172 : ∀ (v1 : Int32) (v2 : Int32) (v3 : Int32) (v4 : Int32) (v5 : Int32) (v6 : Int32) (w0 : Int32) (st : St) (H : Heap) (locs : List Loc) (ls : Array Slot), fX7_run_b172 fz k33 k60 v1 v2 v3 v4 v5 v6 w0 st = some (rr, st') → lv_has ls 10 [(0, .ref (ad 1099)), (1, .int v1), (2, .int v2), (3, .int v3), (4, .int v4), (5, .int v5), (6, .int v6)] → va_P D classes (cx cy ad fz st) H → va_S (cA ad fz s.heap.size) s.heap H locs → cGi l 6 D cy ad fz rr st' p e s m args below meth c H locs (F0 m 172 ls [.int w0]) := by
            intro v1 v2 v3 v4 v5 v6 w0 st H locs ls hf hl hP hS
            unfold fX7_run_b172 at hf
            refine lv_istore (lv' := [(7, .int w0), (0, .ref (ad 1099)), (1, .int v1), (2, .int v2), (3, .int v3), (4, .int v4), (5, .int v5), (6, .int v6)]) hx hb dX7_run_172 hl (by decide) rfl (fun ls hl => ?_)
            refine lv_iload_n hx hb dX7_run_174 rfl (lv_at hl 3 rfl) ?_
            refine lv_iconst (v := 2) hx hb dX7_run_175 (by decide) ?_
            refine lv_icmp_ne (tgt := 184) hx hb dX7_run_176 (by decide) (fun hc => ?_) (fun hc => ?_)
            · replace hf := it_neg hc hf
              refine lv_iload hx hb dX7_run_184 (lv_at hl 5 rfl) ?_
              exact B186 v1 v2 v3 v6 w0 v4 st _ _ ls hf (lv_sub hl [1, 2, 3, 4, 7, 0] rfl) hP hS
            · replace hf := it_pos hc hf
              refine lv_iload hx hb dX7_run_179 (lv_at hl 6 rfl) ?_
              refine lv_goto (tgt := 186) hx hb dX7_run_181 (by decide) ?_
              exact B186 v1 v2 v3 v6 w0 v5 st _ _ ls hf (lv_sub hl [1, 2, 3, 4, 7, 0] rfl) hP hS
          have B158 : ∀ (v1 : Int32) (v2 : Int32) (v3 : Int32) (v4 : Int32) (v5 : Int32) (w0 : Int32) (st : St) (H : Heap) (locs : List Loc) (ls : Array Slot), fX7_run_b158 fz k33 k60 v1 v2 v3 v4 v5 w0 st = some (rr, st') → lv_has ls 10 [(0, .ref (ad 1099)), (1, .int v1), (2, .int v2), (3, .int v3), (4, .int v4), (5, .int v5)] → va_P D classes (cx cy ad fz st) H → va_S (cA ad fz s.heap.size) s.heap H locs → cGi l 6 D cy ad fz rr st' p e s m args below meth c H locs (F0 m 158 ls [.int w0]) := by
            intro v1 v2 v3 v4 v5 w0 st H locs ls hf hl hP hS
            unfold fX7_run_b158 at hf
            refine lv_istore (lv' := [(6, .int w0), (0, .ref (ad 1099)), (1, .int v1), (2, .int v2), (3, .int v3), (4, .int v4), (5, .int v5)]) hx hb dX7_run_158 hl (by decide) rfl (fun ls hl => ?_)
            refine lv_iload_n hx hb dX7_run_160 rfl (lv_at hl 3 rfl) ?_
            refine lv_iconst (v := 2) hx hb dX7_run_161 (by decide) ?_
            refine lv_icmp_ne (tgt := 170) hx hb dX7_run_162 (by decide) (fun hc => ?_) (fun hc => ?_)
            · replace hf := it_neg hc hf
              refine lv_iload hx hb dX7_run_170 (lv_at hl 6 rfl) ?_
              exact B172 v1 v2 v3 v4 v5 w0 v5 st _ _ ls hf (lv_sub hl [1, 2, 3, 4, 5, 6, 0] rfl) hP hS
            · replace hf := it_pos hc hf
              refine lv_iload hx hb dX7_run_165 (lv_at hl 5 rfl) ?_
              refine lv_goto (tgt := 172) hx hb dX7_run_167 (by decide) ?_
              exact B172 v1 v2 v3 v4 v5 w0 v4 st _ _ ls hf (lv_sub hl [1, 2, 3, 4, 5, 6, 0] rfl) hP hS
          have B153 : ∀ (v1 : Int32) (v2 : Int32) (v3 : Int32) (v4 : Int32) (v5 : Int32) (st : St) (H : Heap) (locs : List Loc) (ls : Array Slot), fX7_run_b153 fz k33 k60 v1 v2 v3 v4 v5 st = some (rr, st') → lv_has ls 10 [(0, .ref (ad 1099)), (1, .int v1), (2, .int v2), (3, .int v3), (4, .int v4), (5, .int v5)] → va_P D classes (cx cy ad fz st) H → va_S (cA ad fz s.heap.size) s.heap H locs → cGi l 6 D cy ad fz rr st' p e s m args below meth c H locs (F0 m 153 ls []) := by
            intro v1 v2 v3 v4 v5 st H locs ls hf hl hP hS
            unfold fX7_run_b153 at hf
            refine lv_iconst (v := 1) hx hb dX7_run_153 (by decide) ?_
            refine lv_goto (tgt := 158) hx hb dX7_run_154 (by decide) ?_
            exact B158 v1 v2 v3 v4 v5 (1 : Int32) st _ _ ls hf hl hP hS
          unfold fX7_run_b60 at hf
          refine lv_iload_n hx hb dX7_run_60 rfl (lv_at hl 3 rfl) ?_
          refine lv_aload_n hx hb dX7_run_61 rfl (lv_at hl 0 rfl) ?_
          refine cg_7_38_10 E hP dX7_run_62 ?_
          refine cg_7_71_6 E hP dX7_run_65 ?_
          refine lv_iload_n hx hb dX7_run_68 rfl (lv_at hl 1 rfl) ?_
          obtain ⟨hi, hf⟩ := gi_some hf
          refine cl_601 E hP hi dX7_run_69 ?_
          refine lv_icmp_ge (tgt := 274) hx hb dX7_run_70 (by decide) (fun hc => ?_) (fun hc => ?_)
          · replace hf := it_pos hc hf
            obtain ⟨x10, ex⟩ : ∃ y : Int32, y = v1 + (1 : Int32) := ⟨_, rfl⟩
            replace hf := lt_at ex hf
            refine lv_iinc (v := x10) (lv' := [(1, .int x10), (0, .ref (ad 1099)), (2, .int v2), (3, .int v3)]) hx hb dX7_run_274 hl (k := 1) rfl (by rw [ex]; rfl) (by decide) rfl (fun ls hl => ?_)
            clear ex
            refine lv_goto (tgt := 33) hx hb dX7_run_277 (by decide) ?_
            exact K33 x10 st _ _ ls hf (lv_sub hl [1, 0] rfl) hP hS
          · replace hf := it_neg hc hf
            refine lv_aload_n hx hb dX7_run_73 rfl (lv_at hl 0 rfl) ?_
            obtain ⟨r11, st12, hc, hf⟩ := bd_some hf
            refine c_callv (n := 0) (rest := []) E hN hP hS (fun sz => tX7_lookAround l D cy ad fz hJ sz st r11 st12 hc) (va_recv E.2 hP (ci := 7) (q0 := 43) rfl rfl) (gV k_806 k_808 ks_25 k_12 k_809) qX7_lookAround ⟨Nat.le_of_ble_eq_true rfl, Nat.le_of_ble_eq_true rfl⟩ ⟨Nat.le_refl _, Nat.le_refl _⟩ rfl hl.1 rfl (Nat.le_of_ble_eq_true rfl) dX7_run_74 (fun H locs hP hS => ?_)
            refine lv_aload_n hx hb dX7_run_77 rfl (lv_at hl 0 rfl) ?_
            refine cg_7_38_10 E hP dX7_run_78 ?_
            refine lv_iload_n hx hb dX7_run_81 rfl (lv_at hl 1 rfl) ?_
            refine lv_iconst (v := 2) hx hb dX7_run_82 (by decide) ?_
            refine lv_aload_n hx hb dX7_run_83 rfl (lv_at hl 0 rfl) ?_
            refine cg_7_20_10 E hP dX7_run_84 ?_
            refine lv_aload_n hx hb dX7_run_87 rfl (lv_at hl 0 rfl) ?_
            refine cg_7_26_10 E hP dX7_run_88 ?_
            obtain ⟨r13, st14, hc, hf⟩ := bd_some hf
            refine c_calli (n := 4) (rest := []) E hN hP hS (fun sz => tX8_worth__6_1004_1005 l D cy ad fz hJ sz v1 (2 : Int32) st12 r13 st14 hc) (va_recv E.2 hP (ci := 8) (q0 := 30) rfl rfl) (gV k_811 k_521 k_522 k_8 k_523) qX8_worth ⟨Nat.le_of_ble_eq_true rfl, Nat.le_of_ble_eq_true rfl⟩ ⟨Nat.le_refl _, Nat.le_refl _⟩ rfl hl.1 rfl (Nat.le_of_ble_eq_true rfl) dX7_run_91 (fun H locs hP hS => ?_)
            refine lv_iconst (v := 1) hx hb dX7_run_94 (by decide) ?_
            refine lv_icmp_eq (tgt := 101) hx hb dX7_run_95 (by decide) (fun hc => ?_) (fun hc => ?_)
            · replace hf := it_pos hc hf
              refine lv_aload_n hx hb dX7_run_101 rfl (lv_at hl 0 rfl) ?_
              refine cg_7_38_10 E hP dX7_run_102 ?_
              refine lv_iload_n hx hb dX7_run_105 rfl (lv_at hl 1 rfl) ?_
              refine lv_iconst (v := 0) hx hb dX7_run_106 (by decide) ?_
              refine lv_aload_n hx hb dX7_run_107 rfl (lv_at hl 0 rfl) ?_
              refine cg_7_20_10 E hP dX7_run_108 ?_
              refine lv_aload_n hx hb dX7_run_111 rfl (lv_at hl 0 rfl) ?_
              refine cg_7_26_10 E hP dX7_run_112 ?_
              obtain ⟨r15, st16, hc, hf⟩ := bd_some hf
              refine c_calli (n := 4) (rest := []) E hN hP hS (fun sz => tX8_worth__6_1004_1005 l D cy ad fz hJ sz v1 (0 : Int32) st14 r15 st16 hc) (va_recv E.2 hP (ci := 8) (q0 := 30) rfl rfl) (gV k_811 k_521 k_522 k_8 k_523) qX8_worth ⟨Nat.le_of_ble_eq_true rfl, Nat.le_of_ble_eq_true rfl⟩ ⟨Nat.le_refl _, Nat.le_refl _⟩ rfl hl.1 rfl (Nat.le_of_ble_eq_true rfl) dX7_run_115 (fun H locs hP hS => ?_)
              refine lv_istore (lv' := [(4, .int r15), (0, .ref (ad 1099)), (1, .int v1), (2, .int v2), (3, .int v3)]) hx hb dX7_run_118 hl (by decide) rfl (fun ls hl => ?_)
              refine lv_aload_n hx hb dX7_run_120 rfl (lv_at hl 1 rfl) ?_
              refine cg_7_38_10 E hP dX7_run_121 ?_
              refine lv_iload_n hx hb dX7_run_124 rfl (lv_at hl 2 rfl) ?_
              refine lv_iconst (v := 1) hx hb dX7_run_125 (by decide) ?_
              refine lv_aload_n hx hb dX7_run_126 rfl (lv_at hl 1 rfl) ?_
              refine cg_7_20_10 E hP dX7_run_127 ?_
              refine lv_aload_n hx hb dX7_run_130 rfl (lv_at hl 1 rfl) ?_
              refine cg_7_26_10 E hP dX7_run_131 ?_
              obtain ⟨r17, st18, hc, hf⟩ := bd_some hf
              refine c_calli (n := 4) (rest := []) E hN hP hS (fun sz => tX8_worth__6_1004_1005 l D cy ad fz hJ sz v1 (1 : Int32) st16 r17 st18 hc) (va_recv E.2 hP (ci := 8) (q0 := 30) rfl rfl) (gV k_811 k_521 k_522 k_8 k_523) qX8_worth ⟨Nat.le_of_ble_eq_true rfl, Nat.le_of_ble_eq_true rfl⟩ ⟨Nat.le_refl _, Nat.le_refl _⟩ rfl hl.1 rfl (Nat.le_of_ble_eq_true rfl) dX7_run_134 (fun H locs hP hS => ?_)
              refine lv_istore (lv' := [(5, .int r17), (4, .int r15), (0, .ref (ad 1099)), (1, .int v1), (2, .int v2), (3, .int v3)]) hx hb dX7_run_137 hl (by decide) rfl (fun ls hl => ?_)
              refine lv_iload hx hb dX7_run_139 (lv_at hl 1 rfl) ?_
              refine lv_ldc (v := -2147483648) hx hb hown (hT _ k_812) dX7_run_141 ?_
              refine lv_icmp_eq (tgt := 153) hx hb dX7_run_143 (by decide) (fun hc => ?_) (fun hc => ?_)
              · replace hf := it_pos hc hf
                exact B153 v1 v2 v3 r15 r17 st18 _ _ ls hf (lv_sub hl [2, 3, 4, 5, 1, 0] rfl) hP hS
              · replace hf := it_neg hc hf
                refine lv_iload hx hb dX7_run_146 (lv_at hl 0 rfl) ?_
                refine lv_ldc (v := -2147483648) hx hb hown (hT _ k_812) dX7_run_148 ?_
                refine lv_icmp_ne (tgt := 157) hx hb dX7_run_150 (by decide) (fun hc => ?_) (fun hc => ?_)
                · replace hf := it_neg hc hf
                  refine lv_iconst (v := 0) hx hb dX7_run_157 (by decide) ?_
                  exact B158 v1 v2 v3 r15 r17 (0 : Int32) st18 _ _ ls hf (lv_sub hl [2, 3, 4, 5, 1, 0] rfl) hP hS
                · replace hf := it_pos hc hf
                  exact B153 v1 v2 v3 r15 r17 st18 _ _ ls hf (lv_sub hl [2, 3, 4, 5, 1, 0] rfl) hP hS
            · replace hf := it_neg hc hf
              refine lv_goto (tgt := 268) hx hb dX7_run_98 (by decide) ?_
              exact B268 v1 v2 v3 st14 _ _ ls hf hl hP hS
      unfold fX7_run_b33 at hf
      refine lv_iload_n hx hb dX7_run_33 rfl (lv_at hl 1 rfl) ?_
      refine lv_aload_n hx hb dX7_run_34 rfl (lv_at hl 0 rfl) ?_
      refine cg_7_38_10 E hP dX7_run_35 ?_
      refine cg_7_63_6 E hP dX7_run_38 ?_
      refine lv_icmp_ge (tgt := 280) hx hb dX7_run_41 (by decide) (fun hc => ?_) (fun hc => ?_)
      · replace hf := it_pos hc hf
        refine lv_iconst (v := -1) hx hb dX7_run_280 (by decide) ?_
        exact c_iret hx hb hr hlocks hf hP hS dX7_run_281
      · replace hf := it_neg hc hf
        refine lv_aload_n hx hb dX7_run_44 rfl (lv_at hl 0 rfl) ?_
        refine cg_7_38_10 E hP dX7_run_45 ?_
        refine cg_7_66_6 E hP dX7_run_48 ?_
        refine lv_iload_n hx hb dX7_run_51 rfl (lv_at hl 1 rfl) ?_
        obtain ⟨hi, hf⟩ := gi_some hf
        refine cl_600 E hP hi dX7_run_52 ?_
        refine lv_sipush (v := 304) hx hb dX7_run_53 (by decide) ?_
        refine lv_isub hx hb dX7_run_56 ?_
        refine lv_topi (fun x19 ex => ?_)
        replace hf := lt_at ex hf; clear ex
        refine lv_istore_n (lv' := [(2, .int x19), (0, .ref (ad 1099)), (1, .int v1)]) hx hb dX7_run_57 rfl hl (by decide) rfl (fun ls hl => ?_)
        refine lv_iconst (v := 0) hx hb dX7_run_58 (by decide) ?_
        refine lv_istore_n (lv' := [(3, .int (0 : Int32)), (2, .int x19), (0, .ref (ad 1099)), (1, .int v1)]) hx hb dX7_run_59 rfl hl (by decide) rfl (fun ls hl => ?_)
        exact L60 6000 v1 x19 (0 : Int32) st _ _ ls hf (lv_sub hl [2, 3, 1, 0] rfl) hP hS
  refine lv_aload_n hx hb dX7_run_0 rfl (lv_at hl 0 rfl) ?_
  refine cg_7_12_10 E hP dX7_run_1 ?_
  refine lv_aload_n hx hb dX7_run_4 rfl (lv_at hl 0 rfl) ?_
  refine cg_7_30_10 E hP dX7_run_5 ?_
  refine cg_7_42_1 E hP dX7_run_8 ?_
  obtain ⟨r20, st21, hc, hf⟩ := bd_some hf
  refine c_callv (n := 1) (rest := []) E hN hP hS (fun sz => tX0_take__12_2 l D cy ad fz hJ sz st r20 st21 hc) (va_recv E.2 hP (ci := 0) (q0 := 47) rfl rfl) (gV k_796 k_797 k_798 k_3 k_799) qX0_take ⟨Nat.le_of_ble_eq_true rfl, Nat.le_of_ble_eq_true rfl⟩ ⟨Nat.le_refl _, Nat.le_refl _⟩ rfl hl.1 rfl (Nat.le_of_ble_eq_true rfl) dX7_run_11 (fun H locs hP hS => ?_)
  refine lv_aload_n hx hb dX7_run_14 rfl (lv_at hl 0 rfl) ?_
  refine cg_7_34_10 E hP dX7_run_15 ?_
  obtain ⟨r22, st23, hc, hf⟩ := bd_some hf
  refine c_callv (n := 0) (rest := []) E hN hP hS (fun sz => tX2_markLog l D cy ad fz hJ sz st21 r22 st23 hc) (va_recv E.2 hP (ci := 2) (q0 := 40) rfl rfl) (gV k_801 k_802 k_803 k_11 k_804) qX2_markLog ⟨Nat.le_of_ble_eq_true rfl, Nat.le_of_ble_eq_true rfl⟩ ⟨Nat.le_refl _, Nat.le_refl _⟩ rfl hl.1 rfl (Nat.le_of_ble_eq_true rfl) dX7_run_18 (fun H locs hP hS => ?_)
  refine lv_aload_n hx hb dX7_run_21 rfl (lv_at hl 0 rfl) ?_
  refine lv_iconst (v := 0) hx hb dX7_run_22 (by decide) ?_
  refine cp_7_56_10 E hD hP hS dX7_run_23 (fun st24 H locs ex hP hS => ?_)
  replace hf := lt_at ex hf; clear ex
  refine lv_aload_n hx hb dX7_run_26 rfl (lv_at hl 0 rfl) ?_
  refine lv_iconst (v := -1) hx hb dX7_run_27 (by decide) ?_
  refine cp_7_60_10 E hD hP hS dX7_run_28 (fun st25 H locs ex hP hS => ?_)
  replace hf := lt_at ex hf; clear ex
  refine lv_iconst (v := 0) hx hb dX7_run_31 (by decide) ?_
  refine lv_istore_n (lv' := [(1, .int (0 : Int32)), (0, .ref (ad 1099))]) hx hb dX7_run_32 rfl hl (by decide) rfl (fun ls hl => ?_)
  exact L33 6000 (0 : Int32) st25 _ _ ls hf (lv_sub hl [1, 0] rfl) hP hS
def fX11_orders_b72 (fz : List FP) (w0 : Int32) (st : St) : Option (Int32 × St) := bd (fX11_settle w0 fz st) (fun r1 st2 => some (r1, st2))
def fX11_orders (fz : List FP) (st : St) : Option (Int32 × St) := bd (fX9_read (0 : Int32) fz st) (fun r3 st4 => lt (sI st4 11 r3) (fun st5 => lt (sI st5 12 (-1 : Int32)) (fun st6 => lt (sI st6 504 (0 : Int32)) (fun st7 => if (st7.1 11) = (-1 : Int32) then (bd (fX7_run fz st7) (fun r8 st9 => lt (sI st9 12 r8) (fun st10 => if (st10.1 12) = (-1 : Int32) then (fX11_orders_b72 fz (st10.1 1007) st10) else (fX11_orders_b72 fz (-3 : Int32) st10)))) else (bd (fX11_refuse (-6 : Int32) fz st7) (fun r11 st12 => some (r11, st12)))))))
set_option maxHeartbeats 4000000 in
set_option maxRecDepth 100000 in
theorem tX11_orders (l : Launch) (D : va_G) (cy : Nat → ClassId) (ad : Nat → Nat) (fz : List FP) (hJ : (cads ad fz).Nodup) (sz : Nat) (st : St) (rr : Int32) (st' : St) (hf : fX11_orders fz st = some (rr, st')) : Met l yX11_orders (Cond.code yX11_orders cX11_orders 1 (some .int) :: TT) (rmD 91) (cPc D cy ad fz [.ref (ad 99)] st sz) (cQi D cy ad fz rr st' sz) 0 0 (cA ad fz sz) := by
  refine c_meti (by decide) hJ (Nat.le_of_ble_eq_true rfl) (fun p e s m args below meth c ls E hx hb hr hlocks hown hT hD hN hl hP hS => ?_)
  replace hl : lv_has ls 1 [(0, .ref (ad 99))] := hl
  unfold fX11_orders at hf
  have B72 : ∀ (w0 : Int32) (st : St) (H : Heap) (locs : List Loc) (ls : Array Slot), fX11_orders_b72 fz w0 st = some (rr, st') → lv_has ls 1 [] → va_P D classes (cx cy ad fz st) H → va_S (cA ad fz s.heap.size) s.heap H locs → cGi l 91 D cy ad fz rr st' p e s m args below meth c H locs (F0 m 72 ls [.int w0, .ref (ad 99)]) := by
    intro w0 st H locs ls hf hl hP hS
    unfold fX11_orders_b72 at hf
    obtain ⟨r1, st2, hc, hf⟩ := bd_some hf
    refine c_calli (n := 1) (rest := []) E hN hP hS (fun sz => tX11_settle l D cy ad fz hJ sz w0 st r1 st2 hc) (va_recv E.2 hP (ci := 11) (q0 := 0) rfl rfl) (gV k_464 k_466 ks_0 k_1 k_467) qX11_settle ⟨Nat.le_of_ble_eq_true rfl, Nat.le_of_ble_eq_true rfl⟩ ⟨Nat.le_refl _, Nat.le_refl _⟩ rfl hl.1 rfl (Nat.le_of_ble_eq_true rfl) dX11_orders_72 (fun H locs hP hS => ?_)
    exact c_iret hx hb hr hlocks hf hP hS dX11_orders_75
  refine lv_aload_n hx hb dX11_orders_0 rfl (lv_at hl 0 rfl) ?_
  refine lv_aload_n hx hb dX11_orders_1 rfl (lv_at hl 0 rfl) ?_
  refine cg_11_35_0 E hP dX11_orders_2 ?_
  refine lv_iconst (v := 0) hx hb dX11_orders_5 (by decide) ?_
  obtain ⟨r3, st4, hc, hf⟩ := bd_some hf
  refine c_calli (n := 1) (rest := [.ref (ad 99)]) E hN hP hS (fun sz => tX9_read l D cy ad fz hJ sz (0 : Int32) st r3 st4 hc) (va_recv E.2 hP (ci := 9) (q0 := 35) rfl rfl) (gV k_591 k_592 k_593 k_9 k_594) qX9_read ⟨Nat.le_of_ble_eq_true rfl, Nat.le_of_ble_eq_true rfl⟩ ⟨Nat.le_refl _, Nat.le_refl _⟩ rfl hl.1 rfl (Nat.le_of_ble_eq_true rfl) dX11_orders_6 (fun H locs hP hS => ?_)
  refine cp_11_79_0 E hD hP hS dX11_orders_9 (fun st5 H locs ex hP hS => ?_)
  replace hf := lt_at ex hf; clear ex
  refine lv_aload_n hx hb dX11_orders_12 rfl (lv_at hl 0 rfl) ?_
  refine lv_iconst (v := -1) hx hb dX11_orders_13 (by decide) ?_
  refine cp_11_83_0 E hD hP hS dX11_orders_14 (fun st6 H locs ex hP hS => ?_)
  replace hf := lt_at ex hf; clear ex
  refine lv_aload_n hx hb dX11_orders_17 rfl (lv_at hl 0 rfl) ?_
  refine cg_11_23_0 E hP dX11_orders_18 ?_
  refine lv_iconst (v := 0) hx hb dX11_orders_21 (by decide) ?_
  refine cp_11_162_5 E hD hP hS dX11_orders_22 (fun st7 H locs ex hP hS => ?_)
  replace hf := lt_at ex hf; clear ex
  refine lv_aload_n hx hb dX11_orders_25 rfl (lv_at hl 0 rfl) ?_
  refine cg_11_79_0 E hP dX11_orders_26 ?_
  refine lv_iconst (v := -1) hx hb dX11_orders_29 (by decide) ?_
  refine lv_icmp_eq (tgt := 40) hx hb dX11_orders_30 (by decide) (fun hc => ?_) (fun hc => ?_)
  · replace hf := it_pos hc hf
    refine lv_aload_n hx hb dX11_orders_40 rfl (lv_at hl 0 rfl) ?_
    refine lv_aload_n hx hb dX11_orders_41 rfl (lv_at hl 0 rfl) ?_
    refine cg_11_62_0 E hP dX11_orders_42 ?_
    obtain ⟨r8, st9, hc, hf⟩ := bd_some hf
    refine c_calli (n := 0) (rest := [.ref (ad 99)]) E hN hP hS (fun sz => tX7_run l D cy ad fz hJ sz st7 r8 st9 hc) (va_recv E.2 hP (ci := 7) (q0 := 43) rfl rfl) (gV k_792 k_793 k_794 k_12 k_795) qX7_run ⟨Nat.le_of_ble_eq_true rfl, Nat.le_of_ble_eq_true rfl⟩ ⟨Nat.le_refl _, Nat.le_refl _⟩ rfl hl.1 rfl (Nat.le_of_ble_eq_true rfl) dX11_orders_45 (fun H locs hP hS => ?_)
    refine cp_11_83_0 E hD hP hS dX11_orders_48 (fun st10 H locs ex hP hS => ?_)
    replace hf := lt_at ex hf; clear ex
    refine lv_aload_n hx hb dX11_orders_51 rfl (lv_at hl 0 rfl) ?_
    refine lv_aload_n hx hb dX11_orders_52 rfl (lv_at hl 0 rfl) ?_
    refine cg_11_83_0 E hP dX11_orders_53 ?_
    refine lv_iconst (v := -1) hx hb dX11_orders_56 (by decide) ?_
    refine lv_icmp_ne (tgt := 70) hx hb dX11_orders_57 (by decide) (fun hc => ?_) (fun hc => ?_)
    · replace hf := it_neg hc hf
      refine lv_bipush (v := -3) hx hb dX11_orders_70 (by decide) ?_
      exact B72 (-3 : Int32) st10 _ _ ls hf (lv_sub hl [] rfl) hP hS
    · replace hf := it_pos hc hf
      refine lv_aload_n hx hb dX11_orders_60 rfl (lv_at hl 0 rfl) ?_
      refine cg_11_62_0 E hP dX11_orders_61 ?_
      refine cg_11_197_10 E hP dX11_orders_64 ?_
      refine lv_goto (tgt := 72) hx hb dX11_orders_67 (by decide) ?_
      exact B72 (st10.1 1007) st10 _ _ ls hf (lv_sub hl [] rfl) hP hS
  · replace hf := it_neg hc hf
    refine lv_aload_n hx hb dX11_orders_33 rfl (lv_at hl 0 rfl) ?_
    refine lv_bipush (v := -6) hx hb dX11_orders_34 (by decide) ?_
    obtain ⟨r11, st12, hc, hf⟩ := bd_some hf
    refine c_calli (n := 1) (rest := []) E hN hP hS (fun sz => tX11_refuse l D cy ad fz hJ sz (-6 : Int32) st7 r11 st12 hc) (va_recv E.2 hP (ci := 11) (q0 := 0) rfl rfl) (gV k_468 k_470 ks_1 k_1 k_471) qX11_refuse ⟨Nat.le_of_ble_eq_true rfl, Nat.le_of_ble_eq_true rfl⟩ ⟨Nat.le_refl _, Nat.le_refl _⟩ rfl hl.1 rfl (Nat.le_of_ble_eq_true rfl) dX11_orders_36 (fun H locs hP hS => ?_)
    exact c_iret hx hb hr hlocks hf hP hS dX11_orders_39
def fX11_fault (fz : List FP) (st : St) : Option (Int32 × St) := some ((st.1 11), st)
set_option maxHeartbeats 4000000 in
set_option maxRecDepth 100000 in
theorem tX11_fault (l : Launch) (D : va_G) (cy : Nat → ClassId) (ad : Nat → Nat) (fz : List FP) (hJ : (cads ad fz).Nodup) (sz : Nat) (st : St) (rr : Int32) (st' : St) (hf : fX11_fault fz st = some (rr, st')) : Met l yX11_fault (Cond.code yX11_fault cX11_fault 1 (some .int) :: TT) (rmD 0) (cPc D cy ad fz [.ref (ad 99)] st sz) (cQi D cy ad fz rr st' sz) 0 0 (cA ad fz sz) := by
  refine c_meti (by decide) hJ (Nat.le_of_ble_eq_true rfl) (fun p e s m args below meth c ls E hx hb hr hlocks hown hT hD hN hl hP hS => ?_)
  replace hl : lv_has ls 1 [(0, .ref (ad 99))] := hl
  unfold fX11_fault at hf
  refine lv_aload_n hx hb dX11_fault_0 rfl (lv_at hl 0 rfl) ?_
  refine cg_11_79_0 E hP dX11_fault_1 ?_
  exact c_iret hx hb hr hlocks hf hP hS dX11_fault_4
def fX11_stopped (fz : List FP) (st : St) : Option (Int32 × St) := some ((st.1 12), st)
set_option maxHeartbeats 4000000 in
set_option maxRecDepth 100000 in
theorem tX11_stopped (l : Launch) (D : va_G) (cy : Nat → ClassId) (ad : Nat → Nat) (fz : List FP) (hJ : (cads ad fz).Nodup) (sz : Nat) (st : St) (rr : Int32) (st' : St) (hf : fX11_stopped fz st = some (rr, st')) : Met l yX11_stopped (Cond.code yX11_stopped cX11_stopped 1 (some .int) :: TT) (rmD 0) (cPc D cy ad fz [.ref (ad 99)] st sz) (cQi D cy ad fz rr st' sz) 0 0 (cA ad fz sz) := by
  refine c_meti (by decide) hJ (Nat.le_of_ble_eq_true rfl) (fun p e s m args below meth c ls E hx hb hr hlocks hown hT hD hN hl hP hS => ?_)
  replace hl : lv_has ls 1 [(0, .ref (ad 99))] := hl
  unfold fX11_stopped at hf
  refine lv_aload_n hx hb dX11_stopped_0 rfl (lv_at hl 0 rfl) ?_
  refine cg_11_83_0 E hP dX11_stopped_1 ?_
  exact c_iret hx hb hr hlocks hf hP hS dX11_stopped_4
def fX11_force (a0 : Int32) (fz : List FP) (st : St) : Option (Int32 × St) := bs (fX11_within a0 (-1 : Int32) ((st.1 111) - (1 : Int32))) (fun r1 => if r1 = 0 then (bd (fX11_refuse (-2 : Int32) fz st) (fun r5 st6 => some (r5, st6))) else (lt (st.1 112) (fun x2 => lt (sI st 112 a0) (fun st3 => lt (sI st3 9 (0 : Int32)) (fun st4 => some (x2, st4))))))
set_option maxHeartbeats 4000000 in
set_option maxRecDepth 100000 in
theorem tX11_force (l : Launch) (D : va_G) (cy : Nat → ClassId) (ad : Nat → Nat) (fz : List FP) (hJ : (cads ad fz).Nodup) (sz : Nat) (a0 : Int32) (st : St) (rr : Int32) (st' : St) (hf : fX11_force a0 fz st = some (rr, st')) : Met l yX11_force (Cond.code yX11_force cX11_force 3 (some .int) :: TT) (rmD 2) (cPc D cy ad fz [.ref (ad 99), .int a0] st sz) (cQi D cy ad fz rr st' sz) 0 0 (cA ad fz sz) := by
  refine c_meti (by decide) hJ (Nat.le_of_ble_eq_true rfl) (fun p e s m args below meth c ls E hx hb hr hlocks hown hT hD hN hl hP hS => ?_)
  replace hl : lv_has ls 3 [(0, .ref (ad 99)), (1, .int a0)] := hl
  unfold fX11_force at hf
  refine lv_iload_n hx hb dX11_force_0 rfl (lv_at hl 1 rfl) ?_
  refine lv_iconst (v := -1) hx hb dX11_force_1 (by decide) ?_
  refine lv_aload_n hx hb dX11_force_2 rfl (lv_at hl 0 rfl) ?_
  refine cg_11_10_0 E hP dX11_force_3 ?_
  refine cg_11_175_1 E hP dX11_force_6 ?_
  refine lv_iconst (v := 1) hx hb dX11_force_9 (by decide) ?_
  refine lv_isub hx hb dX11_force_10 ?_
  obtain ⟨r1, hc, hf⟩ := bs_some hf
  refine s_calli (n := 3) (rest := []) E.1 (tX11_within l _ a0 (-1 : Int32) ((st.1 111) - (1 : Int32)) r1 hc) (gS k_472 k_458 k_1 k_459) qX11_within ⟨Nat.le_of_ble_eq_true rfl, Nat.le_of_ble_eq_true rfl⟩ ⟨Nat.le_refl _, Nat.le_refl _⟩ rfl hl.1 rfl (Nat.le_of_ble_eq_true rfl) dX11_force_11 ?_
  refine lv_if_ne (tgt := 24) hx hb dX11_force_14 (by decide) (fun hc => ?_) (fun hc => ?_)
  · replace hf := it_neg hc hf
    refine lv_aload_n hx hb dX11_force_24 rfl (lv_at hl 0 rfl) ?_
    refine cg_11_10_0 E hP dX11_force_25 ?_
    refine cg_11_200_1 E hP dX11_force_28 ?_
    refine lv_topi (fun x2 ex => ?_)
    replace hf := lt_at ex hf; clear ex
    refine lv_istore_n (lv' := [(2, .int x2), (0, .ref (ad 99)), (1, .int a0)]) hx hb dX11_force_31 rfl hl (by decide) rfl (fun ls hl => ?_)
    refine lv_aload_n hx hb dX11_force_32 rfl (lv_at hl 1 rfl) ?_
    refine cg_11_10_0 E hP dX11_force_33 ?_
    refine lv_iload_n hx hb dX11_force_36 rfl (lv_at hl 2 rfl) ?_
    refine cp_11_200_1 E hD hP hS dX11_force_37 (fun st3 H locs ex hP hS => ?_)
    replace hf := lt_at ex hf; clear ex
    refine lv_aload_n hx hb dX11_force_40 rfl (lv_at hl 1 rfl) ?_
    refine lv_iconst (v := 0) hx hb dX11_force_41 (by decide) ?_
    refine cp_11_203_0 E hD hP hS dX11_force_42 (fun st4 H locs ex hP hS => ?_)
    replace hf := lt_at ex hf; clear ex
    refine lv_iload_n hx hb dX11_force_45 rfl (lv_at hl 0 rfl) ?_
    exact c_iret hx hb hr hlocks hf hP hS dX11_force_46
  · replace hf := it_pos hc hf
    refine lv_aload_n hx hb dX11_force_17 rfl (lv_at hl 0 rfl) ?_
    refine lv_bipush (v := -2) hx hb dX11_force_18 (by decide) ?_
    obtain ⟨r5, st6, hc, hf⟩ := bd_some hf
    refine c_calli (n := 1) (rest := []) E hN hP hS (fun sz => tX11_refuse l D cy ad fz hJ sz (-2 : Int32) st r5 st6 hc) (va_recv E.2 hP (ci := 11) (q0 := 0) rfl rfl) (gV k_468 k_470 ks_1 k_1 k_471) qX11_refuse ⟨Nat.le_of_ble_eq_true rfl, Nat.le_of_ble_eq_true rfl⟩ ⟨Nat.le_refl _, Nat.le_refl _⟩ rfl hl.1 rfl (Nat.le_of_ble_eq_true rfl) dX11_force_20 (fun H locs hP hS => ?_)
    exact c_iret hx hb hr hlocks hf hP hS dX11_force_23
def fX11_show (a0 : Int32) (a1 : Int32) (fz : List FP) (st : St) : Option (Int32 × St) := bd (fX2_attempt (0 : Int32) a0 a1 fz st) (fun r1 st2 => bd (fX11_settle r1 fz st2) (fun r3 st4 => some (r3, st4)))
set_option maxHeartbeats 4000000 in
set_option maxRecDepth 100000 in
theorem tX11_show (l : Launch) (D : va_G) (cy : Nat → ClassId) (ad : Nat → Nat) (fz : List FP) (hJ : (cads ad fz).Nodup) (sz : Nat) (a0 : Int32) (a1 : Int32) (st : St) (rr : Int32) (st' : St) (hf : fX11_show a0 a1 fz st = some (rr, st')) : Met l yX11_show (Cond.code yX11_show cX11_show 3 (some .int) :: TT) (rmD 6) (cPc D cy ad fz [.ref (ad 99), .int a0, .int a1] st sz) (cQi D cy ad fz rr st' sz) 0 0 (cA ad fz sz) := by
  refine c_meti (by decide) hJ (Nat.le_of_ble_eq_true rfl) (fun p e s m args below meth c ls E hx hb hr hlocks hown hT hD hN hl hP hS => ?_)
  replace hl : lv_has ls 3 [(0, .ref (ad 99)), (1, .int a0), (2, .int a1)] := hl
  unfold fX11_show at hf
  refine lv_aload_n hx hb dX11_show_0 rfl (lv_at hl 0 rfl) ?_
  refine lv_aload_n hx hb dX11_show_1 rfl (lv_at hl 0 rfl) ?_
  refine cg_11_53_0 E hP dX11_show_2 ?_
  refine lv_iconst (v := 0) hx hb dX11_show_5 (by decide) ?_
  refine lv_iload_n hx hb dX11_show_6 rfl (lv_at hl 1 rfl) ?_
  refine lv_iload_n hx hb dX11_show_7 rfl (lv_at hl 2 rfl) ?_
  obtain ⟨r1, st2, hc, hf⟩ := bd_some hf
  refine c_calli (n := 3) (rest := [.ref (ad 99)]) E hN hP hS (fun sz => tX2_attempt l D cy ad fz hJ sz (0 : Int32) a0 a1 st r1 st2 hc) (va_recv E.2 hP (ci := 2) (q0 := 40) rfl rfl) (gV k_868 k_814 k_815 k_11 k_816) qX2_attempt ⟨Nat.le_of_ble_eq_true rfl, Nat.le_of_ble_eq_true rfl⟩ ⟨Nat.le_refl _, Nat.le_refl _⟩ rfl hl.1 rfl (Nat.le_of_ble_eq_true rfl) dX11_show_8 (fun H locs hP hS => ?_)
  obtain ⟨r3, st4, hc, hf⟩ := bd_some hf
  refine c_calli (n := 1) (rest := []) E hN hP hS (fun sz => tX11_settle l D cy ad fz hJ sz r1 st2 r3 st4 hc) (va_recv E.2 hP (ci := 11) (q0 := 0) rfl rfl) (gV k_464 k_466 ks_0 k_1 k_467) qX11_settle ⟨Nat.le_of_ble_eq_true rfl, Nat.le_of_ble_eq_true rfl⟩ ⟨Nat.le_refl _, Nat.le_refl _⟩ rfl hl.1 rfl (Nat.le_of_ble_eq_true rfl) dX11_show_11 (fun H locs hP hS => ?_)
  exact c_iret hx hb hr hlocks hf hP hS dX11_show_14
def fX11_hide (a0 : Int32) (a1 : Int32) (fz : List FP) (st : St) : Option (Int32 × St) := bd (fX2_attempt (1 : Int32) a0 a1 fz st) (fun r1 st2 => bd (fX11_settle r1 fz st2) (fun r3 st4 => some (r3, st4)))
set_option maxHeartbeats 4000000 in
set_option maxRecDepth 100000 in
theorem tX11_hide (l : Launch) (D : va_G) (cy : Nat → ClassId) (ad : Nat → Nat) (fz : List FP) (hJ : (cads ad fz).Nodup) (sz : Nat) (a0 : Int32) (a1 : Int32) (st : St) (rr : Int32) (st' : St) (hf : fX11_hide a0 a1 fz st = some (rr, st')) : Met l yX11_hide (Cond.code yX11_hide cX11_hide 3 (some .int) :: TT) (rmD 6) (cPc D cy ad fz [.ref (ad 99), .int a0, .int a1] st sz) (cQi D cy ad fz rr st' sz) 0 0 (cA ad fz sz) := by
  refine c_meti (by decide) hJ (Nat.le_of_ble_eq_true rfl) (fun p e s m args below meth c ls E hx hb hr hlocks hown hT hD hN hl hP hS => ?_)
  replace hl : lv_has ls 3 [(0, .ref (ad 99)), (1, .int a0), (2, .int a1)] := hl
  unfold fX11_hide at hf
  refine lv_aload_n hx hb dX11_hide_0 rfl (lv_at hl 0 rfl) ?_
  refine lv_aload_n hx hb dX11_hide_1 rfl (lv_at hl 0 rfl) ?_
  refine cg_11_53_0 E hP dX11_hide_2 ?_
  refine lv_iconst (v := 1) hx hb dX11_hide_5 (by decide) ?_
  refine lv_iload_n hx hb dX11_hide_6 rfl (lv_at hl 1 rfl) ?_
  refine lv_iload_n hx hb dX11_hide_7 rfl (lv_at hl 2 rfl) ?_
  obtain ⟨r1, st2, hc, hf⟩ := bd_some hf
  refine c_calli (n := 3) (rest := [.ref (ad 99)]) E hN hP hS (fun sz => tX2_attempt l D cy ad fz hJ sz (1 : Int32) a0 a1 st r1 st2 hc) (va_recv E.2 hP (ci := 2) (q0 := 40) rfl rfl) (gV k_868 k_814 k_815 k_11 k_816) qX2_attempt ⟨Nat.le_of_ble_eq_true rfl, Nat.le_of_ble_eq_true rfl⟩ ⟨Nat.le_refl _, Nat.le_refl _⟩ rfl hl.1 rfl (Nat.le_of_ble_eq_true rfl) dX11_hide_8 (fun H locs hP hS => ?_)
  obtain ⟨r3, st4, hc, hf⟩ := bd_some hf
  refine c_calli (n := 1) (rest := []) E hN hP hS (fun sz => tX11_settle l D cy ad fz hJ sz r1 st2 r3 st4 hc) (va_recv E.2 hP (ci := 11) (q0 := 0) rfl rfl) (gV k_464 k_466 ks_0 k_1 k_467) qX11_settle ⟨Nat.le_of_ble_eq_true rfl, Nat.le_of_ble_eq_true rfl⟩ ⟨Nat.le_refl _, Nat.le_refl _⟩ rfl hl.1 rfl (Nat.le_of_ble_eq_true rfl) dX11_hide_11 (fun H locs hP hS => ?_)
  exact c_iret hx hb hr hlocks hf hP hS dX11_hide_14
def fX11_man (a0 : Int32) (a1 : Int32) (fz : List FP) (st : St) : Option (Int32 × St) := bd (fX2_attempt (2 : Int32) a0 a1 fz st) (fun r1 st2 => bd (fX11_settle r1 fz st2) (fun r3 st4 => some (r3, st4)))
set_option maxHeartbeats 4000000 in
set_option maxRecDepth 100000 in
theorem tX11_man (l : Launch) (D : va_G) (cy : Nat → ClassId) (ad : Nat → Nat) (fz : List FP) (hJ : (cads ad fz).Nodup) (sz : Nat) (a0 : Int32) (a1 : Int32) (st : St) (rr : Int32) (st' : St) (hf : fX11_man a0 a1 fz st = some (rr, st')) : Met l yX11_man (Cond.code yX11_man cX11_man 3 (some .int) :: TT) (rmD 6) (cPc D cy ad fz [.ref (ad 99), .int a0, .int a1] st sz) (cQi D cy ad fz rr st' sz) 0 0 (cA ad fz sz) := by
  refine c_meti (by decide) hJ (Nat.le_of_ble_eq_true rfl) (fun p e s m args below meth c ls E hx hb hr hlocks hown hT hD hN hl hP hS => ?_)
  replace hl : lv_has ls 3 [(0, .ref (ad 99)), (1, .int a0), (2, .int a1)] := hl
  unfold fX11_man at hf
  refine lv_aload_n hx hb dX11_man_0 rfl (lv_at hl 0 rfl) ?_
  refine lv_aload_n hx hb dX11_man_1 rfl (lv_at hl 0 rfl) ?_
  refine cg_11_53_0 E hP dX11_man_2 ?_
  refine lv_iconst (v := 2) hx hb dX11_man_5 (by decide) ?_
  refine lv_iload_n hx hb dX11_man_6 rfl (lv_at hl 1 rfl) ?_
  refine lv_iload_n hx hb dX11_man_7 rfl (lv_at hl 2 rfl) ?_
  obtain ⟨r1, st2, hc, hf⟩ := bd_some hf
  refine c_calli (n := 3) (rest := [.ref (ad 99)]) E hN hP hS (fun sz => tX2_attempt l D cy ad fz hJ sz (2 : Int32) a0 a1 st r1 st2 hc) (va_recv E.2 hP (ci := 2) (q0 := 40) rfl rfl) (gV k_868 k_814 k_815 k_11 k_816) qX2_attempt ⟨Nat.le_of_ble_eq_true rfl, Nat.le_of_ble_eq_true rfl⟩ ⟨Nat.le_refl _, Nat.le_refl _⟩ rfl hl.1 rfl (Nat.le_of_ble_eq_true rfl) dX11_man_8 (fun H locs hP hS => ?_)
  obtain ⟨r3, st4, hc, hf⟩ := bd_some hf
  refine c_calli (n := 1) (rest := []) E hN hP hS (fun sz => tX11_settle l D cy ad fz hJ sz r1 st2 r3 st4 hc) (va_recv E.2 hP (ci := 11) (q0 := 0) rfl rfl) (gV k_464 k_466 ks_0 k_1 k_467) qX11_settle ⟨Nat.le_of_ble_eq_true rfl, Nat.le_of_ble_eq_true rfl⟩ ⟨Nat.le_refl _, Nat.le_refl _⟩ rfl hl.1 rfl (Nat.le_of_ble_eq_true rfl) dX11_man_11 (fun H locs hP hS => ?_)
  exact c_iret hx hb hr hlocks hf hP hS dX11_man_14
def fX11_march (a0 : Int32) (a1 : Int32) (fz : List FP) (st : St) : Option (Int32 × St) := bd (fX2_attempt (3 : Int32) a1 a0 fz st) (fun r1 st2 => bd (fX11_settle r1 fz st2) (fun r3 st4 => some (r3, st4)))
set_option maxHeartbeats 4000000 in
set_option maxRecDepth 100000 in
theorem tX11_march (l : Launch) (D : va_G) (cy : Nat → ClassId) (ad : Nat → Nat) (fz : List FP) (hJ : (cads ad fz).Nodup) (sz : Nat) (a0 : Int32) (a1 : Int32) (st : St) (rr : Int32) (st' : St) (hf : fX11_march a0 a1 fz st = some (rr, st')) : Met l yX11_march (Cond.code yX11_march cX11_march 3 (some .int) :: TT) (rmD 6) (cPc D cy ad fz [.ref (ad 99), .int a0, .int a1] st sz) (cQi D cy ad fz rr st' sz) 0 0 (cA ad fz sz) := by
  refine c_meti (by decide) hJ (Nat.le_of_ble_eq_true rfl) (fun p e s m args below meth c ls E hx hb hr hlocks hown hT hD hN hl hP hS => ?_)
  replace hl : lv_has ls 3 [(0, .ref (ad 99)), (1, .int a0), (2, .int a1)] := hl
  unfold fX11_march at hf
  refine lv_aload_n hx hb dX11_march_0 rfl (lv_at hl 0 rfl) ?_
  refine lv_aload_n hx hb dX11_march_1 rfl (lv_at hl 0 rfl) ?_
  refine cg_11_53_0 E hP dX11_march_2 ?_
  refine lv_iconst (v := 3) hx hb dX11_march_5 (by decide) ?_
  refine lv_iload_n hx hb dX11_march_6 rfl (lv_at hl 2 rfl) ?_
  refine lv_iload_n hx hb dX11_march_7 rfl (lv_at hl 1 rfl) ?_
  obtain ⟨r1, st2, hc, hf⟩ := bd_some hf
  refine c_calli (n := 3) (rest := [.ref (ad 99)]) E hN hP hS (fun sz => tX2_attempt l D cy ad fz hJ sz (3 : Int32) a1 a0 st r1 st2 hc) (va_recv E.2 hP (ci := 2) (q0 := 40) rfl rfl) (gV k_868 k_814 k_815 k_11 k_816) qX2_attempt ⟨Nat.le_of_ble_eq_true rfl, Nat.le_of_ble_eq_true rfl⟩ ⟨Nat.le_refl _, Nat.le_refl _⟩ rfl hl.1 rfl (Nat.le_of_ble_eq_true rfl) dX11_march_8 (fun H locs hP hS => ?_)
  obtain ⟨r3, st4, hc, hf⟩ := bd_some hf
  refine c_calli (n := 1) (rest := []) E hN hP hS (fun sz => tX11_settle l D cy ad fz hJ sz r1 st2 r3 st4 hc) (va_recv E.2 hP (ci := 11) (q0 := 0) rfl rfl) (gV k_464 k_466 ks_0 k_1 k_467) qX11_settle ⟨Nat.le_of_ble_eq_true rfl, Nat.le_of_ble_eq_true rfl⟩ ⟨Nat.le_refl _, Nat.le_refl _⟩ rfl hl.1 rfl (Nat.le_of_ble_eq_true rfl) dX11_march_11 (fun H locs hP hS => ?_)
  exact c_iret hx hb hr hlocks hf hP hS dX11_march_14
def fX2_takeBack_b155 (fz : List FP) (v1 : Int32) (st : St) : Option (Int32 × St) := gi v1 112 (some ((st.2.2.1 902 v1.toNatClampNeg), st))
def fX2_takeBack (fz : List FP) (st : St) : Option (Int32 × St) := if 0 < (st.1 905) then (lt (sI st 905 ((st.1 905) - (1 : Int32))) (fun st1 => lt ((st1.1 905) * (7 : Int32)) (fun x2 => gi (x2 + (1 : Int32)) 112 (lt (st1.2.2.1 902 (x2 + (1 : Int32)).toNatClampNeg) (fun x3 => bd (fX6_has x3 fz st1) (fun r4 st5 => if r4 = 0 then (fX2_takeBack_b155 fz x2 st5) else (gi (x2 + (2 : Int32)) 112 (gi x3 6 (lt (sA st5 200 (upd (st5.2.2.1 200) x3.toNatClampNeg (st5.2.2.1 902 (x2 + (2 : Int32)).toNatClampNeg))) (fun st6 => gi (x2 + (3 : Int32)) 112 (gi x3 6 (lt (sA st6 201 (upd (st6.2.2.1 201) x3.toNatClampNeg (st6.2.2.1 902 (x2 + (3 : Int32)).toNatClampNeg))) (fun st7 => gi (x2 + (4 : Int32)) 112 (gi x3 6 (lt (sA st7 202 (upd (st7.2.2.1 202) x3.toNatClampNeg (st7.2.2.1 902 (x2 + (4 : Int32)).toNatClampNeg))) (fun st8 => gi x3 6 (gi (x2 + (5 : Int32)) 112 (gi (st8.2.2.1 103 x3.toNatClampNeg) 4 (lt (sA st8 203 (upd (st8.2.2.1 203) (st8.2.2.1 103 x3.toNatClampNeg).toNatClampNeg (st8.2.2.1 902 (x2 + (5 : Int32)).toNatClampNeg))) (fun st9 => gi (x2 + (6 : Int32)) 112 (lt (sI st9 204 (st9.2.2.1 902 (x2 + (6 : Int32)).toNatClampNeg)) (fun st10 => fX2_takeBack_b155 fz x2 st10)))))))))))))))))))))) else (some ((-3 : Int32), st))
set_option maxHeartbeats 4000000 in
set_option maxRecDepth 100000 in
theorem tX2_takeBack (l : Launch) (D : va_G) (cy : Nat → ClassId) (ad : Nat → Nat) (fz : List FP) (hJ : (cads ad fz).Nodup) (sz : Nat) (st : St) (rr : Int32) (st' : St) (hf : fX2_takeBack fz st = some (rr, st')) : Met l yX2_takeBack (Cond.code yX2_takeBack cX2_takeBack 3 (some .int) :: TT) (rmD 2) (cPc D cy ad fz [.ref (ad 999)] st sz) (cQi D cy ad fz rr st' sz) 0 0 (cA ad fz sz) := by
  refine c_meti (by decide) hJ (Nat.le_of_ble_eq_true rfl) (fun p e s m args below meth c ls E hx hb hr hlocks hown hT hD hN hl hP hS => ?_)
  replace hl : lv_has ls 3 [(0, .ref (ad 999))] := hl
  unfold fX2_takeBack at hf
  have B155 : ∀ (v1 : Int32) (st : St) (H : Heap) (locs : List Loc) (ls : Array Slot), fX2_takeBack_b155 fz v1 st = some (rr, st') → lv_has ls 3 [(0, .ref (ad 999)), (1, .int v1)] → va_P D classes (cx cy ad fz st) H → va_S (cA ad fz s.heap.size) s.heap H locs → cGi l 2 D cy ad fz rr st' p e s m args below meth c H locs (F0 m 155 ls []) := by
    intro v1 st H locs ls hf hl hP hS
    unfold fX2_takeBack_b155 at hf
    refine lv_aload_n hx hb dX2_takeBack_155 rfl (lv_at hl 0 rfl) ?_
    refine cg_2_11_9 E hP dX2_takeBack_156 ?_
    refine lv_iload_n hx hb dX2_takeBack_159 rfl (lv_at hl 1 rfl) ?_
    obtain ⟨hi, hf⟩ := gi_some hf
    refine cl_902 E hP hi dX2_takeBack_160 ?_
    exact c_iret hx hb hr hlocks hf hP hS dX2_takeBack_161
  refine lv_aload_n hx hb dX2_takeBack_0 rfl (lv_at hl 0 rfl) ?_
  refine cg_2_105_9 E hP dX2_takeBack_1 ?_
  refine lv_if_gt (tgt := 10) hx hb dX2_takeBack_4 (by decide) (fun hc => ?_) (fun hc => ?_)
  · replace hf := it_pos hc hf
    refine lv_aload_n hx hb dX2_takeBack_10 rfl (lv_at hl 0 rfl) ?_
    refine lv_dup hx hb dX2_takeBack_11 rfl ?_
    refine cg_2_105_9 E hP dX2_takeBack_12 ?_
    refine lv_iconst (v := 1) hx hb dX2_takeBack_15 (by decide) ?_
    refine lv_isub hx hb dX2_takeBack_16 ?_
    refine cp_2_105_9 E hD hP hS dX2_takeBack_17 (fun st1 H locs ex hP hS => ?_)
    replace hf := lt_at ex hf; clear ex
    refine lv_aload_n hx hb dX2_takeBack_20 rfl (lv_at hl 0 rfl) ?_
    refine cg_2_105_9 E hP dX2_takeBack_21 ?_
    refine lv_bipush (v := 7) hx hb dX2_takeBack_24 (by decide) ?_
    refine lv_imul hx hb dX2_takeBack_26 ?_
    refine lv_topi (fun x2 ex => ?_)
    replace hf := lt_at ex hf; clear ex
    refine lv_istore_n (lv' := [(1, .int x2), (0, .ref (ad 999))]) hx hb dX2_takeBack_27 rfl hl (by decide) rfl (fun ls hl => ?_)
    refine lv_aload_n hx hb dX2_takeBack_28 rfl (lv_at hl 1 rfl) ?_
    refine cg_2_11_9 E hP dX2_takeBack_29 ?_
    refine lv_iload_n hx hb dX2_takeBack_32 rfl (lv_at hl 0 rfl) ?_
    refine lv_iconst (v := 1) hx hb dX2_takeBack_33 (by decide) ?_
    refine lv_iadd hx hb dX2_takeBack_34 ?_
    obtain ⟨hi, hf⟩ := gi_some hf
    refine cl_902 E hP hi dX2_takeBack_35 ?_
    refine lv_topi (fun x3 ex => ?_)
    replace hf := lt_at ex hf; clear ex
    refine lv_istore_n (lv' := [(2, .int x3), (1, .int x2), (0, .ref (ad 999))]) hx hb dX2_takeBack_36 rfl hl (by decide) rfl (fun ls hl => ?_)
    refine lv_aload_n hx hb dX2_takeBack_37 rfl (lv_at hl 2 rfl) ?_
    refine cg_2_18_9 E hP dX2_takeBack_38 ?_
    refine lv_iload_n hx hb dX2_takeBack_41 rfl (lv_at hl 0 rfl) ?_
    obtain ⟨r4, st5, hc, hf⟩ := bd_some hf
    refine c_calli (n := 1) (rest := []) E hN hP hS (fun sz => tX6_has l D cy ad fz hJ sz x3 st1 r4 st5 hc) (va_recv E.2 hP (ci := 6) (q0 := 3) rfl rfl) (gV k_826 k_478 k_479 k_2 k_480) qX6_has ⟨Nat.le_of_ble_eq_true rfl, Nat.le_of_ble_eq_true rfl⟩ ⟨Nat.le_refl _, Nat.le_refl _⟩ rfl hl.1 rfl (Nat.le_of_ble_eq_true rfl) dX2_takeBack_42 (fun H locs hP hS => ?_)
    refine lv_if_eq (tgt := 155) hx hb dX2_takeBack_45 (by decide) (fun hc => ?_) (fun hc => ?_)
    · replace hf := it_pos hc hf
      exact B155 x2 st5 _ _ ls hf (lv_sub hl [2, 1] rfl) hP hS
    · replace hf := it_neg hc hf
      refine lv_aload_n hx hb dX2_takeBack_48 rfl (lv_at hl 2 rfl) ?_
      refine cg_2_18_9 E hP dX2_takeBack_49 ?_
      refine cg_2_57_1 E hP dX2_takeBack_52 ?_
      refine cg_2_70_2 E hP dX2_takeBack_55 ?_
      refine lv_iload_n hx hb dX2_takeBack_58 rfl (lv_at hl 0 rfl) ?_
      refine lv_aload_n hx hb dX2_takeBack_59 rfl (lv_at hl 2 rfl) ?_
      refine cg_2_11_9 E hP dX2_takeBack_60 ?_
      refine lv_iload_n hx hb dX2_takeBack_63 rfl (lv_at hl 1 rfl) ?_
      refine lv_iconst (v := 2) hx hb dX2_takeBack_64 (by decide) ?_
      refine lv_iadd hx hb dX2_takeBack_65 ?_
      obtain ⟨hi, hf⟩ := gi_some hf
      refine cl_902 E hP hi dX2_takeBack_66 ?_
      obtain ⟨hi, hf⟩ := gi_some hf
      refine cs_200 E hD hP hS hi dX2_takeBack_67 (fun st6 H locs ex hP hS => ?_)
      replace hf := lt_at ex hf; clear ex
      refine lv_aload_n hx hb dX2_takeBack_68 rfl (lv_at hl 2 rfl) ?_
      refine cg_2_18_9 E hP dX2_takeBack_69 ?_
      refine cg_2_57_1 E hP dX2_takeBack_72 ?_
      refine cg_2_73_2 E hP dX2_takeBack_75 ?_
      refine lv_iload_n hx hb dX2_takeBack_78 rfl (lv_at hl 0 rfl) ?_
      refine lv_aload_n hx hb dX2_takeBack_79 rfl (lv_at hl 2 rfl) ?_
      refine cg_2_11_9 E hP dX2_takeBack_80 ?_
      refine lv_iload_n hx hb dX2_takeBack_83 rfl (lv_at hl 1 rfl) ?_
      refine lv_iconst (v := 3) hx hb dX2_takeBack_84 (by decide) ?_
      refine lv_iadd hx hb dX2_takeBack_85 ?_
      obtain ⟨hi, hf⟩ := gi_some hf
      refine cl_902 E hP hi dX2_takeBack_86 ?_
      obtain ⟨hi, hf⟩ := gi_some hf
      refine cs_201 E hD hP hS hi dX2_takeBack_87 (fun st7 H locs ex hP hS => ?_)
      replace hf := lt_at ex hf; clear ex
      refine lv_aload_n hx hb dX2_takeBack_88 rfl (lv_at hl 2 rfl) ?_
      refine cg_2_18_9 E hP dX2_takeBack_89 ?_
      refine cg_2_57_1 E hP dX2_takeBack_92 ?_
      refine cg_2_61_2 E hP dX2_takeBack_95 ?_
      refine lv_iload_n hx hb dX2_takeBack_98 rfl (lv_at hl 0 rfl) ?_
      refine lv_aload_n hx hb dX2_takeBack_99 rfl (lv_at hl 2 rfl) ?_
      refine cg_2_11_9 E hP dX2_takeBack_100 ?_
      refine lv_iload_n hx hb dX2_takeBack_103 rfl (lv_at hl 1 rfl) ?_
      refine lv_iconst (v := 4) hx hb dX2_takeBack_104 (by decide) ?_
      refine lv_iadd hx hb dX2_takeBack_105 ?_
      obtain ⟨hi, hf⟩ := gi_some hf
      refine cl_902 E hP hi dX2_takeBack_106 ?_
      obtain ⟨hi, hf⟩ := gi_some hf
      refine cs_202 E hD hP hS hi dX2_takeBack_107 (fun st8 H locs ex hP hS => ?_)
      replace hf := lt_at ex hf; clear ex
      refine lv_aload_n hx hb dX2_takeBack_108 rfl (lv_at hl 2 rfl) ?_
      refine cg_2_18_9 E hP dX2_takeBack_109 ?_
      refine cg_2_57_1 E hP dX2_takeBack_112 ?_
      refine cg_2_91_2 E hP dX2_takeBack_115 ?_
      refine lv_aload_n hx hb dX2_takeBack_118 rfl (lv_at hl 2 rfl) ?_
      refine cg_2_18_9 E hP dX2_takeBack_119 ?_
      refine cg_2_88_1 E hP dX2_takeBack_122 ?_
      refine lv_iload_n hx hb dX2_takeBack_125 rfl (lv_at hl 0 rfl) ?_
      obtain ⟨hi, hf⟩ := gi_some hf
      refine cl_103 E hP hi dX2_takeBack_126 ?_
      refine lv_aload_n hx hb dX2_takeBack_127 rfl (lv_at hl 2 rfl) ?_
      refine cg_2_11_9 E hP dX2_takeBack_128 ?_
      refine lv_iload_n hx hb dX2_takeBack_131 rfl (lv_at hl 1 rfl) ?_
      refine lv_iconst (v := 5) hx hb dX2_takeBack_132 (by decide) ?_
      refine lv_iadd hx hb dX2_takeBack_133 ?_
      obtain ⟨hi, hf⟩ := gi_some hf
      refine cl_902 E hP hi dX2_takeBack_134 ?_
      obtain ⟨hi, hf⟩ := gi_some hf
      refine cs_203 E hD hP hS hi dX2_takeBack_135 (fun st9 H locs ex hP hS => ?_)
      replace hf := lt_at ex hf; clear ex
      refine lv_aload_n hx hb dX2_takeBack_136 rfl (lv_at hl 2 rfl) ?_
      refine cg_2_18_9 E hP dX2_takeBack_137 ?_
      refine cg_2_57_1 E hP dX2_takeBack_140 ?_
      refine lv_aload_n hx hb dX2_takeBack_143 rfl (lv_at hl 2 rfl) ?_
      refine cg_2_11_9 E hP dX2_takeBack_144 ?_
      refine lv_iload_n hx hb dX2_takeBack_147 rfl (lv_at hl 1 rfl) ?_
      refine lv_bipush (v := 6) hx hb dX2_takeBack_148 (by decide) ?_
      refine lv_iadd hx hb dX2_takeBack_150 ?_
      obtain ⟨hi, hf⟩ := gi_some hf
      refine cl_902 E hP hi dX2_takeBack_151 ?_
      refine cp_2_66_2 E hD hP hS dX2_takeBack_152 (fun st10 H locs ex hP hS => ?_)
      replace hf := lt_at ex hf; clear ex
      exact B155 x2 st10 _ _ ls hf (lv_sub hl [2, 1] rfl) hP hS
  · replace hf := it_neg hc hf
    refine lv_bipush (v := -3) hx hb dX2_takeBack_7 (by decide) ?_
    exact c_iret hx hb hr hlocks hf hP hS dX2_takeBack_9
def fX11_undo (fz : List FP) (st : St) : Option (Int32 × St) := bd (fX2_takeBack fz st) (fun r1 st2 => bd (fX11_settle r1 fz st2) (fun r3 st4 => some (r3, st4)))
set_option maxHeartbeats 4000000 in
set_option maxRecDepth 100000 in
theorem tX11_undo (l : Launch) (D : va_G) (cy : Nat → ClassId) (ad : Nat → Nat) (fz : List FP) (hJ : (cads ad fz).Nodup) (sz : Nat) (st : St) (rr : Int32) (st' : St) (hf : fX11_undo fz st = some (rr, st')) : Met l yX11_undo (Cond.code yX11_undo cX11_undo 1 (some .int) :: TT) (rmD 3) (cPc D cy ad fz [.ref (ad 99)] st sz) (cQi D cy ad fz rr st' sz) 0 0 (cA ad fz sz) := by
  refine c_meti (by decide) hJ (Nat.le_of_ble_eq_true rfl) (fun p e s m args below meth c ls E hx hb hr hlocks hown hT hD hN hl hP hS => ?_)
  replace hl : lv_has ls 1 [(0, .ref (ad 99))] := hl
  unfold fX11_undo at hf
  refine lv_aload_n hx hb dX11_undo_0 rfl (lv_at hl 0 rfl) ?_
  refine lv_aload_n hx hb dX11_undo_1 rfl (lv_at hl 0 rfl) ?_
  refine cg_11_53_0 E hP dX11_undo_2 ?_
  obtain ⟨r1, st2, hc, hf⟩ := bd_some hf
  refine c_calli (n := 0) (rest := [.ref (ad 99)]) E hN hP hS (fun sz => tX2_takeBack l D cy ad fz hJ sz st r1 st2 hc) (va_recv E.2 hP (ci := 2) (q0 := 40) rfl rfl) (gV k_885 k_886 k_887 k_11 k_888) qX2_takeBack ⟨Nat.le_of_ble_eq_true rfl, Nat.le_of_ble_eq_true rfl⟩ ⟨Nat.le_refl _, Nat.le_refl _⟩ rfl hl.1 rfl (Nat.le_of_ble_eq_true rfl) dX11_undo_5 (fun H locs hP hS => ?_)
  obtain ⟨r3, st4, hc, hf⟩ := bd_some hf
  refine c_calli (n := 1) (rest := []) E hN hP hS (fun sz => tX11_settle l D cy ad fz hJ sz r1 st2 r3 st4 hc) (va_recv E.2 hP (ci := 11) (q0 := 0) rfl rfl) (gV k_464 k_466 ks_0 k_1 k_467) qX11_settle ⟨Nat.le_of_ble_eq_true rfl, Nat.le_of_ble_eq_true rfl⟩ ⟨Nat.le_refl _, Nat.le_refl _⟩ rfl hl.1 rfl (Nat.le_of_ble_eq_true rfl) dX11_undo_8 (fun H locs hP hS => ?_)
  exact c_iret hx hb hr hlocks hf hP hS dX11_undo_11
def fX5_together_b4 (fz : List FP) (k4 : Int32 → Int32 → Int32 → St → Option (Int32 × St)) (v1 : Int32) (v2 : Int32) (v3 : Int32) (st : St) : Option (Int32 × St) := if (6 : Int32) ≤ v3 then (some (v2, st)) else (gi v3 6 (lt (v2 + (((v1 >>> (v3 &&& 31)) &&& (1 : Int32)) * (st.2.2.1 802 v3.toNatClampNeg))) (fun x1 => lt (v3 + (1 : Int32)) (fun x2 => k4 v1 x1 x2 st))))
def fX5_together (a0 : Int32) (fz : List FP) (st : St) : Option (Int32 × St) := lp (fun _ _ _ _ => none) (fX5_together_b4 fz) 6000 a0 (0 : Int32) (0 : Int32) st
set_option maxHeartbeats 4000000 in
set_option maxRecDepth 100000 in
theorem tX5_together (l : Launch) (D : va_G) (cy : Nat → ClassId) (ad : Nat → Nat) (fz : List FP) (hJ : (cads ad fz).Nodup) (sz : Nat) (a0 : Int32) (st : St) (rr : Int32) (st' : St) (hf : fX5_together a0 fz st = some (rr, st')) : Met l yX5_together (Cond.code yX5_together cX5_together 4 (some .int) :: TT) (rmD 0) (cPc D cy ad fz [.ref (ad 899), .int a0] st sz) (cQi D cy ad fz rr st' sz) 0 0 (cA ad fz sz) := by
  refine c_meti (by decide) hJ (Nat.le_of_ble_eq_true rfl) (fun p e s m args below meth c ls E hx hb hr hlocks hown hT hD hN hl hP hS => ?_)
  replace hl : lv_has ls 4 [(0, .ref (ad 899)), (1, .int a0)] := hl
  unfold fX5_together at hf
  have L4 : ∀ (n : Nat) (v1 : Int32) (v2 : Int32) (v3 : Int32) (st : St) (H : Heap) (locs : List Loc) (ls : Array Slot), lp (fun _ _ _ _ => none) (fX5_together_b4 fz) n v1 v2 v3 st = some (rr, st') → lv_has ls 4 [(0, .ref (ad 899)), (1, .int v1), (2, .int v2), (3, .int v3)] → va_P D classes (cx cy ad fz st) H → va_S (cA ad fz s.heap.size) s.heap H locs → cGi l 0 D cy ad fz rr st' p e s m args below meth c H locs (F0 m 4 ls []) := by
    intro n
    induction n with
    | zero => intro v1 v2 v3 st H locs ls hf; exact absurd hf (fun h => by cases h)
    | succ n K4 =>
      intro v1 v2 v3 st H locs ls hf hl hP hS
      replace hf : fX5_together_b4 fz (lp (fun _ _ _ _ => none) (fX5_together_b4 fz) n) v1 v2 v3 st = some (rr, st') := hf
      generalize lp (fun _ _ _ _ => none) (fX5_together_b4 fz) n = k4 at hf K4
      unfold fX5_together_b4 at hf
      refine lv_iload_n hx hb dX5_together_4 rfl (lv_at hl 3 rfl) ?_
      refine lv_bipush (v := 6) hx hb dX5_together_5 (by decide) ?_
      refine lv_icmp_ge (tgt := 31) hx hb dX5_together_7 (by decide) (fun hc => ?_) (fun hc => ?_)
      · replace hf := it_pos hc hf
        refine lv_iload_n hx hb dX5_together_31 rfl (lv_at hl 2 rfl) ?_
        exact c_iret hx hb hr hlocks hf hP hS dX5_together_32
      · replace hf := it_neg hc hf
        refine lv_iload_n hx hb dX5_together_10 rfl (lv_at hl 2 rfl) ?_
        refine lv_iload_n hx hb dX5_together_11 rfl (lv_at hl 1 rfl) ?_
        refine lv_iload_n hx hb dX5_together_12 rfl (lv_at hl 3 rfl) ?_
        refine lv_ishr hx hb dX5_together_13 ?_
        refine lv_iconst (v := 1) hx hb dX5_together_14 (by decide) ?_
        refine lv_iand hx hb dX5_together_15 ?_
        refine lv_aload_n hx hb dX5_together_16 rfl (lv_at hl 0 rfl) ?_
        refine cg_5_15_8 E hP dX5_together_17 ?_
        refine lv_iload_n hx hb dX5_together_20 rfl (lv_at hl 3 rfl) ?_
        obtain ⟨hi, hf⟩ := gi_some hf
        refine cl_802 E hP hi dX5_together_21 ?_
        refine lv_imul hx hb dX5_together_22 ?_
        refine lv_iadd hx hb dX5_together_23 ?_
        refine lv_topi (fun x1 ex => ?_)
        replace hf := lt_at ex hf; clear ex
        refine lv_istore_n (lv' := [(2, .int x1), (0, .ref (ad 899)), (1, .int v1), (3, .int v3)]) hx hb dX5_together_24 rfl hl (by decide) rfl (fun ls hl => ?_)
        obtain ⟨x2, ex⟩ : ∃ y : Int32, y = v3 + (1 : Int32) := ⟨_, rfl⟩
        replace hf := lt_at ex hf
        refine lv_iinc (v := x2) (lv' := [(3, .int x2), (2, .int x1), (0, .ref (ad 899)), (1, .int v1)]) hx hb dX5_together_25 hl (k := 3) rfl (by rw [ex]; rfl) (by decide) rfl (fun ls hl => ?_)
        clear ex
        refine lv_goto (tgt := 4) hx hb dX5_together_28 (by decide) ?_
        exact K4 v1 x1 x2 st _ _ ls hf (lv_sub hl [2, 3, 1, 0] rfl) hP hS
  refine lv_iconst (v := 0) hx hb dX5_together_0 (by decide) ?_
  refine lv_istore_n (lv' := [(2, .int (0 : Int32)), (0, .ref (ad 899)), (1, .int a0)]) hx hb dX5_together_1 rfl hl (by decide) rfl (fun ls hl => ?_)
  refine lv_iconst (v := 0) hx hb dX5_together_2 (by decide) ?_
  refine lv_istore_n (lv' := [(3, .int (0 : Int32)), (2, .int (0 : Int32)), (0, .ref (ad 899)), (1, .int a0)]) hx hb dX5_together_3 rfl hl (by decide) rfl (fun ls hl => ?_)
  exact L4 6000 a0 (0 : Int32) (0 : Int32) st _ _ ls hf (lv_sub hl [2, 3, 1, 0] rfl) hP hS
def fX5_cheapestSet_b159 (fz : List FP) (k91 : Int32 → Int32 → Int32 → Int32 → Int32 → Int32 → St → Option (Int32 × St)) (v1 : Int32) (v2 : Int32) (v3 : Int32) (v4 : Int32) (v5 : Int32) (v6 : Int32) (st : St) : Option (Int32 × St) := lt (v6 + (1 : Int32)) (fun x1 => k91 v1 v2 v3 v4 v5 x1 st)
def fX5_cheapestSet_b124 (fz : List FP) (k91 : Int32 → Int32 → Int32 → Int32 → Int32 → Int32 → St → Option (Int32 × St)) (v1 : Int32) (v2 : Int32) (v3 : Int32) (v4 : Int32) (v5 : Int32) (v6 : Int32) (v7 : Int32) (w0 : Int32) (st : St) : Option (Int32 × St) := if (v6 &&& (v3 ^^^ (-1 : Int32))) = 0 then (if w0 = 0 then (fX5_cheapestSet_b159 fz k91 v1 v2 v3 v4 v5 v6 st) else (bd (fX5_turns v1 v2 v6 fz st) (fun r2 st3 => if r2 = 0 then (fX5_cheapestSet_b159 fz k91 v1 v2 v3 v4 v5 v6 st3) else (fX5_cheapestSet_b159 fz k91 v1 v2 v3 v6 v7 v6 st3)))) else (fX5_cheapestSet_b159 fz k91 v1 v2 v3 v4 v5 v6 st)
def fX5_cheapestSet_b119 (fz : List FP) (k91 : Int32 → Int32 → Int32 → Int32 → Int32 → Int32 → St → Option (Int32 × St)) (v1 : Int32) (v2 : Int32) (v3 : Int32) (v4 : Int32) (v5 : Int32) (v6 : Int32) (v7 : Int32) (st : St) : Option (Int32 × St) := fX5_cheapestSet_b124 fz k91 v1 v2 v3 v4 v5 v6 v7 (1 : Int32) st
def fX5_cheapestSet_b91 (fz : List FP) (k91 : Int32 → Int32 → Int32 → Int32 → Int32 → Int32 → St → Option (Int32 × St)) (v1 : Int32) (v2 : Int32) (v3 : Int32) (v4 : Int32) (v5 : Int32) (v6 : Int32) (st : St) : Option (Int32 × St) := if (64 : Int32) ≤ v6 then (some (v4, st)) else (bd (fX5_together v6 fz st) (fun r4 st5 => if v4 = (-1 : Int32) then (fX5_cheapestSet_b119 fz k91 v1 v2 v3 v4 v5 v6 r4 st5) else (if v5 ≤ r4 then (fX5_cheapestSet_b124 fz k91 v1 v2 v3 v4 v5 v6 r4 (0 : Int32) st5) else (fX5_cheapestSet_b119 fz k91 v1 v2 v3 v4 v5 v6 r4 st5))))
def fX5_cheapestSet_b62 (fz : List FP) (k5 : Int32 → Int32 → Int32 → Int32 → St → Option (Int32 × St)) (v1 : Int32) (v2 : Int32) (v3 : Int32) (v4 : Int32) (st : St) : Option (Int32 × St) := bd (fX5_pays v1 v4 fz st) (fun r6 st7 => gi v4 6 (lt (sA st7 802 (upd (st7.2.2.1 802) v4.toNatClampNeg r6)) (fun st8 => lt (v4 + (1 : Int32)) (fun x9 => k5 v1 v2 v3 x9 st8))))
def fX5_cheapestSet_b55 (fz : List FP) (k5 : Int32 → Int32 → Int32 → Int32 → St → Option (Int32 × St)) (v1 : Int32) (v2 : Int32) (v3 : Int32) (v4 : Int32) (st : St) : Option (Int32 × St) := lt (v3 ||| ((1 : Int32) <<< (v4 &&& 31))) (fun x10 => fX5_cheapestSet_b62 fz k5 v1 v2 x10 v4 st)
def fX5_cheapestSet_b38 (fz : List FP) (k5 : Int32 → Int32 → Int32 → Int32 → St → Option (Int32 × St)) (v1 : Int32) (v2 : Int32) (v3 : Int32) (v4 : Int32) (w0 : Int32) (st : St) : Option (Int32 × St) := if w0 = 0 then (bd (fX5_bars v1 v4 fz st) (fun r11 st12 => if r11 = 0 then (fX5_cheapestSet_b55 fz k5 v1 v2 v3 v4 st12) else (fX5_cheapestSet_b62 fz k5 v1 v2 v3 v4 st12))) else (fX5_cheapestSet_b55 fz k5 v1 v2 v3 v4 st)
def fX5_cheapestSet_b5 (fz : List FP) (k5 : Int32 → Int32 → Int32 → Int32 → St → Option (Int32 × St)) (v1 : Int32) (v2 : Int32) (v3 : Int32) (v4 : Int32) (st : St) : Option (Int32 × St) := if (6 : Int32) ≤ v4 then (lp (fun _ _ _ _ _ _ _ => none) (fX5_cheapestSet_b91 fz) 6000 v1 v2 v3 (-1 : Int32) (0 : Int32) (0 : Int32) st) else (gi v1 6 (if (((st.2.2.1 201 v1.toNatClampNeg) >>> (v4 &&& 31)) &&& (1 : Int32)) = (1 : Int32) then (fX5_cheapestSet_b38 fz k5 v1 v2 v3 v4 (1 : Int32) st) else (fX5_cheapestSet_b38 fz k5 v1 v2 v3 v4 (0 : Int32) st)))
def fX5_cheapestSet (a0 : Int32) (a1 : Int32) (fz : List FP) (st : St) : Option (Int32 × St) := lp (fun _ _ _ _ _ => none) (fX5_cheapestSet_b5 fz) 6000 a0 a1 (0 : Int32) (0 : Int32) st
set_option maxHeartbeats 4000000 in
set_option maxRecDepth 100000 in
theorem tX5_cheapestSet (l : Launch) (D : va_G) (cy : Nat → ClassId) (ad : Nat → Nat) (fz : List FP) (hJ : (cads ad fz).Nodup) (sz : Nat) (a0 : Int32) (a1 : Int32) (st : St) (rr : Int32) (st' : St) (hf : fX5_cheapestSet a0 a1 fz st = some (rr, st')) : Met l yX5_cheapestSet (Cond.code yX5_cheapestSet cX5_cheapestSet 9 (some .int) :: TT) (rmD 4) (cPc D cy ad fz [.ref (ad 899), .int a0, .int a1] st sz) (cQi D cy ad fz rr st' sz) 0 0 (cA ad fz sz) := by
  refine c_meti (by decide) hJ (Nat.le_of_ble_eq_true rfl) (fun p e s m args below meth c ls E hx hb hr hlocks hown hT hD hN hl hP hS => ?_)
  replace hl : lv_has ls 9 [(0, .ref (ad 899)), (1, .int a0), (2, .int a1)] := hl
  unfold fX5_cheapestSet at hf
  have L91 : ∀ (n : Nat) (v1 : Int32) (v2 : Int32) (v3 : Int32) (v4 : Int32) (v5 : Int32) (v6 : Int32) (st : St) (H : Heap) (locs : List Loc) (ls : Array Slot), lp (fun _ _ _ _ _ _ _ => none) (fX5_cheapestSet_b91 fz) n v1 v2 v3 v4 v5 v6 st = some (rr, st') → lv_has ls 9 [(0, .ref (ad 899)), (1, .int v1), (2, .int v2), (3, .int v3), (4, .int v4), (5, .int v5), (6, .int v6)] → va_P D classes (cx cy ad fz st) H → va_S (cA ad fz s.heap.size) s.heap H locs → cGi l 4 D cy ad fz rr st' p e s m args below meth c H locs (F0 m 91 ls []) := by
    intro n
    induction n with
    | zero => intro v1 v2 v3 v4 v5 v6 st H locs ls hf; exact absurd hf (fun h => by cases h)
    | succ n K91 =>
      intro v1 v2 v3 v4 v5 v6 st H locs ls hf hl hP hS
      replace hf : fX5_cheapestSet_b91 fz (lp (fun _ _ _ _ _ _ _ => none) (fX5_cheapestSet_b91 fz) n) v1 v2 v3 v4 v5 v6 st = some (rr, st') := hf
      generalize lp (fun _ _ _ _ _ _ _ => none) (fX5_cheapestSet_b91 fz) n = k91 at hf K91
      have B159 : ∀ (v1 : Int32) (v2 : Int32) (v3 : Int32) (v4 : Int32) (v5 : Int32) (v6 : Int32) (st : St) (H : Heap) (locs : List Loc) (ls : Array Slot), fX5_cheapestSet_b159 fz k91 v1 v2 v3 v4 v5 v6 st = some (rr, st') → lv_has ls 9 [(0, .ref (ad 899)), (1, .int v1), (2, .int v2), (3, .int v3), (4, .int v4), (5, .int v5), (6, .int v6)] → va_P D classes (cx cy ad fz st) H → va_S (cA ad fz s.heap.size) s.heap H locs → cGi l 4 D cy ad fz rr st' p e s m args below meth c H locs (F0 m 159 ls []) := by
        intro v1 v2 v3 v4 v5 v6 st H locs ls hf hl hP hS
        unfold fX5_cheapestSet_b159 at hf
        obtain ⟨x1, ex⟩ : ∃ y : Int32, y = v6 + (1 : Int32) := ⟨_, rfl⟩
        replace hf := lt_at ex hf
        refine lv_iinc (v := x1) (lv' := [(6, .int x1), (0, .ref (ad 899)), (1, .int v1), (2, .int v2), (3, .int v3), (4, .int v4), (5, .int v5)]) hx hb dX5_cheapestSet_159 hl (k := 6) rfl (by rw [ex]; rfl) (by decide) rfl (fun ls hl => ?_)
        clear ex
        refine lv_goto (tgt := 91) hx hb dX5_cheapestSet_162 (by decide) ?_
        exact K91 v1 v2 v3 v4 v5 x1 st _ _ ls hf (lv_sub hl [1, 2, 3, 4, 5, 6, 0] rfl) hP hS
      have B124 : ∀ (v1 : Int32) (v2 : Int32) (v3 : Int32) (v4 : Int32) (v5 : Int32) (v6 : Int32) (v7 : Int32) (w0 : Int32) (st : St) (H : Heap) (locs : List Loc) (ls : Array Slot), fX5_cheapestSet_b124 fz k91 v1 v2 v3 v4 v5 v6 v7 w0 st = some (rr, st') → lv_has ls 9 [(0, .ref (ad 899)), (1, .int v1), (2, .int v2), (3, .int v3), (4, .int v4), (5, .int v5), (6, .int v6), (7, .int v7)] → va_P D classes (cx cy ad fz st) H → va_S (cA ad fz s.heap.size) s.heap H locs → cGi l 4 D cy ad fz rr st' p e s m args below meth c H locs (F0 m 124 ls [.int w0]) := by
        intro v1 v2 v3 v4 v5 v6 v7 w0 st H locs ls hf hl hP hS
        unfold fX5_cheapestSet_b124 at hf
        refine lv_istore (lv' := [(8, .int w0), (0, .ref (ad 899)), (1, .int v1), (2, .int v2), (3, .int v3), (4, .int v4), (5, .int v5), (6, .int v6), (7, .int v7)]) hx hb dX5_cheapestSet_124 hl (by decide) rfl (fun ls hl => ?_)
        refine lv_iload hx hb dX5_cheapestSet_126 (lv_at hl 7 rfl) ?_
        refine lv_iload_n hx hb dX5_cheapestSet_128 rfl (lv_at hl 4 rfl) ?_
        refine lv_iconst (v := -1) hx hb dX5_cheapestSet_129 (by decide) ?_
        refine lv_ixor hx hb dX5_cheapestSet_130 ?_
        refine lv_iand hx hb dX5_cheapestSet_131 ?_
        refine lv_if_ne (tgt := 159) hx hb dX5_cheapestSet_132 (by decide) (fun hc => ?_) (fun hc => ?_)
        · replace hf := it_neg hc hf
          exact B159 v1 v2 v3 v4 v5 v6 st _ _ ls hf (lv_sub hl [1, 2, 3, 4, 5, 6, 7] rfl) hP hS
        · replace hf := it_pos hc hf
          refine lv_iload hx hb dX5_cheapestSet_135 (lv_at hl 0 rfl) ?_
          refine lv_if_eq (tgt := 159) hx hb dX5_cheapestSet_137 (by decide) (fun hc => ?_) (fun hc => ?_)
          · replace hf := it_pos hc hf
            exact B159 v1 v2 v3 v4 v5 v6 st _ _ ls hf (lv_sub hl [1, 2, 3, 4, 5, 6, 7] rfl) hP hS
          · replace hf := it_neg hc hf
            refine lv_aload_n hx hb dX5_cheapestSet_140 rfl (lv_at hl 1 rfl) ?_
            refine lv_iload_n hx hb dX5_cheapestSet_141 rfl (lv_at hl 2 rfl) ?_
            refine lv_iload_n hx hb dX5_cheapestSet_142 rfl (lv_at hl 3 rfl) ?_
            refine lv_iload hx hb dX5_cheapestSet_143 (lv_at hl 7 rfl) ?_
            obtain ⟨r2, st3, hc, hf⟩ := bd_some hf
            refine c_calli (n := 3) (rest := []) E hN hP hS (fun sz => tX5_turns l D cy ad fz hJ sz v1 v2 v6 st r2 st3 hc) (va_recv E.2 hP (ci := 5) (q0 := 36) rfl rfl) (gV k_903 k_552 k_553 k_10 k_554) qX5_turns ⟨Nat.le_of_ble_eq_true rfl, Nat.le_of_ble_eq_true rfl⟩ ⟨Nat.le_refl _, Nat.le_refl _⟩ rfl hl.1 rfl (Nat.le_of_ble_eq_true rfl) dX5_cheapestSet_145 (fun H locs hP hS => ?_)
            refine lv_if_eq (tgt := 159) hx hb dX5_cheapestSet_148 (by decide) (fun hc => ?_) (fun hc => ?_)
            · replace hf := it_pos hc hf
              exact B159 v1 v2 v3 v4 v5 v6 st3 _ _ ls hf (lv_sub hl [1, 2, 3, 4, 5, 6, 7] rfl) hP hS
            · replace hf := it_neg hc hf
              refine lv_iload hx hb dX5_cheapestSet_151 (lv_at hl 7 rfl) ?_
              refine lv_istore (lv' := [(4, .int v6), (8, .int w0), (0, .ref (ad 899)), (1, .int v1), (2, .int v2), (3, .int v3), (5, .int v5), (6, .int v6), (7, .int v7)]) hx hb dX5_cheapestSet_153 hl (by decide) rfl (fun ls hl => ?_)
              refine lv_iload hx hb dX5_cheapestSet_155 (lv_at hl 8 rfl) ?_
              refine lv_istore (lv' := [(5, .int v7), (4, .int v6), (8, .int w0), (0, .ref (ad 899)), (1, .int v1), (2, .int v2), (3, .int v3), (6, .int v6), (7, .int v7)]) hx hb dX5_cheapestSet_157 hl (by decide) rfl (fun ls hl => ?_)
              exact B159 v1 v2 v3 v6 v7 v6 st3 _ _ ls hf (lv_sub hl [3, 4, 5, 6, 1, 0, 7] rfl) hP hS
      have B119 : ∀ (v1 : Int32) (v2 : Int32) (v3 : Int32) (v4 : Int32) (v5 : Int32) (v6 : Int32) (v7 : Int32) (st : St) (H : Heap) (locs : List Loc) (ls : Array Slot), fX5_cheapestSet_b119 fz k91 v1 v2 v3 v4 v5 v6 v7 st = some (rr, st') → lv_has ls 9 [(0, .ref (ad 899)), (1, .int v1), (2, .int v2), (3, .int v3), (4, .int v4), (5, .int v5), (6, .int v6), (7, .int v7)] → va_P D classes (cx cy ad fz st) H → va_S (cA ad fz s.heap.size) s.heap H locs → cGi l 4 D cy ad fz rr st' p e s m args below meth c H locs (F0 m 119 ls []) := by
        intro v1 v2 v3 v4 v5 v6 v7 st H locs ls hf hl hP hS
        unfold fX5_cheapestSet_b119 at hf
        refine lv_iconst (v := 1) hx hb dX5_cheapestSet_119 (by decide) ?_
        refine lv_goto (tgt := 124) hx hb dX5_cheapestSet_120 (by decide) ?_
        exact B124 v1 v2 v3 v4 v5 v6 v7 (1 : Int32) st _ _ ls hf hl hP hS
      unfold fX5_cheapestSet_b91 at hf
      refine lv_iload hx hb dX5_cheapestSet_91 (lv_at hl 6 rfl) ?_
      refine lv_bipush (v := 64) hx hb dX5_cheapestSet_93 (by decide) ?_
      refine lv_icmp_ge (tgt := 165) hx hb dX5_cheapestSet_95 (by decide) (fun hc => ?_) (fun hc => ?_)
      · replace hf := it_pos hc hf
        refine lv_iload hx hb dX5_cheapestSet_165 (lv_at hl 4 rfl) ?_
        exact c_iret hx hb hr hlocks hf hP hS dX5_cheapestSet_167
      · replace hf := it_neg hc hf
        refine lv_aload_n hx hb dX5_cheapestSet_98 rfl (lv_at hl 0 rfl) ?_
        refine lv_iload hx hb dX5_cheapestSet_99 (lv_at hl 6 rfl) ?_
        obtain ⟨r4, st5, hc, hf⟩ := bd_some hf
        refine c_calli (n := 1) (rest := []) E hN hP hS (fun sz => tX5_together l D cy ad fz hJ sz v6 st r4 st5 hc) (va_recv E.2 hP (ci := 5) (q0 := 36) rfl rfl) (gV k_899 k_901 ks_27 k_10 k_902) qX5_together ⟨Nat.le_of_ble_eq_true rfl, Nat.le_of_ble_eq_true rfl⟩ ⟨Nat.le_refl _, Nat.le_refl _⟩ rfl hl.1 rfl (Nat.le_of_ble_eq_true rfl) dX5_cheapestSet_101 (fun H locs hP hS => ?_)
        refine lv_istore (lv' := [(7, .int r4), (0, .ref (ad 899)), (1, .int v1), (2, .int v2), (3, .int v3), (4, .int v4), (5, .int v5), (6, .int v6)]) hx hb dX5_cheapestSet_104 hl (by decide) rfl (fun ls hl => ?_)
        refine lv_iload hx hb dX5_cheapestSet_106 (lv_at hl 5 rfl) ?_
        refine lv_iconst (v := -1) hx hb dX5_cheapestSet_108 (by decide) ?_
        refine lv_icmp_eq (tgt := 119) hx hb dX5_cheapestSet_109 (by decide) (fun hc => ?_) (fun hc => ?_)
        · replace hf := it_pos hc hf
          exact B119 v1 v2 v3 v4 v5 v6 r4 st5 _ _ ls hf (lv_sub hl [1, 2, 3, 4, 5, 6, 7, 0] rfl) hP hS
        · replace hf := it_neg hc hf
          refine lv_iload hx hb dX5_cheapestSet_112 (lv_at hl 0 rfl) ?_
          refine lv_iload hx hb dX5_cheapestSet_114 (lv_at hl 6 rfl) ?_
          refine lv_icmp_ge (tgt := 123) hx hb dX5_cheapestSet_116 (by decide) (fun hc => ?_) (fun hc => ?_)
          · replace hf := it_pos hc hf
            refine lv_iconst (v := 0) hx hb dX5_cheapestSet_123 (by decide) ?_
            exact B124 v1 v2 v3 v4 v5 v6 r4 (0 : Int32) st5 _ _ ls hf (lv_sub hl [1, 2, 3, 4, 5, 6, 7, 0] rfl) hP hS
          · replace hf := it_neg hc hf
            exact B119 v1 v2 v3 v4 v5 v6 r4 st5 _ _ ls hf (lv_sub hl [1, 2, 3, 4, 5, 6, 7, 0] rfl) hP hS
  have L5 : ∀ (n : Nat) (v1 : Int32) (v2 : Int32) (v3 : Int32) (v4 : Int32) (st : St) (H : Heap) (locs : List Loc) (ls : Array Slot), lp (fun _ _ _ _ _ => none) (fX5_cheapestSet_b5 fz) n v1 v2 v3 v4 st = some (rr, st') → lv_has ls 9 [(0, .ref (ad 899)), (1, .int v1), (2, .int v2), (3, .int v3), (4, .int v4)] → va_P D classes (cx cy ad fz st) H → va_S (cA ad fz s.heap.size) s.heap H locs → cGi l 4 D cy ad fz rr st' p e s m args below meth c H locs (F0 m 5 ls []) := by
    intro n
    induction n with
    | zero => intro v1 v2 v3 v4 st H locs ls hf; exact absurd hf (fun h => by cases h)
    | succ n K5 =>
      intro v1 v2 v3 v4 st H locs ls hf hl hP hS
      replace hf : fX5_cheapestSet_b5 fz (lp (fun _ _ _ _ _ => none) (fX5_cheapestSet_b5 fz) n) v1 v2 v3 v4 st = some (rr, st') := hf
      generalize lp (fun _ _ _ _ _ => none) (fX5_cheapestSet_b5 fz) n = k5 at hf K5
      have B62 : ∀ (v1 : Int32) (v2 : Int32) (v3 : Int32) (v4 : Int32) (st : St) (H : Heap) (locs : List Loc) (ls : Array Slot), fX5_cheapestSet_b62 fz k5 v1 v2 v3 v4 st = some (rr, st') → lv_has ls 9 [(0, .ref (ad 899)), (1, .int v1), (2, .int v2), (3, .int v3), (4, .int v4)] → va_P D classes (cx cy ad fz st) H → va_S (cA ad fz s.heap.size) s.heap H locs → cGi l 4 D cy ad fz rr st' p e s m args below meth c H locs (F0 m 62 ls []) := by
        intro v1 v2 v3 v4 st H locs ls hf hl hP hS
        unfold fX5_cheapestSet_b62 at hf
        refine lv_aload_n hx hb dX5_cheapestSet_62 rfl (lv_at hl 0 rfl) ?_
        refine cg_5_15_8 E hP dX5_cheapestSet_63 ?_
        refine lv_iload hx hb dX5_cheapestSet_66 (lv_at hl 4 rfl) ?_
        refine lv_aload_n hx hb dX5_cheapestSet_68 rfl (lv_at hl 0 rfl) ?_
        refine lv_iload_n hx hb dX5_cheapestSet_69 rfl (lv_at hl 1 rfl) ?_
        refine lv_iload hx hb dX5_cheapestSet_70 (lv_at hl 4 rfl) ?_
        obtain ⟨r6, st7, hc, hf⟩ := bd_some hf
        refine c_calli (n := 2) (rest := [.int v4, .ref (ad 802)]) E hN hP hS (fun sz => tX5_pays l D cy ad fz hJ sz v1 v4 st r6 st7 hc) (va_recv E.2 hP (ci := 5) (q0 := 36) rfl rfl) (gV k_898 k_505 k_506 k_10 k_507) qX5_pays ⟨Nat.le_of_ble_eq_true rfl, Nat.le_of_ble_eq_true rfl⟩ ⟨Nat.le_refl _, Nat.le_refl _⟩ rfl hl.1 rfl (Nat.le_of_ble_eq_true rfl) dX5_cheapestSet_72 (fun H locs hP hS => ?_)
        obtain ⟨hi, hf⟩ := gi_some hf
        refine cs_802 E hD hP hS hi dX5_cheapestSet_75 (fun st8 H locs ex hP hS => ?_)
        replace hf := lt_at ex hf; clear ex
        obtain ⟨x9, ex⟩ : ∃ y : Int32, y = v4 + (1 : Int32) := ⟨_, rfl⟩
        replace hf := lt_at ex hf
        refine lv_iinc (v := x9) (lv' := [(4, .int x9), (0, .ref (ad 899)), (1, .int v1), (2, .int v2), (3, .int v3)]) hx hb dX5_cheapestSet_76 hl (k := 4) rfl (by rw [ex]; rfl) (by decide) rfl (fun ls hl => ?_)
        clear ex
        refine lv_goto (tgt := 5) hx hb dX5_cheapestSet_79 (by decide) ?_
        exact K5 v1 v2 v3 x9 st8 _ _ ls hf (lv_sub hl [1, 2, 3, 4, 0] rfl) hP hS
      have B55 : ∀ (v1 : Int32) (v2 : Int32) (v3 : Int32) (v4 : Int32) (st : St) (H : Heap) (locs : List Loc) (ls : Array Slot), fX5_cheapestSet_b55 fz k5 v1 v2 v3 v4 st = some (rr, st') → lv_has ls 9 [(0, .ref (ad 899)), (1, .int v1), (2, .int v2), (3, .int v3), (4, .int v4)] → va_P D classes (cx cy ad fz st) H → va_S (cA ad fz s.heap.size) s.heap H locs → cGi l 4 D cy ad fz rr st' p e s m args below meth c H locs (F0 m 55 ls []) := by
        intro v1 v2 v3 v4 st H locs ls hf hl hP hS
        unfold fX5_cheapestSet_b55 at hf
        refine lv_iload_n hx hb dX5_cheapestSet_55 rfl (lv_at hl 3 rfl) ?_
        refine lv_iconst (v := 1) hx hb dX5_cheapestSet_56 (by decide) ?_
        refine lv_iload hx hb dX5_cheapestSet_57 (lv_at hl 4 rfl) ?_
        refine lv_ishl hx hb dX5_cheapestSet_59 ?_
        refine lv_ior hx hb dX5_cheapestSet_60 ?_
        refine lv_topi (fun x10 ex => ?_)
        replace hf := lt_at ex hf; clear ex
        refine lv_istore_n (lv' := [(3, .int x10), (0, .ref (ad 899)), (1, .int v1), (2, .int v2), (4, .int v4)]) hx hb dX5_cheapestSet_61 rfl hl (by decide) rfl (fun ls hl => ?_)
        exact B62 v1 v2 x10 v4 st _ _ ls hf (lv_sub hl [1, 2, 3, 0, 4] rfl) hP hS
      have B38 : ∀ (v1 : Int32) (v2 : Int32) (v3 : Int32) (v4 : Int32) (w0 : Int32) (st : St) (H : Heap) (locs : List Loc) (ls : Array Slot), fX5_cheapestSet_b38 fz k5 v1 v2 v3 v4 w0 st = some (rr, st') → lv_has ls 9 [(0, .ref (ad 899)), (1, .int v1), (2, .int v2), (3, .int v3), (4, .int v4)] → va_P D classes (cx cy ad fz st) H → va_S (cA ad fz s.heap.size) s.heap H locs → cGi l 4 D cy ad fz rr st' p e s m args below meth c H locs (F0 m 38 ls [.int w0]) := by
        intro v1 v2 v3 v4 w0 st H locs ls hf hl hP hS
        unfold fX5_cheapestSet_b38 at hf
        refine lv_istore (lv' := [(5, .int w0), (0, .ref (ad 899)), (1, .int v1), (2, .int v2), (3, .int v3), (4, .int v4)]) hx hb dX5_cheapestSet_38 hl (by decide) rfl (fun ls hl => ?_)
        refine lv_iload hx hb dX5_cheapestSet_40 (lv_at hl 0 rfl) ?_
        refine lv_if_ne (tgt := 55) hx hb dX5_cheapestSet_42 (by decide) (fun hc => ?_) (fun hc => ?_)
        · replace hf := it_neg hc hf
          exact B55 v1 v2 v3 v4 st _ _ ls hf (lv_sub hl [1, 2, 3, 4, 5] rfl) hP hS
        · replace hf := it_pos hc hf
          refine lv_aload_n hx hb dX5_cheapestSet_45 rfl (lv_at hl 1 rfl) ?_
          refine lv_iload_n hx hb dX5_cheapestSet_46 rfl (lv_at hl 2 rfl) ?_
          refine lv_iload hx hb dX5_cheapestSet_47 (lv_at hl 5 rfl) ?_
          obtain ⟨r11, st12, hc, hf⟩ := bd_some hf
          refine c_calli (n := 2) (rest := []) E hN hP hS (fun sz => tX5_bars l D cy ad fz hJ sz v1 v4 st r11 st12 hc) (va_recv E.2 hP (ci := 5) (q0 := 36) rfl rfl) (gV k_897 k_540 k_541 k_10 k_542) qX5_bars ⟨Nat.le_of_ble_eq_true rfl, Nat.le_of_ble_eq_true rfl⟩ ⟨Nat.le_refl _, Nat.le_refl _⟩ rfl hl.1 rfl (Nat.le_of_ble_eq_true rfl) dX5_cheapestSet_49 (fun H locs hP hS => ?_)
          refine lv_if_ne (tgt := 62) hx hb dX5_cheapestSet_52 (by decide) (fun hc => ?_) (fun hc => ?_)
          · replace hf := it_neg hc hf
            exact B62 v1 v2 v3 v4 st12 _ _ ls hf (lv_sub hl [1, 2, 3, 4, 5] rfl) hP hS
          · replace hf := it_pos hc hf
            exact B55 v1 v2 v3 v4 st12 _ _ ls hf (lv_sub hl [1, 2, 3, 4, 5] rfl) hP hS
      unfold fX5_cheapestSet_b5 at hf
      refine lv_iload hx hb dX5_cheapestSet_5 (lv_at hl 4 rfl) ?_
      refine lv_bipush (v := 6) hx hb dX5_cheapestSet_7 (by decide) ?_
      refine lv_icmp_ge (tgt := 82) hx hb dX5_cheapestSet_9 (by decide) (fun hc => ?_) (fun hc => ?_)
      · replace hf := it_pos hc hf
        refine lv_iconst (v := -1) hx hb dX5_cheapestSet_82 (by decide) ?_
        refine lv_istore (lv' := [(4, .int (-1 : Int32)), (0, .ref (ad 899)), (1, .int v1), (2, .int v2), (3, .int v3)]) hx hb dX5_cheapestSet_83 hl (by decide) rfl (fun ls hl => ?_)
        refine lv_iconst (v := 0) hx hb dX5_cheapestSet_85 (by decide) ?_
        refine lv_istore (lv' := [(5, .int (0 : Int32)), (4, .int (-1 : Int32)), (0, .ref (ad 899)), (1, .int v1), (2, .int v2), (3, .int v3)]) hx hb dX5_cheapestSet_86 hl (by decide) rfl (fun ls hl => ?_)
        refine lv_iconst (v := 0) hx hb dX5_cheapestSet_88 (by decide) ?_
        refine lv_istore (lv' := [(6, .int (0 : Int32)), (5, .int (0 : Int32)), (4, .int (-1 : Int32)), (0, .ref (ad 899)), (1, .int v1), (2, .int v2), (3, .int v3)]) hx hb dX5_cheapestSet_89 hl (by decide) rfl (fun ls hl => ?_)
        exact L91 6000 v1 v2 v3 (-1 : Int32) (0 : Int32) (0 : Int32) st _ _ ls hf (lv_sub hl [3, 4, 5, 6, 2, 1, 0] rfl) hP hS
      · replace hf := it_neg hc hf
        refine lv_aload_n hx hb dX5_cheapestSet_12 rfl (lv_at hl 0 rfl) ?_
        refine cg_5_24_8 E hP dX5_cheapestSet_13 ?_
        refine cg_5_41_1 E hP dX5_cheapestSet_16 ?_
        refine cg_5_65_2 E hP dX5_cheapestSet_19 ?_
        refine lv_iload_n hx hb dX5_cheapestSet_22 rfl (lv_at hl 1 rfl) ?_
        obtain ⟨hi, hf⟩ := gi_some hf
        refine cl_201 E hP hi dX5_cheapestSet_23 ?_
        refine lv_iload hx hb dX5_cheapestSet_24 (lv_at hl 4 rfl) ?_
        refine lv_ishr hx hb dX5_cheapestSet_26 ?_
        refine lv_iconst (v := 1) hx hb dX5_cheapestSet_27 (by decide) ?_
        refine lv_iand hx hb dX5_cheapestSet_28 ?_
        refine lv_iconst (v := 1) hx hb dX5_cheapestSet_29 (by decide) ?_
        refine lv_icmp_ne (tgt := 37) hx hb dX5_cheapestSet_30 (by decide) (fun hc => ?_) (fun hc => ?_)
        · replace hf := it_neg hc hf
          refine lv_iconst (v := 0) hx hb dX5_cheapestSet_37 (by decide) ?_
          exact B38 v1 v2 v3 v4 (0 : Int32) st _ _ ls hf hl hP hS
        · replace hf := it_pos hc hf
          refine lv_iconst (v := 1) hx hb dX5_cheapestSet_33 (by decide) ?_
          refine lv_goto (tgt := 38) hx hb dX5_cheapestSet_34 (by decide) ?_
          exact B38 v1 v2 v3 v4 (1 : Int32) st _ _ ls hf hl hP hS
  refine lv_iconst (v := 0) hx hb dX5_cheapestSet_0 (by decide) ?_
  refine lv_istore_n (lv' := [(3, .int (0 : Int32)), (0, .ref (ad 899)), (1, .int a0), (2, .int a1)]) hx hb dX5_cheapestSet_1 rfl hl (by decide) rfl (fun ls hl => ?_)
  refine lv_iconst (v := 0) hx hb dX5_cheapestSet_2 (by decide) ?_
  refine lv_istore (lv' := [(4, .int (0 : Int32)), (3, .int (0 : Int32)), (0, .ref (ad 899)), (1, .int a0), (2, .int a1)]) hx hb dX5_cheapestSet_3 hl (by decide) rfl (fun ls hl => ?_)
  exact L5 6000 a0 a1 (0 : Int32) (0 : Int32) st _ _ ls hf (lv_sub hl [2, 3, 4, 1, 0] rfl) hP hS
def fX5_priceOf_b2 (fz : List FP) (k2 : Int32 → Int32 → Int32 → St → Option (Int32 × St)) (v1 : Int32) (v2 : Int32) (v3 : Int32) (st : St) : Option (Int32 × St) := if (6 : Int32) ≤ v3 then (bd (fX5_together v2 fz st) (fun r1 st2 => some (r1, st2))) else (bd (fX5_pays v1 v3 fz st) (fun r3 st4 => gi v3 6 (lt (sA st4 802 (upd (st4.2.2.1 802) v3.toNatClampNeg r3)) (fun st5 => lt (v3 + (1 : Int32)) (fun x6 => k2 v1 v2 x6 st5)))))
def fX5_priceOf (a0 : Int32) (a1 : Int32) (fz : List FP) (st : St) : Option (Int32 × St) := lp (fun _ _ _ _ => none) (fX5_priceOf_b2 fz) 6000 a0 a1 (0 : Int32) st
set_option maxHeartbeats 4000000 in
set_option maxRecDepth 100000 in
theorem tX5_priceOf (l : Launch) (D : va_G) (cy : Nat → ClassId) (ad : Nat → Nat) (fz : List FP) (hJ : (cads ad fz).Nodup) (sz : Nat) (a0 : Int32) (a1 : Int32) (st : St) (rr : Int32) (st' : St) (hf : fX5_priceOf a0 a1 fz st = some (rr, st')) : Met l yX5_priceOf (Cond.code yX5_priceOf cX5_priceOf 4 (some .int) :: TT) (rmD 4) (cPc D cy ad fz [.ref (ad 899), .int a0, .int a1] st sz) (cQi D cy ad fz rr st' sz) 0 0 (cA ad fz sz) := by
  refine c_meti (by decide) hJ (Nat.le_of_ble_eq_true rfl) (fun p e s m args below meth c ls E hx hb hr hlocks hown hT hD hN hl hP hS => ?_)
  replace hl : lv_has ls 4 [(0, .ref (ad 899)), (1, .int a0), (2, .int a1)] := hl
  unfold fX5_priceOf at hf
  have L2 : ∀ (n : Nat) (v1 : Int32) (v2 : Int32) (v3 : Int32) (st : St) (H : Heap) (locs : List Loc) (ls : Array Slot), lp (fun _ _ _ _ => none) (fX5_priceOf_b2 fz) n v1 v2 v3 st = some (rr, st') → lv_has ls 4 [(0, .ref (ad 899)), (1, .int v1), (2, .int v2), (3, .int v3)] → va_P D classes (cx cy ad fz st) H → va_S (cA ad fz s.heap.size) s.heap H locs → cGi l 4 D cy ad fz rr st' p e s m args below meth c H locs (F0 m 2 ls []) := by
    intro n
    induction n with
    | zero => intro v1 v2 v3 st H locs ls hf; exact absurd hf (fun h => by cases h)
    | succ n K2 =>
      intro v1 v2 v3 st H locs ls hf hl hP hS
      replace hf : fX5_priceOf_b2 fz (lp (fun _ _ _ _ => none) (fX5_priceOf_b2 fz) n) v1 v2 v3 st = some (rr, st') := hf
      generalize lp (fun _ _ _ _ => none) (fX5_priceOf_b2 fz) n = k2 at hf K2
      unfold fX5_priceOf_b2 at hf
      refine lv_iload_n hx hb dX5_priceOf_2 rfl (lv_at hl 3 rfl) ?_
      refine lv_bipush (v := 6) hx hb dX5_priceOf_3 (by decide) ?_
      refine lv_icmp_ge (tgt := 26) hx hb dX5_priceOf_5 (by decide) (fun hc => ?_) (fun hc => ?_)
      · replace hf := it_pos hc hf
        refine lv_aload_n hx hb dX5_priceOf_26 rfl (lv_at hl 0 rfl) ?_
        refine lv_iload_n hx hb dX5_priceOf_27 rfl (lv_at hl 2 rfl) ?_
        obtain ⟨r1, st2, hc, hf⟩ := bd_some hf
        refine c_calli (n := 1) (rest := []) E hN hP hS (fun sz => tX5_together l D cy ad fz hJ sz v2 st r1 st2 hc) (va_recv E.2 hP (ci := 5) (q0 := 36) rfl rfl) (gV k_899 k_901 ks_27 k_10 k_902) qX5_together ⟨Nat.le_of_ble_eq_true rfl, Nat.le_of_ble_eq_true rfl⟩ ⟨Nat.le_refl _, Nat.le_refl _⟩ rfl hl.1 rfl (Nat.le_of_ble_eq_true rfl) dX5_priceOf_28 (fun H locs hP hS => ?_)
        exact c_iret hx hb hr hlocks hf hP hS dX5_priceOf_31
      · replace hf := it_neg hc hf
        refine lv_aload_n hx hb dX5_priceOf_8 rfl (lv_at hl 0 rfl) ?_
        refine cg_5_15_8 E hP dX5_priceOf_9 ?_
        refine lv_iload_n hx hb dX5_priceOf_12 rfl (lv_at hl 3 rfl) ?_
        refine lv_aload_n hx hb dX5_priceOf_13 rfl (lv_at hl 0 rfl) ?_
        refine lv_iload_n hx hb dX5_priceOf_14 rfl (lv_at hl 1 rfl) ?_
        refine lv_iload_n hx hb dX5_priceOf_15 rfl (lv_at hl 3 rfl) ?_
        obtain ⟨r3, st4, hc, hf⟩ := bd_some hf
        refine c_calli (n := 2) (rest := [.int v3, .ref (ad 802)]) E hN hP hS (fun sz => tX5_pays l D cy ad fz hJ sz v1 v3 st r3 st4 hc) (va_recv E.2 hP (ci := 5) (q0 := 36) rfl rfl) (gV k_898 k_505 k_506 k_10 k_507) qX5_pays ⟨Nat.le_of_ble_eq_true rfl, Nat.le_of_ble_eq_true rfl⟩ ⟨Nat.le_refl _, Nat.le_refl _⟩ rfl hl.1 rfl (Nat.le_of_ble_eq_true rfl) dX5_priceOf_16 (fun H locs hP hS => ?_)
        obtain ⟨hi, hf⟩ := gi_some hf
        refine cs_802 E hD hP hS hi dX5_priceOf_19 (fun st5 H locs ex hP hS => ?_)
        replace hf := lt_at ex hf; clear ex
        obtain ⟨x6, ex⟩ : ∃ y : Int32, y = v3 + (1 : Int32) := ⟨_, rfl⟩
        replace hf := lt_at ex hf
        refine lv_iinc (v := x6) (lv' := [(3, .int x6), (0, .ref (ad 899)), (1, .int v1), (2, .int v2)]) hx hb dX5_priceOf_20 hl (k := 3) rfl (by rw [ex]; rfl) (by decide) rfl (fun ls hl => ?_)
        clear ex
        refine lv_goto (tgt := 2) hx hb dX5_priceOf_23 (by decide) ?_
        exact K2 v1 v2 x6 st5 _ _ ls hf (lv_sub hl [1, 2, 3, 0] rfl) hP hS
  refine lv_iconst (v := 0) hx hb dX5_priceOf_0 (by decide) ?_
  refine lv_istore_n (lv' := [(3, .int (0 : Int32)), (0, .ref (ad 899)), (1, .int a0), (2, .int a1)]) hx hb dX5_priceOf_1 rfl hl (by decide) rfl (fun ls hl => ?_)
  exact L2 6000 a0 a1 (0 : Int32) st _ _ ls hf (lv_sub hl [1, 2, 3, 0] rfl) hP hS
def fX11_bluff_b45 (fz : List FP) (st : St) : Option (Int32 × St) := some ((-1 : Int32), st)
def fX11_bluff_b84 (fz : List FP) (w0 : Int32) (st : St) : Option (Int32 × St) := some (w0, st)
def fX11_bluff_b69 (fz : List FP) (v4 : Int32) (st : St) : Option (Int32 × St) := fX11_bluff_b84 fz v4 st
def fX11_bluff (a0 : Int32) (a1 : Int32) (a2 : Int32) (fz : List FP) (st : St) : Option (Int32 × St) := bd (fX6_has a0 fz st) (fun r1 st2 => if r1 = 0 then (fX11_bluff_b45 fz st2) else (bs (fX11_within a1 (1 : Int32) (99 : Int32)) (fun r3 => if r3 = 0 then (fX11_bluff_b45 fz st2) else (bs (fX11_within a2 (0 : Int32) (1 : Int32)) (fun r4 => if r4 = 0 then (fX11_bluff_b45 fz st2) else (gi a0 6 (if (st2.2.2.1 202 a0.toNatClampNeg) = 0 then (bd (fX5_cheapestSet a0 a1 fz st2) (fun r5 st6 => if r5 = (-1 : Int32) then (fX11_bluff_b69 fz r5 st6) else (if a2 = (1 : Int32) then (fX11_bluff_b69 fz r5 st6) else (bd (fX5_priceOf a0 r5 fz st6) (fun r7 st8 => fX11_bluff_b84 fz r7 st8))))) else (fX11_bluff_b45 fz st2))))))))
set_option maxHeartbeats 4000000 in
set_option maxRecDepth 100000 in
theorem tX11_bluff (l : Launch) (D : va_G) (cy : Nat → ClassId) (ad : Nat → Nat) (fz : List FP) (hJ : (cads ad fz).Nodup) (sz : Nat) (a0 : Int32) (a1 : Int32) (a2 : Int32) (st : St) (rr : Int32) (st' : St) (hf : fX11_bluff a0 a1 a2 fz st = some (rr, st')) : Met l yX11_bluff (Cond.code yX11_bluff cX11_bluff 5 (some .int) :: TT) (rmD 5) (cPc D cy ad fz [.ref (ad 99), .int a0, .int a1, .int a2] st sz) (cQi D cy ad fz rr st' sz) 0 0 (cA ad fz sz) := by
  refine c_meti (by decide) hJ (Nat.le_of_ble_eq_true rfl) (fun p e s m args below meth c ls E hx hb hr hlocks hown hT hD hN hl hP hS => ?_)
  replace hl : lv_has ls 5 [(0, .ref (ad 99)), (1, .int a0), (2, .int a1), (3, .int a2)] := hl
  unfold fX11_bluff at hf
  have B45 : ∀ (st : St) (H : Heap) (locs : List Loc) (ls : Array Slot), fX11_bluff_b45 fz st = some (rr, st') → lv_has ls 5 [] → va_P D classes (cx cy ad fz st) H → va_S (cA ad fz s.heap.size) s.heap H locs → cGi l 5 D cy ad fz rr st' p e s m args below meth c H locs (F0 m 45 ls []) := by
    intro st H locs ls hf hl hP hS
    unfold fX11_bluff_b45 at hf
    refine lv_iconst (v := -1) hx hb dX11_bluff_45 (by decide) ?_
    exact c_iret hx hb hr hlocks hf hP hS dX11_bluff_46
  have B84 : ∀ (w0 : Int32) (st : St) (H : Heap) (locs : List Loc) (ls : Array Slot), fX11_bluff_b84 fz w0 st = some (rr, st') → lv_has ls 5 [] → va_P D classes (cx cy ad fz st) H → va_S (cA ad fz s.heap.size) s.heap H locs → cGi l 5 D cy ad fz rr st' p e s m args below meth c H locs (F0 m 84 ls [.int w0]) := by
    intro w0 st H locs ls hf hl hP hS
    unfold fX11_bluff_b84 at hf
    exact c_iret hx hb hr hlocks hf hP hS dX11_bluff_84
  have B69 : ∀ (v4 : Int32) (st : St) (H : Heap) (locs : List Loc) (ls : Array Slot), fX11_bluff_b69 fz v4 st = some (rr, st') → lv_has ls 5 [(4, .int v4)] → va_P D classes (cx cy ad fz st) H → va_S (cA ad fz s.heap.size) s.heap H locs → cGi l 5 D cy ad fz rr st' p e s m args below meth c H locs (F0 m 69 ls []) := by
    intro v4 st H locs ls hf hl hP hS
    unfold fX11_bluff_b69 at hf
    refine lv_iload hx hb dX11_bluff_69 (lv_at hl 0 rfl) ?_
    refine lv_goto (tgt := 84) hx hb dX11_bluff_71 (by decide) ?_
    exact B84 v4 st _ _ ls hf (lv_sub hl [] rfl) hP hS
  refine lv_aload_n hx hb dX11_bluff_0 rfl (lv_at hl 0 rfl) ?_
  refine cg_11_10_0 E hP dX11_bluff_1 ?_
  refine lv_iload_n hx hb dX11_bluff_4 rfl (lv_at hl 1 rfl) ?_
  obtain ⟨r1, st2, hc, hf⟩ := bd_some hf
  refine c_calli (n := 1) (rest := []) E hN hP hS (fun sz => tX6_has l D cy ad fz hJ sz a0 st r1 st2 hc) (va_recv E.2 hP (ci := 6) (q0 := 3) rfl rfl) (gV k_477 k_478 k_479 k_2 k_480) qX6_has ⟨Nat.le_of_ble_eq_true rfl, Nat.le_of_ble_eq_true rfl⟩ ⟨Nat.le_refl _, Nat.le_refl _⟩ rfl hl.1 rfl (Nat.le_of_ble_eq_true rfl) dX11_bluff_5 (fun H locs hP hS => ?_)
  refine lv_if_eq (tgt := 45) hx hb dX11_bluff_8 (by decide) (fun hc => ?_) (fun hc => ?_)
  · replace hf := it_pos hc hf
    exact B45 st2 _ _ ls hf (lv_sub hl [] rfl) hP hS
  · replace hf := it_neg hc hf
    refine lv_iload_n hx hb dX11_bluff_11 rfl (lv_at hl 2 rfl) ?_
    refine lv_iconst (v := 1) hx hb dX11_bluff_12 (by decide) ?_
    refine lv_bipush (v := 99) hx hb dX11_bluff_13 (by decide) ?_
    obtain ⟨r3, hc, hf⟩ := bs_some hf
    refine s_calli (n := 3) (rest := []) E.1 (tX11_within l _ a1 (1 : Int32) (99 : Int32) r3 hc) (gS k_472 k_458 k_1 k_459) qX11_within ⟨Nat.le_of_ble_eq_true rfl, Nat.le_of_ble_eq_true rfl⟩ ⟨Nat.le_refl _, Nat.le_refl _⟩ rfl hl.1 rfl (Nat.le_of_ble_eq_true rfl) dX11_bluff_15 ?_
    refine lv_if_eq (tgt := 45) hx hb dX11_bluff_18 (by decide) (fun hc => ?_) (fun hc => ?_)
    · replace hf := it_pos hc hf
      exact B45 st2 _ _ ls hf (lv_sub hl [] rfl) hP hS
    · replace hf := it_neg hc hf
      refine lv_iload_n hx hb dX11_bluff_21 rfl (lv_at hl 3 rfl) ?_
      refine lv_iconst (v := 0) hx hb dX11_bluff_22 (by decide) ?_
      refine lv_iconst (v := 1) hx hb dX11_bluff_23 (by decide) ?_
      obtain ⟨r4, hc, hf⟩ := bs_some hf
      refine s_calli (n := 3) (rest := []) E.1 (tX11_within l _ a2 (0 : Int32) (1 : Int32) r4 hc) (gS k_472 k_458 k_1 k_459) qX11_within ⟨Nat.le_of_ble_eq_true rfl, Nat.le_of_ble_eq_true rfl⟩ ⟨Nat.le_refl _, Nat.le_refl _⟩ rfl hl.1 rfl (Nat.le_of_ble_eq_true rfl) dX11_bluff_24 ?_
      refine lv_if_eq (tgt := 45) hx hb dX11_bluff_27 (by decide) (fun hc => ?_) (fun hc => ?_)
      · replace hf := it_pos hc hf
        exact B45 st2 _ _ ls hf (lv_sub hl [] rfl) hP hS
      · replace hf := it_neg hc hf
        refine lv_aload_n hx hb dX11_bluff_30 rfl (lv_at hl 0 rfl) ?_
        refine cg_11_10_0 E hP dX11_bluff_31 ?_
        refine cg_11_101_1 E hP dX11_bluff_34 ?_
        refine cg_11_116_2 E hP dX11_bluff_37 ?_
        refine lv_iload_n hx hb dX11_bluff_40 rfl (lv_at hl 1 rfl) ?_
        obtain ⟨hi, hf⟩ := gi_some hf
        refine cl_202 E hP hi dX11_bluff_41 ?_
        refine lv_if_eq (tgt := 47) hx hb dX11_bluff_42 (by decide) (fun hc => ?_) (fun hc => ?_)
        · replace hf := it_pos hc hf
          refine lv_aload_n hx hb dX11_bluff_47 rfl (lv_at hl 0 rfl) ?_
          refine cg_11_44_0 E hP dX11_bluff_48 ?_
          refine lv_iload_n hx hb dX11_bluff_51 rfl (lv_at hl 1 rfl) ?_
          refine lv_iload_n hx hb dX11_bluff_52 rfl (lv_at hl 2 rfl) ?_
          obtain ⟨r5, st6, hc, hf⟩ := bd_some hf
          refine c_calli (n := 2) (rest := []) E hN hP hS (fun sz => tX5_cheapestSet l D cy ad fz hJ sz a0 a1 st2 r5 st6 hc) (va_recv E.2 hP (ci := 5) (q0 := 36) rfl rfl) (gV k_893 k_894 k_895 k_10 k_896) qX5_cheapestSet ⟨Nat.le_of_ble_eq_true rfl, Nat.le_of_ble_eq_true rfl⟩ ⟨Nat.le_refl _, Nat.le_refl _⟩ rfl hl.1 rfl (Nat.le_of_ble_eq_true rfl) dX11_bluff_53 (fun H locs hP hS => ?_)
          refine lv_istore (lv' := [(4, .int r5), (0, .ref (ad 99)), (1, .int a0), (2, .int a1), (3, .int a2)]) hx hb dX11_bluff_56 hl (by decide) rfl (fun ls hl => ?_)
          refine lv_iload hx hb dX11_bluff_58 (lv_at hl 0 rfl) ?_
          refine lv_iconst (v := -1) hx hb dX11_bluff_60 (by decide) ?_
          refine lv_icmp_eq (tgt := 69) hx hb dX11_bluff_61 (by decide) (fun hc => ?_) (fun hc => ?_)
          · replace hf := it_pos hc hf
            exact B69 r5 st6 _ _ ls hf (lv_sub hl [0] rfl) hP hS
          · replace hf := it_neg hc hf
            refine lv_iload_n hx hb dX11_bluff_64 rfl (lv_at hl 4 rfl) ?_
            refine lv_iconst (v := 1) hx hb dX11_bluff_65 (by decide) ?_
            refine lv_icmp_ne (tgt := 74) hx hb dX11_bluff_66 (by decide) (fun hc => ?_) (fun hc => ?_)
            · replace hf := it_neg hc hf
              refine lv_aload_n hx hb dX11_bluff_74 rfl (lv_at hl 1 rfl) ?_
              refine cg_11_44_0 E hP dX11_bluff_75 ?_
              refine lv_iload_n hx hb dX11_bluff_78 rfl (lv_at hl 2 rfl) ?_
              refine lv_iload hx hb dX11_bluff_79 (lv_at hl 0 rfl) ?_
              obtain ⟨r7, st8, hc, hf⟩ := bd_some hf
              refine c_calli (n := 2) (rest := []) E hN hP hS (fun sz => tX5_priceOf l D cy ad fz hJ sz a0 r5 st6 r7 st8 hc) (va_recv E.2 hP (ci := 5) (q0 := 36) rfl rfl) (gV k_904 k_905 k_906 k_10 k_907) qX5_priceOf ⟨Nat.le_of_ble_eq_true rfl, Nat.le_of_ble_eq_true rfl⟩ ⟨Nat.le_refl _, Nat.le_refl _⟩ rfl hl.1 rfl (Nat.le_of_ble_eq_true rfl) dX11_bluff_81 (fun H locs hP hS => ?_)
              exact B84 r7 st8 _ _ ls hf (lv_sub hl [] rfl) hP hS
            · replace hf := it_pos hc hf
              exact B69 r5 st6 _ _ ls hf (lv_sub hl [0] rfl) hP hS
        · replace hf := it_neg hc hf
          exact B45 st2 _ _ ls hf (lv_sub hl [] rfl) hP hS
def fX5_swayOf (a0 : Int32) (a1 : Int32) (fz : List FP) (st : St) : Option (Int32 × St) := gi a0 6 (lt (st.2.2.1 201 a0.toNatClampNeg) (fun x1 => lt ((1 : Int32) <<< (a1 &&& 31)) (fun x2 => bd (fX5_belief a0 (x1 ||| x2) fz st) (fun r3 st4 => bd (fX5_belief a0 (x1 &&& (x2 ^^^ (-1 : Int32))) fz st4) (fun r5 st6 => some ((if 0 ≤ (r3 - r5) then (r3 - r5) else 0 - (r3 - r5)), st6))))))
set_option maxHeartbeats 4000000 in
set_option maxRecDepth 100000 in
theorem tX5_swayOf (l : Launch) (D : va_G) (cy : Nat → ClassId) (ad : Nat → Nat) (fz : List FP) (hJ : (cads ad fz).Nodup) (sz : Nat) (a0 : Int32) (a1 : Int32) (st : St) (rr : Int32) (st' : St) (hf : fX5_swayOf a0 a1 fz st = some (rr, st')) : Met l yX5_swayOf (Cond.code yX5_swayOf cX5_swayOf 5 (some .int) :: TT) (rmD 1) (cPc D cy ad fz [.ref (ad 899), .int a0, .int a1] st sz) (cQi D cy ad fz rr st' sz) 0 0 (cA ad fz sz) := by
  refine c_meti (by decide) hJ (Nat.le_of_ble_eq_true rfl) (fun p e s m args below meth c ls E hx hb hr hlocks hown hT hD hN hl hP hS => ?_)
  replace hl : lv_has ls 5 [(0, .ref (ad 899)), (1, .int a0), (2, .int a1)] := hl
  unfold fX5_swayOf at hf
  refine lv_aload_n hx hb dX5_swayOf_0 rfl (lv_at hl 0 rfl) ?_
  refine cg_5_24_8 E hP dX5_swayOf_1 ?_
  refine cg_5_41_1 E hP dX5_swayOf_4 ?_
  refine cg_5_65_2 E hP dX5_swayOf_7 ?_
  refine lv_iload_n hx hb dX5_swayOf_10 rfl (lv_at hl 1 rfl) ?_
  obtain ⟨hi, hf⟩ := gi_some hf
  refine cl_201 E hP hi dX5_swayOf_11 ?_
  refine lv_topi (fun x1 ex => ?_)
  replace hf := lt_at ex hf; clear ex
  refine lv_istore_n (lv' := [(3, .int x1), (0, .ref (ad 899)), (1, .int a0), (2, .int a1)]) hx hb dX5_swayOf_12 rfl hl (by decide) rfl (fun ls hl => ?_)
  refine lv_iconst (v := 1) hx hb dX5_swayOf_13 (by decide) ?_
  refine lv_iload_n hx hb dX5_swayOf_14 rfl (lv_at hl 3 rfl) ?_
  refine lv_ishl hx hb dX5_swayOf_15 ?_
  refine lv_topi (fun x2 ex => ?_)
  replace hf := lt_at ex hf; clear ex
  refine lv_istore (lv' := [(4, .int x2), (3, .int x1), (0, .ref (ad 899)), (1, .int a0), (2, .int a1)]) hx hb dX5_swayOf_16 hl (by decide) rfl (fun ls hl => ?_)
  refine lv_aload_n hx hb dX5_swayOf_18 rfl (lv_at hl 2 rfl) ?_
  refine lv_iload_n hx hb dX5_swayOf_19 rfl (lv_at hl 3 rfl) ?_
  refine lv_iload_n hx hb dX5_swayOf_20 rfl (lv_at hl 1 rfl) ?_
  refine lv_iload hx hb dX5_swayOf_21 (lv_at hl 0 rfl) ?_
  refine lv_ior hx hb dX5_swayOf_23 ?_
  obtain ⟨r3, st4, hc, hf⟩ := bd_some hf
  refine c_calli (n := 2) (rest := []) E hN hP hS (fun sz => tX5_belief l D cy ad fz hJ sz a0 (x1 ||| x2) st r3 st4 hc) (va_recv E.2 hP (ci := 5) (q0 := 36) rfl rfl) (gV k_550 k_482 k_483 k_10 k_484) qX5_belief ⟨Nat.le_of_ble_eq_true rfl, Nat.le_of_ble_eq_true rfl⟩ ⟨Nat.le_refl _, Nat.le_refl _⟩ rfl hl.1 rfl (Nat.le_of_ble_eq_true rfl) dX5_swayOf_24 (fun H locs hP hS => ?_)
  refine lv_aload_n hx hb dX5_swayOf_27 rfl (lv_at hl 2 rfl) ?_
  refine lv_iload_n hx hb dX5_swayOf_28 rfl (lv_at hl 3 rfl) ?_
  refine lv_iload_n hx hb dX5_swayOf_29 rfl (lv_at hl 1 rfl) ?_
  refine lv_iload hx hb dX5_swayOf_30 (lv_at hl 0 rfl) ?_
  refine lv_iconst (v := -1) hx hb dX5_swayOf_32 (by decide) ?_
  refine lv_ixor hx hb dX5_swayOf_33 ?_
  refine lv_iand hx hb dX5_swayOf_34 ?_
  obtain ⟨r5, st6, hc, hf⟩ := bd_some hf
  refine c_calli (n := 2) (rest := [.int r3]) E hN hP hS (fun sz => tX5_belief l D cy ad fz hJ sz a0 (x1 &&& (x2 ^^^ (-1 : Int32))) st4 r5 st6 hc) (va_recv E.2 hP (ci := 5) (q0 := 36) rfl rfl) (gV k_550 k_482 k_483 k_10 k_484) qX5_belief ⟨Nat.le_of_ble_eq_true rfl, Nat.le_of_ble_eq_true rfl⟩ ⟨Nat.le_refl _, Nat.le_refl _⟩ rfl hl.1 rfl (Nat.le_of_ble_eq_true rfl) dX5_swayOf_35 (fun H locs hP hS => ?_)
  refine lv_isub hx hb dX5_swayOf_38 ?_
  refine va_mabs hx hb (E.1.2.2.1.trans hl.1.symm) hown (hT _ k_916) (hT _ k_917) (hT _ k_15) (hT _ k_918) (Nat.le_of_ble_eq_true rfl) (Nat.le_of_ble_eq_true rfl) (Nat.zero_le _) (Nat.zero_le _) dX5_swayOf_39 ?_
  exact c_iret hx hb hr hlocks hf hP hS dX5_swayOf_42
def fX11_scout_b20 (fz : List FP) (st : St) : Option (Int32 × St) := some ((-1 : Int32), st)
def fX11_scout_b82 (fz : List FP) (w0 : Int32) (st : St) : Option (Int32 × St) := some (w0, st)
def fX11_scout_b59 (fz : List FP) (k27 : Int32 → Int32 → Int32 → Int32 → St → Option (Int32 × St)) (v1 : Int32) (v2 : Int32) (v3 : Int32) (v4 : Int32) (st : St) : Option (Int32 × St) := lt (v4 + (1 : Int32)) (fun x1 => k27 v1 v2 v3 x1 st)
def fX11_scout_b27 (fz : List FP) (k27 : Int32 → Int32 → Int32 → Int32 → St → Option (Int32 × St)) (v1 : Int32) (v2 : Int32) (v3 : Int32) (v4 : Int32) (st : St) : Option (Int32 × St) := if (6 : Int32) ≤ v4 then (if v2 = 0 then (fX11_scout_b82 fz v3 st) else (bd (fX5_swayOf v1 v3 fz st) (fun r2 st3 => fX11_scout_b82 fz r2 st3))) else (bd (fX5_swayOf v1 v4 fz st) (fun r4 st5 => bd (fX5_swayOf v1 v3 fz st5) (fun r6 st7 => if r4 ≤ r6 then (fX11_scout_b59 fz k27 v1 v2 v3 v4 st7) else (fX11_scout_b59 fz k27 v1 v2 v4 v4 st7))))
def fX11_scout (a0 : Int32) (a1 : Int32) (fz : List FP) (st : St) : Option (Int32 × St) := bd (fX6_has a0 fz st) (fun r8 st9 => if r8 = 0 then (fX11_scout_b20 fz st9) else (bs (fX11_within a1 (0 : Int32) (1 : Int32)) (fun r10 => if r10 = 0 then (fX11_scout_b20 fz st9) else (lp (fun _ _ _ _ _ => none) (fX11_scout_b27 fz) 6000 a0 a1 (0 : Int32) (1 : Int32) st9))))
set_option maxHeartbeats 4000000 in
set_option maxRecDepth 100000 in
theorem tX11_scout (l : Launch) (D : va_G) (cy : Nat → ClassId) (ad : Nat → Nat) (fz : List FP) (hJ : (cads ad fz).Nodup) (sz : Nat) (a0 : Int32) (a1 : Int32) (st : St) (rr : Int32) (st' : St) (hf : fX11_scout a0 a1 fz st = some (rr, st')) : Met l yX11_scout (Cond.code yX11_scout cX11_scout 5 (some .int) :: TT) (rmD 2) (cPc D cy ad fz [.ref (ad 99), .int a0, .int a1] st sz) (cQi D cy ad fz rr st' sz) 0 0 (cA ad fz sz) := by
  refine c_meti (by decide) hJ (Nat.le_of_ble_eq_true rfl) (fun p e s m args below meth c ls E hx hb hr hlocks hown hT hD hN hl hP hS => ?_)
  replace hl : lv_has ls 5 [(0, .ref (ad 99)), (1, .int a0), (2, .int a1)] := hl
  unfold fX11_scout at hf
  have B20 : ∀ (st : St) (H : Heap) (locs : List Loc) (ls : Array Slot), fX11_scout_b20 fz st = some (rr, st') → lv_has ls 5 [] → va_P D classes (cx cy ad fz st) H → va_S (cA ad fz s.heap.size) s.heap H locs → cGi l 2 D cy ad fz rr st' p e s m args below meth c H locs (F0 m 20 ls []) := by
    intro st H locs ls hf hl hP hS
    unfold fX11_scout_b20 at hf
    refine lv_iconst (v := -1) hx hb dX11_scout_20 (by decide) ?_
    exact c_iret hx hb hr hlocks hf hP hS dX11_scout_21
  have B82 : ∀ (w0 : Int32) (st : St) (H : Heap) (locs : List Loc) (ls : Array Slot), fX11_scout_b82 fz w0 st = some (rr, st') → lv_has ls 5 [] → va_P D classes (cx cy ad fz st) H → va_S (cA ad fz s.heap.size) s.heap H locs → cGi l 2 D cy ad fz rr st' p e s m args below meth c H locs (F0 m 82 ls [.int w0]) := by
    intro w0 st H locs ls hf hl hP hS
    unfold fX11_scout_b82 at hf
    exact c_iret hx hb hr hlocks hf hP hS dX11_scout_82
  have L27 : ∀ (n : Nat) (v1 : Int32) (v2 : Int32) (v3 : Int32) (v4 : Int32) (st : St) (H : Heap) (locs : List Loc) (ls : Array Slot), lp (fun _ _ _ _ _ => none) (fX11_scout_b27 fz) n v1 v2 v3 v4 st = some (rr, st') → lv_has ls 5 [(0, .ref (ad 99)), (1, .int v1), (2, .int v2), (3, .int v3), (4, .int v4)] → va_P D classes (cx cy ad fz st) H → va_S (cA ad fz s.heap.size) s.heap H locs → cGi l 2 D cy ad fz rr st' p e s m args below meth c H locs (F0 m 27 ls []) := by
    intro n
    induction n with
    | zero => intro v1 v2 v3 v4 st H locs ls hf; exact absurd hf (fun h => by cases h)
    | succ n K27 =>
      intro v1 v2 v3 v4 st H locs ls hf hl hP hS
      replace hf : fX11_scout_b27 fz (lp (fun _ _ _ _ _ => none) (fX11_scout_b27 fz) n) v1 v2 v3 v4 st = some (rr, st') := hf
      generalize lp (fun _ _ _ _ _ => none) (fX11_scout_b27 fz) n = k27 at hf K27
      have B59 : ∀ (v1 : Int32) (v2 : Int32) (v3 : Int32) (v4 : Int32) (st : St) (H : Heap) (locs : List Loc) (ls : Array Slot), fX11_scout_b59 fz k27 v1 v2 v3 v4 st = some (rr, st') → lv_has ls 5 [(0, .ref (ad 99)), (1, .int v1), (2, .int v2), (3, .int v3), (4, .int v4)] → va_P D classes (cx cy ad fz st) H → va_S (cA ad fz s.heap.size) s.heap H locs → cGi l 2 D cy ad fz rr st' p e s m args below meth c H locs (F0 m 59 ls []) := by
        intro v1 v2 v3 v4 st H locs ls hf hl hP hS
        unfold fX11_scout_b59 at hf
        obtain ⟨x1, ex⟩ : ∃ y : Int32, y = v4 + (1 : Int32) := ⟨_, rfl⟩
        replace hf := lt_at ex hf
        refine lv_iinc (v := x1) (lv' := [(4, .int x1), (0, .ref (ad 99)), (1, .int v1), (2, .int v2), (3, .int v3)]) hx hb dX11_scout_59 hl (k := 4) rfl (by rw [ex]; rfl) (by decide) rfl (fun ls hl => ?_)
        clear ex
        refine lv_goto (tgt := 27) hx hb dX11_scout_62 (by decide) ?_
        exact K27 v1 v2 v3 x1 st _ _ ls hf (lv_sub hl [1, 2, 3, 4, 0] rfl) hP hS
      unfold fX11_scout_b27 at hf
      refine lv_iload hx hb dX11_scout_27 (lv_at hl 4 rfl) ?_
      refine lv_bipush (v := 6) hx hb dX11_scout_29 (by decide) ?_
      refine lv_icmp_ge (tgt := 65) hx hb dX11_scout_31 (by decide) (fun hc => ?_) (fun hc => ?_)
      · replace hf := it_pos hc hf
        refine lv_iload_n hx hb dX11_scout_65 rfl (lv_at hl 2 rfl) ?_
        refine lv_if_ne (tgt := 73) hx hb dX11_scout_66 (by decide) (fun hc => ?_) (fun hc => ?_)
        · replace hf := it_neg hc hf
          refine lv_aload_n hx hb dX11_scout_73 rfl (lv_at hl 0 rfl) ?_
          refine cg_11_44_0 E hP dX11_scout_74 ?_
          refine lv_iload_n hx hb dX11_scout_77 rfl (lv_at hl 1 rfl) ?_
          refine lv_iload_n hx hb dX11_scout_78 rfl (lv_at hl 3 rfl) ?_
          obtain ⟨r2, st3, hc, hf⟩ := bd_some hf
          refine c_calli (n := 2) (rest := []) E hN hP hS (fun sz => tX5_swayOf l D cy ad fz hJ sz v1 v3 st r2 st3 hc) (va_recv E.2 hP (ci := 5) (q0 := 36) rfl rfl) (gV k_912 k_913 k_914 k_10 k_915) qX5_swayOf ⟨Nat.le_of_ble_eq_true rfl, Nat.le_of_ble_eq_true rfl⟩ ⟨Nat.le_refl _, Nat.le_refl _⟩ rfl hl.1 rfl (Nat.le_of_ble_eq_true rfl) dX11_scout_79 (fun H locs hP hS => ?_)
          exact B82 r2 st3 _ _ ls hf (lv_sub hl [] rfl) hP hS
        · replace hf := it_pos hc hf
          refine lv_iload_n hx hb dX11_scout_69 rfl (lv_at hl 3 rfl) ?_
          refine lv_goto (tgt := 82) hx hb dX11_scout_70 (by decide) ?_
          exact B82 v3 st _ _ ls hf (lv_sub hl [] rfl) hP hS
      · replace hf := it_neg hc hf
        refine lv_aload_n hx hb dX11_scout_34 rfl (lv_at hl 0 rfl) ?_
        refine cg_11_44_0 E hP dX11_scout_35 ?_
        refine lv_iload_n hx hb dX11_scout_38 rfl (lv_at hl 1 rfl) ?_
        refine lv_iload hx hb dX11_scout_39 (lv_at hl 4 rfl) ?_
        obtain ⟨r4, st5, hc, hf⟩ := bd_some hf
        refine c_calli (n := 2) (rest := []) E hN hP hS (fun sz => tX5_swayOf l D cy ad fz hJ sz v1 v4 st r4 st5 hc) (va_recv E.2 hP (ci := 5) (q0 := 36) rfl rfl) (gV k_912 k_913 k_914 k_10 k_915) qX5_swayOf ⟨Nat.le_of_ble_eq_true rfl, Nat.le_of_ble_eq_true rfl⟩ ⟨Nat.le_refl _, Nat.le_refl _⟩ rfl hl.1 rfl (Nat.le_of_ble_eq_true rfl) dX11_scout_41 (fun H locs hP hS => ?_)
        refine lv_aload_n hx hb dX11_scout_44 rfl (lv_at hl 0 rfl) ?_
        refine cg_11_44_0 E hP dX11_scout_45 ?_
        refine lv_iload_n hx hb dX11_scout_48 rfl (lv_at hl 1 rfl) ?_
        refine lv_iload_n hx hb dX11_scout_49 rfl (lv_at hl 3 rfl) ?_
        obtain ⟨r6, st7, hc, hf⟩ := bd_some hf
        refine c_calli (n := 2) (rest := [.int r4]) E hN hP hS (fun sz => tX5_swayOf l D cy ad fz hJ sz v1 v3 st5 r6 st7 hc) (va_recv E.2 hP (ci := 5) (q0 := 36) rfl rfl) (gV k_912 k_913 k_914 k_10 k_915) qX5_swayOf ⟨Nat.le_of_ble_eq_true rfl, Nat.le_of_ble_eq_true rfl⟩ ⟨Nat.le_refl _, Nat.le_refl _⟩ rfl hl.1 rfl (Nat.le_of_ble_eq_true rfl) dX11_scout_50 (fun H locs hP hS => ?_)
        refine lv_icmp_le (tgt := 59) hx hb dX11_scout_53 (by decide) (fun hc => ?_) (fun hc => ?_)
        · replace hf := it_pos hc hf
          exact B59 v1 v2 v3 v4 st7 _ _ ls hf hl hP hS
        · replace hf := it_neg hc hf
          refine lv_iload hx hb dX11_scout_56 (lv_at hl 4 rfl) ?_
          refine lv_istore_n (lv' := [(3, .int v4), (0, .ref (ad 99)), (1, .int v1), (2, .int v2), (4, .int v4)]) hx hb dX11_scout_58 rfl hl (by decide) rfl (fun ls hl => ?_)
          exact B59 v1 v2 v4 v4 st7 _ _ ls hf (lv_sub hl [1, 2, 3, 0, 4] rfl) hP hS
  refine lv_aload_n hx hb dX11_scout_0 rfl (lv_at hl 0 rfl) ?_
  refine cg_11_10_0 E hP dX11_scout_1 ?_
  refine lv_iload_n hx hb dX11_scout_4 rfl (lv_at hl 1 rfl) ?_
  obtain ⟨r8, st9, hc, hf⟩ := bd_some hf
  refine c_calli (n := 1) (rest := []) E hN hP hS (fun sz => tX6_has l D cy ad fz hJ sz a0 st r8 st9 hc) (va_recv E.2 hP (ci := 6) (q0 := 3) rfl rfl) (gV k_477 k_478 k_479 k_2 k_480) qX6_has ⟨Nat.le_of_ble_eq_true rfl, Nat.le_of_ble_eq_true rfl⟩ ⟨Nat.le_refl _, Nat.le_refl _⟩ rfl hl.1 rfl (Nat.le_of_ble_eq_true rfl) dX11_scout_5 (fun H locs hP hS => ?_)
  refine lv_if_eq (tgt := 20) hx hb dX11_scout_8 (by decide) (fun hc => ?_) (fun hc => ?_)
  · replace hf := it_pos hc hf
    exact B20 st9 _ _ ls hf (lv_sub hl [] rfl) hP hS
  · replace hf := it_neg hc hf
    refine lv_iload_n hx hb dX11_scout_11 rfl (lv_at hl 2 rfl) ?_
    refine lv_iconst (v := 0) hx hb dX11_scout_12 (by decide) ?_
    refine lv_iconst (v := 1) hx hb dX11_scout_13 (by decide) ?_
    obtain ⟨r10, hc, hf⟩ := bs_some hf
    refine s_calli (n := 3) (rest := []) E.1 (tX11_within l _ a1 (0 : Int32) (1 : Int32) r10 hc) (gS k_472 k_458 k_1 k_459) qX11_within ⟨Nat.le_of_ble_eq_true rfl, Nat.le_of_ble_eq_true rfl⟩ ⟨Nat.le_refl _, Nat.le_refl _⟩ rfl hl.1 rfl (Nat.le_of_ble_eq_true rfl) dX11_scout_14 ?_
    refine lv_if_ne (tgt := 22) hx hb dX11_scout_17 (by decide) (fun hc => ?_) (fun hc => ?_)
    · replace hf := it_neg hc hf
      refine lv_iconst (v := 0) hx hb dX11_scout_22 (by decide) ?_
      refine lv_istore_n (lv' := [(3, .int (0 : Int32)), (0, .ref (ad 99)), (1, .int a0), (2, .int a1)]) hx hb dX11_scout_23 rfl hl (by decide) rfl (fun ls hl => ?_)
      refine lv_iconst (v := 1) hx hb dX11_scout_24 (by decide) ?_
      refine lv_istore (lv' := [(4, .int (1 : Int32)), (3, .int (0 : Int32)), (0, .ref (ad 99)), (1, .int a0), (2, .int a1)]) hx hb dX11_scout_25 hl (by decide) rfl (fun ls hl => ?_)
      exact L27 6000 a0 a1 (0 : Int32) (1 : Int32) st9 _ _ ls hf (lv_sub hl [2, 3, 4, 1, 0] rfl) hP hS
    · replace hf := it_pos hc hf
      exact B20 st9 _ _ ls hf (lv_sub hl [] rfl) hP hS
def fX11_holds_b36 (fz : List FP) (st : St) : Option (Int64 × St) := some ((-1 : Int64), st)
def fX11_holds_b112 (fz : List FP) (k112 : Int32 → Int32 → Int64 → Int32 → St → Option (Int64 × St)) (v2 : Int32) (v3 : Int32) (v4 : Int64) (v6 : Int32) (st : St) : Option (Int64 × St) := if v2 ≤ v6 then (some (v4, st)) else (lt ((v4 * (v3.toInt64)) / (10 : Int64)) (fun x1 => lt (v6 + (1 : Int32)) (fun x2 => k112 v2 v3 x1 x2 st)))
def fX11_holds_b98 (fz : List FP) (k46 : Int32 → Int32 → Int32 → Int32 → St → Option (Int64 × St)) (v1 : Int32) (v2 : Int32) (v3 : Int32) (v4 : Int32) (st : St) : Option (Int64 × St) := lt (v4 + (10 : Int32)) (fun x3 => k46 v1 v2 v3 x3 st)
def fX11_holds_b95 (fz : List FP) (k46 : Int32 → Int32 → Int32 → Int32 → St → Option (Int64 × St)) (v1 : Int32) (v2 : Int32) (v3 : Int32) (v4 : Int32) (st : St) : Option (Int64 × St) := lt (v3 + (1 : Int32)) (fun x4 => fX11_holds_b98 fz k46 v1 v2 x4 v4 st)
def fX11_holds_b46 (fz : List FP) (k46 : Int32 → Int32 → Int32 → Int32 → St → Option (Int64 × St)) (v1 : Int32) (v2 : Int32) (v3 : Int32) (v4 : Int32) (st : St) : Option (Int64 × St) := if (99 : Int32) < v4 then (lp (fun _ _ _ _ _ => none) (fX11_holds_b112 fz) 6000 v2 v3 (1000000000000 : Int64) (0 : Int32) st) else (gi v1 6 (if v4 ≤ (st.2.2.1 200 v1.toNatClampNeg) then (fX11_holds_b95 fz k46 v1 v2 v3 v4 st) else (gi v1 6 (bd (fX5_turns v1 v4 (st.2.2.1 201 v1.toNatClampNeg) fz st) (fun r5 st6 => if r5 = 0 then (fX11_holds_b98 fz k46 v1 v2 v3 v4 st6) else (fX11_holds_b95 fz k46 v1 v2 v3 v4 st6))))))
def fX11_holds (a0 : Int32) (a1 : Int32) (fz : List FP) (st : St) : Option (Int64 × St) := bd (fX6_has a0 fz st) (fun r7 st8 => if r7 = 0 then (fX11_holds_b36 fz st8) else (bs (fX11_within a1 (0 : Int32) (30 : Int32)) (fun r9 => if r9 = 0 then (fX11_holds_b36 fz st8) else (gi a0 6 (if (st8.2.2.1 202 a0.toNatClampNeg) = 0 then (lp (fun _ _ _ _ _ => none) (fX11_holds_b46 fz) 6000 a0 a1 (0 : Int32) (9 : Int32) st8) else (fX11_holds_b36 fz st8))))))
set_option maxHeartbeats 4000000 in
set_option maxRecDepth 100000 in
theorem tX11_holds (l : Launch) (D : va_G) (cy : Nat → ClassId) (ad : Nat → Nat) (fz : List FP) (hJ : (cads ad fz).Nodup) (sz : Nat) (a0 : Int32) (a1 : Int32) (st : St) (rr : Int64) (st' : St) (hf : fX11_holds a0 a1 fz st = some (rr, st')) : Met l yX11_holds (Cond.code yX11_holds cX11_holds 7 (some .long) :: TT) (rmD 4) (cPc D cy ad fz [.ref (ad 99), .int a0, .int a1] st sz) (cQl D cy ad fz rr st' sz) 0 0 (cA ad fz sz) := by
  refine c_metl (by decide) hJ (Nat.le_of_ble_eq_true rfl) (fun p e s m args below meth c ls E hx hb hr hlocks hown hT hD hN hl hP hS => ?_)
  replace hl : lv_has ls 7 [(0, .ref (ad 99)), (1, .int a0), (2, .int a1)] := hl
  unfold fX11_holds at hf
  have B36 : ∀ (st : St) (H : Heap) (locs : List Loc) (ls : Array Slot), fX11_holds_b36 fz st = some (rr, st') → lv_has ls 7 [] → va_P D classes (cx cy ad fz st) H → va_S (cA ad fz s.heap.size) s.heap H locs → cGl l 4 D cy ad fz rr st' p e s m args below meth c H locs (F0 m 36 ls []) := by
    intro st H locs ls hf hl hP hS
    unfold fX11_holds_b36 at hf
    refine lv_ldc2 (v := -1) hx hb hown (hT _ k_923) dX11_holds_36 ?_
    exact c_lret hx hb hr hlocks hf hP hS dX11_holds_39
  have L112 : ∀ (n : Nat) (v2 : Int32) (v3 : Int32) (v4 : Int64) (v6 : Int32) (st : St) (H : Heap) (locs : List Loc) (ls : Array Slot), lp (fun _ _ _ _ _ => none) (fX11_holds_b112 fz) n v2 v3 v4 v6 st = some (rr, st') → lv_has ls 7 [(2, .int v2), (3, .int v3), (4, .long v4), (6, .int v6)] → va_P D classes (cx cy ad fz st) H → va_S (cA ad fz s.heap.size) s.heap H locs → cGl l 4 D cy ad fz rr st' p e s m args below meth c H locs (F0 m 112 ls []) := by
    intro n
    induction n with
    | zero => intro v2 v3 v4 v6 st H locs ls hf; exact absurd hf (fun h => by cases h)
    | succ n K112 =>
      intro v2 v3 v4 v6 st H locs ls hf hl hP hS
      replace hf : fX11_holds_b112 fz (lp (fun _ _ _ _ _ => none) (fX11_holds_b112 fz) n) v2 v3 v4 v6 st = some (rr, st') := hf
      generalize lp (fun _ _ _ _ _ => none) (fX11_holds_b112 fz) n = k112 at hf K112
      unfold fX11_holds_b112 at hf
      refine lv_iload hx hb dX11_holds_112 (lv_at hl 3 rfl) ?_
      refine lv_iload_n hx hb dX11_holds_114 rfl (lv_at hl 0 rfl) ?_
      refine lv_icmp_ge (tgt := 135) hx hb dX11_holds_115 (by decide) (fun hc => ?_) (fun hc => ?_)
      · replace hf := it_pos hc hf
        refine lv_lload hx hb dX11_holds_135 (lv_at hl 2 rfl) ?_
        exact c_lret hx hb hr hlocks hf hP hS dX11_holds_137
      · replace hf := it_neg hc hf
        refine lv_lload hx hb dX11_holds_118 (lv_at hl 2 rfl) ?_
        refine lv_iload_n hx hb dX11_holds_120 rfl (lv_at hl 1 rfl) ?_
        refine lv_i2l (v := v3.toInt64) hx hb dX11_holds_121 rfl ?_
        refine lv_lmul hx hb dX11_holds_122 ?_
        refine lv_ldc2 (v := 10) hx hb hown (hT _ k_925) dX11_holds_123 ?_
        refine lv_ldiv hx hb dX11_holds_126 (by decide) ?_
        refine lv_topl (fun x1 ex => ?_)
        replace hf := lt_at ex hf; clear ex
        refine lv_lstore (lv' := [(4, .long x1), (2, .int v2), (3, .int v3), (6, .int v6)]) hx hb dX11_holds_127 hl (by decide) rfl (fun ls hl => ?_)
        obtain ⟨x2, ex⟩ : ∃ y : Int32, y = v6 + (1 : Int32) := ⟨_, rfl⟩
        replace hf := lt_at ex hf
        refine lv_iinc (v := x2) (lv' := [(6, .int x2), (4, .long x1), (2, .int v2), (3, .int v3)]) hx hb dX11_holds_129 hl (k := 3) rfl (by rw [ex]; rfl) (by decide) rfl (fun ls hl => ?_)
        clear ex
        refine lv_goto (tgt := 112) hx hb dX11_holds_132 (by decide) ?_
        exact K112 v2 v3 x1 x2 st _ _ ls hf (lv_sub hl [2, 3, 1, 0] rfl) hP hS
  have L46 : ∀ (n : Nat) (v1 : Int32) (v2 : Int32) (v3 : Int32) (v4 : Int32) (st : St) (H : Heap) (locs : List Loc) (ls : Array Slot), lp (fun _ _ _ _ _ => none) (fX11_holds_b46 fz) n v1 v2 v3 v4 st = some (rr, st') → lv_has ls 7 [(0, .ref (ad 99)), (1, .int v1), (2, .int v2), (3, .int v3), (4, .int v4)] → va_P D classes (cx cy ad fz st) H → va_S (cA ad fz s.heap.size) s.heap H locs → cGl l 4 D cy ad fz rr st' p e s m args below meth c H locs (F0 m 46 ls []) := by
    intro n
    induction n with
    | zero => intro v1 v2 v3 v4 st H locs ls hf; exact absurd hf (fun h => by cases h)
    | succ n K46 =>
      intro v1 v2 v3 v4 st H locs ls hf hl hP hS
      replace hf : fX11_holds_b46 fz (lp (fun _ _ _ _ _ => none) (fX11_holds_b46 fz) n) v1 v2 v3 v4 st = some (rr, st') := hf
      generalize lp (fun _ _ _ _ _ => none) (fX11_holds_b46 fz) n = k46 at hf K46
      have B98 : ∀ (v1 : Int32) (v2 : Int32) (v3 : Int32) (v4 : Int32) (st : St) (H : Heap) (locs : List Loc) (ls : Array Slot), fX11_holds_b98 fz k46 v1 v2 v3 v4 st = some (rr, st') → lv_has ls 7 [(0, .ref (ad 99)), (1, .int v1), (2, .int v2), (3, .int v3), (4, .int v4)] → va_P D classes (cx cy ad fz st) H → va_S (cA ad fz s.heap.size) s.heap H locs → cGl l 4 D cy ad fz rr st' p e s m args below meth c H locs (F0 m 98 ls []) := by
        intro v1 v2 v3 v4 st H locs ls hf hl hP hS
        unfold fX11_holds_b98 at hf
        obtain ⟨x3, ex⟩ : ∃ y : Int32, y = v4 + (10 : Int32) := ⟨_, rfl⟩
        replace hf := lt_at ex hf
        refine lv_iinc (v := x3) (lv' := [(4, .int x3), (0, .ref (ad 99)), (1, .int v1), (2, .int v2), (3, .int v3)]) hx hb dX11_holds_98 hl (k := 4) rfl (by rw [ex]; rfl) (by decide) rfl (fun ls hl => ?_)
        clear ex
        refine lv_goto (tgt := 46) hx hb dX11_holds_101 (by decide) ?_
        exact K46 v1 v2 v3 x3 st _ _ ls hf (lv_sub hl [1, 2, 3, 4, 0] rfl) hP hS
      have B95 : ∀ (v1 : Int32) (v2 : Int32) (v3 : Int32) (v4 : Int32) (st : St) (H : Heap) (locs : List Loc) (ls : Array Slot), fX11_holds_b95 fz k46 v1 v2 v3 v4 st = some (rr, st') → lv_has ls 7 [(0, .ref (ad 99)), (1, .int v1), (2, .int v2), (3, .int v3), (4, .int v4)] → va_P D classes (cx cy ad fz st) H → va_S (cA ad fz s.heap.size) s.heap H locs → cGl l 4 D cy ad fz rr st' p e s m args below meth c H locs (F0 m 95 ls []) := by
        intro v1 v2 v3 v4 st H locs ls hf hl hP hS
        unfold fX11_holds_b95 at hf
        obtain ⟨x4, ex⟩ : ∃ y : Int32, y = v3 + (1 : Int32) := ⟨_, rfl⟩
        replace hf := lt_at ex hf
        refine lv_iinc (v := x4) (lv' := [(3, .int x4), (0, .ref (ad 99)), (1, .int v1), (2, .int v2), (4, .int v4)]) hx hb dX11_holds_95 hl (k := 3) rfl (by rw [ex]; rfl) (by decide) rfl (fun ls hl => ?_)
        clear ex
        exact B98 v1 v2 x4 v4 st _ _ ls hf (lv_sub hl [1, 2, 3, 0, 4] rfl) hP hS
      unfold fX11_holds_b46 at hf
      refine lv_iload hx hb dX11_holds_46 (lv_at hl 4 rfl) ?_
      refine lv_bipush (v := 99) hx hb dX11_holds_48 (by decide) ?_
      refine lv_icmp_gt (tgt := 104) hx hb dX11_holds_50 (by decide) (fun hc => ?_) (fun hc => ?_)
      · replace hf := it_pos hc hf
        refine lv_ldc2 (v := 1000000000000) hx hb hown (hT _ k_924) dX11_holds_104 ?_
        refine lv_lstore (lv' := [(4, .long (1000000000000 : Int64)), (0, .ref (ad 99)), (1, .int v1), (2, .int v2), (3, .int v3)]) hx hb dX11_holds_107 hl (by decide) rfl (fun ls hl => ?_)
        refine lv_iconst (v := 0) hx hb dX11_holds_109 (by decide) ?_
        refine lv_istore (lv' := [(6, .int (0 : Int32)), (4, .long (1000000000000 : Int64)), (0, .ref (ad 99)), (1, .int v1), (2, .int v2), (3, .int v3)]) hx hb dX11_holds_110 hl (by decide) rfl (fun ls hl => ?_)
        exact L112 6000 v2 v3 (1000000000000 : Int64) (0 : Int32) st _ _ ls hf (lv_sub hl [4, 5, 1, 0] rfl) hP hS
      · replace hf := it_neg hc hf
        refine lv_iload hx hb dX11_holds_53 (lv_at hl 4 rfl) ?_
        refine lv_aload_n hx hb dX11_holds_55 rfl (lv_at hl 0 rfl) ?_
        refine cg_11_10_0 E hP dX11_holds_56 ?_
        refine cg_11_101_1 E hP dX11_holds_59 ?_
        refine cg_11_105_2 E hP dX11_holds_62 ?_
        refine lv_iload_n hx hb dX11_holds_65 rfl (lv_at hl 1 rfl) ?_
        obtain ⟨hi, hf⟩ := gi_some hf
        refine cl_200 E hP hi dX11_holds_66 ?_
        refine lv_icmp_le (tgt := 95) hx hb dX11_holds_67 (by decide) (fun hc => ?_) (fun hc => ?_)
        · replace hf := it_pos hc hf
          exact B95 v1 v2 v3 v4 st _ _ ls hf hl hP hS
        · replace hf := it_neg hc hf
          refine lv_aload_n hx hb dX11_holds_70 rfl (lv_at hl 0 rfl) ?_
          refine cg_11_44_0 E hP dX11_holds_71 ?_
          refine lv_iload_n hx hb dX11_holds_74 rfl (lv_at hl 1 rfl) ?_
          refine lv_iload hx hb dX11_holds_75 (lv_at hl 4 rfl) ?_
          refine lv_aload_n hx hb dX11_holds_77 rfl (lv_at hl 0 rfl) ?_
          refine cg_11_10_0 E hP dX11_holds_78 ?_
          refine cg_11_101_1 E hP dX11_holds_81 ?_
          refine cg_11_113_2 E hP dX11_holds_84 ?_
          refine lv_iload_n hx hb dX11_holds_87 rfl (lv_at hl 1 rfl) ?_
          obtain ⟨hi, hf⟩ := gi_some hf
          refine cl_201 E hP hi dX11_holds_88 ?_
          obtain ⟨r5, st6, hc, hf⟩ := bd_some hf
          refine c_calli (n := 3) (rest := []) E hN hP hS (fun sz => tX5_turns l D cy ad fz hJ sz v1 v4 (st.2.2.1 201 v1.toNatClampNeg) st r5 st6 hc) (va_recv E.2 hP (ci := 5) (q0 := 36) rfl rfl) (gV k_551 k_552 k_553 k_10 k_554) qX5_turns ⟨Nat.le_of_ble_eq_true rfl, Nat.le_of_ble_eq_true rfl⟩ ⟨Nat.le_refl _, Nat.le_refl _⟩ rfl hl.1 rfl (Nat.le_of_ble_eq_true rfl) dX11_holds_89 (fun H locs hP hS => ?_)
          refine lv_if_eq (tgt := 98) hx hb dX11_holds_92 (by decide) (fun hc => ?_) (fun hc => ?_)
          · replace hf := it_pos hc hf
            exact B98 v1 v2 v3 v4 st6 _ _ ls hf hl hP hS
          · replace hf := it_neg hc hf
            exact B95 v1 v2 v3 v4 st6 _ _ ls hf hl hP hS
  refine lv_aload_n hx hb dX11_holds_0 rfl (lv_at hl 0 rfl) ?_
  refine cg_11_10_0 E hP dX11_holds_1 ?_
  refine lv_iload_n hx hb dX11_holds_4 rfl (lv_at hl 1 rfl) ?_
  obtain ⟨r7, st8, hc, hf⟩ := bd_some hf
  refine c_calli (n := 1) (rest := []) E hN hP hS (fun sz => tX6_has l D cy ad fz hJ sz a0 st r7 st8 hc) (va_recv E.2 hP (ci := 6) (q0 := 3) rfl rfl) (gV k_477 k_478 k_479 k_2 k_480) qX6_has ⟨Nat.le_of_ble_eq_true rfl, Nat.le_of_ble_eq_true rfl⟩ ⟨Nat.le_refl _, Nat.le_refl _⟩ rfl hl.1 rfl (Nat.le_of_ble_eq_true rfl) dX11_holds_5 (fun H locs hP hS => ?_)
  refine lv_if_eq (tgt := 36) hx hb dX11_holds_8 (by decide) (fun hc => ?_) (fun hc => ?_)
  · replace hf := it_pos hc hf
    exact B36 st8 _ _ ls hf (lv_sub hl [] rfl) hP hS
  · replace hf := it_neg hc hf
    refine lv_iload_n hx hb dX11_holds_11 rfl (lv_at hl 2 rfl) ?_
    refine lv_iconst (v := 0) hx hb dX11_holds_12 (by decide) ?_
    refine lv_bipush (v := 30) hx hb dX11_holds_13 (by decide) ?_
    obtain ⟨r9, hc, hf⟩ := bs_some hf
    refine s_calli (n := 3) (rest := []) E.1 (tX11_within l _ a1 (0 : Int32) (30 : Int32) r9 hc) (gS k_472 k_458 k_1 k_459) qX11_within ⟨Nat.le_of_ble_eq_true rfl, Nat.le_of_ble_eq_true rfl⟩ ⟨Nat.le_refl _, Nat.le_refl _⟩ rfl hl.1 rfl (Nat.le_of_ble_eq_true rfl) dX11_holds_15 ?_
    refine lv_if_eq (tgt := 36) hx hb dX11_holds_18 (by decide) (fun hc => ?_) (fun hc => ?_)
    · replace hf := it_pos hc hf
      exact B36 st8 _ _ ls hf (lv_sub hl [] rfl) hP hS
    · replace hf := it_neg hc hf
      refine lv_aload_n hx hb dX11_holds_21 rfl (lv_at hl 0 rfl) ?_
      refine cg_11_10_0 E hP dX11_holds_22 ?_
      refine cg_11_101_1 E hP dX11_holds_25 ?_
      refine cg_11_116_2 E hP dX11_holds_28 ?_
      refine lv_iload_n hx hb dX11_holds_31 rfl (lv_at hl 1 rfl) ?_
      obtain ⟨hi, hf⟩ := gi_some hf
      refine cl_202 E hP hi dX11_holds_32 ?_
      refine lv_if_eq (tgt := 40) hx hb dX11_holds_33 (by decide) (fun hc => ?_) (fun hc => ?_)
      · replace hf := it_pos hc hf
        refine lv_iconst (v := 0) hx hb dX11_holds_40 (by decide) ?_
        refine lv_istore_n (lv' := [(3, .int (0 : Int32)), (0, .ref (ad 99)), (1, .int a0), (2, .int a1)]) hx hb dX11_holds_41 rfl hl (by decide) rfl (fun ls hl => ?_)
        refine lv_bipush (v := 9) hx hb dX11_holds_42 (by decide) ?_
        refine lv_istore (lv' := [(4, .int (9 : Int32)), (3, .int (0 : Int32)), (0, .ref (ad 99)), (1, .int a0), (2, .int a1)]) hx hb dX11_holds_44 hl (by decide) rfl (fun ls hl => ?_)
        exact L46 6000 a0 a1 (0 : Int32) (9 : Int32) st8 _ _ ls hf (lv_sub hl [2, 3, 4, 1, 0] rfl) hP hS
      · replace hf := it_neg hc hf
        exact B36 st8 _ _ ls hf (lv_sub hl [] rfl) hP hS
def fJ7_fill_53178__106_b5 (fz : List FP) (k5 : Int32 → Int32 → Int32 → St → Option (Unit × St)) (v1 : Int32) (v2 : Int32) (v3 : Int32) (st : St) : Option (Unit × St) := if v3 ≤ v2 then (some ((), st)) else (gi v2 6 (lt (sA st 106 (upd (st.2.2.1 106) v2.toNatClampNeg v1)) (fun st1 => lt (v2 + (1 : Int32)) (fun x2 => k5 v1 x2 v3 st1))))
def fJ7_fill_53178__106 (a1 : Int32) (fz : List FP) (st : St) : Option (Unit × St) := lp (fun _ _ _ _ => none) (fJ7_fill_53178__106_b5 fz) 6000 a1 (0 : Int32) (6 : Int32) st
set_option maxHeartbeats 4000000 in
set_option maxRecDepth 100000 in
theorem tJ7_fill_53178__106 (l : Launch) (D : va_G) (cy : Nat → ClassId) (ad : Nat → Nat) (fz : List FP) (hJ : (cads ad fz).Nodup) (sz : Nat) (a1 : Int32) (st : St) (rr : Unit) (st' : St) (hf : fJ7_fill_53178__106 a1 fz st = some (rr, st')) : Met l yJ7_fill_53178 (Cond.code yJ7_fill_53178 cJ7_fill_53178 4 none :: TT) (rmD 0) (cPc D cy ad fz [.ref (ad 106), .int a1] st sz) (cQv D cy ad fz rr st' sz) 0 0 (cA ad fz sz) := by
  refine c_metv (by decide) hJ (Nat.le_of_ble_eq_true rfl) (fun p e s m args below meth c ls E hx hb hr hlocks hown hT hD hN hl hP hS => ?_)
  replace hl : lv_has ls 4 [(0, .ref (ad 106)), (1, .int a1)] := hl
  unfold fJ7_fill_53178__106 at hf
  have L5 : ∀ (n : Nat) (v1 : Int32) (v2 : Int32) (v3 : Int32) (st : St) (H : Heap) (locs : List Loc) (ls : Array Slot), lp (fun _ _ _ _ => none) (fJ7_fill_53178__106_b5 fz) n v1 v2 v3 st = some (rr, st') → lv_has ls 4 [(0, .ref (ad 106)), (1, .int v1), (2, .int v2), (3, .int v3)] → va_P D classes (cx cy ad fz st) H → va_S (cA ad fz s.heap.size) s.heap H locs → cGv l 0 D cy ad fz rr st' p e s m args below meth c H locs (F0 m 5 ls []) := by
    intro n
    induction n with
    | zero => intro v1 v2 v3 st H locs ls hf; exact absurd hf (fun h => by cases h)
    | succ n K5 =>
      intro v1 v2 v3 st H locs ls hf hl hP hS
      replace hf : fJ7_fill_53178__106_b5 fz (lp (fun _ _ _ _ => none) (fJ7_fill_53178__106_b5 fz) n) v1 v2 v3 st = some (rr, st') := hf
      generalize lp (fun _ _ _ _ => none) (fJ7_fill_53178__106_b5 fz) n = k5 at hf K5
      unfold fJ7_fill_53178__106_b5 at hf
      refine lv_iload_n hx hb dJ7_fill_53178_5 rfl (lv_at hl 2 rfl) ?_
      refine lv_iload_n hx hb dJ7_fill_53178_6 rfl (lv_at hl 3 rfl) ?_
      refine lv_icmp_ge (tgt := 20) hx hb dJ7_fill_53178_7 (by decide) (fun hc => ?_) (fun hc => ?_)
      · replace hf := it_pos hc hf
        exact c_vret hx hb hr hlocks hf hP hS dJ7_fill_53178_20
      · replace hf := it_neg hc hf
        refine lv_aload_n hx hb dJ7_fill_53178_10 rfl (lv_at hl 0 rfl) ?_
        refine lv_iload_n hx hb dJ7_fill_53178_11 rfl (lv_at hl 2 rfl) ?_
        refine lv_iload_n hx hb dJ7_fill_53178_12 rfl (lv_at hl 1 rfl) ?_
        obtain ⟨hi, hf⟩ := gi_some hf
        refine cs_106 E hD hP hS hi dJ7_fill_53178_13 (fun st1 H locs ex hP hS => ?_)
        replace hf := lt_at ex hf; clear ex
        obtain ⟨x2, ex⟩ : ∃ y : Int32, y = v2 + (1 : Int32) := ⟨_, rfl⟩
        replace hf := lt_at ex hf
        refine lv_iinc (v := x2) (lv' := [(2, .int x2), (0, .ref (ad 106)), (1, .int v1), (3, .int v3)]) hx hb dJ7_fill_53178_14 hl (k := 2) rfl (by rw [ex]; rfl) (by decide) rfl (fun ls hl => ?_)
        clear ex
        refine lv_goto (tgt := 5) hx hb dJ7_fill_53178_17 (by decide) ?_
        exact K5 v1 x2 v3 st1 _ _ ls hf (lv_sub hl [1, 2, 0, 3] rfl) hP hS
  refine lv_iconst (v := 0) hx hb dJ7_fill_53178_0 (by decide) ?_
  refine lv_istore_n (lv' := [(2, .int (0 : Int32)), (0, .ref (ad 106)), (1, .int a1)]) hx hb dJ7_fill_53178_1 rfl hl (by decide) rfl (fun ls hl => ?_)
  refine lv_aload_n hx hb dJ7_fill_53178_2 rfl (lv_at hl 1 rfl) ?_
  refine cn_106 E hP dJ7_fill_53178_3 ?_
  refine lv_istore_n (lv' := [(3, .int (6 : Int32)), (2, .int (0 : Int32)), (0, .ref (ad 106)), (1, .int a1)]) hx hb dJ7_fill_53178_4 rfl hl (by decide) rfl (fun ls hl => ?_)
  exact L5 6000 a1 (0 : Int32) (6 : Int32) st _ _ ls hf (lv_sub hl [2, 3, 1, 0] rfl) hP hS
