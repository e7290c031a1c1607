def fX12_sumOf_b24 (st : St) : Option (Int32 × St) := some ((-1 : Int32), st)
def fX12_sumOf (a0 : Int32) (st : St) : Option (Int32 × St) := if (st.1 49) = 0 then (gi a0 96 (gi (a0 + (1 : Int32)) 96 (if (st.2.2.1 45 a0.toNatClampNeg) = (st.2.2.1 45 (a0 + (1 : Int32)).toNatClampNeg) then (fX12_sumOf_b24 st) else (lt (sI st 20 (1 : Int32)) (fun st1 => gi a0 96 (gi (a0 + (1 : Int32)) 96 (bd (fX12_reckonAll (st1.2.2.1 45 a0.toNatClampNeg) (st1.2.2.1 45 (a0 + (1 : Int32)).toNatClampNeg) st1) (fun r2 st3 => lt (sI st3 20 (0 : Int32)) (fun st4 => gb (st4.1 38) (lt (sI st4 49 (st4.1 38)) (fun st5 => some ((st5.2.1 39).toInt32, st5)))))))))))) else (fX12_sumOf_b24 st)
set_option maxHeartbeats 4000000 in
set_option maxRecDepth 100000 in
theorem tX12_sumOf (l : Launch) (D : va_G) (cy : Nat → ClassId) (ad : Nat → Nat) (hJ : (mads ad).Nodup) (sz : Nat) (a0 : Int32) (st : St) (rr : Int32) (st' : St) (hf : fX12_sumOf a0 st = some (rr, st')) : Met l yX12_sumOf (Cond.code yX12_sumOf cX12_sumOf 2 (some .int) :: TT) (rmD 3) (mPc D cy ad [.int a0] st sz) (mQi D cy ad rr st' sz) 0 0 (mA ad sz) := by
  refine m_meti (by decide) hJ (Nat.le_of_ble_eq_true rfl) (fun p e s m args below meth c ls E hx hb hr hlocks hown hT hD hl hP hS => ?_)
  replace hl : lv_has ls 2 [(0, .ref (ad 100)), (1, .int a0)] := hl
  unfold fX12_sumOf at hf
  have B24 : ∀ (st : St) (H : Heap) (locs : List Loc) (ls : Array Slot), fX12_sumOf_b24 st = some (rr, st') → lv_has ls 2 [] → va_P D classes (mw cy ad st) H → va_S (mA ad s.heap.size) s.heap H locs → mGi l 3 D cy ad rr st' p e s m args below meth c H locs (F0 m 24 ls []) := by
    intro st H locs ls hf hl hP hS
    unfold fX12_sumOf_b24 at hf
    refine lv_iconst (v := -1) hx hb dX12_sumOf_24 (by decide) ?_
    exact m_iret hx hb hr hlocks hf hP hS dX12_sumOf_25
  refine lv_aload_n hx hb dX12_sumOf_0 rfl (lv_at hl 0 rfl) ?_
  refine mg_49 E hP dX12_sumOf_1 ?_
  refine lv_if_ne (tgt := 24) hx hb dX12_sumOf_4 (by decide) (fun hc => ?_) (fun hc => ?_)
  · replace hf := it_neg hc hf
    exact B24 st _ _ ls hf (lv_sub hl [] rfl) hP hS
  · replace hf := it_pos hc hf
    refine lv_aload_n hx hb dX12_sumOf_7 rfl (lv_at hl 0 rfl) ?_
    refine mg_45 E hP dX12_sumOf_8 ?_
    refine lv_iload_n hx hb dX12_sumOf_11 rfl (lv_at hl 1 rfl) ?_
    obtain ⟨hi, hf⟩ := gi_some hf
    refine ml_45 E hP hi dX12_sumOf_12 ?_
    refine lv_aload_n hx hb dX12_sumOf_13 rfl (lv_at hl 0 rfl) ?_
    refine mg_45 E hP dX12_sumOf_14 ?_
    refine lv_iload_n hx hb dX12_sumOf_17 rfl (lv_at hl 1 rfl) ?_
    refine lv_iconst (v := 1) hx hb dX12_sumOf_18 (by decide) ?_
    refine lv_iadd hx hb dX12_sumOf_19 ?_
    obtain ⟨hi, hf⟩ := gi_some hf
    refine ml_45 E hP hi dX12_sumOf_20 ?_
    refine lv_icmp_ne (tgt := 26) hx hb dX12_sumOf_21 (by decide) (fun hc => ?_) (fun hc => ?_)
    · replace hf := it_neg hc hf
      refine lv_aload_n hx hb dX12_sumOf_26 rfl (lv_at hl 0 rfl) ?_
      refine lv_iconst (v := 1) hx hb dX12_sumOf_27 (by decide) ?_
      refine mp_20 E hD hP hS (by decide) dX12_sumOf_28 (fun st1 H locs ex hP hS => ?_)
      replace hf := lt_at ex hf; clear ex
      refine lv_aload_n hx hb dX12_sumOf_31 rfl (lv_at hl 0 rfl) ?_
      refine lv_aload_n hx hb dX12_sumOf_32 rfl (lv_at hl 0 rfl) ?_
      refine mg_45 E hP dX12_sumOf_33 ?_
      refine lv_iload_n hx hb dX12_sumOf_36 rfl (lv_at hl 1 rfl) ?_
      obtain ⟨hi, hf⟩ := gi_some hf
      refine ml_45 E hP hi dX12_sumOf_37 ?_
      refine lv_aload_n hx hb dX12_sumOf_38 rfl (lv_at hl 0 rfl) ?_
      refine mg_45 E hP dX12_sumOf_39 ?_
      refine lv_iload_n hx hb dX12_sumOf_42 rfl (lv_at hl 1 rfl) ?_
      refine lv_iconst (v := 1) hx hb dX12_sumOf_43 (by decide) ?_
      refine lv_iadd hx hb dX12_sumOf_44 ?_
      obtain ⟨hi, hf⟩ := gi_some hf
      refine ml_45 E hP hi dX12_sumOf_45 ?_
      obtain ⟨r2, st3, hc, hf⟩ := bd_some hf
      refine m_callv (n := 2) (rest := []) E hP hS (fun sz => tX12_reckonAll l D cy ad hJ sz (st1.2.2.1 45 a0.toNatClampNeg) (st1.2.2.1 45 (a0 + (1 : Int32)).toNatClampNeg) st1 r2 st3 hc) (gV k_1578 k_1580 ks_71 k_14 k_1581) qX12_reckonAll ⟨Nat.le_of_ble_eq_true rfl, Nat.le_of_ble_eq_true rfl⟩ ⟨Nat.le_refl _, Nat.le_refl _⟩ rfl hl.1 rfl (Nat.le_of_ble_eq_true rfl) dX12_sumOf_46 (fun H locs hP hS => ?_)
      refine lv_aload_n hx hb dX12_sumOf_49 rfl (lv_at hl 0 rfl) ?_
      refine lv_iconst (v := 0) hx hb dX12_sumOf_50 (by decide) ?_
      refine mp_20 E hD hP hS (by decide) dX12_sumOf_51 (fun st4 H locs ex hP hS => ?_)
      replace hf := lt_at ex hf; clear ex
      refine lv_aload_n hx hb dX12_sumOf_54 rfl (lv_at hl 0 rfl) ?_
      refine lv_aload_n hx hb dX12_sumOf_55 rfl (lv_at hl 0 rfl) ?_
      refine mg_38 E hP dX12_sumOf_56 ?_
      obtain ⟨hz, hf⟩ := gb_some hf
      refine mp_49 E hD hP hS hz dX12_sumOf_59 (fun st5 H locs ex hP hS => ?_)
      replace hf := lt_at ex hf; clear ex
      refine lv_aload_n hx hb dX12_sumOf_62 rfl (lv_at hl 0 rfl) ?_
      refine mg_39 E hP dX12_sumOf_63 ?_
      refine lv_l2i (v := (st5.2.1 39).toInt32) hx hb dX12_sumOf_66 rfl ?_
      exact m_iret hx hb hr hlocks hf hP hS dX12_sumOf_67
    · replace hf := it_pos hc hf
      exact B24 st _ _ ls hf (lv_sub hl [] rfl) hP hS
theorem qX12_sumOf : yX12_sumOf.cls = RX12 ∧ yX12_sumOf.cls ≠ "java/lang/invoke/MethodHandle" ∧ yX12_sumOf.cls ≠ "java/lang/invoke/VarHandle" ∧ (parseMethodDescriptor yX12_sumOf.desc).map (fun d => d.parameters.length) = some 1 := by decide +kernel
def fX12_act (a0 : Int32) (a1 : Int32) (a2 : Int32) (st : St) : Option (Int32 × St) := if a0 = 0 then (bd (fX12_showNow a2 a1 st) (fun r1 st2 => some (r1, st2))) else (if a0 = 1 then (bd (fX12_hideNow a2 a1 st) (fun r3 st4 => some (r3, st4))) else (if a0 = 2 then (bd (fX12_marchNow a1 a2 st) (fun r5 st6 => some (r5, st6))) else (bd (fX12_manNow a1 a2 st) (fun r7 st8 => some (r7, st8)))))
set_option maxHeartbeats 4000000 in
set_option maxRecDepth 100000 in
theorem tX12_act (l : Launch) (D : va_G) (cy : Nat → ClassId) (ad : Nat → Nat) (hJ : (mads ad).Nodup) (sz : Nat) (a0 : Int32) (a1 : Int32) (a2 : Int32) (st : St) (rr : Int32) (st' : St) (hf : fX12_act a0 a1 a2 st = some (rr, st')) : Met l yX12_act (Cond.code yX12_act cX12_act 4 (some .int) :: TT) (rmD 9) (mPc D cy ad [.int a0, .int a1, .int a2] st sz) (mQi D cy ad rr st' sz) 0 0 (mA ad sz) := by
  refine m_meti (by decide) hJ (Nat.le_of_ble_eq_true rfl) (fun p e s m args below meth c ls E hx hb hr hlocks hown hT hD hl hP hS => ?_)
  replace hl : lv_has ls 4 [(0, .ref (ad 100)), (1, .int a0), (2, .int a1), (3, .int a2)] := hl
  unfold fX12_act at hf
  refine lv_iload_n hx hb dX12_act_0 rfl (lv_at hl 1 rfl) ?_
  by_cases hq0 : a0 = 0
  · replace hf := it_pos hq0 hf
    rw [hq0]; refine lv_tableIn (tgt := 28) hx hb dX12_act_1 (by decide) (by decide) rfl (by decide) ?_
    refine lv_aload_n hx hb dX12_act_28 rfl (lv_at hl 0 rfl) ?_
    refine lv_iload_n hx hb dX12_act_29 rfl (lv_at hl 3 rfl) ?_
    refine lv_iload_n hx hb dX12_act_30 rfl (lv_at hl 2 rfl) ?_
    obtain ⟨r1, st2, hc, hf⟩ := bd_some hf
    refine m_calli (n := 2) (rest := []) E hP hS (fun sz => tX12_showNow l D cy ad hJ sz a2 a1 st r1 st2 hc) (gV k_1613 k_1615 ks_77 k_14 k_1616) qX12_showNow ⟨Nat.le_of_ble_eq_true rfl, Nat.le_of_ble_eq_true rfl⟩ ⟨Nat.le_refl _, Nat.le_refl _⟩ rfl hl.1 rfl (Nat.le_of_ble_eq_true rfl) dX12_act_31 (fun H locs hP hS => ?_)
    exact m_iret hx hb hr hlocks hf hP hS dX12_act_34
  replace hf := it_neg hq0 hf
  by_cases hq1 : a0 = 1
  · replace hf := it_pos hq1 hf
    rw [hq1]; refine lv_tableIn (tgt := 35) hx hb dX12_act_1 (by decide) (by decide) rfl (by decide) ?_
    refine lv_aload_n hx hb dX12_act_35 rfl (lv_at hl 0 rfl) ?_
    refine lv_iload_n hx hb dX12_act_36 rfl (lv_at hl 3 rfl) ?_
    refine lv_iload_n hx hb dX12_act_37 rfl (lv_at hl 2 rfl) ?_
    obtain ⟨r3, st4, hc, hf⟩ := bd_some hf
    refine m_calli (n := 2) (rest := []) E hP hS (fun sz => tX12_hideNow l D cy ad hJ sz a2 a1 st r3 st4 hc) (gV k_1633 k_1635 ks_81 k_14 k_1636) qX12_hideNow ⟨Nat.le_of_ble_eq_true rfl, Nat.le_of_ble_eq_true rfl⟩ ⟨Nat.le_refl _, Nat.le_refl _⟩ rfl hl.1 rfl (Nat.le_of_ble_eq_true rfl) dX12_act_38 (fun H locs hP hS => ?_)
    exact m_iret hx hb hr hlocks hf hP hS dX12_act_41
  replace hf := it_neg hq1 hf
  by_cases hq2 : a0 = 2
  · replace hf := it_pos hq2 hf
    rw [hq2]; refine lv_tableIn (tgt := 42) hx hb dX12_act_1 (by decide) (by decide) rfl (by decide) ?_
    refine lv_aload_n hx hb dX12_act_42 rfl (lv_at hl 0 rfl) ?_
    refine lv_iload_n hx hb dX12_act_43 rfl (lv_at hl 2 rfl) ?_
    refine lv_iload_n hx hb dX12_act_44 rfl (lv_at hl 3 rfl) ?_
    obtain ⟨r5, st6, hc, hf⟩ := bd_some hf
    refine m_calli (n := 2) (rest := []) E hP hS (fun sz => tX12_marchNow l D cy ad hJ sz a1 a2 st r5 st6 hc) (gV k_1650 k_1652 ks_83 k_14 k_1653) qX12_marchNow ⟨Nat.le_of_ble_eq_true rfl, Nat.le_of_ble_eq_true rfl⟩ ⟨Nat.le_refl _, Nat.le_refl _⟩ rfl hl.1 rfl (Nat.le_of_ble_eq_true rfl) dX12_act_45 (fun H locs hP hS => ?_)
    exact m_iret hx hb hr hlocks hf hP hS dX12_act_48
  replace hf := it_neg hq2 hf
  refine lv_tableOut (tgt := 49) hx hb dX12_act_1 (tb_out (lo := 0) (hi := 2) (fun k h1 h2 he => ?_)) (by decide) ?_
  · have h3 : k = 0 ∨ k = 1 ∨ k = 2 := by omega
    rcases h3 with rfl | rfl | rfl
    · exact hq0 he
    · exact hq1 he
    · exact hq2 he
  · refine lv_aload_n hx hb dX12_act_49 rfl (lv_at hl 0 rfl) ?_
    refine lv_iload_n hx hb dX12_act_50 rfl (lv_at hl 2 rfl) ?_
    refine lv_iload_n hx hb dX12_act_51 rfl (lv_at hl 3 rfl) ?_
    obtain ⟨r7, st8, hc, hf⟩ := bd_some hf
    refine m_calli (n := 2) (rest := []) E hP hS (fun sz => tX12_manNow l D cy ad hJ sz a1 a2 st r7 st8 hc) (gV k_1641 k_1643 ks_82 k_14 k_1644) qX12_manNow ⟨Nat.le_of_ble_eq_true rfl, Nat.le_of_ble_eq_true rfl⟩ ⟨Nat.le_refl _, Nat.le_refl _⟩ rfl hl.1 rfl (Nat.le_of_ble_eq_true rfl) dX12_act_52 (fun H locs hP hS => ?_)
    exact m_iret hx hb hr hlocks hf hP hS dX12_act_55
theorem qX12_act : yX12_act.cls = RX12 ∧ yX12_act.cls ≠ "java/lang/invoke/MethodHandle" ∧ yX12_act.cls ≠ "java/lang/invoke/VarHandle" ∧ (parseMethodDescriptor yX12_act.desc).map (fun d => d.parameters.length) = some 3 := by decide +kernel
def fX12_run_b150 (w0 : Int32) (st : St) : Option (Int32 × St) := lt (sI st 47 w0) (fun st1 => lt (sI st1 46 ((st1.1 46) + (1 : Int32))) (fun st2 => some ((0 : Int32), st2)))
def fX12_run_b82 (v1 : Int32) (st : St) : Option (Int32 × St) := bd (fX12_sumOf (v1 + (1 : Int32)) st) (fun r3 st4 => bd (fX12_sumOf (v1 + (3 : Int32)) st4) (fun r5 st6 => if (st6.1 49) = 0 then (gi v1 96 (bd (fX12_act (st6.2.2.1 45 v1.toNatClampNeg) r3 r5 st6) (fun r7 st8 => if 0 ≤ r7 then (gi v1 96 (if (st8.2.2.1 45 v1.toNatClampNeg) = (2 : Int32) then (fX12_run_b150 r7 st8) else (fX12_run_b150 (st8.1 47) st8))) else (some ((-3 : Int32), st8))))) else (some ((-3 : Int32), st6))))
def fX12_run_b80 (st : St) : Option (Int32 × St) := some ((0 : Int32), st)
def fX12_run (a0 : Int32) (st : St) : Option (Int32 × St) := lt (sB st 36 (vp_updL (st.2.2.2.1 36) (1 : Int32).toNatClampNeg ((st.2.2.1 3 (6 : Int32).toNatClampNeg).toInt64))) (fun st9 => lt (sB st9 36 (vp_updL (st9.2.2.2.1 36) (2 : Int32).toNatClampNeg ((st9.1 46).toInt64))) (fun st10 => lt (sB st10 36 (vp_updL (st10.2.2.2.1 36) (3 : Int32).toNatClampNeg ((st10.1 47).toInt64))) (fun st11 => lt (sI st11 49 (0 : Int32)) (fun st12 => gi (a0 + (5 : Int32)) 96 (gi (a0 + (6 : Int32)) 96 (if (st12.2.2.1 45 (a0 + (6 : Int32)).toNatClampNeg) ≤ (st12.2.2.1 45 (a0 + (5 : Int32)).toNatClampNeg) then (fX12_run_b82 a0 st12) else (bd (fX12_sumOf (a0 + (5 : Int32)) st12) (fun r13 st14 => if (st14.1 49) = 0 then (if r13 = 0 then (fX12_run_b80 st14) else (fX12_run_b82 a0 st14)) else (fX12_run_b80 st14)))))))))
set_option maxHeartbeats 4000000 in
set_option maxRecDepth 100000 in
theorem tX12_run (l : Launch) (D : va_G) (cy : Nat → ClassId) (ad : Nat → Nat) (hJ : (mads ad).Nodup) (sz : Nat) (a0 : Int32) (st : St) (rr : Int32) (st' : St) (hf : fX12_run a0 st = some (rr, st')) : Met l yX12_run (Cond.code yX12_run cX12_run 5 (some .int) :: TT) (rmD 10) (mPc D cy ad [.int a0] st sz) (mQi D cy ad rr st' sz) 0 0 (mA ad sz) := by
  refine m_meti (by decide) hJ (Nat.le_of_ble_eq_true rfl) (fun p e s m args below meth c ls E hx hb hr hlocks hown hT hD hl hP hS => ?_)
  replace hl : lv_has ls 5 [(0, .ref (ad 100)), (1, .int a0)] := hl
  unfold fX12_run at hf
  have B150 : ∀ (w0 : Int32) (st : St) (H : Heap) (locs : List Loc) (ls : Array Slot), fX12_run_b150 w0 st = some (rr, st') → lv_has ls 5 [(0, .ref (ad 100))] → va_P D classes (mw cy ad st) H → va_S (mA ad s.heap.size) s.heap H locs → mGi l 10 D cy ad rr st' p e s m args below meth c H locs (F0 m 150 ls [.int w0, .ref (ad 100)]) := by
    intro w0 st H locs ls hf hl hP hS
    unfold fX12_run_b150 at hf
    refine mp_47 E hD hP hS dX12_run_150 (fun st1 H locs ex hP hS => ?_)
    replace hf := lt_at ex hf; clear ex
    refine lv_aload_n hx hb dX12_run_153 rfl (lv_at hl 0 rfl) ?_
    refine lv_dup hx hb dX12_run_154 rfl ?_
    refine mg_46 E hP dX12_run_155 ?_
    refine lv_iconst (v := 1) hx hb dX12_run_158 (by decide) ?_
    refine lv_iadd hx hb dX12_run_159 ?_
    refine mp_46 E hD hP hS dX12_run_160 (fun st2 H locs ex hP hS => ?_)
    replace hf := lt_at ex hf; clear ex
    refine lv_iconst (v := 0) hx hb dX12_run_163 (by decide) ?_
    exact m_iret hx hb hr hlocks hf hP hS dX12_run_164
  have B82 : ∀ (v1 : Int32) (st : St) (H : Heap) (locs : List Loc) (ls : Array Slot), fX12_run_b82 v1 st = some (rr, st') → lv_has ls 5 [(0, .ref (ad 100)), (1, .int v1)] → va_P D classes (mw cy ad st) H → va_S (mA ad s.heap.size) s.heap H locs → mGi l 10 D cy ad rr st' p e s m args below meth c H locs (F0 m 82 ls []) := by
    intro v1 st H locs ls hf hl hP hS
    unfold fX12_run_b82 at hf
    refine lv_aload_n hx hb dX12_run_82 rfl (lv_at hl 0 rfl) ?_
    refine lv_iload_n hx hb dX12_run_83 rfl (lv_at hl 1 rfl) ?_
    refine lv_iconst (v := 1) hx hb dX12_run_84 (by decide) ?_
    refine lv_iadd hx hb dX12_run_85 ?_
    obtain ⟨r3, st4, hc, hf⟩ := bd_some hf
    refine m_calli (n := 1) (rest := []) E hP hS (fun sz => tX12_sumOf l D cy ad hJ sz (v1 + (1 : Int32)) st r3 st4 hc) (gV k_1776 k_1778 ks_95 k_14 k_1779) qX12_sumOf ⟨Nat.le_of_ble_eq_true rfl, Nat.le_of_ble_eq_true rfl⟩ ⟨Nat.le_refl _, Nat.le_refl _⟩ rfl hl.1 rfl (Nat.le_of_ble_eq_true rfl) dX12_run_86 (fun H locs hP hS => ?_)
    refine lv_istore_n (lv' := [(2, .int r3), (0, .ref (ad 100)), (1, .int v1)]) hx hb dX12_run_89 rfl hl (by decide) rfl (fun ls hl => ?_)
    refine lv_aload_n hx hb dX12_run_90 rfl (lv_at hl 1 rfl) ?_
    refine lv_iload_n hx hb dX12_run_91 rfl (lv_at hl 2 rfl) ?_
    refine lv_iconst (v := 3) hx hb dX12_run_92 (by decide) ?_
    refine lv_iadd hx hb dX12_run_93 ?_
    obtain ⟨r5, st6, hc, hf⟩ := bd_some hf
    refine m_calli (n := 1) (rest := []) E hP hS (fun sz => tX12_sumOf l D cy ad hJ sz (v1 + (3 : Int32)) st4 r5 st6 hc) (gV k_1776 k_1778 ks_95 k_14 k_1779) qX12_sumOf ⟨Nat.le_of_ble_eq_true rfl, Nat.le_of_ble_eq_true rfl⟩ ⟨Nat.le_refl _, Nat.le_refl _⟩ rfl hl.1 rfl (Nat.le_of_ble_eq_true rfl) dX12_run_94 (fun H locs hP hS => ?_)
    refine lv_istore_n (lv' := [(3, .int r5), (2, .int r3), (0, .ref (ad 100)), (1, .int v1)]) hx hb dX12_run_97 rfl hl (by decide) rfl (fun ls hl => ?_)
    refine lv_aload_n hx hb dX12_run_98 rfl (lv_at hl 2 rfl) ?_
    refine mg_49 E hP dX12_run_99 ?_
    refine lv_if_eq (tgt := 108) hx hb dX12_run_102 (by decide) (fun hc => ?_) (fun hc => ?_)
    · replace hf := it_pos hc hf
      refine lv_aload_n hx hb dX12_run_108 rfl (lv_at hl 2 rfl) ?_
      refine lv_aload_n hx hb dX12_run_109 rfl (lv_at hl 2 rfl) ?_
      refine mg_45 E hP dX12_run_110 ?_
      refine lv_iload_n hx hb dX12_run_113 rfl (lv_at hl 3 rfl) ?_
      obtain ⟨hi, hf⟩ := gi_some hf
      refine ml_45 E hP hi dX12_run_114 ?_
      refine lv_iload_n hx hb dX12_run_115 rfl (lv_at hl 1 rfl) ?_
      refine lv_iload_n hx hb dX12_run_116 rfl (lv_at hl 0 rfl) ?_
      obtain ⟨r7, st8, hc, hf⟩ := bd_some hf
      refine m_calli (n := 3) (rest := []) E hP hS (fun sz => tX12_act l D cy ad hJ sz (st6.2.2.1 45 v1.toNatClampNeg) r3 r5 st6 r7 st8 hc) (gV k_1780 k_1782 ks_96 k_14 k_1783) qX12_act ⟨Nat.le_of_ble_eq_true rfl, Nat.le_of_ble_eq_true rfl⟩ ⟨Nat.le_refl _, Nat.le_refl _⟩ rfl hl.1 rfl (Nat.le_of_ble_eq_true rfl) dX12_run_117 (fun H locs hP hS => ?_)
      refine lv_istore (lv' := [(4, .int r7), (3, .int r5), (2, .int r3), (0, .ref (ad 100)), (1, .int v1)]) hx hb dX12_run_120 hl (by decide) rfl (fun ls hl => ?_)
      refine lv_iload hx hb dX12_run_122 (lv_at hl 0 rfl) ?_
      refine lv_if_ge (tgt := 130) hx hb dX12_run_124 (by decide) (fun hc => ?_) (fun hc => ?_)
      · replace hf := it_pos hc hf
        refine lv_aload_n hx hb dX12_run_130 rfl (lv_at hl 3 rfl) ?_
        refine lv_aload_n hx hb dX12_run_131 rfl (lv_at hl 3 rfl) ?_
        refine mg_45 E hP dX12_run_132 ?_
        refine lv_iload_n hx hb dX12_run_135 rfl (lv_at hl 4 rfl) ?_
        obtain ⟨hi, hf⟩ := gi_some hf
        refine ml_45 E hP hi dX12_run_136 ?_
        refine lv_iconst (v := 2) hx hb dX12_run_137 (by decide) ?_
        refine lv_icmp_ne (tgt := 146) hx hb dX12_run_138 (by decide) (fun hc => ?_) (fun hc => ?_)
        · replace hf := it_neg hc hf
          refine lv_aload_n hx hb dX12_run_146 rfl (lv_at hl 3 rfl) ?_
          refine mg_47 E hP dX12_run_147 ?_
          exact B150 (st8.1 47) st8 _ _ ls hf (lv_sub hl [3] rfl) hP hS
        · replace hf := it_pos hc hf
          refine lv_iload hx hb dX12_run_141 (lv_at hl 0 rfl) ?_
          refine lv_goto (tgt := 150) hx hb dX12_run_143 (by decide) ?_
          exact B150 r7 st8 _ _ ls hf (lv_sub hl [3] rfl) hP hS
      · replace hf := it_neg hc hf
        refine lv_bipush (v := -3) hx hb dX12_run_127 (by decide) ?_
        exact m_iret hx hb hr hlocks hf hP hS dX12_run_129
    · replace hf := it_neg hc hf
      refine lv_bipush (v := -3) hx hb dX12_run_105 (by decide) ?_
      exact m_iret hx hb hr hlocks hf hP hS dX12_run_107
  have B80 : ∀ (st : St) (H : Heap) (locs : List Loc) (ls : Array Slot), fX12_run_b80 st = some (rr, st') → lv_has ls 5 [] → va_P D classes (mw cy ad st) H → va_S (mA ad s.heap.size) s.heap H locs → mGi l 10 D cy ad rr st' p e s m args below meth c H locs (F0 m 80 ls []) := by
    intro st H locs ls hf hl hP hS
    unfold fX12_run_b80 at hf
    refine lv_iconst (v := 0) hx hb dX12_run_80 (by decide) ?_
    exact m_iret hx hb hr hlocks hf hP hS dX12_run_81
  refine lv_aload_n hx hb dX12_run_0 rfl (lv_at hl 0 rfl) ?_
  refine mg_36 E hP dX12_run_1 ?_
  refine lv_iconst (v := 1) hx hb dX12_run_4 (by decide) ?_
  refine lv_aload_n hx hb dX12_run_5 rfl (lv_at hl 0 rfl) ?_
  refine mg_3 E hP dX12_run_6 ?_
  refine lv_bipush (v := 6) hx hb dX12_run_9 (by decide) ?_
  refine ml_3 E hP (vi rfl) dX12_run_11 ?_
  refine lv_i2l (v := (st.2.2.1 3 (6 : Int32).toNatClampNeg).toInt64) hx hb dX12_run_12 rfl ?_
  refine ms_36 E hD hP hS (vi rfl) dX12_run_13 (fun st9 H locs ex hP hS => ?_)
  replace hf := lt_at ex hf; clear ex
  refine lv_aload_n hx hb dX12_run_14 rfl (lv_at hl 0 rfl) ?_
  refine mg_36 E hP dX12_run_15 ?_
  refine lv_iconst (v := 2) hx hb dX12_run_18 (by decide) ?_
  refine lv_aload_n hx hb dX12_run_19 rfl (lv_at hl 0 rfl) ?_
  refine mg_46 E hP dX12_run_20 ?_
  refine lv_i2l (v := (st9.1 46).toInt64) hx hb dX12_run_23 rfl ?_
  refine ms_36 E hD hP hS (vi rfl) dX12_run_24 (fun st10 H locs ex hP hS => ?_)
  replace hf := lt_at ex hf; clear ex
  refine lv_aload_n hx hb dX12_run_25 rfl (lv_at hl 0 rfl) ?_
  refine mg_36 E hP dX12_run_26 ?_
  refine lv_iconst (v := 3) hx hb dX12_run_29 (by decide) ?_
  refine lv_aload_n hx hb dX12_run_30 rfl (lv_at hl 0 rfl) ?_
  refine mg_47 E hP dX12_run_31 ?_
  refine lv_i2l (v := (st10.1 47).toInt64) hx hb dX12_run_34 rfl ?_
  refine ms_36 E hD hP hS (vi rfl) dX12_run_35 (fun st11 H locs ex hP hS => ?_)
  replace hf := lt_at ex hf; clear ex
  refine lv_aload_n hx hb dX12_run_36 rfl (lv_at hl 0 rfl) ?_
  refine lv_iconst (v := 0) hx hb dX12_run_37 (by decide) ?_
  refine mp_49 E hD hP hS (by decide) dX12_run_38 (fun st12 H locs ex hP hS => ?_)
  replace hf := lt_at ex hf; clear ex
  refine lv_aload_n hx hb dX12_run_41 rfl (lv_at hl 0 rfl) ?_
  refine mg_45 E hP dX12_run_42 ?_
  refine lv_iload_n hx hb dX12_run_45 rfl (lv_at hl 1 rfl) ?_
  refine lv_iconst (v := 5) hx hb dX12_run_46 (by decide) ?_
  refine lv_iadd hx hb dX12_run_47 ?_
  obtain ⟨hi, hf⟩ := gi_some hf
  refine ml_45 E hP hi dX12_run_48 ?_
  refine lv_aload_n hx hb dX12_run_49 rfl (lv_at hl 0 rfl) ?_
  refine mg_45 E hP dX12_run_50 ?_
  refine lv_iload_n hx hb dX12_run_53 rfl (lv_at hl 1 rfl) ?_
  refine lv_bipush (v := 6) hx hb dX12_run_54 (by decide) ?_
  refine lv_iadd hx hb dX12_run_56 ?_
  obtain ⟨hi, hf⟩ := gi_some hf
  refine ml_45 E hP hi dX12_run_57 ?_
  refine lv_icmp_ge (tgt := 82) hx hb dX12_run_58 (by decide) (fun hc => ?_) (fun hc => ?_)
  · replace hf := it_pos hc hf
    exact B82 a0 st12 _ _ ls hf hl hP hS
  · replace hf := it_neg hc hf
    refine lv_aload_n hx hb dX12_run_61 rfl (lv_at hl 0 rfl) ?_
    refine lv_iload_n hx hb dX12_run_62 rfl (lv_at hl 1 rfl) ?_
    refine lv_iconst (v := 5) hx hb dX12_run_63 (by decide) ?_
    refine lv_iadd hx hb dX12_run_64 ?_
    obtain ⟨r13, st14, hc, hf⟩ := bd_some hf
    refine m_calli (n := 1) (rest := []) E hP hS (fun sz => tX12_sumOf l D cy ad hJ sz (a0 + (5 : Int32)) st12 r13 st14 hc) (gV k_1776 k_1778 ks_95 k_14 k_1779) qX12_sumOf ⟨Nat.le_of_ble_eq_true rfl, Nat.le_of_ble_eq_true rfl⟩ ⟨Nat.le_refl _, Nat.le_refl _⟩ rfl hl.1 rfl (Nat.le_of_ble_eq_true rfl) dX12_run_65 (fun H locs hP hS => ?_)
    refine lv_istore_n (lv' := [(2, .int r13), (0, .ref (ad 100)), (1, .int a0)]) hx hb dX12_run_68 rfl hl (by decide) rfl (fun ls hl => ?_)
    refine lv_aload_n hx hb dX12_run_69 rfl (lv_at hl 1 rfl) ?_
    refine mg_49 E hP dX12_run_70 ?_
    refine lv_if_ne (tgt := 80) hx hb dX12_run_73 (by decide) (fun hc => ?_) (fun hc => ?_)
    · replace hf := it_neg hc hf
      exact B80 st14 _ _ ls hf (lv_sub hl [] rfl) hP hS
    · replace hf := it_pos hc hf
      refine lv_iload_n hx hb dX12_run_76 rfl (lv_at hl 0 rfl) ?_
      refine lv_if_ne (tgt := 82) hx hb dX12_run_77 (by decide) (fun hc => ?_) (fun hc => ?_)
      · replace hf := it_neg hc hf
        exact B82 a0 st14 _ _ ls hf (lv_sub hl [1, 2] rfl) hP hS
      · replace hf := it_pos hc hf
        exact B80 st14 _ _ ls hf (lv_sub hl [] rfl) hP hS
theorem qX12_run : yX12_run.cls = RX12 ∧ yX12_run.cls ≠ "java/lang/invoke/MethodHandle" ∧ yX12_run.cls ≠ "java/lang/invoke/VarHandle" ∧ (parseMethodDescriptor yX12_run.desc).map (fun d => d.parameters.length) = some 1 := by decide +kernel
def fX12_giveBack_b35 (k35 : Int32 → Int32 → St → Option (Unit × St)) (v1 : Int32) (v2 : Int32) (st : St) : Option (Unit × St) := if (16 : Int32) ≤ v2 then (lt (sI st 8 v1) (fun st1 => some ((), st1))) else (gi v2 16 (gi v2 16 (lt (sA st 7 (upd (st.2.2.1 7) v2.toNatClampNeg (st.2.2.1 10 v2.toNatClampNeg))) (fun st2 => lt (v2 + (1 : Int32)) (fun x3 => k35 v1 x3 st2)))))
def fX12_giveBack_b8 (k8 : Int32 → Int32 → St → Option (Unit × St)) (v1 : Int32) (v2 : Int32) (st : St) : Option (Unit × St) := if (400 : Int32) ≤ v2 then (lp (fun _ _ _ => none) (fX12_giveBack_b35) 6000 v1 (0 : Int32) st) else (gi v2 400 (gi v2 450 (lt (sA st 6 (upd (st.2.2.1 6) v2.toNatClampNeg (st.2.2.1 9 v2.toNatClampNeg))) (fun st4 => lt (v2 + (1 : Int32)) (fun x5 => k8 v1 x5 st4)))))
def fX12_giveBack (a0 : Int32) (st : St) : Option (Unit × St) := bd (fX12_putBack (17 : Int32) st) (fun r6 st7 => lp (fun _ _ _ => none) (fX12_giveBack_b8) 6000 a0 (0 : Int32) st7)
set_option maxHeartbeats 4000000 in
set_option maxRecDepth 100000 in
theorem tX12_giveBack (l : Launch) (D : va_G) (cy : Nat → ClassId) (ad : Nat → Nat) (hJ : (mads ad).Nodup) (sz : Nat) (a0 : Int32) (st : St) (rr : Unit) (st' : St) (hf : fX12_giveBack a0 st = some (rr, st')) : Met l yX12_giveBack (Cond.code yX12_giveBack cX12_giveBack 3 none :: TT) (rmD 1) (mPc D cy ad [.int a0] st sz) (mQv D cy ad rr st' sz) 0 0 (mA ad sz) := by
  refine m_metv (by decide) hJ (Nat.le_of_ble_eq_true rfl) (fun p e s m args below meth c ls E hx hb hr hlocks hown hT hD hl hP hS => ?_)
  replace hl : lv_has ls 3 [(0, .ref (ad 100)), (1, .int a0)] := hl
  unfold fX12_giveBack at hf
  have L35 : ∀ (n : Nat) (v1 : Int32) (v2 : Int32) (st : St) (H : Heap) (locs : List Loc) (ls : Array Slot), lp (fun _ _ _ => none) (fX12_giveBack_b35) n v1 v2 st = some (rr, st') → lv_has ls 3 [(0, .ref (ad 100)), (1, .int v1), (2, .int v2)] → va_P D classes (mw cy ad st) H → va_S (mA ad s.heap.size) s.heap H locs → mGv l 1 D cy ad rr st' p e s m args below meth c H locs (F0 m 35 ls []) := by
    intro n
    induction n with
    | zero => intro v1 v2 st H locs ls hf; exact absurd hf (fun h => by cases h)
    | succ n K35 =>
      intro v1 v2 st H locs ls hf hl hP hS
      replace hf : fX12_giveBack_b35 (lp (fun _ _ _ => none) (fX12_giveBack_b35) n) v1 v2 st = some (rr, st') := hf
      generalize lp (fun _ _ _ => none) (fX12_giveBack_b35) n = k35 at hf K35
      unfold fX12_giveBack_b35 at hf
      refine lv_iload_n hx hb dX12_giveBack_35 rfl (lv_at hl 2 rfl) ?_
      refine lv_bipush (v := 16) hx hb dX12_giveBack_36 (by decide) ?_
      refine lv_icmp_ge (tgt := 59) hx hb dX12_giveBack_38 (by decide) (fun hc => ?_) (fun hc => ?_)
      · replace hf := it_pos hc hf
        refine lv_aload_n hx hb dX12_giveBack_59 rfl (lv_at hl 0 rfl) ?_
        refine lv_iload_n hx hb dX12_giveBack_60 rfl (lv_at hl 1 rfl) ?_
        refine mp_8 E hD hP hS dX12_giveBack_61 (fun st1 H locs ex hP hS => ?_)
        replace hf := lt_at ex hf; clear ex
        exact m_vret hx hb hr hlocks hf hP hS dX12_giveBack_64
      · replace hf := it_neg hc hf
        refine lv_aload_n hx hb dX12_giveBack_41 rfl (lv_at hl 0 rfl) ?_
        refine mg_7 E hP dX12_giveBack_42 ?_
        refine lv_iload_n hx hb dX12_giveBack_45 rfl (lv_at hl 2 rfl) ?_
        refine lv_aload_n hx hb dX12_giveBack_46 rfl (lv_at hl 0 rfl) ?_
        refine mg_10 E hP dX12_giveBack_47 ?_
        refine lv_iload_n hx hb dX12_giveBack_50 rfl (lv_at hl 2 rfl) ?_
        obtain ⟨hi, hf⟩ := gi_some hf
        refine ml_10 E hP hi dX12_giveBack_51 ?_
        obtain ⟨hi, hf⟩ := gi_some hf
        refine ms_7 E hD hP hS hi dX12_giveBack_52 (fun st2 H locs ex hP hS => ?_)
        replace hf := lt_at ex hf; clear ex
        obtain ⟨x3, ex⟩ : ∃ y : Int32, y = v2 + (1 : Int32) := ⟨_, rfl⟩
        replace hf := lt_at ex hf
        refine lv_iinc (v := x3) (lv' := [(2, .int x3), (0, .ref (ad 100)), (1, .int v1)]) hx hb dX12_giveBack_53 hl (k := 2) rfl (by rw [ex]; rfl) (by decide) rfl (fun ls hl => ?_)
        clear ex
        refine lv_goto (tgt := 35) hx hb dX12_giveBack_56 (by decide) ?_
        exact K35 v1 x3 st2 _ _ ls hf (lv_sub hl [1, 2, 0] rfl) hP hS
  have L8 : ∀ (n : Nat) (v1 : Int32) (v2 : Int32) (st : St) (H : Heap) (locs : List Loc) (ls : Array Slot), lp (fun _ _ _ => none) (fX12_giveBack_b8) n v1 v2 st = some (rr, st') → lv_has ls 3 [(0, .ref (ad 100)), (1, .int v1), (2, .int v2)] → va_P D classes (mw cy ad st) H → va_S (mA ad s.heap.size) s.heap H locs → mGv l 1 D cy ad rr st' p e s m args below meth c H locs (F0 m 8 ls []) := by
    intro n
    induction n with
    | zero => intro v1 v2 st H locs ls hf; exact absurd hf (fun h => by cases h)
    | succ n K8 =>
      intro v1 v2 st H locs ls hf hl hP hS
      replace hf : fX12_giveBack_b8 (lp (fun _ _ _ => none) (fX12_giveBack_b8) n) v1 v2 st = some (rr, st') := hf
      generalize lp (fun _ _ _ => none) (fX12_giveBack_b8) n = k8 at hf K8
      unfold fX12_giveBack_b8 at hf
      refine lv_iload_n hx hb dX12_giveBack_8 rfl (lv_at hl 2 rfl) ?_
      refine lv_sipush (v := 400) hx hb dX12_giveBack_9 (by decide) ?_
      refine lv_icmp_ge (tgt := 33) hx hb dX12_giveBack_12 (by decide) (fun hc => ?_) (fun hc => ?_)
      · replace hf := it_pos hc hf
        refine lv_iconst (v := 0) hx hb dX12_giveBack_33 (by decide) ?_
        refine lv_istore_n (lv' := [(2, .int (0 : Int32)), (0, .ref (ad 100)), (1, .int v1)]) hx hb dX12_giveBack_34 rfl hl (by decide) rfl (fun ls hl => ?_)
        exact L35 6000 v1 (0 : Int32) st _ _ ls hf (lv_sub hl [1, 2, 0] rfl) hP hS
      · replace hf := it_neg hc hf
        refine lv_aload_n hx hb dX12_giveBack_15 rfl (lv_at hl 0 rfl) ?_
        refine mg_6 E hP dX12_giveBack_16 ?_
        refine lv_iload_n hx hb dX12_giveBack_19 rfl (lv_at hl 2 rfl) ?_
        refine lv_aload_n hx hb dX12_giveBack_20 rfl (lv_at hl 0 rfl) ?_
        refine mg_9 E hP dX12_giveBack_21 ?_
        refine lv_iload_n hx hb dX12_giveBack_24 rfl (lv_at hl 2 rfl) ?_
        obtain ⟨hi, hf⟩ := gi_some hf
        refine ml_9 E hP hi dX12_giveBack_25 ?_
        obtain ⟨hi, hf⟩ := gi_some hf
        refine ms_6 E hD hP hS hi dX12_giveBack_26 (fun st4 H locs ex hP hS => ?_)
        replace hf := lt_at ex hf; clear ex
        obtain ⟨x5, ex⟩ : ∃ y : Int32, y = v2 + (1 : Int32) := ⟨_, rfl⟩
        replace hf := lt_at ex hf
        refine lv_iinc (v := x5) (lv' := [(2, .int x5), (0, .ref (ad 100)), (1, .int v1)]) hx hb dX12_giveBack_27 hl (k := 2) rfl (by rw [ex]; rfl) (by decide) rfl (fun ls hl => ?_)
        clear ex
        refine lv_goto (tgt := 8) hx hb dX12_giveBack_30 (by decide) ?_
        exact K8 v1 x5 st4 _ _ ls hf (lv_sub hl [1, 2, 0] rfl) hP hS
  refine lv_aload_n hx hb dX12_giveBack_0 rfl (lv_at hl 0 rfl) ?_
  refine lv_bipush (v := 17) hx hb dX12_giveBack_1 (by decide) ?_
  obtain ⟨r6, st7, hc, hf⟩ := bd_some hf
  refine m_callv (n := 1) (rest := []) E hP hS (fun sz => tX12_putBack l D cy ad hJ sz (17 : Int32) st r6 st7 hc) (gV k_1342 k_1344 ks_38 k_14 k_1345) qX12_putBack ⟨Nat.le_of_ble_eq_true rfl, Nat.le_of_ble_eq_true rfl⟩ ⟨Nat.le_refl _, Nat.le_refl _⟩ rfl hl.1 rfl (Nat.le_of_ble_eq_true rfl) dX12_giveBack_3 (fun H locs hP hS => ?_)
  refine lv_iconst (v := 0) hx hb dX12_giveBack_6 (by decide) ?_
  refine lv_istore_n (lv' := [(2, .int (0 : Int32)), (0, .ref (ad 100)), (1, .int a0)]) hx hb dX12_giveBack_7 rfl hl (by decide) rfl (fun ls hl => ?_)
  exact L8 6000 a0 (0 : Int32) st7 _ _ ls hf (lv_sub hl [1, 2, 0] rfl) hP hS
theorem qX12_giveBack : yX12_giveBack.cls = RX12 ∧ yX12_giveBack.cls ≠ "java/lang/invoke/MethodHandle" ∧ yX12_giveBack.cls ≠ "java/lang/invoke/VarHandle" ∧ (parseMethodDescriptor yX12_giveBack.desc).map (fun d => d.parameters.length) = some 1 := by decide +kernel
def fX12_orders_b150 (k140 : Int32 → Int32 → St → Option (Int32 × St)) (k150 : Int32 → Int32 → Int32 → St → Option (Int32 × St)) (v1 : Int32) (v2 : Int32) (v3 : Int32) (st : St) : Option (Int32 × St) := gi (((8 : Int32) * v2) + (7 : Int32)) 96 (if (st.2.2.1 45 (((8 : Int32) * v2) + (7 : Int32)).toNatClampNeg) ≤ v3 then (lt (v2 + (1 : Int32)) (fun x1 => k140 v1 x1 st)) else (bd (fX12_run ((8 : Int32) * v2) st) (fun r2 st3 => if 0 ≤ r2 then (lt (v3 + (1 : Int32)) (fun x4 => k150 v1 v2 x4 st3)) else (bd (fX12_giveBack v1 st3) (fun r5 st6 => lt (sI st6 48 v2) (fun st7 => bd (fX12_tell (-3 : Int32) st7) (fun r8 st9 => some (r8, st9))))))))
def fX12_orders_b140 (k140 : Int32 → Int32 → St → Option (Int32 × St)) (v1 : Int32) (v2 : Int32) (st : St) : Option (Int32 × St) := if (st.1 21) ≤ v2 then (bd (fX12_tell (st.1 46) st) (fun r10 st11 => some (r10, st11))) else (lp (fun _ _ _ _ => none) (fX12_orders_b150 k140) 6000 v1 v2 (0 : Int32) st)
def fX12_orders_b104 (k104 : Int32 → Int32 → St → Option (Int32 × St)) (v1 : Int32) (v2 : Int32) (st : St) : Option (Int32 × St) := if (16 : Int32) ≤ v2 then (lt (sI st 46 (0 : Int32)) (fun st12 => lt (sI st12 47 (-1 : Int32)) (fun st13 => lp (fun _ _ _ => none) (fX12_orders_b140) 6000 v1 (0 : Int32) st13))) else (gi v2 16 (gi v2 16 (lt (sA st 10 (upd (st.2.2.1 10) v2.toNatClampNeg (st.2.2.1 7 v2.toNatClampNeg))) (fun st14 => lt (v2 + (1 : Int32)) (fun x15 => k104 v1 x15 st14)))))
def fX12_orders_b77 (k77 : Int32 → Int32 → St → Option (Int32 × St)) (v1 : Int32) (v2 : Int32) (st : St) : Option (Int32 × St) := if (400 : Int32) ≤ v2 then (lp (fun _ _ _ => none) (fX12_orders_b104) 6000 v1 (0 : Int32) st) else (gi v2 450 (gi v2 400 (lt (sA st 9 (upd (st.2.2.1 9) v2.toNatClampNeg (st.2.2.1 6 v2.toNatClampNeg))) (fun st16 => lt (v2 + (1 : Int32)) (fun x17 => k77 v1 x17 st16)))))
def fX12_orders_b46 (st : St) : Option (Int32 × St) := bd (fX12_endText st) (fun r18 st19 => if (st19.1 19) = 0 then (bd (fX12_keepAll (17 : Int32) st19) (fun r20 st21 => lt (st21.1 8) (fun x22 => lp (fun _ _ _ => none) (fX12_orders_b77) 6000 x22 (0 : Int32) st21))) else (bd (fX12_tell (-6 : Int32) st19) (fun r23 st24 => some (r23, st24))))
def fX12_orders_b19 (k19 : St → Option (Int32 × St)) (st : St) : Option (Int32 × St) := if (st.1 19) = 0 then (bd (fX12_isSign (59 : Int32) st) (fun r25 st26 => if r25 = 0 then (fX12_orders_b46 st26) else (bd (fX12_nextToken st26) (fun r27 st28 => bd (fX12_readOrder st28) (fun r29 st30 => k19 st30))))) else (fX12_orders_b46 st)
def fX12_orders (st : St) : Option (Int32 × St) := lt (sI st 0 (0 : Int32)) (fun st31 => lt (sI st31 48 (-1 : Int32)) (fun st32 => bd (fX12_beginText (1 : Int32) st32) (fun r33 st34 => bd (fX12_readOrder st34) (fun r35 st36 => lp (fun _ => none) (fX12_orders_b19) 6000 st36))))
set_option maxHeartbeats 4000000 in
set_option maxRecDepth 100000 in
theorem tX12_orders (l : Launch) (D : va_G) (cy : Nat → ClassId) (ad : Nat → Nat) (hJ : (mads ad).Nodup) (sz : Nat) (st : St) (rr : Int32) (st' : St) (hf : fX12_orders  st = some (rr, st')) : Met l yX12_orders (Cond.code yX12_orders cX12_orders 4 (some .int) :: TT) (rmD 11) (mPc D cy ad [] st sz) (mQi D cy ad rr st' sz) 0 0 (mA ad sz) := by
  refine m_meti (by decide) hJ (Nat.le_of_ble_eq_true rfl) (fun p e s m args below meth c ls E hx hb hr hlocks hown hT hD hl hP hS => ?_)
  replace hl : lv_has ls 4 [(0, .ref (ad 100))] := hl
  unfold fX12_orders at hf
  have L140 : ∀ (n : Nat) (v1 : Int32) (v2 : Int32) (st : St) (H : Heap) (locs : List Loc) (ls : Array Slot), lp (fun _ _ _ => none) (fX12_orders_b140) n v1 v2 st = some (rr, st') → lv_has ls 4 [(0, .ref (ad 100)), (1, .int v1), (2, .int v2)] → va_P D classes (mw cy ad st) H → va_S (mA ad s.heap.size) s.heap H locs → mGi l 11 D cy ad rr st' p e s m args below meth c H locs (F0 m 140 ls []) := by
    intro n
    induction n with
    | zero => intro v1 v2 st H locs ls hf; exact absurd hf (fun h => by cases h)
    | succ n K140 =>
      intro v1 v2 st H locs ls hf hl hP hS
      replace hf : fX12_orders_b140 (lp (fun _ _ _ => none) (fX12_orders_b140) n) v1 v2 st = some (rr, st') := hf
      generalize lp (fun _ _ _ => none) (fX12_orders_b140) n = k140 at hf K140
      have L150 : ∀ (n : Nat) (v1 : Int32) (v2 : Int32) (v3 : Int32) (st : St) (H : Heap) (locs : List Loc) (ls : Array Slot), lp (fun _ _ _ _ => none) (fX12_orders_b150 k140) n v1 v2 v3 st = some (rr, st') → lv_has ls 4 [(0, .ref (ad 100)), (1, .int v1), (2, .int v2), (3, .int v3)] → va_P D classes (mw cy ad st) H → va_S (mA ad s.heap.size) s.heap H locs → mGi l 11 D cy ad rr st' p e s m args below meth c H locs (F0 m 150 ls []) := by
        intro n
        induction n with
        | zero => intro v1 v2 v3 st H locs ls hf; exact absurd hf (fun h => by cases h)
        | succ n K150 =>
          intro v1 v2 v3 st H locs ls hf hl hP hS
          replace hf : fX12_orders_b150 k140 (lp (fun _ _ _ _ => none) (fX12_orders_b150 k140) n) v1 v2 v3 st = some (rr, st') := hf
          generalize lp (fun _ _ _ _ => none) (fX12_orders_b150 k140) n = k150 at hf K150
          unfold fX12_orders_b150 at hf
          refine lv_iload_n hx hb dX12_orders_150 rfl (lv_at hl 3 rfl) ?_
          refine lv_aload_n hx hb dX12_orders_151 rfl (lv_at hl 0 rfl) ?_
          refine mg_45 E hP dX12_orders_152 ?_
          refine lv_bipush (v := 8) hx hb dX12_orders_155 (by decide) ?_
          refine lv_iload_n hx hb dX12_orders_157 rfl (lv_at hl 2 rfl) ?_
          refine lv_imul hx hb dX12_orders_158 ?_
          refine lv_bipush (v := 7) hx hb dX12_orders_159 (by decide) ?_
          refine lv_iadd hx hb dX12_orders_161 ?_
          obtain ⟨hi, hf⟩ := gi_some hf
          refine ml_45 E hP hi dX12_orders_162 ?_
          refine lv_icmp_ge (tgt := 200) hx hb dX12_orders_163 (by decide) (fun hc => ?_) (fun hc => ?_)
          · replace hf := it_pos hc hf
            obtain ⟨x1, ex⟩ : ∃ y : Int32, y = v2 + (1 : Int32) := ⟨_, rfl⟩
            replace hf := lt_at ex hf
            refine lv_iinc (v := x1) (lv' := [(2, .int x1), (0, .ref (ad 100)), (1, .int v1), (3, .int v3)]) hx hb dX12_orders_200 hl (k := 2) rfl (by rw [ex]; rfl) (by decide) rfl (fun ls hl => ?_)
            clear ex
            refine lv_goto (tgt := 140) hx hb dX12_orders_203 (by decide) ?_
            exact K140 v1 x1 st _ _ ls hf (lv_sub hl [1, 2, 0] rfl) hP hS
          · replace hf := it_neg hc hf
            refine lv_aload_n hx hb dX12_orders_166 rfl (lv_at hl 0 rfl) ?_
            refine lv_bipush (v := 8) hx hb dX12_orders_167 (by decide) ?_
            refine lv_iload_n hx hb dX12_orders_169 rfl (lv_at hl 2 rfl) ?_
            refine lv_imul hx hb dX12_orders_170 ?_
            obtain ⟨r2, st3, hc, hf⟩ := bd_some hf
            refine m_calli (n := 1) (rest := []) E hP hS (fun sz => tX12_run l D cy ad hJ sz ((8 : Int32) * v2) st r2 st3 hc) (gV k_1772 k_1774 ks_94 k_14 k_1775) qX12_run ⟨Nat.le_of_ble_eq_true rfl, Nat.le_of_ble_eq_true rfl⟩ ⟨Nat.le_refl _, Nat.le_refl _⟩ rfl hl.1 rfl (Nat.le_of_ble_eq_true rfl) dX12_orders_171 (fun H locs hP hS => ?_)
            refine lv_if_ge (tgt := 194) hx hb dX12_orders_174 (by decide) (fun hc => ?_) (fun hc => ?_)
            · replace hf := it_pos hc hf
              obtain ⟨x4, ex⟩ : ∃ y : Int32, y = v3 + (1 : Int32) := ⟨_, rfl⟩
              replace hf := lt_at ex hf
              refine lv_iinc (v := x4) (lv' := [(3, .int x4), (0, .ref (ad 100)), (1, .int v1), (2, .int v2)]) hx hb dX12_orders_194 hl (k := 3) rfl (by rw [ex]; rfl) (by decide) rfl (fun ls hl => ?_)
              clear ex
              refine lv_goto (tgt := 150) hx hb dX12_orders_197 (by decide) ?_
              exact K150 v1 v2 x4 st3 _ _ ls hf (lv_sub hl [1, 2, 3, 0] rfl) hP hS
            · replace hf := it_neg hc hf
              refine lv_aload_n hx hb dX12_orders_177 rfl (lv_at hl 0 rfl) ?_
              refine lv_iload_n hx hb dX12_orders_178 rfl (lv_at hl 1 rfl) ?_
              obtain ⟨r5, st6, hc, hf⟩ := bd_some hf
              refine m_callv (n := 1) (rest := []) E hP hS (fun sz => tX12_giveBack l D cy ad hJ sz v1 st3 r5 st6 hc) (gV k_1784 k_1786 ks_97 k_14 k_1787) qX12_giveBack ⟨Nat.le_of_ble_eq_true rfl, Nat.le_of_ble_eq_true rfl⟩ ⟨Nat.le_refl _, Nat.le_refl _⟩ rfl hl.1 rfl (Nat.le_of_ble_eq_true rfl) dX12_orders_179 (fun H locs hP hS => ?_)
              refine lv_aload_n hx hb dX12_orders_182 rfl (lv_at hl 0 rfl) ?_
              refine lv_iload_n hx hb dX12_orders_183 rfl (lv_at hl 2 rfl) ?_
              refine mp_48 E hD hP hS dX12_orders_184 (fun st7 H locs ex hP hS => ?_)
              replace hf := lt_at ex hf; clear ex
              refine lv_aload_n hx hb dX12_orders_187 rfl (lv_at hl 0 rfl) ?_
              refine lv_bipush (v := -3) hx hb dX12_orders_188 (by decide) ?_
              obtain ⟨r8, st9, hc, hf⟩ := bd_some hf
              refine m_calli (n := 1) (rest := []) E hP hS (fun sz => tX12_tell l D cy ad hJ sz (-3 : Int32) st7 r8 st9 hc) (gV k_1338 k_1340 ks_37 k_14 k_1341) qX12_tell ⟨Nat.le_of_ble_eq_true rfl, Nat.le_of_ble_eq_true rfl⟩ ⟨Nat.le_refl _, Nat.le_refl _⟩ rfl hl.1 rfl (Nat.le_of_ble_eq_true rfl) dX12_orders_190 (fun H locs hP hS => ?_)
              exact m_iret hx hb hr hlocks hf hP hS dX12_orders_193
      unfold fX12_orders_b140 at hf
      refine lv_iload_n hx hb dX12_orders_140 rfl (lv_at hl 2 rfl) ?_
      refine lv_aload_n hx hb dX12_orders_141 rfl (lv_at hl 0 rfl) ?_
      refine mg_21 E hP dX12_orders_142 ?_
      refine lv_icmp_ge (tgt := 206) hx hb dX12_orders_145 (by decide) (fun hc => ?_) (fun hc => ?_)
      · replace hf := it_pos hc hf
        refine lv_aload_n hx hb dX12_orders_206 rfl (lv_at hl 0 rfl) ?_
        refine lv_aload_n hx hb dX12_orders_207 rfl (lv_at hl 0 rfl) ?_
        refine mg_46 E hP dX12_orders_208 ?_
        obtain ⟨r10, st11, hc, hf⟩ := bd_some hf
        refine m_calli (n := 1) (rest := []) E hP hS (fun sz => tX12_tell l D cy ad hJ sz (st.1 46) st r10 st11 hc) (gV k_1338 k_1340 ks_37 k_14 k_1341) qX12_tell ⟨Nat.le_of_ble_eq_true rfl, Nat.le_of_ble_eq_true rfl⟩ ⟨Nat.le_refl _, Nat.le_refl _⟩ rfl hl.1 rfl (Nat.le_of_ble_eq_true rfl) dX12_orders_211 (fun H locs hP hS => ?_)
        exact m_iret hx hb hr hlocks hf hP hS dX12_orders_214
      · replace hf := it_neg hc hf
        refine lv_iconst (v := 0) hx hb dX12_orders_148 (by decide) ?_
        refine lv_istore_n (lv' := [(3, .int (0 : Int32)), (0, .ref (ad 100)), (1, .int v1), (2, .int v2)]) hx hb dX12_orders_149 rfl hl (by decide) rfl (fun ls hl => ?_)
        exact L150 6000 v1 v2 (0 : Int32) st _ _ ls hf (lv_sub hl [1, 2, 3, 0] rfl) hP hS
  have L104 : ∀ (n : Nat) (v1 : Int32) (v2 : Int32) (st : St) (H : Heap) (locs : List Loc) (ls : Array Slot), lp (fun _ _ _ => none) (fX12_orders_b104) n v1 v2 st = some (rr, st') → lv_has ls 4 [(0, .ref (ad 100)), (1, .int v1), (2, .int v2)] → va_P D classes (mw cy ad st) H → va_S (mA ad s.heap.size) s.heap H locs → mGi l 11 D cy ad rr st' p e s m args below meth c H locs (F0 m 104 ls []) := by
    intro n
    induction n with
    | zero => intro v1 v2 st H locs ls hf; exact absurd hf (fun h => by cases h)
    | succ n K104 =>
      intro v1 v2 st H locs ls hf hl hP hS
      replace hf : fX12_orders_b104 (lp (fun _ _ _ => none) (fX12_orders_b104) n) v1 v2 st = some (rr, st') := hf
      generalize lp (fun _ _ _ => none) (fX12_orders_b104) n = k104 at hf K104
      unfold fX12_orders_b104 at hf
      refine lv_iload_n hx hb dX12_orders_104 rfl (lv_at hl 2 rfl) ?_
      refine lv_bipush (v := 16) hx hb dX12_orders_105 (by decide) ?_
      refine lv_icmp_ge (tgt := 128) hx hb dX12_orders_107 (by decide) (fun hc => ?_) (fun hc => ?_)
      · replace hf := it_pos hc hf
        refine lv_aload_n hx hb dX12_orders_128 rfl (lv_at hl 0 rfl) ?_
        refine lv_iconst (v := 0) hx hb dX12_orders_129 (by decide) ?_
        refine mp_46 E hD hP hS dX12_orders_130 (fun st12 H locs ex hP hS => ?_)
        replace hf := lt_at ex hf; clear ex
        refine lv_aload_n hx hb dX12_orders_133 rfl (lv_at hl 0 rfl) ?_
        refine lv_iconst (v := -1) hx hb dX12_orders_134 (by decide) ?_
        refine mp_47 E hD hP hS dX12_orders_135 (fun st13 H locs ex hP hS => ?_)
        replace hf := lt_at ex hf; clear ex
        refine lv_iconst (v := 0) hx hb dX12_orders_138 (by decide) ?_
        refine lv_istore_n (lv' := [(2, .int (0 : Int32)), (0, .ref (ad 100)), (1, .int v1)]) hx hb dX12_orders_139 rfl hl (by decide) rfl (fun ls hl => ?_)
        exact L140 6000 v1 (0 : Int32) st13 _ _ ls hf (lv_sub hl [1, 2, 0] rfl) hP hS
      · replace hf := it_neg hc hf
        refine lv_aload_n hx hb dX12_orders_110 rfl (lv_at hl 0 rfl) ?_
        refine mg_10 E hP dX12_orders_111 ?_
        refine lv_iload_n hx hb dX12_orders_114 rfl (lv_at hl 2 rfl) ?_
        refine lv_aload_n hx hb dX12_orders_115 rfl (lv_at hl 0 rfl) ?_
        refine mg_7 E hP dX12_orders_116 ?_
        refine lv_iload_n hx hb dX12_orders_119 rfl (lv_at hl 2 rfl) ?_
        obtain ⟨hi, hf⟩ := gi_some hf
        refine ml_7 E hP hi dX12_orders_120 ?_
        obtain ⟨hi, hf⟩ := gi_some hf
        refine ms_10 E hD hP hS hi dX12_orders_121 (fun st14 H locs ex hP hS => ?_)
        replace hf := lt_at ex hf; clear ex
        obtain ⟨x15, ex⟩ : ∃ y : Int32, y = v2 + (1 : Int32) := ⟨_, rfl⟩
        replace hf := lt_at ex hf
        refine lv_iinc (v := x15) (lv' := [(2, .int x15), (0, .ref (ad 100)), (1, .int v1)]) hx hb dX12_orders_122 hl (k := 2) rfl (by rw [ex]; rfl) (by decide) rfl (fun ls hl => ?_)
        clear ex
        refine lv_goto (tgt := 104) hx hb dX12_orders_125 (by decide) ?_
        exact K104 v1 x15 st14 _ _ ls hf (lv_sub hl [1, 2, 0] rfl) hP hS
  have L77 : ∀ (n : Nat) (v1 : Int32) (v2 : Int32) (st : St) (H : Heap) (locs : List Loc) (ls : Array Slot), lp (fun _ _ _ => none) (fX12_orders_b77) n v1 v2 st = some (rr, st') → lv_has ls 4 [(0, .ref (ad 100)), (1, .int v1), (2, .int v2)] → va_P D classes (mw cy ad st) H → va_S (mA ad s.heap.size) s.heap H locs → mGi l 11 D cy ad rr st' p e s m args below meth c H locs (F0 m 77 ls []) := by
    intro n
    induction n with
    | zero => intro v1 v2 st H locs ls hf; exact absurd hf (fun h => by cases h)
    | succ n K77 =>
      intro v1 v2 st H locs ls hf hl hP hS
      replace hf : fX12_orders_b77 (lp (fun _ _ _ => none) (fX12_orders_b77) n) v1 v2 st = some (rr, st') := hf
      generalize lp (fun _ _ _ => none) (fX12_orders_b77) n = k77 at hf K77
      unfold fX12_orders_b77 at hf
      refine lv_iload_n hx hb dX12_orders_77 rfl (lv_at hl 2 rfl) ?_
      refine lv_sipush (v := 400) hx hb dX12_orders_78 (by decide) ?_
      refine lv_icmp_ge (tgt := 102) hx hb dX12_orders_81 (by decide) (fun hc => ?_) (fun hc => ?_)
      · replace hf := it_pos hc hf
        refine lv_iconst (v := 0) hx hb dX12_orders_102 (by decide) ?_
        refine lv_istore_n (lv' := [(2, .int (0 : Int32)), (0, .ref (ad 100)), (1, .int v1)]) hx hb dX12_orders_103 rfl hl (by decide) rfl (fun ls hl => ?_)
        exact L104 6000 v1 (0 : Int32) st _ _ ls hf (lv_sub hl [1, 2, 0] rfl) hP hS
      · replace hf := it_neg hc hf
        refine lv_aload_n hx hb dX12_orders_84 rfl (lv_at hl 0 rfl) ?_
        refine mg_9 E hP dX12_orders_85 ?_
        refine lv_iload_n hx hb dX12_orders_88 rfl (lv_at hl 2 rfl) ?_
        refine lv_aload_n hx hb dX12_orders_89 rfl (lv_at hl 0 rfl) ?_
        refine mg_6 E hP dX12_orders_90 ?_
        refine lv_iload_n hx hb dX12_orders_93 rfl (lv_at hl 2 rfl) ?_
        obtain ⟨hi, hf⟩ := gi_some hf
        refine ml_6 E hP hi dX12_orders_94 ?_
        obtain ⟨hi, hf⟩ := gi_some hf
        refine ms_9 E hD hP hS hi dX12_orders_95 (fun st16 H locs ex hP hS => ?_)
        replace hf := lt_at ex hf; clear ex
        obtain ⟨x17, ex⟩ : ∃ y : Int32, y = v2 + (1 : Int32) := ⟨_, rfl⟩
        replace hf := lt_at ex hf
        refine lv_iinc (v := x17) (lv' := [(2, .int x17), (0, .ref (ad 100)), (1, .int v1)]) hx hb dX12_orders_96 hl (k := 2) rfl (by rw [ex]; rfl) (by decide) rfl (fun ls hl => ?_)
        clear ex
        refine lv_goto (tgt := 77) hx hb dX12_orders_99 (by decide) ?_
        exact K77 v1 x17 st16 _ _ ls hf (lv_sub hl [1, 2, 0] rfl) hP hS
  have B46 : ∀ (st : St) (H : Heap) (locs : List Loc) (ls : Array Slot), fX12_orders_b46 st = some (rr, st') → lv_has ls 4 [(0, .ref (ad 100))] → va_P D classes (mw cy ad st) H → va_S (mA ad s.heap.size) s.heap H locs → mGi l 11 D cy ad rr st' p e s m args below meth c H locs (F0 m 46 ls []) := by
    intro st H locs ls hf hl hP hS
    unfold fX12_orders_b46 at hf
    refine lv_aload_n hx hb dX12_orders_46 rfl (lv_at hl 0 rfl) ?_
    obtain ⟨r18, st19, hc, hf⟩ := bd_some hf
    refine m_callv (n := 0) (rest := []) E hP hS (fun sz => tX12_endText l D cy ad hJ sz st r18 st19 hc) (gV k_1554 k_1556 ks_67 k_14 k_1557) qX12_endText ⟨Nat.le_of_ble_eq_true rfl, Nat.le_of_ble_eq_true rfl⟩ ⟨Nat.le_refl _, Nat.le_refl _⟩ rfl hl.1 rfl (Nat.le_of_ble_eq_true rfl) dX12_orders_47 (fun H locs hP hS => ?_)
    refine lv_aload_n hx hb dX12_orders_50 rfl (lv_at hl 0 rfl) ?_
    refine mg_19 E hP dX12_orders_51 ?_
    refine lv_if_eq (tgt := 64) hx hb dX12_orders_54 (by decide) (fun hc => ?_) (fun hc => ?_)
    · replace hf := it_pos hc hf
      refine lv_aload_n hx hb dX12_orders_64 rfl (lv_at hl 0 rfl) ?_
      refine lv_bipush (v := 17) hx hb dX12_orders_65 (by decide) ?_
      obtain ⟨r20, st21, hc, hf⟩ := bd_some hf
      refine m_callv (n := 1) (rest := []) E hP hS (fun sz => tX12_keepAll l D cy ad hJ sz (17 : Int32) st19 r20 st21 hc) (gV k_1625 k_1627 ks_80 k_14 k_1628) qX12_keepAll ⟨Nat.le_of_ble_eq_true rfl, Nat.le_of_ble_eq_true rfl⟩ ⟨Nat.le_refl _, Nat.le_refl _⟩ rfl hl.1 rfl (Nat.le_of_ble_eq_true rfl) dX12_orders_67 (fun H locs hP hS => ?_)
      refine lv_aload_n hx hb dX12_orders_70 rfl (lv_at hl 0 rfl) ?_
      refine mg_8 E hP dX12_orders_71 ?_
      refine lv_topi (fun x22 ex => ?_)
      replace hf := lt_at ex hf; clear ex
      refine lv_istore_n (lv' := [(1, .int x22), (0, .ref (ad 100))]) hx hb dX12_orders_74 rfl hl (by decide) rfl (fun ls hl => ?_)
      refine lv_iconst (v := 0) hx hb dX12_orders_75 (by decide) ?_
      refine lv_istore_n (lv' := [(2, .int (0 : Int32)), (1, .int x22), (0, .ref (ad 100))]) hx hb dX12_orders_76 rfl hl (by decide) rfl (fun ls hl => ?_)
      exact L77 6000 x22 (0 : Int32) st21 _ _ ls hf (lv_sub hl [2, 1, 0] rfl) hP hS
    · replace hf := it_neg hc hf
      refine lv_aload_n hx hb dX12_orders_57 rfl (lv_at hl 0 rfl) ?_
      refine lv_bipush (v := -6) hx hb dX12_orders_58 (by decide) ?_
      obtain ⟨r23, st24, hc, hf⟩ := bd_some hf
      refine m_calli (n := 1) (rest := []) E hP hS (fun sz => tX12_tell l D cy ad hJ sz (-6 : Int32) st19 r23 st24 hc) (gV k_1338 k_1340 ks_37 k_14 k_1341) qX12_tell ⟨Nat.le_of_ble_eq_true rfl, Nat.le_of_ble_eq_true rfl⟩ ⟨Nat.le_refl _, Nat.le_refl _⟩ rfl hl.1 rfl (Nat.le_of_ble_eq_true rfl) dX12_orders_60 (fun H locs hP hS => ?_)
      exact m_iret hx hb hr hlocks hf hP hS dX12_orders_63
  have L19 : ∀ (n : Nat) (st : St) (H : Heap) (locs : List Loc) (ls : Array Slot), lp (fun _ => none) (fX12_orders_b19) n st = some (rr, st') → lv_has ls 4 [(0, .ref (ad 100))] → va_P D classes (mw cy ad st) H → va_S (mA ad s.heap.size) s.heap H locs → mGi l 11 D cy ad rr st' p e s m args below meth c H locs (F0 m 19 ls []) := by
    intro n
    induction n with
    | zero => intro st H locs ls hf; exact absurd hf (fun h => by cases h)
    | succ n K19 =>
      intro st H locs ls hf hl hP hS
      replace hf : fX12_orders_b19 (lp (fun _ => none) (fX12_orders_b19) n) st = some (rr, st') := hf
      generalize lp (fun _ => none) (fX12_orders_b19) n = k19 at hf K19
      unfold fX12_orders_b19 at hf
      refine lv_aload_n hx hb dX12_orders_19 rfl (lv_at hl 0 rfl) ?_
      refine mg_19 E hP dX12_orders_20 ?_
      refine lv_if_ne (tgt := 46) hx hb dX12_orders_23 (by decide) (fun hc => ?_) (fun hc => ?_)
      · replace hf := it_neg hc hf
        exact B46 st _ _ ls hf hl hP hS
      · replace hf := it_pos hc hf
        refine lv_aload_n hx hb dX12_orders_26 rfl (lv_at hl 0 rfl) ?_
        refine lv_bipush (v := 59) hx hb dX12_orders_27 (by decide) ?_
        obtain ⟨r25, st26, hc, hf⟩ := bd_some hf
        refine m_calli (n := 1) (rest := []) E hP hS (fun sz => tX12_isSign l D cy ad hJ sz (59 : Int32) st r25 st26 hc) (gV k_1492 k_1494 ks_54 k_14 k_1495) qX12_isSign ⟨Nat.le_of_ble_eq_true rfl, Nat.le_of_ble_eq_true rfl⟩ ⟨Nat.le_refl _, Nat.le_refl _⟩ rfl hl.1 rfl (Nat.le_of_ble_eq_true rfl) dX12_orders_29 (fun H locs hP hS => ?_)
        refine lv_if_eq (tgt := 46) hx hb dX12_orders_32 (by decide) (fun hc => ?_) (fun hc => ?_)
        · replace hf := it_pos hc hf
          exact B46 st26 _ _ ls hf hl hP hS
        · replace hf := it_neg hc hf
          refine lv_aload_n hx hb dX12_orders_35 rfl (lv_at hl 0 rfl) ?_
          obtain ⟨r27, st28, hc, hf⟩ := bd_some hf
          refine m_callv (n := 0) (rest := []) E hP hS (fun sz => tX12_nextToken l D cy ad hJ sz st26 r27 st28 hc) (gV k_1453 k_1455 ks_47 k_14 k_1456) qX12_nextToken ⟨Nat.le_of_ble_eq_true rfl, Nat.le_of_ble_eq_true rfl⟩ ⟨Nat.le_refl _, Nat.le_refl _⟩ rfl hl.1 rfl (Nat.le_of_ble_eq_true rfl) dX12_orders_36 (fun H locs hP hS => ?_)
          refine lv_aload_n hx hb dX12_orders_39 rfl (lv_at hl 0 rfl) ?_
          obtain ⟨r29, st30, hc, hf⟩ := bd_some hf
          refine m_callv (n := 0) (rest := []) E hP hS (fun sz => tX12_readOrder l D cy ad hJ sz st28 r29 st30 hc) (gV k_1760 k_1762 ks_92 k_14 k_1763) qX12_readOrder ⟨Nat.le_of_ble_eq_true rfl, Nat.le_of_ble_eq_true rfl⟩ ⟨Nat.le_refl _, Nat.le_refl _⟩ rfl hl.1 rfl (Nat.le_of_ble_eq_true rfl) dX12_orders_40 (fun H locs hP hS => ?_)
          refine lv_goto (tgt := 19) hx hb dX12_orders_43 (by decide) ?_
          exact K19 st30 _ _ ls hf hl hP hS
  refine lv_aload_n hx hb dX12_orders_0 rfl (lv_at hl 0 rfl) ?_
  refine lv_iconst (v := 0) hx hb dX12_orders_1 (by decide) ?_
  refine mp_0 E hD hP hS dX12_orders_2 (fun st31 H locs ex hP hS => ?_)
  replace hf := lt_at ex hf; clear ex
  refine lv_aload_n hx hb dX12_orders_5 rfl (lv_at hl 0 rfl) ?_
  refine lv_iconst (v := -1) hx hb dX12_orders_6 (by decide) ?_
  refine mp_48 E hD hP hS dX12_orders_7 (fun st32 H locs ex hP hS => ?_)
  replace hf := lt_at ex hf; clear ex
  refine lv_aload_n hx hb dX12_orders_10 rfl (lv_at hl 0 rfl) ?_
  refine lv_iconst (v := 1) hx hb dX12_orders_11 (by decide) ?_
  obtain ⟨r33, st34, hc, hf⟩ := bd_some hf
  refine m_callv (n := 1) (rest := []) E hP hS (fun sz => tX12_beginText l D cy ad hJ sz (1 : Int32) st32 r33 st34 hc) (gV k_1445 k_1447 ks_45 k_14 k_1448) qX12_beginText ⟨Nat.le_of_ble_eq_true rfl, Nat.le_of_ble_eq_true rfl⟩ ⟨Nat.le_refl _, Nat.le_refl _⟩ rfl hl.1 rfl (Nat.le_of_ble_eq_true rfl) dX12_orders_12 (fun H locs hP hS => ?_)
  refine lv_aload_n hx hb dX12_orders_15 rfl (lv_at hl 0 rfl) ?_
  obtain ⟨r35, st36, hc, hf⟩ := bd_some hf
  refine m_callv (n := 0) (rest := []) E hP hS (fun sz => tX12_readOrder l D cy ad hJ sz st34 r35 st36 hc) (gV k_1760 k_1762 ks_92 k_14 k_1763) qX12_readOrder ⟨Nat.le_of_ble_eq_true rfl, Nat.le_of_ble_eq_true rfl⟩ ⟨Nat.le_refl _, Nat.le_refl _⟩ rfl hl.1 rfl (Nat.le_of_ble_eq_true rfl) dX12_orders_16 (fun H locs hP hS => ?_)
  exact L19 6000 st36 _ _ ls hf hl hP hS
theorem qX12_orders : yX12_orders.cls = RX12 ∧ yX12_orders.cls ≠ "java/lang/invoke/MethodHandle" ∧ yX12_orders.cls ≠ "java/lang/invoke/VarHandle" ∧ (parseMethodDescriptor yX12_orders.desc).map (fun d => d.parameters.length) = some 0 := by decide +kernel
def fX12_stopped (st : St) : Option (Int32 × St) := lt (sI st 0 (0 : Int32)) (fun st1 => some ((st1.1 48), st1))
set_option maxHeartbeats 4000000 in
set_option maxRecDepth 100000 in
theorem tX12_stopped (l : Launch) (D : va_G) (cy : Nat → ClassId) (ad : Nat → Nat) (hJ : (mads ad).Nodup) (sz : Nat) (st : St) (rr : Int32) (st' : St) (hf : fX12_stopped  st = some (rr, st')) : Met l yX12_stopped (Cond.code yX12_stopped cX12_stopped 1 (some .int) :: TT) (rmD 0) (mPc D cy ad [] st sz) (mQi D cy ad rr st' sz) 0 0 (mA ad sz) := by
  refine m_meti (by decide) hJ (Nat.le_of_ble_eq_true rfl) (fun p e s m args below meth c ls E hx hb hr hlocks hown hT hD hl hP hS => ?_)
  replace hl : lv_has ls 1 [(0, .ref (ad 100))] := hl
  unfold fX12_stopped at hf
  refine lv_aload_n hx hb dX12_stopped_0 rfl (lv_at hl 0 rfl) ?_
  refine lv_iconst (v := 0) hx hb dX12_stopped_1 (by decide) ?_
  refine mp_0 E hD hP hS dX12_stopped_2 (fun st1 H locs ex hP hS => ?_)
  replace hf := lt_at ex hf; clear ex
  refine lv_aload_n hx hb dX12_stopped_5 rfl (lv_at hl 0 rfl) ?_
  refine mg_48 E hP dX12_stopped_6 ?_
  exact m_iret hx hb hr hlocks hf hP hS dX12_stopped_9
theorem qX12_stopped : yX12_stopped.cls = RX12 ∧ yX12_stopped.cls ≠ "java/lang/invoke/MethodHandle" ∧ yX12_stopped.cls ≠ "java/lang/invoke/VarHandle" ∧ (parseMethodDescriptor yX12_stopped.desc).map (fun d => d.parameters.length) = some 0 := by decide +kernel
def fX12_draw (a0 : Int32) (st : St) : Option (Int32 × St) := lt (sJ st 50 ((((st.2.1 50) * (1103 : Int64)) + (12345 : Int64)) - (((st.2.1 50) * (1103 : Int64)) + (12345 : Int64)) / (1000003 : Int64) * (1000003 : Int64))) (fun st1 => gzl (a0.toInt64) (some (((st1.2.1 50) - (st1.2.1 50) / (a0.toInt64) * (a0.toInt64)).toInt32, st1)))
set_option maxHeartbeats 4000000 in
set_option maxRecDepth 100000 in
theorem tX12_draw (l : Launch) (D : va_G) (cy : Nat → ClassId) (ad : Nat → Nat) (hJ : (mads ad).Nodup) (sz : Nat) (a0 : Int32) (st : St) (rr : Int32) (st' : St) (hf : fX12_draw a0 st = some (rr, st')) : Met l yX12_draw (Cond.code yX12_draw cX12_draw 2 (some .int) :: TT) (rmD 0) (mPc D cy ad [.int a0] st sz) (mQi D cy ad rr st' sz) 0 0 (mA ad sz) := by
  refine m_meti (by decide) hJ (Nat.le_of_ble_eq_true rfl) (fun p e s m args below meth c ls E hx hb hr hlocks hown hT hD hl hP hS => ?_)
  replace hl : lv_has ls 2 [(0, .ref (ad 100)), (1, .int a0)] := hl
  unfold fX12_draw at hf
  refine lv_aload_n hx hb dX12_draw_0 rfl (lv_at hl 0 rfl) ?_
  refine lv_aload_n hx hb dX12_draw_1 rfl (lv_at hl 0 rfl) ?_
  refine mg_50 E hP dX12_draw_2 ?_
  refine lv_ldc2 (v := 1103) hx hb hown (hT _ k_1801) dX12_draw_5 ?_
  refine lv_lmul hx hb dX12_draw_8 ?_
  refine lv_ldc2 (v := 12345) hx hb hown (hT _ k_1802) dX12_draw_9 ?_
  refine lv_ladd hx hb dX12_draw_12 ?_
  refine lv_ldc2 (v := 1000003) hx hb hown (hT _ k_1803) dX12_draw_13 ?_
  refine lv_lrem hx hb dX12_draw_16 (by decide) ?_
  refine mp_50 E hD hP hS dX12_draw_17 (fun st1 H locs ex hP hS => ?_)
  replace hf := lt_at ex hf; clear ex
  refine lv_aload_n hx hb dX12_draw_20 rfl (lv_at hl 0 rfl) ?_
  refine mg_50 E hP dX12_draw_21 ?_
  refine lv_iload_n hx hb dX12_draw_24 rfl (lv_at hl 1 rfl) ?_
  refine lv_i2l (v := a0.toInt64) hx hb dX12_draw_25 rfl ?_
  obtain ⟨hz, hf⟩ := gzl_some hf
  refine lv_lrem hx hb dX12_draw_26 hz ?_
  refine lv_l2i (v := ((st1.2.1 50) - (st1.2.1 50) / (a0.toInt64) * (a0.toInt64)).toInt32) hx hb dX12_draw_27 rfl ?_
  exact m_iret hx hb hr hlocks hf hP hS dX12_draw_28
theorem qX12_draw : yX12_draw.cls = RX12 ∧ yX12_draw.cls ≠ "java/lang/invoke/MethodHandle" ∧ yX12_draw.cls ≠ "java/lang/invoke/VarHandle" ∧ (parseMethodDescriptor yX12_draw.desc).map (fun d => d.parameters.length) = some 1 := by decide +kernel
def fX12_sieges_b29 (st : St) : Option (Int32 × St) := bd (fX12_tell (-1 : Int32) st) (fun r1 st2 => some (r1, st2))
def fX12_sieges_b309 (k309 : Int32 → Int32 → St → Option (Int32 × St)) (v3 : Int32) (v4 : Int32) (st : St) : Option (Int32 × St) := if (4 : Int32) ≤ v4 then (bd (fX12_putBack (16 : Int32) st) (fun r3 st4 => bd (fX12_tell v3 st4) (fun r5 st6 => some (r5, st6)))) else (gi ((9 : Int32) + v4) 5550 (gi ((18 : Int32) + v4) 22 (lt (sA st 51 (upd (st.2.2.1 51) ((18 : Int32) + v4).toNatClampNeg (st.2.2.1 3 ((9 : Int32) + v4).toNatClampNeg))) (fun st7 => lt (v4 + (1 : Int32)) (fun x8 => k309 v3 x8 st7)))))
def fX12_sieges_b230 (k230 : Int32 → Int32 → St → Option (Int32 × St)) (v3 : Int32) (v4 : Int32) (st : St) : Option (Int32 × St) := if (st.1 52) ≤ v4 then (lp (fun _ _ _ => none) (fX12_sieges_b309) 6000 v3 (0 : Int32) st) else (gi ((13 : Int32) + v4) 5550 (gi ((3 : Int32) * v4) 22 (lt (sA st 51 (upd (st.2.2.1 51) ((3 : Int32) * v4).toNatClampNeg (st.2.2.1 3 ((13 : Int32) + v4).toNatClampNeg))) (fun st9 => gi ((25 : Int32) + v4) 5550 (gi (((3 : Int32) * v4) + (1 : Int32)) 22 (lt (sA st9 51 (upd (st9.2.2.1 51) (((3 : Int32) * v4) + (1 : Int32)).toNatClampNeg (st9.2.2.1 3 ((25 : Int32) + v4).toNatClampNeg))) (fun st10 => gi ((19 : Int32) + v4) 5550 (gi (((3 : Int32) * v4) + (2 : Int32)) 22 (lt (sA st10 51 (upd (st10.2.2.1 51) (((3 : Int32) * v4) + (2 : Int32)).toNatClampNeg (st10.2.2.1 3 ((19 : Int32) + v4).toNatClampNeg))) (fun st11 => lt (v4 + (1 : Int32)) (fun x12 => k230 v3 x12 st11)))))))))))
def fX12_sieges_b211 (k68 : Int32 → Int32 → Int32 → St → Option (Int32 × St)) (v2 : Int32) (v3 : Int32) (v4 : Int32) (st : St) : Option (Int32 × St) := lt (v4 + (1 : Int32)) (fun x13 => k68 v2 v3 x13 st)
def fX12_sieges_b209 (k68 : Int32 → Int32 → Int32 → St → Option (Int32 × St)) (v2 : Int32) (v4 : Int32) (w0 : Int32) (w1 : Int32) (st : St) : Option (Int32 × St) := lt (w1 + w0) (fun x14 => fX12_sieges_b211 k68 v2 x14 v4 st)
def fX12_sieges_b208 (k68 : Int32 → Int32 → Int32 → St → Option (Int32 × St)) (v2 : Int32) (v4 : Int32) (w0 : Int32) (st : St) : Option (Int32 × St) := fX12_sieges_b209 k68 v2 v4 (0 : Int32) w0 st
def fX12_sieges_b181 (k68 : Int32 → Int32 → Int32 → St → Option (Int32 × St)) (v2 : Int32) (v3 : Int32) (v4 : Int32) (v5 : Int32) (v6 : Int32) (w0 : Int32) (w1 : Int32) (st : St) : Option (Int32 × St) := gi w1 5550 (lt (sA st 3 (upd (st.2.2.1 3) w1.toNatClampNeg w0)) (fun st15 => bd (fX12_canMarch v5 st15) (fun r16 st17 => if r16 = 0 then (fX12_sieges_b208 k68 v2 v4 v3 st17) else (bd (fX12_marchIt v6 v5 st17) (fun r18 st19 => if r18 = (1 : Int32) then (fX12_sieges_b209 k68 v2 v4 (1 : Int32) v3 st19) else (fX12_sieges_b208 k68 v2 v4 v3 st19))))))
def fX12_sieges_b68 (k68 : Int32 → Int32 → Int32 → St → Option (Int32 × St)) (v2 : Int32) (v3 : Int32) (v4 : Int32) (st : St) : Option (Int32 × St) := if v2 ≤ v4 then (lt (sI st 52 (st.2.2.1 3 (0 : Int32).toNatClampNeg)) (fun st20 => lp (fun _ _ _ => none) (fX12_sieges_b230) 6000 v3 (0 : Int32) st20)) else (bd (fX12_draw (st.2.2.1 3 (0 : Int32).toNatClampNeg) st) (fun r21 st22 => bd (fX12_draw (99 : Int32) st22) (fun r23 st24 => lt (r23 + (1 : Int32)) (fun x25 => bd (fX12_draw (6 : Int32) st24) (fun r26 st27 => gi ((25 : Int32) + r21) 5550 (if (st27.2.2.1 3 ((25 : Int32) + r21).toNatClampNeg) = 0 then (gi ((19 : Int32) + r21) 5550 (lt (st27.2.2.1 3 ((19 : Int32) + r21).toNatClampNeg) (fun x28 => bs (fX12_is x28 r26) (fun r29 => if r29 = 0 then (bd (fX12_canShow r21 r26 st27) (fun r30 st31 => if r30 = 0 then (fX12_sieges_b181 k68 v2 v3 v4 r21 x25 x28 ((19 : Int32) + r21) st31) else (fX12_sieges_b181 k68 v2 v3 v4 r21 x25 (x28 ||| ((1 : Int32) <<< (r26 &&& 31))) ((19 : Int32) + r21) st31))) else (fX12_sieges_b181 k68 v2 v3 v4 r21 x25 (x28 - ((1 : Int32) <<< (r26 &&& 31))) ((19 : Int32) + r21) st27))))) else (fX12_sieges_b211 k68 v2 v3 v4 st27)))))))
def fX12_sieges (a0 : Int32) (a1 : Int32) (st : St) : Option (Int32 × St) := lt (sI st 0 (0 : Int32)) (fun st32 => bs (fX12_in (a0.toInt64) (0 : Int64) (1000000 : Int64)) (fun r33 => if r33 = 0 then (fX12_sieges_b29 st32) else (bs (fX12_in (a1.toInt64) (1 : Int64) (60 : Int64)) (fun r34 => if r34 = 0 then (fX12_sieges_b29 st32) else (if (st32.2.2.1 3 (0 : Int32).toNatClampNeg) = 0 then (bd (fX12_tell (-3 : Int32) st32) (fun r38 st39 => some (r38, st39))) else (bd (fX12_keepAll (16 : Int32) st32) (fun r35 st36 => lt (sJ st36 50 (a0.toInt64)) (fun st37 => lp (fun _ _ _ _ => none) (fX12_sieges_b68) 6000 a1 (0 : Int32) (0 : Int32) st37))))))))
set_option maxHeartbeats 4000000 in
set_option maxRecDepth 100000 in
theorem tX12_sieges (l : Launch) (D : va_G) (cy : Nat → ClassId) (ad : Nat → Nat) (hJ : (mads ad).Nodup) (sz : Nat) (a0 : Int32) (a1 : Int32) (st : St) (rr : Int32) (st' : St) (hf : fX12_sieges a0 a1 st = some (rr, st')) : Met l yX12_sieges (Cond.code yX12_sieges cX12_sieges 9 (some .int) :: TT) (rmD 8) (mPc D cy ad [.int a0, .int a1] st sz) (mQi D cy ad rr st' sz) 0 0 (mA ad sz) := by
  refine m_meti (by decide) hJ (Nat.le_of_ble_eq_true rfl) (fun p e s m args below meth c ls E hx hb hr hlocks hown hT hD hl hP hS => ?_)
  replace hl : lv_has ls 9 [(0, .ref (ad 100)), (1, .int a0), (2, .int a1)] := hl
  unfold fX12_sieges at hf
  have B29 : ∀ (st : St) (H : Heap) (locs : List Loc) (ls : Array Slot), fX12_sieges_b29 st = some (rr, st') → lv_has ls 9 [(0, .ref (ad 100))] → va_P D classes (mw cy ad st) H → va_S (mA ad s.heap.size) s.heap H locs → mGi l 8 D cy ad rr st' p e s m args below meth c H locs (F0 m 29 ls []) := by
    intro st H locs ls hf hl hP hS
    unfold fX12_sieges_b29 at hf
    refine lv_aload_n hx hb dX12_sieges_29 rfl (lv_at hl 0 rfl) ?_
    refine lv_iconst (v := -1) hx hb dX12_sieges_30 (by decide) ?_
    obtain ⟨r1, st2, hc, hf⟩ := bd_some hf
    refine m_calli (n := 1) (rest := []) E hP hS (fun sz => tX12_tell l D cy ad hJ sz (-1 : Int32) st r1 st2 hc) (gV k_1338 k_1340 ks_37 k_14 k_1341) qX12_tell ⟨Nat.le_of_ble_eq_true rfl, Nat.le_of_ble_eq_true rfl⟩ ⟨Nat.le_refl _, Nat.le_refl _⟩ rfl hl.1 rfl (Nat.le_of_ble_eq_true rfl) dX12_sieges_31 (fun H locs hP hS => ?_)
    exact m_iret hx hb hr hlocks hf hP hS dX12_sieges_34
  have L309 : ∀ (n : Nat) (v3 : Int32) (v4 : Int32) (st : St) (H : Heap) (locs : List Loc) (ls : Array Slot), lp (fun _ _ _ => none) (fX12_sieges_b309) n v3 v4 st = some (rr, st') → lv_has ls 9 [(0, .ref (ad 100)), (3, .int v3), (4, .int v4)] → va_P D classes (mw cy ad st) H → va_S (mA ad s.heap.size) s.heap H locs → mGi l 8 D cy ad rr st' p e s m args below meth c H locs (F0 m 309 ls []) := by
    intro n
    induction n with
    | zero => intro v3 v4 st H locs ls hf; exact absurd hf (fun h => by cases h)
    | succ n K309 =>
      intro v3 v4 st H locs ls hf hl hP hS
      replace hf : fX12_sieges_b309 (lp (fun _ _ _ => none) (fX12_sieges_b309) n) v3 v4 st = some (rr, st') := hf
      generalize lp (fun _ _ _ => none) (fX12_sieges_b309) n = k309 at hf K309
      unfold fX12_sieges_b309 at hf
      refine lv_iload hx hb dX12_sieges_309 (lv_at hl 2 rfl) ?_
      refine lv_iconst (v := 4) hx hb dX12_sieges_311 (by decide) ?_
      refine lv_icmp_ge (tgt := 341) hx hb dX12_sieges_312 (by decide) (fun hc => ?_) (fun hc => ?_)
      · replace hf := it_pos hc hf
        refine lv_aload_n hx hb dX12_sieges_341 rfl (lv_at hl 0 rfl) ?_
        refine lv_bipush (v := 16) hx hb dX12_sieges_342 (by decide) ?_
        obtain ⟨r3, st4, hc, hf⟩ := bd_some hf
        refine m_callv (n := 1) (rest := []) E hP hS (fun sz => tX12_putBack l D cy ad hJ sz (16 : Int32) st r3 st4 hc) (gV k_1342 k_1344 ks_38 k_14 k_1345) qX12_putBack ⟨Nat.le_of_ble_eq_true rfl, Nat.le_of_ble_eq_true rfl⟩ ⟨Nat.le_refl _, Nat.le_refl _⟩ rfl hl.1 rfl (Nat.le_of_ble_eq_true rfl) dX12_sieges_344 (fun H locs hP hS => ?_)
        refine lv_aload_n hx hb dX12_sieges_347 rfl (lv_at hl 0 rfl) ?_
        refine lv_iload_n hx hb dX12_sieges_348 rfl (lv_at hl 1 rfl) ?_
        obtain ⟨r5, st6, hc, hf⟩ := bd_some hf
        refine m_calli (n := 1) (rest := []) E hP hS (fun sz => tX12_tell l D cy ad hJ sz v3 st4 r5 st6 hc) (gV k_1338 k_1340 ks_37 k_14 k_1341) qX12_tell ⟨Nat.le_of_ble_eq_true rfl, Nat.le_of_ble_eq_true rfl⟩ ⟨Nat.le_refl _, Nat.le_refl _⟩ rfl hl.1 rfl (Nat.le_of_ble_eq_true rfl) dX12_sieges_349 (fun H locs hP hS => ?_)
        exact m_iret hx hb hr hlocks hf hP hS dX12_sieges_352
      · replace hf := it_neg hc hf
        refine lv_aload_n hx hb dX12_sieges_315 rfl (lv_at hl 0 rfl) ?_
        refine mg_51 E hP dX12_sieges_316 ?_
        refine lv_bipush (v := 18) hx hb dX12_sieges_319 (by decide) ?_
        refine lv_iload hx hb dX12_sieges_321 (lv_at hl 2 rfl) ?_
        refine lv_iadd hx hb dX12_sieges_323 ?_
        refine lv_aload_n hx hb dX12_sieges_324 rfl (lv_at hl 0 rfl) ?_
        refine mg_3 E hP dX12_sieges_325 ?_
        refine lv_bipush (v := 9) hx hb dX12_sieges_328 (by decide) ?_
        refine lv_iload hx hb dX12_sieges_330 (lv_at hl 2 rfl) ?_
        refine lv_iadd hx hb dX12_sieges_332 ?_
        obtain ⟨hi, hf⟩ := gi_some hf
        refine ml_3 E hP hi dX12_sieges_333 ?_
        obtain ⟨hi, hf⟩ := gi_some hf
        refine ms_51 E hD hP hS hi dX12_sieges_334 (fun st7 H locs ex hP hS => ?_)
        replace hf := lt_at ex hf; clear ex
        obtain ⟨x8, ex⟩ : ∃ y : Int32, y = v4 + (1 : Int32) := ⟨_, rfl⟩
        replace hf := lt_at ex hf
        refine lv_iinc (v := x8) (lv' := [(4, .int x8), (0, .ref (ad 100)), (3, .int v3)]) hx hb dX12_sieges_335 hl (k := 2) rfl (by rw [ex]; rfl) (by decide) rfl (fun ls hl => ?_)
        clear ex
        refine lv_goto (tgt := 309) hx hb dX12_sieges_338 (by decide) ?_
        exact K309 v3 x8 st7 _ _ ls hf (lv_sub hl [1, 2, 0] rfl) hP hS
  have L230 : ∀ (n : Nat) (v3 : Int32) (v4 : Int32) (st : St) (H : Heap) (locs : List Loc) (ls : Array Slot), lp (fun _ _ _ => none) (fX12_sieges_b230) n v3 v4 st = some (rr, st') → lv_has ls 9 [(0, .ref (ad 100)), (3, .int v3), (4, .int v4)] → va_P D classes (mw cy ad st) H → va_S (mA ad s.heap.size) s.heap H locs → mGi l 8 D cy ad rr st' p e s m args below meth c H locs (F0 m 230 ls []) := by
    intro n
    induction n with
    | zero => intro v3 v4 st H locs ls hf; exact absurd hf (fun h => by cases h)
    | succ n K230 =>
      intro v3 v4 st H locs ls hf hl hP hS
      replace hf : fX12_sieges_b230 (lp (fun _ _ _ => none) (fX12_sieges_b230) n) v3 v4 st = some (rr, st') := hf
      generalize lp (fun _ _ _ => none) (fX12_sieges_b230) n = k230 at hf K230
      unfold fX12_sieges_b230 at hf
      refine lv_iload hx hb dX12_sieges_230 (lv_at hl 2 rfl) ?_
      refine lv_aload_n hx hb dX12_sieges_232 rfl (lv_at hl 0 rfl) ?_
      refine mg_52 E hP dX12_sieges_233 ?_
      refine lv_icmp_ge (tgt := 306) hx hb dX12_sieges_236 (by decide) (fun hc => ?_) (fun hc => ?_)
      · replace hf := it_pos hc hf
        refine lv_iconst (v := 0) hx hb dX12_sieges_306 (by decide) ?_
        refine lv_istore (lv' := [(4, .int (0 : Int32)), (0, .ref (ad 100)), (3, .int v3)]) hx hb dX12_sieges_307 hl (by decide) rfl (fun ls hl => ?_)
        exact L309 6000 v3 (0 : Int32) st _ _ ls hf (lv_sub hl [1, 2, 0] rfl) hP hS
      · replace hf := it_neg hc hf
        refine lv_aload_n hx hb dX12_sieges_239 rfl (lv_at hl 0 rfl) ?_
        refine mg_51 E hP dX12_sieges_240 ?_
        refine lv_iconst (v := 3) hx hb dX12_sieges_243 (by decide) ?_
        refine lv_iload hx hb dX12_sieges_244 (lv_at hl 2 rfl) ?_
        refine lv_imul hx hb dX12_sieges_246 ?_
        refine lv_aload_n hx hb dX12_sieges_247 rfl (lv_at hl 0 rfl) ?_
        refine mg_3 E hP dX12_sieges_248 ?_
        refine lv_bipush (v := 13) hx hb dX12_sieges_251 (by decide) ?_
        refine lv_iload hx hb dX12_sieges_253 (lv_at hl 2 rfl) ?_
        refine lv_iadd hx hb dX12_sieges_255 ?_
        obtain ⟨hi, hf⟩ := gi_some hf
        refine ml_3 E hP hi dX12_sieges_256 ?_
        obtain ⟨hi, hf⟩ := gi_some hf
        refine ms_51 E hD hP hS hi dX12_sieges_257 (fun st9 H locs ex hP hS => ?_)
        replace hf := lt_at ex hf; clear ex
        refine lv_aload_n hx hb dX12_sieges_258 rfl (lv_at hl 0 rfl) ?_
        refine mg_51 E hP dX12_sieges_259 ?_
        refine lv_iconst (v := 3) hx hb dX12_sieges_262 (by decide) ?_
        refine lv_iload hx hb dX12_sieges_263 (lv_at hl 2 rfl) ?_
        refine lv_imul hx hb dX12_sieges_265 ?_
        refine lv_iconst (v := 1) hx hb dX12_sieges_266 (by decide) ?_
        refine lv_iadd hx hb dX12_sieges_267 ?_
        refine lv_aload_n hx hb dX12_sieges_268 rfl (lv_at hl 0 rfl) ?_
        refine mg_3 E hP dX12_sieges_269 ?_
        refine lv_bipush (v := 25) hx hb dX12_sieges_272 (by decide) ?_
        refine lv_iload hx hb dX12_sieges_274 (lv_at hl 2 rfl) ?_
        refine lv_iadd hx hb dX12_sieges_276 ?_
        obtain ⟨hi, hf⟩ := gi_some hf
        refine ml_3 E hP hi dX12_sieges_277 ?_
        obtain ⟨hi, hf⟩ := gi_some hf
        refine ms_51 E hD hP hS hi dX12_sieges_278 (fun st10 H locs ex hP hS => ?_)
        replace hf := lt_at ex hf; clear ex
        refine lv_aload_n hx hb dX12_sieges_279 rfl (lv_at hl 0 rfl) ?_
        refine mg_51 E hP dX12_sieges_280 ?_
        refine lv_iconst (v := 3) hx hb dX12_sieges_283 (by decide) ?_
        refine lv_iload hx hb dX12_sieges_284 (lv_at hl 2 rfl) ?_
        refine lv_imul hx hb dX12_sieges_286 ?_
        refine lv_iconst (v := 2) hx hb dX12_sieges_287 (by decide) ?_
        refine lv_iadd hx hb dX12_sieges_288 ?_
        refine lv_aload_n hx hb dX12_sieges_289 rfl (lv_at hl 0 rfl) ?_
        refine mg_3 E hP dX12_sieges_290 ?_
        refine lv_bipush (v := 19) hx hb dX12_sieges_293 (by decide) ?_
        refine lv_iload hx hb dX12_sieges_295 (lv_at hl 2 rfl) ?_
        refine lv_iadd hx hb dX12_sieges_297 ?_
        obtain ⟨hi, hf⟩ := gi_some hf
        refine ml_3 E hP hi dX12_sieges_298 ?_
        obtain ⟨hi, hf⟩ := gi_some hf
        refine ms_51 E hD hP hS hi dX12_sieges_299 (fun st11 H locs ex hP hS => ?_)
        replace hf := lt_at ex hf; clear ex
        obtain ⟨x12, ex⟩ : ∃ y : Int32, y = v4 + (1 : Int32) := ⟨_, rfl⟩
        replace hf := lt_at ex hf
        refine lv_iinc (v := x12) (lv' := [(4, .int x12), (0, .ref (ad 100)), (3, .int v3)]) hx hb dX12_sieges_300 hl (k := 2) rfl (by rw [ex]; rfl) (by decide) rfl (fun ls hl => ?_)
        clear ex
        refine lv_goto (tgt := 230) hx hb dX12_sieges_303 (by decide) ?_
        exact K230 v3 x12 st11 _ _ ls hf (lv_sub hl [1, 2, 0] rfl) hP hS
  have L68 : ∀ (n : Nat) (v2 : Int32) (v3 : Int32) (v4 : Int32) (st : St) (H : Heap) (locs : List Loc) (ls : Array Slot), lp (fun _ _ _ _ => none) (fX12_sieges_b68) n v2 v3 v4 st = some (rr, st') → lv_has ls 9 [(0, .ref (ad 100)), (2, .int v2), (3, .int v3), (4, .int v4)] → va_P D classes (mw cy ad st) H → va_S (mA ad s.heap.size) s.heap H locs → mGi l 8 D cy ad rr st' p e s m args below meth c H locs (F0 m 68 ls []) := by
    intro n
    induction n with
    | zero => intro v2 v3 v4 st H locs ls hf; exact absurd hf (fun h => by cases h)
    | succ n K68 =>
      intro v2 v3 v4 st H locs ls hf hl hP hS
      replace hf : fX12_sieges_b68 (lp (fun _ _ _ _ => none) (fX12_sieges_b68) n) v2 v3 v4 st = some (rr, st') := hf
      generalize lp (fun _ _ _ _ => none) (fX12_sieges_b68) n = k68 at hf K68
      have B211 : ∀ (v2 : Int32) (v3 : Int32) (v4 : Int32) (st : St) (H : Heap) (locs : List Loc) (ls : Array Slot), fX12_sieges_b211 k68 v2 v3 v4 st = some (rr, st') → lv_has ls 9 [(0, .ref (ad 100)), (2, .int v2), (3, .int v3), (4, .int v4)] → va_P D classes (mw cy ad st) H → va_S (mA ad s.heap.size) s.heap H locs → mGi l 8 D cy ad rr st' p e s m args below meth c H locs (F0 m 211 ls []) := by
        intro v2 v3 v4 st H locs ls hf hl hP hS
        unfold fX12_sieges_b211 at hf
        obtain ⟨x13, ex⟩ : ∃ y : Int32, y = v4 + (1 : Int32) := ⟨_, rfl⟩
        replace hf := lt_at ex hf
        refine lv_iinc (v := x13) (lv' := [(4, .int x13), (0, .ref (ad 100)), (2, .int v2), (3, .int v3)]) hx hb dX12_sieges_211 hl (k := 3) rfl (by rw [ex]; rfl) (by decide) rfl (fun ls hl => ?_)
        clear ex
        refine lv_goto (tgt := 68) hx hb dX12_sieges_214 (by decide) ?_
        exact K68 v2 v3 x13 st _ _ ls hf (lv_sub hl [1, 2, 3, 0] rfl) hP hS
      have B209 : ∀ (v2 : Int32) (v4 : Int32) (w0 : Int32) (w1 : Int32) (st : St) (H : Heap) (locs : List Loc) (ls : Array Slot), fX12_sieges_b209 k68 v2 v4 w0 w1 st = some (rr, st') → lv_has ls 9 [(0, .ref (ad 100)), (2, .int v2), (4, .int v4)] → va_P D classes (mw cy ad st) H → va_S (mA ad s.heap.size) s.heap H locs → mGi l 8 D cy ad rr st' p e s m args below meth c H locs (F0 m 209 ls [.int w0, .int w1]) := by
        intro v2 v4 w0 w1 st H locs ls hf hl hP hS
        unfold fX12_sieges_b209 at hf
        refine lv_iadd hx hb dX12_sieges_209 ?_
        refine lv_topi (fun x14 ex => ?_)
        replace hf := lt_at ex hf; clear ex
        refine lv_istore_n (lv' := [(3, .int x14), (0, .ref (ad 100)), (2, .int v2), (4, .int v4)]) hx hb dX12_sieges_210 rfl hl (by decide) rfl (fun ls hl => ?_)
        exact B211 v2 x14 v4 st _ _ ls hf (lv_sub hl [1, 2, 0, 3] rfl) hP hS
      have B208 : ∀ (v2 : Int32) (v4 : Int32) (w0 : Int32) (st : St) (H : Heap) (locs : List Loc) (ls : Array Slot), fX12_sieges_b208 k68 v2 v4 w0 st = some (rr, st') → lv_has ls 9 [(0, .ref (ad 100)), (2, .int v2), (4, .int v4)] → va_P D classes (mw cy ad st) H → va_S (mA ad s.heap.size) s.heap H locs → mGi l 8 D cy ad rr st' p e s m args below meth c H locs (F0 m 208 ls [.int w0]) := by
        intro v2 v4 w0 st H locs ls hf hl hP hS
        unfold fX12_sieges_b208 at hf
        refine lv_iconst (v := 0) hx hb dX12_sieges_208 (by decide) ?_
        exact B209 v2 v4 (0 : Int32) w0 st _ _ ls hf hl hP hS
      have B181 : ∀ (v2 : Int32) (v3 : Int32) (v4 : Int32) (v5 : Int32) (v6 : Int32) (w0 : Int32) (w1 : Int32) (st : St) (H : Heap) (locs : List Loc) (ls : Array Slot), fX12_sieges_b181 k68 v2 v3 v4 v5 v6 w0 w1 st = some (rr, st') → lv_has ls 9 [(0, .ref (ad 100)), (2, .int v2), (3, .int v3), (4, .int v4), (5, .int v5), (6, .int v6)] → va_P D classes (mw cy ad st) H → va_S (mA ad s.heap.size) s.heap H locs → mGi l 8 D cy ad rr st' p e s m args below meth c H locs (F0 m 181 ls [.int w0, .int w1, .ref (ad 3)]) := by
        intro v2 v3 v4 v5 v6 w0 w1 st H locs ls hf hl hP hS
        unfold fX12_sieges_b181 at hf
        obtain ⟨hi, hf⟩ := gi_some hf
        refine ms_3 E hD hP hS hi dX12_sieges_181 (fun st15 H locs ex hP hS => ?_)
        replace hf := lt_at ex hf; clear ex
        refine lv_iload_n hx hb dX12_sieges_182 rfl (lv_at hl 2 rfl) ?_
        refine lv_aload_n hx hb dX12_sieges_183 rfl (lv_at hl 0 rfl) ?_
        refine lv_iload hx hb dX12_sieges_184 (lv_at hl 4 rfl) ?_
        obtain ⟨r16, st17, hc, hf⟩ := bd_some hf
        refine m_calli (n := 1) (rest := [.int v3]) E hP hS (fun sz => tX12_canMarch l D cy ad hJ sz v5 st15 r16 st17 hc) (gV k_1654 k_1656 ks_84 k_14 k_1657) qX12_canMarch ⟨Nat.le_of_ble_eq_true rfl, Nat.le_of_ble_eq_true rfl⟩ ⟨Nat.le_refl _, Nat.le_refl _⟩ rfl hl.1 rfl (Nat.le_of_ble_eq_true rfl) dX12_sieges_186 (fun H locs hP hS => ?_)
        refine lv_if_eq (tgt := 208) hx hb dX12_sieges_189 (by decide) (fun hc => ?_) (fun hc => ?_)
        · replace hf := it_pos hc hf
          exact B208 v2 v4 v3 st17 _ _ ls hf (lv_sub hl [0, 1, 3] rfl) hP hS
        · replace hf := it_neg hc hf
          refine lv_aload_n hx hb dX12_sieges_192 rfl (lv_at hl 0 rfl) ?_
          refine lv_iload hx hb dX12_sieges_193 (lv_at hl 5 rfl) ?_
          refine lv_iload hx hb dX12_sieges_195 (lv_at hl 4 rfl) ?_
          obtain ⟨r18, st19, hc, hf⟩ := bd_some hf
          refine m_calli (n := 2) (rest := [.int v3]) E hP hS (fun sz => tX12_marchIt l D cy ad hJ sz v6 v5 st17 r18 st19 hc) (gV k_1658 k_1660 ks_85 k_14 k_1661) qX12_marchIt ⟨Nat.le_of_ble_eq_true rfl, Nat.le_of_ble_eq_true rfl⟩ ⟨Nat.le_refl _, Nat.le_refl _⟩ rfl hl.1 rfl (Nat.le_of_ble_eq_true rfl) dX12_sieges_197 (fun H locs hP hS => ?_)
          refine lv_iconst (v := 1) hx hb dX12_sieges_200 (by decide) ?_
          refine lv_icmp_ne (tgt := 208) hx hb dX12_sieges_201 (by decide) (fun hc => ?_) (fun hc => ?_)
          · replace hf := it_neg hc hf
            exact B208 v2 v4 v3 st19 _ _ ls hf (lv_sub hl [0, 1, 3] rfl) hP hS
          · replace hf := it_pos hc hf
            refine lv_iconst (v := 1) hx hb dX12_sieges_204 (by decide) ?_
            refine lv_goto (tgt := 209) hx hb dX12_sieges_205 (by decide) ?_
            exact B209 v2 v4 (1 : Int32) v3 st19 _ _ ls hf (lv_sub hl [0, 1, 3] rfl) hP hS
      unfold fX12_sieges_b68 at hf
      refine lv_iload hx hb dX12_sieges_68 (lv_at hl 3 rfl) ?_
      refine lv_iload_n hx hb dX12_sieges_70 rfl (lv_at hl 1 rfl) ?_
      refine lv_icmp_ge (tgt := 217) hx hb dX12_sieges_71 (by decide) (fun hc => ?_) (fun hc => ?_)
      · replace hf := it_pos hc hf
        refine lv_aload_n hx hb dX12_sieges_217 rfl (lv_at hl 0 rfl) ?_
        refine lv_aload_n hx hb dX12_sieges_218 rfl (lv_at hl 0 rfl) ?_
        refine mg_3 E hP dX12_sieges_219 ?_
        refine lv_iconst (v := 0) hx hb dX12_sieges_222 (by decide) ?_
        refine ml_3 E hP (vi rfl) dX12_sieges_223 ?_
        refine mp_52 E hD hP hS dX12_sieges_224 (fun st20 H locs ex hP hS => ?_)
        replace hf := lt_at ex hf; clear ex
        refine lv_iconst (v := 0) hx hb dX12_sieges_227 (by decide) ?_
        refine lv_istore (lv' := [(4, .int (0 : Int32)), (0, .ref (ad 100)), (2, .int v2), (3, .int v3)]) hx hb dX12_sieges_228 hl (by decide) rfl (fun ls hl => ?_)
        exact L230 6000 v3 (0 : Int32) st20 _ _ ls hf (lv_sub hl [1, 3, 0] rfl) hP hS
      · replace hf := it_neg hc hf
        refine lv_aload_n hx hb dX12_sieges_74 rfl (lv_at hl 0 rfl) ?_
        refine lv_aload_n hx hb dX12_sieges_75 rfl (lv_at hl 0 rfl) ?_
        refine mg_3 E hP dX12_sieges_76 ?_
        refine lv_iconst (v := 0) hx hb dX12_sieges_79 (by decide) ?_
        refine ml_3 E hP (vi rfl) dX12_sieges_80 ?_
        obtain ⟨r21, st22, hc, hf⟩ := bd_some hf
        refine m_calli (n := 1) (rest := []) E hP hS (fun sz => tX12_draw l D cy ad hJ sz (st.2.2.1 3 (0 : Int32).toNatClampNeg) st r21 st22 hc) (gV k_1797 k_1799 ks_98 k_14 k_1800) qX12_draw ⟨Nat.le_of_ble_eq_true rfl, Nat.le_of_ble_eq_true rfl⟩ ⟨Nat.le_refl _, Nat.le_refl _⟩ rfl hl.1 rfl (Nat.le_of_ble_eq_true rfl) dX12_sieges_81 (fun H locs hP hS => ?_)
        refine lv_istore (lv' := [(5, .int r21), (0, .ref (ad 100)), (2, .int v2), (3, .int v3), (4, .int v4)]) hx hb dX12_sieges_84 hl (by decide) rfl (fun ls hl => ?_)
        refine lv_aload_n hx hb dX12_sieges_86 rfl (lv_at hl 1 rfl) ?_
        refine lv_bipush (v := 99) hx hb dX12_sieges_87 (by decide) ?_
        obtain ⟨r23, st24, hc, hf⟩ := bd_some hf
        refine m_calli (n := 1) (rest := []) E hP hS (fun sz => tX12_draw l D cy ad hJ sz (99 : Int32) st22 r23 st24 hc) (gV k_1797 k_1799 ks_98 k_14 k_1800) qX12_draw ⟨Nat.le_of_ble_eq_true rfl, Nat.le_of_ble_eq_true rfl⟩ ⟨Nat.le_refl _, Nat.le_refl _⟩ rfl hl.1 rfl (Nat.le_of_ble_eq_true rfl) dX12_sieges_89 (fun H locs hP hS => ?_)
        refine lv_iconst (v := 1) hx hb dX12_sieges_92 (by decide) ?_
        refine lv_iadd hx hb dX12_sieges_93 ?_
        refine lv_topi (fun x25 ex => ?_)
        replace hf := lt_at ex hf; clear ex
        refine lv_istore (lv' := [(6, .int x25), (5, .int r21), (0, .ref (ad 100)), (2, .int v2), (3, .int v3), (4, .int v4)]) hx hb dX12_sieges_94 hl (by decide) rfl (fun ls hl => ?_)
        refine lv_aload_n hx hb dX12_sieges_96 rfl (lv_at hl 2 rfl) ?_
        refine lv_bipush (v := 6) hx hb dX12_sieges_97 (by decide) ?_
        obtain ⟨r26, st27, hc, hf⟩ := bd_some hf
        refine m_calli (n := 1) (rest := []) E hP hS (fun sz => tX12_draw l D cy ad hJ sz (6 : Int32) st24 r26 st27 hc) (gV k_1797 k_1799 ks_98 k_14 k_1800) qX12_draw ⟨Nat.le_of_ble_eq_true rfl, Nat.le_of_ble_eq_true rfl⟩ ⟨Nat.le_refl _, Nat.le_refl _⟩ rfl hl.1 rfl (Nat.le_of_ble_eq_true rfl) dX12_sieges_99 (fun H locs hP hS => ?_)
        refine lv_istore (lv' := [(7, .int r26), (6, .int x25), (5, .int r21), (0, .ref (ad 100)), (2, .int v2), (3, .int v3), (4, .int v4)]) hx hb dX12_sieges_102 hl (by decide) rfl (fun ls hl => ?_)
        refine lv_aload_n hx hb dX12_sieges_104 rfl (lv_at hl 3 rfl) ?_
        refine mg_3 E hP dX12_sieges_105 ?_
        refine lv_bipush (v := 25) hx hb dX12_sieges_108 (by decide) ?_
        refine lv_iload hx hb dX12_sieges_110 (lv_at hl 2 rfl) ?_
        refine lv_iadd hx hb dX12_sieges_112 ?_
        obtain ⟨hi, hf⟩ := gi_some hf
        refine ml_3 E hP hi dX12_sieges_113 ?_
        refine lv_if_ne (tgt := 211) hx hb dX12_sieges_114 (by decide) (fun hc => ?_) (fun hc => ?_)
        · replace hf := it_neg hc hf
          exact B211 v2 v3 v4 st27 _ _ ls hf (lv_sub hl [3, 4, 5, 6] rfl) hP hS
        · replace hf := it_pos hc hf
          refine lv_aload_n hx hb dX12_sieges_117 rfl (lv_at hl 3 rfl) ?_
          refine mg_3 E hP dX12_sieges_118 ?_
          refine lv_bipush (v := 19) hx hb dX12_sieges_121 (by decide) ?_
          refine lv_iload hx hb dX12_sieges_123 (lv_at hl 2 rfl) ?_
          refine lv_iadd hx hb dX12_sieges_125 ?_
          obtain ⟨hi, hf⟩ := gi_some hf
          refine ml_3 E hP hi dX12_sieges_126 ?_
          refine lv_topi (fun x28 ex => ?_)
          replace hf := lt_at ex hf; clear ex
          refine lv_istore (lv' := [(8, .int x28), (7, .int r26), (6, .int x25), (5, .int r21), (0, .ref (ad 100)), (2, .int v2), (3, .int v3), (4, .int v4)]) hx hb dX12_sieges_127 hl (by decide) rfl (fun ls hl => ?_)
          refine lv_aload_n hx hb dX12_sieges_129 rfl (lv_at hl 4 rfl) ?_
          refine mg_3 E hP dX12_sieges_130 ?_
          refine lv_bipush (v := 19) hx hb dX12_sieges_133 (by decide) ?_
          refine lv_iload hx hb dX12_sieges_135 (lv_at hl 3 rfl) ?_
          refine lv_iadd hx hb dX12_sieges_137 ?_
          refine lv_iload hx hb dX12_sieges_138 (lv_at hl 0 rfl) ?_
          refine lv_iload hx hb dX12_sieges_140 (lv_at hl 1 rfl) ?_
          obtain ⟨r29, hc, hf⟩ := bs_some hf
          refine s_calli (n := 2) (rest := [.int ((19 : Int32) + r21), .ref (ad 3)]) E.1 (tX12_is l _ x28 r26 r29 hc) (gS k_1380 k_1381 k_14 k_1382) qX12_is ⟨Nat.le_of_ble_eq_true rfl, Nat.le_of_ble_eq_true rfl⟩ ⟨Nat.le_refl _, Nat.le_refl _⟩ rfl hl.1 rfl (Nat.le_of_ble_eq_true rfl) dX12_sieges_142 ?_
          refine lv_if_eq (tgt := 158) hx hb dX12_sieges_145 (by decide) (fun hc => ?_) (fun hc => ?_)
          · replace hf := it_pos hc hf
            refine lv_aload_n hx hb dX12_sieges_158 rfl (lv_at hl 4 rfl) ?_
            refine lv_iload hx hb dX12_sieges_159 (lv_at hl 3 rfl) ?_
            refine lv_iload hx hb dX12_sieges_161 (lv_at hl 1 rfl) ?_
            obtain ⟨r30, st31, hc, hf⟩ := bd_some hf
            refine m_calli (n := 2) (rest := [.int ((19 : Int32) + r21), .ref (ad 3)]) E hP hS (fun sz => tX12_canShow l D cy ad hJ sz r21 r26 st27 r30 st31 hc) (gV k_1617 k_1619 ks_78 k_14 k_1620) qX12_canShow ⟨Nat.le_of_ble_eq_true rfl, Nat.le_of_ble_eq_true rfl⟩ ⟨Nat.le_refl _, Nat.le_refl _⟩ rfl hl.1 rfl (Nat.le_of_ble_eq_true rfl) dX12_sieges_163 (fun H locs hP hS => ?_)
            refine lv_if_eq (tgt := 179) hx hb dX12_sieges_166 (by decide) (fun hc => ?_) (fun hc => ?_)
            · replace hf := it_pos hc hf
              refine lv_iload hx hb dX12_sieges_179 (lv_at hl 0 rfl) ?_
              exact B181 v2 v3 v4 r21 x25 x28 ((19 : Int32) + r21) st31 _ _ ls hf (lv_sub hl [4, 5, 6, 7, 3, 2] rfl) hP hS
            · replace hf := it_neg hc hf
              refine lv_iload hx hb dX12_sieges_169 (lv_at hl 0 rfl) ?_
              refine lv_iconst (v := 1) hx hb dX12_sieges_171 (by decide) ?_
              refine lv_iload hx hb dX12_sieges_172 (lv_at hl 1 rfl) ?_
              refine lv_ishl hx hb dX12_sieges_174 ?_
              refine lv_ior hx hb dX12_sieges_175 ?_
              refine lv_goto (tgt := 181) hx hb dX12_sieges_176 (by decide) ?_
              exact B181 v2 v3 v4 r21 x25 (x28 ||| ((1 : Int32) <<< (r26 &&& 31))) ((19 : Int32) + r21) st31 _ _ ls hf (lv_sub hl [4, 5, 6, 7, 3, 2] rfl) hP hS
          · replace hf := it_neg hc hf
            refine lv_iload hx hb dX12_sieges_148 (lv_at hl 0 rfl) ?_
            refine lv_iconst (v := 1) hx hb dX12_sieges_150 (by decide) ?_
            refine lv_iload hx hb dX12_sieges_151 (lv_at hl 1 rfl) ?_
            refine lv_ishl hx hb dX12_sieges_153 ?_
            refine lv_isub hx hb dX12_sieges_154 ?_
            refine lv_goto (tgt := 181) hx hb dX12_sieges_155 (by decide) ?_
            exact B181 v2 v3 v4 r21 x25 (x28 - ((1 : Int32) <<< (r26 &&& 31))) ((19 : Int32) + r21) st27 _ _ ls hf (lv_sub hl [4, 5, 6, 7, 3, 2] rfl) hP hS
  refine lv_aload_n hx hb dX12_sieges_0 rfl (lv_at hl 0 rfl) ?_
  refine lv_iconst (v := 0) hx hb dX12_sieges_1 (by decide) ?_
  refine mp_0 E hD hP hS dX12_sieges_2 (fun st32 H locs ex hP hS => ?_)
  replace hf := lt_at ex hf; clear ex
  refine lv_iload_n hx hb dX12_sieges_5 rfl (lv_at hl 1 rfl) ?_
  refine lv_i2l (v := a0.toInt64) hx hb dX12_sieges_6 rfl ?_
  refine lv_lconst (v := 0) hx hb dX12_sieges_7 (by decide) ?_
  refine lv_ldc2 (v := 1000000) hx hb hown (hT _ k_1383) dX12_sieges_8 ?_
  obtain ⟨r33, hc, hf⟩ := bs_some hf
  refine s_calli (n := 3) (rest := []) E.1 (tX12_in l _ (a0.toInt64) (0 : Int64) (1000000 : Int64) r33 hc) (gS k_1350 k_1351 k_14 k_1352) qX12_in ⟨Nat.le_of_ble_eq_true rfl, Nat.le_of_ble_eq_true rfl⟩ ⟨Nat.le_refl _, Nat.le_refl _⟩ rfl hl.1 rfl (Nat.le_of_ble_eq_true rfl) dX12_sieges_11 ?_
  refine lv_if_eq (tgt := 29) hx hb dX12_sieges_14 (by decide) (fun hc => ?_) (fun hc => ?_)
  · replace hf := it_pos hc hf
    exact B29 st32 _ _ ls hf (lv_sub hl [0] rfl) hP hS
  · replace hf := it_neg hc hf
    refine lv_iload_n hx hb dX12_sieges_17 rfl (lv_at hl 2 rfl) ?_
    refine lv_i2l (v := a1.toInt64) hx hb dX12_sieges_18 rfl ?_
    refine lv_lconst (v := 1) hx hb dX12_sieges_19 (by decide) ?_
    refine lv_ldc2 (v := 60) hx hb hown (hT _ k_1796) dX12_sieges_20 ?_
    obtain ⟨r34, hc, hf⟩ := bs_some hf
    refine s_calli (n := 3) (rest := []) E.1 (tX12_in l _ (a1.toInt64) (1 : Int64) (60 : Int64) r34 hc) (gS k_1350 k_1351 k_14 k_1352) qX12_in ⟨Nat.le_of_ble_eq_true rfl, Nat.le_of_ble_eq_true rfl⟩ ⟨Nat.le_refl _, Nat.le_refl _⟩ rfl hl.1 rfl (Nat.le_of_ble_eq_true rfl) dX12_sieges_23 ?_
    refine lv_if_ne (tgt := 35) hx hb dX12_sieges_26 (by decide) (fun hc => ?_) (fun hc => ?_)
    · replace hf := it_neg hc hf
      refine lv_aload_n hx hb dX12_sieges_35 rfl (lv_at hl 0 rfl) ?_
      refine mg_3 E hP dX12_sieges_36 ?_
      refine lv_iconst (v := 0) hx hb dX12_sieges_39 (by decide) ?_
      refine ml_3 E hP (vi rfl) dX12_sieges_40 ?_
      refine lv_if_ne (tgt := 51) hx hb dX12_sieges_41 (by decide) (fun hc => ?_) (fun hc => ?_)
      · replace hf := it_neg hc hf
        refine lv_aload_n hx hb dX12_sieges_51 rfl (lv_at hl 0 rfl) ?_
        refine lv_bipush (v := 16) hx hb dX12_sieges_52 (by decide) ?_
        obtain ⟨r35, st36, hc, hf⟩ := bd_some hf
        refine m_callv (n := 1) (rest := []) E hP hS (fun sz => tX12_keepAll l D cy ad hJ sz (16 : Int32) st32 r35 st36 hc) (gV k_1625 k_1627 ks_80 k_14 k_1628) qX12_keepAll ⟨Nat.le_of_ble_eq_true rfl, Nat.le_of_ble_eq_true rfl⟩ ⟨Nat.le_refl _, Nat.le_refl _⟩ rfl hl.1 rfl (Nat.le_of_ble_eq_true rfl) dX12_sieges_54 (fun H locs hP hS => ?_)
        refine lv_aload_n hx hb dX12_sieges_57 rfl (lv_at hl 0 rfl) ?_
        refine lv_iload_n hx hb dX12_sieges_58 rfl (lv_at hl 1 rfl) ?_
        refine lv_i2l (v := a0.toInt64) hx hb dX12_sieges_59 rfl ?_
        refine mp_50 E hD hP hS dX12_sieges_60 (fun st37 H locs ex hP hS => ?_)
        replace hf := lt_at ex hf; clear ex
        refine lv_iconst (v := 0) hx hb dX12_sieges_63 (by decide) ?_
        refine lv_istore_n (lv' := [(3, .int (0 : Int32)), (0, .ref (ad 100)), (1, .int a0), (2, .int a1)]) hx hb dX12_sieges_64 rfl hl (by decide) rfl (fun ls hl => ?_)
        refine lv_iconst (v := 0) hx hb dX12_sieges_65 (by decide) ?_
        refine lv_istore (lv' := [(4, .int (0 : Int32)), (3, .int (0 : Int32)), (0, .ref (ad 100)), (1, .int a0), (2, .int a1)]) hx hb dX12_sieges_66 hl (by decide) rfl (fun ls hl => ?_)
        exact L68 6000 a1 (0 : Int32) (0 : Int32) st37 _ _ ls hf (lv_sub hl [2, 4, 1, 0] rfl) hP hS
      · replace hf := it_pos hc hf
        refine lv_aload_n hx hb dX12_sieges_44 rfl (lv_at hl 0 rfl) ?_
        refine lv_bipush (v := -3) hx hb dX12_sieges_45 (by decide) ?_
        obtain ⟨r38, st39, hc, hf⟩ := bd_some hf
        refine m_calli (n := 1) (rest := []) E hP hS (fun sz => tX12_tell l D cy ad hJ sz (-3 : Int32) st32 r38 st39 hc) (gV k_1338 k_1340 ks_37 k_14 k_1341) qX12_tell ⟨Nat.le_of_ble_eq_true rfl, Nat.le_of_ble_eq_true rfl⟩ ⟨Nat.le_refl _, Nat.le_refl _⟩ rfl hl.1 rfl (Nat.le_of_ble_eq_true rfl) dX12_sieges_47 (fun H locs hP hS => ?_)
        exact m_iret hx hb hr hlocks hf hP hS dX12_sieges_50
    · replace hf := it_pos hc hf
      exact B29 st32 _ _ ls hf (lv_sub hl [0] rfl) hP hS
theorem qX12_sieges : yX12_sieges.cls = RX12 ∧ yX12_sieges.cls ≠ "java/lang/invoke/MethodHandle" ∧ yX12_sieges.cls ≠ "java/lang/invoke/VarHandle" ∧ (parseMethodDescriptor yX12_sieges.desc).map (fun d => d.parameters.length) = some 2 := by decide +kernel
def fX12_drawn_b52 (st : St) : Option (Int32 × St) := some ((-1 : Int32), st)
def fX12_drawn_b81 (w0 : Int32) (st : St) : Option (Int32 × St) := some (w0, st)
def fX12_drawn_b46 (v1 : Int32) (v2 : Int32) (w0 : Int64) (w1 : Int64) (w2 : Int64) (st : St) : Option (Int32 × St) := bs (fX12_in w2 w1 w0) (fun r1 => if r1 = 0 then (fX12_drawn_b52 st) else (if v2 = (3 : Int32) then (gi ((18 : Int32) + v1) 22 (fX12_drawn_b81 (st.2.2.1 51 ((18 : Int32) + v1).toNatClampNeg) st)) else (gi (((3 : Int32) * v1) + v2) 22 (fX12_drawn_b81 (st.2.2.1 51 (((3 : Int32) * v1) + v2).toNatClampNeg) st))))
def fX12_drawn (a0 : Int32) (a1 : Int32) (st : St) : Option (Int32 × St) := lt (sI st 0 (0 : Int32)) (fun st2 => if (st2.1 52) = (-1 : Int32) then (fX12_drawn_b52 st2) else (bs (fX12_in (a1.toInt64) (0 : Int64) (3 : Int64)) (fun r3 => if r3 = 0 then (fX12_drawn_b52 st2) else (if a1 = (3 : Int32) then (fX12_drawn_b46 a0 a1 (3 : Int64) (0 : Int64) (a0.toInt64) st2) else (fX12_drawn_b46 a0 a1 (((st2.1 52).toInt64) - (1 : Int64)) (0 : Int64) (a0.toInt64) st2)))))
set_option maxHeartbeats 4000000 in
set_option maxRecDepth 100000 in
theorem tX12_drawn (l : Launch) (D : va_G) (cy : Nat → ClassId) (ad : Nat → Nat) (hJ : (mads ad).Nodup) (sz : Nat) (a0 : Int32) (a1 : Int32) (st : St) (rr : Int32) (st' : St) (hf : fX12_drawn a0 a1 st = some (rr, st')) : Met l yX12_drawn (Cond.code yX12_drawn cX12_drawn 3 (some .int) :: TT) (rmD 1) (mPc D cy ad [.int a0, .int a1] st sz) (mQi D cy ad rr st' sz) 0 0 (mA ad sz) := by
  refine m_meti (by decide) hJ (Nat.le_of_ble_eq_true rfl) (fun p e s m args below meth c ls E hx hb hr hlocks hown hT hD hl hP hS => ?_)
  replace hl : lv_has ls 3 [(0, .ref (ad 100)), (1, .int a0), (2, .int a1)] := hl
  unfold fX12_drawn at hf
  have B52 : ∀ (st : St) (H : Heap) (locs : List Loc) (ls : Array Slot), fX12_drawn_b52 st = some (rr, st') → lv_has ls 3 [] → va_P D classes (mw cy ad st) H → va_S (mA ad s.heap.size) s.heap H locs → mGi l 1 D cy ad rr st' p e s m args below meth c H locs (F0 m 52 ls []) := by
    intro st H locs ls hf hl hP hS
    unfold fX12_drawn_b52 at hf
    refine lv_iconst (v := -1) hx hb dX12_drawn_52 (by decide) ?_
    exact m_iret hx hb hr hlocks hf hP hS dX12_drawn_53
  have B81 : ∀ (w0 : Int32) (st : St) (H : Heap) (locs : List Loc) (ls : Array Slot), fX12_drawn_b81 w0 st = some (rr, st') → lv_has ls 3 [] → va_P D classes (mw cy ad st) H → va_S (mA ad s.heap.size) s.heap H locs → mGi l 1 D cy ad rr st' p e s m args below meth c H locs (F0 m 81 ls [.int w0]) := by
    intro w0 st H locs ls hf hl hP hS
    unfold fX12_drawn_b81 at hf
    exact m_iret hx hb hr hlocks hf hP hS dX12_drawn_81
  have B46 : ∀ (v1 : Int32) (v2 : Int32) (w0 : Int64) (w1 : Int64) (w2 : Int64) (st : St) (H : Heap) (locs : List Loc) (ls : Array Slot), fX12_drawn_b46 v1 v2 w0 w1 w2 st = some (rr, st') → lv_has ls 3 [(0, .ref (ad 100)), (1, .int v1), (2, .int v2)] → va_P D classes (mw cy ad st) H → va_S (mA ad s.heap.size) s.heap H locs → mGi l 1 D cy ad rr st' p e s m args below meth c H locs (F0 m 46 ls [.long w0, .long w1, .long w2]) := by
    intro v1 v2 w0 w1 w2 st H locs ls hf hl hP hS
    unfold fX12_drawn_b46 at hf
    obtain ⟨r1, hc, hf⟩ := bs_some hf
    refine s_calli (n := 3) (rest := []) E.1 (tX12_in l _ w2 w1 w0 r1 hc) (gS k_1350 k_1351 k_14 k_1352) qX12_in ⟨Nat.le_of_ble_eq_true rfl, Nat.le_of_ble_eq_true rfl⟩ ⟨Nat.le_refl _, Nat.le_refl _⟩ rfl hl.1 rfl (Nat.le_of_ble_eq_true rfl) dX12_drawn_46 ?_
    refine lv_if_ne (tgt := 54) hx hb dX12_drawn_49 (by decide) (fun hc => ?_) (fun hc => ?_)
    · replace hf := it_neg hc hf
      refine lv_iload_n hx hb dX12_drawn_54 rfl (lv_at hl 2 rfl) ?_
      refine lv_iconst (v := 3) hx hb dX12_drawn_55 (by decide) ?_
      refine lv_icmp_ne (tgt := 71) hx hb dX12_drawn_56 (by decide) (fun hc => ?_) (fun hc => ?_)
      · replace hf := it_neg hc hf
        refine lv_aload_n hx hb dX12_drawn_71 rfl (lv_at hl 0 rfl) ?_
        refine mg_51 E hP dX12_drawn_72 ?_
        refine lv_iconst (v := 3) hx hb dX12_drawn_75 (by decide) ?_
        refine lv_iload_n hx hb dX12_drawn_76 rfl (lv_at hl 1 rfl) ?_
        refine lv_imul hx hb dX12_drawn_77 ?_
        refine lv_iload_n hx hb dX12_drawn_78 rfl (lv_at hl 2 rfl) ?_
        refine lv_iadd hx hb dX12_drawn_79 ?_
        obtain ⟨hi, hf⟩ := gi_some hf
        refine ml_51 E hP hi dX12_drawn_80 ?_
        exact B81 (st.2.2.1 51 (((3 : Int32) * v1) + v2).toNatClampNeg) st _ _ ls hf (lv_sub hl [] rfl) hP hS
      · replace hf := it_pos hc hf
        refine lv_aload_n hx hb dX12_drawn_59 rfl (lv_at hl 0 rfl) ?_
        refine mg_51 E hP dX12_drawn_60 ?_
        refine lv_bipush (v := 18) hx hb dX12_drawn_63 (by decide) ?_
        refine lv_iload_n hx hb dX12_drawn_65 rfl (lv_at hl 1 rfl) ?_
        refine lv_iadd hx hb dX12_drawn_66 ?_
        obtain ⟨hi, hf⟩ := gi_some hf
        refine ml_51 E hP hi dX12_drawn_67 ?_
        refine lv_goto (tgt := 81) hx hb dX12_drawn_68 (by decide) ?_
        exact B81 (st.2.2.1 51 ((18 : Int32) + v1).toNatClampNeg) st _ _ ls hf (lv_sub hl [] rfl) hP hS
    · replace hf := it_pos hc hf
      exact B52 st _ _ ls hf (lv_sub hl [] rfl) hP hS
  refine lv_aload_n hx hb dX12_drawn_0 rfl (lv_at hl 0 rfl) ?_
  refine lv_iconst (v := 0) hx hb dX12_drawn_1 (by decide) ?_
  refine mp_0 E hD hP hS dX12_drawn_2 (fun st2 H locs ex hP hS => ?_)
  replace hf := lt_at ex hf; clear ex
  refine lv_aload_n hx hb dX12_drawn_5 rfl (lv_at hl 0 rfl) ?_
  refine mg_52 E hP dX12_drawn_6 ?_
  refine lv_iconst (v := -1) hx hb dX12_drawn_9 (by decide) ?_
  refine lv_icmp_eq (tgt := 52) hx hb dX12_drawn_10 (by decide) (fun hc => ?_) (fun hc => ?_)
  · replace hf := it_pos hc hf
    exact B52 st2 _ _ ls hf (lv_sub hl [] rfl) hP hS
  · replace hf := it_neg hc hf
    refine lv_iload_n hx hb dX12_drawn_13 rfl (lv_at hl 2 rfl) ?_
    refine lv_i2l (v := a1.toInt64) hx hb dX12_drawn_14 rfl ?_
    refine lv_lconst (v := 0) hx hb dX12_drawn_15 (by decide) ?_
    refine lv_ldc2 (v := 3) hx hb hown (hT _ k_1366) dX12_drawn_16 ?_
    obtain ⟨r3, hc, hf⟩ := bs_some hf
    refine s_calli (n := 3) (rest := []) E.1 (tX12_in l _ (a1.toInt64) (0 : Int64) (3 : Int64) r3 hc) (gS k_1350 k_1351 k_14 k_1352) qX12_in ⟨Nat.le_of_ble_eq_true rfl, Nat.le_of_ble_eq_true rfl⟩ ⟨Nat.le_refl _, Nat.le_refl _⟩ rfl hl.1 rfl (Nat.le_of_ble_eq_true rfl) dX12_drawn_19 ?_
    refine lv_if_eq (tgt := 52) hx hb dX12_drawn_22 (by decide) (fun hc => ?_) (fun hc => ?_)
    · replace hf := it_pos hc hf
      exact B52 st2 _ _ ls hf (lv_sub hl [] rfl) hP hS
    · replace hf := it_neg hc hf
      refine lv_iload_n hx hb dX12_drawn_25 rfl (lv_at hl 1 rfl) ?_
      refine lv_i2l (v := a0.toInt64) hx hb dX12_drawn_26 rfl ?_
      refine lv_lconst (v := 0) hx hb dX12_drawn_27 (by decide) ?_
      refine lv_iload_n hx hb dX12_drawn_28 rfl (lv_at hl 2 rfl) ?_
      refine lv_iconst (v := 3) hx hb dX12_drawn_29 (by decide) ?_
      refine lv_icmp_ne (tgt := 39) hx hb dX12_drawn_30 (by decide) (fun hc => ?_) (fun hc => ?_)
      · replace hf := it_neg hc hf
        refine lv_aload_n hx hb dX12_drawn_39 rfl (lv_at hl 0 rfl) ?_
        refine mg_52 E hP dX12_drawn_40 ?_
        refine lv_i2l (v := (st2.1 52).toInt64) hx hb dX12_drawn_43 rfl ?_
        refine lv_lconst (v := 1) hx hb dX12_drawn_44 (by decide) ?_
        refine lv_lsub hx hb dX12_drawn_45 ?_
        exact B46 a0 a1 (((st2.1 52).toInt64) - (1 : Int64)) (0 : Int64) (a0.toInt64) st2 _ _ ls hf hl hP hS
      · replace hf := it_pos hc hf
        refine lv_ldc2 (v := 3) hx hb hown (hT _ k_1366) dX12_drawn_33 ?_
        refine lv_goto (tgt := 46) hx hb dX12_drawn_36 (by decide) ?_
        exact B46 a0 a1 (3 : Int64) (0 : Int64) (a0.toInt64) st2 _ _ ls hf hl hP hS
theorem qX12_drawn : yX12_drawn.cls = RX12 ∧ yX12_drawn.cls ≠ "java/lang/invoke/MethodHandle" ∧ yX12_drawn.cls ≠ "java/lang/invoke/VarHandle" ∧ (parseMethodDescriptor yX12_drawn.desc).map (fun d => d.parameters.length) = some 2 := by decide +kernel
def fX12_takenForts_b4 (k4 : Int32 → Int32 → St → Option (Int32 × St)) (v1 : Int32) (v2 : Int32) (st : St) : Option (Int32 × St) := if (st.2.2.1 3 (0 : Int32).toNatClampNeg) ≤ v2 then (some (v1, st)) else (gi ((25 : Int32) + v2) 5550 (lt (v1 + (st.2.2.1 3 ((25 : Int32) + v2).toNatClampNeg)) (fun x1 => lt (v2 + (1 : Int32)) (fun x2 => k4 x1 x2 st))))
def fX12_takenForts (st : St) : Option (Int32 × St) := lp (fun _ _ _ => none) (fX12_takenForts_b4) 6000 (0 : Int32) (0 : Int32) st
set_option maxHeartbeats 4000000 in
set_option maxRecDepth 100000 in
theorem tX12_takenForts (l : Launch) (D : va_G) (cy : Nat → ClassId) (ad : Nat → Nat) (hJ : (mads ad).Nodup) (sz : Nat) (st : St) (rr : Int32) (st' : St) (hf : fX12_takenForts  st = some (rr, st')) : Met l yX12_takenForts (Cond.code yX12_takenForts cX12_takenForts 3 (some .int) :: TT) (rmD 0) (mPc D cy ad [] st sz) (mQi D cy ad rr st' sz) 0 0 (mA ad sz) := by
  refine m_meti (by decide) hJ (Nat.le_of_ble_eq_true rfl) (fun p e s m args below meth c ls E hx hb hr hlocks hown hT hD hl hP hS => ?_)
  replace hl : lv_has ls 3 [(0, .ref (ad 100))] := hl
  unfold fX12_takenForts at hf
  have L4 : ∀ (n : Nat) (v1 : Int32) (v2 : Int32) (st : St) (H : Heap) (locs : List Loc) (ls : Array Slot), lp (fun _ _ _ => none) (fX12_takenForts_b4) n v1 v2 st = some (rr, st') → lv_has ls 3 [(0, .ref (ad 100)), (1, .int v1), (2, .int v2)] → va_P D classes (mw cy ad st) H → va_S (mA ad s.heap.size) s.heap H locs → mGi l 0 D cy ad rr st' p e s m args below meth c H locs (F0 m 4 ls []) := by
    intro n
    induction n with
    | zero => intro v1 v2 st H locs ls hf; exact absurd hf (fun h => by cases h)
    | succ n K4 =>
      intro v1 v2 st H locs ls hf hl hP hS
      replace hf : fX12_takenForts_b4 (lp (fun _ _ _ => none) (fX12_takenForts_b4) n) v1 v2 st = some (rr, st') := hf
      generalize lp (fun _ _ _ => none) (fX12_takenForts_b4) n = k4 at hf K4
      unfold fX12_takenForts_b4 at hf
      refine lv_iload_n hx hb dX12_takenForts_4 rfl (lv_at hl 2 rfl) ?_
      refine lv_aload_n hx hb dX12_takenForts_5 rfl (lv_at hl 0 rfl) ?_
      refine mg_3 E hP dX12_takenForts_6 ?_
      refine lv_iconst (v := 0) hx hb dX12_takenForts_9 (by decide) ?_
      refine ml_3 E hP (vi rfl) dX12_takenForts_10 ?_
      refine lv_icmp_ge (tgt := 32) hx hb dX12_takenForts_11 (by decide) (fun hc => ?_) (fun hc => ?_)
      · replace hf := it_pos hc hf
        refine lv_iload_n hx hb dX12_takenForts_32 rfl (lv_at hl 1 rfl) ?_
        exact m_iret hx hb hr hlocks hf hP hS dX12_takenForts_33
      · replace hf := it_neg hc hf
        refine lv_iload_n hx hb dX12_takenForts_14 rfl (lv_at hl 1 rfl) ?_
        refine lv_aload_n hx hb dX12_takenForts_15 rfl (lv_at hl 0 rfl) ?_
        refine mg_3 E hP dX12_takenForts_16 ?_
        refine lv_bipush (v := 25) hx hb dX12_takenForts_19 (by decide) ?_
        refine lv_iload_n hx hb dX12_takenForts_21 rfl (lv_at hl 2 rfl) ?_
        refine lv_iadd hx hb dX12_takenForts_22 ?_
        obtain ⟨hi, hf⟩ := gi_some hf
        refine ml_3 E hP hi dX12_takenForts_23 ?_
        refine lv_iadd hx hb dX12_takenForts_24 ?_
        refine lv_topi (fun x1 ex => ?_)
        replace hf := lt_at ex hf; clear ex
        refine lv_istore_n (lv' := [(1, .int x1), (0, .ref (ad 100)), (2, .int v2)]) hx hb dX12_takenForts_25 rfl hl (by decide) rfl (fun ls hl => ?_)
        obtain ⟨x2, ex⟩ : ∃ y : Int32, y = v2 + (1 : Int32) := ⟨_, rfl⟩
        replace hf := lt_at ex hf
        refine lv_iinc (v := x2) (lv' := [(2, .int x2), (1, .int x1), (0, .ref (ad 100))]) hx hb dX12_takenForts_26 hl (k := 2) rfl (by rw [ex]; rfl) (by decide) rfl (fun ls hl => ?_)
        clear ex
        refine lv_goto (tgt := 4) hx hb dX12_takenForts_29 (by decide) ?_
        exact K4 x1 x2 st _ _ ls hf (lv_sub hl [2, 1, 0] rfl) hP hS
  refine lv_iconst (v := 0) hx hb dX12_takenForts_0 (by decide) ?_
  refine lv_istore_n (lv' := [(1, .int (0 : Int32)), (0, .ref (ad 100))]) hx hb dX12_takenForts_1 rfl hl (by decide) rfl (fun ls hl => ?_)
  refine lv_iconst (v := 0) hx hb dX12_takenForts_2 (by decide) ?_
  refine lv_istore_n (lv' := [(2, .int (0 : Int32)), (1, .int (0 : Int32)), (0, .ref (ad 100))]) hx hb dX12_takenForts_3 rfl hl (by decide) rfl (fun ls hl => ?_)
  exact L4 6000 (0 : Int32) (0 : Int32) st _ _ ls hf (lv_sub hl [2, 1, 0] rfl) hP hS
theorem qX12_takenForts : yX12_takenForts.cls = RX12 ∧ yX12_takenForts.cls ≠ "java/lang/invoke/MethodHandle" ∧ yX12_takenForts.cls ≠ "java/lang/invoke/VarHandle" ∧ (parseMethodDescriptor yX12_takenForts.desc).map (fun d => d.parameters.length) = some 0 := by decide +kernel
def fX12_count_b228 (w0 : Int32) (st : St) : Option (Int32 × St) := some (w0, st)
def fX12_count (a0 : Int32) (st : St) : Option (Int32 × St) := lt (sI st 0 (0 : Int32)) (fun st1 => if a0 = 0 then (some ((st1.2.2.1 3 (0 : Int32).toNatClampNeg), st1)) else (if a0 = 1 then (bd (fX12_takenForts st1) (fun r2 st3 => some (r2, st3))) else (if a0 = 2 then (some ((st1.2.2.1 3 (1 : Int32).toNatClampNeg), st1)) else (if a0 = 3 then (some ((st1.2.2.1 3 (2 : Int32).toNatClampNeg), st1)) else (if a0 = 4 then (some ((st1.2.2.1 3 (3 : Int32).toNatClampNeg), st1)) else (if a0 = 5 then (some ((st1.2.2.1 3 (4 : Int32).toNatClampNeg), st1)) else (if a0 = 6 then (some ((st1.1 8), st1)) else (if a0 = 7 then (some ((st1.1 13), st1)) else (if a0 = 8 then (some ((st1.2.2.1 2 (1 : Int32).toNatClampNeg), st1)) else (if a0 = 9 then (some ((st1.2.2.1 2 (2 : Int32).toNatClampNeg), st1)) else (if a0 = 10 then (some ((st1.2.2.1 2 (3 : Int32).toNatClampNeg), st1)) else (if a0 = 11 then (some ((st1.2.2.1 2 (5 : Int32).toNatClampNeg), st1)) else (if a0 = 12 then (some ((st1.2.2.1 2 (6 : Int32).toNatClampNeg), st1)) else (if a0 = 13 then (some ((st1.2.2.1 3 (5 : Int32).toNatClampNeg), st1)) else (bs (fX12_in (a0.toInt64) (14 : Int64) (16 : Int64)) (fun r4 => if r4 = 0 then (bs (fX12_in (a0.toInt64) (17 : Int64) (20 : Int64)) (fun r5 => if r5 = 0 then (fX12_count_b228 (-1 : Int32) st1) else (gi (((9 : Int32) + a0) - (17 : Int32)) 5550 (fX12_count_b228 (st1.2.2.1 3 (((9 : Int32) + a0) - (17 : Int32)).toNatClampNeg) st1)))) else (gi (((6 : Int32) + a0) - (14 : Int32)) 5550 (fX12_count_b228 (st1.2.2.1 3 (((6 : Int32) + a0) - (14 : Int32)).toNatClampNeg) st1))))))))))))))))))
set_option maxHeartbeats 4000000 in
set_option maxRecDepth 100000 in
theorem tX12_count (l : Launch) (D : va_G) (cy : Nat → ClassId) (ad : Nat → Nat) (hJ : (mads ad).Nodup) (sz : Nat) (a0 : Int32) (st : St) (rr : Int32) (st' : St) (hf : fX12_count a0 st = some (rr, st')) : Met l yX12_count (Cond.code yX12_count cX12_count 2 (some .int) :: TT) (rmD 1) (mPc D cy ad [.int a0] st sz) (mQi D cy ad rr st' sz) 0 0 (mA ad sz) := by
  refine m_meti (by decide) hJ (Nat.le_of_ble_eq_true rfl) (fun p e s m args below meth c ls E hx hb hr hlocks hown hT hD hl hP hS => ?_)
  replace hl : lv_has ls 2 [(0, .ref (ad 100)), (1, .int a0)] := hl
  unfold fX12_count at hf
  have B228 : ∀ (w0 : Int32) (st : St) (H : Heap) (locs : List Loc) (ls : Array Slot), fX12_count_b228 w0 st = some (rr, st') → lv_has ls 2 [] → va_P D classes (mw cy ad st) H → va_S (mA ad s.heap.size) s.heap H locs → mGi l 1 D cy ad rr st' p e s m args below meth c H locs (F0 m 228 ls [.int w0]) := by
    intro w0 st H locs ls hf hl hP hS
    unfold fX12_count_b228 at hf
    exact m_iret hx hb hr hlocks hf hP hS dX12_count_228
  refine lv_aload_n hx hb dX12_count_0 rfl (lv_at hl 0 rfl) ?_
  refine lv_iconst (v := 0) hx hb dX12_count_1 (by decide) ?_
  refine mp_0 E hD hP hS dX12_count_2 (fun st1 H locs ex hP hS => ?_)
  replace hf := lt_at ex hf; clear ex
  refine lv_iload_n hx hb dX12_count_5 rfl (lv_at hl 1 rfl) ?_
  by_cases hq0 : a0 = 0
  · replace hf := it_pos hq0 hf
    rw [hq0]; refine lv_tableIn (tgt := 76) hx hb dX12_count_6 (by decide) (by decide) rfl (by decide) ?_
    refine lv_aload_n hx hb dX12_count_76 rfl (lv_at hl 0 rfl) ?_
    refine mg_3 E hP dX12_count_77 ?_
    refine lv_iconst (v := 0) hx hb dX12_count_80 (by decide) ?_
    refine ml_3 E hP (vi rfl) dX12_count_81 ?_
    exact m_iret hx hb hr hlocks hf hP hS dX12_count_82
  replace hf := it_neg hq0 hf
  by_cases hq1 : a0 = 1
  · replace hf := it_pos hq1 hf
    rw [hq1]; refine lv_tableIn (tgt := 83) hx hb dX12_count_6 (by decide) (by decide) rfl (by decide) ?_
    refine lv_aload_n hx hb dX12_count_83 rfl (lv_at hl 0 rfl) ?_
    obtain ⟨r2, st3, hc, hf⟩ := bd_some hf
    refine m_calli (n := 0) (rest := []) E hP hS (fun sz => tX12_takenForts l D cy ad hJ sz st1 r2 st3 hc) (gV k_1812 k_1814 ks_99 k_14 k_1815) qX12_takenForts ⟨Nat.le_of_ble_eq_true rfl, Nat.le_of_ble_eq_true rfl⟩ ⟨Nat.le_refl _, Nat.le_refl _⟩ rfl hl.1 rfl (Nat.le_of_ble_eq_true rfl) dX12_count_84 (fun H locs hP hS => ?_)
    exact m_iret hx hb hr hlocks hf hP hS dX12_count_87
  replace hf := it_neg hq1 hf
  by_cases hq2 : a0 = 2
  · replace hf := it_pos hq2 hf
    rw [hq2]; refine lv_tableIn (tgt := 88) hx hb dX12_count_6 (by decide) (by decide) rfl (by decide) ?_
    refine lv_aload_n hx hb dX12_count_88 rfl (lv_at hl 0 rfl) ?_
    refine mg_3 E hP dX12_count_89 ?_
    refine lv_iconst (v := 1) hx hb dX12_count_92 (by decide) ?_
    refine ml_3 E hP (vi rfl) dX12_count_93 ?_
    exact m_iret hx hb hr hlocks hf hP hS dX12_count_94
  replace hf := it_neg hq2 hf
  by_cases hq3 : a0 = 3
  · replace hf := it_pos hq3 hf
    rw [hq3]; refine lv_tableIn (tgt := 95) hx hb dX12_count_6 (by decide) (by decide) rfl (by decide) ?_
    refine lv_aload_n hx hb dX12_count_95 rfl (lv_at hl 0 rfl) ?_
    refine mg_3 E hP dX12_count_96 ?_
    refine lv_iconst (v := 2) hx hb dX12_count_99 (by decide) ?_
    refine ml_3 E hP (vi rfl) dX12_count_100 ?_
    exact m_iret hx hb hr hlocks hf hP hS dX12_count_101
  replace hf := it_neg hq3 hf
  by_cases hq4 : a0 = 4
  · replace hf := it_pos hq4 hf
    rw [hq4]; refine lv_tableIn (tgt := 102) hx hb dX12_count_6 (by decide) (by decide) rfl (by decide) ?_
    refine lv_aload_n hx hb dX12_count_102 rfl (lv_at hl 0 rfl) ?_
    refine mg_3 E hP dX12_count_103 ?_
    refine lv_iconst (v := 3) hx hb dX12_count_106 (by decide) ?_
    refine ml_3 E hP (vi rfl) dX12_count_107 ?_
    exact m_iret hx hb hr hlocks hf hP hS dX12_count_108
  replace hf := it_neg hq4 hf
  by_cases hq5 : a0 = 5
  · replace hf := it_pos hq5 hf
    rw [hq5]; refine lv_tableIn (tgt := 109) hx hb dX12_count_6 (by decide) (by decide) rfl (by decide) ?_
    refine lv_aload_n hx hb dX12_count_109 rfl (lv_at hl 0 rfl) ?_
    refine mg_3 E hP dX12_count_110 ?_
    refine lv_iconst (v := 4) hx hb dX12_count_113 (by decide) ?_
    refine ml_3 E hP (vi rfl) dX12_count_114 ?_
    exact m_iret hx hb hr hlocks hf hP hS dX12_count_115
  replace hf := it_neg hq5 hf
  by_cases hq6 : a0 = 6
  · replace hf := it_pos hq6 hf
    rw [hq6]; refine lv_tableIn (tgt := 116) hx hb dX12_count_6 (by decide) (by decide) rfl (by decide) ?_
    refine lv_aload_n hx hb dX12_count_116 rfl (lv_at hl 0 rfl) ?_
    refine mg_8 E hP dX12_count_117 ?_
    exact m_iret hx hb hr hlocks hf hP hS dX12_count_120
  replace hf := it_neg hq6 hf
  by_cases hq7 : a0 = 7
  · replace hf := it_pos hq7 hf
    rw [hq7]; refine lv_tableIn (tgt := 121) hx hb dX12_count_6 (by decide) (by decide) rfl (by decide) ?_
    refine lv_aload_n hx hb dX12_count_121 rfl (lv_at hl 0 rfl) ?_
    refine mg_13 E hP dX12_count_122 ?_
    exact m_iret hx hb hr hlocks hf hP hS dX12_count_125
  replace hf := it_neg hq7 hf
  by_cases hq8 : a0 = 8
  · replace hf := it_pos hq8 hf
    rw [hq8]; refine lv_tableIn (tgt := 126) hx hb dX12_count_6 (by decide) (by decide) rfl (by decide) ?_
    refine lv_aload_n hx hb dX12_count_126 rfl (lv_at hl 0 rfl) ?_
    refine mg_2 E hP dX12_count_127 ?_
    refine lv_iconst (v := 1) hx hb dX12_count_130 (by decide) ?_
    refine ml_2 E hP (vi rfl) dX12_count_131 ?_
    exact m_iret hx hb hr hlocks hf hP hS dX12_count_132
  replace hf := it_neg hq8 hf
  by_cases hq9 : a0 = 9
  · replace hf := it_pos hq9 hf
    rw [hq9]; refine lv_tableIn (tgt := 133) hx hb dX12_count_6 (by decide) (by decide) rfl (by decide) ?_
    refine lv_aload_n hx hb dX12_count_133 rfl (lv_at hl 0 rfl) ?_
    refine mg_2 E hP dX12_count_134 ?_
    refine lv_iconst (v := 2) hx hb dX12_count_137 (by decide) ?_
    refine ml_2 E hP (vi rfl) dX12_count_138 ?_
    exact m_iret hx hb hr hlocks hf hP hS dX12_count_139
  replace hf := it_neg hq9 hf
  by_cases hq10 : a0 = 10
  · replace hf := it_pos hq10 hf
    rw [hq10]; refine lv_tableIn (tgt := 140) hx hb dX12_count_6 (by decide) (by decide) rfl (by decide) ?_
    refine lv_aload_n hx hb dX12_count_140 rfl (lv_at hl 0 rfl) ?_
    refine mg_2 E hP dX12_count_141 ?_
    refine lv_iconst (v := 3) hx hb dX12_count_144 (by decide) ?_
    refine ml_2 E hP (vi rfl) dX12_count_145 ?_
    exact m_iret hx hb hr hlocks hf hP hS dX12_count_146
  replace hf := it_neg hq10 hf
  by_cases hq11 : a0 = 11
  · replace hf := it_pos hq11 hf
    rw [hq11]; refine lv_tableIn (tgt := 147) hx hb dX12_count_6 (by decide) (by decide) rfl (by decide) ?_
    refine lv_aload_n hx hb dX12_count_147 rfl (lv_at hl 0 rfl) ?_
    refine mg_2 E hP dX12_count_148 ?_
    refine lv_iconst (v := 5) hx hb dX12_count_151 (by decide) ?_
    refine ml_2 E hP (vi rfl) dX12_count_152 ?_
    exact m_iret hx hb hr hlocks hf hP hS dX12_count_153
  replace hf := it_neg hq11 hf
  by_cases hq12 : a0 = 12
  · replace hf := it_pos hq12 hf
    rw [hq12]; refine lv_tableIn (tgt := 154) hx hb dX12_count_6 (by decide) (by decide) rfl (by decide) ?_
    refine lv_aload_n hx hb dX12_count_154 rfl (lv_at hl 0 rfl) ?_
    refine mg_2 E hP dX12_count_155 ?_
    refine lv_bipush (v := 6) hx hb dX12_count_158 (by decide) ?_
    refine ml_2 E hP (vi rfl) dX12_count_160 ?_
    exact m_iret hx hb hr hlocks hf hP hS dX12_count_161
  replace hf := it_neg hq12 hf
  by_cases hq13 : a0 = 13
  · replace hf := it_pos hq13 hf
    rw [hq13]; refine lv_tableIn (tgt := 162) hx hb dX12_count_6 (by decide) (by decide) rfl (by decide) ?_
    refine lv_aload_n hx hb dX12_count_162 rfl (lv_at hl 0 rfl) ?_
    refine mg_3 E hP dX12_count_163 ?_
    refine lv_iconst (v := 5) hx hb dX12_count_166 (by decide) ?_
    refine ml_3 E hP (vi rfl) dX12_count_167 ?_
    exact m_iret hx hb hr hlocks hf hP hS dX12_count_168
  replace hf := it_neg hq13 hf
  refine lv_tableOut (tgt := 169) hx hb dX12_count_6 (tb_out (lo := 0) (hi := 13) (fun k h1 h2 he => ?_)) (by decide) ?_
  · have h3 : k = 0 ∨ k = 1 ∨ k = 2 ∨ k = 3 ∨ k = 4 ∨ k = 5 ∨ k = 6 ∨ k = 7 ∨ k = 8 ∨ k = 9 ∨ k = 10 ∨ k = 11 ∨ k = 12 ∨ k = 13 := by omega
    rcases h3 with rfl | rfl | rfl | rfl | rfl | rfl | rfl | rfl | rfl | rfl | rfl | rfl | rfl | rfl
    · exact hq0 he
    · exact hq1 he
    · exact hq2 he
    · exact hq3 he
    · exact hq4 he
    · exact hq5 he
    · exact hq6 he
    · exact hq7 he
    · exact hq8 he
    · exact hq9 he
    · exact hq10 he
    · exact hq11 he
    · exact hq12 he
    · exact hq13 he
  · refine lv_iload_n hx hb dX12_count_169 rfl (lv_at hl 1 rfl) ?_
    refine lv_i2l (v := a0.toInt64) hx hb dX12_count_170 rfl ?_
    refine lv_ldc2 (v := 14) hx hb hown (hT _ k_1816) dX12_count_171 ?_
    refine lv_ldc2 (v := 16) hx hb hown (hT _ k_1817) dX12_count_174 ?_
    obtain ⟨r4, hc, hf⟩ := bs_some hf
    refine s_calli (n := 3) (rest := []) E.1 (tX12_in l _ (a0.toInt64) (14 : Int64) (16 : Int64) r4 hc) (gS k_1350 k_1351 k_14 k_1352) qX12_in ⟨Nat.le_of_ble_eq_true rfl, Nat.le_of_ble_eq_true rfl⟩ ⟨Nat.le_refl _, Nat.le_refl _⟩ rfl hl.1 rfl (Nat.le_of_ble_eq_true rfl) dX12_count_177 ?_
    refine lv_if_eq (tgt := 198) hx hb dX12_count_180 (by decide) (fun hc => ?_) (fun hc => ?_)
    · replace hf := it_pos hc hf
      refine lv_iload_n hx hb dX12_count_198 rfl (lv_at hl 1 rfl) ?_
      refine lv_i2l (v := a0.toInt64) hx hb dX12_count_199 rfl ?_
      refine lv_ldc2 (v := 17) hx hb hown (hT _ k_1818) dX12_count_200 ?_
      refine lv_ldc2 (v := 20) hx hb hown (hT _ k_1543) dX12_count_203 ?_
      obtain ⟨r5, hc, hf⟩ := bs_some hf
      refine s_calli (n := 3) (rest := []) E.1 (tX12_in l _ (a0.toInt64) (17 : Int64) (20 : Int64) r5 hc) (gS k_1350 k_1351 k_14 k_1352) qX12_in ⟨Nat.le_of_ble_eq_true rfl, Nat.le_of_ble_eq_true rfl⟩ ⟨Nat.le_refl _, Nat.le_refl _⟩ rfl hl.1 rfl (Nat.le_of_ble_eq_true rfl) dX12_count_206 ?_
      refine lv_if_eq (tgt := 227) hx hb dX12_count_209 (by decide) (fun hc => ?_) (fun hc => ?_)
      · replace hf := it_pos hc hf
        refine lv_iconst (v := -1) hx hb dX12_count_227 (by decide) ?_
        exact B228 (-1 : Int32) st1 _ _ ls hf (lv_sub hl [] rfl) hP hS
      · replace hf := it_neg hc hf
        refine lv_aload_n hx hb dX12_count_212 rfl (lv_at hl 0 rfl) ?_
        refine mg_3 E hP dX12_count_213 ?_
        refine lv_bipush (v := 9) hx hb dX12_count_216 (by decide) ?_
        refine lv_iload_n hx hb dX12_count_218 rfl (lv_at hl 1 rfl) ?_
        refine lv_iadd hx hb dX12_count_219 ?_
        refine lv_bipush (v := 17) hx hb dX12_count_220 (by decide) ?_
        refine lv_isub hx hb dX12_count_222 ?_
        obtain ⟨hi, hf⟩ := gi_some hf
        refine ml_3 E hP hi dX12_count_223 ?_
        refine lv_goto (tgt := 228) hx hb dX12_count_224 (by decide) ?_
        exact B228 (st1.2.2.1 3 (((9 : Int32) + a0) - (17 : Int32)).toNatClampNeg) st1 _ _ ls hf (lv_sub hl [] rfl) hP hS
    · replace hf := it_neg hc hf
      refine lv_aload_n hx hb dX12_count_183 rfl (lv_at hl 0 rfl) ?_
      refine mg_3 E hP dX12_count_184 ?_
      refine lv_bipush (v := 6) hx hb dX12_count_187 (by decide) ?_
      refine lv_iload_n hx hb dX12_count_189 rfl (lv_at hl 1 rfl) ?_
      refine lv_iadd hx hb dX12_count_190 ?_
      refine lv_bipush (v := 14) hx hb dX12_count_191 (by decide) ?_
      refine lv_isub hx hb dX12_count_193 ?_
      obtain ⟨hi, hf⟩ := gi_some hf
      refine ml_3 E hP hi dX12_count_194 ?_
      refine lv_goto (tgt := 228) hx hb dX12_count_195 (by decide) ?_
      exact B228 (st1.2.2.1 3 (((6 : Int32) + a0) - (14 : Int32)).toNatClampNeg) st1 _ _ ls hf (lv_sub hl [] rfl) hP hS
theorem qX12_count : yX12_count.cls = RX12 ∧ yX12_count.cls ≠ "java/lang/invoke/MethodHandle" ∧ yX12_count.cls ≠ "java/lang/invoke/VarHandle" ∧ (parseMethodDescriptor yX12_count.desc).map (fun d => d.parameters.length) = some 1 := by decide +kernel
def fX12_status (st : St) : Option (Int32 × St) := lt (sI st 0 (0 : Int32)) (fun st1 => some ((st1.1 1), st1))
set_option maxHeartbeats 4000000 in
set_option maxRecDepth 100000 in
theorem tX12_status (l : Launch) (D : va_G) (cy : Nat → ClassId) (ad : Nat → Nat) (hJ : (mads ad).Nodup) (sz : Nat) (st : St) (rr : Int32) (st' : St) (hf : fX12_status  st = some (rr, st')) : Met l yX12_status (Cond.code yX12_status cX12_status 1 (some .int) :: TT) (rmD 0) (mPc D cy ad [] st sz) (mQi D cy ad rr st' sz) 0 0 (mA ad sz) := by
  refine m_meti (by decide) hJ (Nat.le_of_ble_eq_true rfl) (fun p e s m args below meth c ls E hx hb hr hlocks hown hT hD hl hP hS => ?_)
  replace hl : lv_has ls 1 [(0, .ref (ad 100))] := hl
  unfold fX12_status at hf
  refine lv_aload_n hx hb dX12_status_0 rfl (lv_at hl 0 rfl) ?_
  refine lv_iconst (v := 0) hx hb dX12_status_1 (by decide) ?_
  refine mp_0 E hD hP hS dX12_status_2 (fun st1 H locs ex hP hS => ?_)
  replace hf := lt_at ex hf; clear ex
  refine lv_aload_n hx hb dX12_status_5 rfl (lv_at hl 0 rfl) ?_
  refine mg_1 E hP dX12_status_6 ?_
  exact m_iret hx hb hr hlocks hf hP hS dX12_status_9
theorem qX12_status : yX12_status.cls = RX12 ∧ yX12_status.cls ≠ "java/lang/invoke/MethodHandle" ∧ yX12_status.cls ≠ "java/lang/invoke/VarHandle" ∧ (parseMethodDescriptor yX12_status.desc).map (fun d => d.parameters.length) = some 0 := by decide +kernel
