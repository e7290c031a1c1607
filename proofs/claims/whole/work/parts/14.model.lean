def fX12_siege_b41 (st : St) : Option (Int32 × St) := bd (fX12_tell (-1 : Int32) st) (fun r1 st2 => some (r1, st2))
def fX12_siege (a0 : Int32) (a1 : Int32) (a2 : Int32) (st : St) : Option (Int32 × St) := lt (sI st 0 (0 : Int32)) (fun st3 => bs (fX12_in (a0.toInt64) (0 : Int64) (99 : Int64)) (fun r4 => if r4 = 0 then (fX12_siege_b41 st3) else (bs (fX12_in (a1.toInt64) (0 : Int64) (10 : Int64)) (fun r5 => if r5 = 0 then (fX12_siege_b41 st3) else (bs (fX12_in (a2.toInt64) (0 : Int64) (999 : Int64)) (fun r6 => if r6 = 0 then (fX12_siege_b41 st3) else (lt (st3.2.2.1 3 (1 : Int32).toNatClampNeg) (fun x7 => if x7 = (8 : Int32) then (bd (fX12_tell (-5 : Int32) st3) (fun r14 st15 => some (r14, st15))) else (gi ((123 : Int32) + ((3 : Int32) * x7)) 5550 (lt (sA st3 3 (upd (st3.2.2.1 3) ((123 : Int32) + ((3 : Int32) * x7)).toNatClampNeg a0)) (fun st8 => gi (((123 : Int32) + ((3 : Int32) * x7)) + (1 : Int32)) 5550 (lt (sA st8 3 (upd (st8.2.2.1 3) (((123 : Int32) + ((3 : Int32) * x7)) + (1 : Int32)).toNatClampNeg a1)) (fun st9 => gi (((123 : Int32) + ((3 : Int32) * x7)) + (2 : Int32)) 5550 (lt (sA st9 3 (upd (st9.2.2.1 3) (((123 : Int32) + ((3 : Int32) * x7)) + (2 : Int32)).toNatClampNeg a2)) (fun st10 => lt (sA st10 3 (upd (st10.2.2.1 3) (1 : Int32).toNatClampNeg ((st10.2.2.1 3 (1 : Int32).toNatClampNeg) + (1 : Int32)))) (fun st11 => bd (fX12_tell x7 st11) (fun r12 st13 => some (r12, st13))))))))))))))))))
set_option maxHeartbeats 4000000 in
set_option maxRecDepth 100000 in
theorem tX12_siege (l : Launch) (D : va_G) (cy : Nat → ClassId) (ad : Nat → Nat) (hJ : (mads ad).Nodup) (sz : Nat) (a0 : Int32) (a1 : Int32) (a2 : Int32) (st : St) (rr : Int32) (st' : St) (hf : fX12_siege a0 a1 a2 st = some (rr, st')) : Met l yX12_siege (Cond.code yX12_siege cX12_siege 5 (some .int) :: TT) (rmD 1) (mPc D cy ad [.int a0, .int a1, .int a2] st sz) (mQi D cy ad rr st' sz) 0 0 (mA ad sz) := by
  refine m_meti (by decide) hJ (Nat.le_of_ble_eq_true rfl) (fun p e s m args below meth c ls E hx hb hr hlocks hown hT hD hl hP hS => ?_)
  replace hl : lv_has ls 5 [(0, .ref (ad 100)), (1, .int a0), (2, .int a1), (3, .int a2)] := hl
  unfold fX12_siege at hf
  have B41 : ∀ (st : St) (H : Heap) (locs : List Loc) (ls : Array Slot), fX12_siege_b41 st = some (rr, st') → lv_has ls 5 [(0, .ref (ad 100))] → va_P D classes (mw cy ad st) H → va_S (mA ad s.heap.size) s.heap H locs → mGi l 1 D cy ad rr st' p e s m args below meth c H locs (F0 m 41 ls []) := by
    intro st H locs ls hf hl hP hS
    unfold fX12_siege_b41 at hf
    refine lv_aload_n hx hb dX12_siege_41 rfl (lv_at hl 0 rfl) ?_
    refine lv_iconst (v := -1) hx hb dX12_siege_42 (by decide) ?_
    obtain ⟨r1, st2, hc, hf⟩ := bd_some hf
    refine m_calli (n := 1) (rest := []) E hP hS (fun sz => tX12_tell l D cy ad hJ sz (-1 : Int32) st r1 st2 hc) (gV k_1338 k_1340 ks_37 k_14 k_1341) qX12_tell ⟨Nat.le_of_ble_eq_true rfl, Nat.le_of_ble_eq_true rfl⟩ ⟨Nat.le_refl _, Nat.le_refl _⟩ rfl hl.1 rfl (Nat.le_of_ble_eq_true rfl) dX12_siege_43 (fun H locs hP hS => ?_)
    exact m_iret hx hb hr hlocks hf hP hS dX12_siege_46
  refine lv_aload_n hx hb dX12_siege_0 rfl (lv_at hl 0 rfl) ?_
  refine lv_iconst (v := 0) hx hb dX12_siege_1 (by decide) ?_
  refine mp_0 E hD hP hS dX12_siege_2 (fun st3 H locs ex hP hS => ?_)
  replace hf := lt_at ex hf; clear ex
  refine lv_iload_n hx hb dX12_siege_5 rfl (lv_at hl 1 rfl) ?_
  refine lv_i2l (v := a0.toInt64) hx hb dX12_siege_6 rfl ?_
  refine lv_lconst (v := 0) hx hb dX12_siege_7 (by decide) ?_
  refine lv_ldc2 (v := 99) hx hb hown (hT _ k_1365) dX12_siege_8 ?_
  obtain ⟨r4, hc, hf⟩ := bs_some hf
  refine s_calli (n := 3) (rest := []) E.1 (tX12_in l _ (a0.toInt64) (0 : Int64) (99 : Int64) r4 hc) (gS k_1350 k_1351 k_14 k_1352) qX12_in ⟨Nat.le_of_ble_eq_true rfl, Nat.le_of_ble_eq_true rfl⟩ ⟨Nat.le_refl _, Nat.le_refl _⟩ rfl hl.1 rfl (Nat.le_of_ble_eq_true rfl) dX12_siege_11 ?_
  refine lv_if_eq (tgt := 41) hx hb dX12_siege_14 (by decide) (fun hc => ?_) (fun hc => ?_)
  · replace hf := it_pos hc hf
    exact B41 st3 _ _ ls hf (lv_sub hl [0] rfl) hP hS
  · replace hf := it_neg hc hf
    refine lv_iload_n hx hb dX12_siege_17 rfl (lv_at hl 2 rfl) ?_
    refine lv_i2l (v := a1.toInt64) hx hb dX12_siege_18 rfl ?_
    refine lv_lconst (v := 0) hx hb dX12_siege_19 (by decide) ?_
    refine lv_ldc2 (v := 10) hx hb hown (hT _ k_1398) dX12_siege_20 ?_
    obtain ⟨r5, hc, hf⟩ := bs_some hf
    refine s_calli (n := 3) (rest := []) E.1 (tX12_in l _ (a1.toInt64) (0 : Int64) (10 : Int64) r5 hc) (gS k_1350 k_1351 k_14 k_1352) qX12_in ⟨Nat.le_of_ble_eq_true rfl, Nat.le_of_ble_eq_true rfl⟩ ⟨Nat.le_refl _, Nat.le_refl _⟩ rfl hl.1 rfl (Nat.le_of_ble_eq_true rfl) dX12_siege_23 ?_
    refine lv_if_eq (tgt := 41) hx hb dX12_siege_26 (by decide) (fun hc => ?_) (fun hc => ?_)
    · replace hf := it_pos hc hf
      exact B41 st3 _ _ ls hf (lv_sub hl [0] rfl) hP hS
    · replace hf := it_neg hc hf
      refine lv_iload_n hx hb dX12_siege_29 rfl (lv_at hl 3 rfl) ?_
      refine lv_i2l (v := a2.toInt64) hx hb dX12_siege_30 rfl ?_
      refine lv_lconst (v := 0) hx hb dX12_siege_31 (by decide) ?_
      refine lv_ldc2 (v := 999) hx hb hown (hT _ k_1415) dX12_siege_32 ?_
      obtain ⟨r6, hc, hf⟩ := bs_some hf
      refine s_calli (n := 3) (rest := []) E.1 (tX12_in l _ (a2.toInt64) (0 : Int64) (999 : Int64) r6 hc) (gS k_1350 k_1351 k_14 k_1352) qX12_in ⟨Nat.le_of_ble_eq_true rfl, Nat.le_of_ble_eq_true rfl⟩ ⟨Nat.le_refl _, Nat.le_refl _⟩ rfl hl.1 rfl (Nat.le_of_ble_eq_true rfl) dX12_siege_35 ?_
      refine lv_if_ne (tgt := 47) hx hb dX12_siege_38 (by decide) (fun hc => ?_) (fun hc => ?_)
      · replace hf := it_neg hc hf
        refine lv_aload_n hx hb dX12_siege_47 rfl (lv_at hl 0 rfl) ?_
        refine mg_3 E hP dX12_siege_48 ?_
        refine lv_iconst (v := 1) hx hb dX12_siege_51 (by decide) ?_
        refine ml_3 E hP (vi rfl) dX12_siege_52 ?_
        refine lv_topi (fun x7 ex => ?_)
        replace hf := lt_at ex hf; clear ex
        refine lv_istore (lv' := [(4, .int x7), (0, .ref (ad 100)), (1, .int a0), (2, .int a1), (3, .int a2)]) hx hb dX12_siege_53 hl (by decide) rfl (fun ls hl => ?_)
        refine lv_iload hx hb dX12_siege_55 (lv_at hl 0 rfl) ?_
        refine lv_bipush (v := 8) hx hb dX12_siege_57 (by decide) ?_
        refine lv_icmp_ne (tgt := 69) hx hb dX12_siege_59 (by decide) (fun hc => ?_) (fun hc => ?_)
        · replace hf := it_neg hc hf
          refine lv_aload_n hx hb dX12_siege_69 rfl (lv_at hl 1 rfl) ?_
          refine mg_3 E hP dX12_siege_70 ?_
          refine lv_bipush (v := 123) hx hb dX12_siege_73 (by decide) ?_
          refine lv_iconst (v := 3) hx hb dX12_siege_75 (by decide) ?_
          refine lv_iload hx hb dX12_siege_76 (lv_at hl 0 rfl) ?_
          refine lv_imul hx hb dX12_siege_78 ?_
          refine lv_iadd hx hb dX12_siege_79 ?_
          refine lv_iload_n hx hb dX12_siege_80 rfl (lv_at hl 2 rfl) ?_
          obtain ⟨hi, hf⟩ := gi_some hf
          refine ms_3 E hD hP hS hi dX12_siege_81 (fun st8 H locs ex hP hS => ?_)
          replace hf := lt_at ex hf; clear ex
          refine lv_aload_n hx hb dX12_siege_82 rfl (lv_at hl 1 rfl) ?_
          refine mg_3 E hP dX12_siege_83 ?_
          refine lv_bipush (v := 123) hx hb dX12_siege_86 (by decide) ?_
          refine lv_iconst (v := 3) hx hb dX12_siege_88 (by decide) ?_
          refine lv_iload hx hb dX12_siege_89 (lv_at hl 0 rfl) ?_
          refine lv_imul hx hb dX12_siege_91 ?_
          refine lv_iadd hx hb dX12_siege_92 ?_
          refine lv_iconst (v := 1) hx hb dX12_siege_93 (by decide) ?_
          refine lv_iadd hx hb dX12_siege_94 ?_
          refine lv_iload_n hx hb dX12_siege_95 rfl (lv_at hl 3 rfl) ?_
          obtain ⟨hi, hf⟩ := gi_some hf
          refine ms_3 E hD hP hS hi dX12_siege_96 (fun st9 H locs ex hP hS => ?_)
          replace hf := lt_at ex hf; clear ex
          refine lv_aload_n hx hb dX12_siege_97 rfl (lv_at hl 1 rfl) ?_
          refine mg_3 E hP dX12_siege_98 ?_
          refine lv_bipush (v := 123) hx hb dX12_siege_101 (by decide) ?_
          refine lv_iconst (v := 3) hx hb dX12_siege_103 (by decide) ?_
          refine lv_iload hx hb dX12_siege_104 (lv_at hl 0 rfl) ?_
          refine lv_imul hx hb dX12_siege_106 ?_
          refine lv_iadd hx hb dX12_siege_107 ?_
          refine lv_iconst (v := 2) hx hb dX12_siege_108 (by decide) ?_
          refine lv_iadd hx hb dX12_siege_109 ?_
          refine lv_iload_n hx hb dX12_siege_110 rfl (lv_at hl 4 rfl) ?_
          obtain ⟨hi, hf⟩ := gi_some hf
          refine ms_3 E hD hP hS hi dX12_siege_111 (fun st10 H locs ex hP hS => ?_)
          replace hf := lt_at ex hf; clear ex
          refine lv_aload_n hx hb dX12_siege_112 rfl (lv_at hl 1 rfl) ?_
          refine mg_3 E hP dX12_siege_113 ?_
          refine lv_iconst (v := 1) hx hb dX12_siege_116 (by decide) ?_
          refine lv_dup2_11 hx hb dX12_siege_117 rfl rfl ?_
          refine ml_3 E hP (vi rfl) dX12_siege_118 ?_
          refine lv_iconst (v := 1) hx hb dX12_siege_119 (by decide) ?_
          refine lv_iadd hx hb dX12_siege_120 ?_
          refine ms_3 E hD hP hS (vi rfl) dX12_siege_121 (fun st11 H locs ex hP hS => ?_)
          replace hf := lt_at ex hf; clear ex
          refine lv_aload_n hx hb dX12_siege_122 rfl (lv_at hl 1 rfl) ?_
          refine lv_iload hx hb dX12_siege_123 (lv_at hl 0 rfl) ?_
          obtain ⟨r12, st13, hc, hf⟩ := bd_some hf
          refine m_calli (n := 1) (rest := []) E hP hS (fun sz => tX12_tell l D cy ad hJ sz x7 st11 r12 st13 hc) (gV k_1338 k_1340 ks_37 k_14 k_1341) qX12_tell ⟨Nat.le_of_ble_eq_true rfl, Nat.le_of_ble_eq_true rfl⟩ ⟨Nat.le_refl _, Nat.le_refl _⟩ rfl hl.1 rfl (Nat.le_of_ble_eq_true rfl) dX12_siege_125 (fun H locs hP hS => ?_)
          exact m_iret hx hb hr hlocks hf hP hS dX12_siege_128
        · replace hf := it_pos hc hf
          refine lv_aload_n hx hb dX12_siege_62 rfl (lv_at hl 1 rfl) ?_
          refine lv_bipush (v := -5) hx hb dX12_siege_63 (by decide) ?_
          obtain ⟨r14, st15, hc, hf⟩ := bd_some hf
          refine m_calli (n := 1) (rest := []) E hP hS (fun sz => tX12_tell l D cy ad hJ sz (-5 : Int32) st3 r14 st15 hc) (gV k_1338 k_1340 ks_37 k_14 k_1341) qX12_tell ⟨Nat.le_of_ble_eq_true rfl, Nat.le_of_ble_eq_true rfl⟩ ⟨Nat.le_refl _, Nat.le_refl _⟩ rfl hl.1 rfl (Nat.le_of_ble_eq_true rfl) dX12_siege_65 (fun H locs hP hS => ?_)
          exact m_iret hx hb hr hlocks hf hP hS dX12_siege_68
      · replace hf := it_pos hc hf
        exact B41 st3 _ _ ls hf (lv_sub hl [0] rfl) hP hS
theorem qX12_siege : yX12_siege.cls = RX12 ∧ yX12_siege.cls ≠ "java/lang/invoke/MethodHandle" ∧ yX12_siege.cls ≠ "java/lang/invoke/VarHandle" ∧ (parseMethodDescriptor yX12_siege.desc).map (fun d => d.parameters.length) = some 3 := by decide +kernel
def fX12_careful (a0 : Int32) (a1 : Int32) (st : St) : Option (Int32 × St) := bs (fX12_within ((a1.toInt64) + (1 : Int64)) (0 : Int32) (10 : Int32)) (fun r1 => gi ((((11 : Int32) * a0) + (11 : Int32)) + r1) 99 (gi ((123 : Int32) + ((3 : Int32) * a0)) 5550 (some (((st.2.2.1 42 ((((11 : Int32) * a0) + (11 : Int32)) + r1).toNatClampNeg) - (st.2.2.1 3 ((123 : Int32) + ((3 : Int32) * a0)).toNatClampNeg)), st))))
set_option maxHeartbeats 4000000 in
set_option maxRecDepth 100000 in
theorem tX12_careful (l : Launch) (D : va_G) (cy : Nat → ClassId) (ad : Nat → Nat) (hJ : (mads ad).Nodup) (sz : Nat) (a0 : Int32) (a1 : Int32) (st : St) (rr : Int32) (st' : St) (hf : fX12_careful a0 a1 st = some (rr, st')) : Met l yX12_careful (Cond.code yX12_careful cX12_careful 3 (some .int) :: TT) (rmD 1) (mPc D cy ad [.int a0, .int a1] st sz) (mQi D cy ad rr st' sz) 0 0 (mA ad sz) := by
  refine m_meti (by decide) hJ (Nat.le_of_ble_eq_true rfl) (fun p e s m args below meth c ls E hx hb hr hlocks hown hT hD hl hP hS => ?_)
  replace hl : lv_has ls 3 [(0, .ref (ad 100)), (1, .int a0), (2, .int a1)] := hl
  unfold fX12_careful at hf
  refine lv_aload_n hx hb dX12_careful_0 rfl (lv_at hl 0 rfl) ?_
  refine mg_42 E hP dX12_careful_1 ?_
  refine lv_bipush (v := 11) hx hb dX12_careful_4 (by decide) ?_
  refine lv_iload_n hx hb dX12_careful_6 rfl (lv_at hl 1 rfl) ?_
  refine lv_imul hx hb dX12_careful_7 ?_
  refine lv_bipush (v := 11) hx hb dX12_careful_8 (by decide) ?_
  refine lv_iadd hx hb dX12_careful_10 ?_
  refine lv_iload_n hx hb dX12_careful_11 rfl (lv_at hl 2 rfl) ?_
  refine lv_i2l (v := a1.toInt64) hx hb dX12_careful_12 rfl ?_
  refine lv_lconst (v := 1) hx hb dX12_careful_13 (by decide) ?_
  refine lv_ladd hx hb dX12_careful_14 ?_
  refine lv_iconst (v := 0) hx hb dX12_careful_15 (by decide) ?_
  refine lv_bipush (v := 10) hx hb dX12_careful_16 (by decide) ?_
  obtain ⟨r1, hc, hf⟩ := bs_some hf
  refine s_calli (n := 3) (rest := [.int (((11 : Int32) * a0) + (11 : Int32)), .ref (ad 42)]) E.1 (tX12_within l _ ((a1.toInt64) + (1 : Int64)) (0 : Int32) (10 : Int32) r1 hc) (gS k_1588 k_1589 k_14 k_1590) qX12_within ⟨Nat.le_of_ble_eq_true rfl, Nat.le_of_ble_eq_true rfl⟩ ⟨Nat.le_refl _, Nat.le_refl _⟩ rfl hl.1 rfl (Nat.le_of_ble_eq_true rfl) dX12_careful_18 ?_
  refine lv_iadd hx hb dX12_careful_21 ?_
  obtain ⟨hi, hf⟩ := gi_some hf
  refine ml_42 E hP hi dX12_careful_22 ?_
  refine lv_aload_n hx hb dX12_careful_23 rfl (lv_at hl 0 rfl) ?_
  refine mg_3 E hP dX12_careful_24 ?_
  refine lv_bipush (v := 123) hx hb dX12_careful_27 (by decide) ?_
  refine lv_iconst (v := 3) hx hb dX12_careful_29 (by decide) ?_
  refine lv_iload_n hx hb dX12_careful_30 rfl (lv_at hl 1 rfl) ?_
  refine lv_imul hx hb dX12_careful_31 ?_
  refine lv_iadd hx hb dX12_careful_32 ?_
  obtain ⟨hi, hf⟩ := gi_some hf
  refine ml_3 E hP hi dX12_careful_33 ?_
  refine lv_isub hx hb dX12_careful_34 ?_
  exact m_iret hx hb hr hlocks hf hP hS dX12_careful_35
theorem qX12_careful : yX12_careful.cls = RX12 ∧ yX12_careful.cls ≠ "java/lang/invoke/MethodHandle" ∧ yX12_careful.cls ≠ "java/lang/invoke/VarHandle" ∧ (parseMethodDescriptor yX12_careful.desc).map (fun d => d.parameters.length) = some 2 := by decide +kernel
def fX12_bold_b49 (w0 : Int32) (w1 : Int32) (st : St) : Option (Int32 × St) := some ((w1 + w0), st)
def fX12_bold (a0 : Int32) (a1 : Int32) (st : St) : Option (Int32 × St) := gi (((123 : Int32) + ((3 : Int32) * a0)) + (2 : Int32)) 5550 (lt (st.2.2.1 3 (((123 : Int32) + ((3 : Int32) * a0)) + (2 : Int32)).toNatClampNeg) (fun x1 => gi (((11 : Int32) * a0) + (11 : Int32)) 99 (gi (((123 : Int32) + ((3 : Int32) * a0)) + (1 : Int32)) 5550 (if a1 < (st.2.2.1 3 (((123 : Int32) + ((3 : Int32) * a0)) + (1 : Int32)).toNatClampNeg) then (fX12_bold_b49 (-x1) (st.2.2.1 42 (((11 : Int32) * a0) + (11 : Int32)).toNatClampNeg) st) else (fX12_bold_b49 x1 (st.2.2.1 42 (((11 : Int32) * a0) + (11 : Int32)).toNatClampNeg) st)))))
set_option maxHeartbeats 4000000 in
set_option maxRecDepth 100000 in
theorem tX12_bold (l : Launch) (D : va_G) (cy : Nat → ClassId) (ad : Nat → Nat) (hJ : (mads ad).Nodup) (sz : Nat) (a0 : Int32) (a1 : Int32) (st : St) (rr : Int32) (st' : St) (hf : fX12_bold a0 a1 st = some (rr, st')) : Met l yX12_bold (Cond.code yX12_bold cX12_bold 4 (some .int) :: TT) (rmD 0) (mPc D cy ad [.int a0, .int a1] st sz) (mQi D cy ad rr st' sz) 0 0 (mA ad sz) := by
  refine m_meti (by decide) hJ (Nat.le_of_ble_eq_true rfl) (fun p e s m args below meth c ls E hx hb hr hlocks hown hT hD hl hP hS => ?_)
  replace hl : lv_has ls 4 [(0, .ref (ad 100)), (1, .int a0), (2, .int a1)] := hl
  unfold fX12_bold at hf
  have B49 : ∀ (w0 : Int32) (w1 : Int32) (st : St) (H : Heap) (locs : List Loc) (ls : Array Slot), fX12_bold_b49 w0 w1 st = some (rr, st') → lv_has ls 4 [] → va_P D classes (mw cy ad st) H → va_S (mA ad s.heap.size) s.heap H locs → mGi l 0 D cy ad rr st' p e s m args below meth c H locs (F0 m 49 ls [.int w0, .int w1]) := by
    intro w0 w1 st H locs ls hf hl hP hS
    unfold fX12_bold_b49 at hf
    refine lv_iadd hx hb dX12_bold_49 ?_
    exact m_iret hx hb hr hlocks hf hP hS dX12_bold_50
  refine lv_aload_n hx hb dX12_bold_0 rfl (lv_at hl 0 rfl) ?_
  refine mg_3 E hP dX12_bold_1 ?_
  refine lv_bipush (v := 123) hx hb dX12_bold_4 (by decide) ?_
  refine lv_iconst (v := 3) hx hb dX12_bold_6 (by decide) ?_
  refine lv_iload_n hx hb dX12_bold_7 rfl (lv_at hl 1 rfl) ?_
  refine lv_imul hx hb dX12_bold_8 ?_
  refine lv_iadd hx hb dX12_bold_9 ?_
  refine lv_iconst (v := 2) hx hb dX12_bold_10 (by decide) ?_
  refine lv_iadd hx hb dX12_bold_11 ?_
  obtain ⟨hi, hf⟩ := gi_some hf
  refine ml_3 E hP hi dX12_bold_12 ?_
  refine lv_topi (fun x1 ex => ?_)
  replace hf := lt_at ex hf; clear ex
  refine lv_istore_n (lv' := [(3, .int x1), (0, .ref (ad 100)), (1, .int a0), (2, .int a1)]) hx hb dX12_bold_13 rfl hl (by decide) rfl (fun ls hl => ?_)
  refine lv_aload_n hx hb dX12_bold_14 rfl (lv_at hl 1 rfl) ?_
  refine mg_42 E hP dX12_bold_15 ?_
  refine lv_bipush (v := 11) hx hb dX12_bold_18 (by decide) ?_
  refine lv_iload_n hx hb dX12_bold_20 rfl (lv_at hl 2 rfl) ?_
  refine lv_imul hx hb dX12_bold_21 ?_
  refine lv_bipush (v := 11) hx hb dX12_bold_22 (by decide) ?_
  refine lv_iadd hx hb dX12_bold_24 ?_
  obtain ⟨hi, hf⟩ := gi_some hf
  refine ml_42 E hP hi dX12_bold_25 ?_
  refine lv_iload_n hx hb dX12_bold_26 rfl (lv_at hl 3 rfl) ?_
  refine lv_aload_n hx hb dX12_bold_27 rfl (lv_at hl 1 rfl) ?_
  refine mg_3 E hP dX12_bold_28 ?_
  refine lv_bipush (v := 123) hx hb dX12_bold_31 (by decide) ?_
  refine lv_iconst (v := 3) hx hb dX12_bold_33 (by decide) ?_
  refine lv_iload_n hx hb dX12_bold_34 rfl (lv_at hl 2 rfl) ?_
  refine lv_imul hx hb dX12_bold_35 ?_
  refine lv_iadd hx hb dX12_bold_36 ?_
  refine lv_iconst (v := 1) hx hb dX12_bold_37 (by decide) ?_
  refine lv_iadd hx hb dX12_bold_38 ?_
  obtain ⟨hi, hf⟩ := gi_some hf
  refine ml_3 E hP hi dX12_bold_39 ?_
  refine lv_icmp_lt (tgt := 47) hx hb dX12_bold_40 (by decide) (fun hc => ?_) (fun hc => ?_)
  · replace hf := it_pos hc hf
    refine lv_iload_n hx hb dX12_bold_47 rfl (lv_at hl 0 rfl) ?_
    refine lv_ineg hx hb dX12_bold_48 ?_
    exact B49 (-x1) (st.2.2.1 42 (((11 : Int32) * a0) + (11 : Int32)).toNatClampNeg) st _ _ ls hf (lv_sub hl [] rfl) hP hS
  · replace hf := it_neg hc hf
    refine lv_iload_n hx hb dX12_bold_43 rfl (lv_at hl 0 rfl) ?_
    refine lv_goto (tgt := 49) hx hb dX12_bold_44 (by decide) ?_
    exact B49 x1 (st.2.2.1 42 (((11 : Int32) * a0) + (11 : Int32)).toNatClampNeg) st _ _ ls hf (lv_sub hl [] rfl) hP hS
theorem qX12_bold : yX12_bold.cls = RX12 ∧ yX12_bold.cls ≠ "java/lang/invoke/MethodHandle" ∧ yX12_bold.cls ≠ "java/lang/invoke/VarHandle" ∧ (parseMethodDescriptor yX12_bold.desc).map (fun d => d.parameters.length) = some 2 := by decide +kernel
def fX12_career_b35 (st : St) : Option (Int32 × St) := some ((-100000 : Int32), st)
def fX12_career_b240 (w0 : Int32) (st : St) : Option (Int32 × St) := some (w0, st)
def fX12_career_b217 (k160 : Int32 → Int32 → Int32 → Int32 → Int32 → St → Option (Int32 × St)) (v1 : Int32) (v2 : Int32) (v5 : Int32) (v6 : Int32) (w0 : Int32) (st : St) : Option (Int32 × St) := lt (v6 + (1 : Int32)) (fun x1 => k160 v1 v2 w0 v5 x1 st)
def fX12_career_b195 (k160 : Int32 → Int32 → Int32 → Int32 → Int32 → St → Option (Int32 × St)) (v1 : Int32) (v2 : Int32) (v4 : Int32) (v6 : Int32) (w0 : Int32) (st : St) : Option (Int32 × St) := if w0 = 0 then (bs (fX12_within ((v4.toInt64) + (1 : Int64)) (0 : Int32) (10 : Int32)) (fun r2 => fX12_career_b217 k160 v1 v2 w0 v6 r2 st)) else (fX12_career_b217 k160 v1 v2 w0 v6 (0 : Int32) st)
def fX12_career_b160 (k160 : Int32 → Int32 → Int32 → Int32 → Int32 → St → Option (Int32 × St)) (v1 : Int32) (v2 : Int32) (v4 : Int32) (v5 : Int32) (v6 : Int32) (st : St) : Option (Int32 × St) := if v2 ≤ v6 then (if v2 = 0 then (gi v1 99 (fX12_career_b240 (st.2.2.1 42 v1.toNatClampNeg) st)) else (fX12_career_b240 v5 st)) else (bd (fX12_careful v6 v4 st) (fun r3 st4 => gi (((11 : Int32) * v6) + v4) 99 (if r3 = (st4.2.2.1 42 (((11 : Int32) * v6) + v4).toNatClampNeg) then (fX12_career_b195 k160 v1 v2 v4 v6 (0 : Int32) st4) else (fX12_career_b195 k160 v1 v2 v4 v6 (1 : Int32) st4))))
def fX12_career_b138 (k73 : Int32 → Int32 → Int32 → St → Option (Int32 × St)) (k81 : Int32 → Int32 → Int32 → Int32 → St → Option (Int32 × St)) (v1 : Int32) (v2 : Int32) (v4 : Int32) (v5 : Int32) (w0 : Int32) (w1 : Int32) (st : St) : Option (Int32 × St) := gi w1 99 (lt (sA st 42 (upd (st.2.2.1 42) w1.toNatClampNeg w0)) (fun st5 => lt (v5 + (1 : Int32)) (fun x6 => k81 v1 v2 v4 x6 st5)))
def fX12_career_b81 (k73 : Int32 → Int32 → Int32 → St → Option (Int32 × St)) (k81 : Int32 → Int32 → Int32 → Int32 → St → Option (Int32 × St)) (v1 : Int32) (v2 : Int32) (v4 : Int32) (v5 : Int32) (st : St) : Option (Int32 × St) := if (11 : Int32) ≤ v5 then (lt (v4 + (-1 : Int32)) (fun x7 => k73 v1 v2 x7 st)) else (bd (fX12_careful v4 v5 st) (fun r8 st9 => bd (fX12_bold v4 v5 st9) (fun r10 st11 => if r8 < r10 then (bd (fX12_bold v4 v5 st11) (fun r12 st13 => fX12_career_b138 k73 k81 v1 v2 v4 v5 r12 (((11 : Int32) * v4) + v5) st13)) else (bd (fX12_careful v4 v5 st11) (fun r14 st15 => fX12_career_b138 k73 k81 v1 v2 v4 v5 r14 (((11 : Int32) * v4) + v5) st15)))))
def fX12_career_b73 (k73 : Int32 → Int32 → Int32 → St → Option (Int32 × St)) (v1 : Int32) (v2 : Int32) (v4 : Int32) (st : St) : Option (Int32 × St) := if v4 < 0 then (lp (fun _ _ _ _ _ _ => none) (fX12_career_b160) 6000 v1 v2 v1 (0 : Int32) (0 : Int32) st) else (lp (fun _ _ _ _ _ => none) (fX12_career_b81 k73) 6000 v1 v2 v4 (0 : Int32) st)
def fX12_career_b42 (k42 : Int32 → Int32 → Int32 → Int32 → St → Option (Int32 × St)) (v1 : Int32) (v2 : Int32) (v3 : Int32) (v4 : Int32) (st : St) : Option (Int32 × St) := if (11 : Int32) ≤ v4 then (lt (v3 - (1 : Int32)) (fun x16 => lp (fun _ _ _ _ => none) (fX12_career_b73) 6000 v1 v2 x16 st)) else (gi (((11 : Int32) * v3) + v4) 99 (lt (sA st 42 (upd (st.2.2.1 42) (((11 : Int32) * v3) + v4).toNatClampNeg (0 : Int32))) (fun st17 => lt (v4 + (1 : Int32)) (fun x18 => k42 v1 v2 v3 x18 st17))))
def fX12_career (a0 : Int32) (a1 : Int32) (st : St) : Option (Int32 × St) := lt (sI st 0 (0 : Int32)) (fun st19 => lt (st19.2.2.1 3 (1 : Int32).toNatClampNeg) (fun x20 => bs (fX12_in (a0.toInt64) (0 : Int64) (10 : Int64)) (fun r21 => if r21 = 0 then (fX12_career_b35 st19) else (bs (fX12_in (a1.toInt64) (0 : Int64) (x20.toInt64)) (fun r22 => if r22 = 0 then (fX12_career_b35 st19) else (lp (fun _ _ _ _ _ => none) (fX12_career_b42) 6000 a0 a1 x20 (0 : Int32) st19))))))
set_option maxHeartbeats 4000000 in
set_option maxRecDepth 100000 in
theorem tX12_career (l : Launch) (D : va_G) (cy : Nat → ClassId) (ad : Nat → Nat) (hJ : (mads ad).Nodup) (sz : Nat) (a0 : Int32) (a1 : Int32) (st : St) (rr : Int32) (st' : St) (hf : fX12_career a0 a1 st = some (rr, st')) : Met l yX12_career (Cond.code yX12_career cX12_career 7 (some .int) :: TT) (rmD 2) (mPc D cy ad [.int a0, .int a1] st sz) (mQi D cy ad rr st' sz) 0 0 (mA ad sz) := by
  refine m_meti (by decide) hJ (Nat.le_of_ble_eq_true rfl) (fun p e s m args below meth c ls E hx hb hr hlocks hown hT hD hl hP hS => ?_)
  replace hl : lv_has ls 7 [(0, .ref (ad 100)), (1, .int a0), (2, .int a1)] := hl
  unfold fX12_career at hf
  have B35 : ∀ (st : St) (H : Heap) (locs : List Loc) (ls : Array Slot), fX12_career_b35 st = some (rr, st') → lv_has ls 7 [] → va_P D classes (mw cy ad st) H → va_S (mA ad s.heap.size) s.heap H locs → mGi l 2 D cy ad rr st' p e s m args below meth c H locs (F0 m 35 ls []) := by
    intro st H locs ls hf hl hP hS
    unfold fX12_career_b35 at hf
    refine lv_ldcw (v := -100000) hx hb hown (hT _ k_1693) dX12_career_35 ?_
    exact m_iret hx hb hr hlocks hf hP hS dX12_career_38
  have B240 : ∀ (w0 : Int32) (st : St) (H : Heap) (locs : List Loc) (ls : Array Slot), fX12_career_b240 w0 st = some (rr, st') → lv_has ls 7 [] → va_P D classes (mw cy ad st) H → va_S (mA ad s.heap.size) s.heap H locs → mGi l 2 D cy ad rr st' p e s m args below meth c H locs (F0 m 240 ls [.int w0]) := by
    intro w0 st H locs ls hf hl hP hS
    unfold fX12_career_b240 at hf
    exact m_iret hx hb hr hlocks hf hP hS dX12_career_240
  have L160 : ∀ (n : Nat) (v1 : Int32) (v2 : Int32) (v4 : Int32) (v5 : Int32) (v6 : Int32) (st : St) (H : Heap) (locs : List Loc) (ls : Array Slot), lp (fun _ _ _ _ _ _ => none) (fX12_career_b160) n v1 v2 v4 v5 v6 st = some (rr, st') → lv_has ls 7 [(0, .ref (ad 100)), (1, .int v1), (2, .int v2), (4, .int v4), (5, .int v5), (6, .int v6)] → va_P D classes (mw cy ad st) H → va_S (mA ad s.heap.size) s.heap H locs → mGi l 2 D cy ad rr st' p e s m args below meth c H locs (F0 m 160 ls []) := by
    intro n
    induction n with
    | zero => intro v1 v2 v4 v5 v6 st H locs ls hf; exact absurd hf (fun h => by cases h)
    | succ n K160 =>
      intro v1 v2 v4 v5 v6 st H locs ls hf hl hP hS
      replace hf : fX12_career_b160 (lp (fun _ _ _ _ _ _ => none) (fX12_career_b160) n) v1 v2 v4 v5 v6 st = some (rr, st') := hf
      generalize lp (fun _ _ _ _ _ _ => none) (fX12_career_b160) n = k160 at hf K160
      have B217 : ∀ (v1 : Int32) (v2 : Int32) (v5 : Int32) (v6 : Int32) (w0 : Int32) (st : St) (H : Heap) (locs : List Loc) (ls : Array Slot), fX12_career_b217 k160 v1 v2 v5 v6 w0 st = some (rr, st') → lv_has ls 7 [(0, .ref (ad 100)), (1, .int v1), (2, .int v2), (5, .int v5), (6, .int v6)] → va_P D classes (mw cy ad st) H → va_S (mA ad s.heap.size) s.heap H locs → mGi l 2 D cy ad rr st' p e s m args below meth c H locs (F0 m 217 ls [.int w0]) := by
        intro v1 v2 v5 v6 w0 st H locs ls hf hl hP hS
        unfold fX12_career_b217 at hf
        refine lv_istore (lv' := [(4, .int w0), (0, .ref (ad 100)), (1, .int v1), (2, .int v2), (5, .int v5), (6, .int v6)]) hx hb dX12_career_217 hl (by decide) rfl (fun ls hl => ?_)
        obtain ⟨x1, ex⟩ : ∃ y : Int32, y = v6 + (1 : Int32) := ⟨_, rfl⟩
        replace hf := lt_at ex hf
        refine lv_iinc (v := x1) (lv' := [(6, .int x1), (4, .int w0), (0, .ref (ad 100)), (1, .int v1), (2, .int v2), (5, .int v5)]) hx hb dX12_career_219 hl (k := 5) rfl (by rw [ex]; rfl) (by decide) rfl (fun ls hl => ?_)
        clear ex
        refine lv_goto (tgt := 160) hx hb dX12_career_222 (by decide) ?_
        exact K160 v1 v2 w0 v5 x1 st _ _ ls hf (lv_sub hl [2, 3, 4, 1, 5, 0] rfl) hP hS
      have B195 : ∀ (v1 : Int32) (v2 : Int32) (v4 : Int32) (v6 : Int32) (w0 : Int32) (st : St) (H : Heap) (locs : List Loc) (ls : Array Slot), fX12_career_b195 k160 v1 v2 v4 v6 w0 st = some (rr, st') → lv_has ls 7 [(0, .ref (ad 100)), (1, .int v1), (2, .int v2), (4, .int v4), (6, .int v6)] → va_P D classes (mw cy ad st) H → va_S (mA ad s.heap.size) s.heap H locs → mGi l 2 D cy ad rr st' p e s m args below meth c H locs (F0 m 195 ls [.int w0]) := by
        intro v1 v2 v4 v6 w0 st H locs ls hf hl hP hS
        unfold fX12_career_b195 at hf
        refine lv_istore (lv' := [(5, .int w0), (0, .ref (ad 100)), (1, .int v1), (2, .int v2), (4, .int v4), (6, .int v6)]) hx hb dX12_career_195 hl (by decide) rfl (fun ls hl => ?_)
        refine lv_iload hx hb dX12_career_197 (lv_at hl 0 rfl) ?_
        refine lv_if_ne (tgt := 216) hx hb dX12_career_199 (by decide) (fun hc => ?_) (fun hc => ?_)
        · replace hf := it_neg hc hf
          refine lv_iconst (v := 0) hx hb dX12_career_216 (by decide) ?_
          exact B217 v1 v2 w0 v6 (0 : Int32) st _ _ ls hf (lv_sub hl [1, 2, 3, 0, 5] rfl) hP hS
        · replace hf := it_pos hc hf
          refine lv_iload hx hb dX12_career_202 (lv_at hl 4 rfl) ?_
          refine lv_i2l (v := v4.toInt64) hx hb dX12_career_204 rfl ?_
          refine lv_lconst (v := 1) hx hb dX12_career_205 (by decide) ?_
          refine lv_ladd hx hb dX12_career_206 ?_
          refine lv_iconst (v := 0) hx hb dX12_career_207 (by decide) ?_
          refine lv_bipush (v := 10) hx hb dX12_career_208 (by decide) ?_
          obtain ⟨r2, hc, hf⟩ := bs_some hf
          refine s_calli (n := 3) (rest := []) E.1 (tX12_within l _ ((v4.toInt64) + (1 : Int64)) (0 : Int32) (10 : Int32) r2 hc) (gS k_1588 k_1589 k_14 k_1590) qX12_within ⟨Nat.le_of_ble_eq_true rfl, Nat.le_of_ble_eq_true rfl⟩ ⟨Nat.le_refl _, Nat.le_refl _⟩ rfl hl.1 rfl (Nat.le_of_ble_eq_true rfl) dX12_career_210 ?_
          refine lv_goto (tgt := 217) hx hb dX12_career_213 (by decide) ?_
          exact B217 v1 v2 w0 v6 r2 st _ _ ls hf (lv_sub hl [1, 2, 3, 0, 5] rfl) hP hS
      unfold fX12_career_b160 at hf
      refine lv_iload hx hb dX12_career_160 (lv_at hl 5 rfl) ?_
      refine lv_iload_n hx hb dX12_career_162 rfl (lv_at hl 2 rfl) ?_
      refine lv_icmp_ge (tgt := 225) hx hb dX12_career_163 (by decide) (fun hc => ?_) (fun hc => ?_)
      · replace hf := it_pos hc hf
        refine lv_iload_n hx hb dX12_career_225 rfl (lv_at hl 2 rfl) ?_
        refine lv_if_ne (tgt := 238) hx hb dX12_career_226 (by decide) (fun hc => ?_) (fun hc => ?_)
        · replace hf := it_neg hc hf
          refine lv_iload hx hb dX12_career_238 (lv_at hl 4 rfl) ?_
          exact B240 v5 st _ _ ls hf (lv_sub hl [] rfl) hP hS
        · replace hf := it_pos hc hf
          refine lv_aload_n hx hb dX12_career_229 rfl (lv_at hl 0 rfl) ?_
          refine mg_42 E hP dX12_career_230 ?_
          refine lv_iload_n hx hb dX12_career_233 rfl (lv_at hl 1 rfl) ?_
          obtain ⟨hi, hf⟩ := gi_some hf
          refine ml_42 E hP hi dX12_career_234 ?_
          refine lv_goto (tgt := 240) hx hb dX12_career_235 (by decide) ?_
          exact B240 (st.2.2.1 42 v1.toNatClampNeg) st _ _ ls hf (lv_sub hl [] rfl) hP hS
      · replace hf := it_neg hc hf
        refine lv_aload_n hx hb dX12_career_166 rfl (lv_at hl 0 rfl) ?_
        refine lv_iload hx hb dX12_career_167 (lv_at hl 5 rfl) ?_
        refine lv_iload hx hb dX12_career_169 (lv_at hl 3 rfl) ?_
        obtain ⟨r3, st4, hc, hf⟩ := bd_some hf
        refine m_calli (n := 2) (rest := []) E hP hS (fun sz => tX12_careful l D cy ad hJ sz v6 v4 st r3 st4 hc) (gV k_1708 k_1710 ks_88 k_14 k_1711) qX12_careful ⟨Nat.le_of_ble_eq_true rfl, Nat.le_of_ble_eq_true rfl⟩ ⟨Nat.le_refl _, Nat.le_refl _⟩ rfl hl.1 rfl (Nat.le_of_ble_eq_true rfl) dX12_career_171 (fun H locs hP hS => ?_)
        refine lv_aload_n hx hb dX12_career_174 rfl (lv_at hl 0 rfl) ?_
        refine mg_42 E hP dX12_career_175 ?_
        refine lv_bipush (v := 11) hx hb dX12_career_178 (by decide) ?_
        refine lv_iload hx hb dX12_career_180 (lv_at hl 5 rfl) ?_
        refine lv_imul hx hb dX12_career_182 ?_
        refine lv_iload hx hb dX12_career_183 (lv_at hl 3 rfl) ?_
        refine lv_iadd hx hb dX12_career_185 ?_
        obtain ⟨hi, hf⟩ := gi_some hf
        refine ml_42 E hP hi dX12_career_186 ?_
        refine lv_icmp_ne (tgt := 194) hx hb dX12_career_187 (by decide) (fun hc => ?_) (fun hc => ?_)
        · replace hf := it_neg hc hf
          refine lv_iconst (v := 1) hx hb dX12_career_194 (by decide) ?_
          exact B195 v1 v2 v4 v6 (1 : Int32) st4 _ _ ls hf (lv_sub hl [0, 1, 2, 3, 5] rfl) hP hS
        · replace hf := it_pos hc hf
          refine lv_iconst (v := 0) hx hb dX12_career_190 (by decide) ?_
          refine lv_goto (tgt := 195) hx hb dX12_career_191 (by decide) ?_
          exact B195 v1 v2 v4 v6 (0 : Int32) st4 _ _ ls hf (lv_sub hl [0, 1, 2, 3, 5] rfl) hP hS
  have L73 : ∀ (n : Nat) (v1 : Int32) (v2 : Int32) (v4 : Int32) (st : St) (H : Heap) (locs : List Loc) (ls : Array Slot), lp (fun _ _ _ _ => none) (fX12_career_b73) n v1 v2 v4 st = some (rr, st') → lv_has ls 7 [(0, .ref (ad 100)), (1, .int v1), (2, .int v2), (4, .int v4)] → va_P D classes (mw cy ad st) H → va_S (mA ad s.heap.size) s.heap H locs → mGi l 2 D cy ad rr st' p e s m args below meth c H locs (F0 m 73 ls []) := by
    intro n
    induction n with
    | zero => intro v1 v2 v4 st H locs ls hf; exact absurd hf (fun h => by cases h)
    | succ n K73 =>
      intro v1 v2 v4 st H locs ls hf hl hP hS
      replace hf : fX12_career_b73 (lp (fun _ _ _ _ => none) (fX12_career_b73) n) v1 v2 v4 st = some (rr, st') := hf
      generalize lp (fun _ _ _ _ => none) (fX12_career_b73) n = k73 at hf K73
      have L81 : ∀ (n : Nat) (v1 : Int32) (v2 : Int32) (v4 : Int32) (v5 : Int32) (st : St) (H : Heap) (locs : List Loc) (ls : Array Slot), lp (fun _ _ _ _ _ => none) (fX12_career_b81 k73) n v1 v2 v4 v5 st = some (rr, st') → lv_has ls 7 [(0, .ref (ad 100)), (1, .int v1), (2, .int v2), (4, .int v4), (5, .int v5)] → va_P D classes (mw cy ad st) H → va_S (mA ad s.heap.size) s.heap H locs → mGi l 2 D cy ad rr st' p e s m args below meth c H locs (F0 m 81 ls []) := by
        intro n
        induction n with
        | zero => intro v1 v2 v4 v5 st H locs ls hf; exact absurd hf (fun h => by cases h)
        | succ n K81 =>
          intro v1 v2 v4 v5 st H locs ls hf hl hP hS
          replace hf : fX12_career_b81 k73 (lp (fun _ _ _ _ _ => none) (fX12_career_b81 k73) n) v1 v2 v4 v5 st = some (rr, st') := hf
          generalize lp (fun _ _ _ _ _ => none) (fX12_career_b81 k73) n = k81 at hf K81
          have B138 : ∀ (v1 : Int32) (v2 : Int32) (v4 : Int32) (v5 : Int32) (w0 : Int32) (w1 : Int32) (st : St) (H : Heap) (locs : List Loc) (ls : Array Slot), fX12_career_b138 k73 k81 v1 v2 v4 v5 w0 w1 st = some (rr, st') → lv_has ls 7 [(0, .ref (ad 100)), (1, .int v1), (2, .int v2), (4, .int v4), (5, .int v5)] → va_P D classes (mw cy ad st) H → va_S (mA ad s.heap.size) s.heap H locs → mGi l 2 D cy ad rr st' p e s m args below meth c H locs (F0 m 138 ls [.int w0, .int w1, .ref (ad 42)]) := by
            intro v1 v2 v4 v5 w0 w1 st H locs ls hf hl hP hS
            unfold fX12_career_b138 at hf
            obtain ⟨hi, hf⟩ := gi_some hf
            refine ms_42 E hD hP hS hi dX12_career_138 (fun st5 H locs ex hP hS => ?_)
            replace hf := lt_at ex hf; clear ex
            obtain ⟨x6, ex⟩ : ∃ y : Int32, y = v5 + (1 : Int32) := ⟨_, rfl⟩
            replace hf := lt_at ex hf
            refine lv_iinc (v := x6) (lv' := [(5, .int x6), (0, .ref (ad 100)), (1, .int v1), (2, .int v2), (4, .int v4)]) hx hb dX12_career_139 hl (k := 4) rfl (by rw [ex]; rfl) (by decide) rfl (fun ls hl => ?_)
            clear ex
            refine lv_goto (tgt := 81) hx hb dX12_career_142 (by decide) ?_
            exact K81 v1 v2 v4 x6 st5 _ _ ls hf (lv_sub hl [1, 2, 3, 4, 0] rfl) hP hS
          unfold fX12_career_b81 at hf
          refine lv_iload hx hb dX12_career_81 (lv_at hl 4 rfl) ?_
          refine lv_bipush (v := 11) hx hb dX12_career_83 (by decide) ?_
          refine lv_icmp_ge (tgt := 145) hx hb dX12_career_85 (by decide) (fun hc => ?_) (fun hc => ?_)
          · replace hf := it_pos hc hf
            obtain ⟨x7, ex⟩ : ∃ y : Int32, y = v4 + (-1 : Int32) := ⟨_, rfl⟩
            replace hf := lt_at ex hf
            refine lv_iinc (v := x7) (lv' := [(4, .int x7), (0, .ref (ad 100)), (1, .int v1), (2, .int v2), (5, .int v5)]) hx hb dX12_career_145 hl (k := 3) rfl (by rw [ex]; rfl) (by decide) rfl (fun ls hl => ?_)
            clear ex
            refine lv_goto (tgt := 73) hx hb dX12_career_148 (by decide) ?_
            exact K73 v1 v2 x7 st _ _ ls hf (lv_sub hl [1, 2, 3, 0] rfl) hP hS
          · replace hf := it_neg hc hf
            refine lv_aload_n hx hb dX12_career_88 rfl (lv_at hl 0 rfl) ?_
            refine mg_42 E hP dX12_career_89 ?_
            refine lv_bipush (v := 11) hx hb dX12_career_92 (by decide) ?_
            refine lv_iload hx hb dX12_career_94 (lv_at hl 3 rfl) ?_
            refine lv_imul hx hb dX12_career_96 ?_
            refine lv_iload hx hb dX12_career_97 (lv_at hl 4 rfl) ?_
            refine lv_iadd hx hb dX12_career_99 ?_
            refine lv_aload_n hx hb dX12_career_100 rfl (lv_at hl 0 rfl) ?_
            refine lv_iload hx hb dX12_career_101 (lv_at hl 3 rfl) ?_
            refine lv_iload hx hb dX12_career_103 (lv_at hl 4 rfl) ?_
            obtain ⟨r8, st9, hc, hf⟩ := bd_some hf
            refine m_calli (n := 2) (rest := [.int (((11 : Int32) * v4) + v5), .ref (ad 42)]) E hP hS (fun sz => tX12_careful l D cy ad hJ sz v4 v5 st r8 st9 hc) (gV k_1708 k_1710 ks_88 k_14 k_1711) qX12_careful ⟨Nat.le_of_ble_eq_true rfl, Nat.le_of_ble_eq_true rfl⟩ ⟨Nat.le_refl _, Nat.le_refl _⟩ rfl hl.1 rfl (Nat.le_of_ble_eq_true rfl) dX12_career_105 (fun H locs hP hS => ?_)
            refine lv_aload_n hx hb dX12_career_108 rfl (lv_at hl 0 rfl) ?_
            refine lv_iload hx hb dX12_career_109 (lv_at hl 3 rfl) ?_
            refine lv_iload hx hb dX12_career_111 (lv_at hl 4 rfl) ?_
            obtain ⟨r10, st11, hc, hf⟩ := bd_some hf
            refine m_calli (n := 2) (rest := [.int r8, .int (((11 : Int32) * v4) + v5), .ref (ad 42)]) E hP hS (fun sz => tX12_bold l D cy ad hJ sz v4 v5 st9 r10 st11 hc) (gV k_1712 k_1714 ks_89 k_14 k_1715) qX12_bold ⟨Nat.le_of_ble_eq_true rfl, Nat.le_of_ble_eq_true rfl⟩ ⟨Nat.le_refl _, Nat.le_refl _⟩ rfl hl.1 rfl (Nat.le_of_ble_eq_true rfl) dX12_career_113 (fun H locs hP hS => ?_)
            refine lv_icmp_lt (tgt := 130) hx hb dX12_career_116 (by decide) (fun hc => ?_) (fun hc => ?_)
            · replace hf := it_pos hc hf
              refine lv_aload_n hx hb dX12_career_130 rfl (lv_at hl 0 rfl) ?_
              refine lv_iload hx hb dX12_career_131 (lv_at hl 3 rfl) ?_
              refine lv_iload hx hb dX12_career_133 (lv_at hl 4 rfl) ?_
              obtain ⟨r12, st13, hc, hf⟩ := bd_some hf
              refine m_calli (n := 2) (rest := [.int (((11 : Int32) * v4) + v5), .ref (ad 42)]) E hP hS (fun sz => tX12_bold l D cy ad hJ sz v4 v5 st11 r12 st13 hc) (gV k_1712 k_1714 ks_89 k_14 k_1715) qX12_bold ⟨Nat.le_of_ble_eq_true rfl, Nat.le_of_ble_eq_true rfl⟩ ⟨Nat.le_refl _, Nat.le_refl _⟩ rfl hl.1 rfl (Nat.le_of_ble_eq_true rfl) dX12_career_135 (fun H locs hP hS => ?_)
              exact B138 v1 v2 v4 v5 r12 (((11 : Int32) * v4) + v5) st13 _ _ ls hf hl hP hS
            · replace hf := it_neg hc hf
              refine lv_aload_n hx hb dX12_career_119 rfl (lv_at hl 0 rfl) ?_
              refine lv_iload hx hb dX12_career_120 (lv_at hl 3 rfl) ?_
              refine lv_iload hx hb dX12_career_122 (lv_at hl 4 rfl) ?_
              obtain ⟨r14, st15, hc, hf⟩ := bd_some hf
              refine m_calli (n := 2) (rest := [.int (((11 : Int32) * v4) + v5), .ref (ad 42)]) E hP hS (fun sz => tX12_careful l D cy ad hJ sz v4 v5 st11 r14 st15 hc) (gV k_1708 k_1710 ks_88 k_14 k_1711) qX12_careful ⟨Nat.le_of_ble_eq_true rfl, Nat.le_of_ble_eq_true rfl⟩ ⟨Nat.le_refl _, Nat.le_refl _⟩ rfl hl.1 rfl (Nat.le_of_ble_eq_true rfl) dX12_career_124 (fun H locs hP hS => ?_)
              refine lv_goto (tgt := 138) hx hb dX12_career_127 (by decide) ?_
              exact B138 v1 v2 v4 v5 r14 (((11 : Int32) * v4) + v5) st15 _ _ ls hf hl hP hS
      unfold fX12_career_b73 at hf
      refine lv_iload hx hb dX12_career_73 (lv_at hl 3 rfl) ?_
      refine lv_if_lt (tgt := 151) hx hb dX12_career_75 (by decide) (fun hc => ?_) (fun hc => ?_)
      · replace hf := it_pos hc hf
        refine lv_iload_n hx hb dX12_career_151 rfl (lv_at hl 1 rfl) ?_
        refine lv_istore (lv' := [(4, .int v1), (0, .ref (ad 100)), (1, .int v1), (2, .int v2)]) hx hb dX12_career_152 hl (by decide) rfl (fun ls hl => ?_)
        refine lv_iconst (v := 0) hx hb dX12_career_154 (by decide) ?_
        refine lv_istore (lv' := [(5, .int (0 : Int32)), (4, .int v1), (0, .ref (ad 100)), (1, .int v1), (2, .int v2)]) hx hb dX12_career_155 hl (by decide) rfl (fun ls hl => ?_)
        refine lv_iconst (v := 0) hx hb dX12_career_157 (by decide) ?_
        refine lv_istore (lv' := [(6, .int (0 : Int32)), (5, .int (0 : Int32)), (4, .int v1), (0, .ref (ad 100)), (1, .int v1), (2, .int v2)]) hx hb dX12_career_158 hl (by decide) rfl (fun ls hl => ?_)
        exact L160 6000 v1 v2 v1 (0 : Int32) (0 : Int32) st _ _ ls hf (lv_sub hl [3, 4, 5, 2, 1, 0] rfl) hP hS
      · replace hf := it_neg hc hf
        refine lv_iconst (v := 0) hx hb dX12_career_78 (by decide) ?_
        refine lv_istore (lv' := [(5, .int (0 : Int32)), (0, .ref (ad 100)), (1, .int v1), (2, .int v2), (4, .int v4)]) hx hb dX12_career_79 hl (by decide) rfl (fun ls hl => ?_)
        exact L81 6000 v1 v2 v4 (0 : Int32) st _ _ ls hf (lv_sub hl [1, 2, 3, 4, 0] rfl) hP hS
  have L42 : ∀ (n : Nat) (v1 : Int32) (v2 : Int32) (v3 : Int32) (v4 : Int32) (st : St) (H : Heap) (locs : List Loc) (ls : Array Slot), lp (fun _ _ _ _ _ => none) (fX12_career_b42) n v1 v2 v3 v4 st = some (rr, st') → lv_has ls 7 [(0, .ref (ad 100)), (1, .int v1), (2, .int v2), (3, .int v3), (4, .int v4)] → va_P D classes (mw cy ad st) H → va_S (mA ad s.heap.size) s.heap H locs → mGi l 2 D cy ad rr st' p e s m args below meth c H locs (F0 m 42 ls []) := by
    intro n
    induction n with
    | zero => intro v1 v2 v3 v4 st H locs ls hf; exact absurd hf (fun h => by cases h)
    | succ n K42 =>
      intro v1 v2 v3 v4 st H locs ls hf hl hP hS
      replace hf : fX12_career_b42 (lp (fun _ _ _ _ _ => none) (fX12_career_b42) n) v1 v2 v3 v4 st = some (rr, st') := hf
      generalize lp (fun _ _ _ _ _ => none) (fX12_career_b42) n = k42 at hf K42
      unfold fX12_career_b42 at hf
      refine lv_iload hx hb dX12_career_42 (lv_at hl 4 rfl) ?_
      refine lv_bipush (v := 11) hx hb dX12_career_44 (by decide) ?_
      refine lv_icmp_ge (tgt := 68) hx hb dX12_career_46 (by decide) (fun hc => ?_) (fun hc => ?_)
      · replace hf := it_pos hc hf
        refine lv_iload_n hx hb dX12_career_68 rfl (lv_at hl 3 rfl) ?_
        refine lv_iconst (v := 1) hx hb dX12_career_69 (by decide) ?_
        refine lv_isub hx hb dX12_career_70 ?_
        refine lv_topi (fun x16 ex => ?_)
        replace hf := lt_at ex hf; clear ex
        refine lv_istore (lv' := [(4, .int x16), (0, .ref (ad 100)), (1, .int v1), (2, .int v2), (3, .int v3)]) hx hb dX12_career_71 hl (by decide) rfl (fun ls hl => ?_)
        exact L73 6000 v1 v2 x16 st _ _ ls hf (lv_sub hl [1, 2, 3, 0] rfl) hP hS
      · replace hf := it_neg hc hf
        refine lv_aload_n hx hb dX12_career_49 rfl (lv_at hl 0 rfl) ?_
        refine mg_42 E hP dX12_career_50 ?_
        refine lv_bipush (v := 11) hx hb dX12_career_53 (by decide) ?_
        refine lv_iload_n hx hb dX12_career_55 rfl (lv_at hl 3 rfl) ?_
        refine lv_imul hx hb dX12_career_56 ?_
        refine lv_iload hx hb dX12_career_57 (lv_at hl 4 rfl) ?_
        refine lv_iadd hx hb dX12_career_59 ?_
        refine lv_iconst (v := 0) hx hb dX12_career_60 (by decide) ?_
        obtain ⟨hi, hf⟩ := gi_some hf
        refine ms_42 E hD hP hS hi dX12_career_61 (fun st17 H locs ex hP hS => ?_)
        replace hf := lt_at ex hf; clear ex
        obtain ⟨x18, ex⟩ : ∃ y : Int32, y = v4 + (1 : Int32) := ⟨_, rfl⟩
        replace hf := lt_at ex hf
        refine lv_iinc (v := x18) (lv' := [(4, .int x18), (0, .ref (ad 100)), (1, .int v1), (2, .int v2), (3, .int v3)]) hx hb dX12_career_62 hl (k := 4) rfl (by rw [ex]; rfl) (by decide) rfl (fun ls hl => ?_)
        clear ex
        refine lv_goto (tgt := 42) hx hb dX12_career_65 (by decide) ?_
        exact K42 v1 v2 v3 x18 st17 _ _ ls hf (lv_sub hl [1, 2, 3, 4, 0] rfl) hP hS
  refine lv_aload_n hx hb dX12_career_0 rfl (lv_at hl 0 rfl) ?_
  refine lv_iconst (v := 0) hx hb dX12_career_1 (by decide) ?_
  refine mp_0 E hD hP hS dX12_career_2 (fun st19 H locs ex hP hS => ?_)
  replace hf := lt_at ex hf; clear ex
  refine lv_aload_n hx hb dX12_career_5 rfl (lv_at hl 0 rfl) ?_
  refine mg_3 E hP dX12_career_6 ?_
  refine lv_iconst (v := 1) hx hb dX12_career_9 (by decide) ?_
  refine ml_3 E hP (vi rfl) dX12_career_10 ?_
  refine lv_topi (fun x20 ex => ?_)
  replace hf := lt_at ex hf; clear ex
  refine lv_istore_n (lv' := [(3, .int x20), (0, .ref (ad 100)), (1, .int a0), (2, .int a1)]) hx hb dX12_career_11 rfl hl (by decide) rfl (fun ls hl => ?_)
  refine lv_iload_n hx hb dX12_career_12 rfl (lv_at hl 2 rfl) ?_
  refine lv_i2l (v := a0.toInt64) hx hb dX12_career_13 rfl ?_
  refine lv_lconst (v := 0) hx hb dX12_career_14 (by decide) ?_
  refine lv_ldc2 (v := 10) hx hb hown (hT _ k_1398) dX12_career_15 ?_
  obtain ⟨r21, hc, hf⟩ := bs_some hf
  refine s_calli (n := 3) (rest := []) E.1 (tX12_in l _ (a0.toInt64) (0 : Int64) (10 : Int64) r21 hc) (gS k_1350 k_1351 k_14 k_1352) qX12_in ⟨Nat.le_of_ble_eq_true rfl, Nat.le_of_ble_eq_true rfl⟩ ⟨Nat.le_refl _, Nat.le_refl _⟩ rfl hl.1 rfl (Nat.le_of_ble_eq_true rfl) dX12_career_18 ?_
  refine lv_if_eq (tgt := 35) hx hb dX12_career_21 (by decide) (fun hc => ?_) (fun hc => ?_)
  · replace hf := it_pos hc hf
    exact B35 st19 _ _ ls hf (lv_sub hl [] rfl) hP hS
  · replace hf := it_neg hc hf
    refine lv_iload_n hx hb dX12_career_24 rfl (lv_at hl 3 rfl) ?_
    refine lv_i2l (v := a1.toInt64) hx hb dX12_career_25 rfl ?_
    refine lv_lconst (v := 0) hx hb dX12_career_26 (by decide) ?_
    refine lv_iload_n hx hb dX12_career_27 rfl (lv_at hl 0 rfl) ?_
    refine lv_i2l (v := x20.toInt64) hx hb dX12_career_28 rfl ?_
    obtain ⟨r22, hc, hf⟩ := bs_some hf
    refine s_calli (n := 3) (rest := []) E.1 (tX12_in l _ (a1.toInt64) (0 : Int64) (x20.toInt64) r22 hc) (gS k_1350 k_1351 k_14 k_1352) qX12_in ⟨Nat.le_of_ble_eq_true rfl, Nat.le_of_ble_eq_true rfl⟩ ⟨Nat.le_refl _, Nat.le_refl _⟩ rfl hl.1 rfl (Nat.le_of_ble_eq_true rfl) dX12_career_29 ?_
    refine lv_if_ne (tgt := 39) hx hb dX12_career_32 (by decide) (fun hc => ?_) (fun hc => ?_)
    · replace hf := it_neg hc hf
      refine lv_iconst (v := 0) hx hb dX12_career_39 (by decide) ?_
      refine lv_istore (lv' := [(4, .int (0 : Int32)), (3, .int x20), (0, .ref (ad 100)), (1, .int a0), (2, .int a1)]) hx hb dX12_career_40 hl (by decide) rfl (fun ls hl => ?_)
      exact L42 6000 a0 a1 x20 (0 : Int32) st19 _ _ ls hf (lv_sub hl [2, 3, 4, 1, 0] rfl) hP hS
    · replace hf := it_pos hc hf
      exact B35 st19 _ _ ls hf (lv_sub hl [] rfl) hP hS
theorem qX12_career : yX12_career.cls = RX12 ∧ yX12_career.cls ≠ "java/lang/invoke/MethodHandle" ∧ yX12_career.cls ≠ "java/lang/invoke/VarHandle" ∧ (parseMethodDescriptor yX12_career.desc).map (fun d => d.parameters.length) = some 2 := by decide +kernel
def fX12_fire (a0 : Int32) (st : St) : Option (Int32 × St) := lt (sI st 0 (0 : Int32)) (fun st1 => bs (fX12_in (a0.toInt64) (0 : Int64) (63 : Int64)) (fun r2 => if r2 = 0 then (bd (fX12_tell (-1 : Int32) st1) (fun r10 st11 => some (r10, st11))) else (lt (st1.2.2.1 3 (2 : Int32).toNatClampNeg) (fun x3 => if x3 = (10 : Int32) then (bd (fX12_tell (-5 : Int32) st1) (fun r8 st9 => some (r8, st9))) else (gi ((91 : Int32) + x3) 5550 (lt (sA st1 3 (upd (st1.2.2.1 3) ((91 : Int32) + x3).toNatClampNeg a0)) (fun st4 => lt (sA st4 3 (upd (st4.2.2.1 3) (2 : Int32).toNatClampNeg ((st4.2.2.1 3 (2 : Int32).toNatClampNeg) + (1 : Int32)))) (fun st5 => bd (fX12_tell x3 st5) (fun r6 st7 => some (r6, st7))))))))))
set_option maxHeartbeats 4000000 in
set_option maxRecDepth 100000 in
theorem tX12_fire (l : Launch) (D : va_G) (cy : Nat → ClassId) (ad : Nat → Nat) (hJ : (mads ad).Nodup) (sz : Nat) (a0 : Int32) (st : St) (rr : Int32) (st' : St) (hf : fX12_fire a0 st = some (rr, st')) : Met l yX12_fire (Cond.code yX12_fire cX12_fire 3 (some .int) :: TT) (rmD 1) (mPc D cy ad [.int a0] st sz) (mQi D cy ad rr st' sz) 0 0 (mA ad sz) := by
  refine m_meti (by decide) hJ (Nat.le_of_ble_eq_true rfl) (fun p e s m args below meth c ls E hx hb hr hlocks hown hT hD hl hP hS => ?_)
  replace hl : lv_has ls 3 [(0, .ref (ad 100)), (1, .int a0)] := hl
  unfold fX12_fire at hf
  refine lv_aload_n hx hb dX12_fire_0 rfl (lv_at hl 0 rfl) ?_
  refine lv_iconst (v := 0) hx hb dX12_fire_1 (by decide) ?_
  refine mp_0 E hD hP hS dX12_fire_2 (fun st1 H locs ex hP hS => ?_)
  replace hf := lt_at ex hf; clear ex
  refine lv_iload_n hx hb dX12_fire_5 rfl (lv_at hl 1 rfl) ?_
  refine lv_i2l (v := a0.toInt64) hx hb dX12_fire_6 rfl ?_
  refine lv_lconst (v := 0) hx hb dX12_fire_7 (by decide) ?_
  refine lv_ldc2 (v := 63) hx hb hown (hT _ k_1720) dX12_fire_8 ?_
  obtain ⟨r2, hc, hf⟩ := bs_some hf
  refine s_calli (n := 3) (rest := []) E.1 (tX12_in l _ (a0.toInt64) (0 : Int64) (63 : Int64) r2 hc) (gS k_1350 k_1351 k_14 k_1352) qX12_in ⟨Nat.le_of_ble_eq_true rfl, Nat.le_of_ble_eq_true rfl⟩ ⟨Nat.le_refl _, Nat.le_refl _⟩ rfl hl.1 rfl (Nat.le_of_ble_eq_true rfl) dX12_fire_11 ?_
  refine lv_if_ne (tgt := 23) hx hb dX12_fire_14 (by decide) (fun hc => ?_) (fun hc => ?_)
  · replace hf := it_neg hc hf
    refine lv_aload_n hx hb dX12_fire_23 rfl (lv_at hl 0 rfl) ?_
    refine mg_3 E hP dX12_fire_24 ?_
    refine lv_iconst (v := 2) hx hb dX12_fire_27 (by decide) ?_
    refine ml_3 E hP (vi rfl) dX12_fire_28 ?_
    refine lv_topi (fun x3 ex => ?_)
    replace hf := lt_at ex hf; clear ex
    refine lv_istore_n (lv' := [(2, .int x3), (0, .ref (ad 100)), (1, .int a0)]) hx hb dX12_fire_29 rfl hl (by decide) rfl (fun ls hl => ?_)
    refine lv_iload_n hx hb dX12_fire_30 rfl (lv_at hl 0 rfl) ?_
    refine lv_bipush (v := 10) hx hb dX12_fire_31 (by decide) ?_
    refine lv_icmp_ne (tgt := 43) hx hb dX12_fire_33 (by decide) (fun hc => ?_) (fun hc => ?_)
    · replace hf := it_neg hc hf
      refine lv_aload_n hx hb dX12_fire_43 rfl (lv_at hl 1 rfl) ?_
      refine mg_3 E hP dX12_fire_44 ?_
      refine lv_bipush (v := 91) hx hb dX12_fire_47 (by decide) ?_
      refine lv_iload_n hx hb dX12_fire_49 rfl (lv_at hl 0 rfl) ?_
      refine lv_iadd hx hb dX12_fire_50 ?_
      refine lv_iload_n hx hb dX12_fire_51 rfl (lv_at hl 2 rfl) ?_
      obtain ⟨hi, hf⟩ := gi_some hf
      refine ms_3 E hD hP hS hi dX12_fire_52 (fun st4 H locs ex hP hS => ?_)
      replace hf := lt_at ex hf; clear ex
      refine lv_aload_n hx hb dX12_fire_53 rfl (lv_at hl 1 rfl) ?_
      refine mg_3 E hP dX12_fire_54 ?_
      refine lv_iconst (v := 2) hx hb dX12_fire_57 (by decide) ?_
      refine lv_dup2_11 hx hb dX12_fire_58 rfl rfl ?_
      refine ml_3 E hP (vi rfl) dX12_fire_59 ?_
      refine lv_iconst (v := 1) hx hb dX12_fire_60 (by decide) ?_
      refine lv_iadd hx hb dX12_fire_61 ?_
      refine ms_3 E hD hP hS (vi rfl) dX12_fire_62 (fun st5 H locs ex hP hS => ?_)
      replace hf := lt_at ex hf; clear ex
      refine lv_aload_n hx hb dX12_fire_63 rfl (lv_at hl 1 rfl) ?_
      refine lv_iload_n hx hb dX12_fire_64 rfl (lv_at hl 0 rfl) ?_
      obtain ⟨r6, st7, hc, hf⟩ := bd_some hf
      refine m_calli (n := 1) (rest := []) E hP hS (fun sz => tX12_tell l D cy ad hJ sz x3 st5 r6 st7 hc) (gV k_1338 k_1340 ks_37 k_14 k_1341) qX12_tell ⟨Nat.le_of_ble_eq_true rfl, Nat.le_of_ble_eq_true rfl⟩ ⟨Nat.le_refl _, Nat.le_refl _⟩ rfl hl.1 rfl (Nat.le_of_ble_eq_true rfl) dX12_fire_65 (fun H locs hP hS => ?_)
      exact m_iret hx hb hr hlocks hf hP hS dX12_fire_68
    · replace hf := it_pos hc hf
      refine lv_aload_n hx hb dX12_fire_36 rfl (lv_at hl 1 rfl) ?_
      refine lv_bipush (v := -5) hx hb dX12_fire_37 (by decide) ?_
      obtain ⟨r8, st9, hc, hf⟩ := bd_some hf
      refine m_calli (n := 1) (rest := []) E hP hS (fun sz => tX12_tell l D cy ad hJ sz (-5 : Int32) st1 r8 st9 hc) (gV k_1338 k_1340 ks_37 k_14 k_1341) qX12_tell ⟨Nat.le_of_ble_eq_true rfl, Nat.le_of_ble_eq_true rfl⟩ ⟨Nat.le_refl _, Nat.le_refl _⟩ rfl hl.1 rfl (Nat.le_of_ble_eq_true rfl) dX12_fire_39 (fun H locs hP hS => ?_)
      exact m_iret hx hb hr hlocks hf hP hS dX12_fire_42
  · replace hf := it_pos hc hf
    refine lv_aload_n hx hb dX12_fire_17 rfl (lv_at hl 0 rfl) ?_
    refine lv_iconst (v := -1) hx hb dX12_fire_18 (by decide) ?_
    obtain ⟨r10, st11, hc, hf⟩ := bd_some hf
    refine m_calli (n := 1) (rest := []) E hP hS (fun sz => tX12_tell l D cy ad hJ sz (-1 : Int32) st1 r10 st11 hc) (gV k_1338 k_1340 ks_37 k_14 k_1341) qX12_tell ⟨Nat.le_of_ble_eq_true rfl, Nat.le_of_ble_eq_true rfl⟩ ⟨Nat.le_refl _, Nat.le_refl _⟩ rfl hl.1 rfl (Nat.le_of_ble_eq_true rfl) dX12_fire_19 (fun H locs hP hS => ?_)
    exact m_iret hx hb hr hlocks hf hP hS dX12_fire_22
theorem qX12_fire : yX12_fire.cls = RX12 ∧ yX12_fire.cls ≠ "java/lang/invoke/MethodHandle" ∧ yX12_fire.cls ≠ "java/lang/invoke/VarHandle" ∧ (parseMethodDescriptor yX12_fire.desc).map (fun d => d.parameters.length) = some 1 := by decide +kernel
def fX12_needs_b46 (w0 : Int32) (st : St) : Option (Int32 × St) := some (w0, st)
def fX12_needs_b41 (st : St) : Option (Int32 × St) := bd (fX12_tell (-1 : Int32) st) (fun r1 st2 => fX12_needs_b46 r1 st2)
def fX12_needs (a0 : Int32) (a1 : Int32) (st : St) : Option (Int32 × St) := lt (sI st 0 (0 : Int32)) (fun st3 => bs (fX12_in (a0.toInt64) (0 : Int64) (5 : Int64)) (fun r4 => if r4 = 0 then (fX12_needs_b41 st3) else (bs (fX12_in (a1.toInt64) (0 : Int64) (9 : Int64)) (fun r5 => if r5 = 0 then (fX12_needs_b41 st3) else (bd (fX12_change ((101 : Int32) + a0) a1 st3) (fun r6 st7 => fX12_needs_b46 r6 st7))))))
set_option maxHeartbeats 4000000 in
set_option maxRecDepth 100000 in
theorem tX12_needs (l : Launch) (D : va_G) (cy : Nat → ClassId) (ad : Nat → Nat) (hJ : (mads ad).Nodup) (sz : Nat) (a0 : Int32) (a1 : Int32) (st : St) (rr : Int32) (st' : St) (hf : fX12_needs a0 a1 st = some (rr, st')) : Met l yX12_needs (Cond.code yX12_needs cX12_needs 3 (some .int) :: TT) (rmD 1) (mPc D cy ad [.int a0, .int a1] st sz) (mQi D cy ad rr st' sz) 0 0 (mA ad sz) := by
  refine m_meti (by decide) hJ (Nat.le_of_ble_eq_true rfl) (fun p e s m args below meth c ls E hx hb hr hlocks hown hT hD hl hP hS => ?_)
  replace hl : lv_has ls 3 [(0, .ref (ad 100)), (1, .int a0), (2, .int a1)] := hl
  unfold fX12_needs at hf
  have B46 : ∀ (w0 : Int32) (st : St) (H : Heap) (locs : List Loc) (ls : Array Slot), fX12_needs_b46 w0 st = some (rr, st') → lv_has ls 3 [] → va_P D classes (mw cy ad st) H → va_S (mA ad s.heap.size) s.heap H locs → mGi l 1 D cy ad rr st' p e s m args below meth c H locs (F0 m 46 ls [.int w0]) := by
    intro w0 st H locs ls hf hl hP hS
    unfold fX12_needs_b46 at hf
    exact m_iret hx hb hr hlocks hf hP hS dX12_needs_46
  have B41 : ∀ (st : St) (H : Heap) (locs : List Loc) (ls : Array Slot), fX12_needs_b41 st = some (rr, st') → lv_has ls 3 [(0, .ref (ad 100))] → va_P D classes (mw cy ad st) H → va_S (mA ad s.heap.size) s.heap H locs → mGi l 1 D cy ad rr st' p e s m args below meth c H locs (F0 m 41 ls []) := by
    intro st H locs ls hf hl hP hS
    unfold fX12_needs_b41 at hf
    refine lv_aload_n hx hb dX12_needs_41 rfl (lv_at hl 0 rfl) ?_
    refine lv_iconst (v := -1) hx hb dX12_needs_42 (by decide) ?_
    obtain ⟨r1, st2, hc, hf⟩ := bd_some hf
    refine m_calli (n := 1) (rest := []) E hP hS (fun sz => tX12_tell l D cy ad hJ sz (-1 : Int32) st r1 st2 hc) (gV k_1338 k_1340 ks_37 k_14 k_1341) qX12_tell ⟨Nat.le_of_ble_eq_true rfl, Nat.le_of_ble_eq_true rfl⟩ ⟨Nat.le_refl _, Nat.le_refl _⟩ rfl hl.1 rfl (Nat.le_of_ble_eq_true rfl) dX12_needs_43 (fun H locs hP hS => ?_)
    exact B46 r1 st2 _ _ ls hf (lv_sub hl [] rfl) hP hS
  refine lv_aload_n hx hb dX12_needs_0 rfl (lv_at hl 0 rfl) ?_
  refine lv_iconst (v := 0) hx hb dX12_needs_1 (by decide) ?_
  refine mp_0 E hD hP hS dX12_needs_2 (fun st3 H locs ex hP hS => ?_)
  replace hf := lt_at ex hf; clear ex
  refine lv_iload_n hx hb dX12_needs_5 rfl (lv_at hl 1 rfl) ?_
  refine lv_i2l (v := a0.toInt64) hx hb dX12_needs_6 rfl ?_
  refine lv_lconst (v := 0) hx hb dX12_needs_7 (by decide) ?_
  refine lv_ldc2 (v := 5) hx hb hown (hT _ k_1396) dX12_needs_8 ?_
  obtain ⟨r4, hc, hf⟩ := bs_some hf
  refine s_calli (n := 3) (rest := []) E.1 (tX12_in l _ (a0.toInt64) (0 : Int64) (5 : Int64) r4 hc) (gS k_1350 k_1351 k_14 k_1352) qX12_in ⟨Nat.le_of_ble_eq_true rfl, Nat.le_of_ble_eq_true rfl⟩ ⟨Nat.le_refl _, Nat.le_refl _⟩ rfl hl.1 rfl (Nat.le_of_ble_eq_true rfl) dX12_needs_11 ?_
  refine lv_if_eq (tgt := 41) hx hb dX12_needs_14 (by decide) (fun hc => ?_) (fun hc => ?_)
  · replace hf := it_pos hc hf
    exact B41 st3 _ _ ls hf (lv_sub hl [0] rfl) hP hS
  · replace hf := it_neg hc hf
    refine lv_iload_n hx hb dX12_needs_17 rfl (lv_at hl 2 rfl) ?_
    refine lv_i2l (v := a1.toInt64) hx hb dX12_needs_18 rfl ?_
    refine lv_lconst (v := 0) hx hb dX12_needs_19 (by decide) ?_
    refine lv_ldc2 (v := 9) hx hb hown (hT _ k_1416) dX12_needs_20 ?_
    obtain ⟨r5, hc, hf⟩ := bs_some hf
    refine s_calli (n := 3) (rest := []) E.1 (tX12_in l _ (a1.toInt64) (0 : Int64) (9 : Int64) r5 hc) (gS k_1350 k_1351 k_14 k_1352) qX12_in ⟨Nat.le_of_ble_eq_true rfl, Nat.le_of_ble_eq_true rfl⟩ ⟨Nat.le_refl _, Nat.le_refl _⟩ rfl hl.1 rfl (Nat.le_of_ble_eq_true rfl) dX12_needs_23 ?_
    refine lv_if_eq (tgt := 41) hx hb dX12_needs_26 (by decide) (fun hc => ?_) (fun hc => ?_)
    · replace hf := it_pos hc hf
      exact B41 st3 _ _ ls hf (lv_sub hl [0] rfl) hP hS
    · replace hf := it_neg hc hf
      refine lv_aload_n hx hb dX12_needs_29 rfl (lv_at hl 0 rfl) ?_
      refine lv_bipush (v := 101) hx hb dX12_needs_30 (by decide) ?_
      refine lv_iload_n hx hb dX12_needs_32 rfl (lv_at hl 1 rfl) ?_
      refine lv_iadd hx hb dX12_needs_33 ?_
      refine lv_iload_n hx hb dX12_needs_34 rfl (lv_at hl 2 rfl) ?_
      obtain ⟨r6, st7, hc, hf⟩ := bd_some hf
      refine m_calli (n := 2) (rest := []) E hP hS (fun sz => tX12_change l D cy ad hJ sz ((101 : Int32) + a0) a1 st3 r6 st7 hc) (gV k_1399 k_1401 ks_43 k_14 k_1402) qX12_change ⟨Nat.le_of_ble_eq_true rfl, Nat.le_of_ble_eq_true rfl⟩ ⟨Nat.le_refl _, Nat.le_refl _⟩ rfl hl.1 rfl (Nat.le_of_ble_eq_true rfl) dX12_needs_35 (fun H locs hP hS => ?_)
      refine lv_goto (tgt := 46) hx hb dX12_needs_38 (by decide) ?_
      exact B46 r6 st7 _ _ ls hf (lv_sub hl [] rfl) hP hS
theorem qX12_needs : yX12_needs.cls = RX12 ∧ yX12_needs.cls ≠ "java/lang/invoke/MethodHandle" ∧ yX12_needs.cls ≠ "java/lang/invoke/VarHandle" ∧ (parseMethodDescriptor yX12_needs.desc).map (fun d => d.parameters.length) = some 2 := by decide +kernel
def fX12_seenFrom_b48 (k5 : Int32 → Int32 → Int32 → Int32 → St → Option (Int32 × St)) (v1 : Int32) (v2 : Int32) (v4 : Int32) (w0 : Int32) (w1 : Int32) (st : St) : Option (Int32 × St) := lt (w1 + w0) (fun x1 => lt (v4 + (1 : Int32)) (fun x2 => k5 v1 v2 x1 x2 st))
def fX12_seenFrom_b47 (k5 : Int32 → Int32 → Int32 → Int32 → St → Option (Int32 × St)) (v1 : Int32) (v2 : Int32) (v4 : Int32) (w0 : Int32) (st : St) : Option (Int32 × St) := fX12_seenFrom_b48 k5 v1 v2 v4 (0 : Int32) w0 st
def fX12_seenFrom_b5 (k5 : Int32 → Int32 → Int32 → Int32 → St → Option (Int32 × St)) (v1 : Int32) (v2 : Int32) (v3 : Int32) (v4 : Int32) (st : St) : Option (Int32 × St) := if (st.2.2.1 3 (2 : Int32).toNatClampNeg) ≤ v4 then (some (v3, st)) else (bs (fX12_is v2 v4) (fun r3 => if r3 = 0 then (fX12_seenFrom_b47 k5 v1 v2 v4 v3 st) else (gi ((91 : Int32) + v4) 5550 (bs (fX12_is (st.2.2.1 3 ((91 : Int32) + v4).toNatClampNeg) v1) (fun r4 => if r4 = 0 then (fX12_seenFrom_b47 k5 v1 v2 v4 v3 st) else (fX12_seenFrom_b48 k5 v1 v2 v4 (1 : Int32) v3 st))))))
def fX12_seenFrom (a0 : Int32) (a1 : Int32) (st : St) : Option (Int32 × St) := lp (fun _ _ _ _ _ => none) (fX12_seenFrom_b5) 6000 a0 a1 (0 : Int32) (0 : Int32) st
set_option maxHeartbeats 4000000 in
set_option maxRecDepth 100000 in
theorem tX12_seenFrom (l : Launch) (D : va_G) (cy : Nat → ClassId) (ad : Nat → Nat) (hJ : (mads ad).Nodup) (sz : Nat) (a0 : Int32) (a1 : Int32) (st : St) (rr : Int32) (st' : St) (hf : fX12_seenFrom a0 a1 st = some (rr, st')) : Met l yX12_seenFrom (Cond.code yX12_seenFrom cX12_seenFrom 5 (some .int) :: TT) (rmD 1) (mPc D cy ad [.int a0, .int a1] st sz) (mQi D cy ad rr st' sz) 0 0 (mA ad sz) := by
  refine m_meti (by decide) hJ (Nat.le_of_ble_eq_true rfl) (fun p e s m args below meth c ls E hx hb hr hlocks hown hT hD hl hP hS => ?_)
  replace hl : lv_has ls 5 [(0, .ref (ad 100)), (1, .int a0), (2, .int a1)] := hl
  unfold fX12_seenFrom at hf
  have L5 : ∀ (n : Nat) (v1 : Int32) (v2 : Int32) (v3 : Int32) (v4 : Int32) (st : St) (H : Heap) (locs : List Loc) (ls : Array Slot), lp (fun _ _ _ _ _ => none) (fX12_seenFrom_b5) n v1 v2 v3 v4 st = some (rr, st') → lv_has ls 5 [(0, .ref (ad 100)), (1, .int v1), (2, .int v2), (3, .int v3), (4, .int v4)] → va_P D classes (mw cy ad st) H → va_S (mA ad s.heap.size) s.heap H locs → mGi l 1 D cy ad rr st' p e s m args below meth c H locs (F0 m 5 ls []) := by
    intro n
    induction n with
    | zero => intro v1 v2 v3 v4 st H locs ls hf; exact absurd hf (fun h => by cases h)
    | succ n K5 =>
      intro v1 v2 v3 v4 st H locs ls hf hl hP hS
      replace hf : fX12_seenFrom_b5 (lp (fun _ _ _ _ _ => none) (fX12_seenFrom_b5) n) v1 v2 v3 v4 st = some (rr, st') := hf
      generalize lp (fun _ _ _ _ _ => none) (fX12_seenFrom_b5) n = k5 at hf K5
      have B48 : ∀ (v1 : Int32) (v2 : Int32) (v4 : Int32) (w0 : Int32) (w1 : Int32) (st : St) (H : Heap) (locs : List Loc) (ls : Array Slot), fX12_seenFrom_b48 k5 v1 v2 v4 w0 w1 st = some (rr, st') → lv_has ls 5 [(0, .ref (ad 100)), (1, .int v1), (2, .int v2), (4, .int v4)] → va_P D classes (mw cy ad st) H → va_S (mA ad s.heap.size) s.heap H locs → mGi l 1 D cy ad rr st' p e s m args below meth c H locs (F0 m 48 ls [.int w0, .int w1]) := by
        intro v1 v2 v4 w0 w1 st H locs ls hf hl hP hS
        unfold fX12_seenFrom_b48 at hf
        refine lv_iadd hx hb dX12_seenFrom_48 ?_
        refine lv_topi (fun x1 ex => ?_)
        replace hf := lt_at ex hf; clear ex
        refine lv_istore_n (lv' := [(3, .int x1), (0, .ref (ad 100)), (1, .int v1), (2, .int v2), (4, .int v4)]) hx hb dX12_seenFrom_49 rfl hl (by decide) rfl (fun ls hl => ?_)
        obtain ⟨x2, ex⟩ : ∃ y : Int32, y = v4 + (1 : Int32) := ⟨_, rfl⟩
        replace hf := lt_at ex hf
        refine lv_iinc (v := x2) (lv' := [(4, .int x2), (3, .int x1), (0, .ref (ad 100)), (1, .int v1), (2, .int v2)]) hx hb dX12_seenFrom_50 hl (k := 4) rfl (by rw [ex]; rfl) (by decide) rfl (fun ls hl => ?_)
        clear ex
        refine lv_goto (tgt := 5) hx hb dX12_seenFrom_53 (by decide) ?_
        exact K5 v1 v2 x1 x2 st _ _ ls hf (lv_sub hl [2, 3, 4, 1, 0] rfl) hP hS
      have B47 : ∀ (v1 : Int32) (v2 : Int32) (v4 : Int32) (w0 : Int32) (st : St) (H : Heap) (locs : List Loc) (ls : Array Slot), fX12_seenFrom_b47 k5 v1 v2 v4 w0 st = some (rr, st') → lv_has ls 5 [(0, .ref (ad 100)), (1, .int v1), (2, .int v2), (4, .int v4)] → va_P D classes (mw cy ad st) H → va_S (mA ad s.heap.size) s.heap H locs → mGi l 1 D cy ad rr st' p e s m args below meth c H locs (F0 m 47 ls [.int w0]) := by
        intro v1 v2 v4 w0 st H locs ls hf hl hP hS
        unfold fX12_seenFrom_b47 at hf
        refine lv_iconst (v := 0) hx hb dX12_seenFrom_47 (by decide) ?_
        exact B48 v1 v2 v4 (0 : Int32) w0 st _ _ ls hf hl hP hS
      unfold fX12_seenFrom_b5 at hf
      refine lv_iload hx hb dX12_seenFrom_5 (lv_at hl 4 rfl) ?_
      refine lv_aload_n hx hb dX12_seenFrom_7 rfl (lv_at hl 0 rfl) ?_
      refine mg_3 E hP dX12_seenFrom_8 ?_
      refine lv_iconst (v := 2) hx hb dX12_seenFrom_11 (by decide) ?_
      refine ml_3 E hP (vi rfl) dX12_seenFrom_12 ?_
      refine lv_icmp_ge (tgt := 56) hx hb dX12_seenFrom_13 (by decide) (fun hc => ?_) (fun hc => ?_)
      · replace hf := it_pos hc hf
        refine lv_iload_n hx hb dX12_seenFrom_56 rfl (lv_at hl 3 rfl) ?_
        exact m_iret hx hb hr hlocks hf hP hS dX12_seenFrom_57
      · replace hf := it_neg hc hf
        refine lv_iload_n hx hb dX12_seenFrom_16 rfl (lv_at hl 3 rfl) ?_
        refine lv_iload_n hx hb dX12_seenFrom_17 rfl (lv_at hl 2 rfl) ?_
        refine lv_iload hx hb dX12_seenFrom_18 (lv_at hl 4 rfl) ?_
        obtain ⟨r3, hc, hf⟩ := bs_some hf
        refine s_calli (n := 2) (rest := [.int v3]) E.1 (tX12_is l _ v2 v4 r3 hc) (gS k_1380 k_1381 k_14 k_1382) qX12_is ⟨Nat.le_of_ble_eq_true rfl, Nat.le_of_ble_eq_true rfl⟩ ⟨Nat.le_refl _, Nat.le_refl _⟩ rfl hl.1 rfl (Nat.le_of_ble_eq_true rfl) dX12_seenFrom_20 ?_
        refine lv_if_eq (tgt := 47) hx hb dX12_seenFrom_23 (by decide) (fun hc => ?_) (fun hc => ?_)
        · replace hf := it_pos hc hf
          exact B47 v1 v2 v4 v3 st _ _ ls hf (lv_sub hl [0, 1, 2, 4] rfl) hP hS
        · replace hf := it_neg hc hf
          refine lv_aload_n hx hb dX12_seenFrom_26 rfl (lv_at hl 0 rfl) ?_
          refine mg_3 E hP dX12_seenFrom_27 ?_
          refine lv_bipush (v := 91) hx hb dX12_seenFrom_30 (by decide) ?_
          refine lv_iload hx hb dX12_seenFrom_32 (lv_at hl 4 rfl) ?_
          refine lv_iadd hx hb dX12_seenFrom_34 ?_
          obtain ⟨hi, hf⟩ := gi_some hf
          refine ml_3 E hP hi dX12_seenFrom_35 ?_
          refine lv_iload_n hx hb dX12_seenFrom_36 rfl (lv_at hl 1 rfl) ?_
          obtain ⟨r4, hc, hf⟩ := bs_some hf
          refine s_calli (n := 2) (rest := [.int v3]) E.1 (tX12_is l _ (st.2.2.1 3 ((91 : Int32) + v4).toNatClampNeg) v1 r4 hc) (gS k_1380 k_1381 k_14 k_1382) qX12_is ⟨Nat.le_of_ble_eq_true rfl, Nat.le_of_ble_eq_true rfl⟩ ⟨Nat.le_refl _, Nat.le_refl _⟩ rfl hl.1 rfl (Nat.le_of_ble_eq_true rfl) dX12_seenFrom_37 ?_
          refine lv_if_eq (tgt := 47) hx hb dX12_seenFrom_40 (by decide) (fun hc => ?_) (fun hc => ?_)
          · replace hf := it_pos hc hf
            exact B47 v1 v2 v4 v3 st _ _ ls hf (lv_sub hl [0, 1, 2, 4] rfl) hP hS
          · replace hf := it_neg hc hf
            refine lv_iconst (v := 1) hx hb dX12_seenFrom_43 (by decide) ?_
            refine lv_goto (tgt := 48) hx hb dX12_seenFrom_44 (by decide) ?_
            exact B48 v1 v2 v4 (1 : Int32) v3 st _ _ ls hf (lv_sub hl [0, 1, 2, 4] rfl) hP hS
  refine lv_iconst (v := 0) hx hb dX12_seenFrom_0 (by decide) ?_
  refine lv_istore_n (lv' := [(3, .int (0 : Int32)), (0, .ref (ad 100)), (1, .int a0), (2, .int a1)]) hx hb dX12_seenFrom_1 rfl hl (by decide) rfl (fun ls hl => ?_)
  refine lv_iconst (v := 0) hx hb dX12_seenFrom_2 (by decide) ?_
  refine lv_istore (lv' := [(4, .int (0 : Int32)), (3, .int (0 : Int32)), (0, .ref (ad 100)), (1, .int a0), (2, .int a1)]) hx hb dX12_seenFrom_3 hl (by decide) rfl (fun ls hl => ?_)
  exact L5 6000 a0 a1 (0 : Int32) (0 : Int32) st _ _ ls hf (lv_sub hl [2, 3, 4, 1, 0] rfl) hP hS
theorem qX12_seenFrom : yX12_seenFrom.cls = RX12 ∧ yX12_seenFrom.cls ≠ "java/lang/invoke/MethodHandle" ∧ yX12_seenFrom.cls ≠ "java/lang/invoke/VarHandle" ∧ (parseMethodDescriptor yX12_seenFrom.desc).map (fun d => d.parameters.length) = some 2 := by decide +kernel
def fX12_enough_b152 (w0 : Int32) (st : St) : Option (Int32 × St) := some (w0, st)
def fX12_enough_b147 (v3 : Int32) (st : St) : Option (Int32 × St) := fX12_enough_b152 v3 st
def fX12_enough_b130 (k26 : Int32 → Int32 → Int32 → Int32 → St → Option (Int32 × St)) (v1 : Int32) (v3 : Int32) (v4 : Int32) (w0 : Int32) (st : St) : Option (Int32 × St) := lt (v4 + (1 : Int32)) (fun x1 => k26 v1 w0 v3 x1 st)
def fX12_enough_b115 (k26 : Int32 → Int32 → Int32 → Int32 → St → Option (Int32 × St)) (v1 : Int32) (v2 : Int32) (v4 : Int32) (v5 : Int32) (w0 : Int32) (st : St) : Option (Int32 × St) := if v5 = 0 then (fX12_enough_b130 k26 v1 w0 v4 v2 st) else (bs (fX12_ones v4) (fun r2 => fX12_enough_b130 k26 v1 w0 v4 r2 st))
def fX12_enough_b104 (k26 : Int32 → Int32 → Int32 → Int32 → St → Option (Int32 × St)) (v1 : Int32) (v2 : Int32) (v3 : Int32) (v4 : Int32) (v5 : Int32) (st : St) : Option (Int32 × St) := if v5 = 0 then (fX12_enough_b115 k26 v1 v2 v4 v5 v3 st) else (fX12_enough_b115 k26 v1 v2 v4 v5 v4 st)
def fX12_enough_b96 (k26 : Int32 → Int32 → Int32 → Int32 → St → Option (Int32 × St)) (k58 : Int32 → Int32 → Int32 → Int32 → Int32 → Int32 → St → Option (Int32 × St)) (v1 : Int32) (v2 : Int32) (v3 : Int32) (v4 : Int32) (v6 : Int32) (w0 : Int32) (st : St) : Option (Int32 × St) := lt (v6 + (1 : Int32)) (fun x3 => k58 v1 v2 v3 v4 w0 x3 st)
def fX12_enough_b58 (k26 : Int32 → Int32 → Int32 → Int32 → St → Option (Int32 × St)) (k58 : Int32 → Int32 → Int32 → Int32 → Int32 → Int32 → St → Option (Int32 × St)) (v1 : Int32) (v2 : Int32) (v3 : Int32) (v4 : Int32) (v5 : Int32) (v6 : Int32) (st : St) : Option (Int32 × St) := if (6 : Int32) ≤ v6 then (fX12_enough_b104 k26 v1 v2 v3 v4 v5 st) else (if v5 = 0 then (fX12_enough_b104 k26 v1 v2 v3 v4 v5 st) else (bd (fX12_seenFrom v6 v4 st) (fun r4 st5 => gi ((101 : Int32) + v6) 5550 (if r4 < (st5.2.2.1 3 ((101 : Int32) + v6).toNatClampNeg) then (fX12_enough_b96 k26 k58 v1 v2 v3 v4 v6 (0 : Int32) st5) else (fX12_enough_b96 k26 k58 v1 v2 v3 v4 v6 (1 : Int32) st5)))))
def fX12_enough_b53 (k26 : Int32 → Int32 → Int32 → Int32 → St → Option (Int32 × St)) (v1 : Int32) (v2 : Int32) (v3 : Int32) (v4 : Int32) (w0 : Int32) (st : St) : Option (Int32 × St) := lp (fun _ _ _ _ _ _ _ => none) (fX12_enough_b58 k26) 6000 v1 v2 v3 v4 w0 (0 : Int32) st
def fX12_enough_b26 (k26 : Int32 → Int32 → Int32 → Int32 → St → Option (Int32 × St)) (v1 : Int32) (v2 : Int32) (v3 : Int32) (v4 : Int32) (st : St) : Option (Int32 × St) := if ((1 : Int32) <<< ((st.2.2.1 3 (2 : Int32).toNatClampNeg) &&& 31)) ≤ v4 then (if v3 = (-1 : Int32) then (fX12_enough_b147 v3 st) else (if v1 = (1 : Int32) then (fX12_enough_b147 v3 st) else (fX12_enough_b152 v2 st))) else (bs (fX12_ones v4) (fun r6 => if v2 ≤ r6 then (fX12_enough_b53 k26 v1 v2 v3 v4 (0 : Int32) st) else (fX12_enough_b53 k26 v1 v2 v3 v4 (1 : Int32) st)))
def fX12_enough (a0 : Int32) (st : St) : Option (Int32 × St) := lt (sI st 0 (0 : Int32)) (fun st7 => bs (fX12_in (a0.toInt64) (0 : Int64) (1 : Int64)) (fun r8 => if r8 = 0 then (some ((-1 : Int32), st7)) else (lp (fun _ _ _ _ _ => none) (fX12_enough_b26) 6000 a0 (100000000 : Int32) (-1 : Int32) (0 : Int32) st7)))
set_option maxHeartbeats 4000000 in
set_option maxRecDepth 100000 in
theorem tX12_enough (l : Launch) (D : va_G) (cy : Nat → ClassId) (ad : Nat → Nat) (hJ : (mads ad).Nodup) (sz : Nat) (a0 : Int32) (st : St) (rr : Int32) (st' : St) (hf : fX12_enough a0 st = some (rr, st')) : Met l yX12_enough (Cond.code yX12_enough cX12_enough 7 (some .int) :: TT) (rmD 2) (mPc D cy ad [.int a0] st sz) (mQi D cy ad rr st' sz) 0 0 (mA ad sz) := by
  refine m_meti (by decide) hJ (Nat.le_of_ble_eq_true rfl) (fun p e s m args below meth c ls E hx hb hr hlocks hown hT hD hl hP hS => ?_)
  replace hl : lv_has ls 7 [(0, .ref (ad 100)), (1, .int a0)] := hl
  unfold fX12_enough at hf
  have B152 : ∀ (w0 : Int32) (st : St) (H : Heap) (locs : List Loc) (ls : Array Slot), fX12_enough_b152 w0 st = some (rr, st') → lv_has ls 7 [] → va_P D classes (mw cy ad st) H → va_S (mA ad s.heap.size) s.heap H locs → mGi l 2 D cy ad rr st' p e s m args below meth c H locs (F0 m 152 ls [.int w0]) := by
    intro w0 st H locs ls hf hl hP hS
    unfold fX12_enough_b152 at hf
    exact m_iret hx hb hr hlocks hf hP hS dX12_enough_152
  have B147 : ∀ (v3 : Int32) (st : St) (H : Heap) (locs : List Loc) (ls : Array Slot), fX12_enough_b147 v3 st = some (rr, st') → lv_has ls 7 [(3, .int v3)] → va_P D classes (mw cy ad st) H → va_S (mA ad s.heap.size) s.heap H locs → mGi l 2 D cy ad rr st' p e s m args below meth c H locs (F0 m 147 ls []) := by
    intro v3 st H locs ls hf hl hP hS
    unfold fX12_enough_b147 at hf
    refine lv_iload_n hx hb dX12_enough_147 rfl (lv_at hl 0 rfl) ?_
    refine lv_goto (tgt := 152) hx hb dX12_enough_148 (by decide) ?_
    exact B152 v3 st _ _ ls hf (lv_sub hl [] rfl) hP hS
  have L26 : ∀ (n : Nat) (v1 : Int32) (v2 : Int32) (v3 : Int32) (v4 : Int32) (st : St) (H : Heap) (locs : List Loc) (ls : Array Slot), lp (fun _ _ _ _ _ => none) (fX12_enough_b26) n v1 v2 v3 v4 st = some (rr, st') → lv_has ls 7 [(0, .ref (ad 100)), (1, .int v1), (2, .int v2), (3, .int v3), (4, .int v4)] → va_P D classes (mw cy ad st) H → va_S (mA ad s.heap.size) s.heap H locs → mGi l 2 D cy ad rr st' p e s m args below meth c H locs (F0 m 26 ls []) := by
    intro n
    induction n with
    | zero => intro v1 v2 v3 v4 st H locs ls hf; exact absurd hf (fun h => by cases h)
    | succ n K26 =>
      intro v1 v2 v3 v4 st H locs ls hf hl hP hS
      replace hf : fX12_enough_b26 (lp (fun _ _ _ _ _ => none) (fX12_enough_b26) n) v1 v2 v3 v4 st = some (rr, st') := hf
      generalize lp (fun _ _ _ _ _ => none) (fX12_enough_b26) n = k26 at hf K26
      have B130 : ∀ (v1 : Int32) (v3 : Int32) (v4 : Int32) (w0 : Int32) (st : St) (H : Heap) (locs : List Loc) (ls : Array Slot), fX12_enough_b130 k26 v1 v3 v4 w0 st = some (rr, st') → lv_has ls 7 [(0, .ref (ad 100)), (1, .int v1), (3, .int v3), (4, .int v4)] → va_P D classes (mw cy ad st) H → va_S (mA ad s.heap.size) s.heap H locs → mGi l 2 D cy ad rr st' p e s m args below meth c H locs (F0 m 130 ls [.int w0]) := by
        intro v1 v3 v4 w0 st H locs ls hf hl hP hS
        unfold fX12_enough_b130 at hf
        refine lv_istore_n (lv' := [(2, .int w0), (0, .ref (ad 100)), (1, .int v1), (3, .int v3), (4, .int v4)]) hx hb dX12_enough_130 rfl hl (by decide) rfl (fun ls hl => ?_)
        obtain ⟨x1, ex⟩ : ∃ y : Int32, y = v4 + (1 : Int32) := ⟨_, rfl⟩
        replace hf := lt_at ex hf
        refine lv_iinc (v := x1) (lv' := [(4, .int x1), (2, .int w0), (0, .ref (ad 100)), (1, .int v1), (3, .int v3)]) hx hb dX12_enough_131 hl (k := 4) rfl (by rw [ex]; rfl) (by decide) rfl (fun ls hl => ?_)
        clear ex
        refine lv_goto (tgt := 26) hx hb dX12_enough_134 (by decide) ?_
        exact K26 v1 w0 v3 x1 st _ _ ls hf (lv_sub hl [2, 3, 1, 4, 0] rfl) hP hS
      have B115 : ∀ (v1 : Int32) (v2 : Int32) (v4 : Int32) (v5 : Int32) (w0 : Int32) (st : St) (H : Heap) (locs : List Loc) (ls : Array Slot), fX12_enough_b115 k26 v1 v2 v4 v5 w0 st = some (rr, st') → lv_has ls 7 [(0, .ref (ad 100)), (1, .int v1), (2, .int v2), (4, .int v4), (5, .int v5)] → va_P D classes (mw cy ad st) H → va_S (mA ad s.heap.size) s.heap H locs → mGi l 2 D cy ad rr st' p e s m args below meth c H locs (F0 m 115 ls [.int w0]) := by
        intro v1 v2 v4 v5 w0 st H locs ls hf hl hP hS
        unfold fX12_enough_b115 at hf
        refine lv_istore_n (lv' := [(3, .int w0), (0, .ref (ad 100)), (1, .int v1), (2, .int v2), (4, .int v4), (5, .int v5)]) hx hb dX12_enough_115 rfl hl (by decide) rfl (fun ls hl => ?_)
        refine lv_iload hx hb dX12_enough_116 (lv_at hl 5 rfl) ?_
        refine lv_if_eq (tgt := 129) hx hb dX12_enough_118 (by decide) (fun hc => ?_) (fun hc => ?_)
        · replace hf := it_pos hc hf
          refine lv_iload_n hx hb dX12_enough_129 rfl (lv_at hl 3 rfl) ?_
          exact B130 v1 w0 v4 v2 st _ _ ls hf (lv_sub hl [1, 2, 0, 4] rfl) hP hS
        · replace hf := it_neg hc hf
          refine lv_iload hx hb dX12_enough_121 (lv_at hl 4 rfl) ?_
          obtain ⟨r2, hc, hf⟩ := bs_some hf
          refine s_calli (n := 1) (rest := []) E.1 (tX12_ones l _ v4 r2 hc) (gS k_1729 k_1730 k_14 k_1731) qX12_ones ⟨Nat.le_of_ble_eq_true rfl, Nat.le_of_ble_eq_true rfl⟩ ⟨Nat.le_refl _, Nat.le_refl _⟩ rfl hl.1 rfl (Nat.le_of_ble_eq_true rfl) dX12_enough_123 ?_
          refine lv_goto (tgt := 130) hx hb dX12_enough_126 (by decide) ?_
          exact B130 v1 w0 v4 r2 st _ _ ls hf (lv_sub hl [1, 2, 0, 4] rfl) hP hS
      have B104 : ∀ (v1 : Int32) (v2 : Int32) (v3 : Int32) (v4 : Int32) (v5 : Int32) (st : St) (H : Heap) (locs : List Loc) (ls : Array Slot), fX12_enough_b104 k26 v1 v2 v3 v4 v5 st = some (rr, st') → lv_has ls 7 [(0, .ref (ad 100)), (1, .int v1), (2, .int v2), (3, .int v3), (4, .int v4), (5, .int v5)] → va_P D classes (mw cy ad st) H → va_S (mA ad s.heap.size) s.heap H locs → mGi l 2 D cy ad rr st' p e s m args below meth c H locs (F0 m 104 ls []) := by
        intro v1 v2 v3 v4 v5 st H locs ls hf hl hP hS
        unfold fX12_enough_b104 at hf
        refine lv_iload hx hb dX12_enough_104 (lv_at hl 5 rfl) ?_
        refine lv_if_eq (tgt := 114) hx hb dX12_enough_106 (by decide) (fun hc => ?_) (fun hc => ?_)
        · replace hf := it_pos hc hf
          refine lv_iload_n hx hb dX12_enough_114 rfl (lv_at hl 3 rfl) ?_
          exact B115 v1 v2 v4 v5 v3 st _ _ ls hf (lv_sub hl [0, 1, 2, 4, 5] rfl) hP hS
        · replace hf := it_neg hc hf
          refine lv_iload hx hb dX12_enough_109 (lv_at hl 4 rfl) ?_
          refine lv_goto (tgt := 115) hx hb dX12_enough_111 (by decide) ?_
          exact B115 v1 v2 v4 v5 v4 st _ _ ls hf (lv_sub hl [0, 1, 2, 4, 5] rfl) hP hS
      have L58 : ∀ (n : Nat) (v1 : Int32) (v2 : Int32) (v3 : Int32) (v4 : Int32) (v5 : Int32) (v6 : Int32) (st : St) (H : Heap) (locs : List Loc) (ls : Array Slot), lp (fun _ _ _ _ _ _ _ => none) (fX12_enough_b58 k26) n v1 v2 v3 v4 v5 v6 st = some (rr, st') → lv_has ls 7 [(0, .ref (ad 100)), (1, .int v1), (2, .int v2), (3, .int v3), (4, .int v4), (5, .int v5), (6, .int v6)] → va_P D classes (mw cy ad st) H → va_S (mA ad s.heap.size) s.heap H locs → mGi l 2 D cy ad rr st' p e s m args below meth c H locs (F0 m 58 ls []) := by
        intro n
        induction n with
        | zero => intro v1 v2 v3 v4 v5 v6 st H locs ls hf; exact absurd hf (fun h => by cases h)
        | succ n K58 =>
          intro v1 v2 v3 v4 v5 v6 st H locs ls hf hl hP hS
          replace hf : fX12_enough_b58 k26 (lp (fun _ _ _ _ _ _ _ => none) (fX12_enough_b58 k26) n) v1 v2 v3 v4 v5 v6 st = some (rr, st') := hf
          generalize lp (fun _ _ _ _ _ _ _ => none) (fX12_enough_b58 k26) n = k58 at hf K58
          have B96 : ∀ (v1 : Int32) (v2 : Int32) (v3 : Int32) (v4 : Int32) (v6 : Int32) (w0 : Int32) (st : St) (H : Heap) (locs : List Loc) (ls : Array Slot), fX12_enough_b96 k26 k58 v1 v2 v3 v4 v6 w0 st = some (rr, st') → lv_has ls 7 [(0, .ref (ad 100)), (1, .int v1), (2, .int v2), (3, .int v3), (4, .int v4), (6, .int v6)] → va_P D classes (mw cy ad st) H → va_S (mA ad s.heap.size) s.heap H locs → mGi l 2 D cy ad rr st' p e s m args below meth c H locs (F0 m 96 ls [.int w0]) := by
            intro v1 v2 v3 v4 v6 w0 st H locs ls hf hl hP hS
            unfold fX12_enough_b96 at hf
            refine lv_istore (lv' := [(5, .int w0), (0, .ref (ad 100)), (1, .int v1), (2, .int v2), (3, .int v3), (4, .int v4), (6, .int v6)]) hx hb dX12_enough_96 hl (by decide) rfl (fun ls hl => ?_)
            obtain ⟨x3, ex⟩ : ∃ y : Int32, y = v6 + (1 : Int32) := ⟨_, rfl⟩
            replace hf := lt_at ex hf
            refine lv_iinc (v := x3) (lv' := [(6, .int x3), (5, .int w0), (0, .ref (ad 100)), (1, .int v1), (2, .int v2), (3, .int v3), (4, .int v4)]) hx hb dX12_enough_98 hl (k := 6) rfl (by rw [ex]; rfl) (by decide) rfl (fun ls hl => ?_)
            clear ex
            refine lv_goto (tgt := 58) hx hb dX12_enough_101 (by decide) ?_
            exact K58 v1 v2 v3 v4 w0 x3 st _ _ ls hf (lv_sub hl [2, 3, 4, 5, 6, 1, 0] rfl) hP hS
          unfold fX12_enough_b58 at hf
          refine lv_iload hx hb dX12_enough_58 (lv_at hl 6 rfl) ?_
          refine lv_bipush (v := 6) hx hb dX12_enough_60 (by decide) ?_
          refine lv_icmp_ge (tgt := 104) hx hb dX12_enough_62 (by decide) (fun hc => ?_) (fun hc => ?_)
          · replace hf := it_pos hc hf
            exact B104 v1 v2 v3 v4 v5 st _ _ ls hf (lv_sub hl [0, 1, 2, 3, 4, 5] rfl) hP hS
          · replace hf := it_neg hc hf
            refine lv_iload hx hb dX12_enough_65 (lv_at hl 5 rfl) ?_
            refine lv_if_eq (tgt := 104) hx hb dX12_enough_67 (by decide) (fun hc => ?_) (fun hc => ?_)
            · replace hf := it_pos hc hf
              exact B104 v1 v2 v3 v4 v5 st _ _ ls hf (lv_sub hl [0, 1, 2, 3, 4, 5] rfl) hP hS
            · replace hf := it_neg hc hf
              refine lv_aload_n hx hb dX12_enough_70 rfl (lv_at hl 0 rfl) ?_
              refine lv_iload hx hb dX12_enough_71 (lv_at hl 6 rfl) ?_
              refine lv_iload hx hb dX12_enough_73 (lv_at hl 4 rfl) ?_
              obtain ⟨r4, st5, hc, hf⟩ := bd_some hf
              refine m_calli (n := 2) (rest := []) E hP hS (fun sz => tX12_seenFrom l D cy ad hJ sz v6 v4 st r4 st5 hc) (gV k_1732 k_1734 ks_90 k_14 k_1735) qX12_seenFrom ⟨Nat.le_of_ble_eq_true rfl, Nat.le_of_ble_eq_true rfl⟩ ⟨Nat.le_refl _, Nat.le_refl _⟩ rfl hl.1 rfl (Nat.le_of_ble_eq_true rfl) dX12_enough_75 (fun H locs hP hS => ?_)
              refine lv_aload_n hx hb dX12_enough_78 rfl (lv_at hl 0 rfl) ?_
              refine mg_3 E hP dX12_enough_79 ?_
              refine lv_bipush (v := 101) hx hb dX12_enough_82 (by decide) ?_
              refine lv_iload hx hb dX12_enough_84 (lv_at hl 6 rfl) ?_
              refine lv_iadd hx hb dX12_enough_86 ?_
              obtain ⟨hi, hf⟩ := gi_some hf
              refine ml_3 E hP hi dX12_enough_87 ?_
              refine lv_icmp_lt (tgt := 95) hx hb dX12_enough_88 (by decide) (fun hc => ?_) (fun hc => ?_)
              · replace hf := it_pos hc hf
                refine lv_iconst (v := 0) hx hb dX12_enough_95 (by decide) ?_
                exact B96 v1 v2 v3 v4 v6 (0 : Int32) st5 _ _ ls hf (lv_sub hl [0, 1, 2, 3, 4, 6] rfl) hP hS
              · replace hf := it_neg hc hf
                refine lv_iconst (v := 1) hx hb dX12_enough_91 (by decide) ?_
                refine lv_goto (tgt := 96) hx hb dX12_enough_92 (by decide) ?_
                exact B96 v1 v2 v3 v4 v6 (1 : Int32) st5 _ _ ls hf (lv_sub hl [0, 1, 2, 3, 4, 6] rfl) hP hS
      have B53 : ∀ (v1 : Int32) (v2 : Int32) (v3 : Int32) (v4 : Int32) (w0 : Int32) (st : St) (H : Heap) (locs : List Loc) (ls : Array Slot), fX12_enough_b53 k26 v1 v2 v3 v4 w0 st = some (rr, st') → lv_has ls 7 [(0, .ref (ad 100)), (1, .int v1), (2, .int v2), (3, .int v3), (4, .int v4)] → va_P D classes (mw cy ad st) H → va_S (mA ad s.heap.size) s.heap H locs → mGi l 2 D cy ad rr st' p e s m args below meth c H locs (F0 m 53 ls [.int w0]) := by
        intro v1 v2 v3 v4 w0 st H locs ls hf hl hP hS
        unfold fX12_enough_b53 at hf
        refine lv_istore (lv' := [(5, .int w0), (0, .ref (ad 100)), (1, .int v1), (2, .int v2), (3, .int v3), (4, .int v4)]) hx hb dX12_enough_53 hl (by decide) rfl (fun ls hl => ?_)
        refine lv_iconst (v := 0) hx hb dX12_enough_55 (by decide) ?_
        refine lv_istore (lv' := [(6, .int (0 : Int32)), (5, .int w0), (0, .ref (ad 100)), (1, .int v1), (2, .int v2), (3, .int v3), (4, .int v4)]) hx hb dX12_enough_56 hl (by decide) rfl (fun ls hl => ?_)
        exact L58 6000 v1 v2 v3 v4 w0 (0 : Int32) st _ _ ls hf (lv_sub hl [2, 3, 4, 5, 6, 1, 0] rfl) hP hS
      unfold fX12_enough_b26 at hf
      refine lv_iload hx hb dX12_enough_26 (lv_at hl 4 rfl) ?_
      refine lv_iconst (v := 1) hx hb dX12_enough_28 (by decide) ?_
      refine lv_aload_n hx hb dX12_enough_29 rfl (lv_at hl 0 rfl) ?_
      refine mg_3 E hP dX12_enough_30 ?_
      refine lv_iconst (v := 2) hx hb dX12_enough_33 (by decide) ?_
      refine ml_3 E hP (vi rfl) dX12_enough_34 ?_
      refine lv_ishl hx hb dX12_enough_35 ?_
      refine lv_icmp_ge (tgt := 137) hx hb dX12_enough_36 (by decide) (fun hc => ?_) (fun hc => ?_)
      · replace hf := it_pos hc hf
        refine lv_iload_n hx hb dX12_enough_137 rfl (lv_at hl 3 rfl) ?_
        refine lv_iconst (v := -1) hx hb dX12_enough_138 (by decide) ?_
        refine lv_icmp_eq (tgt := 147) hx hb dX12_enough_139 (by decide) (fun hc => ?_) (fun hc => ?_)
        · replace hf := it_pos hc hf
          exact B147 v3 st _ _ ls hf (lv_sub hl [3] rfl) hP hS
        · replace hf := it_neg hc hf
          refine lv_iload_n hx hb dX12_enough_142 rfl (lv_at hl 1 rfl) ?_
          refine lv_iconst (v := 1) hx hb dX12_enough_143 (by decide) ?_
          refine lv_icmp_ne (tgt := 151) hx hb dX12_enough_144 (by decide) (fun hc => ?_) (fun hc => ?_)
          · replace hf := it_neg hc hf
            refine lv_iload_n hx hb dX12_enough_151 rfl (lv_at hl 2 rfl) ?_
            exact B152 v2 st _ _ ls hf (lv_sub hl [] rfl) hP hS
          · replace hf := it_pos hc hf
            exact B147 v3 st _ _ ls hf (lv_sub hl [3] rfl) hP hS
      · replace hf := it_neg hc hf
        refine lv_iload hx hb dX12_enough_39 (lv_at hl 4 rfl) ?_
        obtain ⟨r6, hc, hf⟩ := bs_some hf
        refine s_calli (n := 1) (rest := []) E.1 (tX12_ones l _ v4 r6 hc) (gS k_1729 k_1730 k_14 k_1731) qX12_ones ⟨Nat.le_of_ble_eq_true rfl, Nat.le_of_ble_eq_true rfl⟩ ⟨Nat.le_refl _, Nat.le_refl _⟩ rfl hl.1 rfl (Nat.le_of_ble_eq_true rfl) dX12_enough_41 ?_
        refine lv_iload_n hx hb dX12_enough_44 rfl (lv_at hl 2 rfl) ?_
        refine lv_icmp_ge (tgt := 52) hx hb dX12_enough_45 (by decide) (fun hc => ?_) (fun hc => ?_)
        · replace hf := it_pos hc hf
          refine lv_iconst (v := 0) hx hb dX12_enough_52 (by decide) ?_
          exact B53 v1 v2 v3 v4 (0 : Int32) st _ _ ls hf hl hP hS
        · replace hf := it_neg hc hf
          refine lv_iconst (v := 1) hx hb dX12_enough_48 (by decide) ?_
          refine lv_goto (tgt := 53) hx hb dX12_enough_49 (by decide) ?_
          exact B53 v1 v2 v3 v4 (1 : Int32) st _ _ ls hf hl hP hS
  refine lv_aload_n hx hb dX12_enough_0 rfl (lv_at hl 0 rfl) ?_
  refine lv_iconst (v := 0) hx hb dX12_enough_1 (by decide) ?_
  refine mp_0 E hD hP hS dX12_enough_2 (fun st7 H locs ex hP hS => ?_)
  replace hf := lt_at ex hf; clear ex
  refine lv_iload_n hx hb dX12_enough_5 rfl (lv_at hl 1 rfl) ?_
  refine lv_i2l (v := a0.toInt64) hx hb dX12_enough_6 rfl ?_
  refine lv_lconst (v := 0) hx hb dX12_enough_7 (by decide) ?_
  refine lv_lconst (v := 1) hx hb dX12_enough_8 (by decide) ?_
  obtain ⟨r8, hc, hf⟩ := bs_some hf
  refine s_calli (n := 3) (rest := []) E.1 (tX12_in l _ (a0.toInt64) (0 : Int64) (1 : Int64) r8 hc) (gS k_1350 k_1351 k_14 k_1352) qX12_in ⟨Nat.le_of_ble_eq_true rfl, Nat.le_of_ble_eq_true rfl⟩ ⟨Nat.le_refl _, Nat.le_refl _⟩ rfl hl.1 rfl (Nat.le_of_ble_eq_true rfl) dX12_enough_9 ?_
  refine lv_if_ne (tgt := 17) hx hb dX12_enough_12 (by decide) (fun hc => ?_) (fun hc => ?_)
  · replace hf := it_neg hc hf
    refine lv_ldcw (v := 100000000) hx hb hown (hT _ k_1666) dX12_enough_17 ?_
    refine lv_istore_n (lv' := [(2, .int (100000000 : Int32)), (0, .ref (ad 100)), (1, .int a0)]) hx hb dX12_enough_20 rfl hl (by decide) rfl (fun ls hl => ?_)
    refine lv_iconst (v := -1) hx hb dX12_enough_21 (by decide) ?_
    refine lv_istore_n (lv' := [(3, .int (-1 : Int32)), (2, .int (100000000 : Int32)), (0, .ref (ad 100)), (1, .int a0)]) hx hb dX12_enough_22 rfl hl (by decide) rfl (fun ls hl => ?_)
    refine lv_iconst (v := 0) hx hb dX12_enough_23 (by decide) ?_
    refine lv_istore (lv' := [(4, .int (0 : Int32)), (3, .int (-1 : Int32)), (2, .int (100000000 : Int32)), (0, .ref (ad 100)), (1, .int a0)]) hx hb dX12_enough_24 hl (by decide) rfl (fun ls hl => ?_)
    exact L26 6000 a0 (100000000 : Int32) (-1 : Int32) (0 : Int32) st7 _ _ ls hf (lv_sub hl [3, 4, 2, 1, 0] rfl) hP hS
  · replace hf := it_pos hc hf
    refine lv_iconst (v := -1) hx hb dX12_enough_15 (by decide) ?_
    exact m_iret hx hb hr hlocks hf hP hS dX12_enough_16
theorem qX12_enough : yX12_enough.cls = RX12 ∧ yX12_enough.cls ≠ "java/lang/invoke/MethodHandle" ∧ yX12_enough.cls ≠ "java/lang/invoke/VarHandle" ∧ (parseMethodDescriptor yX12_enough.desc).map (fun d => d.parameters.length) = some 1 := by decide +kernel
def fX12_counted_b29 (st : St) : Option (Int32 × St) := bd (fX12_tell (-1 : Int32) st) (fun r1 st2 => some (r1, st2))
def fX12_counted (a0 : Int32) (a1 : Int32) (st : St) : Option (Int32 × St) := lt (sI st 0 (0 : Int32)) (fun st3 => bs (fX12_in (a0.toInt64) (0 : Int64) (5 : Int64)) (fun r4 => if r4 = 0 then (fX12_counted_b29 st3) else (bs (fX12_in (a1.toInt64) (0 : Int64) (9 : Int64)) (fun r5 => if r5 = 0 then (fX12_counted_b29 st3) else (lt (st3.2.2.1 3 (3 : Int32).toNatClampNeg) (fun x6 => if x6 = (8 : Int32) then (bd (fX12_tell (-5 : Int32) st3) (fun r12 st13 => some (r12, st13))) else (gi ((107 : Int32) + ((2 : Int32) * x6)) 5550 (lt (sA st3 3 (upd (st3.2.2.1 3) ((107 : Int32) + ((2 : Int32) * x6)).toNatClampNeg a0)) (fun st7 => gi (((107 : Int32) + ((2 : Int32) * x6)) + (1 : Int32)) 5550 (lt (sA st7 3 (upd (st7.2.2.1 3) (((107 : Int32) + ((2 : Int32) * x6)) + (1 : Int32)).toNatClampNeg a1)) (fun st8 => lt (sA st8 3 (upd (st8.2.2.1 3) (3 : Int32).toNatClampNeg ((st8.2.2.1 3 (3 : Int32).toNatClampNeg) + (1 : Int32)))) (fun st9 => bd (fX12_tell (x6 + (1 : Int32)) st9) (fun r10 st11 => some (r10, st11))))))))))))))
set_option maxHeartbeats 4000000 in
set_option maxRecDepth 100000 in
theorem tX12_counted (l : Launch) (D : va_G) (cy : Nat → ClassId) (ad : Nat → Nat) (hJ : (mads ad).Nodup) (sz : Nat) (a0 : Int32) (a1 : Int32) (st : St) (rr : Int32) (st' : St) (hf : fX12_counted a0 a1 st = some (rr, st')) : Met l yX12_counted (Cond.code yX12_counted cX12_counted 4 (some .int) :: TT) (rmD 1) (mPc D cy ad [.int a0, .int a1] st sz) (mQi D cy ad rr st' sz) 0 0 (mA ad sz) := by
  refine m_meti (by decide) hJ (Nat.le_of_ble_eq_true rfl) (fun p e s m args below meth c ls E hx hb hr hlocks hown hT hD hl hP hS => ?_)
  replace hl : lv_has ls 4 [(0, .ref (ad 100)), (1, .int a0), (2, .int a1)] := hl
  unfold fX12_counted at hf
  have B29 : ∀ (st : St) (H : Heap) (locs : List Loc) (ls : Array Slot), fX12_counted_b29 st = some (rr, st') → lv_has ls 4 [(0, .ref (ad 100))] → va_P D classes (mw cy ad st) H → va_S (mA ad s.heap.size) s.heap H locs → mGi l 1 D cy ad rr st' p e s m args below meth c H locs (F0 m 29 ls []) := by
    intro st H locs ls hf hl hP hS
    unfold fX12_counted_b29 at hf
    refine lv_aload_n hx hb dX12_counted_29 rfl (lv_at hl 0 rfl) ?_
    refine lv_iconst (v := -1) hx hb dX12_counted_30 (by decide) ?_
    obtain ⟨r1, st2, hc, hf⟩ := bd_some hf
    refine m_calli (n := 1) (rest := []) E hP hS (fun sz => tX12_tell l D cy ad hJ sz (-1 : Int32) st r1 st2 hc) (gV k_1338 k_1340 ks_37 k_14 k_1341) qX12_tell ⟨Nat.le_of_ble_eq_true rfl, Nat.le_of_ble_eq_true rfl⟩ ⟨Nat.le_refl _, Nat.le_refl _⟩ rfl hl.1 rfl (Nat.le_of_ble_eq_true rfl) dX12_counted_31 (fun H locs hP hS => ?_)
    exact m_iret hx hb hr hlocks hf hP hS dX12_counted_34
  refine lv_aload_n hx hb dX12_counted_0 rfl (lv_at hl 0 rfl) ?_
  refine lv_iconst (v := 0) hx hb dX12_counted_1 (by decide) ?_
  refine mp_0 E hD hP hS dX12_counted_2 (fun st3 H locs ex hP hS => ?_)
  replace hf := lt_at ex hf; clear ex
  refine lv_iload_n hx hb dX12_counted_5 rfl (lv_at hl 1 rfl) ?_
  refine lv_i2l (v := a0.toInt64) hx hb dX12_counted_6 rfl ?_
  refine lv_lconst (v := 0) hx hb dX12_counted_7 (by decide) ?_
  refine lv_ldc2 (v := 5) hx hb hown (hT _ k_1396) dX12_counted_8 ?_
  obtain ⟨r4, hc, hf⟩ := bs_some hf
  refine s_calli (n := 3) (rest := []) E.1 (tX12_in l _ (a0.toInt64) (0 : Int64) (5 : Int64) r4 hc) (gS k_1350 k_1351 k_14 k_1352) qX12_in ⟨Nat.le_of_ble_eq_true rfl, Nat.le_of_ble_eq_true rfl⟩ ⟨Nat.le_refl _, Nat.le_refl _⟩ rfl hl.1 rfl (Nat.le_of_ble_eq_true rfl) dX12_counted_11 ?_
  refine lv_if_eq (tgt := 29) hx hb dX12_counted_14 (by decide) (fun hc => ?_) (fun hc => ?_)
  · replace hf := it_pos hc hf
    exact B29 st3 _ _ ls hf (lv_sub hl [0] rfl) hP hS
  · replace hf := it_neg hc hf
    refine lv_iload_n hx hb dX12_counted_17 rfl (lv_at hl 2 rfl) ?_
    refine lv_i2l (v := a1.toInt64) hx hb dX12_counted_18 rfl ?_
    refine lv_lconst (v := 0) hx hb dX12_counted_19 (by decide) ?_
    refine lv_ldc2 (v := 9) hx hb hown (hT _ k_1416) dX12_counted_20 ?_
    obtain ⟨r5, hc, hf⟩ := bs_some hf
    refine s_calli (n := 3) (rest := []) E.1 (tX12_in l _ (a1.toInt64) (0 : Int64) (9 : Int64) r5 hc) (gS k_1350 k_1351 k_14 k_1352) qX12_in ⟨Nat.le_of_ble_eq_true rfl, Nat.le_of_ble_eq_true rfl⟩ ⟨Nat.le_refl _, Nat.le_refl _⟩ rfl hl.1 rfl (Nat.le_of_ble_eq_true rfl) dX12_counted_23 ?_
    refine lv_if_ne (tgt := 35) hx hb dX12_counted_26 (by decide) (fun hc => ?_) (fun hc => ?_)
    · replace hf := it_neg hc hf
      refine lv_aload_n hx hb dX12_counted_35 rfl (lv_at hl 0 rfl) ?_
      refine mg_3 E hP dX12_counted_36 ?_
      refine lv_iconst (v := 3) hx hb dX12_counted_39 (by decide) ?_
      refine ml_3 E hP (vi rfl) dX12_counted_40 ?_
      refine lv_topi (fun x6 ex => ?_)
      replace hf := lt_at ex hf; clear ex
      refine lv_istore_n (lv' := [(3, .int x6), (0, .ref (ad 100)), (1, .int a0), (2, .int a1)]) hx hb dX12_counted_41 rfl hl (by decide) rfl (fun ls hl => ?_)
      refine lv_iload_n hx hb dX12_counted_42 rfl (lv_at hl 0 rfl) ?_
      refine lv_bipush (v := 8) hx hb dX12_counted_43 (by decide) ?_
      refine lv_icmp_ne (tgt := 55) hx hb dX12_counted_45 (by decide) (fun hc => ?_) (fun hc => ?_)
      · replace hf := it_neg hc hf
        refine lv_aload_n hx hb dX12_counted_55 rfl (lv_at hl 1 rfl) ?_
        refine mg_3 E hP dX12_counted_56 ?_
        refine lv_bipush (v := 107) hx hb dX12_counted_59 (by decide) ?_
        refine lv_iconst (v := 2) hx hb dX12_counted_61 (by decide) ?_
        refine lv_iload_n hx hb dX12_counted_62 rfl (lv_at hl 0 rfl) ?_
        refine lv_imul hx hb dX12_counted_63 ?_
        refine lv_iadd hx hb dX12_counted_64 ?_
        refine lv_iload_n hx hb dX12_counted_65 rfl (lv_at hl 2 rfl) ?_
        obtain ⟨hi, hf⟩ := gi_some hf
        refine ms_3 E hD hP hS hi dX12_counted_66 (fun st7 H locs ex hP hS => ?_)
        replace hf := lt_at ex hf; clear ex
        refine lv_aload_n hx hb dX12_counted_67 rfl (lv_at hl 1 rfl) ?_
        refine mg_3 E hP dX12_counted_68 ?_
        refine lv_bipush (v := 107) hx hb dX12_counted_71 (by decide) ?_
        refine lv_iconst (v := 2) hx hb dX12_counted_73 (by decide) ?_
        refine lv_iload_n hx hb dX12_counted_74 rfl (lv_at hl 0 rfl) ?_
        refine lv_imul hx hb dX12_counted_75 ?_
        refine lv_iadd hx hb dX12_counted_76 ?_
        refine lv_iconst (v := 1) hx hb dX12_counted_77 (by decide) ?_
        refine lv_iadd hx hb dX12_counted_78 ?_
        refine lv_iload_n hx hb dX12_counted_79 rfl (lv_at hl 3 rfl) ?_
        obtain ⟨hi, hf⟩ := gi_some hf
        refine ms_3 E hD hP hS hi dX12_counted_80 (fun st8 H locs ex hP hS => ?_)
        replace hf := lt_at ex hf; clear ex
        refine lv_aload_n hx hb dX12_counted_81 rfl (lv_at hl 1 rfl) ?_
        refine mg_3 E hP dX12_counted_82 ?_
        refine lv_iconst (v := 3) hx hb dX12_counted_85 (by decide) ?_
        refine lv_dup2_11 hx hb dX12_counted_86 rfl rfl ?_
        refine ml_3 E hP (vi rfl) dX12_counted_87 ?_
        refine lv_iconst (v := 1) hx hb dX12_counted_88 (by decide) ?_
        refine lv_iadd hx hb dX12_counted_89 ?_
        refine ms_3 E hD hP hS (vi rfl) dX12_counted_90 (fun st9 H locs ex hP hS => ?_)
        replace hf := lt_at ex hf; clear ex
        refine lv_aload_n hx hb dX12_counted_91 rfl (lv_at hl 1 rfl) ?_
        refine lv_iload_n hx hb dX12_counted_92 rfl (lv_at hl 0 rfl) ?_
        refine lv_iconst (v := 1) hx hb dX12_counted_93 (by decide) ?_
        refine lv_iadd hx hb dX12_counted_94 ?_
        obtain ⟨r10, st11, hc, hf⟩ := bd_some hf
        refine m_calli (n := 1) (rest := []) E hP hS (fun sz => tX12_tell l D cy ad hJ sz (x6 + (1 : Int32)) st9 r10 st11 hc) (gV k_1338 k_1340 ks_37 k_14 k_1341) qX12_tell ⟨Nat.le_of_ble_eq_true rfl, Nat.le_of_ble_eq_true rfl⟩ ⟨Nat.le_refl _, Nat.le_refl _⟩ rfl hl.1 rfl (Nat.le_of_ble_eq_true rfl) dX12_counted_95 (fun H locs hP hS => ?_)
        exact m_iret hx hb hr hlocks hf hP hS dX12_counted_98
      · replace hf := it_pos hc hf
        refine lv_aload_n hx hb dX12_counted_48 rfl (lv_at hl 1 rfl) ?_
        refine lv_bipush (v := -5) hx hb dX12_counted_49 (by decide) ?_
        obtain ⟨r12, st13, hc, hf⟩ := bd_some hf
        refine m_calli (n := 1) (rest := []) E hP hS (fun sz => tX12_tell l D cy ad hJ sz (-5 : Int32) st3 r12 st13 hc) (gV k_1338 k_1340 ks_37 k_14 k_1341) qX12_tell ⟨Nat.le_of_ble_eq_true rfl, Nat.le_of_ble_eq_true rfl⟩ ⟨Nat.le_refl _, Nat.le_refl _⟩ rfl hl.1 rfl (Nat.le_of_ble_eq_true rfl) dX12_counted_51 (fun H locs hP hS => ?_)
        exact m_iret hx hb hr hlocks hf hP hS dX12_counted_54
    · replace hf := it_pos hc hf
      exact B29 st3 _ _ ls hf (lv_sub hl [0] rfl) hP hS
theorem qX12_counted : yX12_counted.cls = RX12 ∧ yX12_counted.cls ≠ "java/lang/invoke/MethodHandle" ∧ yX12_counted.cls ≠ "java/lang/invoke/VarHandle" ∧ (parseMethodDescriptor yX12_counted.desc).map (fun d => d.parameters.length) = some 2 := by decide +kernel
def fX12_forget (st : St) : Option (Int32 × St) := lt (sI st 0 (0 : Int32)) (fun st1 => lt (((st1.2.2.1 3 (1 : Int32).toNatClampNeg) + (st1.2.2.1 3 (2 : Int32).toNatClampNeg)) + (st1.2.2.1 3 (3 : Int32).toNatClampNeg)) (fun x2 => lt (sA st1 3 (upd (st1.2.2.1 3) (1 : Int32).toNatClampNeg (0 : Int32))) (fun st3 => lt (sA st3 3 (upd (st3.2.2.1 3) (2 : Int32).toNatClampNeg (0 : Int32))) (fun st4 => lt (sA st4 3 (upd (st4.2.2.1 3) (3 : Int32).toNatClampNeg (0 : Int32))) (fun st5 => some (x2, st5))))))
set_option maxHeartbeats 4000000 in
set_option maxRecDepth 100000 in
theorem tX12_forget (l : Launch) (D : va_G) (cy : Nat → ClassId) (ad : Nat → Nat) (hJ : (mads ad).Nodup) (sz : Nat) (st : St) (rr : Int32) (st' : St) (hf : fX12_forget  st = some (rr, st')) : Met l yX12_forget (Cond.code yX12_forget cX12_forget 2 (some .int) :: TT) (rmD 0) (mPc D cy ad [] st sz) (mQi D cy ad rr st' sz) 0 0 (mA ad sz) := by
  refine m_meti (by decide) hJ (Nat.le_of_ble_eq_true rfl) (fun p e s m args below meth c ls E hx hb hr hlocks hown hT hD hl hP hS => ?_)
  replace hl : lv_has ls 2 [(0, .ref (ad 100))] := hl
  unfold fX12_forget at hf
  refine lv_aload_n hx hb dX12_forget_0 rfl (lv_at hl 0 rfl) ?_
  refine lv_iconst (v := 0) hx hb dX12_forget_1 (by decide) ?_
  refine mp_0 E hD hP hS dX12_forget_2 (fun st1 H locs ex hP hS => ?_)
  replace hf := lt_at ex hf; clear ex
  refine lv_aload_n hx hb dX12_forget_5 rfl (lv_at hl 0 rfl) ?_
  refine mg_3 E hP dX12_forget_6 ?_
  refine lv_iconst (v := 1) hx hb dX12_forget_9 (by decide) ?_
  refine ml_3 E hP (vi rfl) dX12_forget_10 ?_
  refine lv_aload_n hx hb dX12_forget_11 rfl (lv_at hl 0 rfl) ?_
  refine mg_3 E hP dX12_forget_12 ?_
  refine lv_iconst (v := 2) hx hb dX12_forget_15 (by decide) ?_
  refine ml_3 E hP (vi rfl) dX12_forget_16 ?_
  refine lv_iadd hx hb dX12_forget_17 ?_
  refine lv_aload_n hx hb dX12_forget_18 rfl (lv_at hl 0 rfl) ?_
  refine mg_3 E hP dX12_forget_19 ?_
  refine lv_iconst (v := 3) hx hb dX12_forget_22 (by decide) ?_
  refine ml_3 E hP (vi rfl) dX12_forget_23 ?_
  refine lv_iadd hx hb dX12_forget_24 ?_
  refine lv_topi (fun x2 ex => ?_)
  replace hf := lt_at ex hf; clear ex
  refine lv_istore_n (lv' := [(1, .int x2), (0, .ref (ad 100))]) hx hb dX12_forget_25 rfl hl (by decide) rfl (fun ls hl => ?_)
  refine lv_aload_n hx hb dX12_forget_26 rfl (lv_at hl 1 rfl) ?_
  refine mg_3 E hP dX12_forget_27 ?_
  refine lv_iconst (v := 1) hx hb dX12_forget_30 (by decide) ?_
  refine lv_iconst (v := 0) hx hb dX12_forget_31 (by decide) ?_
  refine ms_3 E hD hP hS (vi rfl) dX12_forget_32 (fun st3 H locs ex hP hS => ?_)
  replace hf := lt_at ex hf; clear ex
  refine lv_aload_n hx hb dX12_forget_33 rfl (lv_at hl 1 rfl) ?_
  refine mg_3 E hP dX12_forget_34 ?_
  refine lv_iconst (v := 2) hx hb dX12_forget_37 (by decide) ?_
  refine lv_iconst (v := 0) hx hb dX12_forget_38 (by decide) ?_
  refine ms_3 E hD hP hS (vi rfl) dX12_forget_39 (fun st4 H locs ex hP hS => ?_)
  replace hf := lt_at ex hf; clear ex
  refine lv_aload_n hx hb dX12_forget_40 rfl (lv_at hl 1 rfl) ?_
  refine mg_3 E hP dX12_forget_41 ?_
  refine lv_iconst (v := 3) hx hb dX12_forget_44 (by decide) ?_
  refine lv_iconst (v := 0) hx hb dX12_forget_45 (by decide) ?_
  refine ms_3 E hD hP hS (vi rfl) dX12_forget_46 (fun st5 H locs ex hP hS => ?_)
  replace hf := lt_at ex hf; clear ex
  refine lv_iload_n hx hb dX12_forget_47 rfl (lv_at hl 0 rfl) ?_
  exact m_iret hx hb hr hlocks hf hP hS dX12_forget_48
theorem qX12_forget : yX12_forget.cls = RX12 ∧ yX12_forget.cls ≠ "java/lang/invoke/MethodHandle" ∧ yX12_forget.cls ≠ "java/lang/invoke/VarHandle" ∧ (parseMethodDescriptor yX12_forget.desc).map (fun d => d.parameters.length) = some 0 := by decide +kernel
def fX12_isFitting_b62 (v2 : Int32) (st : St) : Option (Int32 × St) := gb v2 (some (v2, st))
def fX12_isFitting_b55 (k4 : Int32 → Int32 → Int32 → St → Option (Int32 × St)) (v1 : Int32) (v3 : Int32) (w0 : Int32) (st : St) : Option (Int32 × St) := lt (v3 + (1 : Int32)) (fun x1 => k4 v1 w0 x1 st)
def fX12_isFitting_b4 (k4 : Int32 → Int32 → Int32 → St → Option (Int32 × St)) (v1 : Int32) (v2 : Int32) (v3 : Int32) (st : St) : Option (Int32 × St) := if (st.2.2.1 3 (3 : Int32).toNatClampNeg) ≤ v3 then (fX12_isFitting_b62 v2 st) else (if v2 = 0 then (fX12_isFitting_b62 v2 st) else (gi ((107 : Int32) + ((2 : Int32) * v3)) 5550 (bd (fX12_seenFrom (st.2.2.1 3 ((107 : Int32) + ((2 : Int32) * v3)).toNatClampNeg) v1 st) (fun r2 st3 => gi (((107 : Int32) + ((2 : Int32) * v3)) + (1 : Int32)) 5550 (if r2 = (st3.2.2.1 3 (((107 : Int32) + ((2 : Int32) * v3)) + (1 : Int32)).toNatClampNeg) then (fX12_isFitting_b55 k4 v1 v3 (1 : Int32) st3) else (fX12_isFitting_b55 k4 v1 v3 (0 : Int32) st3))))))
def fX12_isFitting (a0 : Int32) (st : St) : Option (Int32 × St) := lp (fun _ _ _ _ => none) (fX12_isFitting_b4) 6000 a0 (1 : Int32) (0 : Int32) st
set_option maxHeartbeats 4000000 in
set_option maxRecDepth 100000 in
theorem tX12_isFitting (l : Launch) (D : va_G) (cy : Nat → ClassId) (ad : Nat → Nat) (hJ : (mads ad).Nodup) (sz : Nat) (a0 : Int32) (st : St) (rr : Int32) (st' : St) (hf : fX12_isFitting a0 st = some (rr, st')) : Met l yX12_isFitting (Cond.code yX12_isFitting cX12_isFitting 4 (some .boolean) :: TT) (rmD 2) (mPc D cy ad [.int a0] st sz) (mQi D cy ad rr st' sz) 0 0 (mA ad sz) := by
  refine m_meti (by decide) hJ (Nat.le_of_ble_eq_true rfl) (fun p e s m args below meth c ls E hx hb hr hlocks hown hT hD hl hP hS => ?_)
  replace hl : lv_has ls 4 [(0, .ref (ad 100)), (1, .int a0)] := hl
  unfold fX12_isFitting at hf
  have B62 : ∀ (v2 : Int32) (st : St) (H : Heap) (locs : List Loc) (ls : Array Slot), fX12_isFitting_b62 v2 st = some (rr, st') → lv_has ls 4 [(2, .int v2)] → va_P D classes (mw cy ad st) H → va_S (mA ad s.heap.size) s.heap H locs → mGi l 2 D cy ad rr st' p e s m args below meth c H locs (F0 m 62 ls []) := by
    intro v2 st H locs ls hf hl hP hS
    unfold fX12_isFitting_b62 at hf
    refine lv_iload_n hx hb dX12_isFitting_62 rfl (lv_at hl 0 rfl) ?_
    obtain ⟨hn, hf⟩ := gb_some hf
    exact m_zret hx hb hr hlocks hn hf hP hS dX12_isFitting_63
  have L4 : ∀ (n : Nat) (v1 : Int32) (v2 : Int32) (v3 : Int32) (st : St) (H : Heap) (locs : List Loc) (ls : Array Slot), lp (fun _ _ _ _ => none) (fX12_isFitting_b4) n v1 v2 v3 st = some (rr, st') → lv_has ls 4 [(0, .ref (ad 100)), (1, .int v1), (2, .int v2), (3, .int v3)] → va_P D classes (mw cy ad st) H → va_S (mA ad s.heap.size) s.heap H locs → mGi l 2 D cy ad rr st' p e s m args below meth c H locs (F0 m 4 ls []) := by
    intro n
    induction n with
    | zero => intro v1 v2 v3 st H locs ls hf; exact absurd hf (fun h => by cases h)
    | succ n K4 =>
      intro v1 v2 v3 st H locs ls hf hl hP hS
      replace hf : fX12_isFitting_b4 (lp (fun _ _ _ _ => none) (fX12_isFitting_b4) n) v1 v2 v3 st = some (rr, st') := hf
      generalize lp (fun _ _ _ _ => none) (fX12_isFitting_b4) n = k4 at hf K4
      have B55 : ∀ (v1 : Int32) (v3 : Int32) (w0 : Int32) (st : St) (H : Heap) (locs : List Loc) (ls : Array Slot), fX12_isFitting_b55 k4 v1 v3 w0 st = some (rr, st') → lv_has ls 4 [(0, .ref (ad 100)), (1, .int v1), (3, .int v3)] → va_P D classes (mw cy ad st) H → va_S (mA ad s.heap.size) s.heap H locs → mGi l 2 D cy ad rr st' p e s m args below meth c H locs (F0 m 55 ls [.int w0]) := by
        intro v1 v3 w0 st H locs ls hf hl hP hS
        unfold fX12_isFitting_b55 at hf
        refine lv_istore_n (lv' := [(2, .int w0), (0, .ref (ad 100)), (1, .int v1), (3, .int v3)]) hx hb dX12_isFitting_55 rfl hl (by decide) rfl (fun ls hl => ?_)
        obtain ⟨x1, ex⟩ : ∃ y : Int32, y = v3 + (1 : Int32) := ⟨_, rfl⟩
        replace hf := lt_at ex hf
        refine lv_iinc (v := x1) (lv' := [(3, .int x1), (2, .int w0), (0, .ref (ad 100)), (1, .int v1)]) hx hb dX12_isFitting_56 hl (k := 3) rfl (by rw [ex]; rfl) (by decide) rfl (fun ls hl => ?_)
        clear ex
        refine lv_goto (tgt := 4) hx hb dX12_isFitting_59 (by decide) ?_
        exact K4 v1 w0 x1 st _ _ ls hf (lv_sub hl [2, 3, 1, 0] rfl) hP hS
      unfold fX12_isFitting_b4 at hf
      refine lv_iload_n hx hb dX12_isFitting_4 rfl (lv_at hl 3 rfl) ?_
      refine lv_aload_n hx hb dX12_isFitting_5 rfl (lv_at hl 0 rfl) ?_
      refine mg_3 E hP dX12_isFitting_6 ?_
      refine lv_iconst (v := 3) hx hb dX12_isFitting_9 (by decide) ?_
      refine ml_3 E hP (vi rfl) dX12_isFitting_10 ?_
      refine lv_icmp_ge (tgt := 62) hx hb dX12_isFitting_11 (by decide) (fun hc => ?_) (fun hc => ?_)
      · replace hf := it_pos hc hf
        exact B62 v2 st _ _ ls hf (lv_sub hl [2] rfl) hP hS
      · replace hf := it_neg hc hf
        refine lv_iload_n hx hb dX12_isFitting_14 rfl (lv_at hl 2 rfl) ?_
        refine lv_if_eq (tgt := 62) hx hb dX12_isFitting_15 (by decide) (fun hc => ?_) (fun hc => ?_)
        · replace hf := it_pos hc hf
          exact B62 v2 st _ _ ls hf (lv_sub hl [2] rfl) hP hS
        · replace hf := it_neg hc hf
          refine lv_aload_n hx hb dX12_isFitting_18 rfl (lv_at hl 0 rfl) ?_
          refine lv_aload_n hx hb dX12_isFitting_19 rfl (lv_at hl 0 rfl) ?_
          refine mg_3 E hP dX12_isFitting_20 ?_
          refine lv_bipush (v := 107) hx hb dX12_isFitting_23 (by decide) ?_
          refine lv_iconst (v := 2) hx hb dX12_isFitting_25 (by decide) ?_
          refine lv_iload_n hx hb dX12_isFitting_26 rfl (lv_at hl 3 rfl) ?_
          refine lv_imul hx hb dX12_isFitting_27 ?_
          refine lv_iadd hx hb dX12_isFitting_28 ?_
          obtain ⟨hi, hf⟩ := gi_some hf
          refine ml_3 E hP hi dX12_isFitting_29 ?_
          refine lv_iload_n hx hb dX12_isFitting_30 rfl (lv_at hl 1 rfl) ?_
          obtain ⟨r2, st3, hc, hf⟩ := bd_some hf
          refine m_calli (n := 2) (rest := []) E hP hS (fun sz => tX12_seenFrom l D cy ad hJ sz (st.2.2.1 3 ((107 : Int32) + ((2 : Int32) * v3)).toNatClampNeg) v1 st r2 st3 hc) (gV k_1732 k_1734 ks_90 k_14 k_1735) qX12_seenFrom ⟨Nat.le_of_ble_eq_true rfl, Nat.le_of_ble_eq_true rfl⟩ ⟨Nat.le_refl _, Nat.le_refl _⟩ rfl hl.1 rfl (Nat.le_of_ble_eq_true rfl) dX12_isFitting_31 (fun H locs hP hS => ?_)
          refine lv_aload_n hx hb dX12_isFitting_34 rfl (lv_at hl 0 rfl) ?_
          refine mg_3 E hP dX12_isFitting_35 ?_
          refine lv_bipush (v := 107) hx hb dX12_isFitting_38 (by decide) ?_
          refine lv_iconst (v := 2) hx hb dX12_isFitting_40 (by decide) ?_
          refine lv_iload_n hx hb dX12_isFitting_41 rfl (lv_at hl 3 rfl) ?_
          refine lv_imul hx hb dX12_isFitting_42 ?_
          refine lv_iadd hx hb dX12_isFitting_43 ?_
          refine lv_iconst (v := 1) hx hb dX12_isFitting_44 (by decide) ?_
          refine lv_iadd hx hb dX12_isFitting_45 ?_
          obtain ⟨hi, hf⟩ := gi_some hf
          refine ml_3 E hP hi dX12_isFitting_46 ?_
          refine lv_icmp_ne (tgt := 54) hx hb dX12_isFitting_47 (by decide) (fun hc => ?_) (fun hc => ?_)
          · replace hf := it_neg hc hf
            refine lv_iconst (v := 0) hx hb dX12_isFitting_54 (by decide) ?_
            exact B55 v1 v3 (0 : Int32) st3 _ _ ls hf (lv_sub hl [0, 1, 3] rfl) hP hS
          · replace hf := it_pos hc hf
            refine lv_iconst (v := 1) hx hb dX12_isFitting_50 (by decide) ?_
            refine lv_goto (tgt := 55) hx hb dX12_isFitting_51 (by decide) ?_
            exact B55 v1 v3 (1 : Int32) st3 _ _ ls hf (lv_sub hl [0, 1, 3] rfl) hP hS
  refine lv_iconst (v := 1) hx hb dX12_isFitting_0 (by decide) ?_
  refine lv_istore_n (lv' := [(2, .int (1 : Int32)), (0, .ref (ad 100)), (1, .int a0)]) hx hb dX12_isFitting_1 rfl hl (by decide) rfl (fun ls hl => ?_)
  refine lv_iconst (v := 0) hx hb dX12_isFitting_2 (by decide) ?_
  refine lv_istore_n (lv' := [(3, .int (0 : Int32)), (2, .int (1 : Int32)), (0, .ref (ad 100)), (1, .int a0)]) hx hb dX12_isFitting_3 rfl hl (by decide) rfl (fun ls hl => ?_)
  exact L4 6000 a0 (1 : Int32) (0 : Int32) st _ _ ls hf (lv_sub hl [2, 3, 1, 0] rfl) hP hS
theorem qX12_isFitting : yX12_isFitting.cls = RX12 ∧ yX12_isFitting.cls ≠ "java/lang/invoke/MethodHandle" ∧ yX12_isFitting.cls ≠ "java/lang/invoke/VarHandle" ∧ (parseMethodDescriptor yX12_isFitting.desc).map (fun d => d.parameters.length) = some 1 := by decide +kernel
def fX12_fits_b65 (w0 : Int32) (st : St) : Option (Int32 × St) := some (w0, st)
def fX12_fits_b49 (k12 : Int32 → Int32 → Int32 → Int32 → St → Option (Int32 × St)) (v1 : Int32) (v2 : Int32) (v3 : Int32) (v4 : Int32) (st : St) : Option (Int32 × St) := lt (v4 + (1 : Int32)) (fun x1 => k12 v1 v2 v3 x1 st)
def fX12_fits_b45 (k12 : Int32 → Int32 → Int32 → Int32 → St → Option (Int32 × St)) (v1 : Int32) (v2 : Int32) (v4 : Int32) (w0 : Int32) (st : St) : Option (Int32 × St) := lt (v2 + (1 : Int32)) (fun x2 => fX12_fits_b49 k12 v1 x2 w0 v4 st)
def fX12_fits_b12 (k12 : Int32 → Int32 → Int32 → Int32 → St → Option (Int32 × St)) (v1 : Int32) (v2 : Int32) (v3 : Int32) (v4 : Int32) (st : St) : Option (Int32 × St) := if ((1 : Int32) <<< ((st.2.2.1 3 (2 : Int32).toNatClampNeg) &&& 31)) ≤ v4 then (if v1 = (-1 : Int32) then (fX12_fits_b65 v2 st) else (fX12_fits_b65 v3 st)) else (bd (fX12_isFitting v4 st) (fun r3 st4 => if r3 = 0 then (fX12_fits_b49 k12 v1 v2 v3 v4 st4) else (if v2 = v1 then (fX12_fits_b45 k12 v1 v2 v4 v4 st4) else (fX12_fits_b45 k12 v1 v2 v4 v3 st4))))
def fX12_fits (a0 : Int32) (st : St) : Option (Int32 × St) := lt (sI st 0 (0 : Int32)) (fun st5 => lp (fun _ _ _ _ _ => none) (fX12_fits_b12) 6000 a0 (0 : Int32) (-1 : Int32) (0 : Int32) st5)
set_option maxHeartbeats 4000000 in
set_option maxRecDepth 100000 in
theorem tX12_fits (l : Launch) (D : va_G) (cy : Nat → ClassId) (ad : Nat → Nat) (hJ : (mads ad).Nodup) (sz : Nat) (a0 : Int32) (st : St) (rr : Int32) (st' : St) (hf : fX12_fits a0 st = some (rr, st')) : Met l yX12_fits (Cond.code yX12_fits cX12_fits 5 (some .int) :: TT) (rmD 3) (mPc D cy ad [.int a0] st sz) (mQi D cy ad rr st' sz) 0 0 (mA ad sz) := by
  refine m_meti (by decide) hJ (Nat.le_of_ble_eq_true rfl) (fun p e s m args below meth c ls E hx hb hr hlocks hown hT hD hl hP hS => ?_)
  replace hl : lv_has ls 5 [(0, .ref (ad 100)), (1, .int a0)] := hl
  unfold fX12_fits at hf
  have B65 : ∀ (w0 : Int32) (st : St) (H : Heap) (locs : List Loc) (ls : Array Slot), fX12_fits_b65 w0 st = some (rr, st') → lv_has ls 5 [] → va_P D classes (mw cy ad st) H → va_S (mA ad s.heap.size) s.heap H locs → mGi l 3 D cy ad rr st' p e s m args below meth c H locs (F0 m 65 ls [.int w0]) := by
    intro w0 st H locs ls hf hl hP hS
    unfold fX12_fits_b65 at hf
    exact m_iret hx hb hr hlocks hf hP hS dX12_fits_65
  have L12 : ∀ (n : Nat) (v1 : Int32) (v2 : Int32) (v3 : Int32) (v4 : Int32) (st : St) (H : Heap) (locs : List Loc) (ls : Array Slot), lp (fun _ _ _ _ _ => none) (fX12_fits_b12) n v1 v2 v3 v4 st = some (rr, st') → lv_has ls 5 [(0, .ref (ad 100)), (1, .int v1), (2, .int v2), (3, .int v3), (4, .int v4)] → va_P D classes (mw cy ad st) H → va_S (mA ad s.heap.size) s.heap H locs → mGi l 3 D cy ad rr st' p e s m args below meth c H locs (F0 m 12 ls []) := by
    intro n
    induction n with
    | zero => intro v1 v2 v3 v4 st H locs ls hf; exact absurd hf (fun h => by cases h)
    | succ n K12 =>
      intro v1 v2 v3 v4 st H locs ls hf hl hP hS
      replace hf : fX12_fits_b12 (lp (fun _ _ _ _ _ => none) (fX12_fits_b12) n) v1 v2 v3 v4 st = some (rr, st') := hf
      generalize lp (fun _ _ _ _ _ => none) (fX12_fits_b12) n = k12 at hf K12
      have B49 : ∀ (v1 : Int32) (v2 : Int32) (v3 : Int32) (v4 : Int32) (st : St) (H : Heap) (locs : List Loc) (ls : Array Slot), fX12_fits_b49 k12 v1 v2 v3 v4 st = some (rr, st') → lv_has ls 5 [(0, .ref (ad 100)), (1, .int v1), (2, .int v2), (3, .int v3), (4, .int v4)] → va_P D classes (mw cy ad st) H → va_S (mA ad s.heap.size) s.heap H locs → mGi l 3 D cy ad rr st' p e s m args below meth c H locs (F0 m 49 ls []) := by
        intro v1 v2 v3 v4 st H locs ls hf hl hP hS
        unfold fX12_fits_b49 at hf
        obtain ⟨x1, ex⟩ : ∃ y : Int32, y = v4 + (1 : Int32) := ⟨_, rfl⟩
        replace hf := lt_at ex hf
        refine lv_iinc (v := x1) (lv' := [(4, .int x1), (0, .ref (ad 100)), (1, .int v1), (2, .int v2), (3, .int v3)]) hx hb dX12_fits_49 hl (k := 4) rfl (by rw [ex]; rfl) (by decide) rfl (fun ls hl => ?_)
        clear ex
        refine lv_goto (tgt := 12) hx hb dX12_fits_52 (by decide) ?_
        exact K12 v1 v2 v3 x1 st _ _ ls hf (lv_sub hl [1, 2, 3, 4, 0] rfl) hP hS
      have B45 : ∀ (v1 : Int32) (v2 : Int32) (v4 : Int32) (w0 : Int32) (st : St) (H : Heap) (locs : List Loc) (ls : Array Slot), fX12_fits_b45 k12 v1 v2 v4 w0 st = some (rr, st') → lv_has ls 5 [(0, .ref (ad 100)), (1, .int v1), (2, .int v2), (4, .int v4)] → va_P D classes (mw cy ad st) H → va_S (mA ad s.heap.size) s.heap H locs → mGi l 3 D cy ad rr st' p e s m args below meth c H locs (F0 m 45 ls [.int w0]) := by
        intro v1 v2 v4 w0 st H locs ls hf hl hP hS
        unfold fX12_fits_b45 at hf
        refine lv_istore_n (lv' := [(3, .int w0), (0, .ref (ad 100)), (1, .int v1), (2, .int v2), (4, .int v4)]) hx hb dX12_fits_45 rfl hl (by decide) rfl (fun ls hl => ?_)
        obtain ⟨x2, ex⟩ : ∃ y : Int32, y = v2 + (1 : Int32) := ⟨_, rfl⟩
        replace hf := lt_at ex hf
        refine lv_iinc (v := x2) (lv' := [(2, .int x2), (3, .int w0), (0, .ref (ad 100)), (1, .int v1), (4, .int v4)]) hx hb dX12_fits_46 hl (k := 3) rfl (by rw [ex]; rfl) (by decide) rfl (fun ls hl => ?_)
        clear ex
        exact B49 v1 x2 w0 v4 st _ _ ls hf (lv_sub hl [2, 3, 0, 1, 4] rfl) hP hS
      unfold fX12_fits_b12 at hf
      refine lv_iload hx hb dX12_fits_12 (lv_at hl 4 rfl) ?_
      refine lv_iconst (v := 1) hx hb dX12_fits_14 (by decide) ?_
      refine lv_aload_n hx hb dX12_fits_15 rfl (lv_at hl 0 rfl) ?_
      refine mg_3 E hP dX12_fits_16 ?_
      refine lv_iconst (v := 2) hx hb dX12_fits_19 (by decide) ?_
      refine ml_3 E hP (vi rfl) dX12_fits_20 ?_
      refine lv_ishl hx hb dX12_fits_21 ?_
      refine lv_icmp_ge (tgt := 55) hx hb dX12_fits_22 (by decide) (fun hc => ?_) (fun hc => ?_)
      · replace hf := it_pos hc hf
        refine lv_iload_n hx hb dX12_fits_55 rfl (lv_at hl 1 rfl) ?_
        refine lv_iconst (v := -1) hx hb dX12_fits_56 (by decide) ?_
        refine lv_icmp_ne (tgt := 64) hx hb dX12_fits_57 (by decide) (fun hc => ?_) (fun hc => ?_)
        · replace hf := it_neg hc hf
          refine lv_iload_n hx hb dX12_fits_64 rfl (lv_at hl 3 rfl) ?_
          exact B65 v3 st _ _ ls hf (lv_sub hl [] rfl) hP hS
        · replace hf := it_pos hc hf
          refine lv_iload_n hx hb dX12_fits_60 rfl (lv_at hl 2 rfl) ?_
          refine lv_goto (tgt := 65) hx hb dX12_fits_61 (by decide) ?_
          exact B65 v2 st _ _ ls hf (lv_sub hl [] rfl) hP hS
      · replace hf := it_neg hc hf
        refine lv_aload_n hx hb dX12_fits_25 rfl (lv_at hl 0 rfl) ?_
        refine lv_iload hx hb dX12_fits_26 (lv_at hl 4 rfl) ?_
        obtain ⟨r3, st4, hc, hf⟩ := bd_some hf
        refine m_calli (n := 1) (rest := []) E hP hS (fun sz => tX12_isFitting l D cy ad hJ sz v4 st r3 st4 hc) (gV k_1748 k_1750 ks_91 k_14 k_1751) qX12_isFitting ⟨Nat.le_of_ble_eq_true rfl, Nat.le_of_ble_eq_true rfl⟩ ⟨Nat.le_refl _, Nat.le_refl _⟩ rfl hl.1 rfl (Nat.le_of_ble_eq_true rfl) dX12_fits_28 (fun H locs hP hS => ?_)
        refine lv_if_eq (tgt := 49) hx hb dX12_fits_31 (by decide) (fun hc => ?_) (fun hc => ?_)
        · replace hf := it_pos hc hf
          exact B49 v1 v2 v3 v4 st4 _ _ ls hf hl hP hS
        · replace hf := it_neg hc hf
          refine lv_iload_n hx hb dX12_fits_34 rfl (lv_at hl 2 rfl) ?_
          refine lv_iload_n hx hb dX12_fits_35 rfl (lv_at hl 1 rfl) ?_
          refine lv_icmp_ne (tgt := 44) hx hb dX12_fits_36 (by decide) (fun hc => ?_) (fun hc => ?_)
          · replace hf := it_neg hc hf
            refine lv_iload_n hx hb dX12_fits_44 rfl (lv_at hl 3 rfl) ?_
            exact B45 v1 v2 v4 v3 st4 _ _ ls hf (lv_sub hl [0, 1, 2, 4] rfl) hP hS
          · replace hf := it_pos hc hf
            refine lv_iload hx hb dX12_fits_39 (lv_at hl 4 rfl) ?_
            refine lv_goto (tgt := 45) hx hb dX12_fits_41 (by decide) ?_
            exact B45 v1 v2 v4 v4 st4 _ _ ls hf (lv_sub hl [0, 1, 2, 4] rfl) hP hS
  refine lv_aload_n hx hb dX12_fits_0 rfl (lv_at hl 0 rfl) ?_
  refine lv_iconst (v := 0) hx hb dX12_fits_1 (by decide) ?_
  refine mp_0 E hD hP hS dX12_fits_2 (fun st5 H locs ex hP hS => ?_)
  replace hf := lt_at ex hf; clear ex
  refine lv_iconst (v := 0) hx hb dX12_fits_5 (by decide) ?_
  refine lv_istore_n (lv' := [(2, .int (0 : Int32)), (0, .ref (ad 100)), (1, .int a0)]) hx hb dX12_fits_6 rfl hl (by decide) rfl (fun ls hl => ?_)
  refine lv_iconst (v := -1) hx hb dX12_fits_7 (by decide) ?_
  refine lv_istore_n (lv' := [(3, .int (-1 : Int32)), (2, .int (0 : Int32)), (0, .ref (ad 100)), (1, .int a0)]) hx hb dX12_fits_8 rfl hl (by decide) rfl (fun ls hl => ?_)
  refine lv_iconst (v := 0) hx hb dX12_fits_9 (by decide) ?_
  refine lv_istore (lv' := [(4, .int (0 : Int32)), (3, .int (-1 : Int32)), (2, .int (0 : Int32)), (0, .ref (ad 100)), (1, .int a0)]) hx hb dX12_fits_10 hl (by decide) rfl (fun ls hl => ?_)
  exact L12 6000 a0 (0 : Int32) (-1 : Int32) (0 : Int32) st5 _ _ ls hf (lv_sub hl [3, 4, 2, 1, 0] rfl) hP hS
theorem qX12_fits : yX12_fits.cls = RX12 ∧ yX12_fits.cls ≠ "java/lang/invoke/MethodHandle" ∧ yX12_fits.cls ≠ "java/lang/invoke/VarHandle" ∧ (parseMethodDescriptor yX12_fits.desc).map (fun d => d.parameters.length) = some 1 := by decide +kernel
def fX12_next_b229 (w0 : Int32) (st : St) : Option (Int32 × St) := some (w0, st)
def fX12_next_b224 (v3 : Int32) (st : St) : Option (Int32 × St) := fX12_next_b229 v3 st
def fX12_next_b208 (k109 : Int32 → Int32 → Int32 → Int32 → St → Option (Int32 × St)) (v1 : Int32) (v3 : Int32) (v4 : Int32) (w0 : Int32) (st : St) : Option (Int32 × St) := lt (v4 + (1 : Int32)) (fun x1 => k109 v1 w0 v3 x1 st)
def fX12_next_b207 (k109 : Int32 → Int32 → Int32 → Int32 → St → Option (Int32 × St)) (v1 : Int32) (v2 : Int32) (v3 : Int32) (v4 : Int32) (st : St) : Option (Int32 × St) := fX12_next_b208 k109 v1 v3 v4 v2 st
def fX12_next_b190 (k109 : Int32 → Int32 → Int32 → Int32 → St → Option (Int32 × St)) (v1 : Int32) (v2 : Int32) (v4 : Int32) (v5 : Int32) (w0 : Int32) (st : St) : Option (Int32 × St) := if v5 ≤ 0 then (fX12_next_b207 k109 v1 v2 w0 v4 st) else (if v2 ≤ v5 then (fX12_next_b207 k109 v1 v2 w0 v4 st) else (fX12_next_b208 k109 v1 w0 v4 v5 st))
def fX12_next_b189 (k109 : Int32 → Int32 → Int32 → Int32 → St → Option (Int32 × St)) (v1 : Int32) (v2 : Int32) (v3 : Int32) (v4 : Int32) (v5 : Int32) (st : St) : Option (Int32 × St) := fX12_next_b190 k109 v1 v2 v4 v5 v3 st
def fX12_next_b165 (k109 : Int32 → Int32 → Int32 → Int32 → St → Option (Int32 × St)) (k122 : Int32 → Int32 → Int32 → Int32 → Int32 → Int32 → St → Option (Int32 × St)) (v1 : Int32) (v2 : Int32) (v3 : Int32) (v4 : Int32) (v6 : Int32) (w0 : Int32) (st : St) : Option (Int32 × St) := lt (v6 + (1 : Int32)) (fun x2 => k122 v1 v2 v3 v4 w0 x2 st)
def fX12_next_b122 (k109 : Int32 → Int32 → Int32 → Int32 → St → Option (Int32 × St)) (k122 : Int32 → Int32 → Int32 → Int32 → Int32 → Int32 → St → Option (Int32 × St)) (v1 : Int32) (v2 : Int32) (v3 : Int32) (v4 : Int32) (v5 : Int32) (v6 : Int32) (st : St) : Option (Int32 × St) := if (11 : Int32) ≤ v6 then (if v5 ≤ 0 then (fX12_next_b189 k109 v1 v2 v3 v4 v5 st) else (if v2 ≤ v5 then (fX12_next_b189 k109 v1 v2 v3 v4 v5 st) else (fX12_next_b190 k109 v1 v2 v4 v5 v4 st))) else (gi (((11 : Int32) * v4) + v6) 66 (if (st.2.2.1 43 (((11 : Int32) * v4) + v6).toNatClampNeg) ≤ v5 then (fX12_next_b165 k109 k122 v1 v2 v3 v4 v6 v5 st) else (gi (((11 : Int32) * v4) + v6) 66 (fX12_next_b165 k109 k122 v1 v2 v3 v4 v6 (st.2.2.1 43 (((11 : Int32) * v4) + v6).toNatClampNeg) st))))
def fX12_next_b109 (k109 : Int32 → Int32 → Int32 → Int32 → St → Option (Int32 × St)) (v1 : Int32) (v2 : Int32) (v3 : Int32) (v4 : Int32) (st : St) : Option (Int32 × St) := if (6 : Int32) ≤ v4 then (if v3 = (-1 : Int32) then (fX12_next_b224 v3 st) else (if v1 = 0 then (fX12_next_b224 v3 st) else (fX12_next_b229 v2 st))) else (lp (fun _ _ _ _ _ _ _ => none) (fX12_next_b122 k109) 6000 v1 v2 v3 v4 (0 : Int32) (0 : Int32) st)
def fX12_next_b94 (k40 : Int32 → Int32 → St → Option (Int32 × St)) (v1 : Int32) (v2 : Int32) (st : St) : Option (Int32 × St) := lt (v2 + (1 : Int32)) (fun x3 => k40 v1 x3 st)
def fX12_next_b54 (k40 : Int32 → Int32 → St → Option (Int32 × St)) (k54 : Int32 → Int32 → Int32 → St → Option (Int32 × St)) (v1 : Int32) (v2 : Int32) (v3 : Int32) (st : St) : Option (Int32 × St) := if (6 : Int32) ≤ v3 then (fX12_next_b94 k40 v1 v2 st) else (bd (fX12_isFitting v2 st) (fun r4 st5 => if r4 = 0 then (fX12_next_b94 k40 v1 v2 st5) else (bd (fX12_seenFrom v3 v2 st5) (fun r6 st7 => gi (((11 : Int32) * v3) + r6) 66 (gi (((11 : Int32) * v3) + r6) 66 (lt (sA st7 43 (upd (st7.2.2.1 43) (((11 : Int32) * v3) + r6).toNatClampNeg ((st7.2.2.1 43 (((11 : Int32) * v3) + r6).toNatClampNeg) + (1 : Int32)))) (fun st8 => lt (v3 + (1 : Int32)) (fun x9 => k54 v1 v2 x9 st8))))))))
def fX12_next_b40 (k40 : Int32 → Int32 → St → Option (Int32 × St)) (v1 : Int32) (v2 : Int32) (st : St) : Option (Int32 × St) := if ((1 : Int32) <<< ((st.2.2.1 3 (2 : Int32).toNatClampNeg) &&& 31)) ≤ v2 then (lp (fun _ _ _ _ _ => none) (fX12_next_b109) 6000 v1 (100000000 : Int32) (-1 : Int32) (0 : Int32) st) else (lp (fun _ _ _ _ => none) (fX12_next_b54 k40) 6000 v1 v2 (0 : Int32) st)
def fX12_next_b19 (k19 : Int32 → Int32 → St → Option (Int32 × St)) (v1 : Int32) (v2 : Int32) (st : St) : Option (Int32 × St) := if (66 : Int32) ≤ v2 then (lp (fun _ _ _ => none) (fX12_next_b40) 6000 v1 (0 : Int32) st) else (gi v2 66 (lt (sA st 43 (upd (st.2.2.1 43) v2.toNatClampNeg (0 : Int32))) (fun st10 => lt (v2 + (1 : Int32)) (fun x11 => k19 v1 x11 st10))))
def fX12_next (a0 : Int32) (st : St) : Option (Int32 × St) := lt (sI st 0 (0 : Int32)) (fun st12 => bs (fX12_in (a0.toInt64) (0 : Int64) (1 : Int64)) (fun r13 => if r13 = 0 then (some ((-1 : Int32), st12)) else (lp (fun _ _ _ => none) (fX12_next_b19) 6000 a0 (0 : Int32) st12)))
set_option maxHeartbeats 4000000 in
set_option maxRecDepth 100000 in
theorem tX12_next (l : Launch) (D : va_G) (cy : Nat → ClassId) (ad : Nat → Nat) (hJ : (mads ad).Nodup) (sz : Nat) (a0 : Int32) (st : St) (rr : Int32) (st' : St) (hf : fX12_next a0 st = some (rr, st')) : Met l yX12_next (Cond.code yX12_next cX12_next 7 (some .int) :: TT) (rmD 3) (mPc D cy ad [.int a0] st sz) (mQi D cy ad rr st' sz) 0 0 (mA ad sz) := by
  refine m_meti (by decide) hJ (Nat.le_of_ble_eq_true rfl) (fun p e s m args below meth c ls E hx hb hr hlocks hown hT hD hl hP hS => ?_)
  replace hl : lv_has ls 7 [(0, .ref (ad 100)), (1, .int a0)] := hl
  unfold fX12_next at hf
  have B229 : ∀ (w0 : Int32) (st : St) (H : Heap) (locs : List Loc) (ls : Array Slot), fX12_next_b229 w0 st = some (rr, st') → lv_has ls 7 [] → va_P D classes (mw cy ad st) H → va_S (mA ad s.heap.size) s.heap H locs → mGi l 3 D cy ad rr st' p e s m args below meth c H locs (F0 m 229 ls [.int w0]) := by
    intro w0 st H locs ls hf hl hP hS
    unfold fX12_next_b229 at hf
    exact m_iret hx hb hr hlocks hf hP hS dX12_next_229
  have B224 : ∀ (v3 : Int32) (st : St) (H : Heap) (locs : List Loc) (ls : Array Slot), fX12_next_b224 v3 st = some (rr, st') → lv_has ls 7 [(3, .int v3)] → va_P D classes (mw cy ad st) H → va_S (mA ad s.heap.size) s.heap H locs → mGi l 3 D cy ad rr st' p e s m args below meth c H locs (F0 m 224 ls []) := by
    intro v3 st H locs ls hf hl hP hS
    unfold fX12_next_b224 at hf
    refine lv_iload_n hx hb dX12_next_224 rfl (lv_at hl 0 rfl) ?_
    refine lv_goto (tgt := 229) hx hb dX12_next_225 (by decide) ?_
    exact B229 v3 st _ _ ls hf (lv_sub hl [] rfl) hP hS
  have L109 : ∀ (n : Nat) (v1 : Int32) (v2 : Int32) (v3 : Int32) (v4 : Int32) (st : St) (H : Heap) (locs : List Loc) (ls : Array Slot), lp (fun _ _ _ _ _ => none) (fX12_next_b109) n v1 v2 v3 v4 st = some (rr, st') → lv_has ls 7 [(0, .ref (ad 100)), (1, .int v1), (2, .int v2), (3, .int v3), (4, .int v4)] → va_P D classes (mw cy ad st) H → va_S (mA ad s.heap.size) s.heap H locs → mGi l 3 D cy ad rr st' p e s m args below meth c H locs (F0 m 109 ls []) := by
    intro n
    induction n with
    | zero => intro v1 v2 v3 v4 st H locs ls hf; exact absurd hf (fun h => by cases h)
    | succ n K109 =>
      intro v1 v2 v3 v4 st H locs ls hf hl hP hS
      replace hf : fX12_next_b109 (lp (fun _ _ _ _ _ => none) (fX12_next_b109) n) v1 v2 v3 v4 st = some (rr, st') := hf
      generalize lp (fun _ _ _ _ _ => none) (fX12_next_b109) n = k109 at hf K109
      have B208 : ∀ (v1 : Int32) (v3 : Int32) (v4 : Int32) (w0 : Int32) (st : St) (H : Heap) (locs : List Loc) (ls : Array Slot), fX12_next_b208 k109 v1 v3 v4 w0 st = some (rr, st') → lv_has ls 7 [(0, .ref (ad 100)), (1, .int v1), (3, .int v3), (4, .int v4)] → va_P D classes (mw cy ad st) H → va_S (mA ad s.heap.size) s.heap H locs → mGi l 3 D cy ad rr st' p e s m args below meth c H locs (F0 m 208 ls [.int w0]) := by
        intro v1 v3 v4 w0 st H locs ls hf hl hP hS
        unfold fX12_next_b208 at hf
        refine lv_istore_n (lv' := [(2, .int w0), (0, .ref (ad 100)), (1, .int v1), (3, .int v3), (4, .int v4)]) hx hb dX12_next_208 rfl hl (by decide) rfl (fun ls hl => ?_)
        obtain ⟨x1, ex⟩ : ∃ y : Int32, y = v4 + (1 : Int32) := ⟨_, rfl⟩
        replace hf := lt_at ex hf
        refine lv_iinc (v := x1) (lv' := [(4, .int x1), (2, .int w0), (0, .ref (ad 100)), (1, .int v1), (3, .int v3)]) hx hb dX12_next_209 hl (k := 4) rfl (by rw [ex]; rfl) (by decide) rfl (fun ls hl => ?_)
        clear ex
        refine lv_goto (tgt := 109) hx hb dX12_next_212 (by decide) ?_
        exact K109 v1 w0 v3 x1 st _ _ ls hf (lv_sub hl [2, 3, 1, 4, 0] rfl) hP hS
      have B207 : ∀ (v1 : Int32) (v2 : Int32) (v3 : Int32) (v4 : Int32) (st : St) (H : Heap) (locs : List Loc) (ls : Array Slot), fX12_next_b207 k109 v1 v2 v3 v4 st = some (rr, st') → lv_has ls 7 [(0, .ref (ad 100)), (1, .int v1), (2, .int v2), (3, .int v3), (4, .int v4)] → va_P D classes (mw cy ad st) H → va_S (mA ad s.heap.size) s.heap H locs → mGi l 3 D cy ad rr st' p e s m args below meth c H locs (F0 m 207 ls []) := by
        intro v1 v2 v3 v4 st H locs ls hf hl hP hS
        unfold fX12_next_b207 at hf
        refine lv_iload_n hx hb dX12_next_207 rfl (lv_at hl 2 rfl) ?_
        exact B208 v1 v3 v4 v2 st _ _ ls hf (lv_sub hl [0, 1, 3, 4] rfl) hP hS
      have B190 : ∀ (v1 : Int32) (v2 : Int32) (v4 : Int32) (v5 : Int32) (w0 : Int32) (st : St) (H : Heap) (locs : List Loc) (ls : Array Slot), fX12_next_b190 k109 v1 v2 v4 v5 w0 st = some (rr, st') → lv_has ls 7 [(0, .ref (ad 100)), (1, .int v1), (2, .int v2), (4, .int v4), (5, .int v5)] → va_P D classes (mw cy ad st) H → va_S (mA ad s.heap.size) s.heap H locs → mGi l 3 D cy ad rr st' p e s m args below meth c H locs (F0 m 190 ls [.int w0]) := by
        intro v1 v2 v4 v5 w0 st H locs ls hf hl hP hS
        unfold fX12_next_b190 at hf
        refine lv_istore_n (lv' := [(3, .int w0), (0, .ref (ad 100)), (1, .int v1), (2, .int v2), (4, .int v4), (5, .int v5)]) hx hb dX12_next_190 rfl hl (by decide) rfl (fun ls hl => ?_)
        refine lv_iload hx hb dX12_next_191 (lv_at hl 5 rfl) ?_
        refine lv_if_le (tgt := 207) hx hb dX12_next_193 (by decide) (fun hc => ?_) (fun hc => ?_)
        · replace hf := it_pos hc hf
          exact B207 v1 v2 w0 v4 st _ _ ls hf (lv_sub hl [1, 2, 3, 0, 4] rfl) hP hS
        · replace hf := it_neg hc hf
          refine lv_iload hx hb dX12_next_196 (lv_at hl 5 rfl) ?_
          refine lv_iload_n hx hb dX12_next_198 rfl (lv_at hl 3 rfl) ?_
          refine lv_icmp_ge (tgt := 207) hx hb dX12_next_199 (by decide) (fun hc => ?_) (fun hc => ?_)
          · replace hf := it_pos hc hf
            exact B207 v1 v2 w0 v4 st _ _ ls hf (lv_sub hl [1, 2, 3, 0, 4] rfl) hP hS
          · replace hf := it_neg hc hf
            refine lv_iload hx hb dX12_next_202 (lv_at hl 5 rfl) ?_
            refine lv_goto (tgt := 208) hx hb dX12_next_204 (by decide) ?_
            exact B208 v1 w0 v4 v5 st _ _ ls hf (lv_sub hl [1, 2, 0, 4] rfl) hP hS
      have B189 : ∀ (v1 : Int32) (v2 : Int32) (v3 : Int32) (v4 : Int32) (v5 : Int32) (st : St) (H : Heap) (locs : List Loc) (ls : Array Slot), fX12_next_b189 k109 v1 v2 v3 v4 v5 st = some (rr, st') → lv_has ls 7 [(0, .ref (ad 100)), (1, .int v1), (2, .int v2), (3, .int v3), (4, .int v4), (5, .int v5)] → va_P D classes (mw cy ad st) H → va_S (mA ad s.heap.size) s.heap H locs → mGi l 3 D cy ad rr st' p e s m args below meth c H locs (F0 m 189 ls []) := by
        intro v1 v2 v3 v4 v5 st H locs ls hf hl hP hS
        unfold fX12_next_b189 at hf
        refine lv_iload_n hx hb dX12_next_189 rfl (lv_at hl 3 rfl) ?_
        exact B190 v1 v2 v4 v5 v3 st _ _ ls hf (lv_sub hl [0, 1, 2, 4, 5] rfl) hP hS
      have L122 : ∀ (n : Nat) (v1 : Int32) (v2 : Int32) (v3 : Int32) (v4 : Int32) (v5 : Int32) (v6 : Int32) (st : St) (H : Heap) (locs : List Loc) (ls : Array Slot), lp (fun _ _ _ _ _ _ _ => none) (fX12_next_b122 k109) n v1 v2 v3 v4 v5 v6 st = some (rr, st') → lv_has ls 7 [(0, .ref (ad 100)), (1, .int v1), (2, .int v2), (3, .int v3), (4, .int v4), (5, .int v5), (6, .int v6)] → va_P D classes (mw cy ad st) H → va_S (mA ad s.heap.size) s.heap H locs → mGi l 3 D cy ad rr st' p e s m args below meth c H locs (F0 m 122 ls []) := by
        intro n
        induction n with
        | zero => intro v1 v2 v3 v4 v5 v6 st H locs ls hf; exact absurd hf (fun h => by cases h)
        | succ n K122 =>
          intro v1 v2 v3 v4 v5 v6 st H locs ls hf hl hP hS
          replace hf : fX12_next_b122 k109 (lp (fun _ _ _ _ _ _ _ => none) (fX12_next_b122 k109) n) v1 v2 v3 v4 v5 v6 st = some (rr, st') := hf
          generalize lp (fun _ _ _ _ _ _ _ => none) (fX12_next_b122 k109) n = k122 at hf K122
          have B165 : ∀ (v1 : Int32) (v2 : Int32) (v3 : Int32) (v4 : Int32) (v6 : Int32) (w0 : Int32) (st : St) (H : Heap) (locs : List Loc) (ls : Array Slot), fX12_next_b165 k109 k122 v1 v2 v3 v4 v6 w0 st = some (rr, st') → lv_has ls 7 [(0, .ref (ad 100)), (1, .int v1), (2, .int v2), (3, .int v3), (4, .int v4), (6, .int v6)] → va_P D classes (mw cy ad st) H → va_S (mA ad s.heap.size) s.heap H locs → mGi l 3 D cy ad rr st' p e s m args below meth c H locs (F0 m 165 ls [.int w0]) := by
            intro v1 v2 v3 v4 v6 w0 st H locs ls hf hl hP hS
            unfold fX12_next_b165 at hf
            refine lv_istore (lv' := [(5, .int w0), (0, .ref (ad 100)), (1, .int v1), (2, .int v2), (3, .int v3), (4, .int v4), (6, .int v6)]) hx hb dX12_next_165 hl (by decide) rfl (fun ls hl => ?_)
            obtain ⟨x2, ex⟩ : ∃ y : Int32, y = v6 + (1 : Int32) := ⟨_, rfl⟩
            replace hf := lt_at ex hf
            refine lv_iinc (v := x2) (lv' := [(6, .int x2), (5, .int w0), (0, .ref (ad 100)), (1, .int v1), (2, .int v2), (3, .int v3), (4, .int v4)]) hx hb dX12_next_167 hl (k := 6) rfl (by rw [ex]; rfl) (by decide) rfl (fun ls hl => ?_)
            clear ex
            refine lv_goto (tgt := 122) hx hb dX12_next_170 (by decide) ?_
            exact K122 v1 v2 v3 v4 w0 x2 st _ _ ls hf (lv_sub hl [2, 3, 4, 5, 6, 1, 0] rfl) hP hS
          unfold fX12_next_b122 at hf
          refine lv_iload hx hb dX12_next_122 (lv_at hl 6 rfl) ?_
          refine lv_bipush (v := 11) hx hb dX12_next_124 (by decide) ?_
          refine lv_icmp_ge (tgt := 173) hx hb dX12_next_126 (by decide) (fun hc => ?_) (fun hc => ?_)
          · replace hf := it_pos hc hf
            refine lv_iload hx hb dX12_next_173 (lv_at hl 5 rfl) ?_
            refine lv_if_le (tgt := 189) hx hb dX12_next_175 (by decide) (fun hc => ?_) (fun hc => ?_)
            · replace hf := it_pos hc hf
              exact B189 v1 v2 v3 v4 v5 st _ _ ls hf (lv_sub hl [0, 1, 2, 3, 4, 5] rfl) hP hS
            · replace hf := it_neg hc hf
              refine lv_iload hx hb dX12_next_178 (lv_at hl 5 rfl) ?_
              refine lv_iload_n hx hb dX12_next_180 rfl (lv_at hl 2 rfl) ?_
              refine lv_icmp_ge (tgt := 189) hx hb dX12_next_181 (by decide) (fun hc => ?_) (fun hc => ?_)
              · replace hf := it_pos hc hf
                exact B189 v1 v2 v3 v4 v5 st _ _ ls hf (lv_sub hl [0, 1, 2, 3, 4, 5] rfl) hP hS
              · replace hf := it_neg hc hf
                refine lv_iload hx hb dX12_next_184 (lv_at hl 4 rfl) ?_
                refine lv_goto (tgt := 190) hx hb dX12_next_186 (by decide) ?_
                exact B190 v1 v2 v4 v5 v4 st _ _ ls hf (lv_sub hl [0, 1, 2, 4, 5] rfl) hP hS
          · replace hf := it_neg hc hf
            refine lv_aload_n hx hb dX12_next_129 rfl (lv_at hl 0 rfl) ?_
            refine mg_43 E hP dX12_next_130 ?_
            refine lv_bipush (v := 11) hx hb dX12_next_133 (by decide) ?_
            refine lv_iload hx hb dX12_next_135 (lv_at hl 4 rfl) ?_
            refine lv_imul hx hb dX12_next_137 ?_
            refine lv_iload hx hb dX12_next_138 (lv_at hl 6 rfl) ?_
            refine lv_iadd hx hb dX12_next_140 ?_
            obtain ⟨hi, hf⟩ := gi_some hf
            refine ml_43 E hP hi dX12_next_141 ?_
            refine lv_iload hx hb dX12_next_142 (lv_at hl 5 rfl) ?_
            refine lv_icmp_le (tgt := 163) hx hb dX12_next_144 (by decide) (fun hc => ?_) (fun hc => ?_)
            · replace hf := it_pos hc hf
              refine lv_iload hx hb dX12_next_163 (lv_at hl 5 rfl) ?_
              exact B165 v1 v2 v3 v4 v6 v5 st _ _ ls hf (lv_sub hl [0, 1, 2, 3, 4, 6] rfl) hP hS
            · replace hf := it_neg hc hf
              refine lv_aload_n hx hb dX12_next_147 rfl (lv_at hl 0 rfl) ?_
              refine mg_43 E hP dX12_next_148 ?_
              refine lv_bipush (v := 11) hx hb dX12_next_151 (by decide) ?_
              refine lv_iload hx hb dX12_next_153 (lv_at hl 4 rfl) ?_
              refine lv_imul hx hb dX12_next_155 ?_
              refine lv_iload hx hb dX12_next_156 (lv_at hl 6 rfl) ?_
              refine lv_iadd hx hb dX12_next_158 ?_
              obtain ⟨hi, hf⟩ := gi_some hf
              refine ml_43 E hP hi dX12_next_159 ?_
              refine lv_goto (tgt := 165) hx hb dX12_next_160 (by decide) ?_
              exact B165 v1 v2 v3 v4 v6 (st.2.2.1 43 (((11 : Int32) * v4) + v6).toNatClampNeg) st _ _ ls hf (lv_sub hl [0, 1, 2, 3, 4, 6] rfl) hP hS
      unfold fX12_next_b109 at hf
      refine lv_iload hx hb dX12_next_109 (lv_at hl 4 rfl) ?_
      refine lv_bipush (v := 6) hx hb dX12_next_111 (by decide) ?_
      refine lv_icmp_ge (tgt := 215) hx hb dX12_next_113 (by decide) (fun hc => ?_) (fun hc => ?_)
      · replace hf := it_pos hc hf
        refine lv_iload_n hx hb dX12_next_215 rfl (lv_at hl 3 rfl) ?_
        refine lv_iconst (v := -1) hx hb dX12_next_216 (by decide) ?_
        refine lv_icmp_eq (tgt := 224) hx hb dX12_next_217 (by decide) (fun hc => ?_) (fun hc => ?_)
        · replace hf := it_pos hc hf
          exact B224 v3 st _ _ ls hf (lv_sub hl [3] rfl) hP hS
        · replace hf := it_neg hc hf
          refine lv_iload_n hx hb dX12_next_220 rfl (lv_at hl 1 rfl) ?_
          refine lv_if_ne (tgt := 228) hx hb dX12_next_221 (by decide) (fun hc => ?_) (fun hc => ?_)
          · replace hf := it_neg hc hf
            refine lv_iload_n hx hb dX12_next_228 rfl (lv_at hl 2 rfl) ?_
            exact B229 v2 st _ _ ls hf (lv_sub hl [] rfl) hP hS
          · replace hf := it_pos hc hf
            exact B224 v3 st _ _ ls hf (lv_sub hl [3] rfl) hP hS
      · replace hf := it_neg hc hf
        refine lv_iconst (v := 0) hx hb dX12_next_116 (by decide) ?_
        refine lv_istore (lv' := [(5, .int (0 : Int32)), (0, .ref (ad 100)), (1, .int v1), (2, .int v2), (3, .int v3), (4, .int v4)]) hx hb dX12_next_117 hl (by decide) rfl (fun ls hl => ?_)
        refine lv_iconst (v := 0) hx hb dX12_next_119 (by decide) ?_
        refine lv_istore (lv' := [(6, .int (0 : Int32)), (5, .int (0 : Int32)), (0, .ref (ad 100)), (1, .int v1), (2, .int v2), (3, .int v3), (4, .int v4)]) hx hb dX12_next_120 hl (by decide) rfl (fun ls hl => ?_)
        exact L122 6000 v1 v2 v3 v4 (0 : Int32) (0 : Int32) st _ _ ls hf (lv_sub hl [2, 3, 4, 5, 6, 1, 0] rfl) hP hS
  have L40 : ∀ (n : Nat) (v1 : Int32) (v2 : Int32) (st : St) (H : Heap) (locs : List Loc) (ls : Array Slot), lp (fun _ _ _ => none) (fX12_next_b40) n v1 v2 st = some (rr, st') → lv_has ls 7 [(0, .ref (ad 100)), (1, .int v1), (2, .int v2)] → va_P D classes (mw cy ad st) H → va_S (mA ad s.heap.size) s.heap H locs → mGi l 3 D cy ad rr st' p e s m args below meth c H locs (F0 m 40 ls []) := by
    intro n
    induction n with
    | zero => intro v1 v2 st H locs ls hf; exact absurd hf (fun h => by cases h)
    | succ n K40 =>
      intro v1 v2 st H locs ls hf hl hP hS
      replace hf : fX12_next_b40 (lp (fun _ _ _ => none) (fX12_next_b40) n) v1 v2 st = some (rr, st') := hf
      generalize lp (fun _ _ _ => none) (fX12_next_b40) n = k40 at hf K40
      have B94 : ∀ (v1 : Int32) (v2 : Int32) (st : St) (H : Heap) (locs : List Loc) (ls : Array Slot), fX12_next_b94 k40 v1 v2 st = some (rr, st') → lv_has ls 7 [(0, .ref (ad 100)), (1, .int v1), (2, .int v2)] → va_P D classes (mw cy ad st) H → va_S (mA ad s.heap.size) s.heap H locs → mGi l 3 D cy ad rr st' p e s m args below meth c H locs (F0 m 94 ls []) := by
        intro v1 v2 st H locs ls hf hl hP hS
        unfold fX12_next_b94 at hf
        obtain ⟨x3, ex⟩ : ∃ y : Int32, y = v2 + (1 : Int32) := ⟨_, rfl⟩
        replace hf := lt_at ex hf
        refine lv_iinc (v := x3) (lv' := [(2, .int x3), (0, .ref (ad 100)), (1, .int v1)]) hx hb dX12_next_94 hl (k := 2) rfl (by rw [ex]; rfl) (by decide) rfl (fun ls hl => ?_)
        clear ex
        refine lv_goto (tgt := 40) hx hb dX12_next_97 (by decide) ?_
        exact K40 v1 x3 st _ _ ls hf (lv_sub hl [1, 2, 0] rfl) hP hS
      have L54 : ∀ (n : Nat) (v1 : Int32) (v2 : Int32) (v3 : Int32) (st : St) (H : Heap) (locs : List Loc) (ls : Array Slot), lp (fun _ _ _ _ => none) (fX12_next_b54 k40) n v1 v2 v3 st = some (rr, st') → lv_has ls 7 [(0, .ref (ad 100)), (1, .int v1), (2, .int v2), (3, .int v3)] → va_P D classes (mw cy ad st) H → va_S (mA ad s.heap.size) s.heap H locs → mGi l 3 D cy ad rr st' p e s m args below meth c H locs (F0 m 54 ls []) := by
        intro n
        induction n with
        | zero => intro v1 v2 v3 st H locs ls hf; exact absurd hf (fun h => by cases h)
        | succ n K54 =>
          intro v1 v2 v3 st H locs ls hf hl hP hS
          replace hf : fX12_next_b54 k40 (lp (fun _ _ _ _ => none) (fX12_next_b54 k40) n) v1 v2 v3 st = some (rr, st') := hf
          generalize lp (fun _ _ _ _ => none) (fX12_next_b54 k40) n = k54 at hf K54
          unfold fX12_next_b54 at hf
          refine lv_iload_n hx hb dX12_next_54 rfl (lv_at hl 3 rfl) ?_
          refine lv_bipush (v := 6) hx hb dX12_next_55 (by decide) ?_
          refine lv_icmp_ge (tgt := 94) hx hb dX12_next_57 (by decide) (fun hc => ?_) (fun hc => ?_)
          · replace hf := it_pos hc hf
            exact B94 v1 v2 st _ _ ls hf (lv_sub hl [0, 1, 2] rfl) hP hS
          · replace hf := it_neg hc hf
            refine lv_aload_n hx hb dX12_next_60 rfl (lv_at hl 0 rfl) ?_
            refine lv_iload_n hx hb dX12_next_61 rfl (lv_at hl 2 rfl) ?_
            obtain ⟨r4, st5, hc, hf⟩ := bd_some hf
            refine m_calli (n := 1) (rest := []) E hP hS (fun sz => tX12_isFitting l D cy ad hJ sz v2 st r4 st5 hc) (gV k_1748 k_1750 ks_91 k_14 k_1751) qX12_isFitting ⟨Nat.le_of_ble_eq_true rfl, Nat.le_of_ble_eq_true rfl⟩ ⟨Nat.le_refl _, Nat.le_refl _⟩ rfl hl.1 rfl (Nat.le_of_ble_eq_true rfl) dX12_next_62 (fun H locs hP hS => ?_)
            refine lv_if_eq (tgt := 94) hx hb dX12_next_65 (by decide) (fun hc => ?_) (fun hc => ?_)
            · replace hf := it_pos hc hf
              exact B94 v1 v2 st5 _ _ ls hf (lv_sub hl [0, 1, 2] rfl) hP hS
            · replace hf := it_neg hc hf
              refine lv_aload_n hx hb dX12_next_68 rfl (lv_at hl 0 rfl) ?_
              refine mg_43 E hP dX12_next_69 ?_
              refine lv_bipush (v := 11) hx hb dX12_next_72 (by decide) ?_
              refine lv_iload_n hx hb dX12_next_74 rfl (lv_at hl 3 rfl) ?_
              refine lv_imul hx hb dX12_next_75 ?_
              refine lv_aload_n hx hb dX12_next_76 rfl (lv_at hl 0 rfl) ?_
              refine lv_iload_n hx hb dX12_next_77 rfl (lv_at hl 3 rfl) ?_
              refine lv_iload_n hx hb dX12_next_78 rfl (lv_at hl 2 rfl) ?_
              obtain ⟨r6, st7, hc, hf⟩ := bd_some hf
              refine m_calli (n := 2) (rest := [.int ((11 : Int32) * v3), .ref (ad 43)]) E hP hS (fun sz => tX12_seenFrom l D cy ad hJ sz v3 v2 st5 r6 st7 hc) (gV k_1732 k_1734 ks_90 k_14 k_1735) qX12_seenFrom ⟨Nat.le_of_ble_eq_true rfl, Nat.le_of_ble_eq_true rfl⟩ ⟨Nat.le_refl _, Nat.le_refl _⟩ rfl hl.1 rfl (Nat.le_of_ble_eq_true rfl) dX12_next_79 (fun H locs hP hS => ?_)
              refine lv_iadd hx hb dX12_next_82 ?_
              refine lv_dup2_11 hx hb dX12_next_83 rfl rfl ?_
              obtain ⟨hi, hf⟩ := gi_some hf
              refine ml_43 E hP hi dX12_next_84 ?_
              refine lv_iconst (v := 1) hx hb dX12_next_85 (by decide) ?_
              refine lv_iadd hx hb dX12_next_86 ?_
              obtain ⟨hi, hf⟩ := gi_some hf
              refine ms_43 E hD hP hS hi dX12_next_87 (fun st8 H locs ex hP hS => ?_)
              replace hf := lt_at ex hf; clear ex
              obtain ⟨x9, ex⟩ : ∃ y : Int32, y = v3 + (1 : Int32) := ⟨_, rfl⟩
              replace hf := lt_at ex hf
              refine lv_iinc (v := x9) (lv' := [(3, .int x9), (0, .ref (ad 100)), (1, .int v1), (2, .int v2)]) hx hb dX12_next_88 hl (k := 3) rfl (by rw [ex]; rfl) (by decide) rfl (fun ls hl => ?_)
              clear ex
              refine lv_goto (tgt := 54) hx hb dX12_next_91 (by decide) ?_
              exact K54 v1 v2 x9 st8 _ _ ls hf (lv_sub hl [1, 2, 3, 0] rfl) hP hS
      unfold fX12_next_b40 at hf
      refine lv_iload_n hx hb dX12_next_40 rfl (lv_at hl 2 rfl) ?_
      refine lv_iconst (v := 1) hx hb dX12_next_41 (by decide) ?_
      refine lv_aload_n hx hb dX12_next_42 rfl (lv_at hl 0 rfl) ?_
      refine mg_3 E hP dX12_next_43 ?_
      refine lv_iconst (v := 2) hx hb dX12_next_46 (by decide) ?_
      refine ml_3 E hP (vi rfl) dX12_next_47 ?_
      refine lv_ishl hx hb dX12_next_48 ?_
      refine lv_icmp_ge (tgt := 100) hx hb dX12_next_49 (by decide) (fun hc => ?_) (fun hc => ?_)
      · replace hf := it_pos hc hf
        refine lv_ldcw (v := 100000000) hx hb hown (hT _ k_1666) dX12_next_100 ?_
        refine lv_istore_n (lv' := [(2, .int (100000000 : Int32)), (0, .ref (ad 100)), (1, .int v1)]) hx hb dX12_next_103 rfl hl (by decide) rfl (fun ls hl => ?_)
        refine lv_iconst (v := -1) hx hb dX12_next_104 (by decide) ?_
        refine lv_istore_n (lv' := [(3, .int (-1 : Int32)), (2, .int (100000000 : Int32)), (0, .ref (ad 100)), (1, .int v1)]) hx hb dX12_next_105 rfl hl (by decide) rfl (fun ls hl => ?_)
        refine lv_iconst (v := 0) hx hb dX12_next_106 (by decide) ?_
        refine lv_istore (lv' := [(4, .int (0 : Int32)), (3, .int (-1 : Int32)), (2, .int (100000000 : Int32)), (0, .ref (ad 100)), (1, .int v1)]) hx hb dX12_next_107 hl (by decide) rfl (fun ls hl => ?_)
        exact L109 6000 v1 (100000000 : Int32) (-1 : Int32) (0 : Int32) st _ _ ls hf (lv_sub hl [3, 4, 2, 1, 0] rfl) hP hS
      · replace hf := it_neg hc hf
        refine lv_iconst (v := 0) hx hb dX12_next_52 (by decide) ?_
        refine lv_istore_n (lv' := [(3, .int (0 : Int32)), (0, .ref (ad 100)), (1, .int v1), (2, .int v2)]) hx hb dX12_next_53 rfl hl (by decide) rfl (fun ls hl => ?_)
        exact L54 6000 v1 v2 (0 : Int32) st _ _ ls hf (lv_sub hl [1, 2, 3, 0] rfl) hP hS
  have L19 : ∀ (n : Nat) (v1 : Int32) (v2 : Int32) (st : St) (H : Heap) (locs : List Loc) (ls : Array Slot), lp (fun _ _ _ => none) (fX12_next_b19) n v1 v2 st = some (rr, st') → lv_has ls 7 [(0, .ref (ad 100)), (1, .int v1), (2, .int v2)] → va_P D classes (mw cy ad st) H → va_S (mA ad s.heap.size) s.heap H locs → mGi l 3 D cy ad rr st' p e s m args below meth c H locs (F0 m 19 ls []) := by
    intro n
    induction n with
    | zero => intro v1 v2 st H locs ls hf; exact absurd hf (fun h => by cases h)
    | succ n K19 =>
      intro v1 v2 st H locs ls hf hl hP hS
      replace hf : fX12_next_b19 (lp (fun _ _ _ => none) (fX12_next_b19) n) v1 v2 st = some (rr, st') := hf
      generalize lp (fun _ _ _ => none) (fX12_next_b19) n = k19 at hf K19
      unfold fX12_next_b19 at hf
      refine lv_iload_n hx hb dX12_next_19 rfl (lv_at hl 2 rfl) ?_
      refine lv_bipush (v := 66) hx hb dX12_next_20 (by decide) ?_
      refine lv_icmp_ge (tgt := 38) hx hb dX12_next_22 (by decide) (fun hc => ?_) (fun hc => ?_)
      · replace hf := it_pos hc hf
        refine lv_iconst (v := 0) hx hb dX12_next_38 (by decide) ?_
        refine lv_istore_n (lv' := [(2, .int (0 : Int32)), (0, .ref (ad 100)), (1, .int v1)]) hx hb dX12_next_39 rfl hl (by decide) rfl (fun ls hl => ?_)
        exact L40 6000 v1 (0 : Int32) st _ _ ls hf (lv_sub hl [1, 2, 0] rfl) hP hS
      · replace hf := it_neg hc hf
        refine lv_aload_n hx hb dX12_next_25 rfl (lv_at hl 0 rfl) ?_
        refine mg_43 E hP dX12_next_26 ?_
        refine lv_iload_n hx hb dX12_next_29 rfl (lv_at hl 2 rfl) ?_
        refine lv_iconst (v := 0) hx hb dX12_next_30 (by decide) ?_
        obtain ⟨hi, hf⟩ := gi_some hf
        refine ms_43 E hD hP hS hi dX12_next_31 (fun st10 H locs ex hP hS => ?_)
        replace hf := lt_at ex hf; clear ex
        obtain ⟨x11, ex⟩ : ∃ y : Int32, y = v2 + (1 : Int32) := ⟨_, rfl⟩
        replace hf := lt_at ex hf
        refine lv_iinc (v := x11) (lv' := [(2, .int x11), (0, .ref (ad 100)), (1, .int v1)]) hx hb dX12_next_32 hl (k := 2) rfl (by rw [ex]; rfl) (by decide) rfl (fun ls hl => ?_)
        clear ex
        refine lv_goto (tgt := 19) hx hb dX12_next_35 (by decide) ?_
        exact K19 v1 x11 st10 _ _ ls hf (lv_sub hl [1, 2, 0] rfl) hP hS
  refine lv_aload_n hx hb dX12_next_0 rfl (lv_at hl 0 rfl) ?_
  refine lv_iconst (v := 0) hx hb dX12_next_1 (by decide) ?_
  refine mp_0 E hD hP hS dX12_next_2 (fun st12 H locs ex hP hS => ?_)
  replace hf := lt_at ex hf; clear ex
  refine lv_iload_n hx hb dX12_next_5 rfl (lv_at hl 1 rfl) ?_
  refine lv_i2l (v := a0.toInt64) hx hb dX12_next_6 rfl ?_
  refine lv_lconst (v := 0) hx hb dX12_next_7 (by decide) ?_
  refine lv_lconst (v := 1) hx hb dX12_next_8 (by decide) ?_
  obtain ⟨r13, hc, hf⟩ := bs_some hf
  refine s_calli (n := 3) (rest := []) E.1 (tX12_in l _ (a0.toInt64) (0 : Int64) (1 : Int64) r13 hc) (gS k_1350 k_1351 k_14 k_1352) qX12_in ⟨Nat.le_of_ble_eq_true rfl, Nat.le_of_ble_eq_true rfl⟩ ⟨Nat.le_refl _, Nat.le_refl _⟩ rfl hl.1 rfl (Nat.le_of_ble_eq_true rfl) dX12_next_9 ?_
  refine lv_if_ne (tgt := 17) hx hb dX12_next_12 (by decide) (fun hc => ?_) (fun hc => ?_)
  · replace hf := it_neg hc hf
    refine lv_iconst (v := 0) hx hb dX12_next_17 (by decide) ?_
    refine lv_istore_n (lv' := [(2, .int (0 : Int32)), (0, .ref (ad 100)), (1, .int a0)]) hx hb dX12_next_18 rfl hl (by decide) rfl (fun ls hl => ?_)
    exact L19 6000 a0 (0 : Int32) st12 _ _ ls hf (lv_sub hl [1, 2, 0] rfl) hP hS
  · replace hf := it_pos hc hf
    refine lv_iconst (v := -1) hx hb dX12_next_15 (by decide) ?_
    exact m_iret hx hb hr hlocks hf hP hS dX12_next_16
theorem qX12_next : yX12_next.cls = RX12 ∧ yX12_next.cls ≠ "java/lang/invoke/MethodHandle" ∧ yX12_next.cls ≠ "java/lang/invoke/VarHandle" ∧ (parseMethodDescriptor yX12_next.desc).map (fun d => d.parameters.length) = some 1 := by decide +kernel
def fX12_readSum_b22 (v1 : Int32) (st : St) : Option (Unit × St) := gi (v1 + (1 : Int32)) 96 (lt (sA st 45 (upd (st.2.2.1 45) (v1 + (1 : Int32)).toNatClampNeg (st.1 23))) (fun st1 => some ((), st1)))
def fX12_readSum (a0 : Int32) (st : St) : Option (Unit × St) := gi a0 96 (lt (sA st 45 (upd (st.2.2.1 45) a0.toNatClampNeg (st.1 23))) (fun st2 => if (st2.1 19) = 0 then (bd (fX12_readExpression (0 : Int32) st2) (fun r3 st4 => fX12_readSum_b22 a0 st4)) else (fX12_readSum_b22 a0 st2)))
set_option maxHeartbeats 4000000 in
set_option maxRecDepth 100000 in
theorem tX12_readSum (l : Launch) (D : va_G) (cy : Nat → ClassId) (ad : Nat → Nat) (hJ : (mads ad).Nodup) (sz : Nat) (a0 : Int32) (st : St) (rr : Unit) (st' : St) (hf : fX12_readSum a0 st = some (rr, st')) : Met l yX12_readSum (Cond.code yX12_readSum cX12_readSum 2 none :: TT) (rmD 7) (mPc D cy ad [.int a0] st sz) (mQv D cy ad rr st' sz) 0 0 (mA ad sz) := by
  refine m_metv (by decide) hJ (Nat.le_of_ble_eq_true rfl) (fun p e s m args below meth c ls E hx hb hr hlocks hown hT hD hl hP hS => ?_)
  replace hl : lv_has ls 2 [(0, .ref (ad 100)), (1, .int a0)] := hl
  unfold fX12_readSum at hf
  have B22 : ∀ (v1 : Int32) (st : St) (H : Heap) (locs : List Loc) (ls : Array Slot), fX12_readSum_b22 v1 st = some (rr, st') → lv_has ls 2 [(0, .ref (ad 100)), (1, .int v1)] → va_P D classes (mw cy ad st) H → va_S (mA ad s.heap.size) s.heap H locs → mGv l 7 D cy ad rr st' p e s m args below meth c H locs (F0 m 22 ls []) := by
    intro v1 st H locs ls hf hl hP hS
    unfold fX12_readSum_b22 at hf
    refine lv_aload_n hx hb dX12_readSum_22 rfl (lv_at hl 0 rfl) ?_
    refine mg_45 E hP dX12_readSum_23 ?_
    refine lv_iload_n hx hb dX12_readSum_26 rfl (lv_at hl 1 rfl) ?_
    refine lv_iconst (v := 1) hx hb dX12_readSum_27 (by decide) ?_
    refine lv_iadd hx hb dX12_readSum_28 ?_
    refine lv_aload_n hx hb dX12_readSum_29 rfl (lv_at hl 0 rfl) ?_
    refine mg_23 E hP dX12_readSum_30 ?_
    obtain ⟨hi, hf⟩ := gi_some hf
    refine ms_45 E hD hP hS hi dX12_readSum_33 (fun st1 H locs ex hP hS => ?_)
    replace hf := lt_at ex hf; clear ex
    exact m_vret hx hb hr hlocks hf hP hS dX12_readSum_34
  refine lv_aload_n hx hb dX12_readSum_0 rfl (lv_at hl 0 rfl) ?_
  refine mg_45 E hP dX12_readSum_1 ?_
  refine lv_iload_n hx hb dX12_readSum_4 rfl (lv_at hl 1 rfl) ?_
  refine lv_aload_n hx hb dX12_readSum_5 rfl (lv_at hl 0 rfl) ?_
  refine mg_23 E hP dX12_readSum_6 ?_
  obtain ⟨hi, hf⟩ := gi_some hf
  refine ms_45 E hD hP hS hi dX12_readSum_9 (fun st2 H locs ex hP hS => ?_)
  replace hf := lt_at ex hf; clear ex
  refine lv_aload_n hx hb dX12_readSum_10 rfl (lv_at hl 0 rfl) ?_
  refine mg_19 E hP dX12_readSum_11 ?_
  refine lv_if_ne (tgt := 22) hx hb dX12_readSum_14 (by decide) (fun hc => ?_) (fun hc => ?_)
  · replace hf := it_neg hc hf
    exact B22 a0 st2 _ _ ls hf hl hP hS
  · replace hf := it_pos hc hf
    refine lv_aload_n hx hb dX12_readSum_17 rfl (lv_at hl 0 rfl) ?_
    refine lv_iconst (v := 0) hx hb dX12_readSum_18 (by decide) ?_
    obtain ⟨r3, st4, hc, hf⟩ := bd_some hf
    refine m_callv (n := 1) (rest := []) E hP hS (fun sz => tX12_readExpression l D cy ad hJ sz (0 : Int32) st2 r3 st4 hc) (gV k_1479 k_1481 ks_51 k_14 k_1482) qX12_readExpression ⟨Nat.le_of_ble_eq_true rfl, Nat.le_of_ble_eq_true rfl⟩ ⟨Nat.le_refl _, Nat.le_refl _⟩ rfl hl.1 rfl (Nat.le_of_ble_eq_true rfl) dX12_readSum_19 (fun H locs hP hS => ?_)
    exact B22 a0 st4 _ _ ls hf hl hP hS
theorem qX12_readSum : yX12_readSum.cls = RX12 ∧ yX12_readSum.cls ≠ "java/lang/invoke/MethodHandle" ∧ yX12_readSum.cls ≠ "java/lang/invoke/VarHandle" ∧ (parseMethodDescriptor yX12_readSum.desc).map (fun d => d.parameters.length) = some 1 := by decide +kernel
def fX12_readOrder_b253 (v2 : Int32) (st : St) : Option (Unit × St) := gi (v2 + (6 : Int32)) 96 (lt (sA st 45 (upd (st.2.2.1 45) (v2 + (6 : Int32)).toNatClampNeg (st.1 23))) (fun st1 => some ((), st1)))
def fX12_readOrder_b215 (v2 : Int32) (st : St) : Option (Unit × St) := gi (v2 + (5 : Int32)) 96 (lt (sA st 45 (upd (st.2.2.1 45) (v2 + (5 : Int32)).toNatClampNeg (st.1 23))) (fun st2 => if (st2.1 19) = 0 then (bd (fX12_isWord (294 : Int64) st2) (fun r3 st4 => if r3 = 0 then (fX12_readOrder_b253 v2 st4) else (bd (fX12_nextToken st4) (fun r5 st6 => bd (fX12_readExpression (1 : Int32) st6) (fun r7 st8 => fX12_readOrder_b253 v2 st8))))) else (fX12_readOrder_b253 v2 st2)))
def fX12_readOrder_b160 (v2 : Int32) (st : St) : Option (Unit × St) := bd (fX12_readSum (v2 + (3 : Int32)) st) (fun r9 st10 => gi (v2 + (7 : Int32)) 96 (lt (sA st10 45 (upd (st10.2.2.1 45) (v2 + (7 : Int32)).toNatClampNeg (1 : Int32))) (fun st11 => if (st11.1 19) = 0 then (bd (fX12_isWord (21279923 : Int64) st11) (fun r12 st13 => if r12 = 0 then (fX12_readOrder_b215 v2 st13) else (bd (fX12_nextToken st13) (fun r14 st15 => bd (fX12_number (1 : Int64) (20 : Int64) st15) (fun r16 st17 => gi (v2 + (7 : Int32)) 96 (lt (sA st17 45 (upd (st17.2.2.1 45) (v2 + (7 : Int32)).toNatClampNeg r16)) (fun st18 => fX12_readOrder_b215 v2 st18))))))) else (fX12_readOrder_b215 v2 st11))))
def fX12_readOrder_b154 (v2 : Int32) (w0 : Int64) (st : St) : Option (Unit × St) := bd (fX12_isWord w0 st) (fun r19 st20 => bd (fX12_must r19 st20) (fun r21 st22 => fX12_readOrder_b160 v2 st22))
def fX12_readOrder_b85 (k85 : Int32 → Int32 → Int32 → St → Option (Unit × St)) (v1 : Int32) (v2 : Int32) (v3 : Int32) (st : St) : Option (Unit × St) := if (8 : Int32) ≤ v3 then (gi v2 96 (lt (sA st 45 (upd (st.2.2.1 45) v2.toNatClampNeg v1)) (fun st23 => bd (fX12_readSum (v2 + (1 : Int32)) st23) (fun r24 st25 => if (st25.1 19) = 0 then (if (2 : Int32) ≤ v1 then (if v1 = (2 : Int32) then (fX12_readOrder_b154 v2 (655 : Int64) st25) else (fX12_readOrder_b154 v2 (89 : Int64) st25)) else (fX12_readOrder_b154 v2 (52 : Int64) st25)) else (fX12_readOrder_b160 v2 st25))))) else (gi (v2 + v3) 96 (lt (sA st 45 (upd (st.2.2.1 45) (v2 + v3).toNatClampNeg (0 : Int32))) (fun st26 => lt (v3 + (1 : Int32)) (fun x27 => k85 v1 v2 x27 st26))))
def fX12_readOrder_b54 (v1 : Int32) (w0 : Int32) (st : St) : Option (Unit × St) := bd (fX12_must w0 st) (fun r28 st29 => if (st29.1 19) = 0 then (lt ((8 : Int32) * (st29.1 21)) (fun x30 => lt (sI st29 21 ((st29.1 21) + (1 : Int32))) (fun st31 => lp (fun _ _ _ _ => none) (fX12_readOrder_b85) 6000 v1 x30 (0 : Int32) st31))) else (some ((), st29)))
def fX12_readOrder_b53 (v1 : Int32) (st : St) : Option (Unit × St) := fX12_readOrder_b54 v1 (0 : Int32) st
def fX12_readOrder_b27 (k4 : Int32 → Int32 → St → Option (Unit × St)) (v2 : Int32) (w0 : Int32) (st : St) : Option (Unit × St) := lt (v2 + (1 : Int32)) (fun x32 => k4 w0 x32 st)
def fX12_readOrder_b4 (k4 : Int32 → Int32 → St → Option (Unit × St)) (v1 : Int32) (v2 : Int32) (st : St) : Option (Unit × St) := if (4 : Int32) ≤ v2 then (if v1 = (-1 : Int32) then (fX12_readOrder_b53 v1 st) else (if (12 : Int32) ≤ (st.1 21) then (fX12_readOrder_b53 v1 st) else (fX12_readOrder_b54 v1 (1 : Int32) st))) else (gi v2 4 (bd (fX12_isWord (st.2.2.2.1 44 v2.toNatClampNeg) st) (fun r33 st34 => if r33 = 0 then (fX12_readOrder_b27 k4 v2 v1 st34) else (fX12_readOrder_b27 k4 v2 v2 st34))))
def fX12_readOrder (st : St) : Option (Unit × St) := lp (fun _ _ _ => none) (fX12_readOrder_b4) 6000 (-1 : Int32) (0 : Int32) st
set_option maxHeartbeats 4000000 in
set_option maxRecDepth 100000 in
theorem tX12_readOrder (l : Launch) (D : va_G) (cy : Nat → ClassId) (ad : Nat → Nat) (hJ : (mads ad).Nodup) (sz : Nat) (st : St) (rr : Unit) (st' : St) (hf : fX12_readOrder  st = some (rr, st')) : Met l yX12_readOrder (Cond.code yX12_readOrder cX12_readOrder 4 none :: TT) (rmD 8) (mPc D cy ad [] st sz) (mQv D cy ad rr st' sz) 0 0 (mA ad sz) := by
  refine m_metv (by decide) hJ (Nat.le_of_ble_eq_true rfl) (fun p e s m args below meth c ls E hx hb hr hlocks hown hT hD hl hP hS => ?_)
  replace hl : lv_has ls 4 [(0, .ref (ad 100))] := hl
  unfold fX12_readOrder at hf
  have B253 : ∀ (v2 : Int32) (st : St) (H : Heap) (locs : List Loc) (ls : Array Slot), fX12_readOrder_b253 v2 st = some (rr, st') → lv_has ls 4 [(0, .ref (ad 100)), (2, .int v2)] → va_P D classes (mw cy ad st) H → va_S (mA ad s.heap.size) s.heap H locs → mGv l 8 D cy ad rr st' p e s m args below meth c H locs (F0 m 253 ls []) := by
    intro v2 st H locs ls hf hl hP hS
    unfold fX12_readOrder_b253 at hf
    refine lv_aload_n hx hb dX12_readOrder_253 rfl (lv_at hl 0 rfl) ?_
    refine mg_45 E hP dX12_readOrder_254 ?_
    refine lv_iload_n hx hb dX12_readOrder_257 rfl (lv_at hl 1 rfl) ?_
    refine lv_bipush (v := 6) hx hb dX12_readOrder_258 (by decide) ?_
    refine lv_iadd hx hb dX12_readOrder_260 ?_
    refine lv_aload_n hx hb dX12_readOrder_261 rfl (lv_at hl 0 rfl) ?_
    refine mg_23 E hP dX12_readOrder_262 ?_
    obtain ⟨hi, hf⟩ := gi_some hf
    refine ms_45 E hD hP hS hi dX12_readOrder_265 (fun st1 H locs ex hP hS => ?_)
    replace hf := lt_at ex hf; clear ex
    exact m_vret hx hb hr hlocks hf hP hS dX12_readOrder_266
  have B215 : ∀ (v2 : Int32) (st : St) (H : Heap) (locs : List Loc) (ls : Array Slot), fX12_readOrder_b215 v2 st = some (rr, st') → lv_has ls 4 [(0, .ref (ad 100)), (2, .int v2)] → va_P D classes (mw cy ad st) H → va_S (mA ad s.heap.size) s.heap H locs → mGv l 8 D cy ad rr st' p e s m args below meth c H locs (F0 m 215 ls []) := by
    intro v2 st H locs ls hf hl hP hS
    unfold fX12_readOrder_b215 at hf
    refine lv_aload_n hx hb dX12_readOrder_215 rfl (lv_at hl 0 rfl) ?_
    refine mg_45 E hP dX12_readOrder_216 ?_
    refine lv_iload_n hx hb dX12_readOrder_219 rfl (lv_at hl 1 rfl) ?_
    refine lv_iconst (v := 5) hx hb dX12_readOrder_220 (by decide) ?_
    refine lv_iadd hx hb dX12_readOrder_221 ?_
    refine lv_aload_n hx hb dX12_readOrder_222 rfl (lv_at hl 0 rfl) ?_
    refine mg_23 E hP dX12_readOrder_223 ?_
    obtain ⟨hi, hf⟩ := gi_some hf
    refine ms_45 E hD hP hS hi dX12_readOrder_226 (fun st2 H locs ex hP hS => ?_)
    replace hf := lt_at ex hf; clear ex
    refine lv_aload_n hx hb dX12_readOrder_227 rfl (lv_at hl 0 rfl) ?_
    refine mg_19 E hP dX12_readOrder_228 ?_
    refine lv_if_ne (tgt := 253) hx hb dX12_readOrder_231 (by decide) (fun hc => ?_) (fun hc => ?_)
    · replace hf := it_neg hc hf
      exact B253 v2 st2 _ _ ls hf hl hP hS
    · replace hf := it_pos hc hf
      refine lv_aload_n hx hb dX12_readOrder_234 rfl (lv_at hl 0 rfl) ?_
      refine lv_ldc2 (v := 294) hx hb hown (hT _ k_1553) dX12_readOrder_235 ?_
      obtain ⟨r3, st4, hc, hf⟩ := bd_some hf
      refine m_calli (n := 1) (rest := []) E hP hS (fun sz => tX12_isWord l D cy ad hJ sz (294 : Int64) st2 r3 st4 hc) (gV k_1471 k_1473 ks_49 k_14 k_1474) qX12_isWord ⟨Nat.le_of_ble_eq_true rfl, Nat.le_of_ble_eq_true rfl⟩ ⟨Nat.le_refl _, Nat.le_refl _⟩ rfl hl.1 rfl (Nat.le_of_ble_eq_true rfl) dX12_readOrder_238 (fun H locs hP hS => ?_)
      refine lv_if_eq (tgt := 253) hx hb dX12_readOrder_241 (by decide) (fun hc => ?_) (fun hc => ?_)
      · replace hf := it_pos hc hf
        exact B253 v2 st4 _ _ ls hf hl hP hS
      · replace hf := it_neg hc hf
        refine lv_aload_n hx hb dX12_readOrder_244 rfl (lv_at hl 0 rfl) ?_
        obtain ⟨r5, st6, hc, hf⟩ := bd_some hf
        refine m_callv (n := 0) (rest := []) E hP hS (fun sz => tX12_nextToken l D cy ad hJ sz st4 r5 st6 hc) (gV k_1453 k_1455 ks_47 k_14 k_1456) qX12_nextToken ⟨Nat.le_of_ble_eq_true rfl, Nat.le_of_ble_eq_true rfl⟩ ⟨Nat.le_refl _, Nat.le_refl _⟩ rfl hl.1 rfl (Nat.le_of_ble_eq_true rfl) dX12_readOrder_245 (fun H locs hP hS => ?_)
        refine lv_aload_n hx hb dX12_readOrder_248 rfl (lv_at hl 0 rfl) ?_
        refine lv_iconst (v := 1) hx hb dX12_readOrder_249 (by decide) ?_
        obtain ⟨r7, st8, hc, hf⟩ := bd_some hf
        refine m_callv (n := 1) (rest := []) E hP hS (fun sz => tX12_readExpression l D cy ad hJ sz (1 : Int32) st6 r7 st8 hc) (gV k_1479 k_1481 ks_51 k_14 k_1482) qX12_readExpression ⟨Nat.le_of_ble_eq_true rfl, Nat.le_of_ble_eq_true rfl⟩ ⟨Nat.le_refl _, Nat.le_refl _⟩ rfl hl.1 rfl (Nat.le_of_ble_eq_true rfl) dX12_readOrder_250 (fun H locs hP hS => ?_)
        exact B253 v2 st8 _ _ ls hf hl hP hS
  have B160 : ∀ (v2 : Int32) (st : St) (H : Heap) (locs : List Loc) (ls : Array Slot), fX12_readOrder_b160 v2 st = some (rr, st') → lv_has ls 4 [(0, .ref (ad 100)), (2, .int v2)] → va_P D classes (mw cy ad st) H → va_S (mA ad s.heap.size) s.heap H locs → mGv l 8 D cy ad rr st' p e s m args below meth c H locs (F0 m 160 ls []) := by
    intro v2 st H locs ls hf hl hP hS
    unfold fX12_readOrder_b160 at hf
    refine lv_aload_n hx hb dX12_readOrder_160 rfl (lv_at hl 0 rfl) ?_
    refine lv_iload_n hx hb dX12_readOrder_161 rfl (lv_at hl 1 rfl) ?_
    refine lv_iconst (v := 3) hx hb dX12_readOrder_162 (by decide) ?_
    refine lv_iadd hx hb dX12_readOrder_163 ?_
    obtain ⟨r9, st10, hc, hf⟩ := bd_some hf
    refine m_callv (n := 1) (rest := []) E hP hS (fun sz => tX12_readSum l D cy ad hJ sz (v2 + (3 : Int32)) st r9 st10 hc) (gV k_1764 k_1766 ks_93 k_14 k_1767) qX12_readSum ⟨Nat.le_of_ble_eq_true rfl, Nat.le_of_ble_eq_true rfl⟩ ⟨Nat.le_refl _, Nat.le_refl _⟩ rfl hl.1 rfl (Nat.le_of_ble_eq_true rfl) dX12_readOrder_164 (fun H locs hP hS => ?_)
    refine lv_aload_n hx hb dX12_readOrder_167 rfl (lv_at hl 0 rfl) ?_
    refine mg_45 E hP dX12_readOrder_168 ?_
    refine lv_iload_n hx hb dX12_readOrder_171 rfl (lv_at hl 1 rfl) ?_
    refine lv_bipush (v := 7) hx hb dX12_readOrder_172 (by decide) ?_
    refine lv_iadd hx hb dX12_readOrder_174 ?_
    refine lv_iconst (v := 1) hx hb dX12_readOrder_175 (by decide) ?_
    obtain ⟨hi, hf⟩ := gi_some hf
    refine ms_45 E hD hP hS hi dX12_readOrder_176 (fun st11 H locs ex hP hS => ?_)
    replace hf := lt_at ex hf; clear ex
    refine lv_aload_n hx hb dX12_readOrder_177 rfl (lv_at hl 0 rfl) ?_
    refine mg_19 E hP dX12_readOrder_178 ?_
    refine lv_if_ne (tgt := 215) hx hb dX12_readOrder_181 (by decide) (fun hc => ?_) (fun hc => ?_)
    · replace hf := it_neg hc hf
      exact B215 v2 st11 _ _ ls hf hl hP hS
    · replace hf := it_pos hc hf
      refine lv_aload_n hx hb dX12_readOrder_184 rfl (lv_at hl 0 rfl) ?_
      refine lv_ldc2 (v := 21279923) hx hb hown (hT _ k_1771) dX12_readOrder_185 ?_
      obtain ⟨r12, st13, hc, hf⟩ := bd_some hf
      refine m_calli (n := 1) (rest := []) E hP hS (fun sz => tX12_isWord l D cy ad hJ sz (21279923 : Int64) st11 r12 st13 hc) (gV k_1471 k_1473 ks_49 k_14 k_1474) qX12_isWord ⟨Nat.le_of_ble_eq_true rfl, Nat.le_of_ble_eq_true rfl⟩ ⟨Nat.le_refl _, Nat.le_refl _⟩ rfl hl.1 rfl (Nat.le_of_ble_eq_true rfl) dX12_readOrder_188 (fun H locs hP hS => ?_)
      refine lv_if_eq (tgt := 215) hx hb dX12_readOrder_191 (by decide) (fun hc => ?_) (fun hc => ?_)
      · replace hf := it_pos hc hf
        exact B215 v2 st13 _ _ ls hf hl hP hS
      · replace hf := it_neg hc hf
        refine lv_aload_n hx hb dX12_readOrder_194 rfl (lv_at hl 0 rfl) ?_
        obtain ⟨r14, st15, hc, hf⟩ := bd_some hf
        refine m_callv (n := 0) (rest := []) E hP hS (fun sz => tX12_nextToken l D cy ad hJ sz st13 r14 st15 hc) (gV k_1453 k_1455 ks_47 k_14 k_1456) qX12_nextToken ⟨Nat.le_of_ble_eq_true rfl, Nat.le_of_ble_eq_true rfl⟩ ⟨Nat.le_refl _, Nat.le_refl _⟩ rfl hl.1 rfl (Nat.le_of_ble_eq_true rfl) dX12_readOrder_195 (fun H locs hP hS => ?_)
        refine lv_aload_n hx hb dX12_readOrder_198 rfl (lv_at hl 0 rfl) ?_
        refine mg_45 E hP dX12_readOrder_199 ?_
        refine lv_iload_n hx hb dX12_readOrder_202 rfl (lv_at hl 1 rfl) ?_
        refine lv_bipush (v := 7) hx hb dX12_readOrder_203 (by decide) ?_
        refine lv_iadd hx hb dX12_readOrder_205 ?_
        refine lv_aload_n hx hb dX12_readOrder_206 rfl (lv_at hl 0 rfl) ?_
        refine lv_lconst (v := 1) hx hb dX12_readOrder_207 (by decide) ?_
        refine lv_ldc2 (v := 20) hx hb hown (hT _ k_1543) dX12_readOrder_208 ?_
        obtain ⟨r16, st17, hc, hf⟩ := bd_some hf
        refine m_calli (n := 2) (rest := [.int (v2 + (7 : Int32)), .ref (ad 45)]) E hP hS (fun sz => tX12_number l D cy ad hJ sz (1 : Int64) (20 : Int64) st15 r16 st17 hc) (gV k_1520 k_1522 ks_61 k_14 k_1523) qX12_number ⟨Nat.le_of_ble_eq_true rfl, Nat.le_of_ble_eq_true rfl⟩ ⟨Nat.le_refl _, Nat.le_refl _⟩ rfl hl.1 rfl (Nat.le_of_ble_eq_true rfl) dX12_readOrder_211 (fun H locs hP hS => ?_)
        obtain ⟨hi, hf⟩ := gi_some hf
        refine ms_45 E hD hP hS hi dX12_readOrder_214 (fun st18 H locs ex hP hS => ?_)
        replace hf := lt_at ex hf; clear ex
        exact B215 v2 st18 _ _ ls hf hl hP hS
  have B154 : ∀ (v2 : Int32) (w0 : Int64) (st : St) (H : Heap) (locs : List Loc) (ls : Array Slot), fX12_readOrder_b154 v2 w0 st = some (rr, st') → lv_has ls 4 [(0, .ref (ad 100)), (2, .int v2)] → va_P D classes (mw cy ad st) H → va_S (mA ad s.heap.size) s.heap H locs → mGv l 8 D cy ad rr st' p e s m args below meth c H locs (F0 m 154 ls [.long w0, .ref (ad 100), .ref (ad 100)]) := by
    intro v2 w0 st H locs ls hf hl hP hS
    unfold fX12_readOrder_b154 at hf
    obtain ⟨r19, st20, hc, hf⟩ := bd_some hf
    refine m_calli (n := 1) (rest := [.ref (ad 100)]) E hP hS (fun sz => tX12_isWord l D cy ad hJ sz w0 st r19 st20 hc) (gV k_1471 k_1473 ks_49 k_14 k_1474) qX12_isWord ⟨Nat.le_of_ble_eq_true rfl, Nat.le_of_ble_eq_true rfl⟩ ⟨Nat.le_refl _, Nat.le_refl _⟩ rfl hl.1 rfl (Nat.le_of_ble_eq_true rfl) dX12_readOrder_154 (fun H locs hP hS => ?_)
    obtain ⟨r21, st22, hc, hf⟩ := bd_some hf
    refine m_callv (n := 1) (rest := []) E hP hS (fun sz => tX12_must l D cy ad hJ sz r19 st20 r21 st22 hc) (gV k_1475 k_1477 ks_50 k_14 k_1478) qX12_must ⟨Nat.le_of_ble_eq_true rfl, Nat.le_of_ble_eq_true rfl⟩ ⟨Nat.le_refl _, Nat.le_refl _⟩ rfl hl.1 rfl (Nat.le_of_ble_eq_true rfl) dX12_readOrder_157 (fun H locs hP hS => ?_)
    exact B160 v2 st22 _ _ ls hf hl hP hS
  have L85 : ∀ (n : Nat) (v1 : Int32) (v2 : Int32) (v3 : Int32) (st : St) (H : Heap) (locs : List Loc) (ls : Array Slot), lp (fun _ _ _ _ => none) (fX12_readOrder_b85) n v1 v2 v3 st = some (rr, st') → lv_has ls 4 [(0, .ref (ad 100)), (1, .int v1), (2, .int v2), (3, .int v3)] → va_P D classes (mw cy ad st) H → va_S (mA ad s.heap.size) s.heap H locs → mGv l 8 D cy ad rr st' p e s m args below meth c H locs (F0 m 85 ls []) := by
    intro n
    induction n with
    | zero => intro v1 v2 v3 st H locs ls hf; exact absurd hf (fun h => by cases h)
    | succ n K85 =>
      intro v1 v2 v3 st H locs ls hf hl hP hS
      replace hf : fX12_readOrder_b85 (lp (fun _ _ _ _ => none) (fX12_readOrder_b85) n) v1 v2 v3 st = some (rr, st') := hf
      generalize lp (fun _ _ _ _ => none) (fX12_readOrder_b85) n = k85 at hf K85
      unfold fX12_readOrder_b85 at hf
      refine lv_iload_n hx hb dX12_readOrder_85 rfl (lv_at hl 3 rfl) ?_
      refine lv_bipush (v := 8) hx hb dX12_readOrder_86 (by decide) ?_
      refine lv_icmp_ge (tgt := 106) hx hb dX12_readOrder_88 (by decide) (fun hc => ?_) (fun hc => ?_)
      · replace hf := it_pos hc hf
        refine lv_aload_n hx hb dX12_readOrder_106 rfl (lv_at hl 0 rfl) ?_
        refine mg_45 E hP dX12_readOrder_107 ?_
        refine lv_iload_n hx hb dX12_readOrder_110 rfl (lv_at hl 2 rfl) ?_
        refine lv_iload_n hx hb dX12_readOrder_111 rfl (lv_at hl 1 rfl) ?_
        obtain ⟨hi, hf⟩ := gi_some hf
        refine ms_45 E hD hP hS hi dX12_readOrder_112 (fun st23 H locs ex hP hS => ?_)
        replace hf := lt_at ex hf; clear ex
        refine lv_aload_n hx hb dX12_readOrder_113 rfl (lv_at hl 0 rfl) ?_
        refine lv_iload_n hx hb dX12_readOrder_114 rfl (lv_at hl 2 rfl) ?_
        refine lv_iconst (v := 1) hx hb dX12_readOrder_115 (by decide) ?_
        refine lv_iadd hx hb dX12_readOrder_116 ?_
        obtain ⟨r24, st25, hc, hf⟩ := bd_some hf
        refine m_callv (n := 1) (rest := []) E hP hS (fun sz => tX12_readSum l D cy ad hJ sz (v2 + (1 : Int32)) st23 r24 st25 hc) (gV k_1764 k_1766 ks_93 k_14 k_1767) qX12_readSum ⟨Nat.le_of_ble_eq_true rfl, Nat.le_of_ble_eq_true rfl⟩ ⟨Nat.le_refl _, Nat.le_refl _⟩ rfl hl.1 rfl (Nat.le_of_ble_eq_true rfl) dX12_readOrder_117 (fun H locs hP hS => ?_)
        refine lv_aload_n hx hb dX12_readOrder_120 rfl (lv_at hl 0 rfl) ?_
        refine mg_19 E hP dX12_readOrder_121 ?_
        refine lv_if_ne (tgt := 160) hx hb dX12_readOrder_124 (by decide) (fun hc => ?_) (fun hc => ?_)
        · replace hf := it_neg hc hf
          exact B160 v2 st25 _ _ ls hf (lv_sub hl [0, 2] rfl) hP hS
        · replace hf := it_pos hc hf
          refine lv_aload_n hx hb dX12_readOrder_127 rfl (lv_at hl 0 rfl) ?_
          refine lv_aload_n hx hb dX12_readOrder_128 rfl (lv_at hl 0 rfl) ?_
          refine lv_iload_n hx hb dX12_readOrder_129 rfl (lv_at hl 1 rfl) ?_
          refine lv_iconst (v := 2) hx hb dX12_readOrder_130 (by decide) ?_
          refine lv_icmp_ge (tgt := 140) hx hb dX12_readOrder_131 (by decide) (fun hc => ?_) (fun hc => ?_)
          · replace hf := it_pos hc hf
            refine lv_iload_n hx hb dX12_readOrder_140 rfl (lv_at hl 1 rfl) ?_
            refine lv_iconst (v := 2) hx hb dX12_readOrder_141 (by decide) ?_
            refine lv_icmp_ne (tgt := 151) hx hb dX12_readOrder_142 (by decide) (fun hc => ?_) (fun hc => ?_)
            · replace hf := it_neg hc hf
              refine lv_ldc2 (v := 89) hx hb hown (hT _ k_1770) dX12_readOrder_151 ?_
              exact B154 v2 (89 : Int64) st25 _ _ ls hf (lv_sub hl [0, 2] rfl) hP hS
            · replace hf := it_pos hc hf
              refine lv_ldc2 (v := 655) hx hb hown (hT _ k_1769) dX12_readOrder_145 ?_
              refine lv_goto (tgt := 154) hx hb dX12_readOrder_148 (by decide) ?_
              exact B154 v2 (655 : Int64) st25 _ _ ls hf (lv_sub hl [0, 2] rfl) hP hS
          · replace hf := it_neg hc hf
            refine lv_ldc2 (v := 52) hx hb hown (hT _ k_1768) dX12_readOrder_134 ?_
            refine lv_goto (tgt := 154) hx hb dX12_readOrder_137 (by decide) ?_
            exact B154 v2 (52 : Int64) st25 _ _ ls hf (lv_sub hl [0, 2] rfl) hP hS
      · replace hf := it_neg hc hf
        refine lv_aload_n hx hb dX12_readOrder_91 rfl (lv_at hl 0 rfl) ?_
        refine mg_45 E hP dX12_readOrder_92 ?_
        refine lv_iload_n hx hb dX12_readOrder_95 rfl (lv_at hl 2 rfl) ?_
        refine lv_iload_n hx hb dX12_readOrder_96 rfl (lv_at hl 3 rfl) ?_
        refine lv_iadd hx hb dX12_readOrder_97 ?_
        refine lv_iconst (v := 0) hx hb dX12_readOrder_98 (by decide) ?_
        obtain ⟨hi, hf⟩ := gi_some hf
        refine ms_45 E hD hP hS hi dX12_readOrder_99 (fun st26 H locs ex hP hS => ?_)
        replace hf := lt_at ex hf; clear ex
        obtain ⟨x27, ex⟩ : ∃ y : Int32, y = v3 + (1 : Int32) := ⟨_, rfl⟩
        replace hf := lt_at ex hf
        refine lv_iinc (v := x27) (lv' := [(3, .int x27), (0, .ref (ad 100)), (1, .int v1), (2, .int v2)]) hx hb dX12_readOrder_100 hl (k := 3) rfl (by rw [ex]; rfl) (by decide) rfl (fun ls hl => ?_)
        clear ex
        refine lv_goto (tgt := 85) hx hb dX12_readOrder_103 (by decide) ?_
        exact K85 v1 v2 x27 st26 _ _ ls hf (lv_sub hl [1, 2, 3, 0] rfl) hP hS
  have B54 : ∀ (v1 : Int32) (w0 : Int32) (st : St) (H : Heap) (locs : List Loc) (ls : Array Slot), fX12_readOrder_b54 v1 w0 st = some (rr, st') → lv_has ls 4 [(0, .ref (ad 100)), (1, .int v1)] → va_P D classes (mw cy ad st) H → va_S (mA ad s.heap.size) s.heap H locs → mGv l 8 D cy ad rr st' p e s m args below meth c H locs (F0 m 54 ls [.int w0, .ref (ad 100)]) := by
    intro v1 w0 st H locs ls hf hl hP hS
    unfold fX12_readOrder_b54 at hf
    obtain ⟨r28, st29, hc, hf⟩ := bd_some hf
    refine m_callv (n := 1) (rest := []) E hP hS (fun sz => tX12_must l D cy ad hJ sz w0 st r28 st29 hc) (gV k_1475 k_1477 ks_50 k_14 k_1478) qX12_must ⟨Nat.le_of_ble_eq_true rfl, Nat.le_of_ble_eq_true rfl⟩ ⟨Nat.le_refl _, Nat.le_refl _⟩ rfl hl.1 rfl (Nat.le_of_ble_eq_true rfl) dX12_readOrder_54 (fun H locs hP hS => ?_)
    refine lv_aload_n hx hb dX12_readOrder_57 rfl (lv_at hl 0 rfl) ?_
    refine mg_19 E hP dX12_readOrder_58 ?_
    refine lv_if_eq (tgt := 65) hx hb dX12_readOrder_61 (by decide) (fun hc => ?_) (fun hc => ?_)
    · replace hf := it_pos hc hf
      refine lv_bipush (v := 8) hx hb dX12_readOrder_65 (by decide) ?_
      refine lv_aload_n hx hb dX12_readOrder_67 rfl (lv_at hl 0 rfl) ?_
      refine mg_21 E hP dX12_readOrder_68 ?_
      refine lv_imul hx hb dX12_readOrder_71 ?_
      refine lv_topi (fun x30 ex => ?_)
      replace hf := lt_at ex hf; clear ex
      refine lv_istore_n (lv' := [(2, .int x30), (0, .ref (ad 100)), (1, .int v1)]) hx hb dX12_readOrder_72 rfl hl (by decide) rfl (fun ls hl => ?_)
      refine lv_aload_n hx hb dX12_readOrder_73 rfl (lv_at hl 1 rfl) ?_
      refine lv_dup hx hb dX12_readOrder_74 rfl ?_
      refine mg_21 E hP dX12_readOrder_75 ?_
      refine lv_iconst (v := 1) hx hb dX12_readOrder_78 (by decide) ?_
      refine lv_iadd hx hb dX12_readOrder_79 ?_
      refine mp_21 E hD hP hS dX12_readOrder_80 (fun st31 H locs ex hP hS => ?_)
      replace hf := lt_at ex hf; clear ex
      refine lv_iconst (v := 0) hx hb dX12_readOrder_83 (by decide) ?_
      refine lv_istore_n (lv' := [(3, .int (0 : Int32)), (2, .int x30), (0, .ref (ad 100)), (1, .int v1)]) hx hb dX12_readOrder_84 rfl hl (by decide) rfl (fun ls hl => ?_)
      exact L85 6000 v1 x30 (0 : Int32) st31 _ _ ls hf (lv_sub hl [2, 3, 1, 0] rfl) hP hS
    · replace hf := it_neg hc hf
      exact m_vret hx hb hr hlocks hf hP hS dX12_readOrder_64
  have B53 : ∀ (v1 : Int32) (st : St) (H : Heap) (locs : List Loc) (ls : Array Slot), fX12_readOrder_b53 v1 st = some (rr, st') → lv_has ls 4 [(0, .ref (ad 100)), (1, .int v1)] → va_P D classes (mw cy ad st) H → va_S (mA ad s.heap.size) s.heap H locs → mGv l 8 D cy ad rr st' p e s m args below meth c H locs (F0 m 53 ls [.ref (ad 100)]) := by
    intro v1 st H locs ls hf hl hP hS
    unfold fX12_readOrder_b53 at hf
    refine lv_iconst (v := 0) hx hb dX12_readOrder_53 (by decide) ?_
    exact B54 v1 (0 : Int32) st _ _ ls hf hl hP hS
  have L4 : ∀ (n : Nat) (v1 : Int32) (v2 : Int32) (st : St) (H : Heap) (locs : List Loc) (ls : Array Slot), lp (fun _ _ _ => none) (fX12_readOrder_b4) n v1 v2 st = some (rr, st') → lv_has ls 4 [(0, .ref (ad 100)), (1, .int v1), (2, .int v2)] → va_P D classes (mw cy ad st) H → va_S (mA ad s.heap.size) s.heap H locs → mGv l 8 D cy ad rr st' p e s m args below meth c H locs (F0 m 4 ls []) := by
    intro n
    induction n with
    | zero => intro v1 v2 st H locs ls hf; exact absurd hf (fun h => by cases h)
    | succ n K4 =>
      intro v1 v2 st H locs ls hf hl hP hS
      replace hf : fX12_readOrder_b4 (lp (fun _ _ _ => none) (fX12_readOrder_b4) n) v1 v2 st = some (rr, st') := hf
      generalize lp (fun _ _ _ => none) (fX12_readOrder_b4) n = k4 at hf K4
      have B27 : ∀ (v2 : Int32) (w0 : Int32) (st : St) (H : Heap) (locs : List Loc) (ls : Array Slot), fX12_readOrder_b27 k4 v2 w0 st = some (rr, st') → lv_has ls 4 [(0, .ref (ad 100)), (2, .int v2)] → va_P D classes (mw cy ad st) H → va_S (mA ad s.heap.size) s.heap H locs → mGv l 8 D cy ad rr st' p e s m args below meth c H locs (F0 m 27 ls [.int w0]) := by
        intro v2 w0 st H locs ls hf hl hP hS
        unfold fX12_readOrder_b27 at hf
        refine lv_istore_n (lv' := [(1, .int w0), (0, .ref (ad 100)), (2, .int v2)]) hx hb dX12_readOrder_27 rfl hl (by decide) rfl (fun ls hl => ?_)
        obtain ⟨x32, ex⟩ : ∃ y : Int32, y = v2 + (1 : Int32) := ⟨_, rfl⟩
        replace hf := lt_at ex hf
        refine lv_iinc (v := x32) (lv' := [(2, .int x32), (1, .int w0), (0, .ref (ad 100))]) hx hb dX12_readOrder_28 hl (k := 2) rfl (by rw [ex]; rfl) (by decide) rfl (fun ls hl => ?_)
        clear ex
        refine lv_goto (tgt := 4) hx hb dX12_readOrder_31 (by decide) ?_
        exact K4 w0 x32 st _ _ ls hf (lv_sub hl [2, 1, 0] rfl) hP hS
      unfold fX12_readOrder_b4 at hf
      refine lv_iload_n hx hb dX12_readOrder_4 rfl (lv_at hl 2 rfl) ?_
      refine lv_iconst (v := 4) hx hb dX12_readOrder_5 (by decide) ?_
      refine lv_icmp_ge (tgt := 34) hx hb dX12_readOrder_6 (by decide) (fun hc => ?_) (fun hc => ?_)
      · replace hf := it_pos hc hf
        refine lv_aload_n hx hb dX12_readOrder_34 rfl (lv_at hl 0 rfl) ?_
        refine lv_iload_n hx hb dX12_readOrder_35 rfl (lv_at hl 1 rfl) ?_
        refine lv_iconst (v := -1) hx hb dX12_readOrder_36 (by decide) ?_
        refine lv_icmp_eq (tgt := 53) hx hb dX12_readOrder_37 (by decide) (fun hc => ?_) (fun hc => ?_)
        · replace hf := it_pos hc hf
          exact B53 v1 st _ _ ls hf (lv_sub hl [0, 1] rfl) hP hS
        · replace hf := it_neg hc hf
          refine lv_aload_n hx hb dX12_readOrder_40 rfl (lv_at hl 0 rfl) ?_
          refine mg_21 E hP dX12_readOrder_41 ?_
          refine lv_bipush (v := 12) hx hb dX12_readOrder_44 (by decide) ?_
          refine lv_icmp_ge (tgt := 53) hx hb dX12_readOrder_46 (by decide) (fun hc => ?_) (fun hc => ?_)
          · replace hf := it_pos hc hf
            exact B53 v1 st _ _ ls hf (lv_sub hl [0, 1] rfl) hP hS
          · replace hf := it_neg hc hf
            refine lv_iconst (v := 1) hx hb dX12_readOrder_49 (by decide) ?_
            refine lv_goto (tgt := 54) hx hb dX12_readOrder_50 (by decide) ?_
            exact B54 v1 (1 : Int32) st _ _ ls hf (lv_sub hl [0, 1] rfl) hP hS
      · replace hf := it_neg hc hf
        refine lv_aload_n hx hb dX12_readOrder_9 rfl (lv_at hl 0 rfl) ?_
        refine lv_aload_n hx hb dX12_readOrder_10 rfl (lv_at hl 0 rfl) ?_
        refine mg_44 E hP dX12_readOrder_11 ?_
        refine lv_iload_n hx hb dX12_readOrder_14 rfl (lv_at hl 2 rfl) ?_
        obtain ⟨hi, hf⟩ := gi_some hf
        refine ml_44 E hP hi dX12_readOrder_15 ?_
        obtain ⟨r33, st34, hc, hf⟩ := bd_some hf
        refine m_calli (n := 1) (rest := []) E hP hS (fun sz => tX12_isWord l D cy ad hJ sz (st.2.2.2.1 44 v2.toNatClampNeg) st r33 st34 hc) (gV k_1471 k_1473 ks_49 k_14 k_1474) qX12_isWord ⟨Nat.le_of_ble_eq_true rfl, Nat.le_of_ble_eq_true rfl⟩ ⟨Nat.le_refl _, Nat.le_refl _⟩ rfl hl.1 rfl (Nat.le_of_ble_eq_true rfl) dX12_readOrder_16 (fun H locs hP hS => ?_)
        refine lv_if_eq (tgt := 26) hx hb dX12_readOrder_19 (by decide) (fun hc => ?_) (fun hc => ?_)
        · replace hf := it_pos hc hf
          refine lv_iload_n hx hb dX12_readOrder_26 rfl (lv_at hl 1 rfl) ?_
          exact B27 v2 v1 st34 _ _ ls hf (lv_sub hl [0, 2] rfl) hP hS
        · replace hf := it_neg hc hf
          refine lv_iload_n hx hb dX12_readOrder_22 rfl (lv_at hl 2 rfl) ?_
          refine lv_goto (tgt := 27) hx hb dX12_readOrder_23 (by decide) ?_
          exact B27 v2 v2 st34 _ _ ls hf (lv_sub hl [0, 2] rfl) hP hS
  refine lv_iconst (v := -1) hx hb dX12_readOrder_0 (by decide) ?_
  refine lv_istore_n (lv' := [(1, .int (-1 : Int32)), (0, .ref (ad 100))]) hx hb dX12_readOrder_1 rfl hl (by decide) rfl (fun ls hl => ?_)
  refine lv_iconst (v := 0) hx hb dX12_readOrder_2 (by decide) ?_
  refine lv_istore_n (lv' := [(2, .int (0 : Int32)), (1, .int (-1 : Int32)), (0, .ref (ad 100))]) hx hb dX12_readOrder_3 rfl hl (by decide) rfl (fun ls hl => ?_)
  exact L4 6000 (-1 : Int32) (0 : Int32) st _ _ ls hf (lv_sub hl [2, 1, 0] rfl) hP hS
theorem qX12_readOrder : yX12_readOrder.cls = RX12 ∧ yX12_readOrder.cls ≠ "java/lang/invoke/MethodHandle" ∧ yX12_readOrder.cls ≠ "java/lang/invoke/VarHandle" ∧ (parseMethodDescriptor yX12_readOrder.desc).map (fun d => d.parameters.length) = some 0 := by decide +kernel
