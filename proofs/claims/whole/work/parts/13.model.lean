def fX12_canShow_b42 (w0 : Int32) (st : St) : Option (Int32 × St) := gb w0 (some (w0, st))
def fX12_canShow_b41 (st : St) : Option (Int32 × St) := fX12_canShow_b42 (0 : Int32) st
def fX12_canShow (a0 : Int32) (a1 : Int32) (st : St) : Option (Int32 × St) := gi ((25 : Int32) + a0) 5550 (if (st.2.2.1 3 ((25 : Int32) + a0).toNatClampNeg) = 0 then (gi ((19 : Int32) + a0) 5550 (bs (fX12_is (st.2.2.1 3 ((19 : Int32) + a0).toNatClampNeg) a1) (fun r1 => if r1 = 0 then (bd (fX12_isBarred a0 a1 st) (fun r2 st3 => if r2 = 0 then (fX12_canShow_b42 (1 : Int32) st3) else (fX12_canShow_b41 st3))) else (fX12_canShow_b41 st)))) else (fX12_canShow_b41 st))
set_option maxHeartbeats 4000000 in
set_option maxRecDepth 100000 in
theorem tX12_canShow (l : Launch) (D : va_G) (cy : Nat → ClassId) (ad : Nat → Nat) (hJ : (mads ad).Nodup) (sz : Nat) (a0 : Int32) (a1 : Int32) (st : St) (rr : Int32) (st' : St) (hf : fX12_canShow a0 a1 st = some (rr, st')) : Met l yX12_canShow (Cond.code yX12_canShow cX12_canShow 3 (some .boolean) :: TT) (rmD 6) (mPc D cy ad [.int a0, .int a1] st sz) (mQi D cy ad rr st' sz) 0 0 (mA ad sz) := by
  refine m_meti (by decide) hJ (Nat.le_of_ble_eq_true rfl) (fun p e s m args below meth c ls E hx hb hr hlocks hown hT hD hl hP hS => ?_)
  replace hl : lv_has ls 3 [(0, .ref (ad 100)), (1, .int a0), (2, .int a1)] := hl
  unfold fX12_canShow at hf
  have B42 : ∀ (w0 : Int32) (st : St) (H : Heap) (locs : List Loc) (ls : Array Slot), fX12_canShow_b42 w0 st = some (rr, st') → lv_has ls 3 [] → va_P D classes (mw cy ad st) H → va_S (mA ad s.heap.size) s.heap H locs → mGi l 6 D cy ad rr st' p e s m args below meth c H locs (F0 m 42 ls [.int w0]) := by
    intro w0 st H locs ls hf hl hP hS
    unfold fX12_canShow_b42 at hf
    obtain ⟨hn, hf⟩ := gb_some hf
    exact m_zret hx hb hr hlocks hn hf hP hS dX12_canShow_42
  have B41 : ∀ (st : St) (H : Heap) (locs : List Loc) (ls : Array Slot), fX12_canShow_b41 st = some (rr, st') → lv_has ls 3 [] → va_P D classes (mw cy ad st) H → va_S (mA ad s.heap.size) s.heap H locs → mGi l 6 D cy ad rr st' p e s m args below meth c H locs (F0 m 41 ls []) := by
    intro st H locs ls hf hl hP hS
    unfold fX12_canShow_b41 at hf
    refine lv_iconst (v := 0) hx hb dX12_canShow_41 (by decide) ?_
    exact B42 (0 : Int32) st _ _ ls hf hl hP hS
  refine lv_aload_n hx hb dX12_canShow_0 rfl (lv_at hl 0 rfl) ?_
  refine mg_3 E hP dX12_canShow_1 ?_
  refine lv_bipush (v := 25) hx hb dX12_canShow_4 (by decide) ?_
  refine lv_iload_n hx hb dX12_canShow_6 rfl (lv_at hl 1 rfl) ?_
  refine lv_iadd hx hb dX12_canShow_7 ?_
  obtain ⟨hi, hf⟩ := gi_some hf
  refine ml_3 E hP hi dX12_canShow_8 ?_
  refine lv_if_ne (tgt := 41) hx hb dX12_canShow_9 (by decide) (fun hc => ?_) (fun hc => ?_)
  · replace hf := it_neg hc hf
    exact B41 st _ _ ls hf (lv_sub hl [] rfl) hP hS
  · replace hf := it_pos hc hf
    refine lv_aload_n hx hb dX12_canShow_12 rfl (lv_at hl 0 rfl) ?_
    refine mg_3 E hP dX12_canShow_13 ?_
    refine lv_bipush (v := 19) hx hb dX12_canShow_16 (by decide) ?_
    refine lv_iload_n hx hb dX12_canShow_18 rfl (lv_at hl 1 rfl) ?_
    refine lv_iadd hx hb dX12_canShow_19 ?_
    obtain ⟨hi, hf⟩ := gi_some hf
    refine ml_3 E hP hi dX12_canShow_20 ?_
    refine lv_iload_n hx hb dX12_canShow_21 rfl (lv_at hl 2 rfl) ?_
    obtain ⟨r1, hc, hf⟩ := bs_some hf
    refine s_calli (n := 2) (rest := []) E.1 (tX12_is l _ (st.2.2.1 3 ((19 : Int32) + a0).toNatClampNeg) a1 r1 hc) (gS k_1380 k_1381 k_14 k_1382) qX12_is ⟨Nat.le_of_ble_eq_true rfl, Nat.le_of_ble_eq_true rfl⟩ ⟨Nat.le_refl _, Nat.le_refl _⟩ rfl hl.1 rfl (Nat.le_of_ble_eq_true rfl) dX12_canShow_22 ?_
    refine lv_if_ne (tgt := 41) hx hb dX12_canShow_25 (by decide) (fun hc => ?_) (fun hc => ?_)
    · replace hf := it_neg hc hf
      exact B41 st _ _ ls hf (lv_sub hl [] rfl) hP hS
    · replace hf := it_pos hc hf
      refine lv_aload_n hx hb dX12_canShow_28 rfl (lv_at hl 0 rfl) ?_
      refine lv_iload_n hx hb dX12_canShow_29 rfl (lv_at hl 1 rfl) ?_
      refine lv_iload_n hx hb dX12_canShow_30 rfl (lv_at hl 2 rfl) ?_
      obtain ⟨r2, st3, hc, hf⟩ := bd_some hf
      refine m_calli (n := 2) (rest := []) E hP hS (fun sz => tX12_isBarred l D cy ad hJ sz a0 a1 st r2 st3 hc) (gV k_1591 k_1593 ks_73 k_14 k_1594) qX12_isBarred ⟨Nat.le_of_ble_eq_true rfl, Nat.le_of_ble_eq_true rfl⟩ ⟨Nat.le_refl _, Nat.le_refl _⟩ rfl hl.1 rfl (Nat.le_of_ble_eq_true rfl) dX12_canShow_31 (fun H locs hP hS => ?_)
      refine lv_if_ne (tgt := 41) hx hb dX12_canShow_34 (by decide) (fun hc => ?_) (fun hc => ?_)
      · replace hf := it_neg hc hf
        exact B41 st3 _ _ ls hf (lv_sub hl [] rfl) hP hS
      · replace hf := it_pos hc hf
        refine lv_iconst (v := 1) hx hb dX12_canShow_37 (by decide) ?_
        refine lv_goto (tgt := 42) hx hb dX12_canShow_38 (by decide) ?_
        exact B42 (1 : Int32) st3 _ _ ls hf (lv_sub hl [] rfl) hP hS
theorem qX12_canShow : yX12_canShow.cls = RX12 ∧ yX12_canShow.cls ≠ "java/lang/invoke/MethodHandle" ∧ yX12_canShow.cls ≠ "java/lang/invoke/VarHandle" ∧ (parseMethodDescriptor yX12_canShow.desc).map (fun d => d.parameters.length) = some 2 := by decide +kernel
def fX12_showNow (a0 : Int32) (a1 : Int32) (st : St) : Option (Int32 × St) := bs (fX12_isOne a1) (fun r1 => if r1 = 0 then (some ((-1 : Int32), st)) else (bd (fX12_isFort a0 st) (fun r2 st3 => if r2 = 0 then (some ((-2 : Int32), st3)) else (bd (fX12_canShow a0 a1 st3) (fun r4 st5 => if r4 = 0 then (some ((-3 : Int32), st5)) else (bd (fX12_remember (0 : Int32) st5) (fun r6 st7 => bd (fX12_paysOf a0 a1 st7) (fun r8 st9 => gi ((19 : Int32) + a0) 5550 (gi ((19 : Int32) + a0) 5550 (lt (sA st9 3 (upd (st9.2.2.1 3) ((19 : Int32) + a0).toNatClampNeg ((st9.2.2.1 3 ((19 : Int32) + a0).toNatClampNeg) ||| ((1 : Int32) <<< (a1 &&& 31))))) (fun st10 => some (r8, st10))))))))))))
set_option maxHeartbeats 4000000 in
set_option maxRecDepth 100000 in
theorem tX12_showNow (l : Launch) (D : va_G) (cy : Nat → ClassId) (ad : Nat → Nat) (hJ : (mads ad).Nodup) (sz : Nat) (a0 : Int32) (a1 : Int32) (st : St) (rr : Int32) (st' : St) (hf : fX12_showNow a0 a1 st = some (rr, st')) : Met l yX12_showNow (Cond.code yX12_showNow cX12_showNow 4 (some .int) :: TT) (rmD 7) (mPc D cy ad [.int a0, .int a1] st sz) (mQi D cy ad rr st' sz) 0 0 (mA ad sz) := by
  refine m_meti (by decide) hJ (Nat.le_of_ble_eq_true rfl) (fun p e s m args below meth c ls E hx hb hr hlocks hown hT hD hl hP hS => ?_)
  replace hl : lv_has ls 4 [(0, .ref (ad 100)), (1, .int a0), (2, .int a1)] := hl
  unfold fX12_showNow at hf
  refine lv_iload_n hx hb dX12_showNow_0 rfl (lv_at hl 2 rfl) ?_
  obtain ⟨r1, hc, hf⟩ := bs_some hf
  refine s_calli (n := 1) (rest := []) E.1 (tX12_isOne l _ a1 r1 hc) (gS k_1393 k_1394 k_14 k_1395) qX12_isOne ⟨Nat.le_of_ble_eq_true rfl, Nat.le_of_ble_eq_true rfl⟩ ⟨Nat.le_refl _, Nat.le_refl _⟩ rfl hl.1 rfl (Nat.le_of_ble_eq_true rfl) dX12_showNow_1 ?_
  refine lv_if_ne (tgt := 9) hx hb dX12_showNow_4 (by decide) (fun hc => ?_) (fun hc => ?_)
  · replace hf := it_neg hc hf
    refine lv_aload_n hx hb dX12_showNow_9 rfl (lv_at hl 0 rfl) ?_
    refine lv_iload_n hx hb dX12_showNow_10 rfl (lv_at hl 1 rfl) ?_
    obtain ⟨r2, st3, hc, hf⟩ := bd_some hf
    refine m_calli (n := 1) (rest := []) E hP hS (fun sz => tX12_isFort l D cy ad hJ sz a0 st r2 st3 hc) (gV k_1371 k_1373 ks_40 k_14 k_1374) qX12_isFort ⟨Nat.le_of_ble_eq_true rfl, Nat.le_of_ble_eq_true rfl⟩ ⟨Nat.le_refl _, Nat.le_refl _⟩ rfl hl.1 rfl (Nat.le_of_ble_eq_true rfl) dX12_showNow_11 (fun H locs hP hS => ?_)
    refine lv_if_ne (tgt := 20) hx hb dX12_showNow_14 (by decide) (fun hc => ?_) (fun hc => ?_)
    · replace hf := it_neg hc hf
      refine lv_aload_n hx hb dX12_showNow_20 rfl (lv_at hl 0 rfl) ?_
      refine lv_iload_n hx hb dX12_showNow_21 rfl (lv_at hl 1 rfl) ?_
      refine lv_iload_n hx hb dX12_showNow_22 rfl (lv_at hl 2 rfl) ?_
      obtain ⟨r4, st5, hc, hf⟩ := bd_some hf
      refine m_calli (n := 2) (rest := []) E hP hS (fun sz => tX12_canShow l D cy ad hJ sz a0 a1 st3 r4 st5 hc) (gV k_1617 k_1619 ks_78 k_14 k_1620) qX12_canShow ⟨Nat.le_of_ble_eq_true rfl, Nat.le_of_ble_eq_true rfl⟩ ⟨Nat.le_refl _, Nat.le_refl _⟩ rfl hl.1 rfl (Nat.le_of_ble_eq_true rfl) dX12_showNow_23 (fun H locs hP hS => ?_)
      refine lv_if_ne (tgt := 32) hx hb dX12_showNow_26 (by decide) (fun hc => ?_) (fun hc => ?_)
      · replace hf := it_neg hc hf
        refine lv_aload_n hx hb dX12_showNow_32 rfl (lv_at hl 0 rfl) ?_
        refine lv_iconst (v := 0) hx hb dX12_showNow_33 (by decide) ?_
        obtain ⟨r6, st7, hc, hf⟩ := bd_some hf
        refine m_callv (n := 1) (rest := []) E hP hS (fun sz => tX12_remember l D cy ad hJ sz (0 : Int32) st5 r6 st7 hc) (gV k_1621 k_1623 ks_79 k_14 k_1624) qX12_remember ⟨Nat.le_of_ble_eq_true rfl, Nat.le_of_ble_eq_true rfl⟩ ⟨Nat.le_refl _, Nat.le_refl _⟩ rfl hl.1 rfl (Nat.le_of_ble_eq_true rfl) dX12_showNow_34 (fun H locs hP hS => ?_)
        refine lv_aload_n hx hb dX12_showNow_37 rfl (lv_at hl 0 rfl) ?_
        refine lv_iload_n hx hb dX12_showNow_38 rfl (lv_at hl 1 rfl) ?_
        refine lv_iload_n hx hb dX12_showNow_39 rfl (lv_at hl 2 rfl) ?_
        obtain ⟨r8, st9, hc, hf⟩ := bd_some hf
        refine m_calli (n := 2) (rest := []) E hP hS (fun sz => tX12_paysOf l D cy ad hJ sz a0 a1 st7 r8 st9 hc) (gV k_1566 k_1568 ks_68 k_14 k_1569) qX12_paysOf ⟨Nat.le_of_ble_eq_true rfl, Nat.le_of_ble_eq_true rfl⟩ ⟨Nat.le_refl _, Nat.le_refl _⟩ rfl hl.1 rfl (Nat.le_of_ble_eq_true rfl) dX12_showNow_40 (fun H locs hP hS => ?_)
        refine lv_istore_n (lv' := [(3, .int r8), (0, .ref (ad 100)), (1, .int a0), (2, .int a1)]) hx hb dX12_showNow_43 rfl hl (by decide) rfl (fun ls hl => ?_)
        refine lv_aload_n hx hb dX12_showNow_44 rfl (lv_at hl 1 rfl) ?_
        refine mg_3 E hP dX12_showNow_45 ?_
        refine lv_bipush (v := 19) hx hb dX12_showNow_48 (by decide) ?_
        refine lv_iload_n hx hb dX12_showNow_50 rfl (lv_at hl 2 rfl) ?_
        refine lv_iadd hx hb dX12_showNow_51 ?_
        refine lv_dup2_11 hx hb dX12_showNow_52 rfl rfl ?_
        obtain ⟨hi, hf⟩ := gi_some hf
        refine ml_3 E hP hi dX12_showNow_53 ?_
        refine lv_iconst (v := 1) hx hb dX12_showNow_54 (by decide) ?_
        refine lv_iload_n hx hb dX12_showNow_55 rfl (lv_at hl 3 rfl) ?_
        refine lv_ishl hx hb dX12_showNow_56 ?_
        refine lv_ior hx hb dX12_showNow_57 ?_
        obtain ⟨hi, hf⟩ := gi_some hf
        refine ms_3 E hD hP hS hi dX12_showNow_58 (fun st10 H locs ex hP hS => ?_)
        replace hf := lt_at ex hf; clear ex
        refine lv_iload_n hx hb dX12_showNow_59 rfl (lv_at hl 0 rfl) ?_
        exact m_iret hx hb hr hlocks hf hP hS dX12_showNow_60
      · replace hf := it_pos hc hf
        refine lv_bipush (v := -3) hx hb dX12_showNow_29 (by decide) ?_
        exact m_iret hx hb hr hlocks hf hP hS dX12_showNow_31
    · replace hf := it_pos hc hf
      refine lv_bipush (v := -2) hx hb dX12_showNow_17 (by decide) ?_
      exact m_iret hx hb hr hlocks hf hP hS dX12_showNow_19
  · replace hf := it_pos hc hf
    refine lv_iconst (v := -1) hx hb dX12_showNow_7 (by decide) ?_
    exact m_iret hx hb hr hlocks hf hP hS dX12_showNow_8
theorem qX12_showNow : yX12_showNow.cls = RX12 ∧ yX12_showNow.cls ≠ "java/lang/invoke/MethodHandle" ∧ yX12_showNow.cls ≠ "java/lang/invoke/VarHandle" ∧ (parseMethodDescriptor yX12_showNow.desc).map (fun d => d.parameters.length) = some 2 := by decide +kernel
def fX12_show (a0 : Int32) (a1 : Int32) (st : St) : Option (Int32 × St) := lt (sI st 0 (0 : Int32)) (fun st1 => bd (fX12_showNow a0 a1 st1) (fun r2 st3 => bd (fX12_tell r2 st3) (fun r4 st5 => some (r4, st5))))
set_option maxHeartbeats 4000000 in
set_option maxRecDepth 100000 in
theorem tX12_show (l : Launch) (D : va_G) (cy : Nat → ClassId) (ad : Nat → Nat) (hJ : (mads ad).Nodup) (sz : Nat) (a0 : Int32) (a1 : Int32) (st : St) (rr : Int32) (st' : St) (hf : fX12_show a0 a1 st = some (rr, st')) : Met l yX12_show (Cond.code yX12_show cX12_show 3 (some .int) :: TT) (rmD 8) (mPc D cy ad [.int a0, .int a1] st sz) (mQi D cy ad rr st' sz) 0 0 (mA ad sz) := by
  refine m_meti (by decide) hJ (Nat.le_of_ble_eq_true rfl) (fun p e s m args below meth c ls E hx hb hr hlocks hown hT hD hl hP hS => ?_)
  replace hl : lv_has ls 3 [(0, .ref (ad 100)), (1, .int a0), (2, .int a1)] := hl
  unfold fX12_show at hf
  refine lv_aload_n hx hb dX12_show_0 rfl (lv_at hl 0 rfl) ?_
  refine lv_iconst (v := 0) hx hb dX12_show_1 (by decide) ?_
  refine mp_0 E hD hP hS dX12_show_2 (fun st1 H locs ex hP hS => ?_)
  replace hf := lt_at ex hf; clear ex
  refine lv_aload_n hx hb dX12_show_5 rfl (lv_at hl 0 rfl) ?_
  refine lv_aload_n hx hb dX12_show_6 rfl (lv_at hl 0 rfl) ?_
  refine lv_iload_n hx hb dX12_show_7 rfl (lv_at hl 1 rfl) ?_
  refine lv_iload_n hx hb dX12_show_8 rfl (lv_at hl 2 rfl) ?_
  obtain ⟨r2, st3, hc, hf⟩ := bd_some hf
  refine m_calli (n := 2) (rest := [.ref (ad 100)]) E hP hS (fun sz => tX12_showNow l D cy ad hJ sz a0 a1 st1 r2 st3 hc) (gV k_1613 k_1615 ks_77 k_14 k_1616) qX12_showNow ⟨Nat.le_of_ble_eq_true rfl, Nat.le_of_ble_eq_true rfl⟩ ⟨Nat.le_refl _, Nat.le_refl _⟩ rfl hl.1 rfl (Nat.le_of_ble_eq_true rfl) dX12_show_9 (fun H locs hP hS => ?_)
  obtain ⟨r4, st5, hc, hf⟩ := bd_some hf
  refine m_calli (n := 1) (rest := []) E hP hS (fun sz => tX12_tell l D cy ad hJ sz r2 st3 r4 st5 hc) (gV k_1338 k_1340 ks_37 k_14 k_1341) qX12_tell ⟨Nat.le_of_ble_eq_true rfl, Nat.le_of_ble_eq_true rfl⟩ ⟨Nat.le_refl _, Nat.le_refl _⟩ rfl hl.1 rfl (Nat.le_of_ble_eq_true rfl) dX12_show_12 (fun H locs hP hS => ?_)
  exact m_iret hx hb hr hlocks hf hP hS dX12_show_15
theorem qX12_show : yX12_show.cls = RX12 ∧ yX12_show.cls ≠ "java/lang/invoke/MethodHandle" ∧ yX12_show.cls ≠ "java/lang/invoke/VarHandle" ∧ (parseMethodDescriptor yX12_show.desc).map (fun d => d.parameters.length) = some 2 := by decide +kernel
def fX12_hideNow_b49 (st : St) : Option (Int32 × St) := some ((-3 : Int32), st)
def fX12_hideNow (a0 : Int32) (a1 : Int32) (st : St) : Option (Int32 × St) := bs (fX12_isOne a1) (fun r1 => if r1 = 0 then (some ((-1 : Int32), st)) else (bd (fX12_isFort a0 st) (fun r2 st3 => if r2 = 0 then (some ((-2 : Int32), st3)) else (gi ((25 : Int32) + a0) 5550 (if (st3.2.2.1 3 ((25 : Int32) + a0).toNatClampNeg) = (1 : Int32) then (fX12_hideNow_b49 st3) else (gi ((19 : Int32) + a0) 5550 (bs (fX12_is (st3.2.2.1 3 ((19 : Int32) + a0).toNatClampNeg) a1) (fun r4 => if r4 = 0 then (fX12_hideNow_b49 st3) else (bd (fX12_remember (1 : Int32) st3) (fun r5 st6 => gi ((19 : Int32) + a0) 5550 (gi ((19 : Int32) + a0) 5550 (lt (sA st6 3 (upd (st6.2.2.1 3) ((19 : Int32) + a0).toNatClampNeg ((st6.2.2.1 3 ((19 : Int32) + a0).toNatClampNeg) - ((1 : Int32) <<< (a1 &&& 31))))) (fun st7 => gi ((19 : Int32) + a0) 5550 (some ((st7.2.2.1 3 ((19 : Int32) + a0).toNatClampNeg), st7)))))))))))))))
set_option maxHeartbeats 4000000 in
set_option maxRecDepth 100000 in
theorem tX12_hideNow (l : Launch) (D : va_G) (cy : Nat → ClassId) (ad : Nat → Nat) (hJ : (mads ad).Nodup) (sz : Nat) (a0 : Int32) (a1 : Int32) (st : St) (rr : Int32) (st' : St) (hf : fX12_hideNow a0 a1 st = some (rr, st')) : Met l yX12_hideNow (Cond.code yX12_hideNow cX12_hideNow 3 (some .int) :: TT) (rmD 2) (mPc D cy ad [.int a0, .int a1] st sz) (mQi D cy ad rr st' sz) 0 0 (mA ad sz) := by
  refine m_meti (by decide) hJ (Nat.le_of_ble_eq_true rfl) (fun p e s m args below meth c ls E hx hb hr hlocks hown hT hD hl hP hS => ?_)
  replace hl : lv_has ls 3 [(0, .ref (ad 100)), (1, .int a0), (2, .int a1)] := hl
  unfold fX12_hideNow at hf
  have B49 : ∀ (st : St) (H : Heap) (locs : List Loc) (ls : Array Slot), fX12_hideNow_b49 st = some (rr, st') → lv_has ls 3 [] → va_P D classes (mw cy ad st) H → va_S (mA ad s.heap.size) s.heap H locs → mGi l 2 D cy ad rr st' p e s m args below meth c H locs (F0 m 49 ls []) := by
    intro st H locs ls hf hl hP hS
    unfold fX12_hideNow_b49 at hf
    refine lv_bipush (v := -3) hx hb dX12_hideNow_49 (by decide) ?_
    exact m_iret hx hb hr hlocks hf hP hS dX12_hideNow_51
  refine lv_iload_n hx hb dX12_hideNow_0 rfl (lv_at hl 2 rfl) ?_
  obtain ⟨r1, hc, hf⟩ := bs_some hf
  refine s_calli (n := 1) (rest := []) E.1 (tX12_isOne l _ a1 r1 hc) (gS k_1393 k_1394 k_14 k_1395) qX12_isOne ⟨Nat.le_of_ble_eq_true rfl, Nat.le_of_ble_eq_true rfl⟩ ⟨Nat.le_refl _, Nat.le_refl _⟩ rfl hl.1 rfl (Nat.le_of_ble_eq_true rfl) dX12_hideNow_1 ?_
  refine lv_if_ne (tgt := 9) hx hb dX12_hideNow_4 (by decide) (fun hc => ?_) (fun hc => ?_)
  · replace hf := it_neg hc hf
    refine lv_aload_n hx hb dX12_hideNow_9 rfl (lv_at hl 0 rfl) ?_
    refine lv_iload_n hx hb dX12_hideNow_10 rfl (lv_at hl 1 rfl) ?_
    obtain ⟨r2, st3, hc, hf⟩ := bd_some hf
    refine m_calli (n := 1) (rest := []) E hP hS (fun sz => tX12_isFort l D cy ad hJ sz a0 st r2 st3 hc) (gV k_1371 k_1373 ks_40 k_14 k_1374) qX12_isFort ⟨Nat.le_of_ble_eq_true rfl, Nat.le_of_ble_eq_true rfl⟩ ⟨Nat.le_refl _, Nat.le_refl _⟩ rfl hl.1 rfl (Nat.le_of_ble_eq_true rfl) dX12_hideNow_11 (fun H locs hP hS => ?_)
    refine lv_if_ne (tgt := 20) hx hb dX12_hideNow_14 (by decide) (fun hc => ?_) (fun hc => ?_)
    · replace hf := it_neg hc hf
      refine lv_aload_n hx hb dX12_hideNow_20 rfl (lv_at hl 0 rfl) ?_
      refine mg_3 E hP dX12_hideNow_21 ?_
      refine lv_bipush (v := 25) hx hb dX12_hideNow_24 (by decide) ?_
      refine lv_iload_n hx hb dX12_hideNow_26 rfl (lv_at hl 1 rfl) ?_
      refine lv_iadd hx hb dX12_hideNow_27 ?_
      obtain ⟨hi, hf⟩ := gi_some hf
      refine ml_3 E hP hi dX12_hideNow_28 ?_
      refine lv_iconst (v := 1) hx hb dX12_hideNow_29 (by decide) ?_
      refine lv_icmp_eq (tgt := 49) hx hb dX12_hideNow_30 (by decide) (fun hc => ?_) (fun hc => ?_)
      · replace hf := it_pos hc hf
        exact B49 st3 _ _ ls hf (lv_sub hl [] rfl) hP hS
      · replace hf := it_neg hc hf
        refine lv_aload_n hx hb dX12_hideNow_33 rfl (lv_at hl 0 rfl) ?_
        refine mg_3 E hP dX12_hideNow_34 ?_
        refine lv_bipush (v := 19) hx hb dX12_hideNow_37 (by decide) ?_
        refine lv_iload_n hx hb dX12_hideNow_39 rfl (lv_at hl 1 rfl) ?_
        refine lv_iadd hx hb dX12_hideNow_40 ?_
        obtain ⟨hi, hf⟩ := gi_some hf
        refine ml_3 E hP hi dX12_hideNow_41 ?_
        refine lv_iload_n hx hb dX12_hideNow_42 rfl (lv_at hl 2 rfl) ?_
        obtain ⟨r4, hc, hf⟩ := bs_some hf
        refine s_calli (n := 2) (rest := []) E.1 (tX12_is l _ (st3.2.2.1 3 ((19 : Int32) + a0).toNatClampNeg) a1 r4 hc) (gS k_1380 k_1381 k_14 k_1382) qX12_is ⟨Nat.le_of_ble_eq_true rfl, Nat.le_of_ble_eq_true rfl⟩ ⟨Nat.le_refl _, Nat.le_refl _⟩ rfl hl.1 rfl (Nat.le_of_ble_eq_true rfl) dX12_hideNow_43 ?_
        refine lv_if_ne (tgt := 52) hx hb dX12_hideNow_46 (by decide) (fun hc => ?_) (fun hc => ?_)
        · replace hf := it_neg hc hf
          refine lv_aload_n hx hb dX12_hideNow_52 rfl (lv_at hl 0 rfl) ?_
          refine lv_iconst (v := 1) hx hb dX12_hideNow_53 (by decide) ?_
          obtain ⟨r5, st6, hc, hf⟩ := bd_some hf
          refine m_callv (n := 1) (rest := []) E hP hS (fun sz => tX12_remember l D cy ad hJ sz (1 : Int32) st3 r5 st6 hc) (gV k_1621 k_1623 ks_79 k_14 k_1624) qX12_remember ⟨Nat.le_of_ble_eq_true rfl, Nat.le_of_ble_eq_true rfl⟩ ⟨Nat.le_refl _, Nat.le_refl _⟩ rfl hl.1 rfl (Nat.le_of_ble_eq_true rfl) dX12_hideNow_54 (fun H locs hP hS => ?_)
          refine lv_aload_n hx hb dX12_hideNow_57 rfl (lv_at hl 0 rfl) ?_
          refine mg_3 E hP dX12_hideNow_58 ?_
          refine lv_bipush (v := 19) hx hb dX12_hideNow_61 (by decide) ?_
          refine lv_iload_n hx hb dX12_hideNow_63 rfl (lv_at hl 1 rfl) ?_
          refine lv_iadd hx hb dX12_hideNow_64 ?_
          refine lv_dup2_11 hx hb dX12_hideNow_65 rfl rfl ?_
          obtain ⟨hi, hf⟩ := gi_some hf
          refine ml_3 E hP hi dX12_hideNow_66 ?_
          refine lv_iconst (v := 1) hx hb dX12_hideNow_67 (by decide) ?_
          refine lv_iload_n hx hb dX12_hideNow_68 rfl (lv_at hl 2 rfl) ?_
          refine lv_ishl hx hb dX12_hideNow_69 ?_
          refine lv_isub hx hb dX12_hideNow_70 ?_
          obtain ⟨hi, hf⟩ := gi_some hf
          refine ms_3 E hD hP hS hi dX12_hideNow_71 (fun st7 H locs ex hP hS => ?_)
          replace hf := lt_at ex hf; clear ex
          refine lv_aload_n hx hb dX12_hideNow_72 rfl (lv_at hl 0 rfl) ?_
          refine mg_3 E hP dX12_hideNow_73 ?_
          refine lv_bipush (v := 19) hx hb dX12_hideNow_76 (by decide) ?_
          refine lv_iload_n hx hb dX12_hideNow_78 rfl (lv_at hl 1 rfl) ?_
          refine lv_iadd hx hb dX12_hideNow_79 ?_
          obtain ⟨hi, hf⟩ := gi_some hf
          refine ml_3 E hP hi dX12_hideNow_80 ?_
          exact m_iret hx hb hr hlocks hf hP hS dX12_hideNow_81
        · replace hf := it_pos hc hf
          exact B49 st3 _ _ ls hf (lv_sub hl [] rfl) hP hS
    · replace hf := it_pos hc hf
      refine lv_bipush (v := -2) hx hb dX12_hideNow_17 (by decide) ?_
      exact m_iret hx hb hr hlocks hf hP hS dX12_hideNow_19
  · replace hf := it_pos hc hf
    refine lv_iconst (v := -1) hx hb dX12_hideNow_7 (by decide) ?_
    exact m_iret hx hb hr hlocks hf hP hS dX12_hideNow_8
theorem qX12_hideNow : yX12_hideNow.cls = RX12 ∧ yX12_hideNow.cls ≠ "java/lang/invoke/MethodHandle" ∧ yX12_hideNow.cls ≠ "java/lang/invoke/VarHandle" ∧ (parseMethodDescriptor yX12_hideNow.desc).map (fun d => d.parameters.length) = some 2 := by decide +kernel
def fX12_hide (a0 : Int32) (a1 : Int32) (st : St) : Option (Int32 × St) := lt (sI st 0 (0 : Int32)) (fun st1 => bd (fX12_hideNow a0 a1 st1) (fun r2 st3 => bd (fX12_tell r2 st3) (fun r4 st5 => some (r4, st5))))
set_option maxHeartbeats 4000000 in
set_option maxRecDepth 100000 in
theorem tX12_hide (l : Launch) (D : va_G) (cy : Nat → ClassId) (ad : Nat → Nat) (hJ : (mads ad).Nodup) (sz : Nat) (a0 : Int32) (a1 : Int32) (st : St) (rr : Int32) (st' : St) (hf : fX12_hide a0 a1 st = some (rr, st')) : Met l yX12_hide (Cond.code yX12_hide cX12_hide 3 (some .int) :: TT) (rmD 3) (mPc D cy ad [.int a0, .int a1] st sz) (mQi D cy ad rr st' sz) 0 0 (mA ad sz) := by
  refine m_meti (by decide) hJ (Nat.le_of_ble_eq_true rfl) (fun p e s m args below meth c ls E hx hb hr hlocks hown hT hD hl hP hS => ?_)
  replace hl : lv_has ls 3 [(0, .ref (ad 100)), (1, .int a0), (2, .int a1)] := hl
  unfold fX12_hide at hf
  refine lv_aload_n hx hb dX12_hide_0 rfl (lv_at hl 0 rfl) ?_
  refine lv_iconst (v := 0) hx hb dX12_hide_1 (by decide) ?_
  refine mp_0 E hD hP hS dX12_hide_2 (fun st1 H locs ex hP hS => ?_)
  replace hf := lt_at ex hf; clear ex
  refine lv_aload_n hx hb dX12_hide_5 rfl (lv_at hl 0 rfl) ?_
  refine lv_aload_n hx hb dX12_hide_6 rfl (lv_at hl 0 rfl) ?_
  refine lv_iload_n hx hb dX12_hide_7 rfl (lv_at hl 1 rfl) ?_
  refine lv_iload_n hx hb dX12_hide_8 rfl (lv_at hl 2 rfl) ?_
  obtain ⟨r2, st3, hc, hf⟩ := bd_some hf
  refine m_calli (n := 2) (rest := [.ref (ad 100)]) E hP hS (fun sz => tX12_hideNow l D cy ad hJ sz a0 a1 st1 r2 st3 hc) (gV k_1633 k_1635 ks_81 k_14 k_1636) qX12_hideNow ⟨Nat.le_of_ble_eq_true rfl, Nat.le_of_ble_eq_true rfl⟩ ⟨Nat.le_refl _, Nat.le_refl _⟩ rfl hl.1 rfl (Nat.le_of_ble_eq_true rfl) dX12_hide_9 (fun H locs hP hS => ?_)
  obtain ⟨r4, st5, hc, hf⟩ := bd_some hf
  refine m_calli (n := 1) (rest := []) E hP hS (fun sz => tX12_tell l D cy ad hJ sz r2 st3 r4 st5 hc) (gV k_1338 k_1340 ks_37 k_14 k_1341) qX12_tell ⟨Nat.le_of_ble_eq_true rfl, Nat.le_of_ble_eq_true rfl⟩ ⟨Nat.le_refl _, Nat.le_refl _⟩ rfl hl.1 rfl (Nat.le_of_ble_eq_true rfl) dX12_hide_12 (fun H locs hP hS => ?_)
  exact m_iret hx hb hr hlocks hf hP hS dX12_hide_15
theorem qX12_hide : yX12_hide.cls = RX12 ∧ yX12_hide.cls ≠ "java/lang/invoke/MethodHandle" ∧ yX12_hide.cls ≠ "java/lang/invoke/VarHandle" ∧ (parseMethodDescriptor yX12_hide.desc).map (fun d => d.parameters.length) = some 2 := by decide +kernel
def fX12_manNow_b62 (st : St) : Option (Int32 × St) := some ((-3 : Int32), st)
def fX12_manNow (a0 : Int32) (a1 : Int32) (st : St) : Option (Int32 × St) := bs (fX12_in (a1.toInt64) (-99 : Int64) (99 : Int64)) (fun r1 => if r1 = 0 then (some ((-1 : Int32), st)) else (bd (fX12_isFort a0 st) (fun r2 st3 => if r2 = 0 then (some ((-2 : Int32), st3)) else (gi ((25 : Int32) + a0) 5550 (if (st3.2.2.1 3 ((25 : Int32) + a0).toNatClampNeg) = (1 : Int32) then (fX12_manNow_b62 st3) else (gi ((13 : Int32) + a0) 5550 (bs (fX12_in (((st3.2.2.1 3 ((13 : Int32) + a0).toNatClampNeg) + a1).toInt64) (0 : Int64) (99 : Int64)) (fun r4 => if r4 = 0 then (fX12_manNow_b62 st3) else (bd (fX12_remember (2 : Int32) st3) (fun r5 st6 => gi ((13 : Int32) + a0) 5550 (gi ((13 : Int32) + a0) 5550 (lt (sA st6 3 (upd (st6.2.2.1 3) ((13 : Int32) + a0).toNatClampNeg ((st6.2.2.1 3 ((13 : Int32) + a0).toNatClampNeg) + a1))) (fun st7 => gi ((13 : Int32) + a0) 5550 (some ((st7.2.2.1 3 ((13 : Int32) + a0).toNatClampNeg), st7)))))))))))))))
set_option maxHeartbeats 4000000 in
set_option maxRecDepth 100000 in
theorem tX12_manNow (l : Launch) (D : va_G) (cy : Nat → ClassId) (ad : Nat → Nat) (hJ : (mads ad).Nodup) (sz : Nat) (a0 : Int32) (a1 : Int32) (st : St) (rr : Int32) (st' : St) (hf : fX12_manNow a0 a1 st = some (rr, st')) : Met l yX12_manNow (Cond.code yX12_manNow cX12_manNow 3 (some .int) :: TT) (rmD 2) (mPc D cy ad [.int a0, .int a1] st sz) (mQi D cy ad rr st' sz) 0 0 (mA ad sz) := by
  refine m_meti (by decide) hJ (Nat.le_of_ble_eq_true rfl) (fun p e s m args below meth c ls E hx hb hr hlocks hown hT hD hl hP hS => ?_)
  replace hl : lv_has ls 3 [(0, .ref (ad 100)), (1, .int a0), (2, .int a1)] := hl
  unfold fX12_manNow at hf
  have B62 : ∀ (st : St) (H : Heap) (locs : List Loc) (ls : Array Slot), fX12_manNow_b62 st = some (rr, st') → lv_has ls 3 [] → va_P D classes (mw cy ad st) H → va_S (mA ad s.heap.size) s.heap H locs → mGi l 2 D cy ad rr st' p e s m args below meth c H locs (F0 m 62 ls []) := by
    intro st H locs ls hf hl hP hS
    unfold fX12_manNow_b62 at hf
    refine lv_bipush (v := -3) hx hb dX12_manNow_62 (by decide) ?_
    exact m_iret hx hb hr hlocks hf hP hS dX12_manNow_64
  refine lv_iload_n hx hb dX12_manNow_0 rfl (lv_at hl 2 rfl) ?_
  refine lv_i2l (v := a1.toInt64) hx hb dX12_manNow_1 rfl ?_
  refine lv_ldc2 (v := -99) hx hb hown (hT _ k_1645) dX12_manNow_2 ?_
  refine lv_ldc2 (v := 99) hx hb hown (hT _ k_1365) dX12_manNow_5 ?_
  obtain ⟨r1, hc, hf⟩ := bs_some hf
  refine s_calli (n := 3) (rest := []) E.1 (tX12_in l _ (a1.toInt64) (-99 : Int64) (99 : Int64) r1 hc) (gS k_1350 k_1351 k_14 k_1352) qX12_in ⟨Nat.le_of_ble_eq_true rfl, Nat.le_of_ble_eq_true rfl⟩ ⟨Nat.le_refl _, Nat.le_refl _⟩ rfl hl.1 rfl (Nat.le_of_ble_eq_true rfl) dX12_manNow_8 ?_
  refine lv_if_ne (tgt := 16) hx hb dX12_manNow_11 (by decide) (fun hc => ?_) (fun hc => ?_)
  · replace hf := it_neg hc hf
    refine lv_aload_n hx hb dX12_manNow_16 rfl (lv_at hl 0 rfl) ?_
    refine lv_iload_n hx hb dX12_manNow_17 rfl (lv_at hl 1 rfl) ?_
    obtain ⟨r2, st3, hc, hf⟩ := bd_some hf
    refine m_calli (n := 1) (rest := []) E hP hS (fun sz => tX12_isFort l D cy ad hJ sz a0 st r2 st3 hc) (gV k_1371 k_1373 ks_40 k_14 k_1374) qX12_isFort ⟨Nat.le_of_ble_eq_true rfl, Nat.le_of_ble_eq_true rfl⟩ ⟨Nat.le_refl _, Nat.le_refl _⟩ rfl hl.1 rfl (Nat.le_of_ble_eq_true rfl) dX12_manNow_18 (fun H locs hP hS => ?_)
    refine lv_if_ne (tgt := 27) hx hb dX12_manNow_21 (by decide) (fun hc => ?_) (fun hc => ?_)
    · replace hf := it_neg hc hf
      refine lv_aload_n hx hb dX12_manNow_27 rfl (lv_at hl 0 rfl) ?_
      refine mg_3 E hP dX12_manNow_28 ?_
      refine lv_bipush (v := 25) hx hb dX12_manNow_31 (by decide) ?_
      refine lv_iload_n hx hb dX12_manNow_33 rfl (lv_at hl 1 rfl) ?_
      refine lv_iadd hx hb dX12_manNow_34 ?_
      obtain ⟨hi, hf⟩ := gi_some hf
      refine ml_3 E hP hi dX12_manNow_35 ?_
      refine lv_iconst (v := 1) hx hb dX12_manNow_36 (by decide) ?_
      refine lv_icmp_eq (tgt := 62) hx hb dX12_manNow_37 (by decide) (fun hc => ?_) (fun hc => ?_)
      · replace hf := it_pos hc hf
        exact B62 st3 _ _ ls hf (lv_sub hl [] rfl) hP hS
      · replace hf := it_neg hc hf
        refine lv_aload_n hx hb dX12_manNow_40 rfl (lv_at hl 0 rfl) ?_
        refine mg_3 E hP dX12_manNow_41 ?_
        refine lv_bipush (v := 13) hx hb dX12_manNow_44 (by decide) ?_
        refine lv_iload_n hx hb dX12_manNow_46 rfl (lv_at hl 1 rfl) ?_
        refine lv_iadd hx hb dX12_manNow_47 ?_
        obtain ⟨hi, hf⟩ := gi_some hf
        refine ml_3 E hP hi dX12_manNow_48 ?_
        refine lv_iload_n hx hb dX12_manNow_49 rfl (lv_at hl 2 rfl) ?_
        refine lv_iadd hx hb dX12_manNow_50 ?_
        refine lv_i2l (v := ((st3.2.2.1 3 ((13 : Int32) + a0).toNatClampNeg) + a1).toInt64) hx hb dX12_manNow_51 rfl ?_
        refine lv_lconst (v := 0) hx hb dX12_manNow_52 (by decide) ?_
        refine lv_ldc2 (v := 99) hx hb hown (hT _ k_1365) dX12_manNow_53 ?_
        obtain ⟨r4, hc, hf⟩ := bs_some hf
        refine s_calli (n := 3) (rest := []) E.1 (tX12_in l _ (((st3.2.2.1 3 ((13 : Int32) + a0).toNatClampNeg) + a1).toInt64) (0 : Int64) (99 : Int64) r4 hc) (gS k_1350 k_1351 k_14 k_1352) qX12_in ⟨Nat.le_of_ble_eq_true rfl, Nat.le_of_ble_eq_true rfl⟩ ⟨Nat.le_refl _, Nat.le_refl _⟩ rfl hl.1 rfl (Nat.le_of_ble_eq_true rfl) dX12_manNow_56 ?_
        refine lv_if_ne (tgt := 65) hx hb dX12_manNow_59 (by decide) (fun hc => ?_) (fun hc => ?_)
        · replace hf := it_neg hc hf
          refine lv_aload_n hx hb dX12_manNow_65 rfl (lv_at hl 0 rfl) ?_
          refine lv_iconst (v := 2) hx hb dX12_manNow_66 (by decide) ?_
          obtain ⟨r5, st6, hc, hf⟩ := bd_some hf
          refine m_callv (n := 1) (rest := []) E hP hS (fun sz => tX12_remember l D cy ad hJ sz (2 : Int32) st3 r5 st6 hc) (gV k_1621 k_1623 ks_79 k_14 k_1624) qX12_remember ⟨Nat.le_of_ble_eq_true rfl, Nat.le_of_ble_eq_true rfl⟩ ⟨Nat.le_refl _, Nat.le_refl _⟩ rfl hl.1 rfl (Nat.le_of_ble_eq_true rfl) dX12_manNow_67 (fun H locs hP hS => ?_)
          refine lv_aload_n hx hb dX12_manNow_70 rfl (lv_at hl 0 rfl) ?_
          refine mg_3 E hP dX12_manNow_71 ?_
          refine lv_bipush (v := 13) hx hb dX12_manNow_74 (by decide) ?_
          refine lv_iload_n hx hb dX12_manNow_76 rfl (lv_at hl 1 rfl) ?_
          refine lv_iadd hx hb dX12_manNow_77 ?_
          refine lv_dup2_11 hx hb dX12_manNow_78 rfl rfl ?_
          obtain ⟨hi, hf⟩ := gi_some hf
          refine ml_3 E hP hi dX12_manNow_79 ?_
          refine lv_iload_n hx hb dX12_manNow_80 rfl (lv_at hl 2 rfl) ?_
          refine lv_iadd hx hb dX12_manNow_81 ?_
          obtain ⟨hi, hf⟩ := gi_some hf
          refine ms_3 E hD hP hS hi dX12_manNow_82 (fun st7 H locs ex hP hS => ?_)
          replace hf := lt_at ex hf; clear ex
          refine lv_aload_n hx hb dX12_manNow_83 rfl (lv_at hl 0 rfl) ?_
          refine mg_3 E hP dX12_manNow_84 ?_
          refine lv_bipush (v := 13) hx hb dX12_manNow_87 (by decide) ?_
          refine lv_iload_n hx hb dX12_manNow_89 rfl (lv_at hl 1 rfl) ?_
          refine lv_iadd hx hb dX12_manNow_90 ?_
          obtain ⟨hi, hf⟩ := gi_some hf
          refine ml_3 E hP hi dX12_manNow_91 ?_
          exact m_iret hx hb hr hlocks hf hP hS dX12_manNow_92
        · replace hf := it_pos hc hf
          exact B62 st3 _ _ ls hf (lv_sub hl [] rfl) hP hS
    · replace hf := it_pos hc hf
      refine lv_bipush (v := -2) hx hb dX12_manNow_24 (by decide) ?_
      exact m_iret hx hb hr hlocks hf hP hS dX12_manNow_26
  · replace hf := it_pos hc hf
    refine lv_iconst (v := -1) hx hb dX12_manNow_14 (by decide) ?_
    exact m_iret hx hb hr hlocks hf hP hS dX12_manNow_15
theorem qX12_manNow : yX12_manNow.cls = RX12 ∧ yX12_manNow.cls ≠ "java/lang/invoke/MethodHandle" ∧ yX12_manNow.cls ≠ "java/lang/invoke/VarHandle" ∧ (parseMethodDescriptor yX12_manNow.desc).map (fun d => d.parameters.length) = some 2 := by decide +kernel
def fX12_man (a0 : Int32) (a1 : Int32) (st : St) : Option (Int32 × St) := lt (sI st 0 (0 : Int32)) (fun st1 => bd (fX12_manNow a0 a1 st1) (fun r2 st3 => bd (fX12_tell r2 st3) (fun r4 st5 => some (r4, st5))))
set_option maxHeartbeats 4000000 in
set_option maxRecDepth 100000 in
theorem tX12_man (l : Launch) (D : va_G) (cy : Nat → ClassId) (ad : Nat → Nat) (hJ : (mads ad).Nodup) (sz : Nat) (a0 : Int32) (a1 : Int32) (st : St) (rr : Int32) (st' : St) (hf : fX12_man a0 a1 st = some (rr, st')) : Met l yX12_man (Cond.code yX12_man cX12_man 3 (some .int) :: TT) (rmD 3) (mPc D cy ad [.int a0, .int a1] st sz) (mQi D cy ad rr st' sz) 0 0 (mA ad sz) := by
  refine m_meti (by decide) hJ (Nat.le_of_ble_eq_true rfl) (fun p e s m args below meth c ls E hx hb hr hlocks hown hT hD hl hP hS => ?_)
  replace hl : lv_has ls 3 [(0, .ref (ad 100)), (1, .int a0), (2, .int a1)] := hl
  unfold fX12_man at hf
  refine lv_aload_n hx hb dX12_man_0 rfl (lv_at hl 0 rfl) ?_
  refine lv_iconst (v := 0) hx hb dX12_man_1 (by decide) ?_
  refine mp_0 E hD hP hS dX12_man_2 (fun st1 H locs ex hP hS => ?_)
  replace hf := lt_at ex hf; clear ex
  refine lv_aload_n hx hb dX12_man_5 rfl (lv_at hl 0 rfl) ?_
  refine lv_aload_n hx hb dX12_man_6 rfl (lv_at hl 0 rfl) ?_
  refine lv_iload_n hx hb dX12_man_7 rfl (lv_at hl 1 rfl) ?_
  refine lv_iload_n hx hb dX12_man_8 rfl (lv_at hl 2 rfl) ?_
  obtain ⟨r2, st3, hc, hf⟩ := bd_some hf
  refine m_calli (n := 2) (rest := [.ref (ad 100)]) E hP hS (fun sz => tX12_manNow l D cy ad hJ sz a0 a1 st1 r2 st3 hc) (gV k_1641 k_1643 ks_82 k_14 k_1644) qX12_manNow ⟨Nat.le_of_ble_eq_true rfl, Nat.le_of_ble_eq_true rfl⟩ ⟨Nat.le_refl _, Nat.le_refl _⟩ rfl hl.1 rfl (Nat.le_of_ble_eq_true rfl) dX12_man_9 (fun H locs hP hS => ?_)
  obtain ⟨r4, st5, hc, hf⟩ := bd_some hf
  refine m_calli (n := 1) (rest := []) E hP hS (fun sz => tX12_tell l D cy ad hJ sz r2 st3 r4 st5 hc) (gV k_1338 k_1340 ks_37 k_14 k_1341) qX12_tell ⟨Nat.le_of_ble_eq_true rfl, Nat.le_of_ble_eq_true rfl⟩ ⟨Nat.le_refl _, Nat.le_refl _⟩ rfl hl.1 rfl (Nat.le_of_ble_eq_true rfl) dX12_man_12 (fun H locs hP hS => ?_)
  exact m_iret hx hb hr hlocks hf hP hS dX12_man_15
theorem qX12_man : yX12_man.cls = RX12 ∧ yX12_man.cls ≠ "java/lang/invoke/MethodHandle" ∧ yX12_man.cls ≠ "java/lang/invoke/VarHandle" ∧ (parseMethodDescriptor yX12_man.desc).map (fun d => d.parameters.length) = some 2 := by decide +kernel
def fX12_canMarch_b30 (w0 : Int32) (st : St) : Option (Int32 × St) := gb w0 (some (w0, st))
def fX12_canMarch_b29 (st : St) : Option (Int32 × St) := fX12_canMarch_b30 (0 : Int32) st
def fX12_canMarch (a0 : Int32) (st : St) : Option (Int32 × St) := gi ((25 : Int32) + a0) 5550 (if (st.2.2.1 3 ((25 : Int32) + a0).toNatClampNeg) = 0 then (if (999 : Int32) ≤ (st.2.2.1 3 (6 : Int32).toNatClampNeg) then (fX12_canMarch_b29 st) else (fX12_canMarch_b30 (1 : Int32) st)) else (fX12_canMarch_b29 st))
set_option maxHeartbeats 4000000 in
set_option maxRecDepth 100000 in
theorem tX12_canMarch (l : Launch) (D : va_G) (cy : Nat → ClassId) (ad : Nat → Nat) (hJ : (mads ad).Nodup) (sz : Nat) (a0 : Int32) (st : St) (rr : Int32) (st' : St) (hf : fX12_canMarch a0 st = some (rr, st')) : Met l yX12_canMarch (Cond.code yX12_canMarch cX12_canMarch 2 (some .boolean) :: TT) (rmD 0) (mPc D cy ad [.int a0] st sz) (mQi D cy ad rr st' sz) 0 0 (mA ad sz) := by
  refine m_meti (by decide) hJ (Nat.le_of_ble_eq_true rfl) (fun p e s m args below meth c ls E hx hb hr hlocks hown hT hD hl hP hS => ?_)
  replace hl : lv_has ls 2 [(0, .ref (ad 100)), (1, .int a0)] := hl
  unfold fX12_canMarch at hf
  have B30 : ∀ (w0 : Int32) (st : St) (H : Heap) (locs : List Loc) (ls : Array Slot), fX12_canMarch_b30 w0 st = some (rr, st') → lv_has ls 2 [] → va_P D classes (mw cy ad st) H → va_S (mA ad s.heap.size) s.heap H locs → mGi l 0 D cy ad rr st' p e s m args below meth c H locs (F0 m 30 ls [.int w0]) := by
    intro w0 st H locs ls hf hl hP hS
    unfold fX12_canMarch_b30 at hf
    obtain ⟨hn, hf⟩ := gb_some hf
    exact m_zret hx hb hr hlocks hn hf hP hS dX12_canMarch_30
  have B29 : ∀ (st : St) (H : Heap) (locs : List Loc) (ls : Array Slot), fX12_canMarch_b29 st = some (rr, st') → lv_has ls 2 [] → va_P D classes (mw cy ad st) H → va_S (mA ad s.heap.size) s.heap H locs → mGi l 0 D cy ad rr st' p e s m args below meth c H locs (F0 m 29 ls []) := by
    intro st H locs ls hf hl hP hS
    unfold fX12_canMarch_b29 at hf
    refine lv_iconst (v := 0) hx hb dX12_canMarch_29 (by decide) ?_
    exact B30 (0 : Int32) st _ _ ls hf hl hP hS
  refine lv_aload_n hx hb dX12_canMarch_0 rfl (lv_at hl 0 rfl) ?_
  refine mg_3 E hP dX12_canMarch_1 ?_
  refine lv_bipush (v := 25) hx hb dX12_canMarch_4 (by decide) ?_
  refine lv_iload_n hx hb dX12_canMarch_6 rfl (lv_at hl 1 rfl) ?_
  refine lv_iadd hx hb dX12_canMarch_7 ?_
  obtain ⟨hi, hf⟩ := gi_some hf
  refine ml_3 E hP hi dX12_canMarch_8 ?_
  refine lv_if_ne (tgt := 29) hx hb dX12_canMarch_9 (by decide) (fun hc => ?_) (fun hc => ?_)
  · replace hf := it_neg hc hf
    exact B29 st _ _ ls hf (lv_sub hl [] rfl) hP hS
  · replace hf := it_pos hc hf
    refine lv_aload_n hx hb dX12_canMarch_12 rfl (lv_at hl 0 rfl) ?_
    refine mg_3 E hP dX12_canMarch_13 ?_
    refine lv_bipush (v := 6) hx hb dX12_canMarch_16 (by decide) ?_
    refine ml_3 E hP (vi rfl) dX12_canMarch_18 ?_
    refine lv_sipush (v := 999) hx hb dX12_canMarch_19 (by decide) ?_
    refine lv_icmp_ge (tgt := 29) hx hb dX12_canMarch_22 (by decide) (fun hc => ?_) (fun hc => ?_)
    · replace hf := it_pos hc hf
      exact B29 st _ _ ls hf (lv_sub hl [] rfl) hP hS
    · replace hf := it_neg hc hf
      refine lv_iconst (v := 1) hx hb dX12_canMarch_25 (by decide) ?_
      refine lv_goto (tgt := 30) hx hb dX12_canMarch_26 (by decide) ?_
      exact B30 (1 : Int32) st _ _ ls hf (lv_sub hl [] rfl) hP hS
theorem qX12_canMarch : yX12_canMarch.cls = RX12 ∧ yX12_canMarch.cls ≠ "java/lang/invoke/MethodHandle" ∧ yX12_canMarch.cls ≠ "java/lang/invoke/VarHandle" ∧ (parseMethodDescriptor yX12_canMarch.desc).map (fun d => d.parameters.length) = some 1 := by decide +kernel
def fX12_marchIt_b89 (v1 : Int32) (v2 : Int32) (v3 : Int32) (st : St) : Option (Int32 × St) := gi ((19 : Int32) + v2) 5550 (bd (fX12_hundredths v2 (st.2.2.1 3 ((19 : Int32) + v2).toNatClampNeg) st) (fun r1 st2 => bd (fX12_tells (2 : Int32) v2 (-1 : Int32) v1 r1 v3 (0 : Int64) st2) (fun r3 st4 => bs (fX12_within r3 (-20 : Int32) (20 : Int32)) (fun r5 => gi ((31 : Int32) + v2) 5550 (lt ((9 : Int32) + (st4.2.2.1 3 ((31 : Int32) + v2).toNatClampNeg)) (fun x6 => gi x6 5550 (bs (fX12_within (((st4.2.2.1 3 x6.toNatClampNeg) + r5).toInt64) (0 : Int32) (100 : Int32)) (fun r7 => gi x6 5550 (lt (sA st4 3 (upd (st4.2.2.1 3) x6.toNatClampNeg r7)) (fun st8 => lt (sA st8 3 (upd (st8.2.2.1 3) (6 : Int32).toNatClampNeg ((st8.2.2.1 3 (6 : Int32).toNatClampNeg) + (1 : Int32)))) (fun st9 => some (v3, st9))))))))))))
def fX12_marchIt_b56 (v1 : Int32) (v2 : Int32) (v3 : Int32) (st : St) : Option (Int32 × St) := if v3 = 0 then (gi ((13 : Int32) + v2) 5550 (bs (fX12_within (((st.2.2.1 3 ((13 : Int32) + v2).toNatClampNeg) - (v1 / (3 : Int32))).toInt64) (0 : Int32) (99 : Int32)) (fun r10 => gi ((13 : Int32) + v2) 5550 (lt (sA st 3 (upd (st.2.2.1 3) ((13 : Int32) + v2).toNatClampNeg r10)) (fun st11 => fX12_marchIt_b89 v1 v2 v3 st11))))) else (fX12_marchIt_b89 v1 v2 v3 st)
def fX12_marchIt_b40 (v1 : Int32) (v2 : Int32) (w0 : Int32) (st : St) : Option (Int32 × St) := if w0 = (2 : Int32) then (gi ((25 : Int32) + v2) 5550 (lt (sA st 3 (upd (st.2.2.1 3) ((25 : Int32) + v2).toNatClampNeg (1 : Int32))) (fun st12 => fX12_marchIt_b56 v1 v2 w0 st12))) else (fX12_marchIt_b56 v1 v2 w0 st)
def fX12_marchIt (a0 : Int32) (a1 : Int32) (st : St) : Option (Int32 × St) := gi ((19 : Int32) + a1) 5550 (bd (fX12_isTurned a1 a0 (st.2.2.1 3 ((19 : Int32) + a1).toNatClampNeg) st) (fun r13 st14 => if r13 = 0 then (gi ((13 : Int32) + a1) 5550 (if a0 ≤ (st14.2.2.1 3 ((13 : Int32) + a1).toNatClampNeg) then (fX12_marchIt_b40 a0 a1 (0 : Int32) st14) else (fX12_marchIt_b40 a0 a1 (2 : Int32) st14))) else (fX12_marchIt_b40 a0 a1 (1 : Int32) st14)))
set_option maxHeartbeats 4000000 in
set_option maxRecDepth 100000 in
theorem tX12_marchIt (l : Launch) (D : va_G) (cy : Nat → ClassId) (ad : Nat → Nat) (hJ : (mads ad).Nodup) (sz : Nat) (a0 : Int32) (a1 : Int32) (st : St) (rr : Int32) (st' : St) (hf : fX12_marchIt a0 a1 st = some (rr, st')) : Met l yX12_marchIt (Cond.code yX12_marchIt cX12_marchIt 6 (some .int) :: TT) (rmD 7) (mPc D cy ad [.int a0, .int a1] st sz) (mQi D cy ad rr st' sz) 0 0 (mA ad sz) := by
  refine m_meti (by decide) hJ (Nat.le_of_ble_eq_true rfl) (fun p e s m args below meth c ls E hx hb hr hlocks hown hT hD hl hP hS => ?_)
  replace hl : lv_has ls 6 [(0, .ref (ad 100)), (1, .int a0), (2, .int a1)] := hl
  unfold fX12_marchIt at hf
  have B89 : ∀ (v1 : Int32) (v2 : Int32) (v3 : Int32) (st : St) (H : Heap) (locs : List Loc) (ls : Array Slot), fX12_marchIt_b89 v1 v2 v3 st = some (rr, st') → lv_has ls 6 [(0, .ref (ad 100)), (1, .int v1), (2, .int v2), (3, .int v3)] → va_P D classes (mw cy ad st) H → va_S (mA ad s.heap.size) s.heap H locs → mGi l 7 D cy ad rr st' p e s m args below meth c H locs (F0 m 89 ls []) := by
    intro v1 v2 v3 st H locs ls hf hl hP hS
    unfold fX12_marchIt_b89 at hf
    refine lv_aload_n hx hb dX12_marchIt_89 rfl (lv_at hl 0 rfl) ?_
    refine lv_iconst (v := 2) hx hb dX12_marchIt_90 (by decide) ?_
    refine lv_iload_n hx hb dX12_marchIt_91 rfl (lv_at hl 2 rfl) ?_
    refine lv_iconst (v := -1) hx hb dX12_marchIt_92 (by decide) ?_
    refine lv_iload_n hx hb dX12_marchIt_93 rfl (lv_at hl 1 rfl) ?_
    refine lv_aload_n hx hb dX12_marchIt_94 rfl (lv_at hl 0 rfl) ?_
    refine lv_iload_n hx hb dX12_marchIt_95 rfl (lv_at hl 2 rfl) ?_
    refine lv_aload_n hx hb dX12_marchIt_96 rfl (lv_at hl 0 rfl) ?_
    refine mg_3 E hP dX12_marchIt_97 ?_
    refine lv_bipush (v := 19) hx hb dX12_marchIt_100 (by decide) ?_
    refine lv_iload_n hx hb dX12_marchIt_102 rfl (lv_at hl 2 rfl) ?_
    refine lv_iadd hx hb dX12_marchIt_103 ?_
    obtain ⟨hi, hf⟩ := gi_some hf
    refine ml_3 E hP hi dX12_marchIt_104 ?_
    obtain ⟨r1, st2, hc, hf⟩ := bd_some hf
    refine m_calli (n := 2) (rest := [.int v1, .int (-1 : Int32), .int v2, .int (2 : Int32), .ref (ad 100)]) E hP hS (fun sz => tX12_hundredths l D cy ad hJ sz v2 (st.2.2.1 3 ((19 : Int32) + v2).toNatClampNeg) st r1 st2 hc) (gV k_1599 k_1601 ks_75 k_14 k_1602) qX12_hundredths ⟨Nat.le_of_ble_eq_true rfl, Nat.le_of_ble_eq_true rfl⟩ ⟨Nat.le_refl _, Nat.le_refl _⟩ rfl hl.1 rfl (Nat.le_of_ble_eq_true rfl) dX12_marchIt_105 (fun H locs hP hS => ?_)
    refine lv_iload_n hx hb dX12_marchIt_108 rfl (lv_at hl 3 rfl) ?_
    refine lv_lconst (v := 0) hx hb dX12_marchIt_109 (by decide) ?_
    obtain ⟨r3, st4, hc, hf⟩ := bd_some hf
    refine m_calll (n := 7) (rest := []) E hP hS (fun sz => tX12_tells l D cy ad hJ sz (2 : Int32) v2 (-1 : Int32) v1 r1 v3 (0 : Int64) st2 r3 st4 hc) (gV k_1570 k_1572 ks_69 k_14 k_1573) qX12_tells ⟨Nat.le_of_ble_eq_true rfl, Nat.le_of_ble_eq_true rfl⟩ ⟨Nat.le_refl _, Nat.le_refl _⟩ rfl hl.1 rfl (Nat.le_of_ble_eq_true rfl) dX12_marchIt_110 (fun H locs hP hS => ?_)
    refine lv_bipush (v := -20) hx hb dX12_marchIt_113 (by decide) ?_
    refine lv_bipush (v := 20) hx hb dX12_marchIt_115 (by decide) ?_
    obtain ⟨r5, hc, hf⟩ := bs_some hf
    refine s_calli (n := 3) (rest := []) E.1 (tX12_within l _ r3 (-20 : Int32) (20 : Int32) r5 hc) (gS k_1588 k_1589 k_14 k_1590) qX12_within ⟨Nat.le_of_ble_eq_true rfl, Nat.le_of_ble_eq_true rfl⟩ ⟨Nat.le_refl _, Nat.le_refl _⟩ rfl hl.1 rfl (Nat.le_of_ble_eq_true rfl) dX12_marchIt_117 ?_
    refine lv_istore (lv' := [(4, .int r5), (0, .ref (ad 100)), (1, .int v1), (2, .int v2), (3, .int v3)]) hx hb dX12_marchIt_120 hl (by decide) rfl (fun ls hl => ?_)
    refine lv_bipush (v := 9) hx hb dX12_marchIt_122 (by decide) ?_
    refine lv_aload_n hx hb dX12_marchIt_124 rfl (lv_at hl 1 rfl) ?_
    refine mg_3 E hP dX12_marchIt_125 ?_
    refine lv_bipush (v := 31) hx hb dX12_marchIt_128 (by decide) ?_
    refine lv_iload_n hx hb dX12_marchIt_130 rfl (lv_at hl 3 rfl) ?_
    refine lv_iadd hx hb dX12_marchIt_131 ?_
    obtain ⟨hi, hf⟩ := gi_some hf
    refine ml_3 E hP hi dX12_marchIt_132 ?_
    refine lv_iadd hx hb dX12_marchIt_133 ?_
    refine lv_topi (fun x6 ex => ?_)
    replace hf := lt_at ex hf; clear ex
    refine lv_istore (lv' := [(5, .int x6), (4, .int r5), (0, .ref (ad 100)), (1, .int v1), (2, .int v2), (3, .int v3)]) hx hb dX12_marchIt_134 hl (by decide) rfl (fun ls hl => ?_)
    refine lv_aload_n hx hb dX12_marchIt_136 rfl (lv_at hl 2 rfl) ?_
    refine mg_3 E hP dX12_marchIt_137 ?_
    refine lv_iload hx hb dX12_marchIt_140 (lv_at hl 0 rfl) ?_
    refine lv_aload_n hx hb dX12_marchIt_142 rfl (lv_at hl 2 rfl) ?_
    refine mg_3 E hP dX12_marchIt_143 ?_
    refine lv_iload hx hb dX12_marchIt_146 (lv_at hl 0 rfl) ?_
    obtain ⟨hi, hf⟩ := gi_some hf
    refine ml_3 E hP hi dX12_marchIt_148 ?_
    refine lv_iload hx hb dX12_marchIt_149 (lv_at hl 1 rfl) ?_
    refine lv_iadd hx hb dX12_marchIt_151 ?_
    refine lv_i2l (v := ((st4.2.2.1 3 x6.toNatClampNeg) + r5).toInt64) hx hb dX12_marchIt_152 rfl ?_
    refine lv_iconst (v := 0) hx hb dX12_marchIt_153 (by decide) ?_
    refine lv_bipush (v := 100) hx hb dX12_marchIt_154 (by decide) ?_
    obtain ⟨r7, hc, hf⟩ := bs_some hf
    refine s_calli (n := 3) (rest := [.int x6, .ref (ad 3)]) E.1 (tX12_within l _ (((st4.2.2.1 3 x6.toNatClampNeg) + r5).toInt64) (0 : Int32) (100 : Int32) r7 hc) (gS k_1588 k_1589 k_14 k_1590) qX12_within ⟨Nat.le_of_ble_eq_true rfl, Nat.le_of_ble_eq_true rfl⟩ ⟨Nat.le_refl _, Nat.le_refl _⟩ rfl hl.1 rfl (Nat.le_of_ble_eq_true rfl) dX12_marchIt_156 ?_
    obtain ⟨hi, hf⟩ := gi_some hf
    refine ms_3 E hD hP hS hi dX12_marchIt_159 (fun st8 H locs ex hP hS => ?_)
    replace hf := lt_at ex hf; clear ex
    refine lv_aload_n hx hb dX12_marchIt_160 rfl (lv_at hl 2 rfl) ?_
    refine mg_3 E hP dX12_marchIt_161 ?_
    refine lv_bipush (v := 6) hx hb dX12_marchIt_164 (by decide) ?_
    refine lv_dup2_11 hx hb dX12_marchIt_166 rfl rfl ?_
    refine ml_3 E hP (vi rfl) dX12_marchIt_167 ?_
    refine lv_iconst (v := 1) hx hb dX12_marchIt_168 (by decide) ?_
    refine lv_iadd hx hb dX12_marchIt_169 ?_
    refine ms_3 E hD hP hS (vi rfl) dX12_marchIt_170 (fun st9 H locs ex hP hS => ?_)
    replace hf := lt_at ex hf; clear ex
    refine lv_iload_n hx hb dX12_marchIt_171 rfl (lv_at hl 5 rfl) ?_
    exact m_iret hx hb hr hlocks hf hP hS dX12_marchIt_172
  have B56 : ∀ (v1 : Int32) (v2 : Int32) (v3 : Int32) (st : St) (H : Heap) (locs : List Loc) (ls : Array Slot), fX12_marchIt_b56 v1 v2 v3 st = some (rr, st') → lv_has ls 6 [(0, .ref (ad 100)), (1, .int v1), (2, .int v2), (3, .int v3)] → va_P D classes (mw cy ad st) H → va_S (mA ad s.heap.size) s.heap H locs → mGi l 7 D cy ad rr st' p e s m args below meth c H locs (F0 m 56 ls []) := by
    intro v1 v2 v3 st H locs ls hf hl hP hS
    unfold fX12_marchIt_b56 at hf
    refine lv_iload_n hx hb dX12_marchIt_56 rfl (lv_at hl 3 rfl) ?_
    refine lv_if_ne (tgt := 89) hx hb dX12_marchIt_57 (by decide) (fun hc => ?_) (fun hc => ?_)
    · replace hf := it_neg hc hf
      exact B89 v1 v2 v3 st _ _ ls hf hl hP hS
    · replace hf := it_pos hc hf
      refine lv_aload_n hx hb dX12_marchIt_60 rfl (lv_at hl 0 rfl) ?_
      refine mg_3 E hP dX12_marchIt_61 ?_
      refine lv_bipush (v := 13) hx hb dX12_marchIt_64 (by decide) ?_
      refine lv_iload_n hx hb dX12_marchIt_66 rfl (lv_at hl 2 rfl) ?_
      refine lv_iadd hx hb dX12_marchIt_67 ?_
      refine lv_aload_n hx hb dX12_marchIt_68 rfl (lv_at hl 0 rfl) ?_
      refine mg_3 E hP dX12_marchIt_69 ?_
      refine lv_bipush (v := 13) hx hb dX12_marchIt_72 (by decide) ?_
      refine lv_iload_n hx hb dX12_marchIt_74 rfl (lv_at hl 2 rfl) ?_
      refine lv_iadd hx hb dX12_marchIt_75 ?_
      obtain ⟨hi, hf⟩ := gi_some hf
      refine ml_3 E hP hi dX12_marchIt_76 ?_
      refine lv_iload_n hx hb dX12_marchIt_77 rfl (lv_at hl 1 rfl) ?_
      refine lv_iconst (v := 3) hx hb dX12_marchIt_78 (by decide) ?_
      refine lv_idiv hx hb dX12_marchIt_79 (by decide) ?_
      refine lv_isub hx hb dX12_marchIt_80 ?_
      refine lv_i2l (v := ((st.2.2.1 3 ((13 : Int32) + v2).toNatClampNeg) - (v1 / (3 : Int32))).toInt64) hx hb dX12_marchIt_81 rfl ?_
      refine lv_iconst (v := 0) hx hb dX12_marchIt_82 (by decide) ?_
      refine lv_bipush (v := 99) hx hb dX12_marchIt_83 (by decide) ?_
      obtain ⟨r10, hc, hf⟩ := bs_some hf
      refine s_calli (n := 3) (rest := [.int ((13 : Int32) + v2), .ref (ad 3)]) E.1 (tX12_within l _ (((st.2.2.1 3 ((13 : Int32) + v2).toNatClampNeg) - (v1 / (3 : Int32))).toInt64) (0 : Int32) (99 : Int32) r10 hc) (gS k_1588 k_1589 k_14 k_1590) qX12_within ⟨Nat.le_of_ble_eq_true rfl, Nat.le_of_ble_eq_true rfl⟩ ⟨Nat.le_refl _, Nat.le_refl _⟩ rfl hl.1 rfl (Nat.le_of_ble_eq_true rfl) dX12_marchIt_85 ?_
      obtain ⟨hi, hf⟩ := gi_some hf
      refine ms_3 E hD hP hS hi dX12_marchIt_88 (fun st11 H locs ex hP hS => ?_)
      replace hf := lt_at ex hf; clear ex
      exact B89 v1 v2 v3 st11 _ _ ls hf hl hP hS
  have B40 : ∀ (v1 : Int32) (v2 : Int32) (w0 : Int32) (st : St) (H : Heap) (locs : List Loc) (ls : Array Slot), fX12_marchIt_b40 v1 v2 w0 st = some (rr, st') → lv_has ls 6 [(0, .ref (ad 100)), (1, .int v1), (2, .int v2)] → va_P D classes (mw cy ad st) H → va_S (mA ad s.heap.size) s.heap H locs → mGi l 7 D cy ad rr st' p e s m args below meth c H locs (F0 m 40 ls [.int w0]) := by
    intro v1 v2 w0 st H locs ls hf hl hP hS
    unfold fX12_marchIt_b40 at hf
    refine lv_istore_n (lv' := [(3, .int w0), (0, .ref (ad 100)), (1, .int v1), (2, .int v2)]) hx hb dX12_marchIt_40 rfl hl (by decide) rfl (fun ls hl => ?_)
    refine lv_iload_n hx hb dX12_marchIt_41 rfl (lv_at hl 0 rfl) ?_
    refine lv_iconst (v := 2) hx hb dX12_marchIt_42 (by decide) ?_
    refine lv_icmp_ne (tgt := 56) hx hb dX12_marchIt_43 (by decide) (fun hc => ?_) (fun hc => ?_)
    · replace hf := it_neg hc hf
      exact B56 v1 v2 w0 st _ _ ls hf (lv_sub hl [1, 2, 3, 0] rfl) hP hS
    · replace hf := it_pos hc hf
      refine lv_aload_n hx hb dX12_marchIt_46 rfl (lv_at hl 1 rfl) ?_
      refine mg_3 E hP dX12_marchIt_47 ?_
      refine lv_bipush (v := 25) hx hb dX12_marchIt_50 (by decide) ?_
      refine lv_iload_n hx hb dX12_marchIt_52 rfl (lv_at hl 3 rfl) ?_
      refine lv_iadd hx hb dX12_marchIt_53 ?_
      refine lv_iconst (v := 1) hx hb dX12_marchIt_54 (by decide) ?_
      obtain ⟨hi, hf⟩ := gi_some hf
      refine ms_3 E hD hP hS hi dX12_marchIt_55 (fun st12 H locs ex hP hS => ?_)
      replace hf := lt_at ex hf; clear ex
      exact B56 v1 v2 w0 st12 _ _ ls hf (lv_sub hl [1, 2, 3, 0] rfl) hP hS
  refine lv_aload_n hx hb dX12_marchIt_0 rfl (lv_at hl 0 rfl) ?_
  refine lv_iload_n hx hb dX12_marchIt_1 rfl (lv_at hl 2 rfl) ?_
  refine lv_iload_n hx hb dX12_marchIt_2 rfl (lv_at hl 1 rfl) ?_
  refine lv_aload_n hx hb dX12_marchIt_3 rfl (lv_at hl 0 rfl) ?_
  refine mg_3 E hP dX12_marchIt_4 ?_
  refine lv_bipush (v := 19) hx hb dX12_marchIt_7 (by decide) ?_
  refine lv_iload_n hx hb dX12_marchIt_9 rfl (lv_at hl 2 rfl) ?_
  refine lv_iadd hx hb dX12_marchIt_10 ?_
  obtain ⟨hi, hf⟩ := gi_some hf
  refine ml_3 E hP hi dX12_marchIt_11 ?_
  obtain ⟨r13, st14, hc, hf⟩ := bd_some hf
  refine m_calli (n := 3) (rest := []) E hP hS (fun sz => tX12_isTurned l D cy ad hJ sz a1 a0 (st.2.2.1 3 ((19 : Int32) + a1).toNatClampNeg) st r13 st14 hc) (gV k_1605 k_1607 ks_76 k_14 k_1608) qX12_isTurned ⟨Nat.le_of_ble_eq_true rfl, Nat.le_of_ble_eq_true rfl⟩ ⟨Nat.le_refl _, Nat.le_refl _⟩ rfl hl.1 rfl (Nat.le_of_ble_eq_true rfl) dX12_marchIt_12 (fun H locs hP hS => ?_)
  refine lv_if_eq (tgt := 22) hx hb dX12_marchIt_15 (by decide) (fun hc => ?_) (fun hc => ?_)
  · replace hf := it_pos hc hf
    refine lv_iload_n hx hb dX12_marchIt_22 rfl (lv_at hl 1 rfl) ?_
    refine lv_aload_n hx hb dX12_marchIt_23 rfl (lv_at hl 0 rfl) ?_
    refine mg_3 E hP dX12_marchIt_24 ?_
    refine lv_bipush (v := 13) hx hb dX12_marchIt_27 (by decide) ?_
    refine lv_iload_n hx hb dX12_marchIt_29 rfl (lv_at hl 2 rfl) ?_
    refine lv_iadd hx hb dX12_marchIt_30 ?_
    obtain ⟨hi, hf⟩ := gi_some hf
    refine ml_3 E hP hi dX12_marchIt_31 ?_
    refine lv_icmp_le (tgt := 39) hx hb dX12_marchIt_32 (by decide) (fun hc => ?_) (fun hc => ?_)
    · replace hf := it_pos hc hf
      refine lv_iconst (v := 0) hx hb dX12_marchIt_39 (by decide) ?_
      exact B40 a0 a1 (0 : Int32) st14 _ _ ls hf hl hP hS
    · replace hf := it_neg hc hf
      refine lv_iconst (v := 2) hx hb dX12_marchIt_35 (by decide) ?_
      refine lv_goto (tgt := 40) hx hb dX12_marchIt_36 (by decide) ?_
      exact B40 a0 a1 (2 : Int32) st14 _ _ ls hf hl hP hS
  · replace hf := it_neg hc hf
    refine lv_iconst (v := 1) hx hb dX12_marchIt_18 (by decide) ?_
    refine lv_goto (tgt := 40) hx hb dX12_marchIt_19 (by decide) ?_
    exact B40 a0 a1 (1 : Int32) st14 _ _ ls hf hl hP hS
theorem qX12_marchIt : yX12_marchIt.cls = RX12 ∧ yX12_marchIt.cls ≠ "java/lang/invoke/MethodHandle" ∧ yX12_marchIt.cls ≠ "java/lang/invoke/VarHandle" ∧ (parseMethodDescriptor yX12_marchIt.desc).map (fun d => d.parameters.length) = some 2 := by decide +kernel
def fX12_marchNow (a0 : Int32) (a1 : Int32) (st : St) : Option (Int32 × St) := bs (fX12_in (a0.toInt64) (1 : Int64) (99 : Int64)) (fun r1 => if r1 = 0 then (some ((-1 : Int32), st)) else (bd (fX12_isFort a1 st) (fun r2 st3 => if r2 = 0 then (some ((-2 : Int32), st3)) else (bd (fX12_canMarch a1 st3) (fun r4 st5 => if r4 = 0 then (some ((-3 : Int32), st5)) else (bd (fX12_remember (3 : Int32) st5) (fun r6 st7 => bd (fX12_marchIt a0 a1 st7) (fun r8 st9 => some (r8, st9)))))))))
set_option maxHeartbeats 4000000 in
set_option maxRecDepth 100000 in
theorem tX12_marchNow (l : Launch) (D : va_G) (cy : Nat → ClassId) (ad : Nat → Nat) (hJ : (mads ad).Nodup) (sz : Nat) (a0 : Int32) (a1 : Int32) (st : St) (rr : Int32) (st' : St) (hf : fX12_marchNow a0 a1 st = some (rr, st')) : Met l yX12_marchNow (Cond.code yX12_marchNow cX12_marchNow 3 (some .int) :: TT) (rmD 8) (mPc D cy ad [.int a0, .int a1] st sz) (mQi D cy ad rr st' sz) 0 0 (mA ad sz) := by
  refine m_meti (by decide) hJ (Nat.le_of_ble_eq_true rfl) (fun p e s m args below meth c ls E hx hb hr hlocks hown hT hD hl hP hS => ?_)
  replace hl : lv_has ls 3 [(0, .ref (ad 100)), (1, .int a0), (2, .int a1)] := hl
  unfold fX12_marchNow at hf
  refine lv_iload_n hx hb dX12_marchNow_0 rfl (lv_at hl 1 rfl) ?_
  refine lv_i2l (v := a0.toInt64) hx hb dX12_marchNow_1 rfl ?_
  refine lv_lconst (v := 1) hx hb dX12_marchNow_2 (by decide) ?_
  refine lv_ldc2 (v := 99) hx hb hown (hT _ k_1365) dX12_marchNow_3 ?_
  obtain ⟨r1, hc, hf⟩ := bs_some hf
  refine s_calli (n := 3) (rest := []) E.1 (tX12_in l _ (a0.toInt64) (1 : Int64) (99 : Int64) r1 hc) (gS k_1350 k_1351 k_14 k_1352) qX12_in ⟨Nat.le_of_ble_eq_true rfl, Nat.le_of_ble_eq_true rfl⟩ ⟨Nat.le_refl _, Nat.le_refl _⟩ rfl hl.1 rfl (Nat.le_of_ble_eq_true rfl) dX12_marchNow_6 ?_
  refine lv_if_ne (tgt := 14) hx hb dX12_marchNow_9 (by decide) (fun hc => ?_) (fun hc => ?_)
  · replace hf := it_neg hc hf
    refine lv_aload_n hx hb dX12_marchNow_14 rfl (lv_at hl 0 rfl) ?_
    refine lv_iload_n hx hb dX12_marchNow_15 rfl (lv_at hl 2 rfl) ?_
    obtain ⟨r2, st3, hc, hf⟩ := bd_some hf
    refine m_calli (n := 1) (rest := []) E hP hS (fun sz => tX12_isFort l D cy ad hJ sz a1 st r2 st3 hc) (gV k_1371 k_1373 ks_40 k_14 k_1374) qX12_isFort ⟨Nat.le_of_ble_eq_true rfl, Nat.le_of_ble_eq_true rfl⟩ ⟨Nat.le_refl _, Nat.le_refl _⟩ rfl hl.1 rfl (Nat.le_of_ble_eq_true rfl) dX12_marchNow_16 (fun H locs hP hS => ?_)
    refine lv_if_ne (tgt := 25) hx hb dX12_marchNow_19 (by decide) (fun hc => ?_) (fun hc => ?_)
    · replace hf := it_neg hc hf
      refine lv_aload_n hx hb dX12_marchNow_25 rfl (lv_at hl 0 rfl) ?_
      refine lv_iload_n hx hb dX12_marchNow_26 rfl (lv_at hl 2 rfl) ?_
      obtain ⟨r4, st5, hc, hf⟩ := bd_some hf
      refine m_calli (n := 1) (rest := []) E hP hS (fun sz => tX12_canMarch l D cy ad hJ sz a1 st3 r4 st5 hc) (gV k_1654 k_1656 ks_84 k_14 k_1657) qX12_canMarch ⟨Nat.le_of_ble_eq_true rfl, Nat.le_of_ble_eq_true rfl⟩ ⟨Nat.le_refl _, Nat.le_refl _⟩ rfl hl.1 rfl (Nat.le_of_ble_eq_true rfl) dX12_marchNow_27 (fun H locs hP hS => ?_)
      refine lv_if_ne (tgt := 36) hx hb dX12_marchNow_30 (by decide) (fun hc => ?_) (fun hc => ?_)
      · replace hf := it_neg hc hf
        refine lv_aload_n hx hb dX12_marchNow_36 rfl (lv_at hl 0 rfl) ?_
        refine lv_iconst (v := 3) hx hb dX12_marchNow_37 (by decide) ?_
        obtain ⟨r6, st7, hc, hf⟩ := bd_some hf
        refine m_callv (n := 1) (rest := []) E hP hS (fun sz => tX12_remember l D cy ad hJ sz (3 : Int32) st5 r6 st7 hc) (gV k_1621 k_1623 ks_79 k_14 k_1624) qX12_remember ⟨Nat.le_of_ble_eq_true rfl, Nat.le_of_ble_eq_true rfl⟩ ⟨Nat.le_refl _, Nat.le_refl _⟩ rfl hl.1 rfl (Nat.le_of_ble_eq_true rfl) dX12_marchNow_38 (fun H locs hP hS => ?_)
        refine lv_aload_n hx hb dX12_marchNow_41 rfl (lv_at hl 0 rfl) ?_
        refine lv_iload_n hx hb dX12_marchNow_42 rfl (lv_at hl 1 rfl) ?_
        refine lv_iload_n hx hb dX12_marchNow_43 rfl (lv_at hl 2 rfl) ?_
        obtain ⟨r8, st9, hc, hf⟩ := bd_some hf
        refine m_calli (n := 2) (rest := []) E hP hS (fun sz => tX12_marchIt l D cy ad hJ sz a0 a1 st7 r8 st9 hc) (gV k_1658 k_1660 ks_85 k_14 k_1661) qX12_marchIt ⟨Nat.le_of_ble_eq_true rfl, Nat.le_of_ble_eq_true rfl⟩ ⟨Nat.le_refl _, Nat.le_refl _⟩ rfl hl.1 rfl (Nat.le_of_ble_eq_true rfl) dX12_marchNow_44 (fun H locs hP hS => ?_)
        exact m_iret hx hb hr hlocks hf hP hS dX12_marchNow_47
      · replace hf := it_pos hc hf
        refine lv_bipush (v := -3) hx hb dX12_marchNow_33 (by decide) ?_
        exact m_iret hx hb hr hlocks hf hP hS dX12_marchNow_35
    · replace hf := it_pos hc hf
      refine lv_bipush (v := -2) hx hb dX12_marchNow_22 (by decide) ?_
      exact m_iret hx hb hr hlocks hf hP hS dX12_marchNow_24
  · replace hf := it_pos hc hf
    refine lv_iconst (v := -1) hx hb dX12_marchNow_12 (by decide) ?_
    exact m_iret hx hb hr hlocks hf hP hS dX12_marchNow_13
theorem qX12_marchNow : yX12_marchNow.cls = RX12 ∧ yX12_marchNow.cls ≠ "java/lang/invoke/MethodHandle" ∧ yX12_marchNow.cls ≠ "java/lang/invoke/VarHandle" ∧ (parseMethodDescriptor yX12_marchNow.desc).map (fun d => d.parameters.length) = some 2 := by decide +kernel
def fX12_march (a0 : Int32) (a1 : Int32) (st : St) : Option (Int32 × St) := lt (sI st 0 (0 : Int32)) (fun st1 => bd (fX12_marchNow a0 a1 st1) (fun r2 st3 => bd (fX12_tell r2 st3) (fun r4 st5 => some (r4, st5))))
set_option maxHeartbeats 4000000 in
set_option maxRecDepth 100000 in
theorem tX12_march (l : Launch) (D : va_G) (cy : Nat → ClassId) (ad : Nat → Nat) (hJ : (mads ad).Nodup) (sz : Nat) (a0 : Int32) (a1 : Int32) (st : St) (rr : Int32) (st' : St) (hf : fX12_march a0 a1 st = some (rr, st')) : Met l yX12_march (Cond.code yX12_march cX12_march 3 (some .int) :: TT) (rmD 9) (mPc D cy ad [.int a0, .int a1] st sz) (mQi D cy ad rr st' sz) 0 0 (mA ad sz) := by
  refine m_meti (by decide) hJ (Nat.le_of_ble_eq_true rfl) (fun p e s m args below meth c ls E hx hb hr hlocks hown hT hD hl hP hS => ?_)
  replace hl : lv_has ls 3 [(0, .ref (ad 100)), (1, .int a0), (2, .int a1)] := hl
  unfold fX12_march at hf
  refine lv_aload_n hx hb dX12_march_0 rfl (lv_at hl 0 rfl) ?_
  refine lv_iconst (v := 0) hx hb dX12_march_1 (by decide) ?_
  refine mp_0 E hD hP hS dX12_march_2 (fun st1 H locs ex hP hS => ?_)
  replace hf := lt_at ex hf; clear ex
  refine lv_aload_n hx hb dX12_march_5 rfl (lv_at hl 0 rfl) ?_
  refine lv_aload_n hx hb dX12_march_6 rfl (lv_at hl 0 rfl) ?_
  refine lv_iload_n hx hb dX12_march_7 rfl (lv_at hl 1 rfl) ?_
  refine lv_iload_n hx hb dX12_march_8 rfl (lv_at hl 2 rfl) ?_
  obtain ⟨r2, st3, hc, hf⟩ := bd_some hf
  refine m_calli (n := 2) (rest := [.ref (ad 100)]) E hP hS (fun sz => tX12_marchNow l D cy ad hJ sz a0 a1 st1 r2 st3 hc) (gV k_1650 k_1652 ks_83 k_14 k_1653) qX12_marchNow ⟨Nat.le_of_ble_eq_true rfl, Nat.le_of_ble_eq_true rfl⟩ ⟨Nat.le_refl _, Nat.le_refl _⟩ rfl hl.1 rfl (Nat.le_of_ble_eq_true rfl) dX12_march_9 (fun H locs hP hS => ?_)
  obtain ⟨r4, st5, hc, hf⟩ := bd_some hf
  refine m_calli (n := 1) (rest := []) E hP hS (fun sz => tX12_tell l D cy ad hJ sz r2 st3 r4 st5 hc) (gV k_1338 k_1340 ks_37 k_14 k_1341) qX12_tell ⟨Nat.le_of_ble_eq_true rfl, Nat.le_of_ble_eq_true rfl⟩ ⟨Nat.le_refl _, Nat.le_refl _⟩ rfl hl.1 rfl (Nat.le_of_ble_eq_true rfl) dX12_march_12 (fun H locs hP hS => ?_)
  exact m_iret hx hb hr hlocks hf hP hS dX12_march_15
theorem qX12_march : yX12_march.cls = RX12 ∧ yX12_march.cls ≠ "java/lang/invoke/MethodHandle" ∧ yX12_march.cls ≠ "java/lang/invoke/VarHandle" ∧ (parseMethodDescriptor yX12_march.desc).map (fun d => d.parameters.length) = some 2 := by decide +kernel
def fX12_bluff_b48 (st : St) : Option (Int32 × St) := some ((-1 : Int32), st)
def fX12_bluff_b206 (w0 : Int32) (st : St) : Option (Int32 × St) := some (w0, st)
def fX12_bluff_b199 (v5 : Int32) (st : St) : Option (Int32 × St) := fX12_bluff_b206 v5 st
def fX12_bluff_b182 (k61 : Int32 → Int32 → Int32 → Int32 → Int32 → Int32 → St → Option (Int32 × St)) (v1 : Int32) (v2 : Int32) (v3 : Int32) (v4 : Int32) (v5 : Int32) (v6 : Int32) (st : St) : Option (Int32 × St) := lt (v6 + (1 : Int32)) (fun x1 => k61 v1 v2 v3 v4 v5 x1 st)
def fX12_bluff_b151 (k61 : Int32 → Int32 → Int32 → Int32 → Int32 → Int32 → St → Option (Int32 × St)) (v1 : Int32) (v2 : Int32) (v3 : Int32) (v4 : Int32) (v5 : Int32) (v6 : Int32) (v7 : Int32) (v8 : Int32) (st : St) : Option (Int32 × St) := if v8 = 0 then (fX12_bluff_b182 k61 v1 v2 v3 v4 v5 v6 st) else (if v4 ≤ v7 then (fX12_bluff_b182 k61 v1 v2 v3 v4 v5 v6 st) else (bd (fX12_isTurned v1 v2 v6 st) (fun r2 st3 => if r2 = 0 then (fX12_bluff_b182 k61 v1 v2 v3 v4 v5 v6 st3) else (fX12_bluff_b182 k61 v1 v2 v3 v7 v6 v6 st3))))
def fX12_bluff_b145 (k61 : Int32 → Int32 → Int32 → Int32 → Int32 → Int32 → St → Option (Int32 × St)) (k77 : Int32 → Int32 → Int32 → Int32 → Int32 → Int32 → Int32 → Int32 → Int32 → St → Option (Int32 × St)) (v1 : Int32) (v2 : Int32) (v3 : Int32) (v4 : Int32) (v5 : Int32) (v6 : Int32) (v7 : Int32) (v8 : Int32) (v9 : Int32) (st : St) : Option (Int32 × St) := lt (v9 + (1 : Int32)) (fun x4 => k77 v1 v2 v3 v4 v5 v6 v7 v8 x4 st)
def fX12_bluff_b131 (k61 : Int32 → Int32 → Int32 → Int32 → Int32 → Int32 → St → Option (Int32 × St)) (k77 : Int32 → Int32 → Int32 → Int32 → Int32 → Int32 → Int32 → Int32 → Int32 → St → Option (Int32 × St)) (v1 : Int32) (v2 : Int32) (v3 : Int32) (v4 : Int32) (v5 : Int32) (v6 : Int32) (v7 : Int32) (v9 : Int32) (w0 : Int32) (st : St) : Option (Int32 × St) := bd (fX12_paysOf v1 v9 st) (fun r5 st6 => lt (v7 + r5) (fun x7 => fX12_bluff_b145 k61 k77 v1 v2 v3 v4 v5 v6 x7 w0 v9 st6))
def fX12_bluff_b126 (k61 : Int32 → Int32 → Int32 → Int32 → Int32 → Int32 → St → Option (Int32 × St)) (k77 : Int32 → Int32 → Int32 → Int32 → Int32 → Int32 → Int32 → Int32 → Int32 → St → Option (Int32 × St)) (v1 : Int32) (v2 : Int32) (v3 : Int32) (v4 : Int32) (v5 : Int32) (v6 : Int32) (v7 : Int32) (v9 : Int32) (st : St) : Option (Int32 × St) := fX12_bluff_b131 k61 k77 v1 v2 v3 v4 v5 v6 v7 v9 (1 : Int32) st
def fX12_bluff_b77 (k61 : Int32 → Int32 → Int32 → Int32 → Int32 → Int32 → St → Option (Int32 × St)) (k77 : Int32 → Int32 → Int32 → Int32 → Int32 → Int32 → Int32 → Int32 → Int32 → St → Option (Int32 × St)) (v1 : Int32) (v2 : Int32) (v3 : Int32) (v4 : Int32) (v5 : Int32) (v6 : Int32) (v7 : Int32) (v8 : Int32) (v9 : Int32) (st : St) : Option (Int32 × St) := if (6 : Int32) ≤ v9 then (fX12_bluff_b151 k61 v1 v2 v3 v4 v5 v6 v7 v8 st) else (if v8 = 0 then (fX12_bluff_b151 k61 v1 v2 v3 v4 v5 v6 v7 v8 st) else (bs (fX12_is v6 v9) (fun r8 => if r8 = 0 then (fX12_bluff_b145 k61 k77 v1 v2 v3 v4 v5 v6 v7 v8 v9 st) else (gi ((19 : Int32) + v1) 5550 (bs (fX12_is (st.2.2.1 3 ((19 : Int32) + v1).toNatClampNeg) v9) (fun r9 => if r9 = 0 then (bd (fX12_isBarred v1 v9 st) (fun r10 st11 => if r10 = 0 then (fX12_bluff_b126 k61 k77 v1 v2 v3 v4 v5 v6 v7 v9 st11) else (fX12_bluff_b131 k61 k77 v1 v2 v3 v4 v5 v6 v7 v9 (0 : Int32) st11))) else (fX12_bluff_b126 k61 k77 v1 v2 v3 v4 v5 v6 v7 v9 st)))))))
def fX12_bluff_b61 (k61 : Int32 → Int32 → Int32 → Int32 → Int32 → Int32 → St → Option (Int32 × St)) (v1 : Int32) (v2 : Int32) (v3 : Int32) (v4 : Int32) (v5 : Int32) (v6 : Int32) (st : St) : Option (Int32 × St) := if (64 : Int32) ≤ v6 then (if v5 = (-1 : Int32) then (fX12_bluff_b199 v5 st) else (if v3 = (1 : Int32) then (fX12_bluff_b199 v5 st) else (fX12_bluff_b206 v4 st))) else (lp (fun _ _ _ _ _ _ _ _ _ _ => none) (fX12_bluff_b77 k61) 6000 v1 v2 v3 v4 v5 v6 (0 : Int32) (1 : Int32) (0 : Int32) st)
def fX12_bluff (a0 : Int32) (a1 : Int32) (a2 : Int32) (st : St) : Option (Int32 × St) := lt (sI st 0 (0 : Int32)) (fun st12 => bd (fX12_isFort a0 st12) (fun r13 st14 => if r13 = 0 then (fX12_bluff_b48 st14) else (gi ((25 : Int32) + a0) 5550 (if (st14.2.2.1 3 ((25 : Int32) + a0).toNatClampNeg) = (1 : Int32) then (fX12_bluff_b48 st14) else (bs (fX12_in (a1.toInt64) (1 : Int64) (99 : Int64)) (fun r15 => if r15 = 0 then (fX12_bluff_b48 st14) else (bs (fX12_in (a2.toInt64) (0 : Int64) (1 : Int64)) (fun r16 => if r16 = 0 then (fX12_bluff_b48 st14) else (lp (fun _ _ _ _ _ _ _ => none) (fX12_bluff_b61) 6000 a0 a1 a2 (100000000 : Int32) (-1 : Int32) (0 : Int32) st14)))))))))
set_option maxHeartbeats 4000000 in
set_option maxRecDepth 100000 in
theorem tX12_bluff (l : Launch) (D : va_G) (cy : Nat → ClassId) (ad : Nat → Nat) (hJ : (mads ad).Nodup) (sz : Nat) (a0 : Int32) (a1 : Int32) (a2 : Int32) (st : St) (rr : Int32) (st' : St) (hf : fX12_bluff a0 a1 a2 st = some (rr, st')) : Met l yX12_bluff (Cond.code yX12_bluff cX12_bluff 10 (some .int) :: TT) (rmD 7) (mPc D cy ad [.int a0, .int a1, .int a2] st sz) (mQi D cy ad rr st' sz) 0 0 (mA ad sz) := by
  refine m_meti (by decide) hJ (Nat.le_of_ble_eq_true rfl) (fun p e s m args below meth c ls E hx hb hr hlocks hown hT hD hl hP hS => ?_)
  replace hl : lv_has ls 10 [(0, .ref (ad 100)), (1, .int a0), (2, .int a1), (3, .int a2)] := hl
  unfold fX12_bluff at hf
  have B48 : ∀ (st : St) (H : Heap) (locs : List Loc) (ls : Array Slot), fX12_bluff_b48 st = some (rr, st') → lv_has ls 10 [] → va_P D classes (mw cy ad st) H → va_S (mA ad s.heap.size) s.heap H locs → mGi l 7 D cy ad rr st' p e s m args below meth c H locs (F0 m 48 ls []) := by
    intro st H locs ls hf hl hP hS
    unfold fX12_bluff_b48 at hf
    refine lv_iconst (v := -1) hx hb dX12_bluff_48 (by decide) ?_
    exact m_iret hx hb hr hlocks hf hP hS dX12_bluff_49
  have B206 : ∀ (w0 : Int32) (st : St) (H : Heap) (locs : List Loc) (ls : Array Slot), fX12_bluff_b206 w0 st = some (rr, st') → lv_has ls 10 [] → va_P D classes (mw cy ad st) H → va_S (mA ad s.heap.size) s.heap H locs → mGi l 7 D cy ad rr st' p e s m args below meth c H locs (F0 m 206 ls [.int w0]) := by
    intro w0 st H locs ls hf hl hP hS
    unfold fX12_bluff_b206 at hf
    exact m_iret hx hb hr hlocks hf hP hS dX12_bluff_206
  have B199 : ∀ (v5 : Int32) (st : St) (H : Heap) (locs : List Loc) (ls : Array Slot), fX12_bluff_b199 v5 st = some (rr, st') → lv_has ls 10 [(5, .int v5)] → va_P D classes (mw cy ad st) H → va_S (mA ad s.heap.size) s.heap H locs → mGi l 7 D cy ad rr st' p e s m args below meth c H locs (F0 m 199 ls []) := by
    intro v5 st H locs ls hf hl hP hS
    unfold fX12_bluff_b199 at hf
    refine lv_iload hx hb dX12_bluff_199 (lv_at hl 0 rfl) ?_
    refine lv_goto (tgt := 206) hx hb dX12_bluff_201 (by decide) ?_
    exact B206 v5 st _ _ ls hf (lv_sub hl [] rfl) hP hS
  have L61 : ∀ (n : Nat) (v1 : Int32) (v2 : Int32) (v3 : Int32) (v4 : Int32) (v5 : Int32) (v6 : Int32) (st : St) (H : Heap) (locs : List Loc) (ls : Array Slot), lp (fun _ _ _ _ _ _ _ => none) (fX12_bluff_b61) n v1 v2 v3 v4 v5 v6 st = some (rr, st') → lv_has ls 10 [(0, .ref (ad 100)), (1, .int v1), (2, .int v2), (3, .int v3), (4, .int v4), (5, .int v5), (6, .int v6)] → va_P D classes (mw cy ad st) H → va_S (mA ad s.heap.size) s.heap H locs → mGi l 7 D cy ad rr st' p e s m args below meth c H locs (F0 m 61 ls []) := by
    intro n
    induction n with
    | zero => intro v1 v2 v3 v4 v5 v6 st H locs ls hf; exact absurd hf (fun h => by cases h)
    | succ n K61 =>
      intro v1 v2 v3 v4 v5 v6 st H locs ls hf hl hP hS
      replace hf : fX12_bluff_b61 (lp (fun _ _ _ _ _ _ _ => none) (fX12_bluff_b61) n) v1 v2 v3 v4 v5 v6 st = some (rr, st') := hf
      generalize lp (fun _ _ _ _ _ _ _ => none) (fX12_bluff_b61) n = k61 at hf K61
      have B182 : ∀ (v1 : Int32) (v2 : Int32) (v3 : Int32) (v4 : Int32) (v5 : Int32) (v6 : Int32) (st : St) (H : Heap) (locs : List Loc) (ls : Array Slot), fX12_bluff_b182 k61 v1 v2 v3 v4 v5 v6 st = some (rr, st') → lv_has ls 10 [(0, .ref (ad 100)), (1, .int v1), (2, .int v2), (3, .int v3), (4, .int v4), (5, .int v5), (6, .int v6)] → va_P D classes (mw cy ad st) H → va_S (mA ad s.heap.size) s.heap H locs → mGi l 7 D cy ad rr st' p e s m args below meth c H locs (F0 m 182 ls []) := by
        intro v1 v2 v3 v4 v5 v6 st H locs ls hf hl hP hS
        unfold fX12_bluff_b182 at hf
        obtain ⟨x1, ex⟩ : ∃ y : Int32, y = v6 + (1 : Int32) := ⟨_, rfl⟩
        replace hf := lt_at ex hf
        refine lv_iinc (v := x1) (lv' := [(6, .int x1), (0, .ref (ad 100)), (1, .int v1), (2, .int v2), (3, .int v3), (4, .int v4), (5, .int v5)]) hx hb dX12_bluff_182 hl (k := 6) rfl (by rw [ex]; rfl) (by decide) rfl (fun ls hl => ?_)
        clear ex
        refine lv_goto (tgt := 61) hx hb dX12_bluff_185 (by decide) ?_
        exact K61 v1 v2 v3 v4 v5 x1 st _ _ ls hf (lv_sub hl [1, 2, 3, 4, 5, 6, 0] rfl) hP hS
      have B151 : ∀ (v1 : Int32) (v2 : Int32) (v3 : Int32) (v4 : Int32) (v5 : Int32) (v6 : Int32) (v7 : Int32) (v8 : Int32) (st : St) (H : Heap) (locs : List Loc) (ls : Array Slot), fX12_bluff_b151 k61 v1 v2 v3 v4 v5 v6 v7 v8 st = some (rr, st') → lv_has ls 10 [(0, .ref (ad 100)), (1, .int v1), (2, .int v2), (3, .int v3), (4, .int v4), (5, .int v5), (6, .int v6), (7, .int v7), (8, .int v8)] → va_P D classes (mw cy ad st) H → va_S (mA ad s.heap.size) s.heap H locs → mGi l 7 D cy ad rr st' p e s m args below meth c H locs (F0 m 151 ls []) := by
        intro v1 v2 v3 v4 v5 v6 v7 v8 st H locs ls hf hl hP hS
        unfold fX12_bluff_b151 at hf
        refine lv_iload hx hb dX12_bluff_151 (lv_at hl 8 rfl) ?_
        refine lv_if_eq (tgt := 182) hx hb dX12_bluff_153 (by decide) (fun hc => ?_) (fun hc => ?_)
        · replace hf := it_pos hc hf
          exact B182 v1 v2 v3 v4 v5 v6 st _ _ ls hf (lv_sub hl [0, 1, 2, 3, 4, 5, 6] rfl) hP hS
        · replace hf := it_neg hc hf
          refine lv_iload hx hb dX12_bluff_156 (lv_at hl 7 rfl) ?_
          refine lv_iload hx hb dX12_bluff_158 (lv_at hl 4 rfl) ?_
          refine lv_icmp_ge (tgt := 182) hx hb dX12_bluff_160 (by decide) (fun hc => ?_) (fun hc => ?_)
          · replace hf := it_pos hc hf
            exact B182 v1 v2 v3 v4 v5 v6 st _ _ ls hf (lv_sub hl [0, 1, 2, 3, 4, 5, 6] rfl) hP hS
          · replace hf := it_neg hc hf
            refine lv_aload_n hx hb dX12_bluff_163 rfl (lv_at hl 0 rfl) ?_
            refine lv_iload_n hx hb dX12_bluff_164 rfl (lv_at hl 1 rfl) ?_
            refine lv_iload_n hx hb dX12_bluff_165 rfl (lv_at hl 2 rfl) ?_
            refine lv_iload hx hb dX12_bluff_166 (lv_at hl 6 rfl) ?_
            obtain ⟨r2, st3, hc, hf⟩ := bd_some hf
            refine m_calli (n := 3) (rest := []) E hP hS (fun sz => tX12_isTurned l D cy ad hJ sz v1 v2 v6 st r2 st3 hc) (gV k_1605 k_1607 ks_76 k_14 k_1608) qX12_isTurned ⟨Nat.le_of_ble_eq_true rfl, Nat.le_of_ble_eq_true rfl⟩ ⟨Nat.le_refl _, Nat.le_refl _⟩ rfl hl.1 rfl (Nat.le_of_ble_eq_true rfl) dX12_bluff_168 (fun H locs hP hS => ?_)
            refine lv_if_eq (tgt := 182) hx hb dX12_bluff_171 (by decide) (fun hc => ?_) (fun hc => ?_)
            · replace hf := it_pos hc hf
              exact B182 v1 v2 v3 v4 v5 v6 st3 _ _ ls hf (lv_sub hl [0, 1, 2, 3, 4, 5, 6] rfl) hP hS
            · replace hf := it_neg hc hf
              refine lv_iload hx hb dX12_bluff_174 (lv_at hl 7 rfl) ?_
              refine lv_istore (lv' := [(4, .int v7), (0, .ref (ad 100)), (1, .int v1), (2, .int v2), (3, .int v3), (5, .int v5), (6, .int v6), (7, .int v7), (8, .int v8)]) hx hb dX12_bluff_176 hl (by decide) rfl (fun ls hl => ?_)
              refine lv_iload hx hb dX12_bluff_178 (lv_at hl 6 rfl) ?_
              refine lv_istore (lv' := [(5, .int v6), (4, .int v7), (0, .ref (ad 100)), (1, .int v1), (2, .int v2), (3, .int v3), (6, .int v6), (7, .int v7), (8, .int v8)]) hx hb dX12_bluff_180 hl (by decide) rfl (fun ls hl => ?_)
              exact B182 v1 v2 v3 v7 v6 v6 st3 _ _ ls hf (lv_sub hl [2, 3, 4, 5, 1, 0, 6] rfl) hP hS
      have L77 : ∀ (n : Nat) (v1 : Int32) (v2 : Int32) (v3 : Int32) (v4 : Int32) (v5 : Int32) (v6 : Int32) (v7 : Int32) (v8 : Int32) (v9 : Int32) (st : St) (H : Heap) (locs : List Loc) (ls : Array Slot), lp (fun _ _ _ _ _ _ _ _ _ _ => none) (fX12_bluff_b77 k61) n v1 v2 v3 v4 v5 v6 v7 v8 v9 st = some (rr, st') → lv_has ls 10 [(0, .ref (ad 100)), (1, .int v1), (2, .int v2), (3, .int v3), (4, .int v4), (5, .int v5), (6, .int v6), (7, .int v7), (8, .int v8), (9, .int v9)] → va_P D classes (mw cy ad st) H → va_S (mA ad s.heap.size) s.heap H locs → mGi l 7 D cy ad rr st' p e s m args below meth c H locs (F0 m 77 ls []) := by
        intro n
        induction n with
        | zero => intro v1 v2 v3 v4 v5 v6 v7 v8 v9 st H locs ls hf; exact absurd hf (fun h => by cases h)
        | succ n K77 =>
          intro v1 v2 v3 v4 v5 v6 v7 v8 v9 st H locs ls hf hl hP hS
          replace hf : fX12_bluff_b77 k61 (lp (fun _ _ _ _ _ _ _ _ _ _ => none) (fX12_bluff_b77 k61) n) v1 v2 v3 v4 v5 v6 v7 v8 v9 st = some (rr, st') := hf
          generalize lp (fun _ _ _ _ _ _ _ _ _ _ => none) (fX12_bluff_b77 k61) n = k77 at hf K77
          have B145 : ∀ (v1 : Int32) (v2 : Int32) (v3 : Int32) (v4 : Int32) (v5 : Int32) (v6 : Int32) (v7 : Int32) (v8 : Int32) (v9 : Int32) (st : St) (H : Heap) (locs : List Loc) (ls : Array Slot), fX12_bluff_b145 k61 k77 v1 v2 v3 v4 v5 v6 v7 v8 v9 st = some (rr, st') → lv_has ls 10 [(0, .ref (ad 100)), (1, .int v1), (2, .int v2), (3, .int v3), (4, .int v4), (5, .int v5), (6, .int v6), (7, .int v7), (8, .int v8), (9, .int v9)] → va_P D classes (mw cy ad st) H → va_S (mA ad s.heap.size) s.heap H locs → mGi l 7 D cy ad rr st' p e s m args below meth c H locs (F0 m 145 ls []) := by
            intro v1 v2 v3 v4 v5 v6 v7 v8 v9 st H locs ls hf hl hP hS
            unfold fX12_bluff_b145 at hf
            obtain ⟨x4, ex⟩ : ∃ y : Int32, y = v9 + (1 : Int32) := ⟨_, rfl⟩
            replace hf := lt_at ex hf
            refine lv_iinc (v := x4) (lv' := [(9, .int x4), (0, .ref (ad 100)), (1, .int v1), (2, .int v2), (3, .int v3), (4, .int v4), (5, .int v5), (6, .int v6), (7, .int v7), (8, .int v8)]) hx hb dX12_bluff_145 hl (k := 9) rfl (by rw [ex]; rfl) (by decide) rfl (fun ls hl => ?_)
            clear ex
            refine lv_goto (tgt := 77) hx hb dX12_bluff_148 (by decide) ?_
            exact K77 v1 v2 v3 v4 v5 v6 v7 v8 x4 st _ _ ls hf (lv_sub hl [1, 2, 3, 4, 5, 6, 7, 8, 9, 0] rfl) hP hS
          have B131 : ∀ (v1 : Int32) (v2 : Int32) (v3 : Int32) (v4 : Int32) (v5 : Int32) (v6 : Int32) (v7 : Int32) (v9 : Int32) (w0 : Int32) (st : St) (H : Heap) (locs : List Loc) (ls : Array Slot), fX12_bluff_b131 k61 k77 v1 v2 v3 v4 v5 v6 v7 v9 w0 st = some (rr, st') → lv_has ls 10 [(0, .ref (ad 100)), (1, .int v1), (2, .int v2), (3, .int v3), (4, .int v4), (5, .int v5), (6, .int v6), (7, .int v7), (9, .int v9)] → va_P D classes (mw cy ad st) H → va_S (mA ad s.heap.size) s.heap H locs → mGi l 7 D cy ad rr st' p e s m args below meth c H locs (F0 m 131 ls [.int w0]) := by
            intro v1 v2 v3 v4 v5 v6 v7 v9 w0 st H locs ls hf hl hP hS
            unfold fX12_bluff_b131 at hf
            refine lv_istore (lv' := [(8, .int w0), (0, .ref (ad 100)), (1, .int v1), (2, .int v2), (3, .int v3), (4, .int v4), (5, .int v5), (6, .int v6), (7, .int v7), (9, .int v9)]) hx hb dX12_bluff_131 hl (by decide) rfl (fun ls hl => ?_)
            refine lv_iload hx hb dX12_bluff_133 (lv_at hl 8 rfl) ?_
            refine lv_aload_n hx hb dX12_bluff_135 rfl (lv_at hl 1 rfl) ?_
            refine lv_iload_n hx hb dX12_bluff_136 rfl (lv_at hl 2 rfl) ?_
            refine lv_iload hx hb dX12_bluff_137 (lv_at hl 9 rfl) ?_
            obtain ⟨r5, st6, hc, hf⟩ := bd_some hf
            refine m_calli (n := 2) (rest := [.int v7]) E hP hS (fun sz => tX12_paysOf l D cy ad hJ sz v1 v9 st r5 st6 hc) (gV k_1566 k_1568 ks_68 k_14 k_1569) qX12_paysOf ⟨Nat.le_of_ble_eq_true rfl, Nat.le_of_ble_eq_true rfl⟩ ⟨Nat.le_refl _, Nat.le_refl _⟩ rfl hl.1 rfl (Nat.le_of_ble_eq_true rfl) dX12_bluff_139 (fun H locs hP hS => ?_)
            refine lv_iadd hx hb dX12_bluff_142 ?_
            refine lv_topi (fun x7 ex => ?_)
            replace hf := lt_at ex hf; clear ex
            refine lv_istore (lv' := [(7, .int x7), (8, .int w0), (0, .ref (ad 100)), (1, .int v1), (2, .int v2), (3, .int v3), (4, .int v4), (5, .int v5), (6, .int v6), (9, .int v9)]) hx hb dX12_bluff_143 hl (by decide) rfl (fun ls hl => ?_)
            exact B145 v1 v2 v3 v4 v5 v6 x7 w0 v9 st6 _ _ ls hf (lv_sub hl [2, 3, 4, 5, 6, 7, 8, 0, 1, 9] rfl) hP hS
          have B126 : ∀ (v1 : Int32) (v2 : Int32) (v3 : Int32) (v4 : Int32) (v5 : Int32) (v6 : Int32) (v7 : Int32) (v9 : Int32) (st : St) (H : Heap) (locs : List Loc) (ls : Array Slot), fX12_bluff_b126 k61 k77 v1 v2 v3 v4 v5 v6 v7 v9 st = some (rr, st') → lv_has ls 10 [(0, .ref (ad 100)), (1, .int v1), (2, .int v2), (3, .int v3), (4, .int v4), (5, .int v5), (6, .int v6), (7, .int v7), (9, .int v9)] → va_P D classes (mw cy ad st) H → va_S (mA ad s.heap.size) s.heap H locs → mGi l 7 D cy ad rr st' p e s m args below meth c H locs (F0 m 126 ls []) := by
            intro v1 v2 v3 v4 v5 v6 v7 v9 st H locs ls hf hl hP hS
            unfold fX12_bluff_b126 at hf
            refine lv_iconst (v := 1) hx hb dX12_bluff_126 (by decide) ?_
            refine lv_goto (tgt := 131) hx hb dX12_bluff_127 (by decide) ?_
            exact B131 v1 v2 v3 v4 v5 v6 v7 v9 (1 : Int32) st _ _ ls hf hl hP hS
          unfold fX12_bluff_b77 at hf
          refine lv_iload hx hb dX12_bluff_77 (lv_at hl 9 rfl) ?_
          refine lv_bipush (v := 6) hx hb dX12_bluff_79 (by decide) ?_
          refine lv_icmp_ge (tgt := 151) hx hb dX12_bluff_81 (by decide) (fun hc => ?_) (fun hc => ?_)
          · replace hf := it_pos hc hf
            exact B151 v1 v2 v3 v4 v5 v6 v7 v8 st _ _ ls hf (lv_sub hl [0, 1, 2, 3, 4, 5, 6, 7, 8] rfl) hP hS
          · replace hf := it_neg hc hf
            refine lv_iload hx hb dX12_bluff_84 (lv_at hl 8 rfl) ?_
            refine lv_if_eq (tgt := 151) hx hb dX12_bluff_86 (by decide) (fun hc => ?_) (fun hc => ?_)
            · replace hf := it_pos hc hf
              exact B151 v1 v2 v3 v4 v5 v6 v7 v8 st _ _ ls hf (lv_sub hl [0, 1, 2, 3, 4, 5, 6, 7, 8] rfl) hP hS
            · replace hf := it_neg hc hf
              refine lv_iload hx hb dX12_bluff_89 (lv_at hl 6 rfl) ?_
              refine lv_iload hx hb dX12_bluff_91 (lv_at hl 9 rfl) ?_
              obtain ⟨r8, hc, hf⟩ := bs_some hf
              refine s_calli (n := 2) (rest := []) E.1 (tX12_is l _ v6 v9 r8 hc) (gS k_1380 k_1381 k_14 k_1382) qX12_is ⟨Nat.le_of_ble_eq_true rfl, Nat.le_of_ble_eq_true rfl⟩ ⟨Nat.le_refl _, Nat.le_refl _⟩ rfl hl.1 rfl (Nat.le_of_ble_eq_true rfl) dX12_bluff_93 ?_
              refine lv_if_eq (tgt := 145) hx hb dX12_bluff_96 (by decide) (fun hc => ?_) (fun hc => ?_)
              · replace hf := it_pos hc hf
                exact B145 v1 v2 v3 v4 v5 v6 v7 v8 v9 st _ _ ls hf hl hP hS
              · replace hf := it_neg hc hf
                refine lv_aload_n hx hb dX12_bluff_99 rfl (lv_at hl 0 rfl) ?_
                refine mg_3 E hP dX12_bluff_100 ?_
                refine lv_bipush (v := 19) hx hb dX12_bluff_103 (by decide) ?_
                refine lv_iload_n hx hb dX12_bluff_105 rfl (lv_at hl 1 rfl) ?_
                refine lv_iadd hx hb dX12_bluff_106 ?_
                obtain ⟨hi, hf⟩ := gi_some hf
                refine ml_3 E hP hi dX12_bluff_107 ?_
                refine lv_iload hx hb dX12_bluff_108 (lv_at hl 9 rfl) ?_
                obtain ⟨r9, hc, hf⟩ := bs_some hf
                refine s_calli (n := 2) (rest := []) E.1 (tX12_is l _ (st.2.2.1 3 ((19 : Int32) + v1).toNatClampNeg) v9 r9 hc) (gS k_1380 k_1381 k_14 k_1382) qX12_is ⟨Nat.le_of_ble_eq_true rfl, Nat.le_of_ble_eq_true rfl⟩ ⟨Nat.le_refl _, Nat.le_refl _⟩ rfl hl.1 rfl (Nat.le_of_ble_eq_true rfl) dX12_bluff_110 ?_
                refine lv_if_ne (tgt := 126) hx hb dX12_bluff_113 (by decide) (fun hc => ?_) (fun hc => ?_)
                · replace hf := it_neg hc hf
                  exact B126 v1 v2 v3 v4 v5 v6 v7 v9 st _ _ ls hf (lv_sub hl [0, 1, 2, 3, 4, 5, 6, 7, 9] rfl) hP hS
                · replace hf := it_pos hc hf
                  refine lv_aload_n hx hb dX12_bluff_116 rfl (lv_at hl 0 rfl) ?_
                  refine lv_iload_n hx hb dX12_bluff_117 rfl (lv_at hl 1 rfl) ?_
                  refine lv_iload hx hb dX12_bluff_118 (lv_at hl 9 rfl) ?_
                  obtain ⟨r10, st11, hc, hf⟩ := bd_some hf
                  refine m_calli (n := 2) (rest := []) E hP hS (fun sz => tX12_isBarred l D cy ad hJ sz v1 v9 st r10 st11 hc) (gV k_1591 k_1593 ks_73 k_14 k_1594) qX12_isBarred ⟨Nat.le_of_ble_eq_true rfl, Nat.le_of_ble_eq_true rfl⟩ ⟨Nat.le_refl _, Nat.le_refl _⟩ rfl hl.1 rfl (Nat.le_of_ble_eq_true rfl) dX12_bluff_120 (fun H locs hP hS => ?_)
                  refine lv_if_ne (tgt := 130) hx hb dX12_bluff_123 (by decide) (fun hc => ?_) (fun hc => ?_)
                  · replace hf := it_neg hc hf
                    refine lv_iconst (v := 0) hx hb dX12_bluff_130 (by decide) ?_
                    exact B131 v1 v2 v3 v4 v5 v6 v7 v9 (0 : Int32) st11 _ _ ls hf (lv_sub hl [0, 1, 2, 3, 4, 5, 6, 7, 9] rfl) hP hS
                  · replace hf := it_pos hc hf
                    exact B126 v1 v2 v3 v4 v5 v6 v7 v9 st11 _ _ ls hf (lv_sub hl [0, 1, 2, 3, 4, 5, 6, 7, 9] rfl) hP hS
      unfold fX12_bluff_b61 at hf
      refine lv_iload hx hb dX12_bluff_61 (lv_at hl 6 rfl) ?_
      refine lv_bipush (v := 64) hx hb dX12_bluff_63 (by decide) ?_
      refine lv_icmp_ge (tgt := 188) hx hb dX12_bluff_65 (by decide) (fun hc => ?_) (fun hc => ?_)
      · replace hf := it_pos hc hf
        refine lv_iload hx hb dX12_bluff_188 (lv_at hl 5 rfl) ?_
        refine lv_iconst (v := -1) hx hb dX12_bluff_190 (by decide) ?_
        refine lv_icmp_eq (tgt := 199) hx hb dX12_bluff_191 (by decide) (fun hc => ?_) (fun hc => ?_)
        · replace hf := it_pos hc hf
          exact B199 v5 st _ _ ls hf (lv_sub hl [5] rfl) hP hS
        · replace hf := it_neg hc hf
          refine lv_iload_n hx hb dX12_bluff_194 rfl (lv_at hl 3 rfl) ?_
          refine lv_iconst (v := 1) hx hb dX12_bluff_195 (by decide) ?_
          refine lv_icmp_ne (tgt := 204) hx hb dX12_bluff_196 (by decide) (fun hc => ?_) (fun hc => ?_)
          · replace hf := it_neg hc hf
            refine lv_iload hx hb dX12_bluff_204 (lv_at hl 4 rfl) ?_
            exact B206 v4 st _ _ ls hf (lv_sub hl [] rfl) hP hS
          · replace hf := it_pos hc hf
            exact B199 v5 st _ _ ls hf (lv_sub hl [5] rfl) hP hS
      · replace hf := it_neg hc hf
        refine lv_iconst (v := 0) hx hb dX12_bluff_68 (by decide) ?_
        refine lv_istore (lv' := [(7, .int (0 : Int32)), (0, .ref (ad 100)), (1, .int v1), (2, .int v2), (3, .int v3), (4, .int v4), (5, .int v5), (6, .int v6)]) hx hb dX12_bluff_69 hl (by decide) rfl (fun ls hl => ?_)
        refine lv_iconst (v := 1) hx hb dX12_bluff_71 (by decide) ?_
        refine lv_istore (lv' := [(8, .int (1 : Int32)), (7, .int (0 : Int32)), (0, .ref (ad 100)), (1, .int v1), (2, .int v2), (3, .int v3), (4, .int v4), (5, .int v5), (6, .int v6)]) hx hb dX12_bluff_72 hl (by decide) rfl (fun ls hl => ?_)
        refine lv_iconst (v := 0) hx hb dX12_bluff_74 (by decide) ?_
        refine lv_istore (lv' := [(9, .int (0 : Int32)), (8, .int (1 : Int32)), (7, .int (0 : Int32)), (0, .ref (ad 100)), (1, .int v1), (2, .int v2), (3, .int v3), (4, .int v4), (5, .int v5), (6, .int v6)]) hx hb dX12_bluff_75 hl (by decide) rfl (fun ls hl => ?_)
        exact L77 6000 v1 v2 v3 v4 v5 v6 (0 : Int32) (1 : Int32) (0 : Int32) st _ _ ls hf (lv_sub hl [3, 4, 5, 6, 7, 8, 9, 2, 1, 0] rfl) hP hS
  refine lv_aload_n hx hb dX12_bluff_0 rfl (lv_at hl 0 rfl) ?_
  refine lv_iconst (v := 0) hx hb dX12_bluff_1 (by decide) ?_
  refine mp_0 E hD hP hS dX12_bluff_2 (fun st12 H locs ex hP hS => ?_)
  replace hf := lt_at ex hf; clear ex
  refine lv_aload_n hx hb dX12_bluff_5 rfl (lv_at hl 0 rfl) ?_
  refine lv_iload_n hx hb dX12_bluff_6 rfl (lv_at hl 1 rfl) ?_
  obtain ⟨r13, st14, hc, hf⟩ := bd_some hf
  refine m_calli (n := 1) (rest := []) E hP hS (fun sz => tX12_isFort l D cy ad hJ sz a0 st12 r13 st14 hc) (gV k_1371 k_1373 ks_40 k_14 k_1374) qX12_isFort ⟨Nat.le_of_ble_eq_true rfl, Nat.le_of_ble_eq_true rfl⟩ ⟨Nat.le_refl _, Nat.le_refl _⟩ rfl hl.1 rfl (Nat.le_of_ble_eq_true rfl) dX12_bluff_7 (fun H locs hP hS => ?_)
  refine lv_if_eq (tgt := 48) hx hb dX12_bluff_10 (by decide) (fun hc => ?_) (fun hc => ?_)
  · replace hf := it_pos hc hf
    exact B48 st14 _ _ ls hf (lv_sub hl [] rfl) hP hS
  · replace hf := it_neg hc hf
    refine lv_aload_n hx hb dX12_bluff_13 rfl (lv_at hl 0 rfl) ?_
    refine mg_3 E hP dX12_bluff_14 ?_
    refine lv_bipush (v := 25) hx hb dX12_bluff_17 (by decide) ?_
    refine lv_iload_n hx hb dX12_bluff_19 rfl (lv_at hl 1 rfl) ?_
    refine lv_iadd hx hb dX12_bluff_20 ?_
    obtain ⟨hi, hf⟩ := gi_some hf
    refine ml_3 E hP hi dX12_bluff_21 ?_
    refine lv_iconst (v := 1) hx hb dX12_bluff_22 (by decide) ?_
    refine lv_icmp_eq (tgt := 48) hx hb dX12_bluff_23 (by decide) (fun hc => ?_) (fun hc => ?_)
    · replace hf := it_pos hc hf
      exact B48 st14 _ _ ls hf (lv_sub hl [] rfl) hP hS
    · replace hf := it_neg hc hf
      refine lv_iload_n hx hb dX12_bluff_26 rfl (lv_at hl 2 rfl) ?_
      refine lv_i2l (v := a1.toInt64) hx hb dX12_bluff_27 rfl ?_
      refine lv_lconst (v := 1) hx hb dX12_bluff_28 (by decide) ?_
      refine lv_ldc2 (v := 99) hx hb hown (hT _ k_1365) dX12_bluff_29 ?_
      obtain ⟨r15, hc, hf⟩ := bs_some hf
      refine s_calli (n := 3) (rest := []) E.1 (tX12_in l _ (a1.toInt64) (1 : Int64) (99 : Int64) r15 hc) (gS k_1350 k_1351 k_14 k_1352) qX12_in ⟨Nat.le_of_ble_eq_true rfl, Nat.le_of_ble_eq_true rfl⟩ ⟨Nat.le_refl _, Nat.le_refl _⟩ rfl hl.1 rfl (Nat.le_of_ble_eq_true rfl) dX12_bluff_32 ?_
      refine lv_if_eq (tgt := 48) hx hb dX12_bluff_35 (by decide) (fun hc => ?_) (fun hc => ?_)
      · replace hf := it_pos hc hf
        exact B48 st14 _ _ ls hf (lv_sub hl [] rfl) hP hS
      · replace hf := it_neg hc hf
        refine lv_iload_n hx hb dX12_bluff_38 rfl (lv_at hl 3 rfl) ?_
        refine lv_i2l (v := a2.toInt64) hx hb dX12_bluff_39 rfl ?_
        refine lv_lconst (v := 0) hx hb dX12_bluff_40 (by decide) ?_
        refine lv_lconst (v := 1) hx hb dX12_bluff_41 (by decide) ?_
        obtain ⟨r16, hc, hf⟩ := bs_some hf
        refine s_calli (n := 3) (rest := []) E.1 (tX12_in l _ (a2.toInt64) (0 : Int64) (1 : Int64) r16 hc) (gS k_1350 k_1351 k_14 k_1352) qX12_in ⟨Nat.le_of_ble_eq_true rfl, Nat.le_of_ble_eq_true rfl⟩ ⟨Nat.le_refl _, Nat.le_refl _⟩ rfl hl.1 rfl (Nat.le_of_ble_eq_true rfl) dX12_bluff_42 ?_
        refine lv_if_ne (tgt := 50) hx hb dX12_bluff_45 (by decide) (fun hc => ?_) (fun hc => ?_)
        · replace hf := it_neg hc hf
          refine lv_ldcw (v := 100000000) hx hb hown (hT _ k_1666) dX12_bluff_50 ?_
          refine lv_istore (lv' := [(4, .int (100000000 : Int32)), (0, .ref (ad 100)), (1, .int a0), (2, .int a1), (3, .int a2)]) hx hb dX12_bluff_53 hl (by decide) rfl (fun ls hl => ?_)
          refine lv_iconst (v := -1) hx hb dX12_bluff_55 (by decide) ?_
          refine lv_istore (lv' := [(5, .int (-1 : Int32)), (4, .int (100000000 : Int32)), (0, .ref (ad 100)), (1, .int a0), (2, .int a1), (3, .int a2)]) hx hb dX12_bluff_56 hl (by decide) rfl (fun ls hl => ?_)
          refine lv_iconst (v := 0) hx hb dX12_bluff_58 (by decide) ?_
          refine lv_istore (lv' := [(6, .int (0 : Int32)), (5, .int (-1 : Int32)), (4, .int (100000000 : Int32)), (0, .ref (ad 100)), (1, .int a0), (2, .int a1), (3, .int a2)]) hx hb dX12_bluff_59 hl (by decide) rfl (fun ls hl => ?_)
          exact L61 6000 a0 a1 a2 (100000000 : Int32) (-1 : Int32) (0 : Int32) st14 _ _ ls hf (lv_sub hl [3, 4, 5, 6, 2, 1, 0] rfl) hP hS
        · replace hf := it_pos hc hf
          exact B48 st14 _ _ ls hf (lv_sub hl [] rfl) hP hS
theorem qX12_bluff : yX12_bluff.cls = RX12 ∧ yX12_bluff.cls ≠ "java/lang/invoke/MethodHandle" ∧ yX12_bluff.cls ≠ "java/lang/invoke/VarHandle" ∧ (parseMethodDescriptor yX12_bluff.desc).map (fun d => d.parameters.length) = some 3 := by decide +kernel
def fX12_scout_b23 (st : St) : Option (Int32 × St) := some ((-1 : Int32), st)
def fX12_scout_b138 (w0 : Int32) (st : St) : Option (Int32 × St) := some (w0, st)
def fX12_scout_b121 (k33 : Int32 → Int32 → Int32 → Int32 → Int32 → St → Option (Int32 × St)) (v1 : Int32) (v2 : Int32) (v4 : Int32) (v5 : Int32) (w0 : Int32) (st : St) : Option (Int32 × St) := lt (v5 + (1 : Int32)) (fun x1 => k33 v1 v2 w0 v4 x1 st)
def fX12_scout_b107 (k33 : Int32 → Int32 → Int32 → Int32 → Int32 → St → Option (Int32 × St)) (v1 : Int32) (v2 : Int32) (v3 : Int32) (v5 : Int32) (v7 : Int32) (w0 : Int32) (st : St) : Option (Int32 × St) := if v7 ≤ v3 then (fX12_scout_b121 k33 v1 v2 w0 v5 v3 st) else (fX12_scout_b121 k33 v1 v2 w0 v5 v7 st)
def fX12_scout_b92 (k33 : Int32 → Int32 → Int32 → Int32 → Int32 → St → Option (Int32 × St)) (v1 : Int32) (v2 : Int32) (v3 : Int32) (v4 : Int32) (v5 : Int32) (w0 : Int32) (st : St) : Option (Int32 × St) := if w0 ≤ v3 then (fX12_scout_b107 k33 v1 v2 v3 v5 w0 v4 st) else (fX12_scout_b107 k33 v1 v2 v3 v5 w0 v5 st)
def fX12_scout_b33 (k33 : Int32 → Int32 → Int32 → Int32 → Int32 → St → Option (Int32 × St)) (v1 : Int32) (v2 : Int32) (v3 : Int32) (v4 : Int32) (v5 : Int32) (st : St) : Option (Int32 × St) := if (6 : Int32) ≤ v5 then (if v2 = 0 then (fX12_scout_b138 v4 st) else (fX12_scout_b138 v3 st)) else (gi ((19 : Int32) + v1) 5550 (lt ((st.2.2.1 3 ((19 : Int32) + v1).toNatClampNeg) ||| ((1 : Int32) <<< (v5 &&& 31))) (fun x2 => bd (fX12_beliefBy v1 x2 st) (fun r3 st4 => bd (fX12_beliefBy v1 (x2 - ((1 : Int32) <<< (v5 &&& 31))) st4) (fun r5 st6 => lt ((r3 - r5).toInt32) (fun x7 => if 0 ≤ x7 then (fX12_scout_b92 k33 v1 v2 v3 v4 v5 x7 st6) else (fX12_scout_b92 k33 v1 v2 v3 v4 v5 (-x7) st6)))))))
def fX12_scout (a0 : Int32) (a1 : Int32) (st : St) : Option (Int32 × St) := lt (sI st 0 (0 : Int32)) (fun st8 => bd (fX12_isFort a0 st8) (fun r9 st10 => if r9 = 0 then (fX12_scout_b23 st10) else (bs (fX12_in (a1.toInt64) (0 : Int64) (1 : Int64)) (fun r11 => if r11 = 0 then (fX12_scout_b23 st10) else (lp (fun _ _ _ _ _ _ => none) (fX12_scout_b33) 6000 a0 a1 (-1 : Int32) (-1 : Int32) (0 : Int32) st10)))))
set_option maxHeartbeats 4000000 in
set_option maxRecDepth 100000 in
theorem tX12_scout (l : Launch) (D : va_G) (cy : Nat → ClassId) (ad : Nat → Nat) (hJ : (mads ad).Nodup) (sz : Nat) (a0 : Int32) (a1 : Int32) (st : St) (rr : Int32) (st' : St) (hf : fX12_scout a0 a1 st = some (rr, st')) : Met l yX12_scout (Cond.code yX12_scout cX12_scout 8 (some .int) :: TT) (rmD 2) (mPc D cy ad [.int a0, .int a1] st sz) (mQi D cy ad rr st' sz) 0 0 (mA ad sz) := by
  refine m_meti (by decide) hJ (Nat.le_of_ble_eq_true rfl) (fun p e s m args below meth c ls E hx hb hr hlocks hown hT hD hl hP hS => ?_)
  replace hl : lv_has ls 8 [(0, .ref (ad 100)), (1, .int a0), (2, .int a1)] := hl
  unfold fX12_scout at hf
  have B23 : ∀ (st : St) (H : Heap) (locs : List Loc) (ls : Array Slot), fX12_scout_b23 st = some (rr, st') → lv_has ls 8 [] → va_P D classes (mw cy ad st) H → va_S (mA ad s.heap.size) s.heap H locs → mGi l 2 D cy ad rr st' p e s m args below meth c H locs (F0 m 23 ls []) := by
    intro st H locs ls hf hl hP hS
    unfold fX12_scout_b23 at hf
    refine lv_iconst (v := -1) hx hb dX12_scout_23 (by decide) ?_
    exact m_iret hx hb hr hlocks hf hP hS dX12_scout_24
  have B138 : ∀ (w0 : Int32) (st : St) (H : Heap) (locs : List Loc) (ls : Array Slot), fX12_scout_b138 w0 st = some (rr, st') → lv_has ls 8 [] → va_P D classes (mw cy ad st) H → va_S (mA ad s.heap.size) s.heap H locs → mGi l 2 D cy ad rr st' p e s m args below meth c H locs (F0 m 138 ls [.int w0]) := by
    intro w0 st H locs ls hf hl hP hS
    unfold fX12_scout_b138 at hf
    exact m_iret hx hb hr hlocks hf hP hS dX12_scout_138
  have L33 : ∀ (n : Nat) (v1 : Int32) (v2 : Int32) (v3 : Int32) (v4 : Int32) (v5 : Int32) (st : St) (H : Heap) (locs : List Loc) (ls : Array Slot), lp (fun _ _ _ _ _ _ => none) (fX12_scout_b33) n v1 v2 v3 v4 v5 st = some (rr, st') → lv_has ls 8 [(0, .ref (ad 100)), (1, .int v1), (2, .int v2), (3, .int v3), (4, .int v4), (5, .int v5)] → va_P D classes (mw cy ad st) H → va_S (mA ad s.heap.size) s.heap H locs → mGi l 2 D cy ad rr st' p e s m args below meth c H locs (F0 m 33 ls []) := by
    intro n
    induction n with
    | zero => intro v1 v2 v3 v4 v5 st H locs ls hf; exact absurd hf (fun h => by cases h)
    | succ n K33 =>
      intro v1 v2 v3 v4 v5 st H locs ls hf hl hP hS
      replace hf : fX12_scout_b33 (lp (fun _ _ _ _ _ _ => none) (fX12_scout_b33) n) v1 v2 v3 v4 v5 st = some (rr, st') := hf
      generalize lp (fun _ _ _ _ _ _ => none) (fX12_scout_b33) n = k33 at hf K33
      have B121 : ∀ (v1 : Int32) (v2 : Int32) (v4 : Int32) (v5 : Int32) (w0 : Int32) (st : St) (H : Heap) (locs : List Loc) (ls : Array Slot), fX12_scout_b121 k33 v1 v2 v4 v5 w0 st = some (rr, st') → lv_has ls 8 [(0, .ref (ad 100)), (1, .int v1), (2, .int v2), (4, .int v4), (5, .int v5)] → va_P D classes (mw cy ad st) H → va_S (mA ad s.heap.size) s.heap H locs → mGi l 2 D cy ad rr st' p e s m args below meth c H locs (F0 m 121 ls [.int w0]) := by
        intro v1 v2 v4 v5 w0 st H locs ls hf hl hP hS
        unfold fX12_scout_b121 at hf
        refine lv_istore_n (lv' := [(3, .int w0), (0, .ref (ad 100)), (1, .int v1), (2, .int v2), (4, .int v4), (5, .int v5)]) hx hb dX12_scout_121 rfl hl (by decide) rfl (fun ls hl => ?_)
        obtain ⟨x1, ex⟩ : ∃ y : Int32, y = v5 + (1 : Int32) := ⟨_, rfl⟩
        replace hf := lt_at ex hf
        refine lv_iinc (v := x1) (lv' := [(5, .int x1), (3, .int w0), (0, .ref (ad 100)), (1, .int v1), (2, .int v2), (4, .int v4)]) hx hb dX12_scout_122 hl (k := 5) rfl (by rw [ex]; rfl) (by decide) rfl (fun ls hl => ?_)
        clear ex
        refine lv_goto (tgt := 33) hx hb dX12_scout_125 (by decide) ?_
        exact K33 v1 v2 w0 v4 x1 st _ _ ls hf (lv_sub hl [2, 3, 4, 1, 5, 0] rfl) hP hS
      have B107 : ∀ (v1 : Int32) (v2 : Int32) (v3 : Int32) (v5 : Int32) (v7 : Int32) (w0 : Int32) (st : St) (H : Heap) (locs : List Loc) (ls : Array Slot), fX12_scout_b107 k33 v1 v2 v3 v5 v7 w0 st = some (rr, st') → lv_has ls 8 [(0, .ref (ad 100)), (1, .int v1), (2, .int v2), (3, .int v3), (5, .int v5), (7, .int v7)] → va_P D classes (mw cy ad st) H → va_S (mA ad s.heap.size) s.heap H locs → mGi l 2 D cy ad rr st' p e s m args below meth c H locs (F0 m 107 ls [.int w0]) := by
        intro v1 v2 v3 v5 v7 w0 st H locs ls hf hl hP hS
        unfold fX12_scout_b107 at hf
        refine lv_istore (lv' := [(4, .int w0), (0, .ref (ad 100)), (1, .int v1), (2, .int v2), (3, .int v3), (5, .int v5), (7, .int v7)]) hx hb dX12_scout_107 hl (by decide) rfl (fun ls hl => ?_)
        refine lv_iload hx hb dX12_scout_109 (lv_at hl 6 rfl) ?_
        refine lv_iload_n hx hb dX12_scout_111 rfl (lv_at hl 4 rfl) ?_
        refine lv_icmp_le (tgt := 120) hx hb dX12_scout_112 (by decide) (fun hc => ?_) (fun hc => ?_)
        · replace hf := it_pos hc hf
          refine lv_iload_n hx hb dX12_scout_120 rfl (lv_at hl 4 rfl) ?_
          exact B121 v1 v2 w0 v5 v3 st _ _ ls hf (lv_sub hl [1, 2, 3, 0, 5] rfl) hP hS
        · replace hf := it_neg hc hf
          refine lv_iload hx hb dX12_scout_115 (lv_at hl 6 rfl) ?_
          refine lv_goto (tgt := 121) hx hb dX12_scout_117 (by decide) ?_
          exact B121 v1 v2 w0 v5 v7 st _ _ ls hf (lv_sub hl [1, 2, 3, 0, 5] rfl) hP hS
      have B92 : ∀ (v1 : Int32) (v2 : Int32) (v3 : Int32) (v4 : Int32) (v5 : Int32) (w0 : Int32) (st : St) (H : Heap) (locs : List Loc) (ls : Array Slot), fX12_scout_b92 k33 v1 v2 v3 v4 v5 w0 st = some (rr, st') → lv_has ls 8 [(0, .ref (ad 100)), (1, .int v1), (2, .int v2), (3, .int v3), (4, .int v4), (5, .int v5)] → va_P D classes (mw cy ad st) H → va_S (mA ad s.heap.size) s.heap H locs → mGi l 2 D cy ad rr st' p e s m args below meth c H locs (F0 m 92 ls [.int w0]) := by
        intro v1 v2 v3 v4 v5 w0 st H locs ls hf hl hP hS
        unfold fX12_scout_b92 at hf
        refine lv_istore (lv' := [(7, .int w0), (0, .ref (ad 100)), (1, .int v1), (2, .int v2), (3, .int v3), (4, .int v4), (5, .int v5)]) hx hb dX12_scout_92 hl (by decide) rfl (fun ls hl => ?_)
        refine lv_iload hx hb dX12_scout_94 (lv_at hl 0 rfl) ?_
        refine lv_iload_n hx hb dX12_scout_96 rfl (lv_at hl 4 rfl) ?_
        refine lv_icmp_le (tgt := 105) hx hb dX12_scout_97 (by decide) (fun hc => ?_) (fun hc => ?_)
        · replace hf := it_pos hc hf
          refine lv_iload hx hb dX12_scout_105 (lv_at hl 5 rfl) ?_
          exact B107 v1 v2 v3 v5 w0 v4 st _ _ ls hf (lv_sub hl [1, 2, 3, 4, 6, 0] rfl) hP hS
        · replace hf := it_neg hc hf
          refine lv_iload hx hb dX12_scout_100 (lv_at hl 6 rfl) ?_
          refine lv_goto (tgt := 107) hx hb dX12_scout_102 (by decide) ?_
          exact B107 v1 v2 v3 v5 w0 v5 st _ _ ls hf (lv_sub hl [1, 2, 3, 4, 6, 0] rfl) hP hS
      unfold fX12_scout_b33 at hf
      refine lv_iload hx hb dX12_scout_33 (lv_at hl 5 rfl) ?_
      refine lv_bipush (v := 6) hx hb dX12_scout_35 (by decide) ?_
      refine lv_icmp_ge (tgt := 128) hx hb dX12_scout_37 (by decide) (fun hc => ?_) (fun hc => ?_)
      · replace hf := it_pos hc hf
        refine lv_iload_n hx hb dX12_scout_128 rfl (lv_at hl 2 rfl) ?_
        refine lv_if_ne (tgt := 137) hx hb dX12_scout_129 (by decide) (fun hc => ?_) (fun hc => ?_)
        · replace hf := it_neg hc hf
          refine lv_iload_n hx hb dX12_scout_137 rfl (lv_at hl 3 rfl) ?_
          exact B138 v3 st _ _ ls hf (lv_sub hl [] rfl) hP hS
        · replace hf := it_pos hc hf
          refine lv_iload hx hb dX12_scout_132 (lv_at hl 4 rfl) ?_
          refine lv_goto (tgt := 138) hx hb dX12_scout_134 (by decide) ?_
          exact B138 v4 st _ _ ls hf (lv_sub hl [] rfl) hP hS
      · replace hf := it_neg hc hf
        refine lv_aload_n hx hb dX12_scout_40 rfl (lv_at hl 0 rfl) ?_
        refine mg_3 E hP dX12_scout_41 ?_
        refine lv_bipush (v := 19) hx hb dX12_scout_44 (by decide) ?_
        refine lv_iload_n hx hb dX12_scout_46 rfl (lv_at hl 1 rfl) ?_
        refine lv_iadd hx hb dX12_scout_47 ?_
        obtain ⟨hi, hf⟩ := gi_some hf
        refine ml_3 E hP hi dX12_scout_48 ?_
        refine lv_iconst (v := 1) hx hb dX12_scout_49 (by decide) ?_
        refine lv_iload hx hb dX12_scout_50 (lv_at hl 5 rfl) ?_
        refine lv_ishl hx hb dX12_scout_52 ?_
        refine lv_ior hx hb dX12_scout_53 ?_
        refine lv_topi (fun x2 ex => ?_)
        replace hf := lt_at ex hf; clear ex
        refine lv_istore (lv' := [(6, .int x2), (0, .ref (ad 100)), (1, .int v1), (2, .int v2), (3, .int v3), (4, .int v4), (5, .int v5)]) hx hb dX12_scout_54 hl (by decide) rfl (fun ls hl => ?_)
        refine lv_aload_n hx hb dX12_scout_56 rfl (lv_at hl 1 rfl) ?_
        refine lv_iload_n hx hb dX12_scout_57 rfl (lv_at hl 2 rfl) ?_
        refine lv_iload hx hb dX12_scout_58 (lv_at hl 0 rfl) ?_
        obtain ⟨r3, st4, hc, hf⟩ := bd_some hf
        refine m_calll (n := 2) (rest := []) E hP hS (fun sz => tX12_beliefBy l D cy ad hJ sz v1 x2 st r3 st4 hc) (gV k_1375 k_1377 ks_41 k_14 k_1378) qX12_beliefBy ⟨Nat.le_of_ble_eq_true rfl, Nat.le_of_ble_eq_true rfl⟩ ⟨Nat.le_refl _, Nat.le_refl _⟩ rfl hl.1 rfl (Nat.le_of_ble_eq_true rfl) dX12_scout_60 (fun H locs hP hS => ?_)
        refine lv_aload_n hx hb dX12_scout_63 rfl (lv_at hl 1 rfl) ?_
        refine lv_iload_n hx hb dX12_scout_64 rfl (lv_at hl 2 rfl) ?_
        refine lv_iload hx hb dX12_scout_65 (lv_at hl 0 rfl) ?_
        refine lv_iconst (v := 1) hx hb dX12_scout_67 (by decide) ?_
        refine lv_iload hx hb dX12_scout_68 (lv_at hl 6 rfl) ?_
        refine lv_ishl hx hb dX12_scout_70 ?_
        refine lv_isub hx hb dX12_scout_71 ?_
        obtain ⟨r5, st6, hc, hf⟩ := bd_some hf
        refine m_calll (n := 2) (rest := [.long r3]) E hP hS (fun sz => tX12_beliefBy l D cy ad hJ sz v1 (x2 - ((1 : Int32) <<< (v5 &&& 31))) st4 r5 st6 hc) (gV k_1375 k_1377 ks_41 k_14 k_1378) qX12_beliefBy ⟨Nat.le_of_ble_eq_true rfl, Nat.le_of_ble_eq_true rfl⟩ ⟨Nat.le_refl _, Nat.le_refl _⟩ rfl hl.1 rfl (Nat.le_of_ble_eq_true rfl) dX12_scout_72 (fun H locs hP hS => ?_)
        refine lv_lsub hx hb dX12_scout_75 ?_
        refine lv_l2i (v := (r3 - r5).toInt32) hx hb dX12_scout_76 rfl ?_
        refine lv_topi (fun x7 ex => ?_)
        replace hf := lt_at ex hf; clear ex
        refine lv_istore (lv' := [(7, .int x7), (6, .int x2), (0, .ref (ad 100)), (1, .int v1), (2, .int v2), (3, .int v3), (4, .int v4), (5, .int v5)]) hx hb dX12_scout_77 hl (by decide) rfl (fun ls hl => ?_)
        refine lv_iload hx hb dX12_scout_79 (lv_at hl 0 rfl) ?_
        refine lv_if_ge (tgt := 90) hx hb dX12_scout_81 (by decide) (fun hc => ?_) (fun hc => ?_)
        · replace hf := it_pos hc hf
          refine lv_iload hx hb dX12_scout_90 (lv_at hl 0 rfl) ?_
          exact B92 v1 v2 v3 v4 v5 x7 st6 _ _ ls hf (lv_sub hl [2, 3, 4, 5, 6, 7] rfl) hP hS
        · replace hf := it_neg hc hf
          refine lv_iload hx hb dX12_scout_84 (lv_at hl 0 rfl) ?_
          refine lv_ineg hx hb dX12_scout_86 ?_
          refine lv_goto (tgt := 92) hx hb dX12_scout_87 (by decide) ?_
          exact B92 v1 v2 v3 v4 v5 (-x7) st6 _ _ ls hf (lv_sub hl [2, 3, 4, 5, 6, 7] rfl) hP hS
  refine lv_aload_n hx hb dX12_scout_0 rfl (lv_at hl 0 rfl) ?_
  refine lv_iconst (v := 0) hx hb dX12_scout_1 (by decide) ?_
  refine mp_0 E hD hP hS dX12_scout_2 (fun st8 H locs ex hP hS => ?_)
  replace hf := lt_at ex hf; clear ex
  refine lv_aload_n hx hb dX12_scout_5 rfl (lv_at hl 0 rfl) ?_
  refine lv_iload_n hx hb dX12_scout_6 rfl (lv_at hl 1 rfl) ?_
  obtain ⟨r9, st10, hc, hf⟩ := bd_some hf
  refine m_calli (n := 1) (rest := []) E hP hS (fun sz => tX12_isFort l D cy ad hJ sz a0 st8 r9 st10 hc) (gV k_1371 k_1373 ks_40 k_14 k_1374) qX12_isFort ⟨Nat.le_of_ble_eq_true rfl, Nat.le_of_ble_eq_true rfl⟩ ⟨Nat.le_refl _, Nat.le_refl _⟩ rfl hl.1 rfl (Nat.le_of_ble_eq_true rfl) dX12_scout_7 (fun H locs hP hS => ?_)
  refine lv_if_eq (tgt := 23) hx hb dX12_scout_10 (by decide) (fun hc => ?_) (fun hc => ?_)
  · replace hf := it_pos hc hf
    exact B23 st10 _ _ ls hf (lv_sub hl [] rfl) hP hS
  · replace hf := it_neg hc hf
    refine lv_iload_n hx hb dX12_scout_13 rfl (lv_at hl 2 rfl) ?_
    refine lv_i2l (v := a1.toInt64) hx hb dX12_scout_14 rfl ?_
    refine lv_lconst (v := 0) hx hb dX12_scout_15 (by decide) ?_
    refine lv_lconst (v := 1) hx hb dX12_scout_16 (by decide) ?_
    obtain ⟨r11, hc, hf⟩ := bs_some hf
    refine s_calli (n := 3) (rest := []) E.1 (tX12_in l _ (a1.toInt64) (0 : Int64) (1 : Int64) r11 hc) (gS k_1350 k_1351 k_14 k_1352) qX12_in ⟨Nat.le_of_ble_eq_true rfl, Nat.le_of_ble_eq_true rfl⟩ ⟨Nat.le_refl _, Nat.le_refl _⟩ rfl hl.1 rfl (Nat.le_of_ble_eq_true rfl) dX12_scout_17 ?_
    refine lv_if_ne (tgt := 25) hx hb dX12_scout_20 (by decide) (fun hc => ?_) (fun hc => ?_)
    · replace hf := it_neg hc hf
      refine lv_iconst (v := -1) hx hb dX12_scout_25 (by decide) ?_
      refine lv_istore_n (lv' := [(3, .int (-1 : Int32)), (0, .ref (ad 100)), (1, .int a0), (2, .int a1)]) hx hb dX12_scout_26 rfl hl (by decide) rfl (fun ls hl => ?_)
      refine lv_iconst (v := -1) hx hb dX12_scout_27 (by decide) ?_
      refine lv_istore (lv' := [(4, .int (-1 : Int32)), (3, .int (-1 : Int32)), (0, .ref (ad 100)), (1, .int a0), (2, .int a1)]) hx hb dX12_scout_28 hl (by decide) rfl (fun ls hl => ?_)
      refine lv_iconst (v := 0) hx hb dX12_scout_30 (by decide) ?_
      refine lv_istore (lv' := [(5, .int (0 : Int32)), (4, .int (-1 : Int32)), (3, .int (-1 : Int32)), (0, .ref (ad 100)), (1, .int a0), (2, .int a1)]) hx hb dX12_scout_31 hl (by decide) rfl (fun ls hl => ?_)
      exact L33 6000 a0 a1 (-1 : Int32) (-1 : Int32) (0 : Int32) st10 _ _ ls hf (lv_sub hl [3, 4, 5, 2, 1, 0] rfl) hP hS
    · replace hf := it_pos hc hf
      exact B23 st10 _ _ ls hf (lv_sub hl [] rfl) hP hS
theorem qX12_scout : yX12_scout.cls = RX12 ∧ yX12_scout.cls ≠ "java/lang/invoke/MethodHandle" ∧ yX12_scout.cls ≠ "java/lang/invoke/VarHandle" ∧ (parseMethodDescriptor yX12_scout.desc).map (fun d => d.parameters.length) = some 2 := by decide +kernel
def fX12_holds_b38 (st : St) : Option (Int64 × St) := some ((-1 : Int64), st)
def fX12_holds_b110 (k110 : Int32 → Int32 → Int64 → Int32 → St → Option (Int64 × St)) (v2 : Int32) (v3 : Int32) (v4 : Int64) (v6 : Int32) (st : St) : Option (Int64 × St) := if v2 ≤ v6 then (some (v4, st)) else (lt ((v4 * (v3.toInt64)) / (10 : Int64)) (fun x1 => lt (v6 + (1 : Int32)) (fun x2 => k110 v2 v3 x1 x2 st)))
def fX12_holds_b94 (k48 : Int32 → Int32 → Int32 → Int32 → St → Option (Int64 × St)) (v1 : Int32) (v2 : Int32) (v4 : Int32) (w0 : Int32) (w1 : Int32) (st : St) : Option (Int64 × St) := lt (w1 + w0) (fun x3 => lt (v4 + (10 : Int32)) (fun x4 => k48 v1 v2 x3 x4 st))
def fX12_holds_b93 (k48 : Int32 → Int32 → Int32 → Int32 → St → Option (Int64 × St)) (v1 : Int32) (v2 : Int32) (v4 : Int32) (w0 : Int32) (st : St) : Option (Int64 × St) := fX12_holds_b94 k48 v1 v2 v4 (1 : Int32) w0 st
def fX12_holds_b48 (k48 : Int32 → Int32 → Int32 → Int32 → St → Option (Int64 × St)) (v1 : Int32) (v2 : Int32) (v3 : Int32) (v4 : Int32) (st : St) : Option (Int64 × St) := if (100 : Int32) ≤ v4 then (lp (fun _ _ _ _ _ => none) (fX12_holds_b110) 6000 v2 v3 (1000000000000 : Int64) (0 : Int32) st) else (gi ((13 : Int32) + v1) 5550 (if v4 ≤ (st.2.2.1 3 ((13 : Int32) + v1).toNatClampNeg) then (fX12_holds_b93 k48 v1 v2 v4 v3 st) else (gi ((19 : Int32) + v1) 5550 (bd (fX12_isTurned v1 v4 (st.2.2.1 3 ((19 : Int32) + v1).toNatClampNeg) st) (fun r5 st6 => if r5 = 0 then (fX12_holds_b94 k48 v1 v2 v4 (0 : Int32) v3 st6) else (fX12_holds_b93 k48 v1 v2 v4 v3 st6))))))
def fX12_holds (a0 : Int32) (a1 : Int32) (st : St) : Option (Int64 × St) := lt (sI st 0 (0 : Int32)) (fun st7 => bd (fX12_isFort a0 st7) (fun r8 st9 => if r8 = 0 then (fX12_holds_b38 st9) else (gi ((25 : Int32) + a0) 5550 (if (st9.2.2.1 3 ((25 : Int32) + a0).toNatClampNeg) = (1 : Int32) then (fX12_holds_b38 st9) else (bs (fX12_in (a1.toInt64) (0 : Int64) (30 : Int64)) (fun r10 => if r10 = 0 then (fX12_holds_b38 st9) else (lp (fun _ _ _ _ _ => none) (fX12_holds_b48) 6000 a0 a1 (0 : Int32) (9 : Int32) st9)))))))
set_option maxHeartbeats 4000000 in
set_option maxRecDepth 100000 in
theorem tX12_holds (l : Launch) (D : va_G) (cy : Nat → ClassId) (ad : Nat → Nat) (hJ : (mads ad).Nodup) (sz : Nat) (a0 : Int32) (a1 : Int32) (st : St) (rr : Int64) (st' : St) (hf : fX12_holds a0 a1 st = some (rr, st')) : Met l yX12_holds (Cond.code yX12_holds cX12_holds 7 (some .long) :: TT) (rmD 7) (mPc D cy ad [.int a0, .int a1] st sz) (mQl D cy ad rr st' sz) 0 0 (mA ad sz) := by
  refine m_metl (by decide) hJ (Nat.le_of_ble_eq_true rfl) (fun p e s m args below meth c ls E hx hb hr hlocks hown hT hD hl hP hS => ?_)
  replace hl : lv_has ls 7 [(0, .ref (ad 100)), (1, .int a0), (2, .int a1)] := hl
  unfold fX12_holds at hf
  have B38 : ∀ (st : St) (H : Heap) (locs : List Loc) (ls : Array Slot), fX12_holds_b38 st = some (rr, st') → lv_has ls 7 [] → va_P D classes (mw cy ad st) H → va_S (mA ad s.heap.size) s.heap H locs → mGl l 7 D cy ad rr st' p e s m args below meth c H locs (F0 m 38 ls []) := by
    intro st H locs ls hf hl hP hS
    unfold fX12_holds_b38 at hf
    refine lv_ldc2 (v := -1) hx hb hown (hT _ k_1465) dX12_holds_38 ?_
    exact m_lret hx hb hr hlocks hf hP hS dX12_holds_41
  have L110 : ∀ (n : Nat) (v2 : Int32) (v3 : Int32) (v4 : Int64) (v6 : Int32) (st : St) (H : Heap) (locs : List Loc) (ls : Array Slot), lp (fun _ _ _ _ _ => none) (fX12_holds_b110) n v2 v3 v4 v6 st = some (rr, st') → lv_has ls 7 [(2, .int v2), (3, .int v3), (4, .long v4), (6, .int v6)] → va_P D classes (mw cy ad st) H → va_S (mA ad s.heap.size) s.heap H locs → mGl l 7 D cy ad rr st' p e s m args below meth c H locs (F0 m 110 ls []) := by
    intro n
    induction n with
    | zero => intro v2 v3 v4 v6 st H locs ls hf; exact absurd hf (fun h => by cases h)
    | succ n K110 =>
      intro v2 v3 v4 v6 st H locs ls hf hl hP hS
      replace hf : fX12_holds_b110 (lp (fun _ _ _ _ _ => none) (fX12_holds_b110) n) v2 v3 v4 v6 st = some (rr, st') := hf
      generalize lp (fun _ _ _ _ _ => none) (fX12_holds_b110) n = k110 at hf K110
      unfold fX12_holds_b110 at hf
      refine lv_iload hx hb dX12_holds_110 (lv_at hl 3 rfl) ?_
      refine lv_iload_n hx hb dX12_holds_112 rfl (lv_at hl 0 rfl) ?_
      refine lv_icmp_ge (tgt := 133) hx hb dX12_holds_113 (by decide) (fun hc => ?_) (fun hc => ?_)
      · replace hf := it_pos hc hf
        refine lv_lload hx hb dX12_holds_133 (lv_at hl 2 rfl) ?_
        exact m_lret hx hb hr hlocks hf hP hS dX12_holds_135
      · replace hf := it_neg hc hf
        refine lv_lload hx hb dX12_holds_116 (lv_at hl 2 rfl) ?_
        refine lv_iload_n hx hb dX12_holds_118 rfl (lv_at hl 1 rfl) ?_
        refine lv_i2l (v := v3.toInt64) hx hb dX12_holds_119 rfl ?_
        refine lv_lmul hx hb dX12_holds_120 ?_
        refine lv_ldc2 (v := 10) hx hb hown (hT _ k_1398) dX12_holds_121 ?_
        refine lv_ldiv hx hb dX12_holds_124 (by decide) ?_
        refine lv_topl (fun x1 ex => ?_)
        replace hf := lt_at ex hf; clear ex
        refine lv_lstore (lv' := [(4, .long x1), (2, .int v2), (3, .int v3), (6, .int v6)]) hx hb dX12_holds_125 hl (by decide) rfl (fun ls hl => ?_)
        obtain ⟨x2, ex⟩ : ∃ y : Int32, y = v6 + (1 : Int32) := ⟨_, rfl⟩
        replace hf := lt_at ex hf
        refine lv_iinc (v := x2) (lv' := [(6, .int x2), (4, .long x1), (2, .int v2), (3, .int v3)]) hx hb dX12_holds_127 hl (k := 3) rfl (by rw [ex]; rfl) (by decide) rfl (fun ls hl => ?_)
        clear ex
        refine lv_goto (tgt := 110) hx hb dX12_holds_130 (by decide) ?_
        exact K110 v2 v3 x1 x2 st _ _ ls hf (lv_sub hl [2, 3, 1, 0] rfl) hP hS
  have L48 : ∀ (n : Nat) (v1 : Int32) (v2 : Int32) (v3 : Int32) (v4 : Int32) (st : St) (H : Heap) (locs : List Loc) (ls : Array Slot), lp (fun _ _ _ _ _ => none) (fX12_holds_b48) n v1 v2 v3 v4 st = some (rr, st') → lv_has ls 7 [(0, .ref (ad 100)), (1, .int v1), (2, .int v2), (3, .int v3), (4, .int v4)] → va_P D classes (mw cy ad st) H → va_S (mA ad s.heap.size) s.heap H locs → mGl l 7 D cy ad rr st' p e s m args below meth c H locs (F0 m 48 ls []) := by
    intro n
    induction n with
    | zero => intro v1 v2 v3 v4 st H locs ls hf; exact absurd hf (fun h => by cases h)
    | succ n K48 =>
      intro v1 v2 v3 v4 st H locs ls hf hl hP hS
      replace hf : fX12_holds_b48 (lp (fun _ _ _ _ _ => none) (fX12_holds_b48) n) v1 v2 v3 v4 st = some (rr, st') := hf
      generalize lp (fun _ _ _ _ _ => none) (fX12_holds_b48) n = k48 at hf K48
      have B94 : ∀ (v1 : Int32) (v2 : Int32) (v4 : Int32) (w0 : Int32) (w1 : Int32) (st : St) (H : Heap) (locs : List Loc) (ls : Array Slot), fX12_holds_b94 k48 v1 v2 v4 w0 w1 st = some (rr, st') → lv_has ls 7 [(0, .ref (ad 100)), (1, .int v1), (2, .int v2), (4, .int v4)] → va_P D classes (mw cy ad st) H → va_S (mA ad s.heap.size) s.heap H locs → mGl l 7 D cy ad rr st' p e s m args below meth c H locs (F0 m 94 ls [.int w0, .int w1]) := by
        intro v1 v2 v4 w0 w1 st H locs ls hf hl hP hS
        unfold fX12_holds_b94 at hf
        refine lv_iadd hx hb dX12_holds_94 ?_
        refine lv_topi (fun x3 ex => ?_)
        replace hf := lt_at ex hf; clear ex
        refine lv_istore_n (lv' := [(3, .int x3), (0, .ref (ad 100)), (1, .int v1), (2, .int v2), (4, .int v4)]) hx hb dX12_holds_95 rfl hl (by decide) rfl (fun ls hl => ?_)
        obtain ⟨x4, ex⟩ : ∃ y : Int32, y = v4 + (10 : Int32) := ⟨_, rfl⟩
        replace hf := lt_at ex hf
        refine lv_iinc (v := x4) (lv' := [(4, .int x4), (3, .int x3), (0, .ref (ad 100)), (1, .int v1), (2, .int v2)]) hx hb dX12_holds_96 hl (k := 4) rfl (by rw [ex]; rfl) (by decide) rfl (fun ls hl => ?_)
        clear ex
        refine lv_goto (tgt := 48) hx hb dX12_holds_99 (by decide) ?_
        exact K48 v1 v2 x3 x4 st _ _ ls hf (lv_sub hl [2, 3, 4, 1, 0] rfl) hP hS
      have B93 : ∀ (v1 : Int32) (v2 : Int32) (v4 : Int32) (w0 : Int32) (st : St) (H : Heap) (locs : List Loc) (ls : Array Slot), fX12_holds_b93 k48 v1 v2 v4 w0 st = some (rr, st') → lv_has ls 7 [(0, .ref (ad 100)), (1, .int v1), (2, .int v2), (4, .int v4)] → va_P D classes (mw cy ad st) H → va_S (mA ad s.heap.size) s.heap H locs → mGl l 7 D cy ad rr st' p e s m args below meth c H locs (F0 m 93 ls [.int w0]) := by
        intro v1 v2 v4 w0 st H locs ls hf hl hP hS
        unfold fX12_holds_b93 at hf
        refine lv_iconst (v := 1) hx hb dX12_holds_93 (by decide) ?_
        exact B94 v1 v2 v4 (1 : Int32) w0 st _ _ ls hf hl hP hS
      unfold fX12_holds_b48 at hf
      refine lv_iload hx hb dX12_holds_48 (lv_at hl 4 rfl) ?_
      refine lv_bipush (v := 100) hx hb dX12_holds_50 (by decide) ?_
      refine lv_icmp_ge (tgt := 102) hx hb dX12_holds_52 (by decide) (fun hc => ?_) (fun hc => ?_)
      · replace hf := it_pos hc hf
        refine lv_ldc2 (v := 1000000000000) hx hb hown (hT _ k_1676) dX12_holds_102 ?_
        refine lv_lstore (lv' := [(4, .long (1000000000000 : Int64)), (0, .ref (ad 100)), (1, .int v1), (2, .int v2), (3, .int v3)]) hx hb dX12_holds_105 hl (by decide) rfl (fun ls hl => ?_)
        refine lv_iconst (v := 0) hx hb dX12_holds_107 (by decide) ?_
        refine lv_istore (lv' := [(6, .int (0 : Int32)), (4, .long (1000000000000 : Int64)), (0, .ref (ad 100)), (1, .int v1), (2, .int v2), (3, .int v3)]) hx hb dX12_holds_108 hl (by decide) rfl (fun ls hl => ?_)
        exact L110 6000 v2 v3 (1000000000000 : Int64) (0 : Int32) st _ _ ls hf (lv_sub hl [4, 5, 1, 0] rfl) hP hS
      · replace hf := it_neg hc hf
        refine lv_iload_n hx hb dX12_holds_55 rfl (lv_at hl 3 rfl) ?_
        refine lv_iload hx hb dX12_holds_56 (lv_at hl 4 rfl) ?_
        refine lv_aload_n hx hb dX12_holds_58 rfl (lv_at hl 0 rfl) ?_
        refine mg_3 E hP dX12_holds_59 ?_
        refine lv_bipush (v := 13) hx hb dX12_holds_62 (by decide) ?_
        refine lv_iload_n hx hb dX12_holds_64 rfl (lv_at hl 1 rfl) ?_
        refine lv_iadd hx hb dX12_holds_65 ?_
        obtain ⟨hi, hf⟩ := gi_some hf
        refine ml_3 E hP hi dX12_holds_66 ?_
        refine lv_icmp_le (tgt := 93) hx hb dX12_holds_67 (by decide) (fun hc => ?_) (fun hc => ?_)
        · replace hf := it_pos hc hf
          exact B93 v1 v2 v4 v3 st _ _ ls hf (lv_sub hl [0, 1, 2, 4] rfl) hP hS
        · replace hf := it_neg hc hf
          refine lv_aload_n hx hb dX12_holds_70 rfl (lv_at hl 0 rfl) ?_
          refine lv_iload_n hx hb dX12_holds_71 rfl (lv_at hl 1 rfl) ?_
          refine lv_iload hx hb dX12_holds_72 (lv_at hl 4 rfl) ?_
          refine lv_aload_n hx hb dX12_holds_74 rfl (lv_at hl 0 rfl) ?_
          refine mg_3 E hP dX12_holds_75 ?_
          refine lv_bipush (v := 19) hx hb dX12_holds_78 (by decide) ?_
          refine lv_iload_n hx hb dX12_holds_80 rfl (lv_at hl 1 rfl) ?_
          refine lv_iadd hx hb dX12_holds_81 ?_
          obtain ⟨hi, hf⟩ := gi_some hf
          refine ml_3 E hP hi dX12_holds_82 ?_
          obtain ⟨r5, st6, hc, hf⟩ := bd_some hf
          refine m_calli (n := 3) (rest := [.int v3]) E hP hS (fun sz => tX12_isTurned l D cy ad hJ sz v1 v4 (st.2.2.1 3 ((19 : Int32) + v1).toNatClampNeg) st r5 st6 hc) (gV k_1605 k_1607 ks_76 k_14 k_1608) qX12_isTurned ⟨Nat.le_of_ble_eq_true rfl, Nat.le_of_ble_eq_true rfl⟩ ⟨Nat.le_refl _, Nat.le_refl _⟩ rfl hl.1 rfl (Nat.le_of_ble_eq_true rfl) dX12_holds_83 (fun H locs hP hS => ?_)
          refine lv_if_ne (tgt := 93) hx hb dX12_holds_86 (by decide) (fun hc => ?_) (fun hc => ?_)
          · replace hf := it_neg hc hf
            exact B93 v1 v2 v4 v3 st6 _ _ ls hf (lv_sub hl [0, 1, 2, 4] rfl) hP hS
          · replace hf := it_pos hc hf
            refine lv_iconst (v := 0) hx hb dX12_holds_89 (by decide) ?_
            refine lv_goto (tgt := 94) hx hb dX12_holds_90 (by decide) ?_
            exact B94 v1 v2 v4 (0 : Int32) v3 st6 _ _ ls hf (lv_sub hl [0, 1, 2, 4] rfl) hP hS
  refine lv_aload_n hx hb dX12_holds_0 rfl (lv_at hl 0 rfl) ?_
  refine lv_iconst (v := 0) hx hb dX12_holds_1 (by decide) ?_
  refine mp_0 E hD hP hS dX12_holds_2 (fun st7 H locs ex hP hS => ?_)
  replace hf := lt_at ex hf; clear ex
  refine lv_aload_n hx hb dX12_holds_5 rfl (lv_at hl 0 rfl) ?_
  refine lv_iload_n hx hb dX12_holds_6 rfl (lv_at hl 1 rfl) ?_
  obtain ⟨r8, st9, hc, hf⟩ := bd_some hf
  refine m_calli (n := 1) (rest := []) E hP hS (fun sz => tX12_isFort l D cy ad hJ sz a0 st7 r8 st9 hc) (gV k_1371 k_1373 ks_40 k_14 k_1374) qX12_isFort ⟨Nat.le_of_ble_eq_true rfl, Nat.le_of_ble_eq_true rfl⟩ ⟨Nat.le_refl _, Nat.le_refl _⟩ rfl hl.1 rfl (Nat.le_of_ble_eq_true rfl) dX12_holds_7 (fun H locs hP hS => ?_)
  refine lv_if_eq (tgt := 38) hx hb dX12_holds_10 (by decide) (fun hc => ?_) (fun hc => ?_)
  · replace hf := it_pos hc hf
    exact B38 st9 _ _ ls hf (lv_sub hl [] rfl) hP hS
  · replace hf := it_neg hc hf
    refine lv_aload_n hx hb dX12_holds_13 rfl (lv_at hl 0 rfl) ?_
    refine mg_3 E hP dX12_holds_14 ?_
    refine lv_bipush (v := 25) hx hb dX12_holds_17 (by decide) ?_
    refine lv_iload_n hx hb dX12_holds_19 rfl (lv_at hl 1 rfl) ?_
    refine lv_iadd hx hb dX12_holds_20 ?_
    obtain ⟨hi, hf⟩ := gi_some hf
    refine ml_3 E hP hi dX12_holds_21 ?_
    refine lv_iconst (v := 1) hx hb dX12_holds_22 (by decide) ?_
    refine lv_icmp_eq (tgt := 38) hx hb dX12_holds_23 (by decide) (fun hc => ?_) (fun hc => ?_)
    · replace hf := it_pos hc hf
      exact B38 st9 _ _ ls hf (lv_sub hl [] rfl) hP hS
    · replace hf := it_neg hc hf
      refine lv_iload_n hx hb dX12_holds_26 rfl (lv_at hl 2 rfl) ?_
      refine lv_i2l (v := a1.toInt64) hx hb dX12_holds_27 rfl ?_
      refine lv_lconst (v := 0) hx hb dX12_holds_28 (by decide) ?_
      refine lv_ldc2 (v := 30) hx hb hown (hT _ k_1675) dX12_holds_29 ?_
      obtain ⟨r10, hc, hf⟩ := bs_some hf
      refine s_calli (n := 3) (rest := []) E.1 (tX12_in l _ (a1.toInt64) (0 : Int64) (30 : Int64) r10 hc) (gS k_1350 k_1351 k_14 k_1352) qX12_in ⟨Nat.le_of_ble_eq_true rfl, Nat.le_of_ble_eq_true rfl⟩ ⟨Nat.le_refl _, Nat.le_refl _⟩ rfl hl.1 rfl (Nat.le_of_ble_eq_true rfl) dX12_holds_32 ?_
      refine lv_if_ne (tgt := 42) hx hb dX12_holds_35 (by decide) (fun hc => ?_) (fun hc => ?_)
      · replace hf := it_neg hc hf
        refine lv_iconst (v := 0) hx hb dX12_holds_42 (by decide) ?_
        refine lv_istore_n (lv' := [(3, .int (0 : Int32)), (0, .ref (ad 100)), (1, .int a0), (2, .int a1)]) hx hb dX12_holds_43 rfl hl (by decide) rfl (fun ls hl => ?_)
        refine lv_bipush (v := 9) hx hb dX12_holds_44 (by decide) ?_
        refine lv_istore (lv' := [(4, .int (9 : Int32)), (3, .int (0 : Int32)), (0, .ref (ad 100)), (1, .int a0), (2, .int a1)]) hx hb dX12_holds_46 hl (by decide) rfl (fun ls hl => ?_)
        exact L48 6000 a0 a1 (0 : Int32) (9 : Int32) st9 _ _ ls hf (lv_sub hl [2, 3, 4, 1, 0] rfl) hP hS
      · replace hf := it_pos hc hf
        exact B38 st9 _ _ ls hf (lv_sub hl [] rfl) hP hS
theorem qX12_holds : yX12_holds.cls = RX12 ∧ yX12_holds.cls ≠ "java/lang/invoke/MethodHandle" ∧ yX12_holds.cls ≠ "java/lang/invoke/VarHandle" ∧ (parseMethodDescriptor yX12_holds.desc).map (fun d => d.parameters.length) = some 2 := by decide +kernel
def fX12_hoursBy_b77 (w0 : Int32) (st : St) : Option (Int32 × St) := some (w0, st)
def fX12_hoursBy_b62 (st : St) : Option (Int32 × St) := fX12_hoursBy_b77 (100000000 : Int32) st
def fX12_hoursBy_b38 (v2 : Int32) (v4 : Int32) (w0 : Int32) (st : St) : Option (Int32 × St) := if v4 = 0 then (fX12_hoursBy_b62 st) else (if w0 = 0 then (fX12_hoursBy_b62 st) else (gi v2 6 (if (st.2.2.1 41 v2.toNatClampNeg) = (100000000 : Int32) then (fX12_hoursBy_b62 st) else (gi v2 6 (fX12_hoursBy_b77 (v4 + (st.2.2.1 41 v2.toNatClampNeg)) st)))))
def fX12_hoursBy_b33 (v2 : Int32) (v4 : Int32) (st : St) : Option (Int32 × St) := fX12_hoursBy_b38 v2 v4 (1 : Int32) st
def fX12_hoursBy (a0 : Int32) (a1 : Int32) (a2 : Int32) (st : St) : Option (Int32 × St) := gi (((55 : Int32) + ((6 : Int32) * a0)) + a1) 5550 (lt (st.2.2.1 3 (((55 : Int32) + ((6 : Int32) * a0)) + a1).toNatClampNeg) (fun x1 => if a1 = a2 then (fX12_hoursBy_b33 a1 x1 st) else (gi ((25 : Int32) + a1) 5550 (if (st.2.2.1 3 ((25 : Int32) + a1).toNatClampNeg) = 0 then (fX12_hoursBy_b33 a1 x1 st) else (fX12_hoursBy_b38 a1 x1 (0 : Int32) st)))))
set_option maxHeartbeats 4000000 in
set_option maxRecDepth 100000 in
theorem tX12_hoursBy (l : Launch) (D : va_G) (cy : Nat → ClassId) (ad : Nat → Nat) (hJ : (mads ad).Nodup) (sz : Nat) (a0 : Int32) (a1 : Int32) (a2 : Int32) (st : St) (rr : Int32) (st' : St) (hf : fX12_hoursBy a0 a1 a2 st = some (rr, st')) : Met l yX12_hoursBy (Cond.code yX12_hoursBy cX12_hoursBy 6 (some .int) :: TT) (rmD 0) (mPc D cy ad [.int a0, .int a1, .int a2] st sz) (mQi D cy ad rr st' sz) 0 0 (mA ad sz) := by
  refine m_meti (by decide) hJ (Nat.le_of_ble_eq_true rfl) (fun p e s m args below meth c ls E hx hb hr hlocks hown hT hD hl hP hS => ?_)
  replace hl : lv_has ls 6 [(0, .ref (ad 100)), (1, .int a0), (2, .int a1), (3, .int a2)] := hl
  unfold fX12_hoursBy at hf
  have B77 : ∀ (w0 : Int32) (st : St) (H : Heap) (locs : List Loc) (ls : Array Slot), fX12_hoursBy_b77 w0 st = some (rr, st') → lv_has ls 6 [] → va_P D classes (mw cy ad st) H → va_S (mA ad s.heap.size) s.heap H locs → mGi l 0 D cy ad rr st' p e s m args below meth c H locs (F0 m 77 ls [.int w0]) := by
    intro w0 st H locs ls hf hl hP hS
    unfold fX12_hoursBy_b77 at hf
    exact m_iret hx hb hr hlocks hf hP hS dX12_hoursBy_77
  have B62 : ∀ (st : St) (H : Heap) (locs : List Loc) (ls : Array Slot), fX12_hoursBy_b62 st = some (rr, st') → lv_has ls 6 [] → va_P D classes (mw cy ad st) H → va_S (mA ad s.heap.size) s.heap H locs → mGi l 0 D cy ad rr st' p e s m args below meth c H locs (F0 m 62 ls []) := by
    intro st H locs ls hf hl hP hS
    unfold fX12_hoursBy_b62 at hf
    refine lv_ldcw (v := 100000000) hx hb hown (hT _ k_1666) dX12_hoursBy_62 ?_
    refine lv_goto (tgt := 77) hx hb dX12_hoursBy_65 (by decide) ?_
    exact B77 (100000000 : Int32) st _ _ ls hf hl hP hS
  have B38 : ∀ (v2 : Int32) (v4 : Int32) (w0 : Int32) (st : St) (H : Heap) (locs : List Loc) (ls : Array Slot), fX12_hoursBy_b38 v2 v4 w0 st = some (rr, st') → lv_has ls 6 [(0, .ref (ad 100)), (2, .int v2), (4, .int v4)] → va_P D classes (mw cy ad st) H → va_S (mA ad s.heap.size) s.heap H locs → mGi l 0 D cy ad rr st' p e s m args below meth c H locs (F0 m 38 ls [.int w0]) := by
    intro v2 v4 w0 st H locs ls hf hl hP hS
    unfold fX12_hoursBy_b38 at hf
    refine lv_istore (lv' := [(5, .int w0), (0, .ref (ad 100)), (2, .int v2), (4, .int v4)]) hx hb dX12_hoursBy_38 hl (by decide) rfl (fun ls hl => ?_)
    refine lv_iload hx hb dX12_hoursBy_40 (lv_at hl 3 rfl) ?_
    refine lv_if_eq (tgt := 62) hx hb dX12_hoursBy_42 (by decide) (fun hc => ?_) (fun hc => ?_)
    · replace hf := it_pos hc hf
      exact B62 st _ _ ls hf (lv_sub hl [] rfl) hP hS
    · replace hf := it_neg hc hf
      refine lv_iload hx hb dX12_hoursBy_45 (lv_at hl 0 rfl) ?_
      refine lv_if_eq (tgt := 62) hx hb dX12_hoursBy_47 (by decide) (fun hc => ?_) (fun hc => ?_)
      · replace hf := it_pos hc hf
        exact B62 st _ _ ls hf (lv_sub hl [] rfl) hP hS
      · replace hf := it_neg hc hf
        refine lv_aload_n hx hb dX12_hoursBy_50 rfl (lv_at hl 1 rfl) ?_
        refine mg_41 E hP dX12_hoursBy_51 ?_
        refine lv_iload_n hx hb dX12_hoursBy_54 rfl (lv_at hl 2 rfl) ?_
        obtain ⟨hi, hf⟩ := gi_some hf
        refine ml_41 E hP hi dX12_hoursBy_55 ?_
        refine lv_ldcw (v := 100000000) hx hb hown (hT _ k_1666) dX12_hoursBy_56 ?_
        refine lv_icmp_ne (tgt := 68) hx hb dX12_hoursBy_59 (by decide) (fun hc => ?_) (fun hc => ?_)
        · replace hf := it_neg hc hf
          refine lv_iload hx hb dX12_hoursBy_68 (lv_at hl 3 rfl) ?_
          refine lv_aload_n hx hb dX12_hoursBy_70 rfl (lv_at hl 1 rfl) ?_
          refine mg_41 E hP dX12_hoursBy_71 ?_
          refine lv_iload_n hx hb dX12_hoursBy_74 rfl (lv_at hl 2 rfl) ?_
          obtain ⟨hi, hf⟩ := gi_some hf
          refine ml_41 E hP hi dX12_hoursBy_75 ?_
          refine lv_iadd hx hb dX12_hoursBy_76 ?_
          exact B77 (v4 + (st.2.2.1 41 v2.toNatClampNeg)) st _ _ ls hf (lv_sub hl [] rfl) hP hS
        · replace hf := it_pos hc hf
          exact B62 st _ _ ls hf (lv_sub hl [] rfl) hP hS
  have B33 : ∀ (v2 : Int32) (v4 : Int32) (st : St) (H : Heap) (locs : List Loc) (ls : Array Slot), fX12_hoursBy_b33 v2 v4 st = some (rr, st') → lv_has ls 6 [(0, .ref (ad 100)), (2, .int v2), (4, .int v4)] → va_P D classes (mw cy ad st) H → va_S (mA ad s.heap.size) s.heap H locs → mGi l 0 D cy ad rr st' p e s m args below meth c H locs (F0 m 33 ls []) := by
    intro v2 v4 st H locs ls hf hl hP hS
    unfold fX12_hoursBy_b33 at hf
    refine lv_iconst (v := 1) hx hb dX12_hoursBy_33 (by decide) ?_
    refine lv_goto (tgt := 38) hx hb dX12_hoursBy_34 (by decide) ?_
    exact B38 v2 v4 (1 : Int32) st _ _ ls hf hl hP hS
  refine lv_aload_n hx hb dX12_hoursBy_0 rfl (lv_at hl 0 rfl) ?_
  refine mg_3 E hP dX12_hoursBy_1 ?_
  refine lv_bipush (v := 55) hx hb dX12_hoursBy_4 (by decide) ?_
  refine lv_bipush (v := 6) hx hb dX12_hoursBy_6 (by decide) ?_
  refine lv_iload_n hx hb dX12_hoursBy_8 rfl (lv_at hl 1 rfl) ?_
  refine lv_imul hx hb dX12_hoursBy_9 ?_
  refine lv_iadd hx hb dX12_hoursBy_10 ?_
  refine lv_iload_n hx hb dX12_hoursBy_11 rfl (lv_at hl 2 rfl) ?_
  refine lv_iadd hx hb dX12_hoursBy_12 ?_
  obtain ⟨hi, hf⟩ := gi_some hf
  refine ml_3 E hP hi dX12_hoursBy_13 ?_
  refine lv_topi (fun x1 ex => ?_)
  replace hf := lt_at ex hf; clear ex
  refine lv_istore (lv' := [(4, .int x1), (0, .ref (ad 100)), (1, .int a0), (2, .int a1), (3, .int a2)]) hx hb dX12_hoursBy_14 hl (by decide) rfl (fun ls hl => ?_)
  refine lv_iload_n hx hb dX12_hoursBy_16 rfl (lv_at hl 3 rfl) ?_
  refine lv_iload_n hx hb dX12_hoursBy_17 rfl (lv_at hl 4 rfl) ?_
  refine lv_icmp_eq (tgt := 33) hx hb dX12_hoursBy_18 (by decide) (fun hc => ?_) (fun hc => ?_)
  · replace hf := it_pos hc hf
    exact B33 a1 x1 st _ _ ls hf (lv_sub hl [1, 3, 0] rfl) hP hS
  · replace hf := it_neg hc hf
    refine lv_aload_n hx hb dX12_hoursBy_21 rfl (lv_at hl 1 rfl) ?_
    refine mg_3 E hP dX12_hoursBy_22 ?_
    refine lv_bipush (v := 25) hx hb dX12_hoursBy_25 (by decide) ?_
    refine lv_iload_n hx hb dX12_hoursBy_27 rfl (lv_at hl 3 rfl) ?_
    refine lv_iadd hx hb dX12_hoursBy_28 ?_
    obtain ⟨hi, hf⟩ := gi_some hf
    refine ml_3 E hP hi dX12_hoursBy_29 ?_
    refine lv_if_ne (tgt := 37) hx hb dX12_hoursBy_30 (by decide) (fun hc => ?_) (fun hc => ?_)
    · replace hf := it_neg hc hf
      refine lv_iconst (v := 0) hx hb dX12_hoursBy_37 (by decide) ?_
      exact B38 a1 x1 (0 : Int32) st _ _ ls hf (lv_sub hl [1, 3, 0] rfl) hP hS
    · replace hf := it_pos hc hf
      exact B33 a1 x1 st _ _ ls hf (lv_sub hl [1, 3, 0] rfl) hP hS
theorem qX12_hoursBy : yX12_hoursBy.cls = RX12 ∧ yX12_hoursBy.cls ≠ "java/lang/invoke/MethodHandle" ∧ yX12_hoursBy.cls ≠ "java/lang/invoke/VarHandle" ∧ (parseMethodDescriptor yX12_hoursBy.desc).map (fun d => d.parameters.length) = some 3 := by decide +kernel
def fX12_layHours_b123 (k45 : Int32 → Int32 → Int32 → St → Option (Unit × St)) (k54 : Int32 → Int32 → Int32 → Int32 → St → Option (Unit × St)) (v2 : Int32) (v3 : Int32) (v4 : Int32) (v5 : Int32) (st : St) : Option (Unit × St) := lt (v5 + (1 : Int32)) (fun x1 => k54 v2 v3 v4 x1 st)
def fX12_layHours_b116 (k45 : Int32 → Int32 → Int32 → St → Option (Unit × St)) (k54 : Int32 → Int32 → Int32 → Int32 → St → Option (Unit × St)) (k63 : Int32 → Int32 → Int32 → Int32 → Int32 → St → Option (Unit × St)) (v2 : Int32) (v3 : Int32) (v4 : Int32) (v5 : Int32) (v6 : Int32) (w0 : Int32) (w1 : Int32) (st : St) : Option (Unit × St) := gi w1 6 (lt (sA st 41 (upd (st.2.2.1 41) w1.toNatClampNeg w0)) (fun st2 => lt (v6 + (1 : Int32)) (fun x3 => k63 v2 v3 v4 v5 x3 st2)))
def fX12_layHours_b63 (k45 : Int32 → Int32 → Int32 → St → Option (Unit × St)) (k54 : Int32 → Int32 → Int32 → Int32 → St → Option (Unit × St)) (k63 : Int32 → Int32 → Int32 → Int32 → Int32 → St → Option (Unit × St)) (v2 : Int32) (v3 : Int32) (v4 : Int32) (v5 : Int32) (v6 : Int32) (st : St) : Option (Unit × St) := if v3 ≤ v6 then (fX12_layHours_b123 k45 k54 v2 v3 v4 v5 st) else (if v5 = v2 then (fX12_layHours_b123 k45 k54 v2 v3 v4 v5 st) else (bd (fX12_hoursBy v5 v6 v2 st) (fun r4 st5 => gi v5 6 (if (st5.2.2.1 41 v5.toNatClampNeg) ≤ r4 then (gi v5 6 (fX12_layHours_b116 k45 k54 k63 v2 v3 v4 v5 v6 (st5.2.2.1 41 v5.toNatClampNeg) v5 st5)) else (fX12_layHours_b116 k45 k54 k63 v2 v3 v4 v5 v6 r4 v5 st5)))))
def fX12_layHours_b54 (k45 : Int32 → Int32 → Int32 → St → Option (Unit × St)) (k54 : Int32 → Int32 → Int32 → Int32 → St → Option (Unit × St)) (v2 : Int32) (v3 : Int32) (v4 : Int32) (v5 : Int32) (st : St) : Option (Unit × St) := if v3 ≤ v5 then (lt (v4 + (1 : Int32)) (fun x6 => k45 v2 v3 x6 st)) else (lp (fun _ _ _ _ _ _ => none) (fX12_layHours_b63 k45 k54) 6000 v2 v3 v4 v5 (0 : Int32) st)
def fX12_layHours_b45 (k45 : Int32 → Int32 → Int32 → St → Option (Unit × St)) (v2 : Int32) (v3 : Int32) (v4 : Int32) (st : St) : Option (Unit × St) := if v3 ≤ v4 then (some ((), st)) else (lp (fun _ _ _ _ _ => none) (fX12_layHours_b54 k45) 6000 v2 v3 v4 (0 : Int32) st)
def fX12_layHours_b35 (k10 : Int32 → Int32 → Int32 → St → Option (Unit × St)) (v2 : Int32) (v3 : Int32) (v4 : Int32) (w0 : Int32) (w1 : Int32) (st : St) : Option (Unit × St) := gi w1 6 (lt (sA st 41 (upd (st.2.2.1 41) w1.toNatClampNeg w0)) (fun st7 => lt (v4 + (1 : Int32)) (fun x8 => k10 v2 v3 x8 st7)))
def fX12_layHours_b10 (k10 : Int32 → Int32 → Int32 → St → Option (Unit × St)) (v2 : Int32) (v3 : Int32) (v4 : Int32) (st : St) : Option (Unit × St) := if v3 ≤ v4 then (lp (fun _ _ _ _ => none) (fX12_layHours_b45) 6000 v2 v3 (0 : Int32) st) else (if v4 = v2 then (fX12_layHours_b35 k10 v2 v3 v4 (0 : Int32) v4 st) else (fX12_layHours_b35 k10 v2 v3 v4 (100000000 : Int32) v4 st))
def fX12_layHours (a0 : Int32) (a1 : Int32) (st : St) : Option (Unit × St) := lt (st.2.2.1 3 (0 : Int32).toNatClampNeg) (fun x9 => lp (fun _ _ _ _ => none) (fX12_layHours_b10) 6000 a1 x9 (0 : Int32) st)
set_option maxHeartbeats 4000000 in
set_option maxRecDepth 100000 in
theorem tX12_layHours (l : Launch) (D : va_G) (cy : Nat → ClassId) (ad : Nat → Nat) (hJ : (mads ad).Nodup) (sz : Nat) (a0 : Int32) (a1 : Int32) (st : St) (rr : Unit) (st' : St) (hf : fX12_layHours a0 a1 st = some (rr, st')) : Met l yX12_layHours (Cond.code yX12_layHours cX12_layHours 8 none :: TT) (rmD 1) (mPc D cy ad [.int a0, .int a1] st sz) (mQv D cy ad rr st' sz) 0 0 (mA ad sz) := by
  refine m_metv (by decide) hJ (Nat.le_of_ble_eq_true rfl) (fun p e s m args below meth c ls E hx hb hr hlocks hown hT hD hl hP hS => ?_)
  replace hl : lv_has ls 8 [(0, .ref (ad 100)), (1, .int a0), (2, .int a1)] := hl
  unfold fX12_layHours at hf
  have L45 : ∀ (n : Nat) (v2 : Int32) (v3 : Int32) (v4 : Int32) (st : St) (H : Heap) (locs : List Loc) (ls : Array Slot), lp (fun _ _ _ _ => none) (fX12_layHours_b45) n v2 v3 v4 st = some (rr, st') → lv_has ls 8 [(0, .ref (ad 100)), (2, .int v2), (3, .int v3), (4, .int v4)] → va_P D classes (mw cy ad st) H → va_S (mA ad s.heap.size) s.heap H locs → mGv l 1 D cy ad rr st' p e s m args below meth c H locs (F0 m 45 ls []) := by
    intro n
    induction n with
    | zero => intro v2 v3 v4 st H locs ls hf; exact absurd hf (fun h => by cases h)
    | succ n K45 =>
      intro v2 v3 v4 st H locs ls hf hl hP hS
      replace hf : fX12_layHours_b45 (lp (fun _ _ _ _ => none) (fX12_layHours_b45) n) v2 v3 v4 st = some (rr, st') := hf
      generalize lp (fun _ _ _ _ => none) (fX12_layHours_b45) n = k45 at hf K45
      have L54 : ∀ (n : Nat) (v2 : Int32) (v3 : Int32) (v4 : Int32) (v5 : Int32) (st : St) (H : Heap) (locs : List Loc) (ls : Array Slot), lp (fun _ _ _ _ _ => none) (fX12_layHours_b54 k45) n v2 v3 v4 v5 st = some (rr, st') → lv_has ls 8 [(0, .ref (ad 100)), (2, .int v2), (3, .int v3), (4, .int v4), (5, .int v5)] → va_P D classes (mw cy ad st) H → va_S (mA ad s.heap.size) s.heap H locs → mGv l 1 D cy ad rr st' p e s m args below meth c H locs (F0 m 54 ls []) := by
        intro n
        induction n with
        | zero => intro v2 v3 v4 v5 st H locs ls hf; exact absurd hf (fun h => by cases h)
        | succ n K54 =>
          intro v2 v3 v4 v5 st H locs ls hf hl hP hS
          replace hf : fX12_layHours_b54 k45 (lp (fun _ _ _ _ _ => none) (fX12_layHours_b54 k45) n) v2 v3 v4 v5 st = some (rr, st') := hf
          generalize lp (fun _ _ _ _ _ => none) (fX12_layHours_b54 k45) n = k54 at hf K54
          have B123 : ∀ (v2 : Int32) (v3 : Int32) (v4 : Int32) (v5 : Int32) (st : St) (H : Heap) (locs : List Loc) (ls : Array Slot), fX12_layHours_b123 k45 k54 v2 v3 v4 v5 st = some (rr, st') → lv_has ls 8 [(0, .ref (ad 100)), (2, .int v2), (3, .int v3), (4, .int v4), (5, .int v5)] → va_P D classes (mw cy ad st) H → va_S (mA ad s.heap.size) s.heap H locs → mGv l 1 D cy ad rr st' p e s m args below meth c H locs (F0 m 123 ls []) := by
            intro v2 v3 v4 v5 st H locs ls hf hl hP hS
            unfold fX12_layHours_b123 at hf
            obtain ⟨x1, ex⟩ : ∃ y : Int32, y = v5 + (1 : Int32) := ⟨_, rfl⟩
            replace hf := lt_at ex hf
            refine lv_iinc (v := x1) (lv' := [(5, .int x1), (0, .ref (ad 100)), (2, .int v2), (3, .int v3), (4, .int v4)]) hx hb dX12_layHours_123 hl (k := 4) rfl (by rw [ex]; rfl) (by decide) rfl (fun ls hl => ?_)
            clear ex
            refine lv_goto (tgt := 54) hx hb dX12_layHours_126 (by decide) ?_
            exact K54 v2 v3 v4 x1 st _ _ ls hf (lv_sub hl [1, 2, 3, 4, 0] rfl) hP hS
          have L63 : ∀ (n : Nat) (v2 : Int32) (v3 : Int32) (v4 : Int32) (v5 : Int32) (v6 : Int32) (st : St) (H : Heap) (locs : List Loc) (ls : Array Slot), lp (fun _ _ _ _ _ _ => none) (fX12_layHours_b63 k45 k54) n v2 v3 v4 v5 v6 st = some (rr, st') → lv_has ls 8 [(0, .ref (ad 100)), (2, .int v2), (3, .int v3), (4, .int v4), (5, .int v5), (6, .int v6)] → va_P D classes (mw cy ad st) H → va_S (mA ad s.heap.size) s.heap H locs → mGv l 1 D cy ad rr st' p e s m args below meth c H locs (F0 m 63 ls []) := by
            intro n
            induction n with
            | zero => intro v2 v3 v4 v5 v6 st H locs ls hf; exact absurd hf (fun h => by cases h)
            | succ n K63 =>
              intro v2 v3 v4 v5 v6 st H locs ls hf hl hP hS
              replace hf : fX12_layHours_b63 k45 k54 (lp (fun _ _ _ _ _ _ => none) (fX12_layHours_b63 k45 k54) n) v2 v3 v4 v5 v6 st = some (rr, st') := hf
              generalize lp (fun _ _ _ _ _ _ => none) (fX12_layHours_b63 k45 k54) n = k63 at hf K63
              have B116 : ∀ (v2 : Int32) (v3 : Int32) (v4 : Int32) (v5 : Int32) (v6 : Int32) (w0 : Int32) (w1 : Int32) (st : St) (H : Heap) (locs : List Loc) (ls : Array Slot), fX12_layHours_b116 k45 k54 k63 v2 v3 v4 v5 v6 w0 w1 st = some (rr, st') → lv_has ls 8 [(0, .ref (ad 100)), (2, .int v2), (3, .int v3), (4, .int v4), (5, .int v5), (6, .int v6)] → va_P D classes (mw cy ad st) H → va_S (mA ad s.heap.size) s.heap H locs → mGv l 1 D cy ad rr st' p e s m args below meth c H locs (F0 m 116 ls [.int w0, .int w1, .ref (ad 41)]) := by
                intro v2 v3 v4 v5 v6 w0 w1 st H locs ls hf hl hP hS
                unfold fX12_layHours_b116 at hf
                obtain ⟨hi, hf⟩ := gi_some hf
                refine ms_41 E hD hP hS hi dX12_layHours_116 (fun st2 H locs ex hP hS => ?_)
                replace hf := lt_at ex hf; clear ex
                obtain ⟨x3, ex⟩ : ∃ y : Int32, y = v6 + (1 : Int32) := ⟨_, rfl⟩
                replace hf := lt_at ex hf
                refine lv_iinc (v := x3) (lv' := [(6, .int x3), (0, .ref (ad 100)), (2, .int v2), (3, .int v3), (4, .int v4), (5, .int v5)]) hx hb dX12_layHours_117 hl (k := 5) rfl (by rw [ex]; rfl) (by decide) rfl (fun ls hl => ?_)
                clear ex
                refine lv_goto (tgt := 63) hx hb dX12_layHours_120 (by decide) ?_
                exact K63 v2 v3 v4 v5 x3 st2 _ _ ls hf (lv_sub hl [1, 2, 3, 4, 5, 0] rfl) hP hS
              unfold fX12_layHours_b63 at hf
              refine lv_iload hx hb dX12_layHours_63 (lv_at hl 5 rfl) ?_
              refine lv_iload_n hx hb dX12_layHours_65 rfl (lv_at hl 2 rfl) ?_
              refine lv_icmp_ge (tgt := 123) hx hb dX12_layHours_66 (by decide) (fun hc => ?_) (fun hc => ?_)
              · replace hf := it_pos hc hf
                exact B123 v2 v3 v4 v5 st _ _ ls hf (lv_sub hl [0, 1, 2, 3, 4] rfl) hP hS
              · replace hf := it_neg hc hf
                refine lv_iload hx hb dX12_layHours_69 (lv_at hl 4 rfl) ?_
                refine lv_iload_n hx hb dX12_layHours_71 rfl (lv_at hl 1 rfl) ?_
                refine lv_icmp_eq (tgt := 123) hx hb dX12_layHours_72 (by decide) (fun hc => ?_) (fun hc => ?_)
                · replace hf := it_pos hc hf
                  exact B123 v2 v3 v4 v5 st _ _ ls hf (lv_sub hl [0, 1, 2, 3, 4] rfl) hP hS
                · replace hf := it_neg hc hf
                  refine lv_aload_n hx hb dX12_layHours_75 rfl (lv_at hl 0 rfl) ?_
                  refine lv_iload hx hb dX12_layHours_76 (lv_at hl 4 rfl) ?_
                  refine lv_iload hx hb dX12_layHours_78 (lv_at hl 5 rfl) ?_
                  refine lv_iload_n hx hb dX12_layHours_80 rfl (lv_at hl 1 rfl) ?_
                  obtain ⟨r4, st5, hc, hf⟩ := bd_some hf
                  refine m_calli (n := 3) (rest := []) E hP hS (fun sz => tX12_hoursBy l D cy ad hJ sz v5 v6 v2 st r4 st5 hc) (gV k_1685 k_1687 ks_87 k_14 k_1688) qX12_hoursBy ⟨Nat.le_of_ble_eq_true rfl, Nat.le_of_ble_eq_true rfl⟩ ⟨Nat.le_refl _, Nat.le_refl _⟩ rfl hl.1 rfl (Nat.le_of_ble_eq_true rfl) dX12_layHours_81 (fun H locs hP hS => ?_)
                  refine lv_istore (lv' := [(7, .int r4), (0, .ref (ad 100)), (2, .int v2), (3, .int v3), (4, .int v4), (5, .int v5), (6, .int v6)]) hx hb dX12_layHours_84 hl (by decide) rfl (fun ls hl => ?_)
                  refine lv_aload_n hx hb dX12_layHours_86 rfl (lv_at hl 1 rfl) ?_
                  refine mg_41 E hP dX12_layHours_87 ?_
                  refine lv_iload hx hb dX12_layHours_90 (lv_at hl 5 rfl) ?_
                  refine lv_iload hx hb dX12_layHours_92 (lv_at hl 0 rfl) ?_
                  refine lv_aload_n hx hb dX12_layHours_94 rfl (lv_at hl 1 rfl) ?_
                  refine mg_41 E hP dX12_layHours_95 ?_
                  refine lv_iload hx hb dX12_layHours_98 (lv_at hl 5 rfl) ?_
                  obtain ⟨hi, hf⟩ := gi_some hf
                  refine ml_41 E hP hi dX12_layHours_100 ?_
                  refine lv_icmp_ge (tgt := 109) hx hb dX12_layHours_101 (by decide) (fun hc => ?_) (fun hc => ?_)
                  · replace hf := it_pos hc hf
                    refine lv_aload_n hx hb dX12_layHours_109 rfl (lv_at hl 1 rfl) ?_
                    refine mg_41 E hP dX12_layHours_110 ?_
                    refine lv_iload hx hb dX12_layHours_113 (lv_at hl 5 rfl) ?_
                    obtain ⟨hi, hf⟩ := gi_some hf
                    refine ml_41 E hP hi dX12_layHours_115 ?_
                    exact B116 v2 v3 v4 v5 v6 (st5.2.2.1 41 v5.toNatClampNeg) v5 st5 _ _ ls hf (lv_sub hl [1, 2, 3, 4, 5, 6] rfl) hP hS
                  · replace hf := it_neg hc hf
                    refine lv_iload hx hb dX12_layHours_104 (lv_at hl 0 rfl) ?_
                    refine lv_goto (tgt := 116) hx hb dX12_layHours_106 (by decide) ?_
                    exact B116 v2 v3 v4 v5 v6 r4 v5 st5 _ _ ls hf (lv_sub hl [1, 2, 3, 4, 5, 6] rfl) hP hS
          unfold fX12_layHours_b54 at hf
          refine lv_iload hx hb dX12_layHours_54 (lv_at hl 4 rfl) ?_
          refine lv_iload_n hx hb dX12_layHours_56 rfl (lv_at hl 2 rfl) ?_
          refine lv_icmp_ge (tgt := 129) hx hb dX12_layHours_57 (by decide) (fun hc => ?_) (fun hc => ?_)
          · replace hf := it_pos hc hf
            obtain ⟨x6, ex⟩ : ∃ y : Int32, y = v4 + (1 : Int32) := ⟨_, rfl⟩
            replace hf := lt_at ex hf
            refine lv_iinc (v := x6) (lv' := [(4, .int x6), (0, .ref (ad 100)), (2, .int v2), (3, .int v3), (5, .int v5)]) hx hb dX12_layHours_129 hl (k := 3) rfl (by rw [ex]; rfl) (by decide) rfl (fun ls hl => ?_)
            clear ex
            refine lv_goto (tgt := 45) hx hb dX12_layHours_132 (by decide) ?_
            exact K45 v2 v3 x6 st _ _ ls hf (lv_sub hl [1, 2, 3, 0] rfl) hP hS
          · replace hf := it_neg hc hf
            refine lv_iconst (v := 0) hx hb dX12_layHours_60 (by decide) ?_
            refine lv_istore (lv' := [(6, .int (0 : Int32)), (0, .ref (ad 100)), (2, .int v2), (3, .int v3), (4, .int v4), (5, .int v5)]) hx hb dX12_layHours_61 hl (by decide) rfl (fun ls hl => ?_)
            exact L63 6000 v2 v3 v4 v5 (0 : Int32) st _ _ ls hf (lv_sub hl [1, 2, 3, 4, 5, 0] rfl) hP hS
      unfold fX12_layHours_b45 at hf
      refine lv_iload hx hb dX12_layHours_45 (lv_at hl 3 rfl) ?_
      refine lv_iload_n hx hb dX12_layHours_47 rfl (lv_at hl 2 rfl) ?_
      refine lv_icmp_ge (tgt := 135) hx hb dX12_layHours_48 (by decide) (fun hc => ?_) (fun hc => ?_)
      · replace hf := it_pos hc hf
        exact m_vret hx hb hr hlocks hf hP hS dX12_layHours_135
      · replace hf := it_neg hc hf
        refine lv_iconst (v := 0) hx hb dX12_layHours_51 (by decide) ?_
        refine lv_istore (lv' := [(5, .int (0 : Int32)), (0, .ref (ad 100)), (2, .int v2), (3, .int v3), (4, .int v4)]) hx hb dX12_layHours_52 hl (by decide) rfl (fun ls hl => ?_)
        exact L54 6000 v2 v3 v4 (0 : Int32) st _ _ ls hf (lv_sub hl [1, 2, 3, 4, 0] rfl) hP hS
  have L10 : ∀ (n : Nat) (v2 : Int32) (v3 : Int32) (v4 : Int32) (st : St) (H : Heap) (locs : List Loc) (ls : Array Slot), lp (fun _ _ _ _ => none) (fX12_layHours_b10) n v2 v3 v4 st = some (rr, st') → lv_has ls 8 [(0, .ref (ad 100)), (2, .int v2), (3, .int v3), (4, .int v4)] → va_P D classes (mw cy ad st) H → va_S (mA ad s.heap.size) s.heap H locs → mGv l 1 D cy ad rr st' p e s m args below meth c H locs (F0 m 10 ls []) := by
    intro n
    induction n with
    | zero => intro v2 v3 v4 st H locs ls hf; exact absurd hf (fun h => by cases h)
    | succ n K10 =>
      intro v2 v3 v4 st H locs ls hf hl hP hS
      replace hf : fX12_layHours_b10 (lp (fun _ _ _ _ => none) (fX12_layHours_b10) n) v2 v3 v4 st = some (rr, st') := hf
      generalize lp (fun _ _ _ _ => none) (fX12_layHours_b10) n = k10 at hf K10
      have B35 : ∀ (v2 : Int32) (v3 : Int32) (v4 : Int32) (w0 : Int32) (w1 : Int32) (st : St) (H : Heap) (locs : List Loc) (ls : Array Slot), fX12_layHours_b35 k10 v2 v3 v4 w0 w1 st = some (rr, st') → lv_has ls 8 [(0, .ref (ad 100)), (2, .int v2), (3, .int v3), (4, .int v4)] → va_P D classes (mw cy ad st) H → va_S (mA ad s.heap.size) s.heap H locs → mGv l 1 D cy ad rr st' p e s m args below meth c H locs (F0 m 35 ls [.int w0, .int w1, .ref (ad 41)]) := by
        intro v2 v3 v4 w0 w1 st H locs ls hf hl hP hS
        unfold fX12_layHours_b35 at hf
        obtain ⟨hi, hf⟩ := gi_some hf
        refine ms_41 E hD hP hS hi dX12_layHours_35 (fun st7 H locs ex hP hS => ?_)
        replace hf := lt_at ex hf; clear ex
        obtain ⟨x8, ex⟩ : ∃ y : Int32, y = v4 + (1 : Int32) := ⟨_, rfl⟩
        replace hf := lt_at ex hf
        refine lv_iinc (v := x8) (lv' := [(4, .int x8), (0, .ref (ad 100)), (2, .int v2), (3, .int v3)]) hx hb dX12_layHours_36 hl (k := 3) rfl (by rw [ex]; rfl) (by decide) rfl (fun ls hl => ?_)
        clear ex
        refine lv_goto (tgt := 10) hx hb dX12_layHours_39 (by decide) ?_
        exact K10 v2 v3 x8 st7 _ _ ls hf (lv_sub hl [1, 2, 3, 0] rfl) hP hS
      unfold fX12_layHours_b10 at hf
      refine lv_iload hx hb dX12_layHours_10 (lv_at hl 3 rfl) ?_
      refine lv_iload_n hx hb dX12_layHours_12 rfl (lv_at hl 2 rfl) ?_
      refine lv_icmp_ge (tgt := 42) hx hb dX12_layHours_13 (by decide) (fun hc => ?_) (fun hc => ?_)
      · replace hf := it_pos hc hf
        refine lv_iconst (v := 0) hx hb dX12_layHours_42 (by decide) ?_
        refine lv_istore (lv' := [(4, .int (0 : Int32)), (0, .ref (ad 100)), (2, .int v2), (3, .int v3)]) hx hb dX12_layHours_43 hl (by decide) rfl (fun ls hl => ?_)
        exact L45 6000 v2 v3 (0 : Int32) st _ _ ls hf (lv_sub hl [1, 2, 3, 0] rfl) hP hS
      · replace hf := it_neg hc hf
        refine lv_aload_n hx hb dX12_layHours_16 rfl (lv_at hl 0 rfl) ?_
        refine mg_41 E hP dX12_layHours_17 ?_
        refine lv_iload hx hb dX12_layHours_20 (lv_at hl 3 rfl) ?_
        refine lv_iload hx hb dX12_layHours_22 (lv_at hl 3 rfl) ?_
        refine lv_iload_n hx hb dX12_layHours_24 rfl (lv_at hl 1 rfl) ?_
        refine lv_icmp_ne (tgt := 32) hx hb dX12_layHours_25 (by decide) (fun hc => ?_) (fun hc => ?_)
        · replace hf := it_neg hc hf
          refine lv_ldcw (v := 100000000) hx hb hown (hT _ k_1666) dX12_layHours_32 ?_
          exact B35 v2 v3 v4 (100000000 : Int32) v4 st _ _ ls hf hl hP hS
        · replace hf := it_pos hc hf
          refine lv_iconst (v := 0) hx hb dX12_layHours_28 (by decide) ?_
          refine lv_goto (tgt := 35) hx hb dX12_layHours_29 (by decide) ?_
          exact B35 v2 v3 v4 (0 : Int32) v4 st _ _ ls hf hl hP hS
  refine lv_aload_n hx hb dX12_layHours_0 rfl (lv_at hl 0 rfl) ?_
  refine mg_3 E hP dX12_layHours_1 ?_
  refine lv_iconst (v := 0) hx hb dX12_layHours_4 (by decide) ?_
  refine ml_3 E hP (vi rfl) dX12_layHours_5 ?_
  refine lv_topi (fun x9 ex => ?_)
  replace hf := lt_at ex hf; clear ex
  refine lv_istore_n (lv' := [(3, .int x9), (0, .ref (ad 100)), (1, .int a0), (2, .int a1)]) hx hb dX12_layHours_6 rfl hl (by decide) rfl (fun ls hl => ?_)
  refine lv_iconst (v := 0) hx hb dX12_layHours_7 (by decide) ?_
  refine lv_istore (lv' := [(4, .int (0 : Int32)), (3, .int x9), (0, .ref (ad 100)), (1, .int a0), (2, .int a1)]) hx hb dX12_layHours_8 hl (by decide) rfl (fun ls hl => ?_)
  exact L10 6000 a1 x9 (0 : Int32) st _ _ ls hf (lv_sub hl [2, 4, 1, 0] rfl) hP hS
theorem qX12_layHours : yX12_layHours.cls = RX12 ∧ yX12_layHours.cls ≠ "java/lang/invoke/MethodHandle" ∧ yX12_layHours.cls ≠ "java/lang/invoke/VarHandle" ∧ (parseMethodDescriptor yX12_layHours.desc).map (fun d => d.parameters.length) = some 2 := by decide +kernel
def fX12_retreat_b31 (st : St) : Option (Int32 × St) := some ((-1 : Int32), st)
def fX12_retreat_b78 (w0 : Int32) (st : St) : Option (Int32 × St) := some (w0, st)
def fX12_retreat_b56 (v1 : Int32) (st : St) : Option (Int32 × St) := gi v1 6 (if (st.2.2.1 41 v1.toNatClampNeg) = (100000000 : Int32) then (fX12_retreat_b78 (-1 : Int32) st) else (gi v1 6 (fX12_retreat_b78 (st.2.2.1 41 v1.toNatClampNeg) st)))
def fX12_retreat_b102 (k85 : Int32 → Int32 → Int32 → Int32 → St → Option (Int32 × St)) (k102 : Int32 → Int32 → Int32 → Int32 → Int32 → St → Option (Int32 × St)) (v2 : Int32) (v3 : Int32) (v4 : Int32) (v5 : Int32) (v6 : Int32) (st : St) : Option (Int32 × St) := bd (fX12_hoursBy v4 v6 v2 st) (fun r1 st2 => gi v4 6 (if r1 = (st2.2.2.1 41 v4.toNatClampNeg) then (lt (v5 + (1 : Int32)) (fun x3 => k85 v2 v3 v6 x3 st2)) else (lt (v6 + (1 : Int32)) (fun x4 => k102 v2 v3 v4 v5 x4 st2))))
def fX12_retreat_b85 (k85 : Int32 → Int32 → Int32 → Int32 → St → Option (Int32 × St)) (v2 : Int32) (v3 : Int32) (v4 : Int32) (v5 : Int32) (st : St) : Option (Int32 × St) := if v3 < v5 then (some (v4, st)) else (if v4 = v2 then (some ((-1 : Int32), st)) else (lp (fun _ _ _ _ _ _ => none) (fX12_retreat_b102 k85) 6000 v2 v3 v4 v5 (0 : Int32) st))
def fX12_retreat (a0 : Int32) (a1 : Int32) (a2 : Int32) (st : St) : Option (Int32 × St) := lt (sI st 0 (0 : Int32)) (fun st5 => bd (fX12_isFort a0 st5) (fun r6 st7 => if r6 = 0 then (fX12_retreat_b31 st7) else (bd (fX12_isFort a1 st7) (fun r8 st9 => if r8 = 0 then (fX12_retreat_b31 st9) else (if a0 = a1 then (fX12_retreat_b31 st9) else (if (-1 : Int32) ≤ a2 then (bd (fX12_layHours a0 a1 st9) (fun r10 st11 => gi a0 6 (if (st11.2.2.1 41 a0.toNatClampNeg) = (100000000 : Int32) then (fX12_retreat_b56 a0 st11) else (if a2 = (-1 : Int32) then (fX12_retreat_b56 a0 st11) else (lp (fun _ _ _ _ _ => none) (fX12_retreat_b85) 6000 a1 a2 a0 (0 : Int32) st11))))) else (fX12_retreat_b31 st9)))))))
set_option maxHeartbeats 4000000 in
set_option maxRecDepth 100000 in
theorem tX12_retreat (l : Launch) (D : va_G) (cy : Nat → ClassId) (ad : Nat → Nat) (hJ : (mads ad).Nodup) (sz : Nat) (a0 : Int32) (a1 : Int32) (a2 : Int32) (st : St) (rr : Int32) (st' : St) (hf : fX12_retreat a0 a1 a2 st = some (rr, st')) : Met l yX12_retreat (Cond.code yX12_retreat cX12_retreat 7 (some .int) :: TT) (rmD 2) (mPc D cy ad [.int a0, .int a1, .int a2] st sz) (mQi D cy ad rr st' sz) 0 0 (mA ad sz) := by
  refine m_meti (by decide) hJ (Nat.le_of_ble_eq_true rfl) (fun p e s m args below meth c ls E hx hb hr hlocks hown hT hD hl hP hS => ?_)
  replace hl : lv_has ls 7 [(0, .ref (ad 100)), (1, .int a0), (2, .int a1), (3, .int a2)] := hl
  unfold fX12_retreat at hf
  have B31 : ∀ (st : St) (H : Heap) (locs : List Loc) (ls : Array Slot), fX12_retreat_b31 st = some (rr, st') → lv_has ls 7 [] → va_P D classes (mw cy ad st) H → va_S (mA ad s.heap.size) s.heap H locs → mGi l 2 D cy ad rr st' p e s m args below meth c H locs (F0 m 31 ls []) := by
    intro st H locs ls hf hl hP hS
    unfold fX12_retreat_b31 at hf
    refine lv_iconst (v := -1) hx hb dX12_retreat_31 (by decide) ?_
    exact m_iret hx hb hr hlocks hf hP hS dX12_retreat_32
  have B78 : ∀ (w0 : Int32) (st : St) (H : Heap) (locs : List Loc) (ls : Array Slot), fX12_retreat_b78 w0 st = some (rr, st') → lv_has ls 7 [] → va_P D classes (mw cy ad st) H → va_S (mA ad s.heap.size) s.heap H locs → mGi l 2 D cy ad rr st' p e s m args below meth c H locs (F0 m 78 ls [.int w0]) := by
    intro w0 st H locs ls hf hl hP hS
    unfold fX12_retreat_b78 at hf
    exact m_iret hx hb hr hlocks hf hP hS dX12_retreat_78
  have B56 : ∀ (v1 : Int32) (st : St) (H : Heap) (locs : List Loc) (ls : Array Slot), fX12_retreat_b56 v1 st = some (rr, st') → lv_has ls 7 [(0, .ref (ad 100)), (1, .int v1)] → va_P D classes (mw cy ad st) H → va_S (mA ad s.heap.size) s.heap H locs → mGi l 2 D cy ad rr st' p e s m args below meth c H locs (F0 m 56 ls []) := by
    intro v1 st H locs ls hf hl hP hS
    unfold fX12_retreat_b56 at hf
    refine lv_aload_n hx hb dX12_retreat_56 rfl (lv_at hl 0 rfl) ?_
    refine mg_41 E hP dX12_retreat_57 ?_
    refine lv_iload_n hx hb dX12_retreat_60 rfl (lv_at hl 1 rfl) ?_
    obtain ⟨hi, hf⟩ := gi_some hf
    refine ml_41 E hP hi dX12_retreat_61 ?_
    refine lv_ldcw (v := 100000000) hx hb hown (hT _ k_1666) dX12_retreat_62 ?_
    refine lv_icmp_ne (tgt := 72) hx hb dX12_retreat_65 (by decide) (fun hc => ?_) (fun hc => ?_)
    · replace hf := it_neg hc hf
      refine lv_aload_n hx hb dX12_retreat_72 rfl (lv_at hl 0 rfl) ?_
      refine mg_41 E hP dX12_retreat_73 ?_
      refine lv_iload_n hx hb dX12_retreat_76 rfl (lv_at hl 1 rfl) ?_
      obtain ⟨hi, hf⟩ := gi_some hf
      refine ml_41 E hP hi dX12_retreat_77 ?_
      exact B78 (st.2.2.1 41 v1.toNatClampNeg) st _ _ ls hf (lv_sub hl [] rfl) hP hS
    · replace hf := it_pos hc hf
      refine lv_iconst (v := -1) hx hb dX12_retreat_68 (by decide) ?_
      refine lv_goto (tgt := 78) hx hb dX12_retreat_69 (by decide) ?_
      exact B78 (-1 : Int32) st _ _ ls hf (lv_sub hl [] rfl) hP hS
  have L85 : ∀ (n : Nat) (v2 : Int32) (v3 : Int32) (v4 : Int32) (v5 : Int32) (st : St) (H : Heap) (locs : List Loc) (ls : Array Slot), lp (fun _ _ _ _ _ => none) (fX12_retreat_b85) n v2 v3 v4 v5 st = some (rr, st') → lv_has ls 7 [(0, .ref (ad 100)), (2, .int v2), (3, .int v3), (4, .int v4), (5, .int v5)] → va_P D classes (mw cy ad st) H → va_S (mA ad s.heap.size) s.heap H locs → mGi l 2 D cy ad rr st' p e s m args below meth c H locs (F0 m 85 ls []) := by
    intro n
    induction n with
    | zero => intro v2 v3 v4 v5 st H locs ls hf; exact absurd hf (fun h => by cases h)
    | succ n K85 =>
      intro v2 v3 v4 v5 st H locs ls hf hl hP hS
      replace hf : fX12_retreat_b85 (lp (fun _ _ _ _ _ => none) (fX12_retreat_b85) n) v2 v3 v4 v5 st = some (rr, st') := hf
      generalize lp (fun _ _ _ _ _ => none) (fX12_retreat_b85) n = k85 at hf K85
      have L102 : ∀ (n : Nat) (v2 : Int32) (v3 : Int32) (v4 : Int32) (v5 : Int32) (v6 : Int32) (st : St) (H : Heap) (locs : List Loc) (ls : Array Slot), lp (fun _ _ _ _ _ _ => none) (fX12_retreat_b102 k85) n v2 v3 v4 v5 v6 st = some (rr, st') → lv_has ls 7 [(0, .ref (ad 100)), (2, .int v2), (3, .int v3), (4, .int v4), (5, .int v5), (6, .int v6)] → va_P D classes (mw cy ad st) H → va_S (mA ad s.heap.size) s.heap H locs → mGi l 2 D cy ad rr st' p e s m args below meth c H locs (F0 m 102 ls []) := by
        intro n
        induction n with
        | zero => intro v2 v3 v4 v5 v6 st H locs ls hf; exact absurd hf (fun h => by cases h)
        | succ n K102 =>
          intro v2 v3 v4 v5 v6 st H locs ls hf hl hP hS
          replace hf : fX12_retreat_b102 k85 (lp (fun _ _ _ _ _ _ => none) (fX12_retreat_b102 k85) n) v2 v3 v4 v5 v6 st = some (rr, st') := hf
          generalize lp (fun _ _ _ _ _ _ => none) (fX12_retreat_b102 k85) n = k102 at hf K102
          unfold fX12_retreat_b102 at hf
          refine lv_aload_n hx hb dX12_retreat_102 rfl (lv_at hl 0 rfl) ?_
          refine lv_iload hx hb dX12_retreat_103 (lv_at hl 3 rfl) ?_
          refine lv_iload hx hb dX12_retreat_105 (lv_at hl 5 rfl) ?_
          refine lv_iload_n hx hb dX12_retreat_107 rfl (lv_at hl 1 rfl) ?_
          obtain ⟨r1, st2, hc, hf⟩ := bd_some hf
          refine m_calli (n := 3) (rest := []) E hP hS (fun sz => tX12_hoursBy l D cy ad hJ sz v4 v6 v2 st r1 st2 hc) (gV k_1685 k_1687 ks_87 k_14 k_1688) qX12_hoursBy ⟨Nat.le_of_ble_eq_true rfl, Nat.le_of_ble_eq_true rfl⟩ ⟨Nat.le_refl _, Nat.le_refl _⟩ rfl hl.1 rfl (Nat.le_of_ble_eq_true rfl) dX12_retreat_108 (fun H locs hP hS => ?_)
          refine lv_aload_n hx hb dX12_retreat_111 rfl (lv_at hl 0 rfl) ?_
          refine mg_41 E hP dX12_retreat_112 ?_
          refine lv_iload hx hb dX12_retreat_115 (lv_at hl 3 rfl) ?_
          obtain ⟨hi, hf⟩ := gi_some hf
          refine ml_41 E hP hi dX12_retreat_117 ?_
          refine lv_icmp_eq (tgt := 127) hx hb dX12_retreat_118 (by decide) (fun hc => ?_) (fun hc => ?_)
          · replace hf := it_pos hc hf
            refine lv_iload hx hb dX12_retreat_127 (lv_at hl 5 rfl) ?_
            refine lv_istore (lv' := [(4, .int v6), (0, .ref (ad 100)), (2, .int v2), (3, .int v3), (5, .int v5), (6, .int v6)]) hx hb dX12_retreat_129 hl (by decide) rfl (fun ls hl => ?_)
            obtain ⟨x3, ex⟩ : ∃ y : Int32, y = v5 + (1 : Int32) := ⟨_, rfl⟩
            replace hf := lt_at ex hf
            refine lv_iinc (v := x3) (lv' := [(5, .int x3), (4, .int v6), (0, .ref (ad 100)), (2, .int v2), (3, .int v3), (6, .int v6)]) hx hb dX12_retreat_131 hl (k := 4) rfl (by rw [ex]; rfl) (by decide) rfl (fun ls hl => ?_)
            clear ex
            refine lv_goto (tgt := 85) hx hb dX12_retreat_134 (by decide) ?_
            exact K85 v2 v3 v6 x3 st2 _ _ ls hf (lv_sub hl [2, 3, 4, 1, 0] rfl) hP hS
          · replace hf := it_neg hc hf
            obtain ⟨x4, ex⟩ : ∃ y : Int32, y = v6 + (1 : Int32) := ⟨_, rfl⟩
            replace hf := lt_at ex hf
            refine lv_iinc (v := x4) (lv' := [(6, .int x4), (0, .ref (ad 100)), (2, .int v2), (3, .int v3), (4, .int v4), (5, .int v5)]) hx hb dX12_retreat_121 hl (k := 5) rfl (by rw [ex]; rfl) (by decide) rfl (fun ls hl => ?_)
            clear ex
            refine lv_goto (tgt := 102) hx hb dX12_retreat_124 (by decide) ?_
            exact K102 v2 v3 v4 v5 x4 st2 _ _ ls hf (lv_sub hl [1, 2, 3, 4, 5, 0] rfl) hP hS
      unfold fX12_retreat_b85 at hf
      refine lv_iload hx hb dX12_retreat_85 (lv_at hl 4 rfl) ?_
      refine lv_iload_n hx hb dX12_retreat_87 rfl (lv_at hl 2 rfl) ?_
      refine lv_icmp_gt (tgt := 137) hx hb dX12_retreat_88 (by decide) (fun hc => ?_) (fun hc => ?_)
      · replace hf := it_pos hc hf
        refine lv_iload hx hb dX12_retreat_137 (lv_at hl 3 rfl) ?_
        exact m_iret hx hb hr hlocks hf hP hS dX12_retreat_139
      · replace hf := it_neg hc hf
        refine lv_iload hx hb dX12_retreat_91 (lv_at hl 3 rfl) ?_
        refine lv_iload_n hx hb dX12_retreat_93 rfl (lv_at hl 1 rfl) ?_
        refine lv_icmp_ne (tgt := 99) hx hb dX12_retreat_94 (by decide) (fun hc => ?_) (fun hc => ?_)
        · replace hf := it_neg hc hf
          refine lv_iconst (v := 0) hx hb dX12_retreat_99 (by decide) ?_
          refine lv_istore (lv' := [(6, .int (0 : Int32)), (0, .ref (ad 100)), (2, .int v2), (3, .int v3), (4, .int v4), (5, .int v5)]) hx hb dX12_retreat_100 hl (by decide) rfl (fun ls hl => ?_)
          exact L102 6000 v2 v3 v4 v5 (0 : Int32) st _ _ ls hf (lv_sub hl [1, 2, 3, 4, 5, 0] rfl) hP hS
        · replace hf := it_pos hc hf
          refine lv_iconst (v := -1) hx hb dX12_retreat_97 (by decide) ?_
          exact m_iret hx hb hr hlocks hf hP hS dX12_retreat_98
  refine lv_aload_n hx hb dX12_retreat_0 rfl (lv_at hl 0 rfl) ?_
  refine lv_iconst (v := 0) hx hb dX12_retreat_1 (by decide) ?_
  refine mp_0 E hD hP hS dX12_retreat_2 (fun st5 H locs ex hP hS => ?_)
  replace hf := lt_at ex hf; clear ex
  refine lv_aload_n hx hb dX12_retreat_5 rfl (lv_at hl 0 rfl) ?_
  refine lv_iload_n hx hb dX12_retreat_6 rfl (lv_at hl 1 rfl) ?_
  obtain ⟨r6, st7, hc, hf⟩ := bd_some hf
  refine m_calli (n := 1) (rest := []) E hP hS (fun sz => tX12_isFort l D cy ad hJ sz a0 st5 r6 st7 hc) (gV k_1371 k_1373 ks_40 k_14 k_1374) qX12_isFort ⟨Nat.le_of_ble_eq_true rfl, Nat.le_of_ble_eq_true rfl⟩ ⟨Nat.le_refl _, Nat.le_refl _⟩ rfl hl.1 rfl (Nat.le_of_ble_eq_true rfl) dX12_retreat_7 (fun H locs hP hS => ?_)
  refine lv_if_eq (tgt := 31) hx hb dX12_retreat_10 (by decide) (fun hc => ?_) (fun hc => ?_)
  · replace hf := it_pos hc hf
    exact B31 st7 _ _ ls hf (lv_sub hl [] rfl) hP hS
  · replace hf := it_neg hc hf
    refine lv_aload_n hx hb dX12_retreat_13 rfl (lv_at hl 0 rfl) ?_
    refine lv_iload_n hx hb dX12_retreat_14 rfl (lv_at hl 2 rfl) ?_
    obtain ⟨r8, st9, hc, hf⟩ := bd_some hf
    refine m_calli (n := 1) (rest := []) E hP hS (fun sz => tX12_isFort l D cy ad hJ sz a1 st7 r8 st9 hc) (gV k_1371 k_1373 ks_40 k_14 k_1374) qX12_isFort ⟨Nat.le_of_ble_eq_true rfl, Nat.le_of_ble_eq_true rfl⟩ ⟨Nat.le_refl _, Nat.le_refl _⟩ rfl hl.1 rfl (Nat.le_of_ble_eq_true rfl) dX12_retreat_15 (fun H locs hP hS => ?_)
    refine lv_if_eq (tgt := 31) hx hb dX12_retreat_18 (by decide) (fun hc => ?_) (fun hc => ?_)
    · replace hf := it_pos hc hf
      exact B31 st9 _ _ ls hf (lv_sub hl [] rfl) hP hS
    · replace hf := it_neg hc hf
      refine lv_iload_n hx hb dX12_retreat_21 rfl (lv_at hl 1 rfl) ?_
      refine lv_iload_n hx hb dX12_retreat_22 rfl (lv_at hl 2 rfl) ?_
      refine lv_icmp_eq (tgt := 31) hx hb dX12_retreat_23 (by decide) (fun hc => ?_) (fun hc => ?_)
      · replace hf := it_pos hc hf
        exact B31 st9 _ _ ls hf (lv_sub hl [] rfl) hP hS
      · replace hf := it_neg hc hf
        refine lv_iload_n hx hb dX12_retreat_26 rfl (lv_at hl 3 rfl) ?_
        refine lv_iconst (v := -1) hx hb dX12_retreat_27 (by decide) ?_
        refine lv_icmp_ge (tgt := 33) hx hb dX12_retreat_28 (by decide) (fun hc => ?_) (fun hc => ?_)
        · replace hf := it_pos hc hf
          refine lv_aload_n hx hb dX12_retreat_33 rfl (lv_at hl 0 rfl) ?_
          refine lv_iload_n hx hb dX12_retreat_34 rfl (lv_at hl 1 rfl) ?_
          refine lv_iload_n hx hb dX12_retreat_35 rfl (lv_at hl 2 rfl) ?_
          obtain ⟨r10, st11, hc, hf⟩ := bd_some hf
          refine m_callv (n := 2) (rest := []) E hP hS (fun sz => tX12_layHours l D cy ad hJ sz a0 a1 st9 r10 st11 hc) (gV k_1681 k_1683 ks_86 k_14 k_1684) qX12_layHours ⟨Nat.le_of_ble_eq_true rfl, Nat.le_of_ble_eq_true rfl⟩ ⟨Nat.le_refl _, Nat.le_refl _⟩ rfl hl.1 rfl (Nat.le_of_ble_eq_true rfl) dX12_retreat_36 (fun H locs hP hS => ?_)
          refine lv_aload_n hx hb dX12_retreat_39 rfl (lv_at hl 0 rfl) ?_
          refine mg_41 E hP dX12_retreat_40 ?_
          refine lv_iload_n hx hb dX12_retreat_43 rfl (lv_at hl 1 rfl) ?_
          obtain ⟨hi, hf⟩ := gi_some hf
          refine ml_41 E hP hi dX12_retreat_44 ?_
          refine lv_ldcw (v := 100000000) hx hb hown (hT _ k_1666) dX12_retreat_45 ?_
          refine lv_icmp_eq (tgt := 56) hx hb dX12_retreat_48 (by decide) (fun hc => ?_) (fun hc => ?_)
          · replace hf := it_pos hc hf
            exact B56 a0 st11 _ _ ls hf (lv_sub hl [0, 1] rfl) hP hS
          · replace hf := it_neg hc hf
            refine lv_iload_n hx hb dX12_retreat_51 rfl (lv_at hl 3 rfl) ?_
            refine lv_iconst (v := -1) hx hb dX12_retreat_52 (by decide) ?_
            refine lv_icmp_ne (tgt := 79) hx hb dX12_retreat_53 (by decide) (fun hc => ?_) (fun hc => ?_)
            · replace hf := it_neg hc hf
              refine lv_iload_n hx hb dX12_retreat_79 rfl (lv_at hl 1 rfl) ?_
              refine lv_istore (lv' := [(4, .int a0), (0, .ref (ad 100)), (1, .int a0), (2, .int a1), (3, .int a2)]) hx hb dX12_retreat_80 hl (by decide) rfl (fun ls hl => ?_)
              refine lv_iconst (v := 0) hx hb dX12_retreat_82 (by decide) ?_
              refine lv_istore (lv' := [(5, .int (0 : Int32)), (4, .int a0), (0, .ref (ad 100)), (1, .int a0), (2, .int a1), (3, .int a2)]) hx hb dX12_retreat_83 hl (by decide) rfl (fun ls hl => ?_)
              exact L85 6000 a1 a2 a0 (0 : Int32) st11 _ _ ls hf (lv_sub hl [2, 4, 5, 1, 0] rfl) hP hS
            · replace hf := it_pos hc hf
              exact B56 a0 st11 _ _ ls hf (lv_sub hl [0, 1] rfl) hP hS
        · replace hf := it_neg hc hf
          exact B31 st9 _ _ ls hf (lv_sub hl [] rfl) hP hS
theorem qX12_retreat : yX12_retreat.cls = RX12 ∧ yX12_retreat.cls ≠ "java/lang/invoke/MethodHandle" ∧ yX12_retreat.cls ≠ "java/lang/invoke/VarHandle" ∧ (parseMethodDescriptor yX12_retreat.desc).map (fun d => d.parameters.length) = some 3 := by decide +kernel
def fX12_common_b22 (k22 : Int32 → Int32 → Option Int32) (v2 : Int32) (v3 : Int32) : Option Int32 := if v3 = 0 then (some v2) else (gz v3 (lt (v2 - v2 / v3 * v3) (fun x1 => k22 v3 x1)))
def fX12_common_b21 (v2 : Int32) (w0 : Int32) : Option Int32 := lp (fun _ _ => none) (fX12_common_b22) 6000 v2 w0
def fX12_common_b10 (v1 : Int32) (w0 : Int32) : Option Int32 := if 0 ≤ v1 then (fX12_common_b21 w0 v1) else (fX12_common_b21 w0 (-v1))
def fX12_common (a0 : Int32) (a1 : Int32) : Option Int32 := if 0 ≤ a0 then (fX12_common_b10 a1 a0) else (fX12_common_b10 a1 (-a0))
set_option maxHeartbeats 4000000 in
set_option maxRecDepth 100000 in
theorem tX12_common (l : Launch) (hh : Heap) (a0 : Int32) (a1 : Int32) (rr : Int32) (hf : fX12_common a0 a1 = some rr) : Met l yX12_common (Cond.code yX12_common cX12_common 5 (some .int) :: TT) (rmD 0) (sPc [.int a0, .int a1] hh) (sQi rr hh) 0 0 (fun _ => False) := by
  refine s_meti (by decide) (Nat.le_of_ble_eq_true rfl) (fun p e s m args below meth c ls E hx hb hr hlocks hown hT hl => ?_)
  replace hl : lv_has ls 5 [(0, .int a0), (1, .int a1)] := hl
  unfold fX12_common at hf
  have L22 : ∀ (n : Nat) (v2 : Int32) (v3 : Int32) (ls : Array Slot), lp (fun _ _ => none) (fX12_common_b22) n v2 v3 = some rr → lv_has ls 5 [(2, .int v2), (3, .int v3)] → sGi l 0 rr p e s m args below meth c (F0 m 22 ls []) := by
    intro n
    induction n with
    | zero => intro v2 v3 ls hf; exact absurd hf (fun h => by cases h)
    | succ n K22 =>
      intro v2 v3 ls hf hl
      replace hf : fX12_common_b22 (lp (fun _ _ => none) (fX12_common_b22) n) v2 v3 = some rr := hf
      generalize lp (fun _ _ => none) (fX12_common_b22) n = k22 at hf K22
      unfold fX12_common_b22 at hf
      refine lv_iload_n hx hb dX12_common_22 rfl (lv_at hl 1 rfl) ?_
      refine lv_if_eq (tgt := 39) hx hb dX12_common_23 (by decide) (fun hc => ?_) (fun hc => ?_)
      · replace hf := it_pos hc hf
        refine lv_iload_n hx hb dX12_common_39 rfl (lv_at hl 0 rfl) ?_
        exact s_iret hx hb hr hlocks hf dX12_common_40
      · replace hf := it_neg hc hf
        refine lv_iload_n hx hb dX12_common_26 rfl (lv_at hl 0 rfl) ?_
        refine lv_iload_n hx hb dX12_common_27 rfl (lv_at hl 1 rfl) ?_
        obtain ⟨hz, hf⟩ := gz_some hf
        refine lv_irem hx hb dX12_common_28 hz ?_
        refine lv_topi (fun x1 ex => ?_)
        replace hf := lt_at ex hf; clear ex
        refine lv_istore (lv' := [(4, .int x1), (2, .int v2), (3, .int v3)]) hx hb dX12_common_29 hl (by decide) rfl (fun ls hl => ?_)
        refine lv_iload_n hx hb dX12_common_31 rfl (lv_at hl 2 rfl) ?_
        refine lv_istore_n (lv' := [(2, .int v3), (4, .int x1), (3, .int v3)]) hx hb dX12_common_32 rfl hl (by decide) rfl (fun ls hl => ?_)
        refine lv_iload hx hb dX12_common_33 (lv_at hl 1 rfl) ?_
        refine lv_istore_n (lv' := [(3, .int x1), (2, .int v3), (4, .int x1)]) hx hb dX12_common_35 rfl hl (by decide) rfl (fun ls hl => ?_)
        refine lv_goto (tgt := 22) hx hb dX12_common_36 (by decide) ?_
        exact K22 v3 x1 ls hf (lv_sub hl [1, 0] rfl)
  have B21 : ∀ (v2 : Int32) (w0 : Int32) (ls : Array Slot), fX12_common_b21 v2 w0 = some rr → lv_has ls 5 [(2, .int v2)] → sGi l 0 rr p e s m args below meth c (F0 m 21 ls [.int w0]) := by
    intro v2 w0 ls hf hl
    unfold fX12_common_b21 at hf
    refine lv_istore_n (lv' := [(3, .int w0), (2, .int v2)]) hx hb dX12_common_21 rfl hl (by decide) rfl (fun ls hl => ?_)
    exact L22 6000 v2 w0 ls hf (lv_sub hl [1, 0] rfl)
  have B10 : ∀ (v1 : Int32) (w0 : Int32) (ls : Array Slot), fX12_common_b10 v1 w0 = some rr → lv_has ls 5 [(1, .int v1)] → sGi l 0 rr p e s m args below meth c (F0 m 10 ls [.int w0]) := by
    intro v1 w0 ls hf hl
    unfold fX12_common_b10 at hf
    refine lv_istore_n (lv' := [(2, .int w0), (1, .int v1)]) hx hb dX12_common_10 rfl hl (by decide) rfl (fun ls hl => ?_)
    refine lv_iload_n hx hb dX12_common_11 rfl (lv_at hl 1 rfl) ?_
    refine lv_if_ge (tgt := 20) hx hb dX12_common_12 (by decide) (fun hc => ?_) (fun hc => ?_)
    · replace hf := it_pos hc hf
      refine lv_iload_n hx hb dX12_common_20 rfl (lv_at hl 1 rfl) ?_
      exact B21 w0 v1 ls hf (lv_sub hl [0] rfl)
    · replace hf := it_neg hc hf
      refine lv_iload_n hx hb dX12_common_15 rfl (lv_at hl 1 rfl) ?_
      refine lv_ineg hx hb dX12_common_16 ?_
      refine lv_goto (tgt := 21) hx hb dX12_common_17 (by decide) ?_
      exact B21 w0 (-v1) ls hf (lv_sub hl [0] rfl)
  refine lv_iload_n hx hb dX12_common_0 rfl (lv_at hl 0 rfl) ?_
  refine lv_if_ge (tgt := 9) hx hb dX12_common_1 (by decide) (fun hc => ?_) (fun hc => ?_)
  · replace hf := it_pos hc hf
    refine lv_iload_n hx hb dX12_common_9 rfl (lv_at hl 0 rfl) ?_
    exact B10 a1 a0 ls hf (lv_sub hl [1] rfl)
  · replace hf := it_neg hc hf
    refine lv_iload_n hx hb dX12_common_4 rfl (lv_at hl 0 rfl) ?_
    refine lv_ineg hx hb dX12_common_5 ?_
    refine lv_goto (tgt := 10) hx hb dX12_common_6 (by decide) ?_
    exact B10 a1 (-a0) ls hf (lv_sub hl [1] rfl)
theorem qX12_common : yX12_common.cls = RX12 ∧ yX12_common.cls ≠ "java/lang/invoke/MethodHandle" ∧ yX12_common.cls ≠ "java/lang/invoke/VarHandle" ∧ (parseMethodDescriptor yX12_common.desc).map (fun d => d.parameters.length) = some 2 := by decide +kernel
def fX12_lowest_b26 (v3 : Int32) (v4 : Int32) (w0 : Int32) : Option Int32 := gz v3 (some ((w0 / v3) * v4))
def fX12_lowest_b15 (v0 : Int32) (v1 : Int32) (v2 : Int32) (v3 : Int32) (w0 : Int32) : Option Int32 := if v2 = 0 then (fX12_lowest_b26 v3 w0 v1) else (fX12_lowest_b26 v3 w0 v0)
def fX12_lowest (a0 : Int32) (a1 : Int32) (a2 : Int32) : Option Int32 := bs (fX12_common a0 a1) (fun r1 => if 0 ≤ a1 then (fX12_lowest_b15 a0 a1 a2 r1 (1 : Int32)) else (fX12_lowest_b15 a0 a1 a2 r1 (-1 : Int32)))
set_option maxHeartbeats 4000000 in
set_option maxRecDepth 100000 in
theorem tX12_lowest (l : Launch) (hh : Heap) (a0 : Int32) (a1 : Int32) (a2 : Int32) (rr : Int32) (hf : fX12_lowest a0 a1 a2 = some rr) : Met l yX12_lowest (Cond.code yX12_lowest cX12_lowest 5 (some .int) :: TT) (rmD 1) (sPc [.int a0, .int a1, .int a2] hh) (sQi rr hh) 0 0 (fun _ => False) := by
  refine s_meti (by decide) (Nat.le_of_ble_eq_true rfl) (fun p e s m args below meth c ls E hx hb hr hlocks hown hT hl => ?_)
  replace hl : lv_has ls 5 [(0, .int a0), (1, .int a1), (2, .int a2)] := hl
  unfold fX12_lowest at hf
  have B26 : ∀ (v3 : Int32) (v4 : Int32) (w0 : Int32) (ls : Array Slot), fX12_lowest_b26 v3 v4 w0 = some rr → lv_has ls 5 [(3, .int v3), (4, .int v4)] → sGi l 1 rr p e s m args below meth c (F0 m 26 ls [.int w0]) := by
    intro v3 v4 w0 ls hf hl
    unfold fX12_lowest_b26 at hf
    refine lv_iload_n hx hb dX12_lowest_26 rfl (lv_at hl 0 rfl) ?_
    obtain ⟨hz, hf⟩ := gz_some hf
    refine lv_idiv hx hb dX12_lowest_27 hz ?_
    refine lv_iload hx hb dX12_lowest_28 (lv_at hl 1 rfl) ?_
    refine lv_imul hx hb dX12_lowest_30 ?_
    exact s_iret hx hb hr hlocks hf dX12_lowest_31
  have B15 : ∀ (v0 : Int32) (v1 : Int32) (v2 : Int32) (v3 : Int32) (w0 : Int32) (ls : Array Slot), fX12_lowest_b15 v0 v1 v2 v3 w0 = some rr → lv_has ls 5 [(0, .int v0), (1, .int v1), (2, .int v2), (3, .int v3)] → sGi l 1 rr p e s m args below meth c (F0 m 15 ls [.int w0]) := by
    intro v0 v1 v2 v3 w0 ls hf hl
    unfold fX12_lowest_b15 at hf
    refine lv_istore (lv' := [(4, .int w0), (0, .int v0), (1, .int v1), (2, .int v2), (3, .int v3)]) hx hb dX12_lowest_15 hl (by decide) rfl (fun ls hl => ?_)
    refine lv_iload_n hx hb dX12_lowest_17 rfl (lv_at hl 3 rfl) ?_
    refine lv_if_eq (tgt := 25) hx hb dX12_lowest_18 (by decide) (fun hc => ?_) (fun hc => ?_)
    · replace hf := it_pos hc hf
      refine lv_iload_n hx hb dX12_lowest_25 rfl (lv_at hl 2 rfl) ?_
      exact B26 v3 w0 v1 ls hf (lv_sub hl [4, 0] rfl)
    · replace hf := it_neg hc hf
      refine lv_iload_n hx hb dX12_lowest_21 rfl (lv_at hl 1 rfl) ?_
      refine lv_goto (tgt := 26) hx hb dX12_lowest_22 (by decide) ?_
      exact B26 v3 w0 v0 ls hf (lv_sub hl [4, 0] rfl)
  refine lv_iload_n hx hb dX12_lowest_0 rfl (lv_at hl 0 rfl) ?_
  refine lv_iload_n hx hb dX12_lowest_1 rfl (lv_at hl 1 rfl) ?_
  obtain ⟨r1, hc, hf⟩ := bs_some hf
  refine s_calli (n := 2) (rest := []) E (tX12_common l _ a0 a1 r1 hc) (gS k_1697 k_1698 k_14 k_1699) qX12_common ⟨Nat.le_of_ble_eq_true rfl, Nat.le_of_ble_eq_true rfl⟩ ⟨Nat.le_refl _, Nat.le_refl _⟩ rfl hl.1 rfl (Nat.le_of_ble_eq_true rfl) dX12_lowest_2 ?_
  refine lv_istore_n (lv' := [(3, .int r1), (0, .int a0), (1, .int a1), (2, .int a2)]) hx hb dX12_lowest_5 rfl hl (by decide) rfl (fun ls hl => ?_)
  refine lv_iload_n hx hb dX12_lowest_6 rfl (lv_at hl 2 rfl) ?_
  refine lv_if_ge (tgt := 14) hx hb dX12_lowest_7 (by decide) (fun hc => ?_) (fun hc => ?_)
  · replace hf := it_pos hc hf
    refine lv_iconst (v := 1) hx hb dX12_lowest_14 (by decide) ?_
    exact B15 a0 a1 a2 r1 (1 : Int32) ls hf (lv_sub hl [1, 2, 3, 0] rfl)
  · replace hf := it_neg hc hf
    refine lv_iconst (v := -1) hx hb dX12_lowest_10 (by decide) ?_
    refine lv_goto (tgt := 15) hx hb dX12_lowest_11 (by decide) ?_
    exact B15 a0 a1 a2 r1 (-1 : Int32) ls hf (lv_sub hl [1, 2, 3, 0] rfl)
theorem qX12_lowest : yX12_lowest.cls = RX12 ∧ yX12_lowest.cls ≠ "java/lang/invoke/MethodHandle" ∧ yX12_lowest.cls ≠ "java/lang/invoke/VarHandle" ∧ (parseMethodDescriptor yX12_lowest.desc).map (fun d => d.parameters.length) = some 3 := by decide +kernel
def fX12_game_b75 (st : St) : Option (Int32 × St) := some ((-100000 : Int32), st)
def fX12_game_b237 (w0 : Int32) (st : St) : Option (Int32 × St) := some (w0, st)
def fX12_game_b217 (st : St) : Option (Int32 × St) := fX12_game_b237 (1 : Int32) st
def fX12_game_b200 (v5 : Int32) (v6 : Int32) (v7 : Int32) (w0 : Int32) (st : St) : Option (Int32 × St) := if v5 = 0 then (if v6 = 0 then (if v7 = 0 then (fX12_game_b237 (0 : Int32) st) else (fX12_game_b217 st)) else (fX12_game_b217 st)) else (if v5 = (2 : Int32) then (fX12_game_b237 w0 st) else (fX12_game_b237 (1 : Int32) st))
def fX12_game_b171 (v1 : Int32) (v2 : Int32) (v3 : Int32) (v4 : Int32) (v5 : Int32) (v6 : Int32) (v7 : Int32) (v8 : Int32) (st : St) : Option (Int32 × St) := if v6 = 0 then (if v7 = 0 then (if v8 = 0 then (fX12_game_b200 v5 v6 v7 v4 st) else (fX12_game_b200 v5 v6 v7 v3 st)) else (fX12_game_b200 v5 v6 v7 v2 st)) else (fX12_game_b200 v5 v6 v7 v1 st)
def fX12_game_b300 (w0 : Int32) (st : St) : Option (Int32 × St) := some (w0, st)
def fX12_game_b297 (w0 : Int32) (w1 : Int32) (w2 : Int32) (st : St) : Option (Int32 × St) := bs (fX12_lowest w2 w1 w0) (fun r1 => fX12_game_b300 r1 st)
def fX12_game_b270 (w0 : Int32) (w1 : Int32) (w2 : Int32) (st : St) : Option (Int32 × St) := bs (fX12_lowest w2 w1 w0) (fun r2 => fX12_game_b300 r2 st)
def fX12_game_b149 (v1 : Int32) (v2 : Int32) (v3 : Int32) (v4 : Int32) (v5 : Int32) (v6 : Int32) (v7 : Int32) (v8 : Int32) (w0 : Int32) (st : St) : Option (Int32 × St) := if v6 = 0 then (if v7 = 0 then (if v8 = 0 then (if w0 = 0 then (lt (((v1 - v2) + v4) - v3) (fun x3 => if (2 : Int32) ≤ v5 then (if v5 = (2 : Int32) then (fX12_game_b297 (1 : Int32) x3 ((v1 * v4) - (v2 * v3)) st) else (fX12_game_b297 (0 : Int32) x3 ((v1 * v4) - (v2 * v3)) st)) else (if v5 = 0 then (fX12_game_b270 (1 : Int32) x3 (v4 - v3) st) else (fX12_game_b270 (0 : Int32) x3 (v4 - v3) st)))) else (fX12_game_b171 v1 v2 v3 v4 v5 v6 v7 v8 st)) else (fX12_game_b171 v1 v2 v3 v4 v5 v6 v7 v8 st)) else (fX12_game_b171 v1 v2 v3 v4 v5 v6 v7 v8 st)) else (fX12_game_b171 v1 v2 v3 v4 v5 v6 v7 v8 st)
def fX12_game_b148 (v1 : Int32) (v2 : Int32) (v3 : Int32) (v4 : Int32) (v5 : Int32) (v6 : Int32) (v7 : Int32) (v8 : Int32) (st : St) : Option (Int32 × St) := fX12_game_b149 v1 v2 v3 v4 v5 v6 v7 v8 (0 : Int32) st
def fX12_game_b130 (v1 : Int32) (v2 : Int32) (v3 : Int32) (v4 : Int32) (v5 : Int32) (v6 : Int32) (v7 : Int32) (w0 : Int32) (st : St) : Option (Int32 × St) := if v3 < v4 then (fX12_game_b148 v1 v2 v3 v4 v5 v6 v7 w0 st) else (if v4 < v2 then (fX12_game_b148 v1 v2 v3 v4 v5 v6 v7 w0 st) else (fX12_game_b149 v1 v2 v3 v4 v5 v6 v7 w0 (1 : Int32) st))
def fX12_game_b129 (v1 : Int32) (v2 : Int32) (v3 : Int32) (v4 : Int32) (v5 : Int32) (v6 : Int32) (v7 : Int32) (st : St) : Option (Int32 × St) := fX12_game_b130 v1 v2 v3 v4 v5 v6 v7 (0 : Int32) st
def fX12_game_b112 (v1 : Int32) (v2 : Int32) (v3 : Int32) (v4 : Int32) (v5 : Int32) (v6 : Int32) (w0 : Int32) (st : St) : Option (Int32 × St) := if v4 < v3 then (fX12_game_b129 v1 v2 v3 v4 v5 v6 w0 st) else (if v3 < v1 then (fX12_game_b129 v1 v2 v3 v4 v5 v6 w0 st) else (fX12_game_b130 v1 v2 v3 v4 v5 v6 w0 (1 : Int32) st))
def fX12_game_b111 (v1 : Int32) (v2 : Int32) (v3 : Int32) (v4 : Int32) (v5 : Int32) (v6 : Int32) (st : St) : Option (Int32 × St) := fX12_game_b112 v1 v2 v3 v4 v5 v6 (0 : Int32) st
def fX12_game_b94 (v1 : Int32) (v2 : Int32) (v3 : Int32) (v4 : Int32) (v5 : Int32) (w0 : Int32) (st : St) : Option (Int32 × St) := if v1 < v2 then (fX12_game_b111 v1 v2 v3 v4 v5 w0 st) else (if v2 < v4 then (fX12_game_b111 v1 v2 v3 v4 v5 w0 st) else (fX12_game_b112 v1 v2 v3 v4 v5 w0 (1 : Int32) st))
def fX12_game_b93 (v1 : Int32) (v2 : Int32) (v3 : Int32) (v4 : Int32) (v5 : Int32) (st : St) : Option (Int32 × St) := fX12_game_b94 v1 v2 v3 v4 v5 (0 : Int32) st
def fX12_game (a0 : Int32) (a1 : Int32) (a2 : Int32) (a3 : Int32) (a4 : Int32) (st : St) : Option (Int32 × St) := lt (sI st 0 (0 : Int32)) (fun st4 => bs (fX12_in (a0.toInt64) (-99 : Int64) (99 : Int64)) (fun r5 => if r5 = 0 then (fX12_game_b75 st4) else (bs (fX12_in (a1.toInt64) (-99 : Int64) (99 : Int64)) (fun r6 => if r6 = 0 then (fX12_game_b75 st4) else (bs (fX12_in (a2.toInt64) (-99 : Int64) (99 : Int64)) (fun r7 => if r7 = 0 then (fX12_game_b75 st4) else (bs (fX12_in (a3.toInt64) (-99 : Int64) (99 : Int64)) (fun r8 => if r8 = 0 then (fX12_game_b75 st4) else (bs (fX12_in (a4.toInt64) (0 : Int64) (3 : Int64)) (fun r9 => if r9 = 0 then (fX12_game_b75 st4) else (if a1 < a0 then (fX12_game_b93 a0 a1 a2 a3 a4 st4) else (if a0 < a2 then (fX12_game_b93 a0 a1 a2 a3 a4 st4) else (fX12_game_b94 a0 a1 a2 a3 a4 (1 : Int32) st4)))))))))))))
set_option maxHeartbeats 4000000 in
set_option maxRecDepth 100000 in
theorem tX12_game (l : Launch) (D : va_G) (cy : Nat → ClassId) (ad : Nat → Nat) (hJ : (mads ad).Nodup) (sz : Nat) (a0 : Int32) (a1 : Int32) (a2 : Int32) (a3 : Int32) (a4 : Int32) (st : St) (rr : Int32) (st' : St) (hf : fX12_game a0 a1 a2 a3 a4 st = some (rr, st')) : Met l yX12_game (Cond.code yX12_game cX12_game 11 (some .int) :: TT) (rmD 2) (mPc D cy ad [.int a0, .int a1, .int a2, .int a3, .int a4] st sz) (mQi D cy ad rr st' sz) 0 0 (mA ad sz) := by
  refine m_meti (by decide) hJ (Nat.le_of_ble_eq_true rfl) (fun p e s m args below meth c ls E hx hb hr hlocks hown hT hD hl hP hS => ?_)
  replace hl : lv_has ls 11 [(0, .ref (ad 100)), (1, .int a0), (2, .int a1), (3, .int a2), (4, .int a3), (5, .int a4)] := hl
  unfold fX12_game at hf
  have B75 : ∀ (st : St) (H : Heap) (locs : List Loc) (ls : Array Slot), fX12_game_b75 st = some (rr, st') → lv_has ls 11 [] → va_P D classes (mw cy ad st) H → va_S (mA ad s.heap.size) s.heap H locs → mGi l 2 D cy ad rr st' p e s m args below meth c H locs (F0 m 75 ls []) := by
    intro st H locs ls hf hl hP hS
    unfold fX12_game_b75 at hf
    refine lv_ldcw (v := -100000) hx hb hown (hT _ k_1693) dX12_game_75 ?_
    exact m_iret hx hb hr hlocks hf hP hS dX12_game_78
  have B237 : ∀ (w0 : Int32) (st : St) (H : Heap) (locs : List Loc) (ls : Array Slot), fX12_game_b237 w0 st = some (rr, st') → lv_has ls 11 [] → va_P D classes (mw cy ad st) H → va_S (mA ad s.heap.size) s.heap H locs → mGi l 2 D cy ad rr st' p e s m args below meth c H locs (F0 m 237 ls [.int w0]) := by
    intro w0 st H locs ls hf hl hP hS
    unfold fX12_game_b237 at hf
    exact m_iret hx hb hr hlocks hf hP hS dX12_game_237
  have B217 : ∀ (st : St) (H : Heap) (locs : List Loc) (ls : Array Slot), fX12_game_b217 st = some (rr, st') → lv_has ls 11 [] → va_P D classes (mw cy ad st) H → va_S (mA ad s.heap.size) s.heap H locs → mGi l 2 D cy ad rr st' p e s m args below meth c H locs (F0 m 217 ls []) := by
    intro st H locs ls hf hl hP hS
    unfold fX12_game_b217 at hf
    refine lv_iconst (v := 1) hx hb dX12_game_217 (by decide) ?_
    refine lv_goto (tgt := 237) hx hb dX12_game_218 (by decide) ?_
    exact B237 (1 : Int32) st _ _ ls hf hl hP hS
  have B200 : ∀ (v5 : Int32) (v6 : Int32) (v7 : Int32) (w0 : Int32) (st : St) (H : Heap) (locs : List Loc) (ls : Array Slot), fX12_game_b200 v5 v6 v7 w0 st = some (rr, st') → lv_has ls 11 [(5, .int v5), (6, .int v6), (7, .int v7)] → va_P D classes (mw cy ad st) H → va_S (mA ad s.heap.size) s.heap H locs → mGi l 2 D cy ad rr st' p e s m args below meth c H locs (F0 m 200 ls [.int w0]) := by
    intro v5 v6 v7 w0 st H locs ls hf hl hP hS
    unfold fX12_game_b200 at hf
    refine lv_istore (lv' := [(10, .int w0), (5, .int v5), (6, .int v6), (7, .int v7)]) hx hb dX12_game_200 hl (by decide) rfl (fun ls hl => ?_)
    refine lv_iload hx hb dX12_game_202 (lv_at hl 1 rfl) ?_
    refine lv_if_ne (tgt := 225) hx hb dX12_game_204 (by decide) (fun hc => ?_) (fun hc => ?_)
    · replace hf := it_neg hc hf
      refine lv_iload hx hb dX12_game_225 (lv_at hl 1 rfl) ?_
      refine lv_iconst (v := 2) hx hb dX12_game_227 (by decide) ?_
      refine lv_icmp_ne (tgt := 236) hx hb dX12_game_228 (by decide) (fun hc => ?_) (fun hc => ?_)
      · replace hf := it_neg hc hf
        refine lv_iconst (v := 1) hx hb dX12_game_236 (by decide) ?_
        exact B237 (1 : Int32) st _ _ ls hf (lv_sub hl [] rfl) hP hS
      · replace hf := it_pos hc hf
        refine lv_iload hx hb dX12_game_231 (lv_at hl 0 rfl) ?_
        refine lv_goto (tgt := 237) hx hb dX12_game_233 (by decide) ?_
        exact B237 w0 st _ _ ls hf (lv_sub hl [] rfl) hP hS
    · replace hf := it_pos hc hf
      refine lv_iload hx hb dX12_game_207 (lv_at hl 2 rfl) ?_
      refine lv_if_ne (tgt := 217) hx hb dX12_game_209 (by decide) (fun hc => ?_) (fun hc => ?_)
      · replace hf := it_neg hc hf
        exact B217 st _ _ ls hf (lv_sub hl [] rfl) hP hS
      · replace hf := it_pos hc hf
        refine lv_iload hx hb dX12_game_212 (lv_at hl 3 rfl) ?_
        refine lv_if_eq (tgt := 221) hx hb dX12_game_214 (by decide) (fun hc => ?_) (fun hc => ?_)
        · replace hf := it_pos hc hf
          refine lv_iconst (v := 0) hx hb dX12_game_221 (by decide) ?_
          refine lv_goto (tgt := 237) hx hb dX12_game_222 (by decide) ?_
          exact B237 (0 : Int32) st _ _ ls hf (lv_sub hl [] rfl) hP hS
        · replace hf := it_neg hc hf
          exact B217 st _ _ ls hf (lv_sub hl [] rfl) hP hS
  have B171 : ∀ (v1 : Int32) (v2 : Int32) (v3 : Int32) (v4 : Int32) (v5 : Int32) (v6 : Int32) (v7 : Int32) (v8 : Int32) (st : St) (H : Heap) (locs : List Loc) (ls : Array Slot), fX12_game_b171 v1 v2 v3 v4 v5 v6 v7 v8 st = some (rr, st') → lv_has ls 11 [(1, .int v1), (2, .int v2), (3, .int v3), (4, .int v4), (5, .int v5), (6, .int v6), (7, .int v7), (8, .int v8)] → va_P D classes (mw cy ad st) H → va_S (mA ad s.heap.size) s.heap H locs → mGi l 2 D cy ad rr st' p e s m args below meth c H locs (F0 m 171 ls []) := by
    intro v1 v2 v3 v4 v5 v6 v7 v8 st H locs ls hf hl hP hS
    unfold fX12_game_b171 at hf
    refine lv_iload hx hb dX12_game_171 (lv_at hl 5 rfl) ?_
    refine lv_if_eq (tgt := 180) hx hb dX12_game_173 (by decide) (fun hc => ?_) (fun hc => ?_)
    · replace hf := it_pos hc hf
      refine lv_iload hx hb dX12_game_180 (lv_at hl 6 rfl) ?_
      refine lv_if_eq (tgt := 189) hx hb dX12_game_182 (by decide) (fun hc => ?_) (fun hc => ?_)
      · replace hf := it_pos hc hf
        refine lv_iload hx hb dX12_game_189 (lv_at hl 7 rfl) ?_
        refine lv_if_eq (tgt := 198) hx hb dX12_game_191 (by decide) (fun hc => ?_) (fun hc => ?_)
        · replace hf := it_pos hc hf
          refine lv_iload hx hb dX12_game_198 (lv_at hl 3 rfl) ?_
          exact B200 v5 v6 v7 v4 st _ _ ls hf (lv_sub hl [4, 5, 6] rfl) hP hS
        · replace hf := it_neg hc hf
          refine lv_iload_n hx hb dX12_game_194 rfl (lv_at hl 2 rfl) ?_
          refine lv_goto (tgt := 200) hx hb dX12_game_195 (by decide) ?_
          exact B200 v5 v6 v7 v3 st _ _ ls hf (lv_sub hl [4, 5, 6] rfl) hP hS
      · replace hf := it_neg hc hf
        refine lv_iload_n hx hb dX12_game_185 rfl (lv_at hl 1 rfl) ?_
        refine lv_goto (tgt := 200) hx hb dX12_game_186 (by decide) ?_
        exact B200 v5 v6 v7 v2 st _ _ ls hf (lv_sub hl [4, 5, 6] rfl) hP hS
    · replace hf := it_neg hc hf
      refine lv_iload_n hx hb dX12_game_176 rfl (lv_at hl 0 rfl) ?_
      refine lv_goto (tgt := 200) hx hb dX12_game_177 (by decide) ?_
      exact B200 v5 v6 v7 v1 st _ _ ls hf (lv_sub hl [4, 5, 6] rfl) hP hS
  have B300 : ∀ (w0 : Int32) (st : St) (H : Heap) (locs : List Loc) (ls : Array Slot), fX12_game_b300 w0 st = some (rr, st') → lv_has ls 11 [] → va_P D classes (mw cy ad st) H → va_S (mA ad s.heap.size) s.heap H locs → mGi l 2 D cy ad rr st' p e s m args below meth c H locs (F0 m 300 ls [.int w0]) := by
    intro w0 st H locs ls hf hl hP hS
    unfold fX12_game_b300 at hf
    exact m_iret hx hb hr hlocks hf hP hS dX12_game_300
  have B297 : ∀ (w0 : Int32) (w1 : Int32) (w2 : Int32) (st : St) (H : Heap) (locs : List Loc) (ls : Array Slot), fX12_game_b297 w0 w1 w2 st = some (rr, st') → lv_has ls 11 [] → va_P D classes (mw cy ad st) H → va_S (mA ad s.heap.size) s.heap H locs → mGi l 2 D cy ad rr st' p e s m args below meth c H locs (F0 m 297 ls [.int w0, .int w1, .int w2]) := by
    intro w0 w1 w2 st H locs ls hf hl hP hS
    unfold fX12_game_b297 at hf
    obtain ⟨r1, hc, hf⟩ := bs_some hf
    refine s_calli (n := 3) (rest := []) E.1 (tX12_lowest l _ w2 w1 w0 r1 hc) (gS k_1694 k_1695 k_14 k_1696) qX12_lowest ⟨Nat.le_of_ble_eq_true rfl, Nat.le_of_ble_eq_true rfl⟩ ⟨Nat.le_refl _, Nat.le_refl _⟩ rfl hl.1 rfl (Nat.le_of_ble_eq_true rfl) dX12_game_297 ?_
    exact B300 r1 st _ _ ls hf hl hP hS
  have B270 : ∀ (w0 : Int32) (w1 : Int32) (w2 : Int32) (st : St) (H : Heap) (locs : List Loc) (ls : Array Slot), fX12_game_b270 w0 w1 w2 st = some (rr, st') → lv_has ls 11 [] → va_P D classes (mw cy ad st) H → va_S (mA ad s.heap.size) s.heap H locs → mGi l 2 D cy ad rr st' p e s m args below meth c H locs (F0 m 270 ls [.int w0, .int w1, .int w2]) := by
    intro w0 w1 w2 st H locs ls hf hl hP hS
    unfold fX12_game_b270 at hf
    obtain ⟨r2, hc, hf⟩ := bs_some hf
    refine s_calli (n := 3) (rest := []) E.1 (tX12_lowest l _ w2 w1 w0 r2 hc) (gS k_1694 k_1695 k_14 k_1696) qX12_lowest ⟨Nat.le_of_ble_eq_true rfl, Nat.le_of_ble_eq_true rfl⟩ ⟨Nat.le_refl _, Nat.le_refl _⟩ rfl hl.1 rfl (Nat.le_of_ble_eq_true rfl) dX12_game_270 ?_
    refine lv_goto (tgt := 300) hx hb dX12_game_273 (by decide) ?_
    exact B300 r2 st _ _ ls hf hl hP hS
  have B149 : ∀ (v1 : Int32) (v2 : Int32) (v3 : Int32) (v4 : Int32) (v5 : Int32) (v6 : Int32) (v7 : Int32) (v8 : Int32) (w0 : Int32) (st : St) (H : Heap) (locs : List Loc) (ls : Array Slot), fX12_game_b149 v1 v2 v3 v4 v5 v6 v7 v8 w0 st = some (rr, st') → lv_has ls 11 [(1, .int v1), (2, .int v2), (3, .int v3), (4, .int v4), (5, .int v5), (6, .int v6), (7, .int v7), (8, .int v8)] → va_P D classes (mw cy ad st) H → va_S (mA ad s.heap.size) s.heap H locs → mGi l 2 D cy ad rr st' p e s m args below meth c H locs (F0 m 149 ls [.int w0]) := by
    intro v1 v2 v3 v4 v5 v6 v7 v8 w0 st H locs ls hf hl hP hS
    unfold fX12_game_b149 at hf
    refine lv_istore (lv' := [(9, .int w0), (1, .int v1), (2, .int v2), (3, .int v3), (4, .int v4), (5, .int v5), (6, .int v6), (7, .int v7), (8, .int v8)]) hx hb dX12_game_149 hl (by decide) rfl (fun ls hl => ?_)
    refine lv_iload hx hb dX12_game_151 (lv_at hl 6 rfl) ?_
    refine lv_if_ne (tgt := 171) hx hb dX12_game_153 (by decide) (fun hc => ?_) (fun hc => ?_)
    · replace hf := it_neg hc hf
      exact B171 v1 v2 v3 v4 v5 v6 v7 v8 st _ _ ls hf (lv_sub hl [1, 2, 3, 4, 5, 6, 7, 8] rfl) hP hS
    · replace hf := it_pos hc hf
      refine lv_iload hx hb dX12_game_156 (lv_at hl 7 rfl) ?_
      refine lv_if_ne (tgt := 171) hx hb dX12_game_158 (by decide) (fun hc => ?_) (fun hc => ?_)
      · replace hf := it_neg hc hf
        exact B171 v1 v2 v3 v4 v5 v6 v7 v8 st _ _ ls hf (lv_sub hl [1, 2, 3, 4, 5, 6, 7, 8] rfl) hP hS
      · replace hf := it_pos hc hf
        refine lv_iload hx hb dX12_game_161 (lv_at hl 8 rfl) ?_
        refine lv_if_ne (tgt := 171) hx hb dX12_game_163 (by decide) (fun hc => ?_) (fun hc => ?_)
        · replace hf := it_neg hc hf
          exact B171 v1 v2 v3 v4 v5 v6 v7 v8 st _ _ ls hf (lv_sub hl [1, 2, 3, 4, 5, 6, 7, 8] rfl) hP hS
        · replace hf := it_pos hc hf
          refine lv_iload hx hb dX12_game_166 (lv_at hl 0 rfl) ?_
          refine lv_if_eq (tgt := 238) hx hb dX12_game_168 (by decide) (fun hc => ?_) (fun hc => ?_)
          · replace hf := it_pos hc hf
            refine lv_iload_n hx hb dX12_game_238 rfl (lv_at hl 1 rfl) ?_
            refine lv_iload_n hx hb dX12_game_239 rfl (lv_at hl 2 rfl) ?_
            refine lv_isub hx hb dX12_game_240 ?_
            refine lv_iload hx hb dX12_game_241 (lv_at hl 4 rfl) ?_
            refine lv_iadd hx hb dX12_game_243 ?_
            refine lv_iload_n hx hb dX12_game_244 rfl (lv_at hl 3 rfl) ?_
            refine lv_isub hx hb dX12_game_245 ?_
            refine lv_topi (fun x3 ex => ?_)
            replace hf := lt_at ex hf; clear ex
            refine lv_istore (lv' := [(10, .int x3), (9, .int w0), (1, .int v1), (2, .int v2), (3, .int v3), (4, .int v4), (5, .int v5), (6, .int v6), (7, .int v7), (8, .int v8)]) hx hb dX12_game_246 hl (by decide) rfl (fun ls hl => ?_)
            refine lv_iload hx hb dX12_game_248 (lv_at hl 6 rfl) ?_
            refine lv_iconst (v := 2) hx hb dX12_game_250 (by decide) ?_
            refine lv_icmp_ge (tgt := 276) hx hb dX12_game_251 (by decide) (fun hc => ?_) (fun hc => ?_)
            · replace hf := it_pos hc hf
              refine lv_iload_n hx hb dX12_game_276 rfl (lv_at hl 2 rfl) ?_
              refine lv_iload hx hb dX12_game_277 (lv_at hl 5 rfl) ?_
              refine lv_imul hx hb dX12_game_279 ?_
              refine lv_iload_n hx hb dX12_game_280 rfl (lv_at hl 3 rfl) ?_
              refine lv_iload_n hx hb dX12_game_281 rfl (lv_at hl 4 rfl) ?_
              refine lv_imul hx hb dX12_game_282 ?_
              refine lv_isub hx hb dX12_game_283 ?_
              refine lv_iload hx hb dX12_game_284 (lv_at hl 0 rfl) ?_
              refine lv_iload hx hb dX12_game_286 (lv_at hl 6 rfl) ?_
              refine lv_iconst (v := 2) hx hb dX12_game_288 (by decide) ?_
              refine lv_icmp_ne (tgt := 296) hx hb dX12_game_289 (by decide) (fun hc => ?_) (fun hc => ?_)
              · replace hf := it_neg hc hf
                refine lv_iconst (v := 0) hx hb dX12_game_296 (by decide) ?_
                exact B297 (0 : Int32) x3 ((v1 * v4) - (v2 * v3)) st _ _ ls hf (lv_sub hl [] rfl) hP hS
              · replace hf := it_pos hc hf
                refine lv_iconst (v := 1) hx hb dX12_game_292 (by decide) ?_
                refine lv_goto (tgt := 297) hx hb dX12_game_293 (by decide) ?_
                exact B297 (1 : Int32) x3 ((v1 * v4) - (v2 * v3)) st _ _ ls hf (lv_sub hl [] rfl) hP hS
            · replace hf := it_neg hc hf
              refine lv_iload hx hb dX12_game_254 (lv_at hl 5 rfl) ?_
              refine lv_iload_n hx hb dX12_game_256 rfl (lv_at hl 4 rfl) ?_
              refine lv_isub hx hb dX12_game_257 ?_
              refine lv_iload hx hb dX12_game_258 (lv_at hl 0 rfl) ?_
              refine lv_iload hx hb dX12_game_260 (lv_at hl 6 rfl) ?_
              refine lv_if_ne (tgt := 269) hx hb dX12_game_262 (by decide) (fun hc => ?_) (fun hc => ?_)
              · replace hf := it_neg hc hf
                refine lv_iconst (v := 0) hx hb dX12_game_269 (by decide) ?_
                exact B270 (0 : Int32) x3 (v4 - v3) st _ _ ls hf (lv_sub hl [] rfl) hP hS
              · replace hf := it_pos hc hf
                refine lv_iconst (v := 1) hx hb dX12_game_265 (by decide) ?_
                refine lv_goto (tgt := 270) hx hb dX12_game_266 (by decide) ?_
                exact B270 (1 : Int32) x3 (v4 - v3) st _ _ ls hf (lv_sub hl [] rfl) hP hS
          · replace hf := it_neg hc hf
            exact B171 v1 v2 v3 v4 v5 v6 v7 v8 st _ _ ls hf (lv_sub hl [1, 2, 3, 4, 5, 6, 7, 8] rfl) hP hS
  have B148 : ∀ (v1 : Int32) (v2 : Int32) (v3 : Int32) (v4 : Int32) (v5 : Int32) (v6 : Int32) (v7 : Int32) (v8 : Int32) (st : St) (H : Heap) (locs : List Loc) (ls : Array Slot), fX12_game_b148 v1 v2 v3 v4 v5 v6 v7 v8 st = some (rr, st') → lv_has ls 11 [(1, .int v1), (2, .int v2), (3, .int v3), (4, .int v4), (5, .int v5), (6, .int v6), (7, .int v7), (8, .int v8)] → va_P D classes (mw cy ad st) H → va_S (mA ad s.heap.size) s.heap H locs → mGi l 2 D cy ad rr st' p e s m args below meth c H locs (F0 m 148 ls []) := by
    intro v1 v2 v3 v4 v5 v6 v7 v8 st H locs ls hf hl hP hS
    unfold fX12_game_b148 at hf
    refine lv_iconst (v := 0) hx hb dX12_game_148 (by decide) ?_
    exact B149 v1 v2 v3 v4 v5 v6 v7 v8 (0 : Int32) st _ _ ls hf hl hP hS
  have B130 : ∀ (v1 : Int32) (v2 : Int32) (v3 : Int32) (v4 : Int32) (v5 : Int32) (v6 : Int32) (v7 : Int32) (w0 : Int32) (st : St) (H : Heap) (locs : List Loc) (ls : Array Slot), fX12_game_b130 v1 v2 v3 v4 v5 v6 v7 w0 st = some (rr, st') → lv_has ls 11 [(1, .int v1), (2, .int v2), (3, .int v3), (4, .int v4), (5, .int v5), (6, .int v6), (7, .int v7)] → va_P D classes (mw cy ad st) H → va_S (mA ad s.heap.size) s.heap H locs → mGi l 2 D cy ad rr st' p e s m args below meth c H locs (F0 m 130 ls [.int w0]) := by
    intro v1 v2 v3 v4 v5 v6 v7 w0 st H locs ls hf hl hP hS
    unfold fX12_game_b130 at hf
    refine lv_istore (lv' := [(8, .int w0), (1, .int v1), (2, .int v2), (3, .int v3), (4, .int v4), (5, .int v5), (6, .int v6), (7, .int v7)]) hx hb dX12_game_130 hl (by decide) rfl (fun ls hl => ?_)
    refine lv_iload hx hb dX12_game_132 (lv_at hl 4 rfl) ?_
    refine lv_iload_n hx hb dX12_game_134 rfl (lv_at hl 3 rfl) ?_
    refine lv_icmp_gt (tgt := 148) hx hb dX12_game_135 (by decide) (fun hc => ?_) (fun hc => ?_)
    · replace hf := it_pos hc hf
      exact B148 v1 v2 v3 v4 v5 v6 v7 w0 st _ _ ls hf (lv_sub hl [1, 2, 3, 4, 5, 6, 7, 0] rfl) hP hS
    · replace hf := it_neg hc hf
      refine lv_iload hx hb dX12_game_138 (lv_at hl 4 rfl) ?_
      refine lv_iload_n hx hb dX12_game_140 rfl (lv_at hl 2 rfl) ?_
      refine lv_icmp_lt (tgt := 148) hx hb dX12_game_141 (by decide) (fun hc => ?_) (fun hc => ?_)
      · replace hf := it_pos hc hf
        exact B148 v1 v2 v3 v4 v5 v6 v7 w0 st _ _ ls hf (lv_sub hl [1, 2, 3, 4, 5, 6, 7, 0] rfl) hP hS
      · replace hf := it_neg hc hf
        refine lv_iconst (v := 1) hx hb dX12_game_144 (by decide) ?_
        refine lv_goto (tgt := 149) hx hb dX12_game_145 (by decide) ?_
        exact B149 v1 v2 v3 v4 v5 v6 v7 w0 (1 : Int32) st _ _ ls hf (lv_sub hl [1, 2, 3, 4, 5, 6, 7, 0] rfl) hP hS
  have B129 : ∀ (v1 : Int32) (v2 : Int32) (v3 : Int32) (v4 : Int32) (v5 : Int32) (v6 : Int32) (v7 : Int32) (st : St) (H : Heap) (locs : List Loc) (ls : Array Slot), fX12_game_b129 v1 v2 v3 v4 v5 v6 v7 st = some (rr, st') → lv_has ls 11 [(1, .int v1), (2, .int v2), (3, .int v3), (4, .int v4), (5, .int v5), (6, .int v6), (7, .int v7)] → va_P D classes (mw cy ad st) H → va_S (mA ad s.heap.size) s.heap H locs → mGi l 2 D cy ad rr st' p e s m args below meth c H locs (F0 m 129 ls []) := by
    intro v1 v2 v3 v4 v5 v6 v7 st H locs ls hf hl hP hS
    unfold fX12_game_b129 at hf
    refine lv_iconst (v := 0) hx hb dX12_game_129 (by decide) ?_
    exact B130 v1 v2 v3 v4 v5 v6 v7 (0 : Int32) st _ _ ls hf hl hP hS
  have B112 : ∀ (v1 : Int32) (v2 : Int32) (v3 : Int32) (v4 : Int32) (v5 : Int32) (v6 : Int32) (w0 : Int32) (st : St) (H : Heap) (locs : List Loc) (ls : Array Slot), fX12_game_b112 v1 v2 v3 v4 v5 v6 w0 st = some (rr, st') → lv_has ls 11 [(1, .int v1), (2, .int v2), (3, .int v3), (4, .int v4), (5, .int v5), (6, .int v6)] → va_P D classes (mw cy ad st) H → va_S (mA ad s.heap.size) s.heap H locs → mGi l 2 D cy ad rr st' p e s m args below meth c H locs (F0 m 112 ls [.int w0]) := by
    intro v1 v2 v3 v4 v5 v6 w0 st H locs ls hf hl hP hS
    unfold fX12_game_b112 at hf
    refine lv_istore (lv' := [(7, .int w0), (1, .int v1), (2, .int v2), (3, .int v3), (4, .int v4), (5, .int v5), (6, .int v6)]) hx hb dX12_game_112 hl (by decide) rfl (fun ls hl => ?_)
    refine lv_iload_n hx hb dX12_game_114 rfl (lv_at hl 3 rfl) ?_
    refine lv_iload hx hb dX12_game_115 (lv_at hl 4 rfl) ?_
    refine lv_icmp_gt (tgt := 129) hx hb dX12_game_117 (by decide) (fun hc => ?_) (fun hc => ?_)
    · replace hf := it_pos hc hf
      exact B129 v1 v2 v3 v4 v5 v6 w0 st _ _ ls hf (lv_sub hl [1, 2, 3, 4, 5, 6, 0] rfl) hP hS
    · replace hf := it_neg hc hf
      refine lv_iload_n hx hb dX12_game_120 rfl (lv_at hl 3 rfl) ?_
      refine lv_iload_n hx hb dX12_game_121 rfl (lv_at hl 1 rfl) ?_
      refine lv_icmp_lt (tgt := 129) hx hb dX12_game_122 (by decide) (fun hc => ?_) (fun hc => ?_)
      · replace hf := it_pos hc hf
        exact B129 v1 v2 v3 v4 v5 v6 w0 st _ _ ls hf (lv_sub hl [1, 2, 3, 4, 5, 6, 0] rfl) hP hS
      · replace hf := it_neg hc hf
        refine lv_iconst (v := 1) hx hb dX12_game_125 (by decide) ?_
        refine lv_goto (tgt := 130) hx hb dX12_game_126 (by decide) ?_
        exact B130 v1 v2 v3 v4 v5 v6 w0 (1 : Int32) st _ _ ls hf (lv_sub hl [1, 2, 3, 4, 5, 6, 0] rfl) hP hS
  have B111 : ∀ (v1 : Int32) (v2 : Int32) (v3 : Int32) (v4 : Int32) (v5 : Int32) (v6 : Int32) (st : St) (H : Heap) (locs : List Loc) (ls : Array Slot), fX12_game_b111 v1 v2 v3 v4 v5 v6 st = some (rr, st') → lv_has ls 11 [(1, .int v1), (2, .int v2), (3, .int v3), (4, .int v4), (5, .int v5), (6, .int v6)] → va_P D classes (mw cy ad st) H → va_S (mA ad s.heap.size) s.heap H locs → mGi l 2 D cy ad rr st' p e s m args below meth c H locs (F0 m 111 ls []) := by
    intro v1 v2 v3 v4 v5 v6 st H locs ls hf hl hP hS
    unfold fX12_game_b111 at hf
    refine lv_iconst (v := 0) hx hb dX12_game_111 (by decide) ?_
    exact B112 v1 v2 v3 v4 v5 v6 (0 : Int32) st _ _ ls hf hl hP hS
  have B94 : ∀ (v1 : Int32) (v2 : Int32) (v3 : Int32) (v4 : Int32) (v5 : Int32) (w0 : Int32) (st : St) (H : Heap) (locs : List Loc) (ls : Array Slot), fX12_game_b94 v1 v2 v3 v4 v5 w0 st = some (rr, st') → lv_has ls 11 [(1, .int v1), (2, .int v2), (3, .int v3), (4, .int v4), (5, .int v5)] → va_P D classes (mw cy ad st) H → va_S (mA ad s.heap.size) s.heap H locs → mGi l 2 D cy ad rr st' p e s m args below meth c H locs (F0 m 94 ls [.int w0]) := by
    intro v1 v2 v3 v4 v5 w0 st H locs ls hf hl hP hS
    unfold fX12_game_b94 at hf
    refine lv_istore (lv' := [(6, .int w0), (1, .int v1), (2, .int v2), (3, .int v3), (4, .int v4), (5, .int v5)]) hx hb dX12_game_94 hl (by decide) rfl (fun ls hl => ?_)
    refine lv_iload_n hx hb dX12_game_96 rfl (lv_at hl 2 rfl) ?_
    refine lv_iload_n hx hb dX12_game_97 rfl (lv_at hl 1 rfl) ?_
    refine lv_icmp_gt (tgt := 111) hx hb dX12_game_98 (by decide) (fun hc => ?_) (fun hc => ?_)
    · replace hf := it_pos hc hf
      exact B111 v1 v2 v3 v4 v5 w0 st _ _ ls hf (lv_sub hl [1, 2, 3, 4, 5, 0] rfl) hP hS
    · replace hf := it_neg hc hf
      refine lv_iload_n hx hb dX12_game_101 rfl (lv_at hl 2 rfl) ?_
      refine lv_iload hx hb dX12_game_102 (lv_at hl 4 rfl) ?_
      refine lv_icmp_lt (tgt := 111) hx hb dX12_game_104 (by decide) (fun hc => ?_) (fun hc => ?_)
      · replace hf := it_pos hc hf
        exact B111 v1 v2 v3 v4 v5 w0 st _ _ ls hf (lv_sub hl [1, 2, 3, 4, 5, 0] rfl) hP hS
      · replace hf := it_neg hc hf
        refine lv_iconst (v := 1) hx hb dX12_game_107 (by decide) ?_
        refine lv_goto (tgt := 112) hx hb dX12_game_108 (by decide) ?_
        exact B112 v1 v2 v3 v4 v5 w0 (1 : Int32) st _ _ ls hf (lv_sub hl [1, 2, 3, 4, 5, 0] rfl) hP hS
  have B93 : ∀ (v1 : Int32) (v2 : Int32) (v3 : Int32) (v4 : Int32) (v5 : Int32) (st : St) (H : Heap) (locs : List Loc) (ls : Array Slot), fX12_game_b93 v1 v2 v3 v4 v5 st = some (rr, st') → lv_has ls 11 [(1, .int v1), (2, .int v2), (3, .int v3), (4, .int v4), (5, .int v5)] → va_P D classes (mw cy ad st) H → va_S (mA ad s.heap.size) s.heap H locs → mGi l 2 D cy ad rr st' p e s m args below meth c H locs (F0 m 93 ls []) := by
    intro v1 v2 v3 v4 v5 st H locs ls hf hl hP hS
    unfold fX12_game_b93 at hf
    refine lv_iconst (v := 0) hx hb dX12_game_93 (by decide) ?_
    exact B94 v1 v2 v3 v4 v5 (0 : Int32) st _ _ ls hf hl hP hS
  refine lv_aload_n hx hb dX12_game_0 rfl (lv_at hl 0 rfl) ?_
  refine lv_iconst (v := 0) hx hb dX12_game_1 (by decide) ?_
  refine mp_0 E hD hP hS dX12_game_2 (fun st4 H locs ex hP hS => ?_)
  replace hf := lt_at ex hf; clear ex
  refine lv_iload_n hx hb dX12_game_5 rfl (lv_at hl 1 rfl) ?_
  refine lv_i2l (v := a0.toInt64) hx hb dX12_game_6 rfl ?_
  refine lv_ldc2 (v := -99) hx hb hown (hT _ k_1645) dX12_game_7 ?_
  refine lv_ldc2 (v := 99) hx hb hown (hT _ k_1365) dX12_game_10 ?_
  obtain ⟨r5, hc, hf⟩ := bs_some hf
  refine s_calli (n := 3) (rest := []) E.1 (tX12_in l _ (a0.toInt64) (-99 : Int64) (99 : Int64) r5 hc) (gS k_1350 k_1351 k_14 k_1352) qX12_in ⟨Nat.le_of_ble_eq_true rfl, Nat.le_of_ble_eq_true rfl⟩ ⟨Nat.le_refl _, Nat.le_refl _⟩ rfl hl.1 rfl (Nat.le_of_ble_eq_true rfl) dX12_game_13 ?_
  refine lv_if_eq (tgt := 75) hx hb dX12_game_16 (by decide) (fun hc => ?_) (fun hc => ?_)
  · replace hf := it_pos hc hf
    exact B75 st4 _ _ ls hf (lv_sub hl [] rfl) hP hS
  · replace hf := it_neg hc hf
    refine lv_iload_n hx hb dX12_game_19 rfl (lv_at hl 2 rfl) ?_
    refine lv_i2l (v := a1.toInt64) hx hb dX12_game_20 rfl ?_
    refine lv_ldc2 (v := -99) hx hb hown (hT _ k_1645) dX12_game_21 ?_
    refine lv_ldc2 (v := 99) hx hb hown (hT _ k_1365) dX12_game_24 ?_
    obtain ⟨r6, hc, hf⟩ := bs_some hf
    refine s_calli (n := 3) (rest := []) E.1 (tX12_in l _ (a1.toInt64) (-99 : Int64) (99 : Int64) r6 hc) (gS k_1350 k_1351 k_14 k_1352) qX12_in ⟨Nat.le_of_ble_eq_true rfl, Nat.le_of_ble_eq_true rfl⟩ ⟨Nat.le_refl _, Nat.le_refl _⟩ rfl hl.1 rfl (Nat.le_of_ble_eq_true rfl) dX12_game_27 ?_
    refine lv_if_eq (tgt := 75) hx hb dX12_game_30 (by decide) (fun hc => ?_) (fun hc => ?_)
    · replace hf := it_pos hc hf
      exact B75 st4 _ _ ls hf (lv_sub hl [] rfl) hP hS
    · replace hf := it_neg hc hf
      refine lv_iload_n hx hb dX12_game_33 rfl (lv_at hl 3 rfl) ?_
      refine lv_i2l (v := a2.toInt64) hx hb dX12_game_34 rfl ?_
      refine lv_ldc2 (v := -99) hx hb hown (hT _ k_1645) dX12_game_35 ?_
      refine lv_ldc2 (v := 99) hx hb hown (hT _ k_1365) dX12_game_38 ?_
      obtain ⟨r7, hc, hf⟩ := bs_some hf
      refine s_calli (n := 3) (rest := []) E.1 (tX12_in l _ (a2.toInt64) (-99 : Int64) (99 : Int64) r7 hc) (gS k_1350 k_1351 k_14 k_1352) qX12_in ⟨Nat.le_of_ble_eq_true rfl, Nat.le_of_ble_eq_true rfl⟩ ⟨Nat.le_refl _, Nat.le_refl _⟩ rfl hl.1 rfl (Nat.le_of_ble_eq_true rfl) dX12_game_41 ?_
      refine lv_if_eq (tgt := 75) hx hb dX12_game_44 (by decide) (fun hc => ?_) (fun hc => ?_)
      · replace hf := it_pos hc hf
        exact B75 st4 _ _ ls hf (lv_sub hl [] rfl) hP hS
      · replace hf := it_neg hc hf
        refine lv_iload hx hb dX12_game_47 (lv_at hl 4 rfl) ?_
        refine lv_i2l (v := a3.toInt64) hx hb dX12_game_49 rfl ?_
        refine lv_ldc2 (v := -99) hx hb hown (hT _ k_1645) dX12_game_50 ?_
        refine lv_ldc2 (v := 99) hx hb hown (hT _ k_1365) dX12_game_53 ?_
        obtain ⟨r8, hc, hf⟩ := bs_some hf
        refine s_calli (n := 3) (rest := []) E.1 (tX12_in l _ (a3.toInt64) (-99 : Int64) (99 : Int64) r8 hc) (gS k_1350 k_1351 k_14 k_1352) qX12_in ⟨Nat.le_of_ble_eq_true rfl, Nat.le_of_ble_eq_true rfl⟩ ⟨Nat.le_refl _, Nat.le_refl _⟩ rfl hl.1 rfl (Nat.le_of_ble_eq_true rfl) dX12_game_56 ?_
        refine lv_if_eq (tgt := 75) hx hb dX12_game_59 (by decide) (fun hc => ?_) (fun hc => ?_)
        · replace hf := it_pos hc hf
          exact B75 st4 _ _ ls hf (lv_sub hl [] rfl) hP hS
        · replace hf := it_neg hc hf
          refine lv_iload hx hb dX12_game_62 (lv_at hl 5 rfl) ?_
          refine lv_i2l (v := a4.toInt64) hx hb dX12_game_64 rfl ?_
          refine lv_lconst (v := 0) hx hb dX12_game_65 (by decide) ?_
          refine lv_ldc2 (v := 3) hx hb hown (hT _ k_1366) dX12_game_66 ?_
          obtain ⟨r9, hc, hf⟩ := bs_some hf
          refine s_calli (n := 3) (rest := []) E.1 (tX12_in l _ (a4.toInt64) (0 : Int64) (3 : Int64) r9 hc) (gS k_1350 k_1351 k_14 k_1352) qX12_in ⟨Nat.le_of_ble_eq_true rfl, Nat.le_of_ble_eq_true rfl⟩ ⟨Nat.le_refl _, Nat.le_refl _⟩ rfl hl.1 rfl (Nat.le_of_ble_eq_true rfl) dX12_game_69 ?_
          refine lv_if_ne (tgt := 79) hx hb dX12_game_72 (by decide) (fun hc => ?_) (fun hc => ?_)
          · replace hf := it_neg hc hf
            refine lv_iload_n hx hb dX12_game_79 rfl (lv_at hl 1 rfl) ?_
            refine lv_iload_n hx hb dX12_game_80 rfl (lv_at hl 2 rfl) ?_
            refine lv_icmp_gt (tgt := 93) hx hb dX12_game_81 (by decide) (fun hc => ?_) (fun hc => ?_)
            · replace hf := it_pos hc hf
              exact B93 a0 a1 a2 a3 a4 st4 _ _ ls hf (lv_sub hl [1, 2, 3, 4, 5] rfl) hP hS
            · replace hf := it_neg hc hf
              refine lv_iload_n hx hb dX12_game_84 rfl (lv_at hl 1 rfl) ?_
              refine lv_iload_n hx hb dX12_game_85 rfl (lv_at hl 3 rfl) ?_
              refine lv_icmp_lt (tgt := 93) hx hb dX12_game_86 (by decide) (fun hc => ?_) (fun hc => ?_)
              · replace hf := it_pos hc hf
                exact B93 a0 a1 a2 a3 a4 st4 _ _ ls hf (lv_sub hl [1, 2, 3, 4, 5] rfl) hP hS
              · replace hf := it_neg hc hf
                refine lv_iconst (v := 1) hx hb dX12_game_89 (by decide) ?_
                refine lv_goto (tgt := 94) hx hb dX12_game_90 (by decide) ?_
                exact B94 a0 a1 a2 a3 a4 (1 : Int32) st4 _ _ ls hf (lv_sub hl [1, 2, 3, 4, 5] rfl) hP hS
          · replace hf := it_pos hc hf
            exact B75 st4 _ _ ls hf (lv_sub hl [] rfl) hP hS
theorem qX12_game : yX12_game.cls = RX12 ∧ yX12_game.cls ≠ "java/lang/invoke/MethodHandle" ∧ yX12_game.cls ≠ "java/lang/invoke/VarHandle" ∧ (parseMethodDescriptor yX12_game.desc).map (fun d => d.parameters.length) = some 5 := by decide +kernel
