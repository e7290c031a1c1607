def fX11_refusei_b26 (fz : List FP) (v1 : Int32) (st : St) : Option (Int32 × St) := some (v1, st)
def fX11_refusei (a0 : Int32) (fz : List FP) (st : St) : Option (Int32 × St) := lt (sI st 9 a0) (fun st1 => bs (fX11_within a0 (-6 : Int32) (-1 : Int32)) (fun r2 => if r2 = 0 then (fX11_refusei_b26 fz a0 st1) else (gi (-a0) 7 (gi (-a0) 7 (lt (sA st1 8 (upd (st1.2.2.1 8) (-a0).toNatClampNeg ((st1.2.2.1 8 (-a0).toNatClampNeg) + (1 : Int32)))) (fun st3 => fX11_refusei_b26 fz a0 st3))))))
set_option maxHeartbeats 4000000 in
set_option maxRecDepth 100000 in
theorem tX11_refusei (l : Launch) (D : va_G) (cy : Nat → ClassId) (ad : Nat → Nat) (fz : List FP) (hJ : (iads ad fz).Nodup) (sz : Nat) (a0 : Int32) (st : St) (rr : Int32) (st' : St) (hf : fX11_refusei a0 fz st = some (rr, st')) : Met l yX11_refuse (Cond.code yX11_refuse cX11_refuse 2 (some .int) :: TT) (rmD 1) (iPc D cy ad fz [.ref (ad 99), .int a0] st sz) (iQi D cy ad fz rr st' sz) 0 0 (iA ad fz sz) := by
  refine i_meti (by decide) hJ (Nat.le_of_ble_eq_true rfl) (fun p e s m args below meth c ls E hx hb hr hlocks hown hT hD hN hl hP hS => ?_)
  replace hl : lv_has ls 2 [(0, .ref (ad 99)), (1, .int a0)] := hl
  unfold fX11_refusei at hf
  have B26 : ∀ (v1 : Int32) (st : St) (H : Heap) (locs : List Loc) (ls : Array Slot), fX11_refusei_b26 fz v1 st = some (rr, st') → lv_has ls 2 [(1, .int v1)] → va_P D classes (cxi cy ad fz st) H → va_S (iA ad fz s.heap.size) s.heap H locs → iGi l 1 D cy ad fz rr st' p e s m args below meth c H locs (F0 m 26 ls []) := by
    intro v1 st H locs ls hf hl hP hS
    unfold fX11_refusei_b26 at hf
    refine lv_iload_n hx hb dX11_refuse_26 rfl (lv_at hl 0 rfl) ?_
    exact i_iret hx hb hr hlocks hf hP hS dX11_refuse_27
  refine lv_aload_n hx hb dX11_refuse_0 rfl (lv_at hl 0 rfl) ?_
  refine lv_iload_n hx hb dX11_refuse_1 rfl (lv_at hl 1 rfl) ?_
  refine ip_11_203_0 E hD hP hS dX11_refuse_2 (fun st1 H locs ex hP hS => ?_)
  replace hf := lt_at ex hf; clear ex
  refine lv_iload_n hx hb dX11_refuse_5 rfl (lv_at hl 1 rfl) ?_
  refine lv_bipush (v := -6) hx hb dX11_refuse_6 (by decide) ?_
  refine lv_iconst (v := -1) hx hb dX11_refuse_8 (by decide) ?_
  obtain ⟨r2, hc, hf⟩ := bs_some hf
  refine s_calli (n := 3) (rest := []) E.1 (tX11_within l _ a0 (-6 : Int32) (-1 : Int32) r2 hc) (gS k_472 k_458 k_1 k_459) qX11_within ⟨Nat.le_of_ble_eq_true rfl, Nat.le_of_ble_eq_true rfl⟩ ⟨Nat.le_refl _, Nat.le_refl _⟩ rfl hl.1 rfl (Nat.le_of_ble_eq_true rfl) dX11_refuse_9 ?_
  refine lv_if_eq (tgt := 26) hx hb dX11_refuse_12 (by decide) (fun hc => ?_) (fun hc => ?_)
  · replace hf := it_pos hc hf
    exact B26 a0 st1 _ _ ls hf (lv_sub hl [1] rfl) hP hS
  · replace hf := it_neg hc hf
    refine lv_aload_n hx hb dX11_refuse_15 rfl (lv_at hl 0 rfl) ?_
    refine ig_11_75_0 E hP dX11_refuse_16 ?_
    refine lv_iload_n hx hb dX11_refuse_19 rfl (lv_at hl 1 rfl) ?_
    refine lv_ineg hx hb dX11_refuse_20 ?_
    refine lv_dup2_11 hx hb dX11_refuse_21 rfl rfl ?_
    obtain ⟨hi, hf⟩ := gi_some hf
    refine il_8 E hP hi dX11_refuse_22 ?_
    refine lv_iconst (v := 1) hx hb dX11_refuse_23 (by decide) ?_
    refine lv_iadd hx hb dX11_refuse_24 ?_
    obtain ⟨hi, hf⟩ := gi_some hf
    refine is_8 E hD hP hS hi dX11_refuse_25 (fun st3 H locs ex hP hS => ?_)
    replace hf := lt_at ex hf; clear ex
    exact B26 a0 st3 _ _ ls hf (lv_sub hl [1] rfl) hP hS
def fX11_settlei (a0 : Int32) (fz : List FP) (st : St) : Option (Int32 × St) := if 0 ≤ a0 then (lt (sI st 9 (0 : Int32)) (fun st1 => some (a0, st1))) else (bd (fX11_refusei a0 fz st) (fun r2 st3 => some (r2, st3)))
set_option maxHeartbeats 4000000 in
set_option maxRecDepth 100000 in
theorem tX11_settlei (l : Launch) (D : va_G) (cy : Nat → ClassId) (ad : Nat → Nat) (fz : List FP) (hJ : (iads ad fz).Nodup) (sz : Nat) (a0 : Int32) (st : St) (rr : Int32) (st' : St) (hf : fX11_settlei a0 fz st = some (rr, st')) : Met l yX11_settle (Cond.code yX11_settle cX11_settle 2 (some .int) :: TT) (rmD 2) (iPc D cy ad fz [.ref (ad 99), .int a0] st sz) (iQi D cy ad fz rr st' sz) 0 0 (iA ad fz sz) := by
  refine i_meti (by decide) hJ (Nat.le_of_ble_eq_true rfl) (fun p e s m args below meth c ls E hx hb hr hlocks hown hT hD hN hl hP hS => ?_)
  replace hl : lv_has ls 2 [(0, .ref (ad 99)), (1, .int a0)] := hl
  unfold fX11_settlei at hf
  refine lv_iload_n hx hb dX11_settle_0 rfl (lv_at hl 1 rfl) ?_
  refine lv_if_ge (tgt := 10) hx hb dX11_settle_1 (by decide) (fun hc => ?_) (fun hc => ?_)
  · replace hf := it_pos hc hf
    refine lv_aload_n hx hb dX11_settle_10 rfl (lv_at hl 0 rfl) ?_
    refine lv_iconst (v := 0) hx hb dX11_settle_11 (by decide) ?_
    refine ip_11_203_0 E hD hP hS dX11_settle_12 (fun st1 H locs ex hP hS => ?_)
    replace hf := lt_at ex hf; clear ex
    refine lv_iload_n hx hb dX11_settle_15 rfl (lv_at hl 1 rfl) ?_
    exact i_iret hx hb hr hlocks hf hP hS dX11_settle_16
  · replace hf := it_neg hc hf
    refine lv_aload_n hx hb dX11_settle_4 rfl (lv_at hl 0 rfl) ?_
    refine lv_iload_n hx hb dX11_settle_5 rfl (lv_at hl 1 rfl) ?_
    obtain ⟨r2, st3, hc, hf⟩ := bd_some hf
    refine i_calli (n := 1) (rest := []) E hN hP hS (fun sz => tX11_refusei l D cy ad fz hJ sz a0 st r2 st3 hc) (va_recv E.2 hP (ci := 11) (q0 := 0) rfl rfl) (gV k_468 k_470 ks_1 k_1 k_471) qX11_refuse ⟨Nat.le_of_ble_eq_true rfl, Nat.le_of_ble_eq_true rfl⟩ ⟨Nat.le_refl _, Nat.le_refl _⟩ rfl hl.1 rfl (Nat.le_of_ble_eq_true rfl) dX11_settle_6 (fun H locs hP hS => ?_)
    exact i_iret hx hb hr hlocks hf hP hS dX11_settle_9
def fX11_imagei (a0 : Int32) (fz : List FP) (st : St) : Option (Int32 × St) := bs (fX11_within a0 (0 : Int32) (1 : Int32)) (fun r1 => if r1 = 0 then (bd (fX11_refusei (-1 : Int32) fz st) (fun r6 st7 => some (r6, st7))) else (gi a0 2 (gi a0 2 (bd (fX6_takei__15_1 fz st) (fun r2 st3 => bd (fX11_settlei (0 : Int32) fz st3) (fun r4 st5 => some (r4, st5)))))))
set_option maxHeartbeats 4000000 in
set_option maxRecDepth 100000 in
theorem tX11_imagei (l : Launch) (D : va_G) (cy : Nat → ClassId) (ad : Nat → Nat) (fz : List FP) (hJ : (iads ad fz).Nodup) (sz : Nat) (a0 : Int32) (st : St) (hq : st.2.2.2.2 1 a0.toNatClampNeg = some (ad 1599)) (rr : Int32) (st' : St) (hf : fX11_imagei a0 fz st = some (rr, st')) : Met l yX11_image (Cond.code yX11_image cX11_image 2 (some .int) :: TT) (rmD 3) (iPc D cy ad fz [.ref (ad 99), .int a0] st sz) (iQi D cy ad fz rr st' sz) 0 0 (iA ad fz sz) := by
  refine i_meti (by decide) hJ (Nat.le_of_ble_eq_true rfl) (fun p e s m args below meth c ls E hx hb hr hlocks hown hT hD hN hl hP hS => ?_)
  replace hl : lv_has ls 2 [(0, .ref (ad 99)), (1, .int a0)] := hl
  unfold fX11_imagei at hf
  refine lv_iload_n hx hb dX11_image_0 rfl (lv_at hl 1 rfl) ?_
  refine lv_iconst (v := 0) hx hb dX11_image_1 (by decide) ?_
  refine lv_iconst (v := 1) hx hb dX11_image_2 (by decide) ?_
  obtain ⟨r1, hc, hf⟩ := bs_some hf
  refine s_calli (n := 3) (rest := []) E.1 (tX11_within l _ a0 (0 : Int32) (1 : Int32) r1 hc) (gS k_472 k_458 k_1 k_459) qX11_within ⟨Nat.le_of_ble_eq_true rfl, Nat.le_of_ble_eq_true rfl⟩ ⟨Nat.le_refl _, Nat.le_refl _⟩ rfl hl.1 rfl (Nat.le_of_ble_eq_true rfl) dX11_image_3 ?_
  refine lv_if_ne (tgt := 15) hx hb dX11_image_6 (by decide) (fun hc => ?_) (fun hc => ?_)
  · replace hf := it_neg hc hf
    refine lv_aload_n hx hb dX11_image_15 rfl (lv_at hl 0 rfl) ?_
    refine ig_11_16_0 E hP dX11_image_16 ?_
    refine lv_iload_n hx hb dX11_image_19 rfl (lv_at hl 1 rfl) ?_
    obtain ⟨hi, hf⟩ := gi_some hf
    refine il_1 E hP hi dX11_image_20 ?_
    rw [hq, va_rf_some]
    refine lv_ifnonnull (tgt := 37) hx hb dX11_image_21 (by decide) ?_
    refine lv_aload_n hx hb dX11_image_37 rfl (lv_at hl 0 rfl) ?_
    refine ig_11_16_0 E hP dX11_image_38 ?_
    refine lv_iload_n hx hb dX11_image_41 rfl (lv_at hl 1 rfl) ?_
    obtain ⟨hi, hf⟩ := gi_some hf
    refine il_1 E hP hi dX11_image_42 ?_
    rw [hq, va_rf_some]
    refine lv_aload_n hx hb dX11_image_43 rfl (lv_at hl 0 rfl) ?_
    refine ig_11_10_0 E hP dX11_image_44 ?_
    obtain ⟨r2, st3, hc, hf⟩ := bd_some hf
    refine i_callv (n := 1) (rest := []) E hN hP hS (fun sz => tX6_takei__15_1 l D cy ad fz hJ sz st r2 st3 hc) (va_recv E.2 hP (ci := 6) (q0 := 62) rfl rfl) (gV k_1114 k_1115 k_1116 k_2 k_1117) qX6_take ⟨Nat.le_of_ble_eq_true rfl, Nat.le_of_ble_eq_true rfl⟩ ⟨Nat.le_refl _, Nat.le_refl _⟩ rfl hl.1 rfl (Nat.le_of_ble_eq_true rfl) dX11_image_47 (fun H locs hP hS => ?_)
    refine lv_aload_n hx hb dX11_image_50 rfl (lv_at hl 0 rfl) ?_
    refine lv_iconst (v := 0) hx hb dX11_image_51 (by decide) ?_
    obtain ⟨r4, st5, hc, hf⟩ := bd_some hf
    refine i_calli (n := 1) (rest := []) E hN hP hS (fun sz => tX11_settlei l D cy ad fz hJ sz (0 : Int32) st3 r4 st5 hc) (va_recv E.2 hP (ci := 11) (q0 := 0) rfl rfl) (gV k_464 k_466 ks_0 k_1 k_467) qX11_settle ⟨Nat.le_of_ble_eq_true rfl, Nat.le_of_ble_eq_true rfl⟩ ⟨Nat.le_refl _, Nat.le_refl _⟩ rfl hl.1 rfl (Nat.le_of_ble_eq_true rfl) dX11_image_52 (fun H locs hP hS => ?_)
    exact i_iret hx hb hr hlocks hf hP hS dX11_image_55
  · replace hf := it_pos hc hf
    refine lv_aload_n hx hb dX11_image_9 rfl (lv_at hl 0 rfl) ?_
    refine lv_iconst (v := -1) hx hb dX11_image_10 (by decide) ?_
    obtain ⟨r6, st7, hc, hf⟩ := bd_some hf
    refine i_calli (n := 1) (rest := []) E hN hP hS (fun sz => tX11_refusei l D cy ad fz hJ sz (-1 : Int32) st r6 st7 hc) (va_recv E.2 hP (ci := 11) (q0 := 0) rfl rfl) (gV k_468 k_470 ks_1 k_1 k_471) qX11_refuse ⟨Nat.le_of_ble_eq_true rfl, Nat.le_of_ble_eq_true rfl⟩ ⟨Nat.le_refl _, Nat.le_refl _⟩ rfl hl.1 rfl (Nat.le_of_ble_eq_true rfl) dX11_image_11 (fun H locs hP hS => ?_)
    exact i_iret hx hb hr hlocks hf hP hS dX11_image_14
def fX0_takei__2_16 (fz : List FP) (st : St) : Option (Unit × St) := lt (sA st 200 (va_cpy (st.2.2.1 1600) (st.2.2.1 200) (0 : Int32).toNatClampNeg (0 : Int32).toNatClampNeg (6 : Int32).toNatClampNeg)) (fun st1 => lt (sA st1 201 (va_cpy (st1.2.2.1 1601) (st1.2.2.1 201) (0 : Int32).toNatClampNeg (0 : Int32).toNatClampNeg (6 : Int32).toNatClampNeg)) (fun st2 => lt (sA st2 202 (va_cpy (st2.2.2.1 1602) (st2.2.2.1 202) (0 : Int32).toNatClampNeg (0 : Int32).toNatClampNeg (6 : Int32).toNatClampNeg)) (fun st3 => lt (sA st3 203 (va_cpy (st3.2.2.1 1603) (st3.2.2.1 203) (0 : Int32).toNatClampNeg (0 : Int32).toNatClampNeg (4 : Int32).toNatClampNeg)) (fun st4 => lt (sI st4 204 (st4.1 1604)) (fun st5 => some ((), st5))))))
set_option maxHeartbeats 4000000 in
set_option maxRecDepth 100000 in
theorem tX0_takei__2_16 (l : Launch) (D : va_G) (cy : Nat → ClassId) (ad : Nat → Nat) (fz : List FP) (hJ : (iads ad fz).Nodup) (sz : Nat) (st : St) (rr : Unit) (st' : St) (hf : fX0_takei__2_16 fz st = some (rr, st')) : Met l yX0_take (Cond.code yX0_take cX0_take 2 none :: TT) (rmD 1) (iPc D cy ad fz [.ref (ad 299), .ref (ad 1699)] st sz) (iQv D cy ad fz rr st' sz) 0 0 (iA ad fz sz) := by
  refine i_metv (by decide) hJ (Nat.le_of_ble_eq_true rfl) (fun p e s m args below meth c ls E hx hb hr hlocks hown hT hD hN hl hP hS => ?_)
  replace hl : lv_has ls 2 [(0, .ref (ad 299)), (1, .ref (ad 1699))] := hl
  unfold fX0_takei__2_16 at hf
  refine lv_aload_n hx hb dX0_take_0 rfl (lv_at hl 1 rfl) ?_
  refine ig_0_9_16 E hP dX0_take_1 ?_
  refine lv_iconst (v := 0) hx hb dX0_take_4 (by decide) ?_
  refine lv_aload_n hx hb dX0_take_5 rfl (lv_at hl 0 rfl) ?_
  refine ig_0_9_2 E hP dX0_take_6 ?_
  refine lv_iconst (v := 0) hx hb dX0_take_9 (by decide) ?_
  refine lv_bipush (v := 6) hx hb dX0_take_10 (by decide) ?_
  refine icp_1600_200 E k_800 hD hP hS (by decide) hl.1 (Nat.le_of_ble_eq_true rfl) (Nat.le_of_ble_eq_true rfl) dX0_take_12 (fun st1 H locs ex hP hS => ?_)
  replace hf := lt_at ex hf; clear ex
  refine lv_aload_n hx hb dX0_take_15 rfl (lv_at hl 1 rfl) ?_
  refine ig_0_15_16 E hP dX0_take_16 ?_
  refine lv_iconst (v := 0) hx hb dX0_take_19 (by decide) ?_
  refine lv_aload_n hx hb dX0_take_20 rfl (lv_at hl 0 rfl) ?_
  refine ig_0_15_2 E hP dX0_take_21 ?_
  refine lv_iconst (v := 0) hx hb dX0_take_24 (by decide) ?_
  refine lv_bipush (v := 6) hx hb dX0_take_25 (by decide) ?_
  refine icp_1601_201 E k_800 hD hP hS (by decide) hl.1 (Nat.le_of_ble_eq_true rfl) (Nat.le_of_ble_eq_true rfl) dX0_take_27 (fun st2 H locs ex hP hS => ?_)
  replace hf := lt_at ex hf; clear ex
  refine lv_aload_n hx hb dX0_take_30 rfl (lv_at hl 1 rfl) ?_
  refine ig_0_18_16 E hP dX0_take_31 ?_
  refine lv_iconst (v := 0) hx hb dX0_take_34 (by decide) ?_
  refine lv_aload_n hx hb dX0_take_35 rfl (lv_at hl 0 rfl) ?_
  refine ig_0_18_2 E hP dX0_take_36 ?_
  refine lv_iconst (v := 0) hx hb dX0_take_39 (by decide) ?_
  refine lv_bipush (v := 6) hx hb dX0_take_40 (by decide) ?_
  refine icp_1602_202 E k_800 hD hP hS (by decide) hl.1 (Nat.le_of_ble_eq_true rfl) (Nat.le_of_ble_eq_true rfl) dX0_take_42 (fun st3 H locs ex hP hS => ?_)
  replace hf := lt_at ex hf; clear ex
  refine lv_aload_n hx hb dX0_take_45 rfl (lv_at hl 1 rfl) ?_
  refine ig_0_21_16 E hP dX0_take_46 ?_
  refine lv_iconst (v := 0) hx hb dX0_take_49 (by decide) ?_
  refine lv_aload_n hx hb dX0_take_50 rfl (lv_at hl 0 rfl) ?_
  refine ig_0_21_2 E hP dX0_take_51 ?_
  refine lv_iconst (v := 0) hx hb dX0_take_54 (by decide) ?_
  refine lv_iconst (v := 4) hx hb dX0_take_55 (by decide) ?_
  refine icp_1603_203 E k_800 hD hP hS (by decide) hl.1 (Nat.le_of_ble_eq_true rfl) (Nat.le_of_ble_eq_true rfl) dX0_take_56 (fun st4 H locs ex hP hS => ?_)
  replace hf := lt_at ex hf; clear ex
  refine lv_aload_n hx hb dX0_take_59 rfl (lv_at hl 0 rfl) ?_
  refine lv_aload_n hx hb dX0_take_60 rfl (lv_at hl 1 rfl) ?_
  refine ig_0_30_16 E hP dX0_take_61 ?_
  refine ip_0_30_2 E hD hP hS dX0_take_64 (fun st5 H locs ex hP hS => ?_)
  replace hf := lt_at ex hf; clear ex
  exact i_vret hx hb hr hlocks hf hP hS dX0_take_67
def fX4_takei__3_17 (fz : List FP) (st : St) : Option (Unit × St) := lt (sA st 300 (va_cpy (st.2.2.1 1700) (st.2.2.1 300) (0 : Int32).toNatClampNeg (0 : Int32).toNatClampNeg (6 : Int32).toNatClampNeg)) (fun st1 => lt (sA st1 301 (va_cpy (st1.2.2.1 1701) (st1.2.2.1 301) (0 : Int32).toNatClampNeg (0 : Int32).toNatClampNeg (6 : Int32).toNatClampNeg)) (fun st2 => lt (sA st2 302 (va_cpy (st2.2.2.1 1702) (st2.2.2.1 302) (0 : Int32).toNatClampNeg (0 : Int32).toNatClampNeg (8 : Int32).toNatClampNeg)) (fun st3 => lt (sA st3 303 (va_cpy (st3.2.2.1 1703) (st3.2.2.1 303) (0 : Int32).toNatClampNeg (0 : Int32).toNatClampNeg (8 : Int32).toNatClampNeg)) (fun st4 => lt (sI st4 305 (st4.1 1705)) (fun st5 => lt (sI st5 306 (st5.1 1706)) (fun st6 => some ((), st6)))))))
set_option maxHeartbeats 4000000 in
set_option maxRecDepth 100000 in
theorem tX4_takei__3_17 (l : Launch) (D : va_G) (cy : Nat → ClassId) (ad : Nat → Nat) (fz : List FP) (hJ : (iads ad fz).Nodup) (sz : Nat) (st : St) (rr : Unit) (st' : St) (hf : fX4_takei__3_17 fz st = some (rr, st')) : Met l yX4_take (Cond.code yX4_take cX4_take 2 none :: TT) (rmD 1) (iPc D cy ad fz [.ref (ad 399), .ref (ad 1799)] st sz) (iQv D cy ad fz rr st' sz) 0 0 (iA ad fz sz) := by
  refine i_metv (by decide) hJ (Nat.le_of_ble_eq_true rfl) (fun p e s m args below meth c ls E hx hb hr hlocks hown hT hD hN hl hP hS => ?_)
  replace hl : lv_has ls 2 [(0, .ref (ad 399)), (1, .ref (ad 1799))] := hl
  unfold fX4_takei__3_17 at hf
  refine lv_aload_n hx hb dX4_take_0 rfl (lv_at hl 1 rfl) ?_
  refine ig_4_9_17 E hP dX4_take_1 ?_
  refine lv_iconst (v := 0) hx hb dX4_take_4 (by decide) ?_
  refine lv_aload_n hx hb dX4_take_5 rfl (lv_at hl 0 rfl) ?_
  refine ig_4_9_3 E hP dX4_take_6 ?_
  refine lv_iconst (v := 0) hx hb dX4_take_9 (by decide) ?_
  refine lv_bipush (v := 6) hx hb dX4_take_10 (by decide) ?_
  refine icp_1700_300 E k_1123 hD hP hS (by decide) hl.1 (Nat.le_of_ble_eq_true rfl) (Nat.le_of_ble_eq_true rfl) dX4_take_12 (fun st1 H locs ex hP hS => ?_)
  replace hf := lt_at ex hf; clear ex
  refine lv_aload_n hx hb dX4_take_15 rfl (lv_at hl 1 rfl) ?_
  refine ig_4_15_17 E hP dX4_take_16 ?_
  refine lv_iconst (v := 0) hx hb dX4_take_19 (by decide) ?_
  refine lv_aload_n hx hb dX4_take_20 rfl (lv_at hl 0 rfl) ?_
  refine ig_4_15_3 E hP dX4_take_21 ?_
  refine lv_iconst (v := 0) hx hb dX4_take_24 (by decide) ?_
  refine lv_bipush (v := 6) hx hb dX4_take_25 (by decide) ?_
  refine icp_1701_301 E k_1123 hD hP hS (by decide) hl.1 (Nat.le_of_ble_eq_true rfl) (Nat.le_of_ble_eq_true rfl) dX4_take_27 (fun st2 H locs ex hP hS => ?_)
  replace hf := lt_at ex hf; clear ex
  refine lv_aload_n hx hb dX4_take_30 rfl (lv_at hl 1 rfl) ?_
  refine ig_4_18_17 E hP dX4_take_31 ?_
  refine lv_iconst (v := 0) hx hb dX4_take_34 (by decide) ?_
  refine lv_aload_n hx hb dX4_take_35 rfl (lv_at hl 0 rfl) ?_
  refine ig_4_18_3 E hP dX4_take_36 ?_
  refine lv_iconst (v := 0) hx hb dX4_take_39 (by decide) ?_
  refine lv_bipush (v := 8) hx hb dX4_take_40 (by decide) ?_
  refine icp_1702_302 E k_1123 hD hP hS (by decide) hl.1 (Nat.le_of_ble_eq_true rfl) (Nat.le_of_ble_eq_true rfl) dX4_take_42 (fun st3 H locs ex hP hS => ?_)
  replace hf := lt_at ex hf; clear ex
  refine lv_aload_n hx hb dX4_take_45 rfl (lv_at hl 1 rfl) ?_
  refine ig_4_21_17 E hP dX4_take_46 ?_
  refine lv_iconst (v := 0) hx hb dX4_take_49 (by decide) ?_
  refine lv_aload_n hx hb dX4_take_50 rfl (lv_at hl 0 rfl) ?_
  refine ig_4_21_3 E hP dX4_take_51 ?_
  refine lv_iconst (v := 0) hx hb dX4_take_54 (by decide) ?_
  refine lv_bipush (v := 8) hx hb dX4_take_55 (by decide) ?_
  refine icp_1703_303 E k_1123 hD hP hS (by decide) hl.1 (Nat.le_of_ble_eq_true rfl) (Nat.le_of_ble_eq_true rfl) dX4_take_57 (fun st4 H locs ex hP hS => ?_)
  replace hf := lt_at ex hf; clear ex
  refine lv_aload_n hx hb dX4_take_60 rfl (lv_at hl 0 rfl) ?_
  refine lv_aload_n hx hb dX4_take_61 rfl (lv_at hl 1 rfl) ?_
  refine ig_4_33_17 E hP dX4_take_62 ?_
  refine ip_4_33_3 E hD hP hS dX4_take_65 (fun st5 H locs ex hP hS => ?_)
  replace hf := lt_at ex hf; clear ex
  refine lv_aload_n hx hb dX4_take_68 rfl (lv_at hl 0 rfl) ?_
  refine lv_aload_n hx hb dX4_take_69 rfl (lv_at hl 1 rfl) ?_
  refine ig_4_37_17 E hP dX4_take_70 ?_
  refine ip_4_37_3 E hD hP hS dX4_take_73 (fun st6 H locs ex hP hS => ?_)
  replace hf := lt_at ex hf; clear ex
  exact i_vret hx hb hr hlocks hf hP hS dX4_take_76
def fX1_takei__4_18 (fz : List FP) (st : St) : Option (Unit × St) := lt (sA st 400 (va_cpy (st.2.2.1 1800) (st.2.2.1 400) (0 : Int32).toNatClampNeg (0 : Int32).toNatClampNeg (8 : Int32).toNatClampNeg)) (fun st1 => lt (sA st1 401 (va_cpy (st1.2.2.1 1801) (st1.2.2.1 401) (0 : Int32).toNatClampNeg (0 : Int32).toNatClampNeg (8 : Int32).toNatClampNeg)) (fun st2 => lt (sA st2 402 (va_cpy (st2.2.2.1 1802) (st2.2.2.1 402) (0 : Int32).toNatClampNeg (0 : Int32).toNatClampNeg (8 : Int32).toNatClampNeg)) (fun st3 => lt (sI st3 404 (st3.1 1804)) (fun st4 => some ((), st4)))))
set_option maxHeartbeats 4000000 in
set_option maxRecDepth 100000 in
theorem tX1_takei__4_18 (l : Launch) (D : va_G) (cy : Nat → ClassId) (ad : Nat → Nat) (fz : List FP) (hJ : (iads ad fz).Nodup) (sz : Nat) (st : St) (rr : Unit) (st' : St) (hf : fX1_takei__4_18 fz st = some (rr, st')) : Met l yX1_take (Cond.code yX1_take cX1_take 2 none :: TT) (rmD 1) (iPc D cy ad fz [.ref (ad 499), .ref (ad 1899)] st sz) (iQv D cy ad fz rr st' sz) 0 0 (iA ad fz sz) := by
  refine i_metv (by decide) hJ (Nat.le_of_ble_eq_true rfl) (fun p e s m args below meth c ls E hx hb hr hlocks hown hT hD hN hl hP hS => ?_)
  replace hl : lv_has ls 2 [(0, .ref (ad 499)), (1, .ref (ad 1899))] := hl
  unfold fX1_takei__4_18 at hf
  refine lv_aload_n hx hb dX1_take_0 rfl (lv_at hl 1 rfl) ?_
  refine ig_1_11_18 E hP dX1_take_1 ?_
  refine lv_iconst (v := 0) hx hb dX1_take_4 (by decide) ?_
  refine lv_aload_n hx hb dX1_take_5 rfl (lv_at hl 0 rfl) ?_
  refine ig_1_11_4 E hP dX1_take_6 ?_
  refine lv_iconst (v := 0) hx hb dX1_take_9 (by decide) ?_
  refine lv_bipush (v := 8) hx hb dX1_take_10 (by decide) ?_
  refine icp_1800_400 E k_1128 hD hP hS (by decide) hl.1 (Nat.le_of_ble_eq_true rfl) (Nat.le_of_ble_eq_true rfl) dX1_take_12 (fun st1 H locs ex hP hS => ?_)
  replace hf := lt_at ex hf; clear ex
  refine lv_aload_n hx hb dX1_take_15 rfl (lv_at hl 1 rfl) ?_
  refine ig_1_15_18 E hP dX1_take_16 ?_
  refine lv_iconst (v := 0) hx hb dX1_take_19 (by decide) ?_
  refine lv_aload_n hx hb dX1_take_20 rfl (lv_at hl 0 rfl) ?_
  refine ig_1_15_4 E hP dX1_take_21 ?_
  refine lv_iconst (v := 0) hx hb dX1_take_24 (by decide) ?_
  refine lv_bipush (v := 8) hx hb dX1_take_25 (by decide) ?_
  refine icp_1801_401 E k_1128 hD hP hS (by decide) hl.1 (Nat.le_of_ble_eq_true rfl) (Nat.le_of_ble_eq_true rfl) dX1_take_27 (fun st2 H locs ex hP hS => ?_)
  replace hf := lt_at ex hf; clear ex
  refine lv_aload_n hx hb dX1_take_30 rfl (lv_at hl 1 rfl) ?_
  refine ig_1_18_18 E hP dX1_take_31 ?_
  refine lv_iconst (v := 0) hx hb dX1_take_34 (by decide) ?_
  refine lv_aload_n hx hb dX1_take_35 rfl (lv_at hl 0 rfl) ?_
  refine ig_1_18_4 E hP dX1_take_36 ?_
  refine lv_iconst (v := 0) hx hb dX1_take_39 (by decide) ?_
  refine lv_bipush (v := 8) hx hb dX1_take_40 (by decide) ?_
  refine icp_1802_402 E k_1128 hD hP hS (by decide) hl.1 (Nat.le_of_ble_eq_true rfl) (Nat.le_of_ble_eq_true rfl) dX1_take_42 (fun st3 H locs ex hP hS => ?_)
  replace hf := lt_at ex hf; clear ex
  refine lv_aload_n hx hb dX1_take_45 rfl (lv_at hl 0 rfl) ?_
  refine lv_aload_n hx hb dX1_take_46 rfl (lv_at hl 1 rfl) ?_
  refine ig_1_30_18 E hP dX1_take_47 ?_
  refine ip_1_30_4 E hD hP hS dX1_take_50 (fun st4 H locs ex hP hS => ?_)
  replace hf := lt_at ex hf; clear ex
  exact i_vret hx hb hr hlocks hf hP hS dX1_take_53
def fX6_takei__1_15_b80 (fz : List FP) (k80 : Int32 → St → Option (Unit × St)) (v2 : Int32) (st : St) : Option (Unit × St) := if (6 : Int32) ≤ v2 then (lt (sI st 108 (st.1 1508)) (fun st1 => lt (sI st1 109 (st1.1 1509)) (fun st2 => lt (sI st2 110 (st2.1 1510)) (fun st3 => lt (sI st3 111 (st3.1 1511)) (fun st4 => lt (sI st4 112 (st4.1 1512)) (fun st5 => some ((), st5))))))) else (gi v2 6 (oq (st.2.2.2.2 1507 v2.toNatClampNeg) (gi v2 6 (lt (sR st 107 (va_up (st.2.2.2.2 107) v2.toNatClampNeg none)) (fun st7 => lt (v2 + (1 : Int32)) (fun x8 => k80 x8 st7)))) (fun q => bs (fzGet fz q) (fun P6 => gi v2 6 (lt (sR st 107 (va_up (st.2.2.2.2 107) v2.toNatClampNeg (some (P6.1 99)))) (fun st9 => lt (v2 + (1 : Int32)) (fun x10 => k80 x10 st9)))))))
def fX6_takei__1_15 (fz : List FP) (st : St) : Option (Unit × St) := bd (fX0_takei__2_16 fz st) (fun r11 st12 => bd (fX4_takei__3_17 fz st12) (fun r13 st14 => bd (fX1_takei__4_18 fz st14) (fun r15 st16 => lt (sA st16 103 (va_cpy (st16.2.2.1 1503) (st16.2.2.1 103) (0 : Int32).toNatClampNeg (0 : Int32).toNatClampNeg (6 : Int32).toNatClampNeg)) (fun st17 => lt (sA st17 104 (va_cpy (st17.2.2.1 1504) (st17.2.2.1 104) (0 : Int32).toNatClampNeg (0 : Int32).toNatClampNeg (18 : Int32).toNatClampNeg)) (fun st18 => lt (sA st18 105 (va_cpy (st18.2.2.1 1505) (st18.2.2.1 105) (0 : Int32).toNatClampNeg (0 : Int32).toNatClampNeg (36 : Int32).toNatClampNeg)) (fun st19 => lp (fun _ _ => none) (fX6_takei__1_15_b80 fz) 6000 (0 : Int32) st19))))))
set_option maxHeartbeats 4000000 in
set_option maxRecDepth 100000 in
theorem tX6_takei__1_15 (l : Launch) (D : va_G) (cy : Nat → ClassId) (ad : Nat → Nat) (fz : List FP) (hJ : (iads ad fz).Nodup) (sz : Nat) (st : St) (rr : Unit) (st' : St) (hf : fX6_takei__1_15 fz st = some (rr, st')) : Met l yX6_take (Cond.code yX6_take cX6_take 3 none :: TT) (rmD 2) (iPc D cy ad fz [.ref (ad 199), .ref (ad 1599)] st sz) (iQv D cy ad fz rr st' sz) 0 0 (iA ad fz sz) := by
  refine i_metv (by decide) hJ (Nat.le_of_ble_eq_true rfl) (fun p e s m args below meth c ls E hx hb hr hlocks hown hT hD hN hl hP hS => ?_)
  replace hl : lv_has ls 3 [(0, .ref (ad 199)), (1, .ref (ad 1599))] := hl
  unfold fX6_takei__1_15 at hf
  have L80 : ∀ (n : Nat) (v2 : Int32) (st : St) (H : Heap) (locs : List Loc) (ls : Array Slot), lp (fun _ _ => none) (fX6_takei__1_15_b80 fz) n v2 st = some (rr, st') → lv_has ls 3 [(0, .ref (ad 199)), (1, .ref (ad 1599)), (2, .int v2)] → va_P D classes (cxi cy ad fz st) H → va_S (iA ad fz s.heap.size) s.heap H locs → iGv l 2 D cy ad fz rr st' p e s m args below meth c H locs (F0 m 80 ls []) := by
    intro n
    induction n with
    | zero => intro v2 st H locs ls hf; exact absurd hf (fun h => by cases h)
    | succ n K80 =>
      intro v2 st H locs ls hf hl hP hS
      replace hf : fX6_takei__1_15_b80 fz (lp (fun _ _ => none) (fX6_takei__1_15_b80 fz) n) v2 st = some (rr, st') := hf
      generalize lp (fun _ _ => none) (fX6_takei__1_15_b80 fz) n = k80 at hf K80
      unfold fX6_takei__1_15_b80 at hf
      refine lv_iload_n hx hb dX6_take_80 rfl (lv_at hl 2 rfl) ?_
      refine lv_bipush (v := 6) hx hb dX6_take_81 (by decide) ?_
      refine lv_icmp_ge (tgt := 104) hx hb dX6_take_83 (by decide) (fun hc => ?_) (fun hc => ?_)
      · replace hf := it_pos hc hf
        refine lv_aload_n hx hb dX6_take_104 rfl (lv_at hl 0 rfl) ?_
        refine lv_aload_n hx hb dX6_take_105 rfl (lv_at hl 1 rfl) ?_
        refine ig_6_86_15 E hP dX6_take_106 ?_
        refine ip_6_86_1 E hD hP hS dX6_take_109 (fun st1 H locs ex hP hS => ?_)
        replace hf := lt_at ex hf; clear ex
        refine lv_aload_n hx hb dX6_take_112 rfl (lv_at hl 0 rfl) ?_
        refine lv_aload_n hx hb dX6_take_113 rfl (lv_at hl 1 rfl) ?_
        refine ig_6_51_15 E hP dX6_take_114 ?_
        refine ip_6_51_1 E hD hP hS dX6_take_117 (fun st2 H locs ex hP hS => ?_)
        replace hf := lt_at ex hf; clear ex
        refine lv_aload_n hx hb dX6_take_120 rfl (lv_at hl 0 rfl) ?_
        refine lv_aload_n hx hb dX6_take_121 rfl (lv_at hl 1 rfl) ?_
        refine ig_6_89_15 E hP dX6_take_122 ?_
        refine ip_6_89_1 E hD hP hS dX6_take_125 (fun st3 H locs ex hP hS => ?_)
        replace hf := lt_at ex hf; clear ex
        refine lv_aload_n hx hb dX6_take_128 rfl (lv_at hl 0 rfl) ?_
        refine lv_aload_n hx hb dX6_take_129 rfl (lv_at hl 1 rfl) ?_
        refine ig_6_92_15 E hP dX6_take_130 ?_
        refine ip_6_92_1 E hD hP hS dX6_take_133 (fun st4 H locs ex hP hS => ?_)
        replace hf := lt_at ex hf; clear ex
        refine lv_aload_n hx hb dX6_take_136 rfl (lv_at hl 0 rfl) ?_
        refine lv_aload_n hx hb dX6_take_137 rfl (lv_at hl 1 rfl) ?_
        refine ig_6_55_15 E hP dX6_take_138 ?_
        refine ip_6_55_1 E hD hP hS dX6_take_141 (fun st5 H locs ex hP hS => ?_)
        replace hf := lt_at ex hf; clear ex
        exact i_vret hx hb hr hlocks hf hP hS dX6_take_144
      · replace hf := it_neg hc hf
        refine lv_aload_n hx hb dX6_take_86 rfl (lv_at hl 0 rfl) ?_
        refine ig_6_47_1 E hP dX6_take_87 ?_
        refine lv_iload_n hx hb dX6_take_90 rfl (lv_at hl 2 rfl) ?_
        refine lv_aload_n hx hb dX6_take_91 rfl (lv_at hl 1 rfl) ?_
        refine ig_6_47_15 E hP dX6_take_92 ?_
        refine lv_iload_n hx hb dX6_take_95 rfl (lv_at hl 2 rfl) ?_
        obtain ⟨hi, hf⟩ := gi_some hf
        refine il_1507 E hP hi dX6_take_96 ?_
        generalize hrq : (st.2.2.2.2 1507 v2.toNatClampNeg) = rq at hf ⊢
        clear hrq
        cases rq with
        | none =>
          replace hf := oq_none hf
          obtain ⟨hi, hf⟩ := gi_some hf
          refine ir_107N E hD hP hS hi dX6_take_97 (fun st7 H locs ex hP hS => ?_)
          replace hf := lt_at ex hf; clear ex
          obtain ⟨x8, ex⟩ : ∃ y : Int32, y = v2 + (1 : Int32) := ⟨_, rfl⟩
          replace hf := lt_at ex hf
          refine lv_iinc (v := x8) (lv' := [(2, .int x8), (0, .ref (ad 199)), (1, .ref (ad 1599))]) hx hb dX6_take_98 hl (k := 2) rfl (by rw [ex]; rfl) (by decide) rfl (fun ls hl => ?_)
          clear ex
          refine lv_goto (tgt := 80) hx hb dX6_take_101 (by decide) ?_
          exact K80 x8 st7 _ _ ls hf (lv_sub hl [1, 2, 0] rfl) hP hS
        | some q =>
          replace hf := oq_some hf
          have hbs := bs_some hf
          clear hf
          obtain ⟨P6, hPf, hf⟩ := hbs
          obtain ⟨hPm, rfl⟩ := fzGet_some hPf
          obtain ⟨hi, hf⟩ := gi_some hf
          refine ir_107L E hD hP hS hPm hi dX6_take_97 (fun st9 H locs ex hP hS => ?_)
          replace hf := lt_at ex hf; clear ex
          obtain ⟨x10, ex⟩ : ∃ y : Int32, y = v2 + (1 : Int32) := ⟨_, rfl⟩
          replace hf := lt_at ex hf
          refine lv_iinc (v := x10) (lv' := [(2, .int x10), (0, .ref (ad 199)), (1, .ref (ad 1599))]) hx hb dX6_take_98 hl (k := 2) rfl (by rw [ex]; rfl) (by decide) rfl (fun ls hl => ?_)
          clear ex
          refine lv_goto (tgt := 80) hx hb dX6_take_101 (by decide) ?_
          exact K80 x10 st9 _ _ ls hf (lv_sub hl [1, 2, 0] rfl) hP hS
  refine lv_aload_n hx hb dX6_take_0 rfl (lv_at hl 0 rfl) ?_
  refine ig_6_12_1 E hP dX6_take_1 ?_
  refine lv_aload_n hx hb dX6_take_4 rfl (lv_at hl 1 rfl) ?_
  refine ig_6_12_15 E hP dX6_take_5 ?_
  obtain ⟨r11, st12, hc, hf⟩ := bd_some hf
  refine i_callv (n := 1) (rest := []) E hN hP hS (fun sz => tX0_takei__2_16 l D cy ad fz hJ sz st r11 st12 hc) (va_recv E.2 hP (ci := 0) (q0 := 9) rfl rfl) (gV k_1118 k_797 k_798 k_3 k_799) qX0_take ⟨Nat.le_of_ble_eq_true rfl, Nat.le_of_ble_eq_true rfl⟩ ⟨Nat.le_refl _, Nat.le_refl _⟩ rfl hl.1 rfl (Nat.le_of_ble_eq_true rfl) dX6_take_8 (fun H locs hP hS => ?_)
  refine lv_aload_n hx hb dX6_take_11 rfl (lv_at hl 0 rfl) ?_
  refine ig_6_21_1 E hP dX6_take_12 ?_
  refine lv_aload_n hx hb dX6_take_15 rfl (lv_at hl 1 rfl) ?_
  refine ig_6_21_15 E hP dX6_take_16 ?_
  obtain ⟨r13, st14, hc, hf⟩ := bd_some hf
  refine i_callv (n := 1) (rest := []) E hN hP hS (fun sz => tX4_takei__3_17 l D cy ad fz hJ sz st12 r13 st14 hc) (va_recv E.2 hP (ci := 4) (q0 := 14) rfl rfl) (gV k_1119 k_1120 k_1121 k_4 k_1122) qX4_take ⟨Nat.le_of_ble_eq_true rfl, Nat.le_of_ble_eq_true rfl⟩ ⟨Nat.le_refl _, Nat.le_refl _⟩ rfl hl.1 rfl (Nat.le_of_ble_eq_true rfl) dX6_take_19 (fun H locs hP hS => ?_)
  refine lv_aload_n hx hb dX6_take_22 rfl (lv_at hl 0 rfl) ?_
  refine ig_6_28_1 E hP dX6_take_23 ?_
  refine lv_aload_n hx hb dX6_take_26 rfl (lv_at hl 1 rfl) ?_
  refine ig_6_28_15 E hP dX6_take_27 ?_
  obtain ⟨r15, st16, hc, hf⟩ := bd_some hf
  refine i_callv (n := 1) (rest := []) E hN hP hS (fun sz => tX1_takei__4_18 l D cy ad fz hJ sz st14 r15 st16 hc) (va_recv E.2 hP (ci := 1) (q0 := 20) rfl rfl) (gV k_1124 k_1125 k_1126 k_5 k_1127) qX1_take ⟨Nat.le_of_ble_eq_true rfl, Nat.le_of_ble_eq_true rfl⟩ ⟨Nat.le_refl _, Nat.le_refl _⟩ rfl hl.1 rfl (Nat.le_of_ble_eq_true rfl) dX6_take_30 (fun H locs hP hS => ?_)
  refine lv_aload_n hx hb dX6_take_33 rfl (lv_at hl 1 rfl) ?_
  refine ig_6_32_15 E hP dX6_take_34 ?_
  refine lv_iconst (v := 0) hx hb dX6_take_37 (by decide) ?_
  refine lv_aload_n hx hb dX6_take_38 rfl (lv_at hl 0 rfl) ?_
  refine ig_6_32_1 E hP dX6_take_39 ?_
  refine lv_iconst (v := 0) hx hb dX6_take_42 (by decide) ?_
  refine lv_bipush (v := 6) hx hb dX6_take_43 (by decide) ?_
  refine icp_1503_103 E k_1129 hD hP hS (by decide) hl.1 (Nat.le_of_ble_eq_true rfl) (Nat.le_of_ble_eq_true rfl) dX6_take_45 (fun st17 H locs ex hP hS => ?_)
  replace hf := lt_at ex hf; clear ex
  refine lv_aload_n hx hb dX6_take_48 rfl (lv_at hl 1 rfl) ?_
  refine ig_6_36_15 E hP dX6_take_49 ?_
  refine lv_iconst (v := 0) hx hb dX6_take_52 (by decide) ?_
  refine lv_aload_n hx hb dX6_take_53 rfl (lv_at hl 0 rfl) ?_
  refine ig_6_36_1 E hP dX6_take_54 ?_
  refine lv_iconst (v := 0) hx hb dX6_take_57 (by decide) ?_
  refine lv_bipush (v := 18) hx hb dX6_take_58 (by decide) ?_
  refine icp_1504_104 E k_1129 hD hP hS (by decide) hl.1 (Nat.le_of_ble_eq_true rfl) (Nat.le_of_ble_eq_true rfl) dX6_take_60 (fun st18 H locs ex hP hS => ?_)
  replace hf := lt_at ex hf; clear ex
  refine lv_aload_n hx hb dX6_take_63 rfl (lv_at hl 1 rfl) ?_
  refine ig_6_39_15 E hP dX6_take_64 ?_
  refine lv_iconst (v := 0) hx hb dX6_take_67 (by decide) ?_
  refine lv_aload_n hx hb dX6_take_68 rfl (lv_at hl 0 rfl) ?_
  refine ig_6_39_1 E hP dX6_take_69 ?_
  refine lv_iconst (v := 0) hx hb dX6_take_72 (by decide) ?_
  refine lv_bipush (v := 36) hx hb dX6_take_73 (by decide) ?_
  refine icp_1505_105 E k_1129 hD hP hS (by decide) hl.1 (Nat.le_of_ble_eq_true rfl) (Nat.le_of_ble_eq_true rfl) dX6_take_75 (fun st19 H locs ex hP hS => ?_)
  replace hf := lt_at ex hf; clear ex
  refine lv_iconst (v := 0) hx hb dX6_take_78 (by decide) ?_
  refine lv_istore_n (lv' := [(2, .int (0 : Int32)), (0, .ref (ad 199)), (1, .ref (ad 1599))]) hx hb dX6_take_79 rfl hl (by decide) rfl (fun ls hl => ?_)
  exact L80 6000 (0 : Int32) st19 _ _ ls hf (lv_sub hl [1, 2, 0] rfl) hP hS
def fX2_closei (fz : List FP) (st : St) : Option (Unit × St) := lt (sI st 905 (0 : Int32)) (fun st1 => some ((), st1))
set_option maxHeartbeats 4000000 in
set_option maxRecDepth 100000 in
theorem tX2_closei (l : Launch) (D : va_G) (cy : Nat → ClassId) (ad : Nat → Nat) (fz : List FP) (hJ : (iads ad fz).Nodup) (sz : Nat) (st : St) (rr : Unit) (st' : St) (hf : fX2_closei fz st = some (rr, st')) : Met l yX2_close (Cond.code yX2_close cX2_close 1 none :: TT) (rmD 0) (iPc D cy ad fz [.ref (ad 999)] st sz) (iQv D cy ad fz rr st' sz) 0 0 (iA ad fz sz) := by
  refine i_metv (by decide) hJ (Nat.le_of_ble_eq_true rfl) (fun p e s m args below meth c ls E hx hb hr hlocks hown hT hD hN hl hP hS => ?_)
  replace hl : lv_has ls 1 [(0, .ref (ad 999))] := hl
  unfold fX2_closei at hf
  refine lv_aload_n hx hb dX2_close_0 rfl (lv_at hl 0 rfl) ?_
  refine lv_iconst (v := 0) hx hb dX2_close_1 (by decide) ?_
  refine ip_2_105_9 E hD hP hS dX2_close_2 (fun st1 H locs ex hP hS => ?_)
  replace hf := lt_at ex hf; clear ex
  exact i_vret hx hb hr hlocks hf hP hS dX2_close_5
def fX11_backi (a0 : Int32) (fz : List FP) (st : St) : Option (Int32 × St) := bs (fX11_within a0 (0 : Int32) (1 : Int32)) (fun r1 => if r1 = 0 then (bd (fX11_refusei (-1 : Int32) fz st) (fun r8 st9 => some (r8, st9))) else (gi a0 2 (gi a0 2 (bd (fX6_takei__1_15 fz st) (fun r2 st3 => bd (fX2_closei fz st3) (fun r4 st5 => bd (fX11_settlei (0 : Int32) fz st5) (fun r6 st7 => some (r6, st7))))))))
set_option maxHeartbeats 4000000 in
set_option maxRecDepth 100000 in
theorem tX11_backi (l : Launch) (D : va_G) (cy : Nat → ClassId) (ad : Nat → Nat) (fz : List FP) (hJ : (iads ad fz).Nodup) (sz : Nat) (a0 : Int32) (st : St) (hq : st.2.2.2.2 1 a0.toNatClampNeg = some (ad 1599)) (rr : Int32) (st' : St) (hf : fX11_backi a0 fz st = some (rr, st')) : Met l yX11_back (Cond.code yX11_back cX11_back 2 (some .int) :: TT) (rmD 3) (iPc D cy ad fz [.ref (ad 99), .int a0] st sz) (iQi D cy ad fz rr st' sz) 0 0 (iA ad fz sz) := by
  refine i_meti (by decide) hJ (Nat.le_of_ble_eq_true rfl) (fun p e s m args below meth c ls E hx hb hr hlocks hown hT hD hN hl hP hS => ?_)
  replace hl : lv_has ls 2 [(0, .ref (ad 99)), (1, .int a0)] := hl
  unfold fX11_backi at hf
  refine lv_iload_n hx hb dX11_back_0 rfl (lv_at hl 1 rfl) ?_
  refine lv_iconst (v := 0) hx hb dX11_back_1 (by decide) ?_
  refine lv_iconst (v := 1) hx hb dX11_back_2 (by decide) ?_
  obtain ⟨r1, hc, hf⟩ := bs_some hf
  refine s_calli (n := 3) (rest := []) E.1 (tX11_within l _ a0 (0 : Int32) (1 : Int32) r1 hc) (gS k_472 k_458 k_1 k_459) qX11_within ⟨Nat.le_of_ble_eq_true rfl, Nat.le_of_ble_eq_true rfl⟩ ⟨Nat.le_refl _, Nat.le_refl _⟩ rfl hl.1 rfl (Nat.le_of_ble_eq_true rfl) dX11_back_3 ?_
  refine lv_if_ne (tgt := 15) hx hb dX11_back_6 (by decide) (fun hc => ?_) (fun hc => ?_)
  · replace hf := it_neg hc hf
    refine lv_aload_n hx hb dX11_back_15 rfl (lv_at hl 0 rfl) ?_
    refine ig_11_16_0 E hP dX11_back_16 ?_
    refine lv_iload_n hx hb dX11_back_19 rfl (lv_at hl 1 rfl) ?_
    obtain ⟨hi, hf⟩ := gi_some hf
    refine il_1 E hP hi dX11_back_20 ?_
    rw [hq, va_rf_some]
    refine lv_ifnonnull (tgt := 31) hx hb dX11_back_21 (by decide) ?_
    refine lv_aload_n hx hb dX11_back_31 rfl (lv_at hl 0 rfl) ?_
    refine ig_11_10_0 E hP dX11_back_32 ?_
    refine lv_aload_n hx hb dX11_back_35 rfl (lv_at hl 0 rfl) ?_
    refine ig_11_16_0 E hP dX11_back_36 ?_
    refine lv_iload_n hx hb dX11_back_39 rfl (lv_at hl 1 rfl) ?_
    obtain ⟨hi, hf⟩ := gi_some hf
    refine il_1 E hP hi dX11_back_40 ?_
    rw [hq, va_rf_some]
    obtain ⟨r2, st3, hc, hf⟩ := bd_some hf
    refine i_callv (n := 1) (rest := []) E hN hP hS (fun sz => tX6_takei__1_15 l D cy ad fz hJ sz st r2 st3 hc) (va_recv E.2 hP (ci := 6) (q0 := 3) rfl rfl) (gV k_1114 k_1115 k_1116 k_2 k_1117) qX6_take ⟨Nat.le_of_ble_eq_true rfl, Nat.le_of_ble_eq_true rfl⟩ ⟨Nat.le_refl _, Nat.le_refl _⟩ rfl hl.1 rfl (Nat.le_of_ble_eq_true rfl) dX11_back_41 (fun H locs hP hS => ?_)
    refine lv_aload_n hx hb dX11_back_44 rfl (lv_at hl 0 rfl) ?_
    refine ig_11_53_0 E hP dX11_back_45 ?_
    obtain ⟨r4, st5, hc, hf⟩ := bd_some hf
    refine i_callv (n := 0) (rest := []) E hN hP hS (fun sz => tX2_closei l D cy ad fz hJ sz st3 r4 st5 hc) (va_recv E.2 hP (ci := 2) (q0 := 40) rfl rfl) (gV k_460 k_461 k_462 k_11 k_463) qX2_close ⟨Nat.le_of_ble_eq_true rfl, Nat.le_of_ble_eq_true rfl⟩ ⟨Nat.le_refl _, Nat.le_refl _⟩ rfl hl.1 rfl (Nat.le_of_ble_eq_true rfl) dX11_back_48 (fun H locs hP hS => ?_)
    refine lv_aload_n hx hb dX11_back_51 rfl (lv_at hl 0 rfl) ?_
    refine lv_iconst (v := 0) hx hb dX11_back_52 (by decide) ?_
    obtain ⟨r6, st7, hc, hf⟩ := bd_some hf
    refine i_calli (n := 1) (rest := []) E hN hP hS (fun sz => tX11_settlei l D cy ad fz hJ sz (0 : Int32) st5 r6 st7 hc) (va_recv E.2 hP (ci := 11) (q0 := 0) rfl rfl) (gV k_464 k_466 ks_0 k_1 k_467) qX11_settle ⟨Nat.le_of_ble_eq_true rfl, Nat.le_of_ble_eq_true rfl⟩ ⟨Nat.le_refl _, Nat.le_refl _⟩ rfl hl.1 rfl (Nat.le_of_ble_eq_true rfl) dX11_back_53 (fun H locs hP hS => ?_)
    exact i_iret hx hb hr hlocks hf hP hS dX11_back_56
  · replace hf := it_pos hc hf
    refine lv_aload_n hx hb dX11_back_9 rfl (lv_at hl 0 rfl) ?_
    refine lv_iconst (v := -1) hx hb dX11_back_10 (by decide) ?_
    obtain ⟨r8, st9, hc, hf⟩ := bd_some hf
    refine i_calli (n := 1) (rest := []) E hN hP hS (fun sz => tX11_refusei l D cy ad fz hJ sz (-1 : Int32) st r8 st9 hc) (va_recv E.2 hP (ci := 11) (q0 := 0) rfl rfl) (gV k_468 k_470 ks_1 k_1 k_471) qX11_refuse ⟨Nat.le_of_ble_eq_true rfl, Nat.le_of_ble_eq_true rfl⟩ ⟨Nat.le_refl _, Nat.le_refl _⟩ rfl hl.1 rfl (Nat.le_of_ble_eq_true rfl) dX11_back_11 (fun H locs hP hS => ?_)
    exact i_iret hx hb hr hlocks hf hP hS dX11_back_14
