def fX5_pays (a0 : Int32) (a1 : Int32) (fz : List FP) (st : St) : Option (Int32 × St) := bd (fX5_ask a0 a1 (-1 : Int32) (-1 : Int32) (-1 : Int32) fz st) (fun r1 st2 => gi ((12 : Int32) + a1) 18 (bd (fX5_told (301 : Int32) (st2.2.2.1 104 ((12 : Int32) + a1).toNatClampNeg) (0 : Int32) (99 : Int32) fz st2) (fun r3 st4 => some (r3, st4))))
set_option maxHeartbeats 4000000 in
set_option maxRecDepth 100000 in
theorem tX5_pays (l : Launch) (D : va_G) (cy : Nat → ClassId) (ad : Nat → Nat) (fz : List FP) (hJ : (cads ad fz).Nodup) (sz : Nat) (a0 : Int32) (a1 : Int32) (st : St) (rr : Int32) (st' : St) (hf : fX5_pays a0 a1 fz st = some (rr, st')) : Met l yX5_pays (Cond.code yX5_pays cX5_pays 3 (some .int) :: TT) (rmD 3) (cPc D cy ad fz [.ref (ad 899), .int a0, .int a1] st sz) (cQi D cy ad fz rr st' sz) 0 0 (cA ad fz sz) := by
  refine c_meti (by decide) hJ (Nat.le_of_ble_eq_true rfl) (fun p e s m args below meth c ls E hx hb hr hlocks hown hT hD hN hl hP hS => ?_)
  replace hl : lv_has ls 3 [(0, .ref (ad 899)), (1, .int a0), (2, .int a1)] := hl
  unfold fX5_pays at hf
  refine lv_aload_n hx hb dX5_pays_0 rfl (lv_at hl 0 rfl) ?_
  refine lv_iload_n hx hb dX5_pays_1 rfl (lv_at hl 1 rfl) ?_
  refine lv_iload_n hx hb dX5_pays_2 rfl (lv_at hl 2 rfl) ?_
  refine lv_iconst (v := -1) hx hb dX5_pays_3 (by decide) ?_
  refine lv_iconst (v := -1) hx hb dX5_pays_4 (by decide) ?_
  refine lv_iconst (v := -1) hx hb dX5_pays_5 (by decide) ?_
  obtain ⟨r1, st2, hc, hf⟩ := bd_some hf
  refine c_callv (n := 5) (rest := []) E hN hP hS (fun sz => tX5_ask l D cy ad fz hJ sz a0 a1 (-1 : Int32) (-1 : Int32) (-1 : Int32) st r1 st2 hc) (va_recv E.2 hP (ci := 5) (q0 := 36) rfl rfl) (gV k_508 k_510 ks_2 k_10 k_511) qX5_ask ⟨Nat.le_of_ble_eq_true rfl, Nat.le_of_ble_eq_true rfl⟩ ⟨Nat.le_refl _, Nat.le_refl _⟩ rfl hl.1 rfl (Nat.le_of_ble_eq_true rfl) dX5_pays_6 (fun H locs hP hS => ?_)
  refine lv_aload_n hx hb dX5_pays_9 rfl (lv_at hl 0 rfl) ?_
  refine lv_sipush (v := 301) hx hb dX5_pays_10 (by decide) ?_
  refine lv_aload_n hx hb dX5_pays_13 rfl (lv_at hl 0 rfl) ?_
  refine cg_5_24_8 E hP dX5_pays_14 ?_
  refine cg_5_36_1 E hP dX5_pays_17 ?_
  refine lv_bipush (v := 12) hx hb dX5_pays_20 (by decide) ?_
  refine lv_iload_n hx hb dX5_pays_22 rfl (lv_at hl 2 rfl) ?_
  refine lv_iadd hx hb dX5_pays_23 ?_
  obtain ⟨hi, hf⟩ := gi_some hf
  refine cl_104 E hP hi dX5_pays_24 ?_
  refine lv_iconst (v := 0) hx hb dX5_pays_25 (by decide) ?_
  refine lv_bipush (v := 99) hx hb dX5_pays_26 (by decide) ?_
  obtain ⟨r3, st4, hc, hf⟩ := bd_some hf
  refine c_calli (n := 4) (rest := []) E hN hP hS (fun sz => tX5_told l D cy ad fz hJ sz (301 : Int32) (st2.2.2.1 104 ((12 : Int32) + a1).toNatClampNeg) (0 : Int32) (99 : Int32) st2 r3 st4 hc) (va_recv E.2 hP (ci := 5) (q0 := 36) rfl rfl) (gV k_512 k_514 ks_3 k_10 k_515) qX5_told ⟨Nat.le_of_ble_eq_true rfl, Nat.le_of_ble_eq_true rfl⟩ ⟨Nat.le_refl _, Nat.le_refl _⟩ rfl hl.1 rfl (Nat.le_of_ble_eq_true rfl) dX5_pays_28 (fun H locs hP hS => ?_)
  exact c_iret hx hb hr hlocks hf hP hS dX5_pays_31
def fX11_asks_b20 (fz : List FP) (st : St) : Option (Int32 × St) := some ((-1 : Int32), st)
def fX11_asks_b120 (fz : List FP) (w0 : Int32) (st : St) : Option (Int32 × St) := some (w0, st)
def fX11_asks_b66 (fz : List FP) (w0 : Int32) (st : St) : Option (Int32 × St) := some (w0, st)
def fX11_asks (a0 : Int32) (a1 : Int32) (a2 : Int32) (fz : List FP) (st : St) : Option (Int32 × St) := bd (fX6_has a0 fz st) (fun r1 st2 => if r1 = 0 then (fX11_asks_b20 fz st2) else (bs (fX11_within a2 (0 : Int32) (3 : Int32)) (fun r3 => if r3 = 0 then (fX11_asks_b20 fz st2) else (if (1 : Int32) < a2 then (bs (fX11_within a1 (1 : Int32) (99 : Int32)) (fun r4 => if r4 = 0 then (some ((-1 : Int32), st2)) else (if a2 = (2 : Int32) then (bd (fX5_turnsAt a0 a1 fz st2) (fun r8 st9 => fX11_asks_b120 fz r8 st9)) else (gi a0 6 (bd (fX5_turns a0 a1 (st2.2.2.1 201 a0.toNatClampNeg) fz st2) (fun r5 st6 => bs (fX11_bit r5) (fun r7 => fX11_asks_b120 fz r7 st6))))))) else (bs (fX11_within a1 (0 : Int32) (5 : Int32)) (fun r10 => if r10 = 0 then (some ((-1 : Int32), st2)) else (if a2 = 0 then (bd (fX5_pays a0 a1 fz st2) (fun r14 st15 => fX11_asks_b66 fz r14 st15)) else (bd (fX5_bars a0 a1 fz st2) (fun r11 st12 => bs (fX11_bit r11) (fun r13 => fX11_asks_b66 fz r13 st12))))))))))
set_option maxHeartbeats 4000000 in
set_option maxRecDepth 100000 in
theorem tX11_asks (l : Launch) (D : va_G) (cy : Nat → ClassId) (ad : Nat → Nat) (fz : List FP) (hJ : (cads ad fz).Nodup) (sz : Nat) (a0 : Int32) (a1 : Int32) (a2 : Int32) (st : St) (rr : Int32) (st' : St) (hf : fX11_asks a0 a1 a2 fz st = some (rr, st')) : Met l yX11_asks (Cond.code yX11_asks cX11_asks 4 (some .int) :: TT) (rmD 4) (cPc D cy ad fz [.ref (ad 99), .int a0, .int a1, .int a2] st sz) (cQi D cy ad fz rr st' sz) 0 0 (cA ad fz sz) := by
  refine c_meti (by decide) hJ (Nat.le_of_ble_eq_true rfl) (fun p e s m args below meth c ls E hx hb hr hlocks hown hT hD hN hl hP hS => ?_)
  replace hl : lv_has ls 4 [(0, .ref (ad 99)), (1, .int a0), (2, .int a1), (3, .int a2)] := hl
  unfold fX11_asks at hf
  have B20 : ∀ (st : St) (H : Heap) (locs : List Loc) (ls : Array Slot), fX11_asks_b20 fz st = some (rr, st') → lv_has ls 4 [] → va_P D classes (cx cy ad fz st) H → va_S (cA ad fz s.heap.size) s.heap H locs → cGi l 4 D cy ad fz rr st' p e s m args below meth c H locs (F0 m 20 ls []) := by
    intro st H locs ls hf hl hP hS
    unfold fX11_asks_b20 at hf
    refine lv_iconst (v := -1) hx hb dX11_asks_20 (by decide) ?_
    exact c_iret hx hb hr hlocks hf hP hS dX11_asks_21
  have B120 : ∀ (w0 : Int32) (st : St) (H : Heap) (locs : List Loc) (ls : Array Slot), fX11_asks_b120 fz w0 st = some (rr, st') → lv_has ls 4 [] → va_P D classes (cx cy ad fz st) H → va_S (cA ad fz s.heap.size) s.heap H locs → cGi l 4 D cy ad fz rr st' p e s m args below meth c H locs (F0 m 120 ls [.int w0]) := by
    intro w0 st H locs ls hf hl hP hS
    unfold fX11_asks_b120 at hf
    exact c_iret hx hb hr hlocks hf hP hS dX11_asks_120
  have B66 : ∀ (w0 : Int32) (st : St) (H : Heap) (locs : List Loc) (ls : Array Slot), fX11_asks_b66 fz w0 st = some (rr, st') → lv_has ls 4 [] → va_P D classes (cx cy ad fz st) H → va_S (cA ad fz s.heap.size) s.heap H locs → cGi l 4 D cy ad fz rr st' p e s m args below meth c H locs (F0 m 66 ls [.int w0]) := by
    intro w0 st H locs ls hf hl hP hS
    unfold fX11_asks_b66 at hf
    exact c_iret hx hb hr hlocks hf hP hS dX11_asks_66
  refine lv_aload_n hx hb dX11_asks_0 rfl (lv_at hl 0 rfl) ?_
  refine cg_11_10_0 E hP dX11_asks_1 ?_
  refine lv_iload_n hx hb dX11_asks_4 rfl (lv_at hl 1 rfl) ?_
  obtain ⟨r1, st2, hc, hf⟩ := bd_some hf
  refine c_calli (n := 1) (rest := []) E hN hP hS (fun sz => tX6_has l D cy ad fz hJ sz a0 st r1 st2 hc) (va_recv E.2 hP (ci := 6) (q0 := 3) rfl rfl) (gV k_477 k_478 k_479 k_2 k_480) qX6_has ⟨Nat.le_of_ble_eq_true rfl, Nat.le_of_ble_eq_true rfl⟩ ⟨Nat.le_refl _, Nat.le_refl _⟩ rfl hl.1 rfl (Nat.le_of_ble_eq_true rfl) dX11_asks_5 (fun H locs hP hS => ?_)
  refine lv_if_eq (tgt := 20) hx hb dX11_asks_8 (by decide) (fun hc => ?_) (fun hc => ?_)
  · replace hf := it_pos hc hf
    exact B20 st2 _ _ ls hf (lv_sub hl [] rfl) hP hS
  · replace hf := it_neg hc hf
    refine lv_iload_n hx hb dX11_asks_11 rfl (lv_at hl 3 rfl) ?_
    refine lv_iconst (v := 0) hx hb dX11_asks_12 (by decide) ?_
    refine lv_iconst (v := 3) hx hb dX11_asks_13 (by decide) ?_
    obtain ⟨r3, hc, hf⟩ := bs_some hf
    refine s_calli (n := 3) (rest := []) E.1 (tX11_within l _ a2 (0 : Int32) (3 : Int32) r3 hc) (gS k_472 k_458 k_1 k_459) qX11_within ⟨Nat.le_of_ble_eq_true rfl, Nat.le_of_ble_eq_true rfl⟩ ⟨Nat.le_refl _, Nat.le_refl _⟩ rfl hl.1 rfl (Nat.le_of_ble_eq_true rfl) dX11_asks_14 ?_
    refine lv_if_ne (tgt := 22) hx hb dX11_asks_17 (by decide) (fun hc => ?_) (fun hc => ?_)
    · replace hf := it_neg hc hf
      refine lv_iload_n hx hb dX11_asks_22 rfl (lv_at hl 3 rfl) ?_
      refine lv_iconst (v := 1) hx hb dX11_asks_23 (by decide) ?_
      refine lv_icmp_gt (tgt := 67) hx hb dX11_asks_24 (by decide) (fun hc => ?_) (fun hc => ?_)
      · replace hf := it_pos hc hf
        refine lv_iload_n hx hb dX11_asks_67 rfl (lv_at hl 2 rfl) ?_
        refine lv_iconst (v := 1) hx hb dX11_asks_68 (by decide) ?_
        refine lv_bipush (v := 99) hx hb dX11_asks_69 (by decide) ?_
        obtain ⟨r4, hc, hf⟩ := bs_some hf
        refine s_calli (n := 3) (rest := []) E.1 (tX11_within l _ a1 (1 : Int32) (99 : Int32) r4 hc) (gS k_472 k_458 k_1 k_459) qX11_within ⟨Nat.le_of_ble_eq_true rfl, Nat.le_of_ble_eq_true rfl⟩ ⟨Nat.le_refl _, Nat.le_refl _⟩ rfl hl.1 rfl (Nat.le_of_ble_eq_true rfl) dX11_asks_71 ?_
        refine lv_if_ne (tgt := 79) hx hb dX11_asks_74 (by decide) (fun hc => ?_) (fun hc => ?_)
        · replace hf := it_neg hc hf
          refine lv_iload_n hx hb dX11_asks_79 rfl (lv_at hl 3 rfl) ?_
          refine lv_iconst (v := 2) hx hb dX11_asks_80 (by decide) ?_
          refine lv_icmp_ne (tgt := 96) hx hb dX11_asks_81 (by decide) (fun hc => ?_) (fun hc => ?_)
          · replace hf := it_neg hc hf
            refine lv_aload_n hx hb dX11_asks_96 rfl (lv_at hl 0 rfl) ?_
            refine cg_11_44_0 E hP dX11_asks_97 ?_
            refine lv_iload_n hx hb dX11_asks_100 rfl (lv_at hl 1 rfl) ?_
            refine lv_iload_n hx hb dX11_asks_101 rfl (lv_at hl 2 rfl) ?_
            refine lv_aload_n hx hb dX11_asks_102 rfl (lv_at hl 0 rfl) ?_
            refine cg_11_10_0 E hP dX11_asks_103 ?_
            refine cg_11_101_1 E hP dX11_asks_106 ?_
            refine cg_11_113_2 E hP dX11_asks_109 ?_
            refine lv_iload_n hx hb dX11_asks_112 rfl (lv_at hl 1 rfl) ?_
            obtain ⟨hi, hf⟩ := gi_some hf
            refine cl_201 E hP hi dX11_asks_113 ?_
            obtain ⟨r5, st6, hc, hf⟩ := bd_some hf
            refine c_calli (n := 3) (rest := []) E hN hP hS (fun sz => tX5_turns l D cy ad fz hJ sz a0 a1 (st2.2.2.1 201 a0.toNatClampNeg) st2 r5 st6 hc) (va_recv E.2 hP (ci := 5) (q0 := 36) rfl rfl) (gV k_551 k_552 k_553 k_10 k_554) qX5_turns ⟨Nat.le_of_ble_eq_true rfl, Nat.le_of_ble_eq_true rfl⟩ ⟨Nat.le_refl _, Nat.le_refl _⟩ rfl hl.1 rfl (Nat.le_of_ble_eq_true rfl) dX11_asks_114 (fun H locs hP hS => ?_)
            obtain ⟨r7, hc, hf⟩ := bs_some hf
            refine s_calli (n := 1) (rest := []) E.1 (tX11_bit l _ r5 r7 hc) (gS k_543 k_544 k_1 k_545) qX11_bit ⟨Nat.le_of_ble_eq_true rfl, Nat.le_of_ble_eq_true rfl⟩ ⟨Nat.le_refl _, Nat.le_refl _⟩ rfl hl.1 rfl (Nat.le_of_ble_eq_true rfl) dX11_asks_117 ?_
            exact B120 r7 st6 _ _ ls hf (lv_sub hl [] rfl) hP hS
          · replace hf := it_pos hc hf
            refine lv_aload_n hx hb dX11_asks_84 rfl (lv_at hl 0 rfl) ?_
            refine cg_11_44_0 E hP dX11_asks_85 ?_
            refine lv_iload_n hx hb dX11_asks_88 rfl (lv_at hl 1 rfl) ?_
            refine lv_iload_n hx hb dX11_asks_89 rfl (lv_at hl 2 rfl) ?_
            obtain ⟨r8, st9, hc, hf⟩ := bd_some hf
            refine c_calli (n := 2) (rest := []) E hN hP hS (fun sz => tX5_turnsAt l D cy ad fz hJ sz a0 a1 st2 r8 st9 hc) (va_recv E.2 hP (ci := 5) (q0 := 36) rfl rfl) (gV k_546 k_547 k_548 k_10 k_549) qX5_turnsAt ⟨Nat.le_of_ble_eq_true rfl, Nat.le_of_ble_eq_true rfl⟩ ⟨Nat.le_refl _, Nat.le_refl _⟩ rfl hl.1 rfl (Nat.le_of_ble_eq_true rfl) dX11_asks_90 (fun H locs hP hS => ?_)
            refine lv_goto (tgt := 120) hx hb dX11_asks_93 (by decide) ?_
            exact B120 r8 st9 _ _ ls hf (lv_sub hl [] rfl) hP hS
        · replace hf := it_pos hc hf
          refine lv_iconst (v := -1) hx hb dX11_asks_77 (by decide) ?_
          exact c_iret hx hb hr hlocks hf hP hS dX11_asks_78
      · replace hf := it_neg hc hf
        refine lv_iload_n hx hb dX11_asks_27 rfl (lv_at hl 2 rfl) ?_
        refine lv_iconst (v := 0) hx hb dX11_asks_28 (by decide) ?_
        refine lv_iconst (v := 5) hx hb dX11_asks_29 (by decide) ?_
        obtain ⟨r10, hc, hf⟩ := bs_some hf
        refine s_calli (n := 3) (rest := []) E.1 (tX11_within l _ a1 (0 : Int32) (5 : Int32) r10 hc) (gS k_472 k_458 k_1 k_459) qX11_within ⟨Nat.le_of_ble_eq_true rfl, Nat.le_of_ble_eq_true rfl⟩ ⟨Nat.le_refl _, Nat.le_refl _⟩ rfl hl.1 rfl (Nat.le_of_ble_eq_true rfl) dX11_asks_30 ?_
        refine lv_if_ne (tgt := 38) hx hb dX11_asks_33 (by decide) (fun hc => ?_) (fun hc => ?_)
        · replace hf := it_neg hc hf
          refine lv_iload_n hx hb dX11_asks_38 rfl (lv_at hl 3 rfl) ?_
          refine lv_if_ne (tgt := 54) hx hb dX11_asks_39 (by decide) (fun hc => ?_) (fun hc => ?_)
          · replace hf := it_neg hc hf
            refine lv_aload_n hx hb dX11_asks_54 rfl (lv_at hl 0 rfl) ?_
            refine cg_11_44_0 E hP dX11_asks_55 ?_
            refine lv_iload_n hx hb dX11_asks_58 rfl (lv_at hl 1 rfl) ?_
            refine lv_iload_n hx hb dX11_asks_59 rfl (lv_at hl 2 rfl) ?_
            obtain ⟨r11, st12, hc, hf⟩ := bd_some hf
            refine c_calli (n := 2) (rest := []) E hN hP hS (fun sz => tX5_bars l D cy ad fz hJ sz a0 a1 st2 r11 st12 hc) (va_recv E.2 hP (ci := 5) (q0 := 36) rfl rfl) (gV k_539 k_540 k_541 k_10 k_542) qX5_bars ⟨Nat.le_of_ble_eq_true rfl, Nat.le_of_ble_eq_true rfl⟩ ⟨Nat.le_refl _, Nat.le_refl _⟩ rfl hl.1 rfl (Nat.le_of_ble_eq_true rfl) dX11_asks_60 (fun H locs hP hS => ?_)
            obtain ⟨r13, hc, hf⟩ := bs_some hf
            refine s_calli (n := 1) (rest := []) E.1 (tX11_bit l _ r11 r13 hc) (gS k_543 k_544 k_1 k_545) qX11_bit ⟨Nat.le_of_ble_eq_true rfl, Nat.le_of_ble_eq_true rfl⟩ ⟨Nat.le_refl _, Nat.le_refl _⟩ rfl hl.1 rfl (Nat.le_of_ble_eq_true rfl) dX11_asks_63 ?_
            exact B66 r13 st12 _ _ ls hf (lv_sub hl [] rfl) hP hS
          · replace hf := it_pos hc hf
            refine lv_aload_n hx hb dX11_asks_42 rfl (lv_at hl 0 rfl) ?_
            refine cg_11_44_0 E hP dX11_asks_43 ?_
            refine lv_iload_n hx hb dX11_asks_46 rfl (lv_at hl 1 rfl) ?_
            refine lv_iload_n hx hb dX11_asks_47 rfl (lv_at hl 2 rfl) ?_
            obtain ⟨r14, st15, hc, hf⟩ := bd_some hf
            refine c_calli (n := 2) (rest := []) E hN hP hS (fun sz => tX5_pays l D cy ad fz hJ sz a0 a1 st2 r14 st15 hc) (va_recv E.2 hP (ci := 5) (q0 := 36) rfl rfl) (gV k_504 k_505 k_506 k_10 k_507) qX5_pays ⟨Nat.le_of_ble_eq_true rfl, Nat.le_of_ble_eq_true rfl⟩ ⟨Nat.le_refl _, Nat.le_refl _⟩ rfl hl.1 rfl (Nat.le_of_ble_eq_true rfl) dX11_asks_48 (fun H locs hP hS => ?_)
            refine lv_goto (tgt := 66) hx hb dX11_asks_51 (by decide) ?_
            exact B66 r14 st15 _ _ ls hf (lv_sub hl [] rfl) hP hS
        · replace hf := it_pos hc hf
          refine lv_iconst (v := -1) hx hb dX11_asks_36 (by decide) ?_
          exact c_iret hx hb hr hlocks hf hP hS dX11_asks_37
    · replace hf := it_pos hc hf
      exact B20 st2 _ _ ls hf (lv_sub hl [] rfl) hP hS
def fX6_term_b30 (fz : List FP) (w0 : Int32) (st : St) : Option (Int32 × St) := some (w0, st)
def fX6_term (a0 : Int32) (fz : List FP) (st : St) : Option (Int32 × St) := if a0 = 0 then (fX6_term_b30 fz (st.1 204) st) else (if a0 = (1 : Int32) then (fX6_term_b30 fz (st.1 109) st) else (fX6_term_b30 fz (st.1 110) st))
set_option maxHeartbeats 4000000 in
set_option maxRecDepth 100000 in
theorem tX6_term (l : Launch) (D : va_G) (cy : Nat → ClassId) (ad : Nat → Nat) (fz : List FP) (hJ : (cads ad fz).Nodup) (sz : Nat) (a0 : Int32) (st : St) (rr : Int32) (st' : St) (hf : fX6_term a0 fz st = some (rr, st')) : Met l yX6_term (Cond.code yX6_term cX6_term 2 (some .int) :: TT) (rmD 0) (cPc D cy ad fz [.ref (ad 199), .int a0] st sz) (cQi D cy ad fz rr st' sz) 0 0 (cA ad fz sz) := by
  refine c_meti (by decide) hJ (Nat.le_of_ble_eq_true rfl) (fun p e s m args below meth c ls E hx hb hr hlocks hown hT hD hN hl hP hS => ?_)
  replace hl : lv_has ls 2 [(0, .ref (ad 199)), (1, .int a0)] := hl
  unfold fX6_term at hf
  have B30 : ∀ (w0 : Int32) (st : St) (H : Heap) (locs : List Loc) (ls : Array Slot), fX6_term_b30 fz w0 st = some (rr, st') → lv_has ls 2 [] → va_P D classes (cx cy ad fz st) H → va_S (cA ad fz s.heap.size) s.heap H locs → cGi l 0 D cy ad fz rr st' p e s m args below meth c H locs (F0 m 30 ls [.int w0]) := by
    intro w0 st H locs ls hf hl hP hS
    unfold fX6_term_b30 at hf
    exact c_iret hx hb hr hlocks hf hP hS dX6_term_30
  refine lv_iload_n hx hb dX6_term_0 rfl (lv_at hl 1 rfl) ?_
  refine lv_if_ne (tgt := 14) hx hb dX6_term_1 (by decide) (fun hc => ?_) (fun hc => ?_)
  · replace hf := it_neg hc hf
    refine lv_iload_n hx hb dX6_term_14 rfl (lv_at hl 1 rfl) ?_
    refine lv_iconst (v := 1) hx hb dX6_term_15 (by decide) ?_
    refine lv_icmp_ne (tgt := 26) hx hb dX6_term_16 (by decide) (fun hc => ?_) (fun hc => ?_)
    · replace hf := it_neg hc hf
      refine lv_aload_n hx hb dX6_term_26 rfl (lv_at hl 0 rfl) ?_
      refine cg_6_89_1 E hP dX6_term_27 ?_
      exact B30 (st.1 110) st _ _ ls hf (lv_sub hl [] rfl) hP hS
    · replace hf := it_pos hc hf
      refine lv_aload_n hx hb dX6_term_19 rfl (lv_at hl 0 rfl) ?_
      refine cg_6_51_1 E hP dX6_term_20 ?_
      refine lv_goto (tgt := 30) hx hb dX6_term_23 (by decide) ?_
      exact B30 (st.1 109) st _ _ ls hf (lv_sub hl [] rfl) hP hS
  · replace hf := it_pos hc hf
    refine lv_aload_n hx hb dX6_term_4 rfl (lv_at hl 0 rfl) ?_
    refine cg_6_12_1 E hP dX6_term_5 ?_
    refine cg_6_108_2 E hP dX6_term_8 ?_
    refine lv_goto (tgt := 30) hx hb dX6_term_11 (by decide) ?_
    exact B30 (st.1 204) st _ _ ls hf (lv_sub hl [] rfl) hP hS
def fX6_setTerm_b33 (fz : List FP) (st : St) : Option (Unit × St) := some ((), st)
def fX6_setTerm (a0 : Int32) (a1 : Int32) (fz : List FP) (st : St) : Option (Unit × St) := if a0 = 0 then (lt (sI st 204 a1) (fun st3 => fX6_setTerm_b33 fz st3)) else (if a0 = (1 : Int32) then (lt (sI st 109 a1) (fun st2 => fX6_setTerm_b33 fz st2)) else (lt (sI st 110 a1) (fun st1 => fX6_setTerm_b33 fz st1)))
set_option maxHeartbeats 4000000 in
set_option maxRecDepth 100000 in
theorem tX6_setTerm (l : Launch) (D : va_G) (cy : Nat → ClassId) (ad : Nat → Nat) (fz : List FP) (hJ : (cads ad fz).Nodup) (sz : Nat) (a0 : Int32) (a1 : Int32) (st : St) (rr : Unit) (st' : St) (hf : fX6_setTerm a0 a1 fz st = some (rr, st')) : Met l yX6_setTerm (Cond.code yX6_setTerm cX6_setTerm 3 none :: TT) (rmD 0) (cPc D cy ad fz [.ref (ad 199), .int a0, .int a1] st sz) (cQv D cy ad fz rr st' sz) 0 0 (cA ad fz sz) := by
  refine c_metv (by decide) hJ (Nat.le_of_ble_eq_true rfl) (fun p e s m args below meth c ls E hx hb hr hlocks hown hT hD hN hl hP hS => ?_)
  replace hl : lv_has ls 3 [(0, .ref (ad 199)), (1, .int a0), (2, .int a1)] := hl
  unfold fX6_setTerm at hf
  have B33 : ∀ (st : St) (H : Heap) (locs : List Loc) (ls : Array Slot), fX6_setTerm_b33 fz st = some (rr, st') → lv_has ls 3 [] → va_P D classes (cx cy ad fz st) H → va_S (cA ad fz s.heap.size) s.heap H locs → cGv l 0 D cy ad fz rr st' p e s m args below meth c H locs (F0 m 33 ls []) := by
    intro st H locs ls hf hl hP hS
    unfold fX6_setTerm_b33 at hf
    exact c_vret hx hb hr hlocks hf hP hS dX6_setTerm_33
  refine lv_iload_n hx hb dX6_setTerm_0 rfl (lv_at hl 1 rfl) ?_
  refine lv_if_ne (tgt := 15) hx hb dX6_setTerm_1 (by decide) (fun hc => ?_) (fun hc => ?_)
  · replace hf := it_neg hc hf
    refine lv_iload_n hx hb dX6_setTerm_15 rfl (lv_at hl 1 rfl) ?_
    refine lv_iconst (v := 1) hx hb dX6_setTerm_16 (by decide) ?_
    refine lv_icmp_ne (tgt := 28) hx hb dX6_setTerm_17 (by decide) (fun hc => ?_) (fun hc => ?_)
    · replace hf := it_neg hc hf
      refine lv_aload_n hx hb dX6_setTerm_28 rfl (lv_at hl 0 rfl) ?_
      refine lv_iload_n hx hb dX6_setTerm_29 rfl (lv_at hl 2 rfl) ?_
      refine cp_6_89_1 E hD hP hS dX6_setTerm_30 (fun st1 H locs ex hP hS => ?_)
      replace hf := lt_at ex hf; clear ex
      exact B33 st1 _ _ ls hf (lv_sub hl [] rfl) hP hS
    · replace hf := it_pos hc hf
      refine lv_aload_n hx hb dX6_setTerm_20 rfl (lv_at hl 0 rfl) ?_
      refine lv_iload_n hx hb dX6_setTerm_21 rfl (lv_at hl 2 rfl) ?_
      refine cp_6_51_1 E hD hP hS dX6_setTerm_22 (fun st2 H locs ex hP hS => ?_)
      replace hf := lt_at ex hf; clear ex
      refine lv_goto (tgt := 33) hx hb dX6_setTerm_25 (by decide) ?_
      exact B33 st2 _ _ ls hf (lv_sub hl [] rfl) hP hS
  · replace hf := it_pos hc hf
    refine lv_aload_n hx hb dX6_setTerm_4 rfl (lv_at hl 0 rfl) ?_
    refine cg_6_12_1 E hP dX6_setTerm_5 ?_
    refine lv_iload_n hx hb dX6_setTerm_8 rfl (lv_at hl 2 rfl) ?_
    refine cp_6_108_2 E hD hP hS dX6_setTerm_9 (fun st3 H locs ex hP hS => ?_)
    replace hf := lt_at ex hf; clear ex
    refine lv_goto (tgt := 33) hx hb dX6_setTerm_12 (by decide) ?_
    exact B33 st3 _ _ ls hf (lv_sub hl [] rfl) hP hS
def fX11_terms_b42 (fz : List FP) (st : St) : Option (Int32 × St) := bd (fX11_refuse (-1 : Int32) fz st) (fun r1 st2 => some (r1, st2))
def fX11_terms_b23 (fz : List FP) (v1 : Int32) (v2 : Int32) (w0 : Int32) (st : St) : Option (Int32 × St) := bs (fX11_within v1 (0 : Int32) (2 : Int32)) (fun r3 => if r3 = 0 then (fX11_terms_b42 fz st) else (bs (fX11_within v2 (0 : Int32) w0) (fun r4 => if r4 = 0 then (fX11_terms_b42 fz st) else (bd (fX6_term v1 fz st) (fun r5 st6 => bd (fX6_setTerm v1 v2 fz st6) (fun r7 st8 => bd (fX2_close fz st8) (fun r9 st10 => bd (fX11_settle r5 fz st10) (fun r11 st12 => some (r11, st12)))))))))
def fX11_terms (a0 : Int32) (a1 : Int32) (fz : List FP) (st : St) : Option (Int32 × St) := if a0 = 0 then (fX11_terms_b23 fz a0 a1 (999 : Int32) st) else (if a0 = (1 : Int32) then (fX11_terms_b23 fz a0 a1 (1000 : Int32) st) else (fX11_terms_b23 fz a0 a1 (9 : Int32) st))
set_option maxHeartbeats 4000000 in
set_option maxRecDepth 100000 in
theorem tX11_terms (l : Launch) (D : va_G) (cy : Nat → ClassId) (ad : Nat → Nat) (fz : List FP) (hJ : (cads ad fz).Nodup) (sz : Nat) (a0 : Int32) (a1 : Int32) (st : St) (rr : Int32) (st' : St) (hf : fX11_terms a0 a1 fz st = some (rr, st')) : Met l yX11_terms (Cond.code yX11_terms cX11_terms 5 (some .int) :: TT) (rmD 3) (cPc D cy ad fz [.ref (ad 99), .int a0, .int a1] st sz) (cQi D cy ad fz rr st' sz) 0 0 (cA ad fz sz) := by
  refine c_meti (by decide) hJ (Nat.le_of_ble_eq_true rfl) (fun p e s m args below meth c ls E hx hb hr hlocks hown hT hD hN hl hP hS => ?_)
  replace hl : lv_has ls 5 [(0, .ref (ad 99)), (1, .int a0), (2, .int a1)] := hl
  unfold fX11_terms at hf
  have B42 : ∀ (st : St) (H : Heap) (locs : List Loc) (ls : Array Slot), fX11_terms_b42 fz st = some (rr, st') → lv_has ls 5 [(0, .ref (ad 99))] → va_P D classes (cx cy ad fz st) H → va_S (cA ad fz s.heap.size) s.heap H locs → cGi l 3 D cy ad fz rr st' p e s m args below meth c H locs (F0 m 42 ls []) := by
    intro st H locs ls hf hl hP hS
    unfold fX11_terms_b42 at hf
    refine lv_aload_n hx hb dX11_terms_42 rfl (lv_at hl 0 rfl) ?_
    refine lv_iconst (v := -1) hx hb dX11_terms_43 (by decide) ?_
    obtain ⟨r1, st2, hc, hf⟩ := bd_some hf
    refine c_calli (n := 1) (rest := []) E hN hP hS (fun sz => tX11_refuse l D cy ad fz hJ sz (-1 : Int32) st r1 st2 hc) (va_recv E.2 hP (ci := 11) (q0 := 0) rfl rfl) (gV k_468 k_470 ks_1 k_1 k_471) qX11_refuse ⟨Nat.le_of_ble_eq_true rfl, Nat.le_of_ble_eq_true rfl⟩ ⟨Nat.le_refl _, Nat.le_refl _⟩ rfl hl.1 rfl (Nat.le_of_ble_eq_true rfl) dX11_terms_44 (fun H locs hP hS => ?_)
    exact c_iret hx hb hr hlocks hf hP hS dX11_terms_47
  have B23 : ∀ (v1 : Int32) (v2 : Int32) (w0 : Int32) (st : St) (H : Heap) (locs : List Loc) (ls : Array Slot), fX11_terms_b23 fz v1 v2 w0 st = some (rr, st') → lv_has ls 5 [(0, .ref (ad 99)), (1, .int v1), (2, .int v2)] → va_P D classes (cx cy ad fz st) H → va_S (cA ad fz s.heap.size) s.heap H locs → cGi l 3 D cy ad fz rr st' p e s m args below meth c H locs (F0 m 23 ls [.int w0]) := by
    intro v1 v2 w0 st H locs ls hf hl hP hS
    unfold fX11_terms_b23 at hf
    refine lv_istore_n (lv' := [(3, .int w0), (0, .ref (ad 99)), (1, .int v1), (2, .int v2)]) hx hb dX11_terms_23 rfl hl (by decide) rfl (fun ls hl => ?_)
    refine lv_iload_n hx hb dX11_terms_24 rfl (lv_at hl 2 rfl) ?_
    refine lv_iconst (v := 0) hx hb dX11_terms_25 (by decide) ?_
    refine lv_iconst (v := 2) hx hb dX11_terms_26 (by decide) ?_
    obtain ⟨r3, hc, hf⟩ := bs_some hf
    refine s_calli (n := 3) (rest := []) E.1 (tX11_within l _ v1 (0 : Int32) (2 : Int32) r3 hc) (gS k_472 k_458 k_1 k_459) qX11_within ⟨Nat.le_of_ble_eq_true rfl, Nat.le_of_ble_eq_true rfl⟩ ⟨Nat.le_refl _, Nat.le_refl _⟩ rfl hl.1 rfl (Nat.le_of_ble_eq_true rfl) dX11_terms_27 ?_
    refine lv_if_eq (tgt := 42) hx hb dX11_terms_30 (by decide) (fun hc => ?_) (fun hc => ?_)
    · replace hf := it_pos hc hf
      exact B42 st _ _ ls hf (lv_sub hl [1] rfl) hP hS
    · replace hf := it_neg hc hf
      refine lv_iload_n hx hb dX11_terms_33 rfl (lv_at hl 3 rfl) ?_
      refine lv_iconst (v := 0) hx hb dX11_terms_34 (by decide) ?_
      refine lv_iload_n hx hb dX11_terms_35 rfl (lv_at hl 0 rfl) ?_
      obtain ⟨r4, hc, hf⟩ := bs_some hf
      refine s_calli (n := 3) (rest := []) E.1 (tX11_within l _ v2 (0 : Int32) w0 r4 hc) (gS k_472 k_458 k_1 k_459) qX11_within ⟨Nat.le_of_ble_eq_true rfl, Nat.le_of_ble_eq_true rfl⟩ ⟨Nat.le_refl _, Nat.le_refl _⟩ rfl hl.1 rfl (Nat.le_of_ble_eq_true rfl) dX11_terms_36 ?_
      refine lv_if_ne (tgt := 48) hx hb dX11_terms_39 (by decide) (fun hc => ?_) (fun hc => ?_)
      · replace hf := it_neg hc hf
        refine lv_aload_n hx hb dX11_terms_48 rfl (lv_at hl 1 rfl) ?_
        refine cg_11_10_0 E hP dX11_terms_49 ?_
        refine lv_iload_n hx hb dX11_terms_52 rfl (lv_at hl 2 rfl) ?_
        obtain ⟨r5, st6, hc, hf⟩ := bd_some hf
        refine c_calli (n := 1) (rest := []) E hN hP hS (fun sz => tX6_term l D cy ad fz hJ sz v1 st r5 st6 hc) (va_recv E.2 hP (ci := 6) (q0 := 3) rfl rfl) (gV k_559 k_560 k_561 k_2 k_562) qX6_term ⟨Nat.le_of_ble_eq_true rfl, Nat.le_of_ble_eq_true rfl⟩ ⟨Nat.le_refl _, Nat.le_refl _⟩ rfl hl.1 rfl (Nat.le_of_ble_eq_true rfl) dX11_terms_53 (fun H locs hP hS => ?_)
        refine lv_istore (lv' := [(4, .int r5), (3, .int w0), (0, .ref (ad 99)), (1, .int v1), (2, .int v2)]) hx hb dX11_terms_56 hl (by decide) rfl (fun ls hl => ?_)
        refine lv_aload_n hx hb dX11_terms_58 rfl (lv_at hl 2 rfl) ?_
        refine cg_11_10_0 E hP dX11_terms_59 ?_
        refine lv_iload_n hx hb dX11_terms_62 rfl (lv_at hl 3 rfl) ?_
        refine lv_iload_n hx hb dX11_terms_63 rfl (lv_at hl 4 rfl) ?_
        obtain ⟨r7, st8, hc, hf⟩ := bd_some hf
        refine c_callv (n := 2) (rest := []) E hN hP hS (fun sz => tX6_setTerm l D cy ad fz hJ sz v1 v2 st6 r7 st8 hc) (va_recv E.2 hP (ci := 6) (q0 := 3) rfl rfl) (gV k_563 k_564 k_565 k_2 k_566) qX6_setTerm ⟨Nat.le_of_ble_eq_true rfl, Nat.le_of_ble_eq_true rfl⟩ ⟨Nat.le_refl _, Nat.le_refl _⟩ rfl hl.1 rfl (Nat.le_of_ble_eq_true rfl) dX11_terms_64 (fun H locs hP hS => ?_)
        refine lv_aload_n hx hb dX11_terms_67 rfl (lv_at hl 2 rfl) ?_
        refine cg_11_53_0 E hP dX11_terms_68 ?_
        obtain ⟨r9, st10, hc, hf⟩ := bd_some hf
        refine c_callv (n := 0) (rest := []) E hN hP hS (fun sz => tX2_close l D cy ad fz hJ sz st8 r9 st10 hc) (va_recv E.2 hP (ci := 2) (q0 := 40) rfl rfl) (gV k_460 k_461 k_462 k_11 k_463) qX2_close ⟨Nat.le_of_ble_eq_true rfl, Nat.le_of_ble_eq_true rfl⟩ ⟨Nat.le_refl _, Nat.le_refl _⟩ rfl hl.1 rfl (Nat.le_of_ble_eq_true rfl) dX11_terms_71 (fun H locs hP hS => ?_)
        refine lv_aload_n hx hb dX11_terms_74 rfl (lv_at hl 2 rfl) ?_
        refine lv_iload hx hb dX11_terms_75 (lv_at hl 0 rfl) ?_
        obtain ⟨r11, st12, hc, hf⟩ := bd_some hf
        refine c_calli (n := 1) (rest := []) E hN hP hS (fun sz => tX11_settle l D cy ad fz hJ sz r5 st10 r11 st12 hc) (va_recv E.2 hP (ci := 11) (q0 := 0) rfl rfl) (gV k_464 k_466 ks_0 k_1 k_467) qX11_settle ⟨Nat.le_of_ble_eq_true rfl, Nat.le_of_ble_eq_true rfl⟩ ⟨Nat.le_refl _, Nat.le_refl _⟩ rfl hl.1 rfl (Nat.le_of_ble_eq_true rfl) dX11_terms_77 (fun H locs hP hS => ?_)
        exact c_iret hx hb hr hlocks hf hP hS dX11_terms_80
      · replace hf := it_pos hc hf
        exact B42 st _ _ ls hf (lv_sub hl [1] rfl) hP hS
  refine lv_iload_n hx hb dX11_terms_0 rfl (lv_at hl 1 rfl) ?_
  refine lv_if_ne (tgt := 10) hx hb dX11_terms_1 (by decide) (fun hc => ?_) (fun hc => ?_)
  · replace hf := it_neg hc hf
    refine lv_iload_n hx hb dX11_terms_10 rfl (lv_at hl 1 rfl) ?_
    refine lv_iconst (v := 1) hx hb dX11_terms_11 (by decide) ?_
    refine lv_icmp_ne (tgt := 21) hx hb dX11_terms_12 (by decide) (fun hc => ?_) (fun hc => ?_)
    · replace hf := it_neg hc hf
      refine lv_bipush (v := 9) hx hb dX11_terms_21 (by decide) ?_
      exact B23 a0 a1 (9 : Int32) st _ _ ls hf hl hP hS
    · replace hf := it_pos hc hf
      refine lv_sipush (v := 1000) hx hb dX11_terms_15 (by decide) ?_
      refine lv_goto (tgt := 23) hx hb dX11_terms_18 (by decide) ?_
      exact B23 a0 a1 (1000 : Int32) st _ _ ls hf hl hP hS
  · replace hf := it_pos hc hf
    refine lv_sipush (v := 999) hx hb dX11_terms_4 (by decide) ?_
    refine lv_goto (tgt := 23) hx hb dX11_terms_7 (by decide) ?_
    exact B23 a0 a1 (999 : Int32) st _ _ ls hf hl hP hS
def fX10_append_b49 (fz : List FP) (st : St) : Option (Unit × St) := some ((), st)
def fX10_append_b3 (fz : List FP) (k3 : Int32 → Int32 → St → Option (Unit × St)) (v1 : Int32) (v2 : Int32) (st : St) : Option (Unit × St) := if v2 < 0 then (fX10_append_b49 fz st) else (if (400 : Int32) ≤ (st.1 504) then (fX10_append_b49 fz st) else (gi (st.1 504) 400 (lt (sA st 500 (upd (st.2.2.1 500) (st.1 504).toNatClampNeg ((v1 >>> (v2 &&& 31)) &&& (255 : Int32)))) (fun st1 => lt (sI st1 504 ((st1.1 504) + (1 : Int32))) (fun st2 => lt (v2 + (-8 : Int32)) (fun x3 => k3 v1 x3 st2))))))
def fX10_append (a0 : Int32) (fz : List FP) (st : St) : Option (Unit × St) := lp (fun _ _ _ => none) (fX10_append_b3 fz) 6000 a0 (24 : Int32) st
set_option maxHeartbeats 4000000 in
set_option maxRecDepth 100000 in
theorem tX10_append (l : Launch) (D : va_G) (cy : Nat → ClassId) (ad : Nat → Nat) (fz : List FP) (hJ : (cads ad fz).Nodup) (sz : Nat) (a0 : Int32) (st : St) (rr : Unit) (st' : St) (hf : fX10_append a0 fz st = some (rr, st')) : Met l yX10_append (Cond.code yX10_append cX10_append 3 none :: TT) (rmD 0) (cPc D cy ad fz [.ref (ad 599), .int a0] st sz) (cQv D cy ad fz rr st' sz) 0 0 (cA ad fz sz) := by
  refine c_metv (by decide) hJ (Nat.le_of_ble_eq_true rfl) (fun p e s m args below meth c ls E hx hb hr hlocks hown hT hD hN hl hP hS => ?_)
  replace hl : lv_has ls 3 [(0, .ref (ad 599)), (1, .int a0)] := hl
  unfold fX10_append at hf
  have B49 : ∀ (st : St) (H : Heap) (locs : List Loc) (ls : Array Slot), fX10_append_b49 fz st = some (rr, st') → lv_has ls 3 [] → va_P D classes (cx cy ad fz st) H → va_S (cA ad fz s.heap.size) s.heap H locs → cGv l 0 D cy ad fz rr st' p e s m args below meth c H locs (F0 m 49 ls []) := by
    intro st H locs ls hf hl hP hS
    unfold fX10_append_b49 at hf
    exact c_vret hx hb hr hlocks hf hP hS dX10_append_49
  have L3 : ∀ (n : Nat) (v1 : Int32) (v2 : Int32) (st : St) (H : Heap) (locs : List Loc) (ls : Array Slot), lp (fun _ _ _ => none) (fX10_append_b3 fz) n v1 v2 st = some (rr, st') → lv_has ls 3 [(0, .ref (ad 599)), (1, .int v1), (2, .int v2)] → va_P D classes (cx cy ad fz st) H → va_S (cA ad fz s.heap.size) s.heap H locs → cGv l 0 D cy ad fz rr st' p e s m args below meth c H locs (F0 m 3 ls []) := by
    intro n
    induction n with
    | zero => intro v1 v2 st H locs ls hf; exact absurd hf (fun h => by cases h)
    | succ n K3 =>
      intro v1 v2 st H locs ls hf hl hP hS
      replace hf : fX10_append_b3 fz (lp (fun _ _ _ => none) (fX10_append_b3 fz) n) v1 v2 st = some (rr, st') := hf
      generalize lp (fun _ _ _ => none) (fX10_append_b3 fz) n = k3 at hf K3
      unfold fX10_append_b3 at hf
      refine lv_iload_n hx hb dX10_append_3 rfl (lv_at hl 2 rfl) ?_
      refine lv_if_lt (tgt := 49) hx hb dX10_append_4 (by decide) (fun hc => ?_) (fun hc => ?_)
      · replace hf := it_pos hc hf
        exact B49 st _ _ ls hf (lv_sub hl [] rfl) hP hS
      · replace hf := it_neg hc hf
        refine lv_aload_n hx hb dX10_append_7 rfl (lv_at hl 0 rfl) ?_
        refine cg_10_22_5 E hP dX10_append_8 ?_
        refine lv_sipush (v := 400) hx hb dX10_append_11 (by decide) ?_
        refine lv_icmp_ge (tgt := 49) hx hb dX10_append_14 (by decide) (fun hc => ?_) (fun hc => ?_)
        · replace hf := it_pos hc hf
          exact B49 st _ _ ls hf (lv_sub hl [] rfl) hP hS
        · replace hf := it_neg hc hf
          refine lv_aload_n hx hb dX10_append_17 rfl (lv_at hl 0 rfl) ?_
          refine cg_10_9_5 E hP dX10_append_18 ?_
          refine lv_aload_n hx hb dX10_append_21 rfl (lv_at hl 0 rfl) ?_
          refine cg_10_22_5 E hP dX10_append_22 ?_
          refine lv_iload_n hx hb dX10_append_25 rfl (lv_at hl 1 rfl) ?_
          refine lv_iload_n hx hb dX10_append_26 rfl (lv_at hl 2 rfl) ?_
          refine lv_ishr hx hb dX10_append_27 ?_
          refine lv_sipush (v := 255) hx hb dX10_append_28 (by decide) ?_
          refine lv_iand hx hb dX10_append_31 ?_
          obtain ⟨hi, hf⟩ := gi_some hf
          refine cs_500 E hD hP hS hi dX10_append_32 (fun st1 H locs ex hP hS => ?_)
          replace hf := lt_at ex hf; clear ex
          refine lv_aload_n hx hb dX10_append_33 rfl (lv_at hl 0 rfl) ?_
          refine lv_dup hx hb dX10_append_34 rfl ?_
          refine cg_10_22_5 E hP dX10_append_35 ?_
          refine lv_iconst (v := 1) hx hb dX10_append_38 (by decide) ?_
          refine lv_iadd hx hb dX10_append_39 ?_
          refine cp_10_22_5 E hD hP hS dX10_append_40 (fun st2 H locs ex hP hS => ?_)
          replace hf := lt_at ex hf; clear ex
          obtain ⟨x3, ex⟩ : ∃ y : Int32, y = v2 + (-8 : Int32) := ⟨_, rfl⟩
          replace hf := lt_at ex hf
          refine lv_iinc (v := x3) (lv' := [(2, .int x3), (0, .ref (ad 599)), (1, .int v1)]) hx hb dX10_append_43 hl (k := 2) rfl (by rw [ex]; rfl) (by decide) rfl (fun ls hl => ?_)
          clear ex
          refine lv_goto (tgt := 3) hx hb dX10_append_46 (by decide) ?_
          exact K3 v1 x3 st2 _ _ ls hf (lv_sub hl [1, 2, 0] rfl) hP hS
  refine lv_bipush (v := 24) hx hb dX10_append_0 (by decide) ?_
  refine lv_istore_n (lv' := [(2, .int (24 : Int32)), (0, .ref (ad 599)), (1, .int a0)]) hx hb dX10_append_2 rfl hl (by decide) rfl (fun ls hl => ?_)
  exact L3 6000 a0 (24 : Int32) st _ _ ls hf (lv_sub hl [1, 2, 0] rfl) hP hS
def fX11_feed (a0 : Int32) (a1 : Int32) (a2 : Int32) (a3 : Int32) (a4 : Int32) (fz : List FP) (st : St) : Option (Int32 × St) := if ((st.1 504) + (20 : Int32)) ≤ (400 : Int32) then (bd (fX10_append a0 fz st) (fun r1 st2 => bd (fX10_append a1 fz st2) (fun r3 st4 => bd (fX10_append a2 fz st4) (fun r5 st6 => bd (fX10_append a3 fz st6) (fun r7 st8 => bd (fX10_append a4 fz st8) (fun r9 st10 => some ((st10.1 504), st10))))))) else (some ((-1 : Int32), st))
set_option maxHeartbeats 4000000 in
set_option maxRecDepth 100000 in
theorem tX11_feed (l : Launch) (D : va_G) (cy : Nat → ClassId) (ad : Nat → Nat) (fz : List FP) (hJ : (cads ad fz).Nodup) (sz : Nat) (a0 : Int32) (a1 : Int32) (a2 : Int32) (a3 : Int32) (a4 : Int32) (st : St) (rr : Int32) (st' : St) (hf : fX11_feed a0 a1 a2 a3 a4 fz st = some (rr, st')) : Met l yX11_feed (Cond.code yX11_feed cX11_feed 6 (some .int) :: TT) (rmD 1) (cPc D cy ad fz [.ref (ad 99), .int a0, .int a1, .int a2, .int a3, .int a4] st sz) (cQi D cy ad fz rr st' sz) 0 0 (cA ad fz sz) := by
  refine c_meti (by decide) hJ (Nat.le_of_ble_eq_true rfl) (fun p e s m args below meth c ls E hx hb hr hlocks hown hT hD hN hl hP hS => ?_)
  replace hl : lv_has ls 6 [(0, .ref (ad 99)), (1, .int a0), (2, .int a1), (3, .int a2), (4, .int a3), (5, .int a4)] := hl
  unfold fX11_feed at hf
  refine lv_aload_n hx hb dX11_feed_0 rfl (lv_at hl 0 rfl) ?_
  refine cg_11_23_0 E hP dX11_feed_1 ?_
  refine cg_11_162_5 E hP dX11_feed_4 ?_
  refine lv_bipush (v := 20) hx hb dX11_feed_7 (by decide) ?_
  refine lv_iadd hx hb dX11_feed_9 ?_
  refine lv_sipush (v := 400) hx hb dX11_feed_10 (by decide) ?_
  refine lv_icmp_le (tgt := 18) hx hb dX11_feed_13 (by decide) (fun hc => ?_) (fun hc => ?_)
  · replace hf := it_pos hc hf
    refine lv_aload_n hx hb dX11_feed_18 rfl (lv_at hl 0 rfl) ?_
    refine cg_11_23_0 E hP dX11_feed_19 ?_
    refine lv_iload_n hx hb dX11_feed_22 rfl (lv_at hl 1 rfl) ?_
    obtain ⟨r1, st2, hc, hf⟩ := bd_some hf
    refine c_callv (n := 1) (rest := []) E hN hP hS (fun sz => tX10_append l D cy ad fz hJ sz a0 st r1 st2 hc) (va_recv E.2 hP (ci := 10) (q0 := 25) rfl rfl) (gV k_571 k_572 k_573 k_7 k_574) qX10_append ⟨Nat.le_of_ble_eq_true rfl, Nat.le_of_ble_eq_true rfl⟩ ⟨Nat.le_refl _, Nat.le_refl _⟩ rfl hl.1 rfl (Nat.le_of_ble_eq_true rfl) dX11_feed_23 (fun H locs hP hS => ?_)
    refine lv_aload_n hx hb dX11_feed_26 rfl (lv_at hl 0 rfl) ?_
    refine cg_11_23_0 E hP dX11_feed_27 ?_
    refine lv_iload_n hx hb dX11_feed_30 rfl (lv_at hl 2 rfl) ?_
    obtain ⟨r3, st4, hc, hf⟩ := bd_some hf
    refine c_callv (n := 1) (rest := []) E hN hP hS (fun sz => tX10_append l D cy ad fz hJ sz a1 st2 r3 st4 hc) (va_recv E.2 hP (ci := 10) (q0 := 25) rfl rfl) (gV k_571 k_572 k_573 k_7 k_574) qX10_append ⟨Nat.le_of_ble_eq_true rfl, Nat.le_of_ble_eq_true rfl⟩ ⟨Nat.le_refl _, Nat.le_refl _⟩ rfl hl.1 rfl (Nat.le_of_ble_eq_true rfl) dX11_feed_31 (fun H locs hP hS => ?_)
    refine lv_aload_n hx hb dX11_feed_34 rfl (lv_at hl 0 rfl) ?_
    refine cg_11_23_0 E hP dX11_feed_35 ?_
    refine lv_iload_n hx hb dX11_feed_38 rfl (lv_at hl 3 rfl) ?_
    obtain ⟨r5, st6, hc, hf⟩ := bd_some hf
    refine c_callv (n := 1) (rest := []) E hN hP hS (fun sz => tX10_append l D cy ad fz hJ sz a2 st4 r5 st6 hc) (va_recv E.2 hP (ci := 10) (q0 := 25) rfl rfl) (gV k_571 k_572 k_573 k_7 k_574) qX10_append ⟨Nat.le_of_ble_eq_true rfl, Nat.le_of_ble_eq_true rfl⟩ ⟨Nat.le_refl _, Nat.le_refl _⟩ rfl hl.1 rfl (Nat.le_of_ble_eq_true rfl) dX11_feed_39 (fun H locs hP hS => ?_)
    refine lv_aload_n hx hb dX11_feed_42 rfl (lv_at hl 0 rfl) ?_
    refine cg_11_23_0 E hP dX11_feed_43 ?_
    refine lv_iload hx hb dX11_feed_46 (lv_at hl 4 rfl) ?_
    obtain ⟨r7, st8, hc, hf⟩ := bd_some hf
    refine c_callv (n := 1) (rest := []) E hN hP hS (fun sz => tX10_append l D cy ad fz hJ sz a3 st6 r7 st8 hc) (va_recv E.2 hP (ci := 10) (q0 := 25) rfl rfl) (gV k_571 k_572 k_573 k_7 k_574) qX10_append ⟨Nat.le_of_ble_eq_true rfl, Nat.le_of_ble_eq_true rfl⟩ ⟨Nat.le_refl _, Nat.le_refl _⟩ rfl hl.1 rfl (Nat.le_of_ble_eq_true rfl) dX11_feed_48 (fun H locs hP hS => ?_)
    refine lv_aload_n hx hb dX11_feed_51 rfl (lv_at hl 0 rfl) ?_
    refine cg_11_23_0 E hP dX11_feed_52 ?_
    refine lv_iload hx hb dX11_feed_55 (lv_at hl 5 rfl) ?_
    obtain ⟨r9, st10, hc, hf⟩ := bd_some hf
    refine c_callv (n := 1) (rest := []) E hN hP hS (fun sz => tX10_append l D cy ad fz hJ sz a4 st8 r9 st10 hc) (va_recv E.2 hP (ci := 10) (q0 := 25) rfl rfl) (gV k_571 k_572 k_573 k_7 k_574) qX10_append ⟨Nat.le_of_ble_eq_true rfl, Nat.le_of_ble_eq_true rfl⟩ ⟨Nat.le_refl _, Nat.le_refl _⟩ rfl hl.1 rfl (Nat.le_of_ble_eq_true rfl) dX11_feed_57 (fun H locs hP hS => ?_)
    refine lv_aload_n hx hb dX11_feed_60 rfl (lv_at hl 0 rfl) ?_
    refine cg_11_23_0 E hP dX11_feed_61 ?_
    refine cg_11_162_5 E hP dX11_feed_64 ?_
    exact c_iret hx hb hr hlocks hf hP hS dX11_feed_67
  · replace hf := it_neg hc hf
    refine lv_iconst (v := -1) hx hb dX11_feed_16 (by decide) ?_
    exact c_iret hx hb hr hlocks hf hP hS dX11_feed_17
def fX11_end (a0 : Int32) (fz : List FP) (st : St) : Option (Int32 × St) := bs (fX11_within a0 (0 : Int32) (st.1 504)) (fun r1 => if r1 = 0 then (some ((-1 : Int32), st)) else (lt (sI st 504 a0) (fun st2 => some (a0, st2))))
set_option maxHeartbeats 4000000 in
set_option maxRecDepth 100000 in
theorem tX11_end (l : Launch) (D : va_G) (cy : Nat → ClassId) (ad : Nat → Nat) (fz : List FP) (hJ : (cads ad fz).Nodup) (sz : Nat) (a0 : Int32) (st : St) (rr : Int32) (st' : St) (hf : fX11_end a0 fz st = some (rr, st')) : Met l yX11_end (Cond.code yX11_end cX11_end 2 (some .int) :: TT) (rmD 1) (cPc D cy ad fz [.ref (ad 99), .int a0] st sz) (cQi D cy ad fz rr st' sz) 0 0 (cA ad fz sz) := by
  refine c_meti (by decide) hJ (Nat.le_of_ble_eq_true rfl) (fun p e s m args below meth c ls E hx hb hr hlocks hown hT hD hN hl hP hS => ?_)
  replace hl : lv_has ls 2 [(0, .ref (ad 99)), (1, .int a0)] := hl
  unfold fX11_end at hf
  refine lv_iload_n hx hb dX11_end_0 rfl (lv_at hl 1 rfl) ?_
  refine lv_iconst (v := 0) hx hb dX11_end_1 (by decide) ?_
  refine lv_aload_n hx hb dX11_end_2 rfl (lv_at hl 0 rfl) ?_
  refine cg_11_23_0 E hP dX11_end_3 ?_
  refine cg_11_162_5 E hP dX11_end_6 ?_
  obtain ⟨r1, hc, hf⟩ := bs_some hf
  refine s_calli (n := 3) (rest := []) E.1 (tX11_within l _ a0 (0 : Int32) (st.1 504) r1 hc) (gS k_472 k_458 k_1 k_459) qX11_within ⟨Nat.le_of_ble_eq_true rfl, Nat.le_of_ble_eq_true rfl⟩ ⟨Nat.le_refl _, Nat.le_refl _⟩ rfl hl.1 rfl (Nat.le_of_ble_eq_true rfl) dX11_end_9 ?_
  refine lv_if_ne (tgt := 17) hx hb dX11_end_12 (by decide) (fun hc => ?_) (fun hc => ?_)
  · replace hf := it_neg hc hf
    refine lv_aload_n hx hb dX11_end_17 rfl (lv_at hl 0 rfl) ?_
    refine cg_11_23_0 E hP dX11_end_18 ?_
    refine lv_iload_n hx hb dX11_end_21 rfl (lv_at hl 1 rfl) ?_
    refine cp_11_162_5 E hD hP hS dX11_end_22 (fun st2 H locs ex hP hS => ?_)
    replace hf := lt_at ex hf; clear ex
    refine lv_iload_n hx hb dX11_end_25 rfl (lv_at hl 1 rfl) ?_
    exact c_iret hx hb hr hlocks hf hP hS dX11_end_26
  · replace hf := it_pos hc hf
    refine lv_iconst (v := -1) hx hb dX11_end_15 (by decide) ?_
    exact c_iret hx hb hr hlocks hf hP hS dX11_end_16
def fX11_row_b106 (fz : List FP) (k26 : Int32 → Int32 → St → Option (Int32 × St)) (v1 : Int32) (v2 : Int32) (st : St) : Option (Int32 × St) := lt (v2 + (2 : Int32)) (fun x1 => k26 v1 x1 st)
def fX11_row_b96 (fz : List FP) (k26 : Int32 → Int32 → St → Option (Int32 × St)) (v1 : Int32) (v2 : Int32) (st : St) : Option (Int32 × St) := lt (sI st 10 ((st.1 10) + (1 : Int32))) (fun st2 => fX11_row_b106 fz k26 v1 v2 st2)
def fX11_row_b55 (fz : List FP) (k26 : Int32 → Int32 → St → Option (Int32 × St)) (v1 : Int32) (v2 : Int32) (w0 : Int32) (st : St) : Option (Int32 × St) := if w0 = 0 then (fX11_row_b96 fz k26 v1 v2 st) else (gi v2 400 (gi (v2 + (1 : Int32)) 400 (bd (fX6_found (st.2.2.1 500 v2.toNatClampNeg) (st.2.2.1 500 (v2 + (1 : Int32)).toNatClampNeg) fz st) (fun r3 st4 => if r3 < 0 then (fX11_row_b96 fz k26 v1 v2 st4) else (lt (v1 + (1 : Int32)) (fun x5 => fX11_row_b106 fz k26 x5 v2 st4))))))
def fX11_row_b26 (fz : List FP) (k26 : Int32 → Int32 → St → Option (Int32 × St)) (v1 : Int32) (v2 : Int32) (st : St) : Option (Int32 × St) := if (st.1 504) ≤ v2 then (lt (sI st 504 (0 : Int32)) (fun st6 => bd (fX2_close fz st6) (fun r7 st8 => bd (fX11_settle v1 fz st8) (fun r9 st10 => some (r9, st10))))) else (if (st.1 504) ≤ (v2 + (1 : Int32)) then (fX11_row_b55 fz k26 v1 v2 (0 : Int32) st) else (fX11_row_b55 fz k26 v1 v2 (1 : Int32) st))
def fX11_row (fz : List FP) (st : St) : Option (Int32 × St) := if (st.1 504) = 0 then (bd (fX11_refuse (-6 : Int32) fz st) (fun r12 st13 => some (r12, st13))) else (lt (sI st 10 (0 : Int32)) (fun st11 => lp (fun _ _ _ => none) (fX11_row_b26 fz) 6000 (0 : Int32) (0 : Int32) st11))
set_option maxHeartbeats 4000000 in
set_option maxRecDepth 100000 in
theorem tX11_row (l : Launch) (D : va_G) (cy : Nat → ClassId) (ad : Nat → Nat) (fz : List FP) (hJ : (cads ad fz).Nodup) (sz : Nat) (st : St) (rr : Int32) (st' : St) (hf : fX11_row fz st = some (rr, st')) : Met l yX11_row (Cond.code yX11_row cX11_row 4 (some .int) :: TT) (rmD 3) (cPc D cy ad fz [.ref (ad 99)] st sz) (cQi D cy ad fz rr st' sz) 0 0 (cA ad fz sz) := by
  refine c_meti (by decide) hJ (Nat.le_of_ble_eq_true rfl) (fun p e s m args below meth c ls E hx hb hr hlocks hown hT hD hN hl hP hS => ?_)
  replace hl : lv_has ls 4 [(0, .ref (ad 99))] := hl
  unfold fX11_row at hf
  have L26 : ∀ (n : Nat) (v1 : Int32) (v2 : Int32) (st : St) (H : Heap) (locs : List Loc) (ls : Array Slot), lp (fun _ _ _ => none) (fX11_row_b26 fz) n v1 v2 st = some (rr, st') → lv_has ls 4 [(0, .ref (ad 99)), (1, .int v1), (2, .int v2)] → va_P D classes (cx cy ad fz st) H → va_S (cA ad fz s.heap.size) s.heap H locs → cGi l 3 D cy ad fz rr st' p e s m args below meth c H locs (F0 m 26 ls []) := by
    intro n
    induction n with
    | zero => intro v1 v2 st H locs ls hf; exact absurd hf (fun h => by cases h)
    | succ n K26 =>
      intro v1 v2 st H locs ls hf hl hP hS
      replace hf : fX11_row_b26 fz (lp (fun _ _ _ => none) (fX11_row_b26 fz) n) v1 v2 st = some (rr, st') := hf
      generalize lp (fun _ _ _ => none) (fX11_row_b26 fz) n = k26 at hf K26
      have B106 : ∀ (v1 : Int32) (v2 : Int32) (st : St) (H : Heap) (locs : List Loc) (ls : Array Slot), fX11_row_b106 fz k26 v1 v2 st = some (rr, st') → lv_has ls 4 [(0, .ref (ad 99)), (1, .int v1), (2, .int v2)] → va_P D classes (cx cy ad fz st) H → va_S (cA ad fz s.heap.size) s.heap H locs → cGi l 3 D cy ad fz rr st' p e s m args below meth c H locs (F0 m 106 ls []) := by
        intro v1 v2 st H locs ls hf hl hP hS
        unfold fX11_row_b106 at hf
        obtain ⟨x1, ex⟩ : ∃ y : Int32, y = v2 + (2 : Int32) := ⟨_, rfl⟩
        replace hf := lt_at ex hf
        refine lv_iinc (v := x1) (lv' := [(2, .int x1), (0, .ref (ad 99)), (1, .int v1)]) hx hb dX11_row_106 hl (k := 2) rfl (by rw [ex]; rfl) (by decide) rfl (fun ls hl => ?_)
        clear ex
        refine lv_goto (tgt := 26) hx hb dX11_row_109 (by decide) ?_
        exact K26 v1 x1 st _ _ ls hf (lv_sub hl [1, 2, 0] rfl) hP hS
      have B96 : ∀ (v1 : Int32) (v2 : Int32) (st : St) (H : Heap) (locs : List Loc) (ls : Array Slot), fX11_row_b96 fz k26 v1 v2 st = some (rr, st') → lv_has ls 4 [(0, .ref (ad 99)), (1, .int v1), (2, .int v2)] → va_P D classes (cx cy ad fz st) H → va_S (cA ad fz s.heap.size) s.heap H locs → cGi l 3 D cy ad fz rr st' p e s m args below meth c H locs (F0 m 96 ls []) := by
        intro v1 v2 st H locs ls hf hl hP hS
        unfold fX11_row_b96 at hf
        refine lv_aload_n hx hb dX11_row_96 rfl (lv_at hl 0 rfl) ?_
        refine lv_dup hx hb dX11_row_97 rfl ?_
        refine cg_11_169_0 E hP dX11_row_98 ?_
        refine lv_iconst (v := 1) hx hb dX11_row_101 (by decide) ?_
        refine lv_iadd hx hb dX11_row_102 ?_
        refine cp_11_169_0 E hD hP hS dX11_row_103 (fun st2 H locs ex hP hS => ?_)
        replace hf := lt_at ex hf; clear ex
        exact B106 v1 v2 st2 _ _ ls hf hl hP hS
      have B55 : ∀ (v1 : Int32) (v2 : Int32) (w0 : Int32) (st : St) (H : Heap) (locs : List Loc) (ls : Array Slot), fX11_row_b55 fz k26 v1 v2 w0 st = some (rr, st') → lv_has ls 4 [(0, .ref (ad 99)), (1, .int v1), (2, .int v2)] → va_P D classes (cx cy ad fz st) H → va_S (cA ad fz s.heap.size) s.heap H locs → cGi l 3 D cy ad fz rr st' p e s m args below meth c H locs (F0 m 55 ls [.int w0]) := by
        intro v1 v2 w0 st H locs ls hf hl hP hS
        unfold fX11_row_b55 at hf
        refine lv_istore_n (lv' := [(3, .int w0), (0, .ref (ad 99)), (1, .int v1), (2, .int v2)]) hx hb dX11_row_55 rfl hl (by decide) rfl (fun ls hl => ?_)
        refine lv_iload_n hx hb dX11_row_56 rfl (lv_at hl 0 rfl) ?_
        refine lv_if_eq (tgt := 96) hx hb dX11_row_57 (by decide) (fun hc => ?_) (fun hc => ?_)
        · replace hf := it_pos hc hf
          exact B96 v1 v2 st _ _ ls hf (lv_sub hl [1, 2, 3] rfl) hP hS
        · replace hf := it_neg hc hf
          refine lv_aload_n hx hb dX11_row_60 rfl (lv_at hl 1 rfl) ?_
          refine cg_11_10_0 E hP dX11_row_61 ?_
          refine lv_aload_n hx hb dX11_row_64 rfl (lv_at hl 1 rfl) ?_
          refine cg_11_23_0 E hP dX11_row_65 ?_
          refine cg_11_172_5 E hP dX11_row_68 ?_
          refine lv_iload_n hx hb dX11_row_71 rfl (lv_at hl 3 rfl) ?_
          obtain ⟨hi, hf⟩ := gi_some hf
          refine cl_500 E hP hi dX11_row_72 ?_
          refine lv_aload_n hx hb dX11_row_73 rfl (lv_at hl 1 rfl) ?_
          refine cg_11_23_0 E hP dX11_row_74 ?_
          refine cg_11_172_5 E hP dX11_row_77 ?_
          refine lv_iload_n hx hb dX11_row_80 rfl (lv_at hl 3 rfl) ?_
          refine lv_iconst (v := 1) hx hb dX11_row_81 (by decide) ?_
          refine lv_iadd hx hb dX11_row_82 ?_
          obtain ⟨hi, hf⟩ := gi_some hf
          refine cl_500 E hP hi dX11_row_83 ?_
          obtain ⟨r3, st4, hc, hf⟩ := bd_some hf
          refine c_calli (n := 2) (rest := []) E hN hP hS (fun sz => tX6_found l D cy ad fz hJ sz (st.2.2.1 500 v2.toNatClampNeg) (st.2.2.1 500 (v2 + (1 : Int32)).toNatClampNeg) st r3 st4 hc) (va_recv E.2 hP (ci := 6) (q0 := 3) rfl rfl) (gV k_453 k_454 k_455 k_2 k_456) qX6_found ⟨Nat.le_of_ble_eq_true rfl, Nat.le_of_ble_eq_true rfl⟩ ⟨Nat.le_refl _, Nat.le_refl _⟩ rfl hl.1 rfl (Nat.le_of_ble_eq_true rfl) dX11_row_84 (fun H locs hP hS => ?_)
          refine lv_if_lt (tgt := 96) hx hb dX11_row_87 (by decide) (fun hc => ?_) (fun hc => ?_)
          · replace hf := it_pos hc hf
            exact B96 v1 v2 st4 _ _ ls hf (lv_sub hl [1, 2, 3] rfl) hP hS
          · replace hf := it_neg hc hf
            obtain ⟨x5, ex⟩ : ∃ y : Int32, y = v1 + (1 : Int32) := ⟨_, rfl⟩
            replace hf := lt_at ex hf
            refine lv_iinc (v := x5) (lv' := [(1, .int x5), (3, .int w0), (0, .ref (ad 99)), (2, .int v2)]) hx hb dX11_row_90 hl (k := 2) rfl (by rw [ex]; rfl) (by decide) rfl (fun ls hl => ?_)
            clear ex
            refine lv_goto (tgt := 106) hx hb dX11_row_93 (by decide) ?_
            exact B106 x5 v2 st4 _ _ ls hf (lv_sub hl [2, 0, 3] rfl) hP hS
      unfold fX11_row_b26 at hf
      refine lv_iload_n hx hb dX11_row_26 rfl (lv_at hl 2 rfl) ?_
      refine lv_aload_n hx hb dX11_row_27 rfl (lv_at hl 0 rfl) ?_
      refine cg_11_23_0 E hP dX11_row_28 ?_
      refine cg_11_162_5 E hP dX11_row_31 ?_
      refine lv_icmp_ge (tgt := 112) hx hb dX11_row_34 (by decide) (fun hc => ?_) (fun hc => ?_)
      · replace hf := it_pos hc hf
        refine lv_aload_n hx hb dX11_row_112 rfl (lv_at hl 0 rfl) ?_
        refine cg_11_23_0 E hP dX11_row_113 ?_
        refine lv_iconst (v := 0) hx hb dX11_row_116 (by decide) ?_
        refine cp_11_162_5 E hD hP hS dX11_row_117 (fun st6 H locs ex hP hS => ?_)
        replace hf := lt_at ex hf; clear ex
        refine lv_aload_n hx hb dX11_row_120 rfl (lv_at hl 0 rfl) ?_
        refine cg_11_53_0 E hP dX11_row_121 ?_
        obtain ⟨r7, st8, hc, hf⟩ := bd_some hf
        refine c_callv (n := 0) (rest := []) E hN hP hS (fun sz => tX2_close l D cy ad fz hJ sz st6 r7 st8 hc) (va_recv E.2 hP (ci := 2) (q0 := 40) rfl rfl) (gV k_460 k_461 k_462 k_11 k_463) qX2_close ⟨Nat.le_of_ble_eq_true rfl, Nat.le_of_ble_eq_true rfl⟩ ⟨Nat.le_refl _, Nat.le_refl _⟩ rfl hl.1 rfl (Nat.le_of_ble_eq_true rfl) dX11_row_124 (fun H locs hP hS => ?_)
        refine lv_aload_n hx hb dX11_row_127 rfl (lv_at hl 0 rfl) ?_
        refine lv_iload_n hx hb dX11_row_128 rfl (lv_at hl 1 rfl) ?_
        obtain ⟨r9, st10, hc, hf⟩ := bd_some hf
        refine c_calli (n := 1) (rest := []) E hN hP hS (fun sz => tX11_settle l D cy ad fz hJ sz v1 st8 r9 st10 hc) (va_recv E.2 hP (ci := 11) (q0 := 0) rfl rfl) (gV k_464 k_466 ks_0 k_1 k_467) qX11_settle ⟨Nat.le_of_ble_eq_true rfl, Nat.le_of_ble_eq_true rfl⟩ ⟨Nat.le_refl _, Nat.le_refl _⟩ rfl hl.1 rfl (Nat.le_of_ble_eq_true rfl) dX11_row_129 (fun H locs hP hS => ?_)
        exact c_iret hx hb hr hlocks hf hP hS dX11_row_132
      · replace hf := it_neg hc hf
        refine lv_iload_n hx hb dX11_row_37 rfl (lv_at hl 2 rfl) ?_
        refine lv_iconst (v := 1) hx hb dX11_row_38 (by decide) ?_
        refine lv_iadd hx hb dX11_row_39 ?_
        refine lv_aload_n hx hb dX11_row_40 rfl (lv_at hl 0 rfl) ?_
        refine cg_11_23_0 E hP dX11_row_41 ?_
        refine cg_11_162_5 E hP dX11_row_44 ?_
        refine lv_icmp_ge (tgt := 54) hx hb dX11_row_47 (by decide) (fun hc => ?_) (fun hc => ?_)
        · replace hf := it_pos hc hf
          refine lv_iconst (v := 0) hx hb dX11_row_54 (by decide) ?_
          exact B55 v1 v2 (0 : Int32) st _ _ ls hf hl hP hS
        · replace hf := it_neg hc hf
          refine lv_iconst (v := 1) hx hb dX11_row_50 (by decide) ?_
          refine lv_goto (tgt := 55) hx hb dX11_row_51 (by decide) ?_
          exact B55 v1 v2 (1 : Int32) st _ _ ls hf hl hP hS
  refine lv_aload_n hx hb dX11_row_0 rfl (lv_at hl 0 rfl) ?_
  refine cg_11_23_0 E hP dX11_row_1 ?_
  refine cg_11_162_5 E hP dX11_row_4 ?_
  refine lv_if_ne (tgt := 17) hx hb dX11_row_7 (by decide) (fun hc => ?_) (fun hc => ?_)
  · replace hf := it_neg hc hf
    refine lv_iconst (v := 0) hx hb dX11_row_17 (by decide) ?_
    refine lv_istore_n (lv' := [(1, .int (0 : Int32)), (0, .ref (ad 99))]) hx hb dX11_row_18 rfl hl (by decide) rfl (fun ls hl => ?_)
    refine lv_aload_n hx hb dX11_row_19 rfl (lv_at hl 1 rfl) ?_
    refine lv_iconst (v := 0) hx hb dX11_row_20 (by decide) ?_
    refine cp_11_169_0 E hD hP hS dX11_row_21 (fun st11 H locs ex hP hS => ?_)
    replace hf := lt_at ex hf; clear ex
    refine lv_iconst (v := 0) hx hb dX11_row_24 (by decide) ?_
    refine lv_istore_n (lv' := [(2, .int (0 : Int32)), (1, .int (0 : Int32)), (0, .ref (ad 99))]) hx hb dX11_row_25 rfl hl (by decide) rfl (fun ls hl => ?_)
    exact L26 6000 (0 : Int32) (0 : Int32) st11 _ _ ls hf (lv_sub hl [2, 1, 0] rfl) hP hS
  · replace hf := it_pos hc hf
    refine lv_aload_n hx hb dX11_row_10 rfl (lv_at hl 0 rfl) ?_
    refine lv_bipush (v := -6) hx hb dX11_row_11 (by decide) ?_
    obtain ⟨r12, st13, hc, hf⟩ := bd_some hf
    refine c_calli (n := 1) (rest := []) E hN hP hS (fun sz => tX11_refuse l D cy ad fz hJ sz (-6 : Int32) st r12 st13 hc) (va_recv E.2 hP (ci := 11) (q0 := 0) rfl rfl) (gV k_468 k_470 ks_1 k_1 k_471) qX11_refuse ⟨Nat.le_of_ble_eq_true rfl, Nat.le_of_ble_eq_true rfl⟩ ⟨Nat.le_refl _, Nat.le_refl _⟩ rfl hl.1 rfl (Nat.le_of_ble_eq_true rfl) dX11_row_13 (fun H locs hP hS => ?_)
    exact c_iret hx hb hr hlocks hf hP hS dX11_row_16
def fX11_brooms (fz : List FP) (st : St) : Option (Int32 × St) := some ((st.1 10), st)
set_option maxHeartbeats 4000000 in
set_option maxRecDepth 100000 in
theorem tX11_brooms (l : Launch) (D : va_G) (cy : Nat → ClassId) (ad : Nat → Nat) (fz : List FP) (hJ : (cads ad fz).Nodup) (sz : Nat) (st : St) (rr : Int32) (st' : St) (hf : fX11_brooms fz st = some (rr, st')) : Met l yX11_brooms (Cond.code yX11_brooms cX11_brooms 1 (some .int) :: TT) (rmD 0) (cPc D cy ad fz [.ref (ad 99)] st sz) (cQi D cy ad fz rr st' sz) 0 0 (cA ad fz sz) := by
  refine c_meti (by decide) hJ (Nat.le_of_ble_eq_true rfl) (fun p e s m args below meth c ls E hx hb hr hlocks hown hT hD hN hl hP hS => ?_)
  replace hl : lv_has ls 1 [(0, .ref (ad 99))] := hl
  unfold fX11_brooms at hf
  refine lv_aload_n hx hb dX11_brooms_0 rfl (lv_at hl 0 rfl) ?_
  refine cg_11_169_0 E hP dX11_brooms_1 ?_
  exact c_iret hx hb hr hlocks hf hP hS dX11_brooms_4
def fX10_isLetter_b17 (w0 : Int32) : Option Int32 := gb w0 (some w0)
def fX10_isLetter_b16 : Option Int32 := fX10_isLetter_b17 (0 : Int32)
def fX10_isLetter (a0 : Int32) : Option Int32 := if a0 < (97 : Int32) then (fX10_isLetter_b16 ) else (if (122 : Int32) < a0 then (fX10_isLetter_b16 ) else (fX10_isLetter_b17 (1 : Int32)))
set_option maxHeartbeats 4000000 in
set_option maxRecDepth 100000 in
theorem tX10_isLetter (l : Launch) (hh : Heap) (a0 : Int32) (rr : Int32) (hf : fX10_isLetter a0 = some rr) : Met l yX10_isLetter (Cond.code yX10_isLetter cX10_isLetter 1 (some .boolean) :: TT) (rmD 0) (sPc [.int a0] hh) (sQi rr hh) 0 0 (fun _ => False) := by
  refine s_meti (by decide) (Nat.le_of_ble_eq_true rfl) (fun p e s m args below meth c ls E hx hb hr hlocks hown hT hl => ?_)
  replace hl : lv_has ls 1 [(0, .int a0)] := hl
  unfold fX10_isLetter at hf
  have B17 : ∀ (w0 : Int32) (ls : Array Slot), fX10_isLetter_b17 w0 = some rr → lv_has ls 1 [] → sGi l 0 rr p e s m args below meth c (F0 m 17 ls [.int w0]) := by
    intro w0 ls hf hl
    unfold fX10_isLetter_b17 at hf
    obtain ⟨hn, hf⟩ := gb_some hf
    exact s_zret hx hb hr hlocks hn hf dX10_isLetter_17
  have B16 : ∀ (ls : Array Slot), fX10_isLetter_b16  = some rr → lv_has ls 1 [] → sGi l 0 rr p e s m args below meth c (F0 m 16 ls []) := by
    intro  ls hf hl
    unfold fX10_isLetter_b16 at hf
    refine lv_iconst (v := 0) hx hb dX10_isLetter_16 (by decide) ?_
    exact B17 (0 : Int32) ls hf hl
  refine lv_iload_n hx hb dX10_isLetter_0 rfl (lv_at hl 0 rfl) ?_
  refine lv_bipush (v := 97) hx hb dX10_isLetter_1 (by decide) ?_
  refine lv_icmp_lt (tgt := 16) hx hb dX10_isLetter_3 (by decide) (fun hc => ?_) (fun hc => ?_)
  · replace hf := it_pos hc hf
    exact B16  ls hf (lv_sub hl [] rfl)
  · replace hf := it_neg hc hf
    refine lv_iload_n hx hb dX10_isLetter_6 rfl (lv_at hl 0 rfl) ?_
    refine lv_bipush (v := 122) hx hb dX10_isLetter_7 (by decide) ?_
    refine lv_icmp_gt (tgt := 16) hx hb dX10_isLetter_9 (by decide) (fun hc => ?_) (fun hc => ?_)
    · replace hf := it_pos hc hf
      exact B16  ls hf (lv_sub hl [] rfl)
    · replace hf := it_neg hc hf
      refine lv_iconst (v := 1) hx hb dX10_isLetter_12 (by decide) ?_
      refine lv_goto (tgt := 17) hx hb dX10_isLetter_13 (by decide) ?_
      exact B17 (1 : Int32) ls hf (lv_sub hl [] rfl)
def fX10_isDigit_b17 (w0 : Int32) : Option Int32 := gb w0 (some w0)
def fX10_isDigit_b16 : Option Int32 := fX10_isDigit_b17 (0 : Int32)
def fX10_isDigit (a0 : Int32) : Option Int32 := if a0 < (48 : Int32) then (fX10_isDigit_b16 ) else (if (57 : Int32) < a0 then (fX10_isDigit_b16 ) else (fX10_isDigit_b17 (1 : Int32)))
set_option maxHeartbeats 4000000 in
set_option maxRecDepth 100000 in
theorem tX10_isDigit (l : Launch) (hh : Heap) (a0 : Int32) (rr : Int32) (hf : fX10_isDigit a0 = some rr) : Met l yX10_isDigit (Cond.code yX10_isDigit cX10_isDigit 1 (some .boolean) :: TT) (rmD 0) (sPc [.int a0] hh) (sQi rr hh) 0 0 (fun _ => False) := by
  refine s_meti (by decide) (Nat.le_of_ble_eq_true rfl) (fun p e s m args below meth c ls E hx hb hr hlocks hown hT hl => ?_)
  replace hl : lv_has ls 1 [(0, .int a0)] := hl
  unfold fX10_isDigit at hf
  have B17 : ∀ (w0 : Int32) (ls : Array Slot), fX10_isDigit_b17 w0 = some rr → lv_has ls 1 [] → sGi l 0 rr p e s m args below meth c (F0 m 17 ls [.int w0]) := by
    intro w0 ls hf hl
    unfold fX10_isDigit_b17 at hf
    obtain ⟨hn, hf⟩ := gb_some hf
    exact s_zret hx hb hr hlocks hn hf dX10_isDigit_17
  have B16 : ∀ (ls : Array Slot), fX10_isDigit_b16  = some rr → lv_has ls 1 [] → sGi l 0 rr p e s m args below meth c (F0 m 16 ls []) := by
    intro  ls hf hl
    unfold fX10_isDigit_b16 at hf
    refine lv_iconst (v := 0) hx hb dX10_isDigit_16 (by decide) ?_
    exact B17 (0 : Int32) ls hf hl
  refine lv_iload_n hx hb dX10_isDigit_0 rfl (lv_at hl 0 rfl) ?_
  refine lv_bipush (v := 48) hx hb dX10_isDigit_1 (by decide) ?_
  refine lv_icmp_lt (tgt := 16) hx hb dX10_isDigit_3 (by decide) (fun hc => ?_) (fun hc => ?_)
  · replace hf := it_pos hc hf
    exact B16  ls hf (lv_sub hl [] rfl)
  · replace hf := it_neg hc hf
    refine lv_iload_n hx hb dX10_isDigit_6 rfl (lv_at hl 0 rfl) ?_
    refine lv_bipush (v := 57) hx hb dX10_isDigit_7 (by decide) ?_
    refine lv_icmp_gt (tgt := 16) hx hb dX10_isDigit_9 (by decide) (fun hc => ?_) (fun hc => ?_)
    · replace hf := it_pos hc hf
      exact B16  ls hf (lv_sub hl [] rfl)
    · replace hf := it_neg hc hf
      refine lv_iconst (v := 1) hx hb dX10_isDigit_12 (by decide) ?_
      refine lv_goto (tgt := 17) hx hb dX10_isDigit_13 (by decide) ?_
      exact B17 (1 : Int32) ls hf (lv_sub hl [] rfl)
def fX10_endOfToken_b79 (fz : List FP) (v3 : Int32) (st : St) : Option (Int32 × St) := some (v3, st)
def fX10_endOfToken_b73 (fz : List FP) (k34 : Int32 → Int32 → St → Option (Int32 × St)) (v2 : Int32) (v3 : Int32) (st : St) : Option (Int32 × St) := lt (v3 + (1 : Int32)) (fun x1 => k34 v2 x1 st)
def fX10_endOfToken_b34 (fz : List FP) (k34 : Int32 → Int32 → St → Option (Int32 × St)) (v2 : Int32) (v3 : Int32) (st : St) : Option (Int32 × St) := if (st.1 504) ≤ v3 then (fX10_endOfToken_b79 fz v3 st) else (if v2 = 0 then (gi v3 400 (bs (fX10_isDigit (st.2.2.1 500 v3.toNatClampNeg)) (fun r2 => if r2 = 0 then (fX10_endOfToken_b79 fz v3 st) else (fX10_endOfToken_b73 fz k34 v2 v3 st)))) else (gi v3 400 (bs (fX10_isLetter (st.2.2.1 500 v3.toNatClampNeg)) (fun r3 => if r3 = 0 then (fX10_endOfToken_b79 fz v3 st) else (fX10_endOfToken_b73 fz k34 v2 v3 st)))))
def fX10_endOfToken_b30 (fz : List FP) (v1 : Int32) (v2 : Int32) (st : St) : Option (Int32 × St) := lt (v1 + (1 : Int32)) (fun x4 => lp (fun _ _ _ => none) (fX10_endOfToken_b34 fz) 6000 v2 x4 st)
def fX10_endOfToken (a0 : Int32) (fz : List FP) (st : St) : Option (Int32 × St) := gi a0 400 (bs (fX10_isLetter (st.2.2.1 500 a0.toNatClampNeg)) (fun r5 => if r5 = 0 then (gi a0 400 (bs (fX10_isDigit (st.2.2.1 500 a0.toNatClampNeg)) (fun r6 => if r6 = 0 then (some ((a0 + (1 : Int32)), st)) else (fX10_endOfToken_b30 fz a0 r5 st)))) else (fX10_endOfToken_b30 fz a0 r5 st)))
set_option maxHeartbeats 4000000 in
set_option maxRecDepth 100000 in
theorem tX10_endOfToken (l : Launch) (D : va_G) (cy : Nat → ClassId) (ad : Nat → Nat) (fz : List FP) (hJ : (cads ad fz).Nodup) (sz : Nat) (a0 : Int32) (st : St) (rr : Int32) (st' : St) (hf : fX10_endOfToken a0 fz st = some (rr, st')) : Met l yX10_endOfToken (Cond.code yX10_endOfToken cX10_endOfToken 4 (some .int) :: TT) (rmD 1) (cPc D cy ad fz [.ref (ad 599), .int a0] st sz) (cQi D cy ad fz rr st' sz) 0 0 (cA ad fz sz) := by
  refine c_meti (by decide) hJ (Nat.le_of_ble_eq_true rfl) (fun p e s m args below meth c ls E hx hb hr hlocks hown hT hD hN hl hP hS => ?_)
  replace hl : lv_has ls 4 [(0, .ref (ad 599)), (1, .int a0)] := hl
  unfold fX10_endOfToken at hf
  have B79 : ∀ (v3 : Int32) (st : St) (H : Heap) (locs : List Loc) (ls : Array Slot), fX10_endOfToken_b79 fz v3 st = some (rr, st') → lv_has ls 4 [(3, .int v3)] → va_P D classes (cx cy ad fz st) H → va_S (cA ad fz s.heap.size) s.heap H locs → cGi l 1 D cy ad fz rr st' p e s m args below meth c H locs (F0 m 79 ls []) := by
    intro v3 st H locs ls hf hl hP hS
    unfold fX10_endOfToken_b79 at hf
    refine lv_iload_n hx hb dX10_endOfToken_79 rfl (lv_at hl 0 rfl) ?_
    exact c_iret hx hb hr hlocks hf hP hS dX10_endOfToken_80
  have L34 : ∀ (n : Nat) (v2 : Int32) (v3 : Int32) (st : St) (H : Heap) (locs : List Loc) (ls : Array Slot), lp (fun _ _ _ => none) (fX10_endOfToken_b34 fz) n v2 v3 st = some (rr, st') → lv_has ls 4 [(0, .ref (ad 599)), (2, .int v2), (3, .int v3)] → va_P D classes (cx cy ad fz st) H → va_S (cA ad fz s.heap.size) s.heap H locs → cGi l 1 D cy ad fz rr st' p e s m args below meth c H locs (F0 m 34 ls []) := by
    intro n
    induction n with
    | zero => intro v2 v3 st H locs ls hf; exact absurd hf (fun h => by cases h)
    | succ n K34 =>
      intro v2 v3 st H locs ls hf hl hP hS
      replace hf : fX10_endOfToken_b34 fz (lp (fun _ _ _ => none) (fX10_endOfToken_b34 fz) n) v2 v3 st = some (rr, st') := hf
      generalize lp (fun _ _ _ => none) (fX10_endOfToken_b34 fz) n = k34 at hf K34
      have B73 : ∀ (v2 : Int32) (v3 : Int32) (st : St) (H : Heap) (locs : List Loc) (ls : Array Slot), fX10_endOfToken_b73 fz k34 v2 v3 st = some (rr, st') → lv_has ls 4 [(0, .ref (ad 599)), (2, .int v2), (3, .int v3)] → va_P D classes (cx cy ad fz st) H → va_S (cA ad fz s.heap.size) s.heap H locs → cGi l 1 D cy ad fz rr st' p e s m args below meth c H locs (F0 m 73 ls []) := by
        intro v2 v3 st H locs ls hf hl hP hS
        unfold fX10_endOfToken_b73 at hf
        obtain ⟨x1, ex⟩ : ∃ y : Int32, y = v3 + (1 : Int32) := ⟨_, rfl⟩
        replace hf := lt_at ex hf
        refine lv_iinc (v := x1) (lv' := [(3, .int x1), (0, .ref (ad 599)), (2, .int v2)]) hx hb dX10_endOfToken_73 hl (k := 2) rfl (by rw [ex]; rfl) (by decide) rfl (fun ls hl => ?_)
        clear ex
        refine lv_goto (tgt := 34) hx hb dX10_endOfToken_76 (by decide) ?_
        exact K34 v2 x1 st _ _ ls hf (lv_sub hl [1, 2, 0] rfl) hP hS
      unfold fX10_endOfToken_b34 at hf
      refine lv_iload_n hx hb dX10_endOfToken_34 rfl (lv_at hl 2 rfl) ?_
      refine lv_aload_n hx hb dX10_endOfToken_35 rfl (lv_at hl 0 rfl) ?_
      refine cg_10_22_5 E hP dX10_endOfToken_36 ?_
      refine lv_icmp_ge (tgt := 79) hx hb dX10_endOfToken_39 (by decide) (fun hc => ?_) (fun hc => ?_)
      · replace hf := it_pos hc hf
        exact B79 v3 st _ _ ls hf (lv_sub hl [2] rfl) hP hS
      · replace hf := it_neg hc hf
        refine lv_iload_n hx hb dX10_endOfToken_42 rfl (lv_at hl 1 rfl) ?_
        refine lv_if_eq (tgt := 61) hx hb dX10_endOfToken_43 (by decide) (fun hc => ?_) (fun hc => ?_)
        · replace hf := it_pos hc hf
          refine lv_aload_n hx hb dX10_endOfToken_61 rfl (lv_at hl 0 rfl) ?_
          refine cg_10_9_5 E hP dX10_endOfToken_62 ?_
          refine lv_iload_n hx hb dX10_endOfToken_65 rfl (lv_at hl 2 rfl) ?_
          obtain ⟨hi, hf⟩ := gi_some hf
          refine cl_500 E hP hi dX10_endOfToken_66 ?_
          obtain ⟨r2, hc, hf⟩ := bs_some hf
          refine s_calli (n := 1) (rest := []) E.1 (tX10_isDigit l _ (st.2.2.1 500 v3.toNatClampNeg) r2 hc) (gS k_606 k_607 k_7 k_608) qX10_isDigit ⟨Nat.le_of_ble_eq_true rfl, Nat.le_of_ble_eq_true rfl⟩ ⟨Nat.le_refl _, Nat.le_refl _⟩ rfl hl.1 rfl (Nat.le_of_ble_eq_true rfl) dX10_endOfToken_67 ?_
          refine lv_if_eq (tgt := 79) hx hb dX10_endOfToken_70 (by decide) (fun hc => ?_) (fun hc => ?_)
          · replace hf := it_pos hc hf
            exact B79 v3 st _ _ ls hf (lv_sub hl [2] rfl) hP hS
          · replace hf := it_neg hc hf
            exact B73 v2 v3 st _ _ ls hf hl hP hS
        · replace hf := it_neg hc hf
          refine lv_aload_n hx hb dX10_endOfToken_46 rfl (lv_at hl 0 rfl) ?_
          refine cg_10_9_5 E hP dX10_endOfToken_47 ?_
          refine lv_iload_n hx hb dX10_endOfToken_50 rfl (lv_at hl 2 rfl) ?_
          obtain ⟨hi, hf⟩ := gi_some hf
          refine cl_500 E hP hi dX10_endOfToken_51 ?_
          obtain ⟨r3, hc, hf⟩ := bs_some hf
          refine s_calli (n := 1) (rest := []) E.1 (tX10_isLetter l _ (st.2.2.1 500 v3.toNatClampNeg) r3 hc) (gS k_603 k_604 k_7 k_605) qX10_isLetter ⟨Nat.le_of_ble_eq_true rfl, Nat.le_of_ble_eq_true rfl⟩ ⟨Nat.le_refl _, Nat.le_refl _⟩ rfl hl.1 rfl (Nat.le_of_ble_eq_true rfl) dX10_endOfToken_52 ?_
          refine lv_if_eq (tgt := 79) hx hb dX10_endOfToken_55 (by decide) (fun hc => ?_) (fun hc => ?_)
          · replace hf := it_pos hc hf
            exact B79 v3 st _ _ ls hf (lv_sub hl [2] rfl) hP hS
          · replace hf := it_neg hc hf
            refine lv_goto (tgt := 73) hx hb dX10_endOfToken_58 (by decide) ?_
            exact B73 v2 v3 st _ _ ls hf hl hP hS
  have B30 : ∀ (v1 : Int32) (v2 : Int32) (st : St) (H : Heap) (locs : List Loc) (ls : Array Slot), fX10_endOfToken_b30 fz v1 v2 st = some (rr, st') → lv_has ls 4 [(0, .ref (ad 599)), (1, .int v1), (2, .int v2)] → va_P D classes (cx cy ad fz st) H → va_S (cA ad fz s.heap.size) s.heap H locs → cGi l 1 D cy ad fz rr st' p e s m args below meth c H locs (F0 m 30 ls []) := by
    intro v1 v2 st H locs ls hf hl hP hS
    unfold fX10_endOfToken_b30 at hf
    refine lv_iload_n hx hb dX10_endOfToken_30 rfl (lv_at hl 1 rfl) ?_
    refine lv_iconst (v := 1) hx hb dX10_endOfToken_31 (by decide) ?_
    refine lv_iadd hx hb dX10_endOfToken_32 ?_
    refine lv_topi (fun x4 ex => ?_)
    replace hf := lt_at ex hf; clear ex
    refine lv_istore_n (lv' := [(3, .int x4), (0, .ref (ad 599)), (1, .int v1), (2, .int v2)]) hx hb dX10_endOfToken_33 rfl hl (by decide) rfl (fun ls hl => ?_)
    exact L34 6000 v2 x4 st _ _ ls hf (lv_sub hl [1, 3, 0] rfl) hP hS
  refine lv_aload_n hx hb dX10_endOfToken_0 rfl (lv_at hl 0 rfl) ?_
  refine cg_10_9_5 E hP dX10_endOfToken_1 ?_
  refine lv_iload_n hx hb dX10_endOfToken_4 rfl (lv_at hl 1 rfl) ?_
  obtain ⟨hi, hf⟩ := gi_some hf
  refine cl_500 E hP hi dX10_endOfToken_5 ?_
  obtain ⟨r5, hc, hf⟩ := bs_some hf
  refine s_calli (n := 1) (rest := []) E.1 (tX10_isLetter l _ (st.2.2.1 500 a0.toNatClampNeg) r5 hc) (gS k_603 k_604 k_7 k_605) qX10_isLetter ⟨Nat.le_of_ble_eq_true rfl, Nat.le_of_ble_eq_true rfl⟩ ⟨Nat.le_refl _, Nat.le_refl _⟩ rfl hl.1 rfl (Nat.le_of_ble_eq_true rfl) dX10_endOfToken_6 ?_
  refine lv_istore_n (lv' := [(2, .int r5), (0, .ref (ad 599)), (1, .int a0)]) hx hb dX10_endOfToken_9 rfl hl (by decide) rfl (fun ls hl => ?_)
  refine lv_iload_n hx hb dX10_endOfToken_10 rfl (lv_at hl 0 rfl) ?_
  refine lv_if_ne (tgt := 30) hx hb dX10_endOfToken_11 (by decide) (fun hc => ?_) (fun hc => ?_)
  · replace hf := it_neg hc hf
    exact B30 a0 r5 st _ _ ls hf (lv_sub hl [1, 2, 0] rfl) hP hS
  · replace hf := it_pos hc hf
    refine lv_aload_n hx hb dX10_endOfToken_14 rfl (lv_at hl 1 rfl) ?_
    refine cg_10_9_5 E hP dX10_endOfToken_15 ?_
    refine lv_iload_n hx hb dX10_endOfToken_18 rfl (lv_at hl 2 rfl) ?_
    obtain ⟨hi, hf⟩ := gi_some hf
    refine cl_500 E hP hi dX10_endOfToken_19 ?_
    obtain ⟨r6, hc, hf⟩ := bs_some hf
    refine s_calli (n := 1) (rest := []) E.1 (tX10_isDigit l _ (st.2.2.1 500 a0.toNatClampNeg) r6 hc) (gS k_606 k_607 k_7 k_608) qX10_isDigit ⟨Nat.le_of_ble_eq_true rfl, Nat.le_of_ble_eq_true rfl⟩ ⟨Nat.le_refl _, Nat.le_refl _⟩ rfl hl.1 rfl (Nat.le_of_ble_eq_true rfl) dX10_endOfToken_20 ?_
    refine lv_if_ne (tgt := 30) hx hb dX10_endOfToken_23 (by decide) (fun hc => ?_) (fun hc => ?_)
    · replace hf := it_neg hc hf
      exact B30 a0 r5 st _ _ ls hf (lv_sub hl [1, 2, 0] rfl) hP hS
    · replace hf := it_pos hc hf
      refine lv_iload_n hx hb dX10_endOfToken_26 rfl (lv_at hl 2 rfl) ?_
      refine lv_iconst (v := 1) hx hb dX10_endOfToken_27 (by decide) ?_
      refine lv_iadd hx hb dX10_endOfToken_28 ?_
      exact c_iret hx hb hr hlocks hf hP hS dX10_endOfToken_29
def fX10_valueOf_b5 (fz : List FP) (k5 : Int32 → Int32 → Int32 → St → Option (Int32 × St)) (v2 : Int32) (v3 : Int32) (v4 : Int32) (st : St) : Option (Int32 × St) := if v2 ≤ v4 then (some (v3, st)) else (gi v4 400 (lt (if (((v3 * (10 : Int32)) + (st.2.2.1 500 v4.toNatClampNeg)) - (48 : Int32)) < (9999 : Int32) then (((v3 * (10 : Int32)) + (st.2.2.1 500 v4.toNatClampNeg)) - (48 : Int32)) else (9999 : Int32)) (fun x1 => lt (v4 + (1 : Int32)) (fun x2 => k5 v2 x1 x2 st))))
def fX10_valueOf (a0 : Int32) (a1 : Int32) (fz : List FP) (st : St) : Option (Int32 × St) := lp (fun _ _ _ _ => none) (fX10_valueOf_b5 fz) 6000 a1 (0 : Int32) a0 st
set_option maxHeartbeats 4000000 in
set_option maxRecDepth 100000 in
theorem tX10_valueOf (l : Launch) (D : va_G) (cy : Nat → ClassId) (ad : Nat → Nat) (fz : List FP) (hJ : (cads ad fz).Nodup) (sz : Nat) (a0 : Int32) (a1 : Int32) (st : St) (rr : Int32) (st' : St) (hf : fX10_valueOf a0 a1 fz st = some (rr, st')) : Met l yX10_valueOf (Cond.code yX10_valueOf cX10_valueOf 5 (some .int) :: TT) (rmD 1) (cPc D cy ad fz [.ref (ad 599), .int a0, .int a1] st sz) (cQi D cy ad fz rr st' sz) 0 0 (cA ad fz sz) := by
  refine c_meti (by decide) hJ (Nat.le_of_ble_eq_true rfl) (fun p e s m args below meth c ls E hx hb hr hlocks hown hT hD hN hl hP hS => ?_)
  replace hl : lv_has ls 5 [(0, .ref (ad 599)), (1, .int a0), (2, .int a1)] := hl
  unfold fX10_valueOf at hf
  have L5 : ∀ (n : Nat) (v2 : Int32) (v3 : Int32) (v4 : Int32) (st : St) (H : Heap) (locs : List Loc) (ls : Array Slot), lp (fun _ _ _ _ => none) (fX10_valueOf_b5 fz) n v2 v3 v4 st = some (rr, st') → lv_has ls 5 [(0, .ref (ad 599)), (2, .int v2), (3, .int v3), (4, .int v4)] → va_P D classes (cx cy ad fz st) H → va_S (cA ad fz s.heap.size) s.heap H locs → cGi l 1 D cy ad fz rr st' p e s m args below meth c H locs (F0 m 5 ls []) := by
    intro n
    induction n with
    | zero => intro v2 v3 v4 st H locs ls hf; exact absurd hf (fun h => by cases h)
    | succ n K5 =>
      intro v2 v3 v4 st H locs ls hf hl hP hS
      replace hf : fX10_valueOf_b5 fz (lp (fun _ _ _ _ => none) (fX10_valueOf_b5 fz) n) v2 v3 v4 st = some (rr, st') := hf
      generalize lp (fun _ _ _ _ => none) (fX10_valueOf_b5 fz) n = k5 at hf K5
      unfold fX10_valueOf_b5 at hf
      refine lv_iload hx hb dX10_valueOf_5 (lv_at hl 3 rfl) ?_
      refine lv_iload_n hx hb dX10_valueOf_7 rfl (lv_at hl 1 rfl) ?_
      refine lv_icmp_ge (tgt := 39) hx hb dX10_valueOf_8 (by decide) (fun hc => ?_) (fun hc => ?_)
      · replace hf := it_pos hc hf
        refine lv_iload_n hx hb dX10_valueOf_39 rfl (lv_at hl 2 rfl) ?_
        exact c_iret hx hb hr hlocks hf hP hS dX10_valueOf_40
      · replace hf := it_neg hc hf
        refine lv_sipush (v := 9999) hx hb dX10_valueOf_11 (by decide) ?_
        refine lv_iload_n hx hb dX10_valueOf_14 rfl (lv_at hl 2 rfl) ?_
        refine lv_bipush (v := 10) hx hb dX10_valueOf_15 (by decide) ?_
        refine lv_imul hx hb dX10_valueOf_17 ?_
        refine lv_aload_n hx hb dX10_valueOf_18 rfl (lv_at hl 0 rfl) ?_
        refine cg_10_9_5 E hP dX10_valueOf_19 ?_
        refine lv_iload hx hb dX10_valueOf_22 (lv_at hl 3 rfl) ?_
        obtain ⟨hi, hf⟩ := gi_some hf
        refine cl_500 E hP hi dX10_valueOf_24 ?_
        refine lv_iadd hx hb dX10_valueOf_25 ?_
        refine lv_bipush (v := 48) hx hb dX10_valueOf_26 (by decide) ?_
        refine lv_isub hx hb dX10_valueOf_28 ?_
        refine va_mmin hx hb (E.1.2.2.1.trans hl.1.symm) hown (hT _ k_670) (hT _ k_526) (hT _ k_15) (hT _ k_527) (Nat.le_of_ble_eq_true rfl) (Nat.le_of_ble_eq_true rfl) (Nat.zero_le _) (Nat.zero_le _) dX10_valueOf_29 ?_
        refine lv_topi (fun x1 ex => ?_)
        replace hf := lt_at ex hf; clear ex
        refine lv_istore_n (lv' := [(3, .int x1), (0, .ref (ad 599)), (2, .int v2), (4, .int v4)]) hx hb dX10_valueOf_32 rfl hl (by decide) rfl (fun ls hl => ?_)
        obtain ⟨x2, ex⟩ : ∃ y : Int32, y = v4 + (1 : Int32) := ⟨_, rfl⟩
        replace hf := lt_at ex hf
        refine lv_iinc (v := x2) (lv' := [(4, .int x2), (3, .int x1), (0, .ref (ad 599)), (2, .int v2)]) hx hb dX10_valueOf_33 hl (k := 3) rfl (by rw [ex]; rfl) (by decide) rfl (fun ls hl => ?_)
        clear ex
        refine lv_goto (tgt := 5) hx hb dX10_valueOf_36 (by decide) ?_
        exact K5 v2 x1 x2 st _ _ ls hf (lv_sub hl [2, 3, 1, 0] rfl) hP hS
  refine lv_iconst (v := 0) hx hb dX10_valueOf_0 (by decide) ?_
  refine lv_istore_n (lv' := [(3, .int (0 : Int32)), (0, .ref (ad 599)), (1, .int a0), (2, .int a1)]) hx hb dX10_valueOf_1 rfl hl (by decide) rfl (fun ls hl => ?_)
  refine lv_iload_n hx hb dX10_valueOf_2 rfl (lv_at hl 2 rfl) ?_
  refine lv_istore (lv' := [(4, .int a0), (3, .int (0 : Int32)), (0, .ref (ad 599)), (1, .int a0), (2, .int a1)]) hx hb dX10_valueOf_3 hl (by decide) rfl (fun ls hl => ?_)
  exact L5 6000 a1 (0 : Int32) a0 st _ _ ls hf (lv_sub hl [2, 4, 1, 0] rfl) hP hS
def fX10_kindOfWord_b97 (fz : List FP) (k13 : Int32 → Int32 → Int32 → Int32 → Int32 → Int32 → St → Option (Int32 × St)) (v1 : Int32) (v2 : Int32) (v3 : Int32) (v4 : Int32) (v5 : Int32) (v6 : Int32) (st : St) : Option (Int32 × St) := lt (v6 + (1 : Int32)) (fun x1 => k13 v1 v2 v3 v4 v5 x1 st)
def fX10_kindOfWord_b88 (fz : List FP) (k13 : Int32 → Int32 → Int32 → Int32 → Int32 → Int32 → St → Option (Int32 × St)) (v1 : Int32) (v2 : Int32) (v3 : Int32) (v6 : Int32) (st : St) : Option (Int32 × St) := lt (v3 + (1 : Int32)) (fun x2 => fX10_kindOfWord_b97 fz k13 v1 v2 x2 v1 (1 : Int32) v6 st)
def fX10_kindOfWord_b67 (fz : List FP) (k13 : Int32 → Int32 → Int32 → Int32 → Int32 → Int32 → St → Option (Int32 × St)) (v1 : Int32) (v2 : Int32) (v3 : Int32) (v4 : Int32) (v6 : Int32) (w0 : Int32) (st : St) : Option (Int32 × St) := lt (v4 + (1 : Int32)) (fun x3 => fX10_kindOfWord_b97 fz k13 v1 v2 v3 x3 w0 v6 st)
def fX10_kindOfWord_b66 (fz : List FP) (k13 : Int32 → Int32 → Int32 → Int32 → Int32 → Int32 → St → Option (Int32 × St)) (v1 : Int32) (v2 : Int32) (v3 : Int32) (v4 : Int32) (v6 : Int32) (st : St) : Option (Int32 × St) := fX10_kindOfWord_b67 fz k13 v1 v2 v3 v4 v6 (0 : Int32) st
def fX10_kindOfWord_b13 (fz : List FP) (k13 : Int32 → Int32 → Int32 → Int32 → Int32 → Int32 → St → Option (Int32 × St)) (v1 : Int32) (v2 : Int32) (v3 : Int32) (v4 : Int32) (v5 : Int32) (v6 : Int32) (st : St) : Option (Int32 × St) := if (141 : Int32) ≤ v6 then (some ((258 : Int32), st)) else (gi v6 141 (lt (wordsF v6.toNatClampNeg) (fun x4 => if x4 = (32 : Int32) then (if v5 = 0 then (fX10_kindOfWord_b88 fz k13 v1 v2 v3 v6 st) else (if v4 = v2 then (some (v3, st)) else (fX10_kindOfWord_b88 fz k13 v1 v2 v3 v6 st))) else (if v5 = 0 then (fX10_kindOfWord_b66 fz k13 v1 v2 v3 v4 v6 st) else (if v2 ≤ v4 then (fX10_kindOfWord_b66 fz k13 v1 v2 v3 v4 v6 st) else (gi v4 400 (if (st.2.2.1 500 v4.toNatClampNeg) = x4 then (fX10_kindOfWord_b67 fz k13 v1 v2 v3 v4 v6 (1 : Int32) st) else (fX10_kindOfWord_b66 fz k13 v1 v2 v3 v4 v6 st))))))))
def fX10_kindOfWord (a0 : Int32) (a1 : Int32) (fz : List FP) (st : St) : Option (Int32 × St) := lp (fun _ _ _ _ _ _ _ => none) (fX10_kindOfWord_b13 fz) 6000 a0 a1 (300 : Int32) a0 (1 : Int32) (0 : Int32) st
set_option maxHeartbeats 4000000 in
set_option maxRecDepth 100000 in
theorem tX10_kindOfWord (l : Launch) (D : va_G) (cy : Nat → ClassId) (ad : Nat → Nat) (fz : List FP) (hJ : (cads ad fz).Nodup) (sz : Nat) (a0 : Int32) (a1 : Int32) (st : St) (rr : Int32) (st' : St) (hf : fX10_kindOfWord a0 a1 fz st = some (rr, st')) : Met l yX10_kindOfWord (Cond.code yX10_kindOfWord cX10_kindOfWord 8 (some .int) :: TT) (rmD 5) (cPc D cy ad fz [.ref (ad 599), .int a0, .int a1] st sz) (cQi D cy ad fz rr st' sz) 0 0 (cA ad fz sz) := by
  refine c_meti (by decide) hJ (Nat.le_of_ble_eq_true rfl) (fun p e s m args below meth c ls E hx hb hr hlocks hown hT hD hN hl hP hS => ?_)
  replace hl : lv_has ls 8 [(0, .ref (ad 599)), (1, .int a0), (2, .int a1)] := hl
  unfold fX10_kindOfWord at hf
  have L13 : ∀ (n : Nat) (v1 : Int32) (v2 : Int32) (v3 : Int32) (v4 : Int32) (v5 : Int32) (v6 : Int32) (st : St) (H : Heap) (locs : List Loc) (ls : Array Slot), lp (fun _ _ _ _ _ _ _ => none) (fX10_kindOfWord_b13 fz) n v1 v2 v3 v4 v5 v6 st = some (rr, st') → lv_has ls 8 [(0, .ref (ad 599)), (1, .int v1), (2, .int v2), (3, .int v3), (4, .int v4), (5, .int v5), (6, .int v6)] → va_P D classes (cx cy ad fz st) H → va_S (cA ad fz s.heap.size) s.heap H locs → cGi l 5 D cy ad fz rr st' p e s m args below meth c H locs (F0 m 13 ls []) := by
    intro n
    induction n with
    | zero => intro v1 v2 v3 v4 v5 v6 st H locs ls hf; exact absurd hf (fun h => by cases h)
    | succ n K13 =>
      intro v1 v2 v3 v4 v5 v6 st H locs ls hf hl hP hS
      replace hf : fX10_kindOfWord_b13 fz (lp (fun _ _ _ _ _ _ _ => none) (fX10_kindOfWord_b13 fz) n) v1 v2 v3 v4 v5 v6 st = some (rr, st') := hf
      generalize lp (fun _ _ _ _ _ _ _ => none) (fX10_kindOfWord_b13 fz) n = k13 at hf K13
      have B97 : ∀ (v1 : Int32) (v2 : Int32) (v3 : Int32) (v4 : Int32) (v5 : Int32) (v6 : Int32) (st : St) (H : Heap) (locs : List Loc) (ls : Array Slot), fX10_kindOfWord_b97 fz k13 v1 v2 v3 v4 v5 v6 st = some (rr, st') → lv_has ls 8 [(0, .ref (ad 599)), (1, .int v1), (2, .int v2), (3, .int v3), (4, .int v4), (5, .int v5), (6, .int v6)] → va_P D classes (cx cy ad fz st) H → va_S (cA ad fz s.heap.size) s.heap H locs → cGi l 5 D cy ad fz rr st' p e s m args below meth c H locs (F0 m 97 ls []) := by
        intro v1 v2 v3 v4 v5 v6 st H locs ls hf hl hP hS
        unfold fX10_kindOfWord_b97 at hf
        obtain ⟨x1, ex⟩ : ∃ y : Int32, y = v6 + (1 : Int32) := ⟨_, rfl⟩
        replace hf := lt_at ex hf
        refine lv_iinc (v := x1) (lv' := [(6, .int x1), (0, .ref (ad 599)), (1, .int v1), (2, .int v2), (3, .int v3), (4, .int v4), (5, .int v5)]) hx hb dX10_kindOfWord_97 hl (k := 6) rfl (by rw [ex]; rfl) (by decide) rfl (fun ls hl => ?_)
        clear ex
        refine lv_goto (tgt := 13) hx hb dX10_kindOfWord_100 (by decide) ?_
        exact K13 v1 v2 v3 v4 v5 x1 st _ _ ls hf (lv_sub hl [1, 2, 3, 4, 5, 6, 0] rfl) hP hS
      have B88 : ∀ (v1 : Int32) (v2 : Int32) (v3 : Int32) (v6 : Int32) (st : St) (H : Heap) (locs : List Loc) (ls : Array Slot), fX10_kindOfWord_b88 fz k13 v1 v2 v3 v6 st = some (rr, st') → lv_has ls 8 [(0, .ref (ad 599)), (1, .int v1), (2, .int v2), (3, .int v3), (6, .int v6)] → va_P D classes (cx cy ad fz st) H → va_S (cA ad fz s.heap.size) s.heap H locs → cGi l 5 D cy ad fz rr st' p e s m args below meth c H locs (F0 m 88 ls []) := by
        intro v1 v2 v3 v6 st H locs ls hf hl hP hS
        unfold fX10_kindOfWord_b88 at hf
        obtain ⟨x2, ex⟩ : ∃ y : Int32, y = v3 + (1 : Int32) := ⟨_, rfl⟩
        replace hf := lt_at ex hf
        refine lv_iinc (v := x2) (lv' := [(3, .int x2), (0, .ref (ad 599)), (1, .int v1), (2, .int v2), (6, .int v6)]) hx hb dX10_kindOfWord_88 hl (k := 3) rfl (by rw [ex]; rfl) (by decide) rfl (fun ls hl => ?_)
        clear ex
        refine lv_iload_n hx hb dX10_kindOfWord_91 rfl (lv_at hl 2 rfl) ?_
        refine lv_istore (lv' := [(4, .int v1), (3, .int x2), (0, .ref (ad 599)), (1, .int v1), (2, .int v2), (6, .int v6)]) hx hb dX10_kindOfWord_92 hl (by decide) rfl (fun ls hl => ?_)
        refine lv_iconst (v := 1) hx hb dX10_kindOfWord_94 (by decide) ?_
        refine lv_istore (lv' := [(5, .int (1 : Int32)), (4, .int v1), (3, .int x2), (0, .ref (ad 599)), (1, .int v1), (2, .int v2), (6, .int v6)]) hx hb dX10_kindOfWord_95 hl (by decide) rfl (fun ls hl => ?_)
        exact B97 v1 v2 x2 v1 (1 : Int32) v6 st _ _ ls hf (lv_sub hl [3, 4, 5, 2, 1, 0, 6] rfl) hP hS
      have B67 : ∀ (v1 : Int32) (v2 : Int32) (v3 : Int32) (v4 : Int32) (v6 : Int32) (w0 : Int32) (st : St) (H : Heap) (locs : List Loc) (ls : Array Slot), fX10_kindOfWord_b67 fz k13 v1 v2 v3 v4 v6 w0 st = some (rr, st') → lv_has ls 8 [(0, .ref (ad 599)), (1, .int v1), (2, .int v2), (3, .int v3), (4, .int v4), (6, .int v6)] → va_P D classes (cx cy ad fz st) H → va_S (cA ad fz s.heap.size) s.heap H locs → cGi l 5 D cy ad fz rr st' p e s m args below meth c H locs (F0 m 67 ls [.int w0]) := by
        intro v1 v2 v3 v4 v6 w0 st H locs ls hf hl hP hS
        unfold fX10_kindOfWord_b67 at hf
        refine lv_istore (lv' := [(5, .int w0), (0, .ref (ad 599)), (1, .int v1), (2, .int v2), (3, .int v3), (4, .int v4), (6, .int v6)]) hx hb dX10_kindOfWord_67 hl (by decide) rfl (fun ls hl => ?_)
        obtain ⟨x3, ex⟩ : ∃ y : Int32, y = v4 + (1 : Int32) := ⟨_, rfl⟩
        replace hf := lt_at ex hf
        refine lv_iinc (v := x3) (lv' := [(4, .int x3), (5, .int w0), (0, .ref (ad 599)), (1, .int v1), (2, .int v2), (3, .int v3), (6, .int v6)]) hx hb dX10_kindOfWord_69 hl (k := 5) rfl (by rw [ex]; rfl) (by decide) rfl (fun ls hl => ?_)
        clear ex
        refine lv_goto (tgt := 97) hx hb dX10_kindOfWord_72 (by decide) ?_
        exact B97 v1 v2 v3 x3 w0 v6 st _ _ ls hf (lv_sub hl [2, 3, 4, 5, 0, 1, 6] rfl) hP hS
      have B66 : ∀ (v1 : Int32) (v2 : Int32) (v3 : Int32) (v4 : Int32) (v6 : Int32) (st : St) (H : Heap) (locs : List Loc) (ls : Array Slot), fX10_kindOfWord_b66 fz k13 v1 v2 v3 v4 v6 st = some (rr, st') → lv_has ls 8 [(0, .ref (ad 599)), (1, .int v1), (2, .int v2), (3, .int v3), (4, .int v4), (6, .int v6)] → va_P D classes (cx cy ad fz st) H → va_S (cA ad fz s.heap.size) s.heap H locs → cGi l 5 D cy ad fz rr st' p e s m args below meth c H locs (F0 m 66 ls []) := by
        intro v1 v2 v3 v4 v6 st H locs ls hf hl hP hS
        unfold fX10_kindOfWord_b66 at hf
        refine lv_iconst (v := 0) hx hb dX10_kindOfWord_66 (by decide) ?_
        exact B67 v1 v2 v3 v4 v6 (0 : Int32) st _ _ ls hf hl hP hS
      unfold fX10_kindOfWord_b13 at hf
      refine lv_iload hx hb dX10_kindOfWord_13 (lv_at hl 6 rfl) ?_
      obtain ⟨adK, adV, hStr, hRf, hCS⟩ := hN.2.2.2
      refine str_ldc hx hb hown hRf dX10_kindOfWord_15 ?_
      refine str_len (rest := [.int v6]) E hStr hCS hS hl.1 (Nat.le_of_ble_eq_true rfl) (Nat.le_of_ble_eq_true rfl) ⟨Nat.le_refl _, Nat.le_refl _⟩ (Nat.le_of_ble_eq_true rfl) dX10_kindOfWord_17 ?_
      refine lv_icmp_ge (tgt := 103) hx hb dX10_kindOfWord_20 (by decide) (fun hc => ?_) (fun hc => ?_)
      · replace hf := it_pos hc hf
        refine lv_sipush (v := 258) hx hb dX10_kindOfWord_103 (by decide) ?_
        exact c_iret hx hb hr hlocks hf hP hS dX10_kindOfWord_106
      · replace hf := it_neg hc hf
        obtain ⟨adK, adV, hStr, hRf, hCS⟩ := hN.2.2.2
        refine str_ldc hx hb hown hRf dX10_kindOfWord_23 ?_
        refine lv_iload hx hb dX10_kindOfWord_25 (lv_at hl 6 rfl) ?_
        obtain ⟨hi, hf⟩ := gi_some hf
        refine str_at (rest := []) E hStr hCS hS hl.1 (Nat.le_of_ble_eq_true rfl) (Nat.le_of_ble_eq_true rfl) ⟨Nat.le_refl _, Nat.le_refl _⟩ (Nat.le_of_ble_eq_true rfl) hi dX10_kindOfWord_27 ?_
        refine lv_topi (fun x4 ex => ?_)
        replace hf := lt_at ex hf; clear ex
        refine lv_istore (lv' := [(7, .int x4), (0, .ref (ad 599)), (1, .int v1), (2, .int v2), (3, .int v3), (4, .int v4), (5, .int v5), (6, .int v6)]) hx hb dX10_kindOfWord_30 hl (by decide) rfl (fun ls hl => ?_)
        refine lv_iload hx hb dX10_kindOfWord_32 (lv_at hl 0 rfl) ?_
        refine lv_bipush (v := 32) hx hb dX10_kindOfWord_34 (by decide) ?_
        refine lv_icmp_eq (tgt := 75) hx hb dX10_kindOfWord_36 (by decide) (fun hc => ?_) (fun hc => ?_)
        · replace hf := it_pos hc hf
          refine lv_iload hx hb dX10_kindOfWord_75 (lv_at hl 6 rfl) ?_
          refine lv_if_eq (tgt := 88) hx hb dX10_kindOfWord_77 (by decide) (fun hc => ?_) (fun hc => ?_)
          · replace hf := it_pos hc hf
            exact B88 v1 v2 v3 v6 st _ _ ls hf (lv_sub hl [1, 2, 3, 4, 7] rfl) hP hS
          · replace hf := it_neg hc hf
            refine lv_iload hx hb dX10_kindOfWord_80 (lv_at hl 5 rfl) ?_
            refine lv_iload_n hx hb dX10_kindOfWord_82 rfl (lv_at hl 3 rfl) ?_
            refine lv_icmp_ne (tgt := 88) hx hb dX10_kindOfWord_83 (by decide) (fun hc => ?_) (fun hc => ?_)
            · replace hf := it_neg hc hf
              exact B88 v1 v2 v3 v6 st _ _ ls hf (lv_sub hl [1, 2, 3, 4, 7] rfl) hP hS
            · replace hf := it_pos hc hf
              refine lv_iload_n hx hb dX10_kindOfWord_86 rfl (lv_at hl 4 rfl) ?_
              exact c_iret hx hb hr hlocks hf hP hS dX10_kindOfWord_87
        · replace hf := it_neg hc hf
          refine lv_iload hx hb dX10_kindOfWord_39 (lv_at hl 6 rfl) ?_
          refine lv_if_eq (tgt := 66) hx hb dX10_kindOfWord_41 (by decide) (fun hc => ?_) (fun hc => ?_)
          · replace hf := it_pos hc hf
            exact B66 v1 v2 v3 v4 v6 st _ _ ls hf (lv_sub hl [1, 2, 3, 4, 5, 7] rfl) hP hS
          · replace hf := it_neg hc hf
            refine lv_iload hx hb dX10_kindOfWord_44 (lv_at hl 5 rfl) ?_
            refine lv_iload_n hx hb dX10_kindOfWord_46 rfl (lv_at hl 3 rfl) ?_
            refine lv_icmp_ge (tgt := 66) hx hb dX10_kindOfWord_47 (by decide) (fun hc => ?_) (fun hc => ?_)
            · replace hf := it_pos hc hf
              exact B66 v1 v2 v3 v4 v6 st _ _ ls hf (lv_sub hl [1, 2, 3, 4, 5, 7] rfl) hP hS
            · replace hf := it_neg hc hf
              refine lv_aload_n hx hb dX10_kindOfWord_50 rfl (lv_at hl 1 rfl) ?_
              refine cg_10_9_5 E hP dX10_kindOfWord_51 ?_
              refine lv_iload hx hb dX10_kindOfWord_54 (lv_at hl 5 rfl) ?_
              obtain ⟨hi, hf⟩ := gi_some hf
              refine cl_500 E hP hi dX10_kindOfWord_56 ?_
              refine lv_iload hx hb dX10_kindOfWord_57 (lv_at hl 0 rfl) ?_
              refine lv_icmp_ne (tgt := 66) hx hb dX10_kindOfWord_59 (by decide) (fun hc => ?_) (fun hc => ?_)
              · replace hf := it_neg hc hf
                exact B66 v1 v2 v3 v4 v6 st _ _ ls hf (lv_sub hl [1, 2, 3, 4, 5, 7] rfl) hP hS
              · replace hf := it_pos hc hf
                refine lv_iconst (v := 1) hx hb dX10_kindOfWord_62 (by decide) ?_
                refine lv_goto (tgt := 67) hx hb dX10_kindOfWord_63 (by decide) ?_
                exact B67 v1 v2 v3 v4 v6 (1 : Int32) st _ _ ls hf (lv_sub hl [1, 2, 3, 4, 5, 7] rfl) hP hS
  refine lv_sipush (v := 300) hx hb dX10_kindOfWord_0 (by decide) ?_
  refine lv_istore_n (lv' := [(3, .int (300 : Int32)), (0, .ref (ad 599)), (1, .int a0), (2, .int a1)]) hx hb dX10_kindOfWord_3 rfl hl (by decide) rfl (fun ls hl => ?_)
  refine lv_iload_n hx hb dX10_kindOfWord_4 rfl (lv_at hl 2 rfl) ?_
  refine lv_istore (lv' := [(4, .int a0), (3, .int (300 : Int32)), (0, .ref (ad 599)), (1, .int a0), (2, .int a1)]) hx hb dX10_kindOfWord_5 hl (by decide) rfl (fun ls hl => ?_)
  refine lv_iconst (v := 1) hx hb dX10_kindOfWord_7 (by decide) ?_
  refine lv_istore (lv' := [(5, .int (1 : Int32)), (4, .int a0), (3, .int (300 : Int32)), (0, .ref (ad 599)), (1, .int a0), (2, .int a1)]) hx hb dX10_kindOfWord_8 hl (by decide) rfl (fun ls hl => ?_)
  refine lv_iconst (v := 0) hx hb dX10_kindOfWord_10 (by decide) ?_
  refine lv_istore (lv' := [(6, .int (0 : Int32)), (5, .int (1 : Int32)), (4, .int a0), (3, .int (300 : Int32)), (0, .ref (ad 599)), (1, .int a0), (2, .int a1)]) hx hb dX10_kindOfWord_11 hl (by decide) rfl (fun ls hl => ?_)
  exact L13 6000 a0 a1 (300 : Int32) a0 (1 : Int32) (0 : Int32) st _ _ ls hf (lv_sub hl [4, 5, 6, 3, 2, 1, 0] rfl) hP hS
def fX10_keep_b107 (fz : List FP) (st : St) : Option (Unit × St) := lt (sI st 505 ((st.1 505) + (1 : Int32))) (fun st1 => some ((), st1))
def fX10_keep (a0 : Int32) (a1 : Int32) (fz : List FP) (st : St) : Option (Unit × St) := gi (st.1 505) 401 (lt (sA st 502 (upd (st.2.2.1 502) (st.1 505).toNatClampNeg a0)) (fun st2 => gi (st2.1 505) 401 (lt (sA st2 503 (upd (st2.2.2.1 503) (st2.1 505).toNatClampNeg (0 : Int32))) (fun st3 => gi a0 400 (bs (fX10_isLetter (st3.2.2.1 500 a0.toNatClampNeg)) (fun r4 => if r4 = 0 then (gi a0 400 (bs (fX10_isDigit (st3.2.2.1 500 a0.toNatClampNeg)) (fun r5 => if r5 = 0 then (gi a0 400 (gi (st3.1 505) 401 (lt (sA st3 501 (upd (st3.2.2.1 501) (st3.1 505).toNatClampNeg (st3.2.2.1 500 a0.toNatClampNeg))) (fun st6 => fX10_keep_b107 fz st6)))) else (gi (st3.1 505) 401 (lt (sA st3 501 (upd (st3.2.2.1 501) (st3.1 505).toNatClampNeg (256 : Int32))) (fun st7 => bd (fX10_valueOf a0 a1 fz st7) (fun r8 st9 => gi (st7.1 505) 401 (lt (sA st9 503 (upd (st9.2.2.1 503) (st7.1 505).toNatClampNeg r8)) (fun st10 => fX10_keep_b107 fz st10))))))))) else (bd (fX10_kindOfWord a0 a1 fz st3) (fun r11 st12 => gi (st3.1 505) 401 (lt (sA st12 501 (upd (st12.2.2.1 501) (st3.1 505).toNatClampNeg r11)) (fun st13 => fX10_keep_b107 fz st13))))))))))
set_option maxHeartbeats 4000000 in
set_option maxRecDepth 100000 in
theorem tX10_keep (l : Launch) (D : va_G) (cy : Nat → ClassId) (ad : Nat → Nat) (fz : List FP) (hJ : (cads ad fz).Nodup) (sz : Nat) (a0 : Int32) (a1 : Int32) (st : St) (rr : Unit) (st' : St) (hf : fX10_keep a0 a1 fz st = some (rr, st')) : Met l yX10_keep (Cond.code yX10_keep cX10_keep 3 none :: TT) (rmD 6) (cPc D cy ad fz [.ref (ad 599), .int a0, .int a1] st sz) (cQv D cy ad fz rr st' sz) 0 0 (cA ad fz sz) := by
  refine c_metv (by decide) hJ (Nat.le_of_ble_eq_true rfl) (fun p e s m args below meth c ls E hx hb hr hlocks hown hT hD hN hl hP hS => ?_)
  replace hl : lv_has ls 3 [(0, .ref (ad 599)), (1, .int a0), (2, .int a1)] := hl
  unfold fX10_keep at hf
  have B107 : ∀ (st : St) (H : Heap) (locs : List Loc) (ls : Array Slot), fX10_keep_b107 fz st = some (rr, st') → lv_has ls 3 [(0, .ref (ad 599))] → va_P D classes (cx cy ad fz st) H → va_S (cA ad fz s.heap.size) s.heap H locs → cGv l 6 D cy ad fz rr st' p e s m args below meth c H locs (F0 m 107 ls []) := by
    intro st H locs ls hf hl hP hS
    unfold fX10_keep_b107 at hf
    refine lv_aload_n hx hb dX10_keep_107 rfl (lv_at hl 0 rfl) ?_
    refine lv_dup hx hb dX10_keep_108 rfl ?_
    refine cg_10_26_5 E hP dX10_keep_109 ?_
    refine lv_iconst (v := 1) hx hb dX10_keep_112 (by decide) ?_
    refine lv_iadd hx hb dX10_keep_113 ?_
    refine cp_10_26_5 E hD hP hS dX10_keep_114 (fun st1 H locs ex hP hS => ?_)
    replace hf := lt_at ex hf; clear ex
    exact c_vret hx hb hr hlocks hf hP hS dX10_keep_117
  refine lv_aload_n hx hb dX10_keep_0 rfl (lv_at hl 0 rfl) ?_
  refine cg_10_16_5 E hP dX10_keep_1 ?_
  refine lv_aload_n hx hb dX10_keep_4 rfl (lv_at hl 0 rfl) ?_
  refine cg_10_26_5 E hP dX10_keep_5 ?_
  refine lv_iload_n hx hb dX10_keep_8 rfl (lv_at hl 1 rfl) ?_
  obtain ⟨hi, hf⟩ := gi_some hf
  refine cs_502 E hD hP hS hi dX10_keep_9 (fun st2 H locs ex hP hS => ?_)
  replace hf := lt_at ex hf; clear ex
  refine lv_aload_n hx hb dX10_keep_10 rfl (lv_at hl 0 rfl) ?_
  refine cg_10_19_5 E hP dX10_keep_11 ?_
  refine lv_aload_n hx hb dX10_keep_14 rfl (lv_at hl 0 rfl) ?_
  refine cg_10_26_5 E hP dX10_keep_15 ?_
  refine lv_iconst (v := 0) hx hb dX10_keep_18 (by decide) ?_
  obtain ⟨hi, hf⟩ := gi_some hf
  refine cs_503 E hD hP hS hi dX10_keep_19 (fun st3 H locs ex hP hS => ?_)
  replace hf := lt_at ex hf; clear ex
  refine lv_aload_n hx hb dX10_keep_20 rfl (lv_at hl 0 rfl) ?_
  refine cg_10_9_5 E hP dX10_keep_21 ?_
  refine lv_iload_n hx hb dX10_keep_24 rfl (lv_at hl 1 rfl) ?_
  obtain ⟨hi, hf⟩ := gi_some hf
  refine cl_500 E hP hi dX10_keep_25 ?_
  obtain ⟨r4, hc, hf⟩ := bs_some hf
  refine s_calli (n := 1) (rest := []) E.1 (tX10_isLetter l _ (st3.2.2.1 500 a0.toNatClampNeg) r4 hc) (gS k_603 k_604 k_7 k_605) qX10_isLetter ⟨Nat.le_of_ble_eq_true rfl, Nat.le_of_ble_eq_true rfl⟩ ⟨Nat.le_refl _, Nat.le_refl _⟩ rfl hl.1 rfl (Nat.le_of_ble_eq_true rfl) dX10_keep_26 ?_
  refine lv_if_eq (tgt := 50) hx hb dX10_keep_29 (by decide) (fun hc => ?_) (fun hc => ?_)
  · replace hf := it_pos hc hf
    refine lv_aload_n hx hb dX10_keep_50 rfl (lv_at hl 0 rfl) ?_
    refine cg_10_9_5 E hP dX10_keep_51 ?_
    refine lv_iload_n hx hb dX10_keep_54 rfl (lv_at hl 1 rfl) ?_
    obtain ⟨hi, hf⟩ := gi_some hf
    refine cl_500 E hP hi dX10_keep_55 ?_
    obtain ⟨r5, hc, hf⟩ := bs_some hf
    refine s_calli (n := 1) (rest := []) E.1 (tX10_isDigit l _ (st3.2.2.1 500 a0.toNatClampNeg) r5 hc) (gS k_606 k_607 k_7 k_608) qX10_isDigit ⟨Nat.le_of_ble_eq_true rfl, Nat.le_of_ble_eq_true rfl⟩ ⟨Nat.le_refl _, Nat.le_refl _⟩ rfl hl.1 rfl (Nat.le_of_ble_eq_true rfl) dX10_keep_56 ?_
    refine lv_if_eq (tgt := 92) hx hb dX10_keep_59 (by decide) (fun hc => ?_) (fun hc => ?_)
    · replace hf := it_pos hc hf
      refine lv_aload_n hx hb dX10_keep_92 rfl (lv_at hl 0 rfl) ?_
      refine cg_10_13_5 E hP dX10_keep_93 ?_
      refine lv_aload_n hx hb dX10_keep_96 rfl (lv_at hl 0 rfl) ?_
      refine cg_10_26_5 E hP dX10_keep_97 ?_
      refine lv_aload_n hx hb dX10_keep_100 rfl (lv_at hl 0 rfl) ?_
      refine cg_10_9_5 E hP dX10_keep_101 ?_
      refine lv_iload_n hx hb dX10_keep_104 rfl (lv_at hl 1 rfl) ?_
      obtain ⟨hi, hf⟩ := gi_some hf
      refine cl_500 E hP hi dX10_keep_105 ?_
      obtain ⟨hi, hf⟩ := gi_some hf
      refine cs_501 E hD hP hS hi dX10_keep_106 (fun st6 H locs ex hP hS => ?_)
      replace hf := lt_at ex hf; clear ex
      exact B107 st6 _ _ ls hf (lv_sub hl [0] rfl) hP hS
    · replace hf := it_neg hc hf
      refine lv_aload_n hx hb dX10_keep_62 rfl (lv_at hl 0 rfl) ?_
      refine cg_10_13_5 E hP dX10_keep_63 ?_
      refine lv_aload_n hx hb dX10_keep_66 rfl (lv_at hl 0 rfl) ?_
      refine cg_10_26_5 E hP dX10_keep_67 ?_
      refine lv_sipush (v := 256) hx hb dX10_keep_70 (by decide) ?_
      obtain ⟨hi, hf⟩ := gi_some hf
      refine cs_501 E hD hP hS hi dX10_keep_73 (fun st7 H locs ex hP hS => ?_)
      replace hf := lt_at ex hf; clear ex
      refine lv_aload_n hx hb dX10_keep_74 rfl (lv_at hl 0 rfl) ?_
      refine cg_10_19_5 E hP dX10_keep_75 ?_
      refine lv_aload_n hx hb dX10_keep_78 rfl (lv_at hl 0 rfl) ?_
      refine cg_10_26_5 E hP dX10_keep_79 ?_
      refine lv_aload_n hx hb dX10_keep_82 rfl (lv_at hl 0 rfl) ?_
      refine lv_iload_n hx hb dX10_keep_83 rfl (lv_at hl 1 rfl) ?_
      refine lv_iload_n hx hb dX10_keep_84 rfl (lv_at hl 2 rfl) ?_
      obtain ⟨r8, st9, hc, hf⟩ := bd_some hf
      refine c_calli (n := 2) (rest := [.int (st7.1 505), .ref (ad 503)]) E hN hP hS (fun sz => tX10_valueOf l D cy ad fz hJ sz a0 a1 st7 r8 st9 hc) (va_recv E.2 hP (ci := 10) (q0 := 25) rfl rfl) (gV k_666 k_668 ks_7 k_7 k_669) qX10_valueOf ⟨Nat.le_of_ble_eq_true rfl, Nat.le_of_ble_eq_true rfl⟩ ⟨Nat.le_refl _, Nat.le_refl _⟩ rfl hl.1 rfl (Nat.le_of_ble_eq_true rfl) dX10_keep_85 (fun H locs hP hS => ?_)
      obtain ⟨hi, hf⟩ := gi_some hf
      refine cs_503 E hD hP hS hi dX10_keep_88 (fun st10 H locs ex hP hS => ?_)
      replace hf := lt_at ex hf; clear ex
      refine lv_goto (tgt := 107) hx hb dX10_keep_89 (by decide) ?_
      exact B107 st10 _ _ ls hf (lv_sub hl [0] rfl) hP hS
  · replace hf := it_neg hc hf
    refine lv_aload_n hx hb dX10_keep_32 rfl (lv_at hl 0 rfl) ?_
    refine cg_10_13_5 E hP dX10_keep_33 ?_
    refine lv_aload_n hx hb dX10_keep_36 rfl (lv_at hl 0 rfl) ?_
    refine cg_10_26_5 E hP dX10_keep_37 ?_
    refine lv_aload_n hx hb dX10_keep_40 rfl (lv_at hl 0 rfl) ?_
    refine lv_iload_n hx hb dX10_keep_41 rfl (lv_at hl 1 rfl) ?_
    refine lv_iload_n hx hb dX10_keep_42 rfl (lv_at hl 2 rfl) ?_
    obtain ⟨r11, st12, hc, hf⟩ := bd_some hf
    refine c_calli (n := 2) (rest := [.int (st3.1 505), .ref (ad 501)]) E hN hP hS (fun sz => tX10_kindOfWord l D cy ad fz hJ sz a0 a1 st3 r11 st12 hc) (va_recv E.2 hP (ci := 10) (q0 := 25) rfl rfl) (gV k_613 k_615 ks_6 k_7 k_616) qX10_kindOfWord ⟨Nat.le_of_ble_eq_true rfl, Nat.le_of_ble_eq_true rfl⟩ ⟨Nat.le_refl _, Nat.le_refl _⟩ rfl hl.1 rfl (Nat.le_of_ble_eq_true rfl) dX10_keep_43 (fun H locs hP hS => ?_)
    obtain ⟨hi, hf⟩ := gi_some hf
    refine cs_501 E hD hP hS hi dX10_keep_46 (fun st13 H locs ex hP hS => ?_)
    replace hf := lt_at ex hf; clear ex
    refine lv_goto (tgt := 107) hx hb dX10_keep_47 (by decide) ?_
    exact B107 st13 _ _ ls hf (lv_sub hl [0] rfl) hP hS
def fX10_split_b55 (fz : List FP) (st : St) : Option (Unit × St) := gi (st.1 505) 401 (lt (sA st 501 (upd (st.2.2.1 501) (st.1 505).toNatClampNeg (257 : Int32))) (fun st1 => gi (st1.1 505) 401 (lt (sA st1 502 (upd (st1.2.2.1 502) (st1.1 505).toNatClampNeg (st1.1 504))) (fun st2 => lt (sI st2 505 ((st2.1 505) + (1 : Int32))) (fun st3 => some ((), st3))))))
def fX10_split_b47 (fz : List FP) (k9 : Int32 → Int32 → St → Option (Unit × St)) (v2 : Int32) (v3 : Int32) (st : St) : Option (Unit × St) := lt (v2 + (1 : Int32)) (fun x4 => k9 v3 x4 st)
def fX10_split_b9 (fz : List FP) (k9 : Int32 → Int32 → St → Option (Unit × St)) (v1 : Int32) (v2 : Int32) (st : St) : Option (Unit × St) := if (400 : Int32) ≤ v2 then (fX10_split_b55 fz st) else (if (st.1 504) ≤ v1 then (fX10_split_b55 fz st) else (bd (fX10_endOfToken v1 fz st) (fun r5 st6 => gi v1 400 (if (st6.2.2.1 500 v1.toNatClampNeg) = (32 : Int32) then (fX10_split_b47 fz k9 v2 r5 st6) else (bd (fX10_keep v1 r5 fz st6) (fun r7 st8 => fX10_split_b47 fz k9 v2 r5 st8))))))
def fX10_split (fz : List FP) (st : St) : Option (Unit × St) := lt (sI st 505 (0 : Int32)) (fun st9 => lp (fun _ _ _ => none) (fX10_split_b9 fz) 6000 (0 : Int32) (0 : Int32) st9)
set_option maxHeartbeats 4000000 in
set_option maxRecDepth 100000 in
theorem tX10_split (l : Launch) (D : va_G) (cy : Nat → ClassId) (ad : Nat → Nat) (fz : List FP) (hJ : (cads ad fz).Nodup) (sz : Nat) (st : St) (rr : Unit) (st' : St) (hf : fX10_split fz st = some (rr, st')) : Met l yX10_split (Cond.code yX10_split cX10_split 4 none :: TT) (rmD 7) (cPc D cy ad fz [.ref (ad 599)] st sz) (cQv D cy ad fz rr st' sz) 0 0 (cA ad fz sz) := by
  refine c_metv (by decide) hJ (Nat.le_of_ble_eq_true rfl) (fun p e s m args below meth c ls E hx hb hr hlocks hown hT hD hN hl hP hS => ?_)
  replace hl : lv_has ls 4 [(0, .ref (ad 599))] := hl
  unfold fX10_split at hf
  have B55 : ∀ (st : St) (H : Heap) (locs : List Loc) (ls : Array Slot), fX10_split_b55 fz st = some (rr, st') → lv_has ls 4 [(0, .ref (ad 599))] → va_P D classes (cx cy ad fz st) H → va_S (cA ad fz s.heap.size) s.heap H locs → cGv l 7 D cy ad fz rr st' p e s m args below meth c H locs (F0 m 55 ls []) := by
    intro st H locs ls hf hl hP hS
    unfold fX10_split_b55 at hf
    refine lv_aload_n hx hb dX10_split_55 rfl (lv_at hl 0 rfl) ?_
    refine cg_10_13_5 E hP dX10_split_56 ?_
    refine lv_aload_n hx hb dX10_split_59 rfl (lv_at hl 0 rfl) ?_
    refine cg_10_26_5 E hP dX10_split_60 ?_
    refine lv_sipush (v := 257) hx hb dX10_split_63 (by decide) ?_
    obtain ⟨hi, hf⟩ := gi_some hf
    refine cs_501 E hD hP hS hi dX10_split_66 (fun st1 H locs ex hP hS => ?_)
    replace hf := lt_at ex hf; clear ex
    refine lv_aload_n hx hb dX10_split_67 rfl (lv_at hl 0 rfl) ?_
    refine cg_10_16_5 E hP dX10_split_68 ?_
    refine lv_aload_n hx hb dX10_split_71 rfl (lv_at hl 0 rfl) ?_
    refine cg_10_26_5 E hP dX10_split_72 ?_
    refine lv_aload_n hx hb dX10_split_75 rfl (lv_at hl 0 rfl) ?_
    refine cg_10_22_5 E hP dX10_split_76 ?_
    obtain ⟨hi, hf⟩ := gi_some hf
    refine cs_502 E hD hP hS hi dX10_split_79 (fun st2 H locs ex hP hS => ?_)
    replace hf := lt_at ex hf; clear ex
    refine lv_aload_n hx hb dX10_split_80 rfl (lv_at hl 0 rfl) ?_
    refine lv_dup hx hb dX10_split_81 rfl ?_
    refine cg_10_26_5 E hP dX10_split_82 ?_
    refine lv_iconst (v := 1) hx hb dX10_split_85 (by decide) ?_
    refine lv_iadd hx hb dX10_split_86 ?_
    refine cp_10_26_5 E hD hP hS dX10_split_87 (fun st3 H locs ex hP hS => ?_)
    replace hf := lt_at ex hf; clear ex
    exact c_vret hx hb hr hlocks hf hP hS dX10_split_90
  have L9 : ∀ (n : Nat) (v1 : Int32) (v2 : Int32) (st : St) (H : Heap) (locs : List Loc) (ls : Array Slot), lp (fun _ _ _ => none) (fX10_split_b9 fz) n v1 v2 st = some (rr, st') → lv_has ls 4 [(0, .ref (ad 599)), (1, .int v1), (2, .int v2)] → va_P D classes (cx cy ad fz st) H → va_S (cA ad fz s.heap.size) s.heap H locs → cGv l 7 D cy ad fz rr st' p e s m args below meth c H locs (F0 m 9 ls []) := by
    intro n
    induction n with
    | zero => intro v1 v2 st H locs ls hf; exact absurd hf (fun h => by cases h)
    | succ n K9 =>
      intro v1 v2 st H locs ls hf hl hP hS
      replace hf : fX10_split_b9 fz (lp (fun _ _ _ => none) (fX10_split_b9 fz) n) v1 v2 st = some (rr, st') := hf
      generalize lp (fun _ _ _ => none) (fX10_split_b9 fz) n = k9 at hf K9
      have B47 : ∀ (v2 : Int32) (v3 : Int32) (st : St) (H : Heap) (locs : List Loc) (ls : Array Slot), fX10_split_b47 fz k9 v2 v3 st = some (rr, st') → lv_has ls 4 [(0, .ref (ad 599)), (2, .int v2), (3, .int v3)] → va_P D classes (cx cy ad fz st) H → va_S (cA ad fz s.heap.size) s.heap H locs → cGv l 7 D cy ad fz rr st' p e s m args below meth c H locs (F0 m 47 ls []) := by
        intro v2 v3 st H locs ls hf hl hP hS
        unfold fX10_split_b47 at hf
        refine lv_iload_n hx hb dX10_split_47 rfl (lv_at hl 2 rfl) ?_
        refine lv_istore_n (lv' := [(1, .int v3), (0, .ref (ad 599)), (2, .int v2), (3, .int v3)]) hx hb dX10_split_48 rfl hl (by decide) rfl (fun ls hl => ?_)
        obtain ⟨x4, ex⟩ : ∃ y : Int32, y = v2 + (1 : Int32) := ⟨_, rfl⟩
        replace hf := lt_at ex hf
        refine lv_iinc (v := x4) (lv' := [(2, .int x4), (1, .int v3), (0, .ref (ad 599)), (3, .int v3)]) hx hb dX10_split_49 hl (k := 2) rfl (by rw [ex]; rfl) (by decide) rfl (fun ls hl => ?_)
        clear ex
        refine lv_goto (tgt := 9) hx hb dX10_split_52 (by decide) ?_
        exact K9 v3 x4 st _ _ ls hf (lv_sub hl [2, 1, 0] rfl) hP hS
      unfold fX10_split_b9 at hf
      refine lv_iload_n hx hb dX10_split_9 rfl (lv_at hl 2 rfl) ?_
      refine lv_sipush (v := 400) hx hb dX10_split_10 (by decide) ?_
      refine lv_icmp_ge (tgt := 55) hx hb dX10_split_13 (by decide) (fun hc => ?_) (fun hc => ?_)
      · replace hf := it_pos hc hf
        exact B55 st _ _ ls hf (lv_sub hl [0] rfl) hP hS
      · replace hf := it_neg hc hf
        refine lv_iload_n hx hb dX10_split_16 rfl (lv_at hl 1 rfl) ?_
        refine lv_aload_n hx hb dX10_split_17 rfl (lv_at hl 0 rfl) ?_
        refine cg_10_22_5 E hP dX10_split_18 ?_
        refine lv_icmp_ge (tgt := 55) hx hb dX10_split_21 (by decide) (fun hc => ?_) (fun hc => ?_)
        · replace hf := it_pos hc hf
          exact B55 st _ _ ls hf (lv_sub hl [0] rfl) hP hS
        · replace hf := it_neg hc hf
          refine lv_aload_n hx hb dX10_split_24 rfl (lv_at hl 0 rfl) ?_
          refine lv_iload_n hx hb dX10_split_25 rfl (lv_at hl 1 rfl) ?_
          obtain ⟨r5, st6, hc, hf⟩ := bd_some hf
          refine c_calli (n := 1) (rest := []) E hN hP hS (fun sz => tX10_endOfToken l D cy ad fz hJ sz v1 st r5 st6 hc) (va_recv E.2 hP (ci := 10) (q0 := 25) rfl rfl) (gV k_599 k_601 ks_4 k_7 k_602) qX10_endOfToken ⟨Nat.le_of_ble_eq_true rfl, Nat.le_of_ble_eq_true rfl⟩ ⟨Nat.le_refl _, Nat.le_refl _⟩ rfl hl.1 rfl (Nat.le_of_ble_eq_true rfl) dX10_split_26 (fun H locs hP hS => ?_)
          refine lv_istore_n (lv' := [(3, .int r5), (0, .ref (ad 599)), (1, .int v1), (2, .int v2)]) hx hb dX10_split_29 rfl hl (by decide) rfl (fun ls hl => ?_)
          refine lv_aload_n hx hb dX10_split_30 rfl (lv_at hl 1 rfl) ?_
          refine cg_10_9_5 E hP dX10_split_31 ?_
          refine lv_iload_n hx hb dX10_split_34 rfl (lv_at hl 2 rfl) ?_
          obtain ⟨hi, hf⟩ := gi_some hf
          refine cl_500 E hP hi dX10_split_35 ?_
          refine lv_bipush (v := 32) hx hb dX10_split_36 (by decide) ?_
          refine lv_icmp_eq (tgt := 47) hx hb dX10_split_38 (by decide) (fun hc => ?_) (fun hc => ?_)
          · replace hf := it_pos hc hf
            exact B47 v2 r5 st6 _ _ ls hf (lv_sub hl [1, 3, 0] rfl) hP hS
          · replace hf := it_neg hc hf
            refine lv_aload_n hx hb dX10_split_41 rfl (lv_at hl 1 rfl) ?_
            refine lv_iload_n hx hb dX10_split_42 rfl (lv_at hl 2 rfl) ?_
            refine lv_iload_n hx hb dX10_split_43 rfl (lv_at hl 0 rfl) ?_
            obtain ⟨r7, st8, hc, hf⟩ := bd_some hf
            refine c_callv (n := 2) (rest := []) E hN hP hS (fun sz => tX10_keep l D cy ad fz hJ sz v1 r5 st6 r7 st8 hc) (va_recv E.2 hP (ci := 10) (q0 := 25) rfl rfl) (gV k_609 k_611 ks_5 k_7 k_612) qX10_keep ⟨Nat.le_of_ble_eq_true rfl, Nat.le_of_ble_eq_true rfl⟩ ⟨Nat.le_refl _, Nat.le_refl _⟩ rfl hl.1 rfl (Nat.le_of_ble_eq_true rfl) dX10_split_44 (fun H locs hP hS => ?_)
            exact B47 v2 r5 st8 _ _ ls hf (lv_sub hl [1, 3, 0] rfl) hP hS
  refine lv_aload_n hx hb dX10_split_0 rfl (lv_at hl 0 rfl) ?_
  refine lv_iconst (v := 0) hx hb dX10_split_1 (by decide) ?_
  refine cp_10_26_5 E hD hP hS dX10_split_2 (fun st9 H locs ex hP hS => ?_)
  replace hf := lt_at ex hf; clear ex
  refine lv_iconst (v := 0) hx hb dX10_split_5 (by decide) ?_
  refine lv_istore_n (lv' := [(1, .int (0 : Int32)), (0, .ref (ad 599))]) hx hb dX10_split_6 rfl hl (by decide) rfl (fun ls hl => ?_)
  refine lv_iconst (v := 0) hx hb dX10_split_7 (by decide) ?_
  refine lv_istore_n (lv' := [(2, .int (0 : Int32)), (1, .int (0 : Int32)), (0, .ref (ad 599))]) hx hb dX10_split_8 rfl hl (by decide) rfl (fun ls hl => ?_)
  exact L9 6000 (0 : Int32) (0 : Int32) st9 _ _ ls hf (lv_sub hl [2, 1, 0] rfl) hP hS
def fX8_clear (fz : List FP) (st : St) : Option (Unit × St) := lt (sI st 604 (0 : Int32)) (fun st1 => lt (sI st1 605 (0 : Int32)) (fun st2 => some ((), st2)))
set_option maxHeartbeats 4000000 in
set_option maxRecDepth 100000 in
theorem tX8_clear (l : Launch) (D : va_G) (cy : Nat → ClassId) (ad : Nat → Nat) (fz : List FP) (hJ : (cads ad fz).Nodup) (sz : Nat) (st : St) (rr : Unit) (st' : St) (hf : fX8_clear fz st = some (rr, st')) : Met l yX8_clear (Cond.code yX8_clear cX8_clear 1 none :: TT) (rmD 0) (cPc D cy ad fz [.ref (ad 699)] st sz) (cQv D cy ad fz rr st' sz) 0 0 (cA ad fz sz) := by
  refine c_metv (by decide) hJ (Nat.le_of_ble_eq_true rfl) (fun p e s m args below meth c ls E hx hb hr hlocks hown hT hD hN hl hP hS => ?_)
  replace hl : lv_has ls 1 [(0, .ref (ad 699))] := hl
  unfold fX8_clear at hf
  refine lv_aload_n hx hb dX8_clear_0 rfl (lv_at hl 0 rfl) ?_
  refine lv_iconst (v := 0) hx hb dX8_clear_1 (by decide) ?_
  refine cp_8_34_6 E hD hP hS dX8_clear_2 (fun st1 H locs ex hP hS => ?_)
  replace hf := lt_at ex hf; clear ex
  refine lv_aload_n hx hb dX8_clear_5 rfl (lv_at hl 0 rfl) ?_
  refine lv_iconst (v := 0) hx hb dX8_clear_6 (by decide) ?_
  refine cp_8_24_6 E hD hP hS dX8_clear_7 (fun st2 H locs ex hP hS => ?_)
  replace hf := lt_at ex hf; clear ex
  exact c_vret hx hb hr hlocks hf hP hS dX8_clear_10
def fX9_lookAt_b42 (fz : List FP) (st : St) : Option (Unit × St) := some ((), st)
def fX9_lookAt (a0 : Int32) (fz : List FP) (st : St) : Option (Unit × St) := if (st.1 505) ≤ a0 then (fX9_lookAt_b42 fz st) else (lt (sI st 704 a0) (fun st1 => gi a0 401 (lt (sI st1 705 (st1.2.2.1 501 a0.toNatClampNeg)) (fun st2 => gi a0 401 (lt (sI st2 706 (st2.2.2.1 503 a0.toNatClampNeg)) (fun st3 => fX9_lookAt_b42 fz st3))))))
set_option maxHeartbeats 4000000 in
set_option maxRecDepth 100000 in
theorem tX9_lookAt (l : Launch) (D : va_G) (cy : Nat → ClassId) (ad : Nat → Nat) (fz : List FP) (hJ : (cads ad fz).Nodup) (sz : Nat) (a0 : Int32) (st : St) (rr : Unit) (st' : St) (hf : fX9_lookAt a0 fz st = some (rr, st')) : Met l yX9_lookAt (Cond.code yX9_lookAt cX9_lookAt 2 none :: TT) (rmD 0) (cPc D cy ad fz [.ref (ad 799), .int a0] st sz) (cQv D cy ad fz rr st' sz) 0 0 (cA ad fz sz) := by
  refine c_metv (by decide) hJ (Nat.le_of_ble_eq_true rfl) (fun p e s m args below meth c ls E hx hb hr hlocks hown hT hD hN hl hP hS => ?_)
  replace hl : lv_has ls 2 [(0, .ref (ad 799)), (1, .int a0)] := hl
  unfold fX9_lookAt at hf
  have B42 : ∀ (st : St) (H : Heap) (locs : List Loc) (ls : Array Slot), fX9_lookAt_b42 fz st = some (rr, st') → lv_has ls 2 [] → va_P D classes (cx cy ad fz st) H → va_S (cA ad fz s.heap.size) s.heap H locs → cGv l 0 D cy ad fz rr st' p e s m args below meth c H locs (F0 m 42 ls []) := by
    intro st H locs ls hf hl hP hS
    unfold fX9_lookAt_b42 at hf
    exact c_vret hx hb hr hlocks hf hP hS dX9_lookAt_42
  refine lv_iload_n hx hb dX9_lookAt_0 rfl (lv_at hl 1 rfl) ?_
  refine lv_aload_n hx hb dX9_lookAt_1 rfl (lv_at hl 0 rfl) ?_
  refine cg_9_9_7 E hP dX9_lookAt_2 ?_
  refine cg_9_65_5 E hP dX9_lookAt_5 ?_
  refine lv_icmp_ge (tgt := 42) hx hb dX9_lookAt_8 (by decide) (fun hc => ?_) (fun hc => ?_)
  · replace hf := it_pos hc hf
    exact B42 st _ _ ls hf (lv_sub hl [] rfl) hP hS
  · replace hf := it_neg hc hf
    refine lv_aload_n hx hb dX9_lookAt_11 rfl (lv_at hl 0 rfl) ?_
    refine lv_iload_n hx hb dX9_lookAt_12 rfl (lv_at hl 1 rfl) ?_
    refine cp_9_55_7 E hD hP hS dX9_lookAt_13 (fun st1 H locs ex hP hS => ?_)
    replace hf := lt_at ex hf; clear ex
    refine lv_aload_n hx hb dX9_lookAt_16 rfl (lv_at hl 0 rfl) ?_
    refine lv_aload_n hx hb dX9_lookAt_17 rfl (lv_at hl 0 rfl) ?_
    refine cg_9_9_7 E hP dX9_lookAt_18 ?_
    refine cg_9_68_5 E hP dX9_lookAt_21 ?_
    refine lv_iload_n hx hb dX9_lookAt_24 rfl (lv_at hl 1 rfl) ?_
    obtain ⟨hi, hf⟩ := gi_some hf
    refine cl_501 E hP hi dX9_lookAt_25 ?_
    refine cp_9_62_7 E hD hP hS dX9_lookAt_26 (fun st2 H locs ex hP hS => ?_)
    replace hf := lt_at ex hf; clear ex
    refine lv_aload_n hx hb dX9_lookAt_29 rfl (lv_at hl 0 rfl) ?_
    refine lv_aload_n hx hb dX9_lookAt_30 rfl (lv_at hl 0 rfl) ?_
    refine cg_9_9_7 E hP dX9_lookAt_31 ?_
    refine cg_9_71_5 E hP dX9_lookAt_34 ?_
    refine lv_iload_n hx hb dX9_lookAt_37 rfl (lv_at hl 1 rfl) ?_
    obtain ⟨hi, hf⟩ := gi_some hf
    refine cl_503 E hP hi dX9_lookAt_38 ?_
    refine cp_9_74_7 E hD hP hS dX9_lookAt_39 (fun st3 H locs ex hP hS => ?_)
    replace hf := lt_at ex hf; clear ex
    exact B42 st3 _ _ ls hf (lv_sub hl [] rfl) hP hS
def fX8_begin_b39 (fz : List FP) (st : St) : Option (Unit × St) := some ((), st)
def fX8_begin_b2 (fz : List FP) (k2 : Int32 → St → Option (Unit × St)) (v2 : Int32) (st : St) : Option (Unit × St) := if (4 : Int32) ≤ v2 then (fX8_begin_b39 fz st) else (if (st.1 605) ≤ 0 then (fX8_begin_b39 fz st) else (gi ((((st.1 605) - (1 : Int32)) * (4 : Int32)) + v2) 48 (lt (sA st 602 (upd (st.2.2.1 602) ((((st.1 605) - (1 : Int32)) * (4 : Int32)) + v2).toNatClampNeg (st.1 604))) (fun st1 => lt (v2 + (1 : Int32)) (fun x2 => k2 x2 st1)))))
def fX8_begin (a0 : Int32) (fz : List FP) (st : St) : Option (Unit × St) := lp (fun _ _ => none) (fX8_begin_b2 fz) 6000 a0 st
set_option maxHeartbeats 4000000 in
set_option maxRecDepth 100000 in
theorem tX8_begin (l : Launch) (D : va_G) (cy : Nat → ClassId) (ad : Nat → Nat) (fz : List FP) (hJ : (cads ad fz).Nodup) (sz : Nat) (a0 : Int32) (st : St) (rr : Unit) (st' : St) (hf : fX8_begin a0 fz st = some (rr, st')) : Met l yX8_begin (Cond.code yX8_begin cX8_begin 3 none :: TT) (rmD 0) (cPc D cy ad fz [.ref (ad 699), .int a0] st sz) (cQv D cy ad fz rr st' sz) 0 0 (cA ad fz sz) := by
  refine c_metv (by decide) hJ (Nat.le_of_ble_eq_true rfl) (fun p e s m args below meth c ls E hx hb hr hlocks hown hT hD hN hl hP hS => ?_)
  replace hl : lv_has ls 3 [(0, .ref (ad 699)), (1, .int a0)] := hl
  unfold fX8_begin at hf
  have B39 : ∀ (st : St) (H : Heap) (locs : List Loc) (ls : Array Slot), fX8_begin_b39 fz st = some (rr, st') → lv_has ls 3 [] → va_P D classes (cx cy ad fz st) H → va_S (cA ad fz s.heap.size) s.heap H locs → cGv l 0 D cy ad fz rr st' p e s m args below meth c H locs (F0 m 39 ls []) := by
    intro st H locs ls hf hl hP hS
    unfold fX8_begin_b39 at hf
    exact c_vret hx hb hr hlocks hf hP hS dX8_begin_39
  have L2 : ∀ (n : Nat) (v2 : Int32) (st : St) (H : Heap) (locs : List Loc) (ls : Array Slot), lp (fun _ _ => none) (fX8_begin_b2 fz) n v2 st = some (rr, st') → lv_has ls 3 [(0, .ref (ad 699)), (2, .int v2)] → va_P D classes (cx cy ad fz st) H → va_S (cA ad fz s.heap.size) s.heap H locs → cGv l 0 D cy ad fz rr st' p e s m args below meth c H locs (F0 m 2 ls []) := by
    intro n
    induction n with
    | zero => intro v2 st H locs ls hf; exact absurd hf (fun h => by cases h)
    | succ n K2 =>
      intro v2 st H locs ls hf hl hP hS
      replace hf : fX8_begin_b2 fz (lp (fun _ _ => none) (fX8_begin_b2 fz) n) v2 st = some (rr, st') := hf
      generalize lp (fun _ _ => none) (fX8_begin_b2 fz) n = k2 at hf K2
      unfold fX8_begin_b2 at hf
      refine lv_iload_n hx hb dX8_begin_2 rfl (lv_at hl 1 rfl) ?_
      refine lv_iconst (v := 4) hx hb dX8_begin_3 (by decide) ?_
      refine lv_icmp_ge (tgt := 39) hx hb dX8_begin_4 (by decide) (fun hc => ?_) (fun hc => ?_)
      · replace hf := it_pos hc hf
        exact B39 st _ _ ls hf (lv_sub hl [] rfl) hP hS
      · replace hf := it_neg hc hf
        refine lv_aload_n hx hb dX8_begin_7 rfl (lv_at hl 0 rfl) ?_
        refine cg_8_24_6 E hP dX8_begin_8 ?_
        refine lv_if_le (tgt := 39) hx hb dX8_begin_11 (by decide) (fun hc => ?_) (fun hc => ?_)
        · replace hf := it_pos hc hf
          exact B39 st _ _ ls hf (lv_sub hl [] rfl) hP hS
        · replace hf := it_neg hc hf
          refine lv_aload_n hx hb dX8_begin_14 rfl (lv_at hl 0 rfl) ?_
          refine cg_8_16_6 E hP dX8_begin_15 ?_
          refine lv_aload_n hx hb dX8_begin_18 rfl (lv_at hl 0 rfl) ?_
          refine cg_8_24_6 E hP dX8_begin_19 ?_
          refine lv_iconst (v := 1) hx hb dX8_begin_22 (by decide) ?_
          refine lv_isub hx hb dX8_begin_23 ?_
          refine lv_iconst (v := 4) hx hb dX8_begin_24 (by decide) ?_
          refine lv_imul hx hb dX8_begin_25 ?_
          refine lv_iload_n hx hb dX8_begin_26 rfl (lv_at hl 1 rfl) ?_
          refine lv_iadd hx hb dX8_begin_27 ?_
          refine lv_aload_n hx hb dX8_begin_28 rfl (lv_at hl 0 rfl) ?_
          refine cg_8_34_6 E hP dX8_begin_29 ?_
          obtain ⟨hi, hf⟩ := gi_some hf
          refine cs_602 E hD hP hS hi dX8_begin_32 (fun st1 H locs ex hP hS => ?_)
          replace hf := lt_at ex hf; clear ex
          obtain ⟨x2, ex⟩ : ∃ y : Int32, y = v2 + (1 : Int32) := ⟨_, rfl⟩
          replace hf := lt_at ex hf
          refine lv_iinc (v := x2) (lv' := [(2, .int x2), (0, .ref (ad 699))]) hx hb dX8_begin_33 hl (k := 1) rfl (by rw [ex]; rfl) (by decide) rfl (fun ls hl => ?_)
          clear ex
          refine lv_goto (tgt := 2) hx hb dX8_begin_36 (by decide) ?_
          exact K2 x2 st1 _ _ ls hf (lv_sub hl [1, 0] rfl) hP hS
  refine lv_iload_n hx hb dX8_begin_0 rfl (lv_at hl 1 rfl) ?_
  refine lv_istore_n (lv' := [(2, .int a0), (0, .ref (ad 699)), (1, .int a0)]) hx hb dX8_begin_1 rfl hl (by decide) rfl (fun ls hl => ?_)
  exact L2 6000 a0 st _ _ ls hf (lv_sub hl [1, 0] rfl) hP hS
def fX8_open_b44 (fz : List FP) (st : St) : Option (Unit × St) := some ((), st)
def fX8_open (a0 : Int32) (fz : List FP) (st : St) : Option (Unit × St) := if (12 : Int32) ≤ (st.1 605) then (fX8_open_b44 fz st) else (gi (st.1 605) 12 (lt (sA st 600 (upd (st.2.2.1 600) (st.1 605).toNatClampNeg a0)) (fun st1 => gi (st1.1 605) 12 (lt (sA st1 601 (upd (st1.2.2.1 601) (st1.1 605).toNatClampNeg (1 : Int32))) (fun st2 => lt (sI st2 605 ((st2.1 605) + (1 : Int32))) (fun st3 => bd (fX8_begin (0 : Int32) fz st3) (fun r4 st5 => fX8_open_b44 fz st5)))))))
set_option maxHeartbeats 4000000 in
set_option maxRecDepth 100000 in
theorem tX8_open (l : Launch) (D : va_G) (cy : Nat → ClassId) (ad : Nat → Nat) (fz : List FP) (hJ : (cads ad fz).Nodup) (sz : Nat) (a0 : Int32) (st : St) (rr : Unit) (st' : St) (hf : fX8_open a0 fz st = some (rr, st')) : Met l yX8_open (Cond.code yX8_open cX8_open 2 none :: TT) (rmD 1) (cPc D cy ad fz [.ref (ad 699), .int a0] st sz) (cQv D cy ad fz rr st' sz) 0 0 (cA ad fz sz) := by
  refine c_metv (by decide) hJ (Nat.le_of_ble_eq_true rfl) (fun p e s m args below meth c ls E hx hb hr hlocks hown hT hD hN hl hP hS => ?_)
  replace hl : lv_has ls 2 [(0, .ref (ad 699)), (1, .int a0)] := hl
  unfold fX8_open at hf
  have B44 : ∀ (st : St) (H : Heap) (locs : List Loc) (ls : Array Slot), fX8_open_b44 fz st = some (rr, st') → lv_has ls 2 [] → va_P D classes (cx cy ad fz st) H → va_S (cA ad fz s.heap.size) s.heap H locs → cGv l 1 D cy ad fz rr st' p e s m args below meth c H locs (F0 m 44 ls []) := by
    intro st H locs ls hf hl hP hS
    unfold fX8_open_b44 at hf
    exact c_vret hx hb hr hlocks hf hP hS dX8_open_44
  refine lv_aload_n hx hb dX8_open_0 rfl (lv_at hl 0 rfl) ?_
  refine cg_8_24_6 E hP dX8_open_1 ?_
  refine lv_bipush (v := 12) hx hb dX8_open_4 (by decide) ?_
  refine lv_icmp_ge (tgt := 44) hx hb dX8_open_6 (by decide) (fun hc => ?_) (fun hc => ?_)
  · replace hf := it_pos hc hf
    exact B44 st _ _ ls hf (lv_sub hl [] rfl) hP hS
  · replace hf := it_neg hc hf
    refine lv_aload_n hx hb dX8_open_9 rfl (lv_at hl 0 rfl) ?_
    refine cg_8_9_6 E hP dX8_open_10 ?_
    refine lv_aload_n hx hb dX8_open_13 rfl (lv_at hl 0 rfl) ?_
    refine cg_8_24_6 E hP dX8_open_14 ?_
    refine lv_iload_n hx hb dX8_open_17 rfl (lv_at hl 1 rfl) ?_
    obtain ⟨hi, hf⟩ := gi_some hf
    refine cs_600 E hD hP hS hi dX8_open_18 (fun st1 H locs ex hP hS => ?_)
    replace hf := lt_at ex hf; clear ex
    refine lv_aload_n hx hb dX8_open_19 rfl (lv_at hl 0 rfl) ?_
    refine cg_8_13_6 E hP dX8_open_20 ?_
    refine lv_aload_n hx hb dX8_open_23 rfl (lv_at hl 0 rfl) ?_
    refine cg_8_24_6 E hP dX8_open_24 ?_
    refine lv_iconst (v := 1) hx hb dX8_open_27 (by decide) ?_
    obtain ⟨hi, hf⟩ := gi_some hf
    refine cs_601 E hD hP hS hi dX8_open_28 (fun st2 H locs ex hP hS => ?_)
    replace hf := lt_at ex hf; clear ex
    refine lv_aload_n hx hb dX8_open_29 rfl (lv_at hl 0 rfl) ?_
    refine lv_dup hx hb dX8_open_30 rfl ?_
    refine cg_8_24_6 E hP dX8_open_31 ?_
    refine lv_iconst (v := 1) hx hb dX8_open_34 (by decide) ?_
    refine lv_iadd hx hb dX8_open_35 ?_
    refine cp_8_24_6 E hD hP hS dX8_open_36 (fun st3 H locs ex hP hS => ?_)
    replace hf := lt_at ex hf; clear ex
    refine lv_aload_n hx hb dX8_open_39 rfl (lv_at hl 0 rfl) ?_
    refine lv_iconst (v := 0) hx hb dX8_open_40 (by decide) ?_
    obtain ⟨r4, st5, hc, hf⟩ := bd_some hf
    refine c_callv (n := 1) (rest := []) E hN hP hS (fun sz => tX8_begin l D cy ad fz hJ sz (0 : Int32) st3 r4 st5 hc) (va_recv E.2 hP (ci := 8) (q0 := 30) rfl rfl) (gV k_688 k_689 k_690 k_8 k_691) qX8_begin ⟨Nat.le_of_ble_eq_true rfl, Nat.le_of_ble_eq_true rfl⟩ ⟨Nat.le_refl _, Nat.le_refl _⟩ rfl hl.1 rfl (Nat.le_of_ble_eq_true rfl) dX8_open_41 (fun H locs hP hS => ?_)
    exact B44 st5 _ _ ls hf (lv_sub hl [] rfl) hP hS
def fX9_passes (a0 : Int32) (fz : List FP) (st : St) : Option (Int32 × St) := if (st.1 705) = a0 then (bd (fX9_lookAt ((st.1 704) + (1 : Int32)) fz st) (fun r1 st2 => some ((1 : Int32), st2))) else (some ((0 : Int32), st))
set_option maxHeartbeats 4000000 in
set_option maxRecDepth 100000 in
theorem tX9_passes (l : Launch) (D : va_G) (cy : Nat → ClassId) (ad : Nat → Nat) (fz : List FP) (hJ : (cads ad fz).Nodup) (sz : Nat) (a0 : Int32) (st : St) (rr : Int32) (st' : St) (hf : fX9_passes a0 fz st = some (rr, st')) : Met l yX9_passes (Cond.code yX9_passes cX9_passes 2 (some .boolean) :: TT) (rmD 1) (cPc D cy ad fz [.ref (ad 799), .int a0] st sz) (cQi D cy ad fz rr st' sz) 0 0 (cA ad fz sz) := by
  refine c_meti (by decide) hJ (Nat.le_of_ble_eq_true rfl) (fun p e s m args below meth c ls E hx hb hr hlocks hown hT hD hN hl hP hS => ?_)
  replace hl : lv_has ls 2 [(0, .ref (ad 799)), (1, .int a0)] := hl
  unfold fX9_passes at hf
  refine lv_aload_n hx hb dX9_passes_0 rfl (lv_at hl 0 rfl) ?_
  refine cg_9_62_7 E hP dX9_passes_1 ?_
  refine lv_iload_n hx hb dX9_passes_4 rfl (lv_at hl 1 rfl) ?_
  refine lv_icmp_eq (tgt := 10) hx hb dX9_passes_5 (by decide) (fun hc => ?_) (fun hc => ?_)
  · replace hf := it_pos hc hf
    refine lv_aload_n hx hb dX9_passes_10 rfl (lv_at hl 0 rfl) ?_
    refine lv_aload_n hx hb dX9_passes_11 rfl (lv_at hl 0 rfl) ?_
    refine cg_9_55_7 E hP dX9_passes_12 ?_
    refine lv_iconst (v := 1) hx hb dX9_passes_15 (by decide) ?_
    refine lv_iadd hx hb dX9_passes_16 ?_
    obtain ⟨r1, st2, hc, hf⟩ := bd_some hf
    refine c_callv (n := 1) (rest := []) E hN hP hS (fun sz => tX9_lookAt l D cy ad fz hJ sz ((st.1 704) + (1 : Int32)) st r1 st2 hc) (va_recv E.2 hP (ci := 9) (q0 := 35) rfl rfl) (gV k_675 k_677 ks_8 k_9 k_678) qX9_lookAt ⟨Nat.le_of_ble_eq_true rfl, Nat.le_of_ble_eq_true rfl⟩ ⟨Nat.le_refl _, Nat.le_refl _⟩ rfl hl.1 rfl (Nat.le_of_ble_eq_true rfl) dX9_passes_17 (fun H locs hP hS => ?_)
    refine lv_iconst (v := 1) hx hb dX9_passes_20 (by decide) ?_
    exact c_zret hx hb hr hlocks (by decide) hf hP hS dX9_passes_21
  · replace hf := it_neg hc hf
    refine lv_iconst (v := 0) hx hb dX9_passes_8 (by decide) ?_
    exact c_zret hx hb hr hlocks (by decide) hf hP hS dX9_passes_9
def fX9_readInBrackets_b75 (rT rS : Int32 → St → Option (Int32 × St)) (fz : List FP) (w0 : Int32) (st : St) : Option (Int32 × St) := gb w0 (some (w0, st))
def fX9_readInBrackets_b74 (rT rS : Int32 → St → Option (Int32 × St)) (fz : List FP) (st : St) : Option (Int32 × St) := fX9_readInBrackets_b75 rT rS fz (0 : Int32) st
def fX9_readInBrackets_b47 (rT rS : Int32 → St → Option (Int32 × St)) (fz : List FP) (st : St) : Option (Int32 × St) := fX9_readInBrackets_b75 rT rS fz (0 : Int32) st
def fX9_readInBrackets (rT rS : Int32 → St → Option (Int32 × St)) (a0 : Int32) (a1 : Int32) (fz : List FP) (st : St) : Option (Int32 × St) := if a1 < (8 : Int32) then (bd (fX9_lookAt ((st.1 704) + (1 : Int32)) fz st) (fun r1 st2 => if a0 = (40 : Int32) then (bd (rT (a1 + (1 : Int32)) st2) (fun r7 st8 => if r7 = 0 then (fX9_readInBrackets_b47 rT rS fz st8) else (bd (fX9_passes (41 : Int32) fz st8) (fun r9 st10 => if r9 = 0 then (fX9_readInBrackets_b47 rT rS fz st10) else (fX9_readInBrackets_b75 rT rS fz (1 : Int32) st10))))) else (bd (rS (a1 + (1 : Int32)) st2) (fun r3 st4 => if r3 = 0 then (fX9_readInBrackets_b74 rT rS fz st4) else (bd (fX9_passes (93 : Int32) fz st4) (fun r5 st6 => if r5 = 0 then (fX9_readInBrackets_b74 rT rS fz st6) else (fX9_readInBrackets_b75 rT rS fz (1 : Int32) st6))))))) else (some ((0 : Int32), st))
set_option maxHeartbeats 4000000 in
set_option maxRecDepth 100000 in
theorem tX9_readInBrackets (l : Launch) (D : va_G) (cy : Nat → ClassId) (ad : Nat → Nat) (fz : List FP) (hJ : (cads ad fz).Nodup) (d0 dT dS : Nat) (h8 : 8 ≤ d0) (h8T : dT ≤ d0) (h8S : dS ≤ d0) (rT rS : Int32 → St → Option (Int32 × St)) (hrT : ∀ (sz : Nat) (a0 : Int32) (st : St) (rr : Int32) (st' : St), rT a0 st = some (rr, st') → Met l yX9_readTest (Cond.code yX9_readTest cX9_readTest 5 (some .boolean) :: TT) (rmD dT) (cPc D cy ad fz [.ref (ad 799), .int a0] st sz) (cQi D cy ad fz rr st' sz) 0 0 (cA ad fz sz)) (hrS : ∀ (sz : Nat) (a0 : Int32) (st : St) (rr : Int32) (st' : St), rS a0 st = some (rr, st') → Met l yX9_readSum (Cond.code yX9_readSum cX9_readSum 5 (some .boolean) :: TT) (rmD dS) (cPc D cy ad fz [.ref (ad 799), .int a0] st sz) (cQi D cy ad fz rr st' sz) 0 0 (cA ad fz sz)) (sz : Nat) (a0 : Int32) (a1 : Int32) (st : St) (rr : Int32) (st' : St) (hf : fX9_readInBrackets rT rS a0 a1 fz st = some (rr, st')) : Met l yX9_readInBrackets (Cond.code yX9_readInBrackets cX9_readInBrackets 3 (some .boolean) :: TT) (rmD (d0 + 1)) (cPc D cy ad fz [.ref (ad 799), .int a0, .int a1] st sz) (cQi D cy ad fz rr st' sz) 0 0 (cA ad fz sz) := by
  refine c_meti (by decide) hJ (Nat.le_of_ble_eq_true rfl) (fun p e s m args below meth c ls E hx hb hr hlocks hown hT hD hN hl hP hS => ?_)
  replace hl : lv_has ls 3 [(0, .ref (ad 799)), (1, .int a0), (2, .int a1)] := hl
  unfold fX9_readInBrackets at hf
  have B75 : ∀ (w0 : Int32) (st : St) (H : Heap) (locs : List Loc) (ls : Array Slot), fX9_readInBrackets_b75 rT rS fz w0 st = some (rr, st') → lv_has ls 3 [] → va_P D classes (cx cy ad fz st) H → va_S (cA ad fz s.heap.size) s.heap H locs → cGi l (d0 + 1) D cy ad fz rr st' p e s m args below meth c H locs (F0 m 75 ls [.int w0]) := by
    intro w0 st H locs ls hf hl hP hS
    unfold fX9_readInBrackets_b75 at hf
    obtain ⟨hn, hf⟩ := gb_some hf
    exact c_zret hx hb hr hlocks hn hf hP hS dX9_readInBrackets_75
  have B74 : ∀ (st : St) (H : Heap) (locs : List Loc) (ls : Array Slot), fX9_readInBrackets_b74 rT rS fz st = some (rr, st') → lv_has ls 3 [] → va_P D classes (cx cy ad fz st) H → va_S (cA ad fz s.heap.size) s.heap H locs → cGi l (d0 + 1) D cy ad fz rr st' p e s m args below meth c H locs (F0 m 74 ls []) := by
    intro st H locs ls hf hl hP hS
    unfold fX9_readInBrackets_b74 at hf
    refine lv_iconst (v := 0) hx hb dX9_readInBrackets_74 (by decide) ?_
    exact B75 (0 : Int32) st _ _ ls hf hl hP hS
  have B47 : ∀ (st : St) (H : Heap) (locs : List Loc) (ls : Array Slot), fX9_readInBrackets_b47 rT rS fz st = some (rr, st') → lv_has ls 3 [] → va_P D classes (cx cy ad fz st) H → va_S (cA ad fz s.heap.size) s.heap H locs → cGi l (d0 + 1) D cy ad fz rr st' p e s m args below meth c H locs (F0 m 47 ls []) := by
    intro st H locs ls hf hl hP hS
    unfold fX9_readInBrackets_b47 at hf
    refine lv_iconst (v := 0) hx hb dX9_readInBrackets_47 (by decide) ?_
    refine lv_goto (tgt := 75) hx hb dX9_readInBrackets_48 (by decide) ?_
    exact B75 (0 : Int32) st _ _ ls hf hl hP hS
  refine lv_iload_n hx hb dX9_readInBrackets_0 rfl (lv_at hl 2 rfl) ?_
  refine lv_bipush (v := 8) hx hb dX9_readInBrackets_1 (by decide) ?_
  refine lv_icmp_lt (tgt := 8) hx hb dX9_readInBrackets_3 (by decide) (fun hc => ?_) (fun hc => ?_)
  · replace hf := it_pos hc hf
    refine lv_aload_n hx hb dX9_readInBrackets_8 rfl (lv_at hl 0 rfl) ?_
    refine lv_aload_n hx hb dX9_readInBrackets_9 rfl (lv_at hl 0 rfl) ?_
    refine cg_9_55_7 E hP dX9_readInBrackets_10 ?_
    refine lv_iconst (v := 1) hx hb dX9_readInBrackets_13 (by decide) ?_
    refine lv_iadd hx hb dX9_readInBrackets_14 ?_
    obtain ⟨r1, st2, hc, hf⟩ := bd_some hf
    refine c_callv (n := 1) (rest := []) E hN hP hS (fun sz => tX9_lookAt l D cy ad fz hJ sz ((st.1 704) + (1 : Int32)) st r1 st2 hc) (va_recv E.2 hP (ci := 9) (q0 := 35) rfl rfl) (gV k_675 k_677 ks_8 k_9 k_678) qX9_lookAt ⟨by dsimp only [rmD]; omega, by dsimp only [rmD]; omega⟩ ⟨Nat.le_refl _, Nat.le_refl _⟩ rfl hl.1 rfl (Nat.le_of_ble_eq_true rfl) dX9_readInBrackets_15 (fun H locs hP hS => ?_)
    refine lv_iload_n hx hb dX9_readInBrackets_18 rfl (lv_at hl 1 rfl) ?_
    refine lv_bipush (v := 40) hx hb dX9_readInBrackets_19 (by decide) ?_
    refine lv_icmp_ne (tgt := 51) hx hb dX9_readInBrackets_21 (by decide) (fun hc => ?_) (fun hc => ?_)
    · replace hf := it_neg hc hf
      refine lv_aload_n hx hb dX9_readInBrackets_51 rfl (lv_at hl 0 rfl) ?_
      refine lv_iload_n hx hb dX9_readInBrackets_52 rfl (lv_at hl 2 rfl) ?_
      refine lv_iconst (v := 1) hx hb dX9_readInBrackets_53 (by decide) ?_
      refine lv_iadd hx hb dX9_readInBrackets_54 ?_
      obtain ⟨r3, st4, hc, hf⟩ := bd_some hf
      refine c_calli (n := 1) (rest := []) E hN hP hS (fun sz => hrS sz (a1 + (1 : Int32)) st2 r3 st4 hc) (va_recv E.2 hP (ci := 9) (q0 := 35) rfl rfl) (gV k_692 k_694 ks_10 k_9 k_695) qX9_readSum ⟨by dsimp only [rmD]; omega, by dsimp only [rmD]; omega⟩ ⟨Nat.le_refl _, Nat.le_refl _⟩ rfl hl.1 rfl (Nat.le_of_ble_eq_true rfl) dX9_readInBrackets_55 (fun H locs hP hS => ?_)
      refine lv_if_eq (tgt := 74) hx hb dX9_readInBrackets_58 (by decide) (fun hc => ?_) (fun hc => ?_)
      · replace hf := it_pos hc hf
        exact B74 st4 _ _ ls hf (lv_sub hl [] rfl) hP hS
      · replace hf := it_neg hc hf
        refine lv_aload_n hx hb dX9_readInBrackets_61 rfl (lv_at hl 0 rfl) ?_
        refine lv_bipush (v := 93) hx hb dX9_readInBrackets_62 (by decide) ?_
        obtain ⟨r5, st6, hc, hf⟩ := bd_some hf
        refine c_calli (n := 1) (rest := []) E hN hP hS (fun sz => tX9_passes l D cy ad fz hJ sz (93 : Int32) st4 r5 st6 hc) (va_recv E.2 hP (ci := 9) (q0 := 35) rfl rfl) (gV k_720 k_722 ks_17 k_9 k_723) qX9_passes ⟨by dsimp only [rmD]; omega, by dsimp only [rmD]; omega⟩ ⟨Nat.le_refl _, Nat.le_refl _⟩ rfl hl.1 rfl (Nat.le_of_ble_eq_true rfl) dX9_readInBrackets_64 (fun H locs hP hS => ?_)
        refine lv_if_eq (tgt := 74) hx hb dX9_readInBrackets_67 (by decide) (fun hc => ?_) (fun hc => ?_)
        · replace hf := it_pos hc hf
          exact B74 st6 _ _ ls hf (lv_sub hl [] rfl) hP hS
        · replace hf := it_neg hc hf
          refine lv_iconst (v := 1) hx hb dX9_readInBrackets_70 (by decide) ?_
          refine lv_goto (tgt := 75) hx hb dX9_readInBrackets_71 (by decide) ?_
          exact B75 (1 : Int32) st6 _ _ ls hf (lv_sub hl [] rfl) hP hS
    · replace hf := it_pos hc hf
      refine lv_aload_n hx hb dX9_readInBrackets_24 rfl (lv_at hl 0 rfl) ?_
      refine lv_iload_n hx hb dX9_readInBrackets_25 rfl (lv_at hl 2 rfl) ?_
      refine lv_iconst (v := 1) hx hb dX9_readInBrackets_26 (by decide) ?_
      refine lv_iadd hx hb dX9_readInBrackets_27 ?_
      obtain ⟨r7, st8, hc, hf⟩ := bd_some hf
      refine c_calli (n := 1) (rest := []) E hN hP hS (fun sz => hrT sz (a1 + (1 : Int32)) st2 r7 st8 hc) (va_recv E.2 hP (ci := 9) (q0 := 35) rfl rfl) (gV k_708 k_710 ks_14 k_9 k_711) qX9_readTest ⟨by dsimp only [rmD]; omega, by dsimp only [rmD]; omega⟩ ⟨Nat.le_refl _, Nat.le_refl _⟩ rfl hl.1 rfl (Nat.le_of_ble_eq_true rfl) dX9_readInBrackets_28 (fun H locs hP hS => ?_)
      refine lv_if_eq (tgt := 47) hx hb dX9_readInBrackets_31 (by decide) (fun hc => ?_) (fun hc => ?_)
      · replace hf := it_pos hc hf
        exact B47 st8 _ _ ls hf (lv_sub hl [] rfl) hP hS
      · replace hf := it_neg hc hf
        refine lv_aload_n hx hb dX9_readInBrackets_34 rfl (lv_at hl 0 rfl) ?_
        refine lv_bipush (v := 41) hx hb dX9_readInBrackets_35 (by decide) ?_
        obtain ⟨r9, st10, hc, hf⟩ := bd_some hf
        refine c_calli (n := 1) (rest := []) E hN hP hS (fun sz => tX9_passes l D cy ad fz hJ sz (41 : Int32) st8 r9 st10 hc) (va_recv E.2 hP (ci := 9) (q0 := 35) rfl rfl) (gV k_720 k_722 ks_17 k_9 k_723) qX9_passes ⟨by dsimp only [rmD]; omega, by dsimp only [rmD]; omega⟩ ⟨Nat.le_refl _, Nat.le_refl _⟩ rfl hl.1 rfl (Nat.le_of_ble_eq_true rfl) dX9_readInBrackets_37 (fun H locs hP hS => ?_)
        refine lv_if_eq (tgt := 47) hx hb dX9_readInBrackets_40 (by decide) (fun hc => ?_) (fun hc => ?_)
        · replace hf := it_pos hc hf
          exact B47 st10 _ _ ls hf (lv_sub hl [] rfl) hP hS
        · replace hf := it_neg hc hf
          refine lv_iconst (v := 1) hx hb dX9_readInBrackets_43 (by decide) ?_
          refine lv_goto (tgt := 75) hx hb dX9_readInBrackets_44 (by decide) ?_
          exact B75 (1 : Int32) st10 _ _ ls hf (lv_sub hl [] rfl) hP hS
  · replace hf := it_neg hc hf
    refine lv_iconst (v := 0) hx hb dX9_readInBrackets_6 (by decide) ?_
    exact c_zret hx hb hr hlocks (by decide) hf hP hS dX9_readInBrackets_7
def fX9_isNumber_b31 (fz : List FP) (w0 : Int32) (st : St) : Option (Int32 × St) := gb w0 (some (w0, st))
def fX9_isNumber_b30 (fz : List FP) (st : St) : Option (Int32 × St) := fX9_isNumber_b31 fz (0 : Int32) st
def fX9_isNumber (a0 : Int32) (a1 : Int32) (fz : List FP) (st : St) : Option (Int32 × St) := if (st.1 705) = (256 : Int32) then (if (st.1 706) < a0 then (fX9_isNumber_b30 fz st) else (if a1 < (st.1 706) then (fX9_isNumber_b30 fz st) else (fX9_isNumber_b31 fz (1 : Int32) st))) else (fX9_isNumber_b30 fz st)
set_option maxHeartbeats 4000000 in
set_option maxRecDepth 100000 in
theorem tX9_isNumber (l : Launch) (D : va_G) (cy : Nat → ClassId) (ad : Nat → Nat) (fz : List FP) (hJ : (cads ad fz).Nodup) (sz : Nat) (a0 : Int32) (a1 : Int32) (st : St) (rr : Int32) (st' : St) (hf : fX9_isNumber a0 a1 fz st = some (rr, st')) : Met l yX9_isNumber (Cond.code yX9_isNumber cX9_isNumber 3 (some .boolean) :: TT) (rmD 0) (cPc D cy ad fz [.ref (ad 799), .int a0, .int a1] st sz) (cQi D cy ad fz rr st' sz) 0 0 (cA ad fz sz) := by
  refine c_meti (by decide) hJ (Nat.le_of_ble_eq_true rfl) (fun p e s m args below meth c ls E hx hb hr hlocks hown hT hD hN hl hP hS => ?_)
  replace hl : lv_has ls 3 [(0, .ref (ad 799)), (1, .int a0), (2, .int a1)] := hl
  unfold fX9_isNumber at hf
  have B31 : ∀ (w0 : Int32) (st : St) (H : Heap) (locs : List Loc) (ls : Array Slot), fX9_isNumber_b31 fz w0 st = some (rr, st') → lv_has ls 3 [] → va_P D classes (cx cy ad fz st) H → va_S (cA ad fz s.heap.size) s.heap H locs → cGi l 0 D cy ad fz rr st' p e s m args below meth c H locs (F0 m 31 ls [.int w0]) := by
    intro w0 st H locs ls hf hl hP hS
    unfold fX9_isNumber_b31 at hf
    obtain ⟨hn, hf⟩ := gb_some hf
    exact c_zret hx hb hr hlocks hn hf hP hS dX9_isNumber_31
  have B30 : ∀ (st : St) (H : Heap) (locs : List Loc) (ls : Array Slot), fX9_isNumber_b30 fz st = some (rr, st') → lv_has ls 3 [] → va_P D classes (cx cy ad fz st) H → va_S (cA ad fz s.heap.size) s.heap H locs → cGi l 0 D cy ad fz rr st' p e s m args below meth c H locs (F0 m 30 ls []) := by
    intro st H locs ls hf hl hP hS
    unfold fX9_isNumber_b30 at hf
    refine lv_iconst (v := 0) hx hb dX9_isNumber_30 (by decide) ?_
    exact B31 (0 : Int32) st _ _ ls hf hl hP hS
  refine lv_aload_n hx hb dX9_isNumber_0 rfl (lv_at hl 0 rfl) ?_
  refine cg_9_62_7 E hP dX9_isNumber_1 ?_
  refine lv_sipush (v := 256) hx hb dX9_isNumber_4 (by decide) ?_
  refine lv_icmp_ne (tgt := 30) hx hb dX9_isNumber_7 (by decide) (fun hc => ?_) (fun hc => ?_)
  · replace hf := it_neg hc hf
    exact B30 st _ _ ls hf (lv_sub hl [] rfl) hP hS
  · replace hf := it_pos hc hf
    refine lv_aload_n hx hb dX9_isNumber_10 rfl (lv_at hl 0 rfl) ?_
    refine cg_9_74_7 E hP dX9_isNumber_11 ?_
    refine lv_iload_n hx hb dX9_isNumber_14 rfl (lv_at hl 1 rfl) ?_
    refine lv_icmp_lt (tgt := 30) hx hb dX9_isNumber_15 (by decide) (fun hc => ?_) (fun hc => ?_)
    · replace hf := it_pos hc hf
      exact B30 st _ _ ls hf (lv_sub hl [] rfl) hP hS
    · replace hf := it_neg hc hf
      refine lv_aload_n hx hb dX9_isNumber_18 rfl (lv_at hl 0 rfl) ?_
      refine cg_9_74_7 E hP dX9_isNumber_19 ?_
      refine lv_iload_n hx hb dX9_isNumber_22 rfl (lv_at hl 2 rfl) ?_
      refine lv_icmp_gt (tgt := 30) hx hb dX9_isNumber_23 (by decide) (fun hc => ?_) (fun hc => ?_)
      · replace hf := it_pos hc hf
        exact B30 st _ _ ls hf (lv_sub hl [] rfl) hP hS
      · replace hf := it_neg hc hf
        refine lv_iconst (v := 1) hx hb dX9_isNumber_26 (by decide) ?_
        refine lv_goto (tgt := 31) hx hb dX9_isNumber_27 (by decide) ?_
        exact B31 (1 : Int32) st _ _ ls hf (lv_sub hl [] rfl) hP hS
def fX8_add_b36 (fz : List FP) (st : St) : Option (Int32 × St) := some (((st.1 604) - (1 : Int32)), st)
def fX8_add (a0 : Int32) (a1 : Int32) (fz : List FP) (st : St) : Option (Int32 × St) := if (400 : Int32) ≤ (st.1 604) then (fX8_add_b36 fz st) else (gi (st.1 604) 400 (lt (sA st 603 (upd (st.2.2.1 603) (st.1 604).toNatClampNeg ((a1 <<< ((4 : Int32) &&& 31)) ||| a0))) (fun st1 => lt (sI st1 604 ((st1.1 604) + (1 : Int32))) (fun st2 => fX8_add_b36 fz st2))))
set_option maxHeartbeats 4000000 in
set_option maxRecDepth 100000 in
theorem tX8_add (l : Launch) (D : va_G) (cy : Nat → ClassId) (ad : Nat → Nat) (fz : List FP) (hJ : (cads ad fz).Nodup) (sz : Nat) (a0 : Int32) (a1 : Int32) (st : St) (rr : Int32) (st' : St) (hf : fX8_add a0 a1 fz st = some (rr, st')) : Met l yX8_add (Cond.code yX8_add cX8_add 3 (some .int) :: TT) (rmD 0) (cPc D cy ad fz [.ref (ad 699), .int a0, .int a1] st sz) (cQi D cy ad fz rr st' sz) 0 0 (cA ad fz sz) := by
  refine c_meti (by decide) hJ (Nat.le_of_ble_eq_true rfl) (fun p e s m args below meth c ls E hx hb hr hlocks hown hT hD hN hl hP hS => ?_)
  replace hl : lv_has ls 3 [(0, .ref (ad 699)), (1, .int a0), (2, .int a1)] := hl
  unfold fX8_add at hf
  have B36 : ∀ (st : St) (H : Heap) (locs : List Loc) (ls : Array Slot), fX8_add_b36 fz st = some (rr, st') → lv_has ls 3 [(0, .ref (ad 699))] → va_P D classes (cx cy ad fz st) H → va_S (cA ad fz s.heap.size) s.heap H locs → cGi l 0 D cy ad fz rr st' p e s m args below meth c H locs (F0 m 36 ls []) := by
    intro st H locs ls hf hl hP hS
    unfold fX8_add_b36 at hf
    refine lv_aload_n hx hb dX8_add_36 rfl (lv_at hl 0 rfl) ?_
    refine cg_8_34_6 E hP dX8_add_37 ?_
    refine lv_iconst (v := 1) hx hb dX8_add_40 (by decide) ?_
    refine lv_isub hx hb dX8_add_41 ?_
    exact c_iret hx hb hr hlocks hf hP hS dX8_add_42
  refine lv_aload_n hx hb dX8_add_0 rfl (lv_at hl 0 rfl) ?_
  refine cg_8_34_6 E hP dX8_add_1 ?_
  refine lv_aload_n hx hb dX8_add_4 rfl (lv_at hl 0 rfl) ?_
  refine cg_8_21_6 E hP dX8_add_5 ?_
  refine cn_603 E hP dX8_add_8 ?_
  refine lv_icmp_ge (tgt := 36) hx hb dX8_add_9 (by decide) (fun hc => ?_) (fun hc => ?_)
  · replace hf := it_pos hc hf
    exact B36 st _ _ ls hf (lv_sub hl [0] rfl) hP hS
  · replace hf := it_neg hc hf
    refine lv_aload_n hx hb dX8_add_12 rfl (lv_at hl 0 rfl) ?_
    refine cg_8_21_6 E hP dX8_add_13 ?_
    refine lv_aload_n hx hb dX8_add_16 rfl (lv_at hl 0 rfl) ?_
    refine cg_8_34_6 E hP dX8_add_17 ?_
    refine lv_iload_n hx hb dX8_add_20 rfl (lv_at hl 2 rfl) ?_
    refine lv_iconst (v := 4) hx hb dX8_add_21 (by decide) ?_
    refine lv_ishl hx hb dX8_add_22 ?_
    refine lv_iload_n hx hb dX8_add_23 rfl (lv_at hl 1 rfl) ?_
    refine lv_ior hx hb dX8_add_24 ?_
    obtain ⟨hi, hf⟩ := gi_some hf
    refine cs_603 E hD hP hS hi dX8_add_25 (fun st1 H locs ex hP hS => ?_)
    replace hf := lt_at ex hf; clear ex
    refine lv_aload_n hx hb dX8_add_26 rfl (lv_at hl 0 rfl) ?_
    refine lv_dup hx hb dX8_add_27 rfl ?_
    refine cg_8_34_6 E hP dX8_add_28 ?_
    refine lv_iconst (v := 1) hx hb dX8_add_31 (by decide) ?_
    refine lv_iadd hx hb dX8_add_32 ?_
    refine cp_8_34_6 E hD hP hS dX8_add_33 (fun st2 H locs ex hP hS => ?_)
    replace hf := lt_at ex hf; clear ex
    exact B36 st2 _ _ ls hf (lv_sub hl [0] rfl) hP hS
def fX9_readWordOf (a0 : Int32) (a1 : Int32) (fz : List FP) (st : St) : Option (Int32 × St) := bd (fX9_lookAt ((st.1 704) + (1 : Int32)) fz st) (fun r1 st2 => if a1 = 0 then (bd (fX8_add (1 : Int32) a0 fz st2) (fun r9 st10 => some ((1 : Int32), st10))) else (bd (fX9_isNumber (0 : Int32) (a1 - (1 : Int32)) fz st2) (fun r3 st4 => if r3 = 0 then (some ((0 : Int32), st4)) else (bd (fX8_add (1 : Int32) (a0 + (st4.1 706)) fz st4) (fun r5 st6 => bd (fX9_lookAt ((st6.1 704) + (1 : Int32)) fz st6) (fun r7 st8 => some ((1 : Int32), st8)))))))
set_option maxHeartbeats 4000000 in
set_option maxRecDepth 100000 in
theorem tX9_readWordOf (l : Launch) (D : va_G) (cy : Nat → ClassId) (ad : Nat → Nat) (fz : List FP) (hJ : (cads ad fz).Nodup) (sz : Nat) (a0 : Int32) (a1 : Int32) (st : St) (rr : Int32) (st' : St) (hf : fX9_readWordOf a0 a1 fz st = some (rr, st')) : Met l yX9_readWordOf (Cond.code yX9_readWordOf cX9_readWordOf 3 (some .boolean) :: TT) (rmD 1) (cPc D cy ad fz [.ref (ad 799), .int a0, .int a1] st sz) (cQi D cy ad fz rr st' sz) 0 0 (cA ad fz sz) := by
  refine c_meti (by decide) hJ (Nat.le_of_ble_eq_true rfl) (fun p e s m args below meth c ls E hx hb hr hlocks hown hT hD hN hl hP hS => ?_)
  replace hl : lv_has ls 3 [(0, .ref (ad 799)), (1, .int a0), (2, .int a1)] := hl
  unfold fX9_readWordOf at hf
  refine lv_aload_n hx hb dX9_readWordOf_0 rfl (lv_at hl 0 rfl) ?_
  refine lv_aload_n hx hb dX9_readWordOf_1 rfl (lv_at hl 0 rfl) ?_
  refine cg_9_55_7 E hP dX9_readWordOf_2 ?_
  refine lv_iconst (v := 1) hx hb dX9_readWordOf_5 (by decide) ?_
  refine lv_iadd hx hb dX9_readWordOf_6 ?_
  obtain ⟨r1, st2, hc, hf⟩ := bd_some hf
  refine c_callv (n := 1) (rest := []) E hN hP hS (fun sz => tX9_lookAt l D cy ad fz hJ sz ((st.1 704) + (1 : Int32)) st r1 st2 hc) (va_recv E.2 hP (ci := 9) (q0 := 35) rfl rfl) (gV k_675 k_677 ks_8 k_9 k_678) qX9_lookAt ⟨Nat.le_of_ble_eq_true rfl, Nat.le_of_ble_eq_true rfl⟩ ⟨Nat.le_refl _, Nat.le_refl _⟩ rfl hl.1 rfl (Nat.le_of_ble_eq_true rfl) dX9_readWordOf_7 (fun H locs hP hS => ?_)
  refine lv_iload_n hx hb dX9_readWordOf_10 rfl (lv_at hl 2 rfl) ?_
  refine lv_if_ne (tgt := 26) hx hb dX9_readWordOf_11 (by decide) (fun hc => ?_) (fun hc => ?_)
  · replace hf := it_neg hc hf
    refine lv_aload_n hx hb dX9_readWordOf_26 rfl (lv_at hl 0 rfl) ?_
    refine lv_iconst (v := 0) hx hb dX9_readWordOf_27 (by decide) ?_
    refine lv_iload_n hx hb dX9_readWordOf_28 rfl (lv_at hl 2 rfl) ?_
    refine lv_iconst (v := 1) hx hb dX9_readWordOf_29 (by decide) ?_
    refine lv_isub hx hb dX9_readWordOf_30 ?_
    obtain ⟨r3, st4, hc, hf⟩ := bd_some hf
    refine c_calli (n := 2) (rest := []) E hN hP hS (fun sz => tX9_isNumber l D cy ad fz hJ sz (0 : Int32) (a1 - (1 : Int32)) st2 r3 st4 hc) (va_recv E.2 hP (ci := 9) (q0 := 35) rfl rfl) (gV k_736 k_738 ks_19 k_9 k_739) qX9_isNumber ⟨Nat.le_of_ble_eq_true rfl, Nat.le_of_ble_eq_true rfl⟩ ⟨Nat.le_refl _, Nat.le_refl _⟩ rfl hl.1 rfl (Nat.le_of_ble_eq_true rfl) dX9_readWordOf_31 (fun H locs hP hS => ?_)
    refine lv_if_ne (tgt := 39) hx hb dX9_readWordOf_34 (by decide) (fun hc => ?_) (fun hc => ?_)
    · replace hf := it_neg hc hf
      refine lv_aload_n hx hb dX9_readWordOf_39 rfl (lv_at hl 0 rfl) ?_
      refine cg_9_15_7 E hP dX9_readWordOf_40 ?_
      refine lv_iconst (v := 1) hx hb dX9_readWordOf_43 (by decide) ?_
      refine lv_iload_n hx hb dX9_readWordOf_44 rfl (lv_at hl 1 rfl) ?_
      refine lv_aload_n hx hb dX9_readWordOf_45 rfl (lv_at hl 0 rfl) ?_
      refine cg_9_74_7 E hP dX9_readWordOf_46 ?_
      refine lv_iadd hx hb dX9_readWordOf_49 ?_
      obtain ⟨r5, st6, hc, hf⟩ := bd_some hf
      refine c_calli (n := 2) (rest := []) E hN hP hS (fun sz => tX8_add l D cy ad fz hJ sz (1 : Int32) (a0 + (st4.1 706)) st4 r5 st6 hc) (va_recv E.2 hP (ci := 8) (q0 := 30) rfl rfl) (gV k_728 k_729 k_730 k_8 k_731) qX8_add ⟨Nat.le_of_ble_eq_true rfl, Nat.le_of_ble_eq_true rfl⟩ ⟨Nat.le_refl _, Nat.le_refl _⟩ rfl hl.1 rfl (Nat.le_of_ble_eq_true rfl) dX9_readWordOf_50 (fun H locs hP hS => ?_)
      refine lv_pop hx hb dX9_readWordOf_53 rfl ?_
      refine lv_aload_n hx hb dX9_readWordOf_54 rfl (lv_at hl 0 rfl) ?_
      refine lv_aload_n hx hb dX9_readWordOf_55 rfl (lv_at hl 0 rfl) ?_
      refine cg_9_55_7 E hP dX9_readWordOf_56 ?_
      refine lv_iconst (v := 1) hx hb dX9_readWordOf_59 (by decide) ?_
      refine lv_iadd hx hb dX9_readWordOf_60 ?_
      obtain ⟨r7, st8, hc, hf⟩ := bd_some hf
      refine c_callv (n := 1) (rest := []) E hN hP hS (fun sz => tX9_lookAt l D cy ad fz hJ sz ((st6.1 704) + (1 : Int32)) st6 r7 st8 hc) (va_recv E.2 hP (ci := 9) (q0 := 35) rfl rfl) (gV k_675 k_677 ks_8 k_9 k_678) qX9_lookAt ⟨Nat.le_of_ble_eq_true rfl, Nat.le_of_ble_eq_true rfl⟩ ⟨Nat.le_refl _, Nat.le_refl _⟩ rfl hl.1 rfl (Nat.le_of_ble_eq_true rfl) dX9_readWordOf_61 (fun H locs hP hS => ?_)
      refine lv_iconst (v := 1) hx hb dX9_readWordOf_64 (by decide) ?_
      exact c_zret hx hb hr hlocks (by decide) hf hP hS dX9_readWordOf_65
    · replace hf := it_pos hc hf
      refine lv_iconst (v := 0) hx hb dX9_readWordOf_37 (by decide) ?_
      exact c_zret hx hb hr hlocks (by decide) hf hP hS dX9_readWordOf_38
  · replace hf := it_pos hc hf
    refine lv_aload_n hx hb dX9_readWordOf_14 rfl (lv_at hl 0 rfl) ?_
    refine cg_9_15_7 E hP dX9_readWordOf_15 ?_
    refine lv_iconst (v := 1) hx hb dX9_readWordOf_18 (by decide) ?_
    refine lv_iload_n hx hb dX9_readWordOf_19 rfl (lv_at hl 1 rfl) ?_
    obtain ⟨r9, st10, hc, hf⟩ := bd_some hf
    refine c_calli (n := 2) (rest := []) E hN hP hS (fun sz => tX8_add l D cy ad fz hJ sz (1 : Int32) a0 st2 r9 st10 hc) (va_recv E.2 hP (ci := 8) (q0 := 30) rfl rfl) (gV k_728 k_729 k_730 k_8 k_731) qX8_add ⟨Nat.le_of_ble_eq_true rfl, Nat.le_of_ble_eq_true rfl⟩ ⟨Nat.le_refl _, Nat.le_refl _⟩ rfl hl.1 rfl (Nat.le_of_ble_eq_true rfl) dX9_readWordOf_20 (fun H locs hP hS => ?_)
    refine lv_pop hx hb dX9_readWordOf_23 rfl ?_
    refine lv_iconst (v := 1) hx hb dX9_readWordOf_24 (by decide) ?_
    exact c_zret hx hb hr hlocks (by decide) hf hP hS dX9_readWordOf_25
def fX9_readOrderWord (fz : List FP) (st : St) : Option (Int32 × St) := lt (st.1 705) (fun x1 => if x1 = 302 then (bd (fX9_readWordOf (15 : Int32) (4 : Int32) fz st) (fun r2 st3 => gb r2 (some (r2, st3)))) else (if x1 = 317 then (bd (fX9_readWordOf (3 : Int32) (6 : Int32) fz st) (fun r4 st5 => gb r4 (some (r4, st5)))) else (if x1 = 324 then (bd (fX9_readWordOf (0 : Int32) (0 : Int32) fz st) (fun r6 st7 => gb r6 (some (r6, st7)))) else (if x1 = 326 then (bd (fX9_readWordOf (1 : Int32) (0 : Int32) fz st) (fun r8 st9 => gb r8 (some (r8, st9)))) else (if x1 = 327 then (bd (fX9_readWordOf (2 : Int32) (0 : Int32) fz st) (fun r10 st11 => gb r10 (some (r10, st11)))) else (if x1 = 328 then (bd (fX9_readWordOf (9 : Int32) (6 : Int32) fz st) (fun r12 st13 => gb r12 (some (r12, st13)))) else (some ((0 : Int32), st))))))))
set_option maxHeartbeats 4000000 in
set_option maxRecDepth 100000 in
theorem tX9_readOrderWord (l : Launch) (D : va_G) (cy : Nat → ClassId) (ad : Nat → Nat) (fz : List FP) (hJ : (cads ad fz).Nodup) (sz : Nat) (st : St) (rr : Int32) (st' : St) (hf : fX9_readOrderWord fz st = some (rr, st')) : Met l yX9_readOrderWord (Cond.code yX9_readOrderWord cX9_readOrderWord 1 (some .boolean) :: TT) (rmD 2) (cPc D cy ad fz [.ref (ad 799)] st sz) (cQi D cy ad fz rr st' sz) 0 0 (cA ad fz sz) := by
  refine c_meti (by decide) hJ (Nat.le_of_ble_eq_true rfl) (fun p e s m args below meth c ls E hx hb hr hlocks hown hT hD hN hl hP hS => ?_)
  replace hl : lv_has ls 1 [(0, .ref (ad 799))] := hl
  unfold fX9_readOrderWord at hf
  refine lv_aload_n hx hb dX9_readOrderWord_0 rfl (lv_at hl 0 rfl) ?_
  refine cg_9_62_7 E hP dX9_readOrderWord_1 ?_
  refine lv_topi (fun x1 ex => ?_)
  replace hf := lt_at ex hf; clear ex
  by_cases hq302 : x1 = 302
  · replace hf := it_pos hq302 hf
    rw [hq302]; refine lv_lookup (tgt := 102) hx hb dX9_readOrderWord_4 (by decide) rfl (by decide) ?_
    refine lv_aload_n hx hb dX9_readOrderWord_102 rfl (lv_at hl 0 rfl) ?_
    refine lv_bipush (v := 15) hx hb dX9_readOrderWord_103 (by decide) ?_
    refine lv_iconst (v := 4) hx hb dX9_readOrderWord_105 (by decide) ?_
    obtain ⟨r2, st3, hc, hf⟩ := bd_some hf
    refine c_calli (n := 2) (rest := []) E hN hP hS (fun sz => tX9_readWordOf l D cy ad fz hJ sz (15 : Int32) (4 : Int32) st r2 st3 hc) (va_recv E.2 hP (ci := 9) (q0 := 35) rfl rfl) (gV k_748 k_750 ks_22 k_9 k_751) qX9_readWordOf ⟨Nat.le_of_ble_eq_true rfl, Nat.le_of_ble_eq_true rfl⟩ ⟨Nat.le_refl _, Nat.le_refl _⟩ rfl hl.1 rfl (Nat.le_of_ble_eq_true rfl) dX9_readOrderWord_106 (fun H locs hP hS => ?_)
    obtain ⟨hn, hf⟩ := gb_some hf
    exact c_zret hx hb hr hlocks hn hf hP hS dX9_readOrderWord_109
  replace hf := it_neg hq302 hf
  by_cases hq317 : x1 = 317
  · replace hf := it_pos hq317 hf
    rw [hq317]; refine lv_lookup (tgt := 85) hx hb dX9_readOrderWord_4 (by decide) rfl (by decide) ?_
    refine lv_aload_n hx hb dX9_readOrderWord_85 rfl (lv_at hl 0 rfl) ?_
    refine lv_iconst (v := 3) hx hb dX9_readOrderWord_86 (by decide) ?_
    refine lv_bipush (v := 6) hx hb dX9_readOrderWord_87 (by decide) ?_
    obtain ⟨r4, st5, hc, hf⟩ := bd_some hf
    refine c_calli (n := 2) (rest := []) E hN hP hS (fun sz => tX9_readWordOf l D cy ad fz hJ sz (3 : Int32) (6 : Int32) st r4 st5 hc) (va_recv E.2 hP (ci := 9) (q0 := 35) rfl rfl) (gV k_748 k_750 ks_22 k_9 k_751) qX9_readWordOf ⟨Nat.le_of_ble_eq_true rfl, Nat.le_of_ble_eq_true rfl⟩ ⟨Nat.le_refl _, Nat.le_refl _⟩ rfl hl.1 rfl (Nat.le_of_ble_eq_true rfl) dX9_readOrderWord_89 (fun H locs hP hS => ?_)
    obtain ⟨hn, hf⟩ := gb_some hf
    exact c_zret hx hb hr hlocks hn hf hP hS dX9_readOrderWord_92
  replace hf := it_neg hq317 hf
  by_cases hq324 : x1 = 324
  · replace hf := it_pos hq324 hf
    rw [hq324]; refine lv_lookup (tgt := 64) hx hb dX9_readOrderWord_4 (by decide) rfl (by decide) ?_
    refine lv_aload_n hx hb dX9_readOrderWord_64 rfl (lv_at hl 0 rfl) ?_
    refine lv_iconst (v := 0) hx hb dX9_readOrderWord_65 (by decide) ?_
    refine lv_iconst (v := 0) hx hb dX9_readOrderWord_66 (by decide) ?_
    obtain ⟨r6, st7, hc, hf⟩ := bd_some hf
    refine c_calli (n := 2) (rest := []) E hN hP hS (fun sz => tX9_readWordOf l D cy ad fz hJ sz (0 : Int32) (0 : Int32) st r6 st7 hc) (va_recv E.2 hP (ci := 9) (q0 := 35) rfl rfl) (gV k_748 k_750 ks_22 k_9 k_751) qX9_readWordOf ⟨Nat.le_of_ble_eq_true rfl, Nat.le_of_ble_eq_true rfl⟩ ⟨Nat.le_refl _, Nat.le_refl _⟩ rfl hl.1 rfl (Nat.le_of_ble_eq_true rfl) dX9_readOrderWord_67 (fun H locs hP hS => ?_)
    obtain ⟨hn, hf⟩ := gb_some hf
    exact c_zret hx hb hr hlocks hn hf hP hS dX9_readOrderWord_70
  replace hf := it_neg hq324 hf
  by_cases hq326 : x1 = 326
  · replace hf := it_pos hq326 hf
    rw [hq326]; refine lv_lookup (tgt := 71) hx hb dX9_readOrderWord_4 (by decide) rfl (by decide) ?_
    refine lv_aload_n hx hb dX9_readOrderWord_71 rfl (lv_at hl 0 rfl) ?_
    refine lv_iconst (v := 1) hx hb dX9_readOrderWord_72 (by decide) ?_
    refine lv_iconst (v := 0) hx hb dX9_readOrderWord_73 (by decide) ?_
    obtain ⟨r8, st9, hc, hf⟩ := bd_some hf
    refine c_calli (n := 2) (rest := []) E hN hP hS (fun sz => tX9_readWordOf l D cy ad fz hJ sz (1 : Int32) (0 : Int32) st r8 st9 hc) (va_recv E.2 hP (ci := 9) (q0 := 35) rfl rfl) (gV k_748 k_750 ks_22 k_9 k_751) qX9_readWordOf ⟨Nat.le_of_ble_eq_true rfl, Nat.le_of_ble_eq_true rfl⟩ ⟨Nat.le_refl _, Nat.le_refl _⟩ rfl hl.1 rfl (Nat.le_of_ble_eq_true rfl) dX9_readOrderWord_74 (fun H locs hP hS => ?_)
    obtain ⟨hn, hf⟩ := gb_some hf
    exact c_zret hx hb hr hlocks hn hf hP hS dX9_readOrderWord_77
  replace hf := it_neg hq326 hf
  by_cases hq327 : x1 = 327
  · replace hf := it_pos hq327 hf
    rw [hq327]; refine lv_lookup (tgt := 78) hx hb dX9_readOrderWord_4 (by decide) rfl (by decide) ?_
    refine lv_aload_n hx hb dX9_readOrderWord_78 rfl (lv_at hl 0 rfl) ?_
    refine lv_iconst (v := 2) hx hb dX9_readOrderWord_79 (by decide) ?_
    refine lv_iconst (v := 0) hx hb dX9_readOrderWord_80 (by decide) ?_
    obtain ⟨r10, st11, hc, hf⟩ := bd_some hf
    refine c_calli (n := 2) (rest := []) E hN hP hS (fun sz => tX9_readWordOf l D cy ad fz hJ sz (2 : Int32) (0 : Int32) st r10 st11 hc) (va_recv E.2 hP (ci := 9) (q0 := 35) rfl rfl) (gV k_748 k_750 ks_22 k_9 k_751) qX9_readWordOf ⟨Nat.le_of_ble_eq_true rfl, Nat.le_of_ble_eq_true rfl⟩ ⟨Nat.le_refl _, Nat.le_refl _⟩ rfl hl.1 rfl (Nat.le_of_ble_eq_true rfl) dX9_readOrderWord_81 (fun H locs hP hS => ?_)
    obtain ⟨hn, hf⟩ := gb_some hf
    exact c_zret hx hb hr hlocks hn hf hP hS dX9_readOrderWord_84
  replace hf := it_neg hq327 hf
  by_cases hq328 : x1 = 328
  · replace hf := it_pos hq328 hf
    rw [hq328]; refine lv_lookup (tgt := 93) hx hb dX9_readOrderWord_4 (by decide) rfl (by decide) ?_
    refine lv_aload_n hx hb dX9_readOrderWord_93 rfl (lv_at hl 0 rfl) ?_
    refine lv_bipush (v := 9) hx hb dX9_readOrderWord_94 (by decide) ?_
    refine lv_bipush (v := 6) hx hb dX9_readOrderWord_96 (by decide) ?_
    obtain ⟨r12, st13, hc, hf⟩ := bd_some hf
    refine c_calli (n := 2) (rest := []) E hN hP hS (fun sz => tX9_readWordOf l D cy ad fz hJ sz (9 : Int32) (6 : Int32) st r12 st13 hc) (va_recv E.2 hP (ci := 9) (q0 := 35) rfl rfl) (gV k_748 k_750 ks_22 k_9 k_751) qX9_readWordOf ⟨Nat.le_of_ble_eq_true rfl, Nat.le_of_ble_eq_true rfl⟩ ⟨Nat.le_refl _, Nat.le_refl _⟩ rfl hl.1 rfl (Nat.le_of_ble_eq_true rfl) dX9_readOrderWord_98 (fun H locs hP hS => ?_)
    obtain ⟨hn, hf⟩ := gb_some hf
    exact c_zret hx hb hr hlocks hn hf hP hS dX9_readOrderWord_101
  replace hf := it_neg hq328 hf
  refine lv_lookup (tgt := 110) (off := 106) hx hb dX9_readOrderWord_4 (by decide) ?_ (by decide) ?_
  · show (if (302 : Int) = x1.toInt then _ else _) = _
    rw [if_neg (lk_ne 302 hq302)]
    show (if (317 : Int) = x1.toInt then _ else _) = _
    rw [if_neg (lk_ne 317 hq317)]
    show (if (324 : Int) = x1.toInt then _ else _) = _
    rw [if_neg (lk_ne 324 hq324)]
    show (if (326 : Int) = x1.toInt then _ else _) = _
    rw [if_neg (lk_ne 326 hq326)]
    show (if (327 : Int) = x1.toInt then _ else _) = _
    rw [if_neg (lk_ne 327 hq327)]
    show (if (328 : Int) = x1.toInt then _ else _) = _
    rw [if_neg (lk_ne 328 hq328)]
    rfl
  · refine lv_iconst (v := 0) hx hb dX9_readOrderWord_110 (by decide) ?_
    exact c_zret hx hb hr hlocks (by decide) hf hP hS dX9_readOrderWord_111
def fX9_readLawWord (fz : List FP) (st : St) : Option (Int32 × St) := bs (fX11_within (st.1 705) (316 : Int32) (325 : Int32)) (fun r1 => if r1 = 0 then (some ((0 : Int32), st)) else (bd (fX8_add (1 : Int32) ((st.1 705) - (316 : Int32)) fz st) (fun r2 st3 => bd (fX9_lookAt ((st3.1 704) + (1 : Int32)) fz st3) (fun r4 st5 => some ((1 : Int32), st5)))))
set_option maxHeartbeats 4000000 in
set_option maxRecDepth 100000 in
theorem tX9_readLawWord (l : Launch) (D : va_G) (cy : Nat → ClassId) (ad : Nat → Nat) (fz : List FP) (hJ : (cads ad fz).Nodup) (sz : Nat) (st : St) (rr : Int32) (st' : St) (hf : fX9_readLawWord fz st = some (rr, st')) : Met l yX9_readLawWord (Cond.code yX9_readLawWord cX9_readLawWord 1 (some .boolean) :: TT) (rmD 1) (cPc D cy ad fz [.ref (ad 799)] st sz) (cQi D cy ad fz rr st' sz) 0 0 (cA ad fz sz) := by
  refine c_meti (by decide) hJ (Nat.le_of_ble_eq_true rfl) (fun p e s m args below meth c ls E hx hb hr hlocks hown hT hD hN hl hP hS => ?_)
  replace hl : lv_has ls 1 [(0, .ref (ad 799))] := hl
  unfold fX9_readLawWord at hf
  refine lv_aload_n hx hb dX9_readLawWord_0 rfl (lv_at hl 0 rfl) ?_
  refine cg_9_62_7 E hP dX9_readLawWord_1 ?_
  refine lv_sipush (v := 316) hx hb dX9_readLawWord_4 (by decide) ?_
  refine lv_sipush (v := 325) hx hb dX9_readLawWord_7 (by decide) ?_
  obtain ⟨r1, hc, hf⟩ := bs_some hf
  refine s_calliN (n := 3) (rest := []) E.1 (tX11_within l _ (st.1 705) (316 : Int32) (325 : Int32) r1 hc) (hN.1 (Cond.methodLinkNest "OpenGates$Reader" 77 ⟨"OpenGates", "within", "(III)Z"⟩ "OpenGates") (List.mem_of_getElem? (i := 7) rfl)) k_458 k_1 k_459 qX11_within.2 ⟨Nat.le_of_ble_eq_true rfl, Nat.le_of_ble_eq_true rfl⟩ ⟨Nat.le_refl _, Nat.le_refl _⟩ rfl hl.1 rfl (Nat.le_of_ble_eq_true rfl) dX9_readLawWord_10 ?_
  refine lv_if_ne (tgt := 18) hx hb dX9_readLawWord_13 (by decide) (fun hc => ?_) (fun hc => ?_)
  · replace hf := it_neg hc hf
    refine lv_aload_n hx hb dX9_readLawWord_18 rfl (lv_at hl 0 rfl) ?_
    refine cg_9_15_7 E hP dX9_readLawWord_19 ?_
    refine lv_iconst (v := 1) hx hb dX9_readLawWord_22 (by decide) ?_
    refine lv_aload_n hx hb dX9_readLawWord_23 rfl (lv_at hl 0 rfl) ?_
    refine cg_9_62_7 E hP dX9_readLawWord_24 ?_
    refine lv_sipush (v := 316) hx hb dX9_readLawWord_27 (by decide) ?_
    refine lv_isub hx hb dX9_readLawWord_30 ?_
    obtain ⟨r2, st3, hc, hf⟩ := bd_some hf
    refine c_calli (n := 2) (rest := []) E hN hP hS (fun sz => tX8_add l D cy ad fz hJ sz (1 : Int32) ((st.1 705) - (316 : Int32)) st r2 st3 hc) (va_recv E.2 hP (ci := 8) (q0 := 30) rfl rfl) (gV k_728 k_729 k_730 k_8 k_731) qX8_add ⟨Nat.le_of_ble_eq_true rfl, Nat.le_of_ble_eq_true rfl⟩ ⟨Nat.le_refl _, Nat.le_refl _⟩ rfl hl.1 rfl (Nat.le_of_ble_eq_true rfl) dX9_readLawWord_31 (fun H locs hP hS => ?_)
    refine lv_pop hx hb dX9_readLawWord_34 rfl ?_
    refine lv_aload_n hx hb dX9_readLawWord_35 rfl (lv_at hl 0 rfl) ?_
    refine lv_aload_n hx hb dX9_readLawWord_36 rfl (lv_at hl 0 rfl) ?_
    refine cg_9_55_7 E hP dX9_readLawWord_37 ?_
    refine lv_iconst (v := 1) hx hb dX9_readLawWord_40 (by decide) ?_
    refine lv_iadd hx hb dX9_readLawWord_41 ?_
    obtain ⟨r4, st5, hc, hf⟩ := bd_some hf
    refine c_callv (n := 1) (rest := []) E hN hP hS (fun sz => tX9_lookAt l D cy ad fz hJ sz ((st3.1 704) + (1 : Int32)) st3 r4 st5 hc) (va_recv E.2 hP (ci := 9) (q0 := 35) rfl rfl) (gV k_675 k_677 ks_8 k_9 k_678) qX9_lookAt ⟨Nat.le_of_ble_eq_true rfl, Nat.le_of_ble_eq_true rfl⟩ ⟨Nat.le_refl _, Nat.le_refl _⟩ rfl hl.1 rfl (Nat.le_of_ble_eq_true rfl) dX9_readLawWord_42 (fun H locs hP hS => ?_)
    refine lv_iconst (v := 1) hx hb dX9_readLawWord_45 (by decide) ?_
    exact c_zret hx hb hr hlocks (by decide) hf hP hS dX9_readLawWord_46
  · replace hf := it_pos hc hf
    refine lv_iconst (v := 0) hx hb dX9_readLawWord_16 (by decide) ?_
    exact c_zret hx hb hr hlocks (by decide) hf hP hS dX9_readLawWord_17
def fX9_readPart_b92 (rT rS : Int32 → St → Option (Int32 × St)) (fz : List FP) (w0 : Int32) (st : St) : Option (Int32 × St) := gb w0 (some (w0, st))
def fX9_readPart (rT rS : Int32 → St → Option (Int32 × St)) (a0 : Int32) (fz : List FP) (st : St) : Option (Int32 × St) := if (st.1 705) = (91 : Int32) then (bd (fX9_readInBrackets rT rS (91 : Int32) a0 fz st) (fun r12 st13 => gb r12 (some (r12, st13)))) else (if (st.1 703) < (50 : Int32) then (lt (sI st 703 ((st.1 703) + (1 : Int32))) (fun st1 => bd (fX9_isNumber (0 : Int32) (1000 : Int32) fz st1) (fun r2 st3 => if r2 = 0 then (if (st3.1 702) = 0 then (bd (fX9_readOrderWord fz st3) (fun r4 st5 => fX9_readPart_b92 rT rS fz r4 st5)) else (bd (fX9_readLawWord fz st3) (fun r6 st7 => fX9_readPart_b92 rT rS fz r6 st7))) else (bd (fX8_add (0 : Int32) (st3.1 706) fz st3) (fun r8 st9 => bd (fX9_lookAt ((st9.1 704) + (1 : Int32)) fz st9) (fun r10 st11 => some ((1 : Int32), st11))))))) else (some ((0 : Int32), st)))
set_option maxHeartbeats 4000000 in
set_option maxRecDepth 100000 in
theorem tX9_readPart (l : Launch) (D : va_G) (cy : Nat → ClassId) (ad : Nat → Nat) (fz : List FP) (hJ : (cads ad fz).Nodup) (d0 dT dS : Nat) (h8 : 8 ≤ d0) (h8T : dT ≤ d0) (h8S : dS ≤ d0) (rT rS : Int32 → St → Option (Int32 × St)) (hrT : ∀ (sz : Nat) (a0 : Int32) (st : St) (rr : Int32) (st' : St), rT a0 st = some (rr, st') → Met l yX9_readTest (Cond.code yX9_readTest cX9_readTest 5 (some .boolean) :: TT) (rmD dT) (cPc D cy ad fz [.ref (ad 799), .int a0] st sz) (cQi D cy ad fz rr st' sz) 0 0 (cA ad fz sz)) (hrS : ∀ (sz : Nat) (a0 : Int32) (st : St) (rr : Int32) (st' : St), rS a0 st = some (rr, st') → Met l yX9_readSum (Cond.code yX9_readSum cX9_readSum 5 (some .boolean) :: TT) (rmD dS) (cPc D cy ad fz [.ref (ad 799), .int a0] st sz) (cQi D cy ad fz rr st' sz) 0 0 (cA ad fz sz)) (sz : Nat) (a0 : Int32) (st : St) (rr : Int32) (st' : St) (hf : fX9_readPart rT rS a0 fz st = some (rr, st')) : Met l yX9_readPart (Cond.code yX9_readPart cX9_readPart 2 (some .boolean) :: TT) (rmD (d0 + 2)) (cPc D cy ad fz [.ref (ad 799), .int a0] st sz) (cQi D cy ad fz rr st' sz) 0 0 (cA ad fz sz) := by
  refine c_meti (by decide) hJ (Nat.le_of_ble_eq_true rfl) (fun p e s m args below meth c ls E hx hb hr hlocks hown hT hD hN hl hP hS => ?_)
  replace hl : lv_has ls 2 [(0, .ref (ad 799)), (1, .int a0)] := hl
  unfold fX9_readPart at hf
  have B92 : ∀ (w0 : Int32) (st : St) (H : Heap) (locs : List Loc) (ls : Array Slot), fX9_readPart_b92 rT rS fz w0 st = some (rr, st') → lv_has ls 2 [] → va_P D classes (cx cy ad fz st) H → va_S (cA ad fz s.heap.size) s.heap H locs → cGi l (d0 + 2) D cy ad fz rr st' p e s m args below meth c H locs (F0 m 92 ls [.int w0]) := by
    intro w0 st H locs ls hf hl hP hS
    unfold fX9_readPart_b92 at hf
    obtain ⟨hn, hf⟩ := gb_some hf
    exact c_zret hx hb hr hlocks hn hf hP hS dX9_readPart_92
  refine lv_aload_n hx hb dX9_readPart_0 rfl (lv_at hl 0 rfl) ?_
  refine cg_9_62_7 E hP dX9_readPart_1 ?_
  refine lv_bipush (v := 91) hx hb dX9_readPart_4 (by decide) ?_
  refine lv_icmp_ne (tgt := 17) hx hb dX9_readPart_6 (by decide) (fun hc => ?_) (fun hc => ?_)
  · replace hf := it_neg hc hf
    refine lv_aload_n hx hb dX9_readPart_17 rfl (lv_at hl 0 rfl) ?_
    refine cg_9_33_7 E hP dX9_readPart_18 ?_
    refine lv_bipush (v := 50) hx hb dX9_readPart_21 (by decide) ?_
    refine lv_icmp_lt (tgt := 28) hx hb dX9_readPart_23 (by decide) (fun hc => ?_) (fun hc => ?_)
    · replace hf := it_pos hc hf
      refine lv_aload_n hx hb dX9_readPart_28 rfl (lv_at hl 0 rfl) ?_
      refine lv_dup hx hb dX9_readPart_29 rfl ?_
      refine cg_9_33_7 E hP dX9_readPart_30 ?_
      refine lv_iconst (v := 1) hx hb dX9_readPart_33 (by decide) ?_
      refine lv_iadd hx hb dX9_readPart_34 ?_
      refine cp_9_33_7 E hD hP hS dX9_readPart_35 (fun st1 H locs ex hP hS => ?_)
      replace hf := lt_at ex hf; clear ex
      refine lv_aload_n hx hb dX9_readPart_38 rfl (lv_at hl 0 rfl) ?_
      refine lv_iconst (v := 0) hx hb dX9_readPart_39 (by decide) ?_
      refine lv_sipush (v := 1000) hx hb dX9_readPart_40 (by decide) ?_
      obtain ⟨r2, st3, hc, hf⟩ := bd_some hf
      refine c_calli (n := 2) (rest := []) E hN hP hS (fun sz => tX9_isNumber l D cy ad fz hJ sz (0 : Int32) (1000 : Int32) st1 r2 st3 hc) (va_recv E.2 hP (ci := 9) (q0 := 35) rfl rfl) (gV k_736 k_738 ks_19 k_9 k_739) qX9_isNumber ⟨by dsimp only [rmD]; omega, by dsimp only [rmD]; omega⟩ ⟨Nat.le_refl _, Nat.le_refl _⟩ rfl hl.1 rfl (Nat.le_of_ble_eq_true rfl) dX9_readPart_43 (fun H locs hP hS => ?_)
      refine lv_if_eq (tgt := 74) hx hb dX9_readPart_46 (by decide) (fun hc => ?_) (fun hc => ?_)
      · replace hf := it_pos hc hf
        refine lv_aload_n hx hb dX9_readPart_74 rfl (lv_at hl 0 rfl) ?_
        refine cg_9_29_7 E hP dX9_readPart_75 ?_
        refine lv_if_eq (tgt := 88) hx hb dX9_readPart_78 (by decide) (fun hc => ?_) (fun hc => ?_)
        · replace hf := it_pos hc hf
          refine lv_aload_n hx hb dX9_readPart_88 rfl (lv_at hl 0 rfl) ?_
          obtain ⟨r4, st5, hc, hf⟩ := bd_some hf
          refine c_calli (n := 0) (rest := []) E hN hP hS (fun sz => tX9_readOrderWord l D cy ad fz hJ sz st3 r4 st5 hc) (va_recv E.2 hP (ci := 9) (q0 := 35) rfl rfl) (gV k_744 k_746 ks_21 k_9 k_747) qX9_readOrderWord ⟨by dsimp only [rmD]; omega, by dsimp only [rmD]; omega⟩ ⟨Nat.le_refl _, Nat.le_refl _⟩ rfl hl.1 rfl (Nat.le_of_ble_eq_true rfl) dX9_readPart_89 (fun H locs hP hS => ?_)
          exact B92 r4 st5 _ _ ls hf (lv_sub hl [] rfl) hP hS
        · replace hf := it_neg hc hf
          refine lv_aload_n hx hb dX9_readPart_81 rfl (lv_at hl 0 rfl) ?_
          obtain ⟨r6, st7, hc, hf⟩ := bd_some hf
          refine c_calli (n := 0) (rest := []) E hN hP hS (fun sz => tX9_readLawWord l D cy ad fz hJ sz st3 r6 st7 hc) (va_recv E.2 hP (ci := 9) (q0 := 35) rfl rfl) (gV k_740 k_742 ks_20 k_9 k_743) qX9_readLawWord ⟨by dsimp only [rmD]; omega, by dsimp only [rmD]; omega⟩ ⟨Nat.le_refl _, Nat.le_refl _⟩ rfl hl.1 rfl (Nat.le_of_ble_eq_true rfl) dX9_readPart_82 (fun H locs hP hS => ?_)
          refine lv_goto (tgt := 92) hx hb dX9_readPart_85 (by decide) ?_
          exact B92 r6 st7 _ _ ls hf (lv_sub hl [] rfl) hP hS
      · replace hf := it_neg hc hf
        refine lv_aload_n hx hb dX9_readPart_49 rfl (lv_at hl 0 rfl) ?_
        refine cg_9_15_7 E hP dX9_readPart_50 ?_
        refine lv_iconst (v := 0) hx hb dX9_readPart_53 (by decide) ?_
        refine lv_aload_n hx hb dX9_readPart_54 rfl (lv_at hl 0 rfl) ?_
        refine cg_9_74_7 E hP dX9_readPart_55 ?_
        obtain ⟨r8, st9, hc, hf⟩ := bd_some hf
        refine c_calli (n := 2) (rest := []) E hN hP hS (fun sz => tX8_add l D cy ad fz hJ sz (0 : Int32) (st3.1 706) st3 r8 st9 hc) (va_recv E.2 hP (ci := 8) (q0 := 30) rfl rfl) (gV k_728 k_729 k_730 k_8 k_731) qX8_add ⟨by dsimp only [rmD]; omega, by dsimp only [rmD]; omega⟩ ⟨Nat.le_refl _, Nat.le_refl _⟩ rfl hl.1 rfl (Nat.le_of_ble_eq_true rfl) dX9_readPart_58 (fun H locs hP hS => ?_)
        refine lv_pop hx hb dX9_readPart_61 rfl ?_
        refine lv_aload_n hx hb dX9_readPart_62 rfl (lv_at hl 0 rfl) ?_
        refine lv_aload_n hx hb dX9_readPart_63 rfl (lv_at hl 0 rfl) ?_
        refine cg_9_55_7 E hP dX9_readPart_64 ?_
        refine lv_iconst (v := 1) hx hb dX9_readPart_67 (by decide) ?_
        refine lv_iadd hx hb dX9_readPart_68 ?_
        obtain ⟨r10, st11, hc, hf⟩ := bd_some hf
        refine c_callv (n := 1) (rest := []) E hN hP hS (fun sz => tX9_lookAt l D cy ad fz hJ sz ((st9.1 704) + (1 : Int32)) st9 r10 st11 hc) (va_recv E.2 hP (ci := 9) (q0 := 35) rfl rfl) (gV k_675 k_677 ks_8 k_9 k_678) qX9_lookAt ⟨by dsimp only [rmD]; omega, by dsimp only [rmD]; omega⟩ ⟨Nat.le_refl _, Nat.le_refl _⟩ rfl hl.1 rfl (Nat.le_of_ble_eq_true rfl) dX9_readPart_69 (fun H locs hP hS => ?_)
        refine lv_iconst (v := 1) hx hb dX9_readPart_72 (by decide) ?_
        exact c_zret hx hb hr hlocks (by decide) hf hP hS dX9_readPart_73
    · replace hf := it_neg hc hf
      refine lv_iconst (v := 0) hx hb dX9_readPart_26 (by decide) ?_
      exact c_zret hx hb hr hlocks (by decide) hf hP hS dX9_readPart_27
  · replace hf := it_pos hc hf
    refine lv_aload_n hx hb dX9_readPart_9 rfl (lv_at hl 0 rfl) ?_
    refine lv_bipush (v := 91) hx hb dX9_readPart_10 (by decide) ?_
    refine lv_iload_n hx hb dX9_readPart_12 rfl (lv_at hl 1 rfl) ?_
    obtain ⟨r12, st13, hc, hf⟩ := bd_some hf
    refine c_calli (n := 2) (rest := []) E hN hP hS (fun sz => tX9_readInBrackets l D cy ad fz hJ d0 dT dS h8 h8T h8S rT rS hrT hrS sz (91 : Int32) a0 st r12 st13 hc) (va_recv E.2 hP (ci := 9) (q0 := 35) rfl rfl) (gV k_704 k_706 ks_13 k_9 k_707) qX9_readInBrackets ⟨by dsimp only [rmD]; omega, by dsimp only [rmD]; omega⟩ ⟨Nat.le_refl _, Nat.le_refl _⟩ rfl hl.1 rfl (Nat.le_of_ble_eq_true rfl) dX9_readPart_13 (fun H locs hP hS => ?_)
    obtain ⟨hn, hf⟩ := gb_some hf
    exact c_zret hx hb hr hlocks hn hf hP hS dX9_readPart_16
def fX9_readTerm_b109 (rT rS : Int32 → St → Option (Int32 × St)) (fz : List FP) (v2 : Int32) (st : St) : Option (Int32 × St) := gb v2 (some (v2, st))
def fX9_readTerm_b74 (rT rS : Int32 → St → Option (Int32 × St)) (fz : List FP) (k8 : Int32 → Int32 → Int32 → St → Option (Int32 × St)) (v1 : Int32) (v3 : Int32) (w0 : Int32) (st : St) : Option (Int32 × St) := bd (fX9_lookAt ((st.1 704) + (1 : Int32)) fz st) (fun r1 st2 => bd (fX9_readPart rT rS v1 fz st2) (fun r3 st4 => bd (fX8_add w0 (0 : Int32) fz st4) (fun r5 st6 => lt (v3 + (1 : Int32)) (fun x7 => k8 v1 r3 x7 st6))))
def fX9_readTerm_b46 (rT rS : Int32 → St → Option (Int32 × St)) (fz : List FP) (k8 : Int32 → Int32 → Int32 → St → Option (Int32 × St)) (v1 : Int32) (v3 : Int32) (st : St) : Option (Int32 × St) := if (st.1 705) = (42 : Int32) then (fX9_readTerm_b74 rT rS fz k8 v1 v3 (4 : Int32) st) else (if (st.1 705) = (47 : Int32) then (fX9_readTerm_b74 rT rS fz k8 v1 v3 (5 : Int32) st) else (fX9_readTerm_b74 rT rS fz k8 v1 v3 (6 : Int32) st))
def fX9_readTerm_b8 (rT rS : Int32 → St → Option (Int32 × St)) (fz : List FP) (k8 : Int32 → Int32 → Int32 → St → Option (Int32 × St)) (v1 : Int32) (v2 : Int32) (v3 : Int32) (st : St) : Option (Int32 × St) := if v2 = 0 then (fX9_readTerm_b109 rT rS fz v2 st) else (if (400 : Int32) ≤ v3 then (fX9_readTerm_b109 rT rS fz v2 st) else (if (st.1 705) = (42 : Int32) then (fX9_readTerm_b46 rT rS fz k8 v1 v3 st) else (if (st.1 705) = (47 : Int32) then (fX9_readTerm_b46 rT rS fz k8 v1 v3 st) else (if (st.1 705) = (37 : Int32) then (fX9_readTerm_b46 rT rS fz k8 v1 v3 st) else (fX9_readTerm_b109 rT rS fz v2 st)))))
def fX9_readTerm (rT rS : Int32 → St → Option (Int32 × St)) (a0 : Int32) (fz : List FP) (st : St) : Option (Int32 × St) := bd (fX9_readPart rT rS a0 fz st) (fun r8 st9 => lp (fun _ _ _ _ => none) (fX9_readTerm_b8 rT rS fz) 6000 a0 r8 (0 : Int32) st9)
set_option maxHeartbeats 4000000 in
set_option maxRecDepth 100000 in
theorem tX9_readTerm (l : Launch) (D : va_G) (cy : Nat → ClassId) (ad : Nat → Nat) (fz : List FP) (hJ : (cads ad fz).Nodup) (d0 dT dS : Nat) (h8 : 8 ≤ d0) (h8T : dT ≤ d0) (h8S : dS ≤ d0) (rT rS : Int32 → St → Option (Int32 × St)) (hrT : ∀ (sz : Nat) (a0 : Int32) (st : St) (rr : Int32) (st' : St), rT a0 st = some (rr, st') → Met l yX9_readTest (Cond.code yX9_readTest cX9_readTest 5 (some .boolean) :: TT) (rmD dT) (cPc D cy ad fz [.ref (ad 799), .int a0] st sz) (cQi D cy ad fz rr st' sz) 0 0 (cA ad fz sz)) (hrS : ∀ (sz : Nat) (a0 : Int32) (st : St) (rr : Int32) (st' : St), rS a0 st = some (rr, st') → Met l yX9_readSum (Cond.code yX9_readSum cX9_readSum 5 (some .boolean) :: TT) (rmD dS) (cPc D cy ad fz [.ref (ad 799), .int a0] st sz) (cQi D cy ad fz rr st' sz) 0 0 (cA ad fz sz)) (sz : Nat) (a0 : Int32) (st : St) (rr : Int32) (st' : St) (hf : fX9_readTerm rT rS a0 fz st = some (rr, st')) : Met l yX9_readTerm (Cond.code yX9_readTerm cX9_readTerm 5 (some .boolean) :: TT) (rmD (d0 + 3)) (cPc D cy ad fz [.ref (ad 799), .int a0] st sz) (cQi D cy ad fz rr st' sz) 0 0 (cA ad fz sz) := by
  refine c_meti (by decide) hJ (Nat.le_of_ble_eq_true rfl) (fun p e s m args below meth c ls E hx hb hr hlocks hown hT hD hN hl hP hS => ?_)
  replace hl : lv_has ls 5 [(0, .ref (ad 799)), (1, .int a0)] := hl
  unfold fX9_readTerm at hf
  have B109 : ∀ (v2 : Int32) (st : St) (H : Heap) (locs : List Loc) (ls : Array Slot), fX9_readTerm_b109 rT rS fz v2 st = some (rr, st') → lv_has ls 5 [(2, .int v2)] → va_P D classes (cx cy ad fz st) H → va_S (cA ad fz s.heap.size) s.heap H locs → cGi l (d0 + 3) D cy ad fz rr st' p e s m args below meth c H locs (F0 m 109 ls []) := by
    intro v2 st H locs ls hf hl hP hS
    unfold fX9_readTerm_b109 at hf
    refine lv_iload_n hx hb dX9_readTerm_109 rfl (lv_at hl 0 rfl) ?_
    obtain ⟨hn, hf⟩ := gb_some hf
    exact c_zret hx hb hr hlocks hn hf hP hS dX9_readTerm_110
  have L8 : ∀ (n : Nat) (v1 : Int32) (v2 : Int32) (v3 : Int32) (st : St) (H : Heap) (locs : List Loc) (ls : Array Slot), lp (fun _ _ _ _ => none) (fX9_readTerm_b8 rT rS fz) n v1 v2 v3 st = some (rr, st') → lv_has ls 5 [(0, .ref (ad 799)), (1, .int v1), (2, .int v2), (3, .int v3)] → va_P D classes (cx cy ad fz st) H → va_S (cA ad fz s.heap.size) s.heap H locs → cGi l (d0 + 3) D cy ad fz rr st' p e s m args below meth c H locs (F0 m 8 ls []) := by
    intro n
    induction n with
    | zero => intro v1 v2 v3 st H locs ls hf; exact absurd hf (fun h => by cases h)
    | succ n K8 =>
      intro v1 v2 v3 st H locs ls hf hl hP hS
      replace hf : fX9_readTerm_b8 rT rS fz (lp (fun _ _ _ _ => none) (fX9_readTerm_b8 rT rS fz) n) v1 v2 v3 st = some (rr, st') := hf
      generalize lp (fun _ _ _ _ => none) (fX9_readTerm_b8 rT rS fz) n = k8 at hf K8
      have B74 : ∀ (v1 : Int32) (v3 : Int32) (w0 : Int32) (st : St) (H : Heap) (locs : List Loc) (ls : Array Slot), fX9_readTerm_b74 rT rS fz k8 v1 v3 w0 st = some (rr, st') → lv_has ls 5 [(0, .ref (ad 799)), (1, .int v1), (3, .int v3)] → va_P D classes (cx cy ad fz st) H → va_S (cA ad fz s.heap.size) s.heap H locs → cGi l (d0 + 3) D cy ad fz rr st' p e s m args below meth c H locs (F0 m 74 ls [.int w0]) := by
        intro v1 v3 w0 st H locs ls hf hl hP hS
        unfold fX9_readTerm_b74 at hf
        refine lv_istore (lv' := [(4, .int w0), (0, .ref (ad 799)), (1, .int v1), (3, .int v3)]) hx hb dX9_readTerm_74 hl (by decide) rfl (fun ls hl => ?_)
        refine lv_aload_n hx hb dX9_readTerm_76 rfl (lv_at hl 1 rfl) ?_
        refine lv_aload_n hx hb dX9_readTerm_77 rfl (lv_at hl 1 rfl) ?_
        refine cg_9_55_7 E hP dX9_readTerm_78 ?_
        refine lv_iconst (v := 1) hx hb dX9_readTerm_81 (by decide) ?_
        refine lv_iadd hx hb dX9_readTerm_82 ?_
        obtain ⟨r1, st2, hc, hf⟩ := bd_some hf
        refine c_callv (n := 1) (rest := []) E hN hP hS (fun sz => tX9_lookAt l D cy ad fz hJ sz ((st.1 704) + (1 : Int32)) st r1 st2 hc) (va_recv E.2 hP (ci := 9) (q0 := 35) rfl rfl) (gV k_675 k_677 ks_8 k_9 k_678) qX9_lookAt ⟨by dsimp only [rmD]; omega, by dsimp only [rmD]; omega⟩ ⟨Nat.le_refl _, Nat.le_refl _⟩ rfl hl.1 rfl (Nat.le_of_ble_eq_true rfl) dX9_readTerm_83 (fun H locs hP hS => ?_)
        refine lv_aload_n hx hb dX9_readTerm_86 rfl (lv_at hl 1 rfl) ?_
        refine lv_iload_n hx hb dX9_readTerm_87 rfl (lv_at hl 2 rfl) ?_
        obtain ⟨r3, st4, hc, hf⟩ := bd_some hf
        refine c_calli (n := 1) (rest := []) E hN hP hS (fun sz => tX9_readPart l D cy ad fz hJ d0 dT dS h8 h8T h8S rT rS hrT hrS sz v1 st2 r3 st4 hc) (va_recv E.2 hP (ci := 9) (q0 := 35) rfl rfl) (gV k_700 k_702 ks_12 k_9 k_703) qX9_readPart ⟨by dsimp only [rmD]; omega, by dsimp only [rmD]; omega⟩ ⟨Nat.le_refl _, Nat.le_refl _⟩ rfl hl.1 rfl (Nat.le_of_ble_eq_true rfl) dX9_readTerm_88 (fun H locs hP hS => ?_)
        refine lv_istore_n (lv' := [(2, .int r3), (4, .int w0), (0, .ref (ad 799)), (1, .int v1), (3, .int v3)]) hx hb dX9_readTerm_91 rfl hl (by decide) rfl (fun ls hl => ?_)
        refine lv_aload_n hx hb dX9_readTerm_92 rfl (lv_at hl 2 rfl) ?_
        refine cg_9_15_7 E hP dX9_readTerm_93 ?_
        refine lv_iload hx hb dX9_readTerm_96 (lv_at hl 1 rfl) ?_
        refine lv_iconst (v := 0) hx hb dX9_readTerm_98 (by decide) ?_
        obtain ⟨r5, st6, hc, hf⟩ := bd_some hf
        refine c_calli (n := 2) (rest := []) E hN hP hS (fun sz => tX8_add l D cy ad fz hJ sz w0 (0 : Int32) st4 r5 st6 hc) (va_recv E.2 hP (ci := 8) (q0 := 30) rfl rfl) (gV k_728 k_729 k_730 k_8 k_731) qX8_add ⟨by dsimp only [rmD]; omega, by dsimp only [rmD]; omega⟩ ⟨Nat.le_refl _, Nat.le_refl _⟩ rfl hl.1 rfl (Nat.le_of_ble_eq_true rfl) dX9_readTerm_99 (fun H locs hP hS => ?_)
        refine lv_pop hx hb dX9_readTerm_102 rfl ?_
        obtain ⟨x7, ex⟩ : ∃ y : Int32, y = v3 + (1 : Int32) := ⟨_, rfl⟩
        replace hf := lt_at ex hf
        refine lv_iinc (v := x7) (lv' := [(3, .int x7), (2, .int r3), (4, .int w0), (0, .ref (ad 799)), (1, .int v1)]) hx hb dX9_readTerm_103 hl (k := 4) rfl (by rw [ex]; rfl) (by decide) rfl (fun ls hl => ?_)
        clear ex
        refine lv_goto (tgt := 8) hx hb dX9_readTerm_106 (by decide) ?_
        exact K8 v1 r3 x7 st6 _ _ ls hf (lv_sub hl [3, 4, 1, 0] rfl) hP hS
      have B46 : ∀ (v1 : Int32) (v3 : Int32) (st : St) (H : Heap) (locs : List Loc) (ls : Array Slot), fX9_readTerm_b46 rT rS fz k8 v1 v3 st = some (rr, st') → lv_has ls 5 [(0, .ref (ad 799)), (1, .int v1), (3, .int v3)] → va_P D classes (cx cy ad fz st) H → va_S (cA ad fz s.heap.size) s.heap H locs → cGi l (d0 + 3) D cy ad fz rr st' p e s m args below meth c H locs (F0 m 46 ls []) := by
        intro v1 v3 st H locs ls hf hl hP hS
        unfold fX9_readTerm_b46 at hf
        refine lv_aload_n hx hb dX9_readTerm_46 rfl (lv_at hl 0 rfl) ?_
        refine cg_9_62_7 E hP dX9_readTerm_47 ?_
        refine lv_bipush (v := 42) hx hb dX9_readTerm_50 (by decide) ?_
        refine lv_icmp_ne (tgt := 59) hx hb dX9_readTerm_52 (by decide) (fun hc => ?_) (fun hc => ?_)
        · replace hf := it_neg hc hf
          refine lv_aload_n hx hb dX9_readTerm_59 rfl (lv_at hl 0 rfl) ?_
          refine cg_9_62_7 E hP dX9_readTerm_60 ?_
          refine lv_bipush (v := 47) hx hb dX9_readTerm_63 (by decide) ?_
          refine lv_icmp_ne (tgt := 72) hx hb dX9_readTerm_65 (by decide) (fun hc => ?_) (fun hc => ?_)
          · replace hf := it_neg hc hf
            refine lv_bipush (v := 6) hx hb dX9_readTerm_72 (by decide) ?_
            exact B74 v1 v3 (6 : Int32) st _ _ ls hf hl hP hS
          · replace hf := it_pos hc hf
            refine lv_iconst (v := 5) hx hb dX9_readTerm_68 (by decide) ?_
            refine lv_goto (tgt := 74) hx hb dX9_readTerm_69 (by decide) ?_
            exact B74 v1 v3 (5 : Int32) st _ _ ls hf hl hP hS
        · replace hf := it_pos hc hf
          refine lv_iconst (v := 4) hx hb dX9_readTerm_55 (by decide) ?_
          refine lv_goto (tgt := 74) hx hb dX9_readTerm_56 (by decide) ?_
          exact B74 v1 v3 (4 : Int32) st _ _ ls hf hl hP hS
      unfold fX9_readTerm_b8 at hf
      refine lv_iload_n hx hb dX9_readTerm_8 rfl (lv_at hl 2 rfl) ?_
      refine lv_if_eq (tgt := 109) hx hb dX9_readTerm_9 (by decide) (fun hc => ?_) (fun hc => ?_)
      · replace hf := it_pos hc hf
        exact B109 v2 st _ _ ls hf (lv_sub hl [2] rfl) hP hS
      · replace hf := it_neg hc hf
        refine lv_iload_n hx hb dX9_readTerm_12 rfl (lv_at hl 3 rfl) ?_
        refine lv_sipush (v := 400) hx hb dX9_readTerm_13 (by decide) ?_
        refine lv_icmp_ge (tgt := 109) hx hb dX9_readTerm_16 (by decide) (fun hc => ?_) (fun hc => ?_)
        · replace hf := it_pos hc hf
          exact B109 v2 st _ _ ls hf (lv_sub hl [2] rfl) hP hS
        · replace hf := it_neg hc hf
          refine lv_aload_n hx hb dX9_readTerm_19 rfl (lv_at hl 0 rfl) ?_
          refine cg_9_62_7 E hP dX9_readTerm_20 ?_
          refine lv_bipush (v := 42) hx hb dX9_readTerm_23 (by decide) ?_
          refine lv_icmp_eq (tgt := 46) hx hb dX9_readTerm_25 (by decide) (fun hc => ?_) (fun hc => ?_)
          · replace hf := it_pos hc hf
            exact B46 v1 v3 st _ _ ls hf (lv_sub hl [0, 1, 3] rfl) hP hS
          · replace hf := it_neg hc hf
            refine lv_aload_n hx hb dX9_readTerm_28 rfl (lv_at hl 0 rfl) ?_
            refine cg_9_62_7 E hP dX9_readTerm_29 ?_
            refine lv_bipush (v := 47) hx hb dX9_readTerm_32 (by decide) ?_
            refine lv_icmp_eq (tgt := 46) hx hb dX9_readTerm_34 (by decide) (fun hc => ?_) (fun hc => ?_)
            · replace hf := it_pos hc hf
              exact B46 v1 v3 st _ _ ls hf (lv_sub hl [0, 1, 3] rfl) hP hS
            · replace hf := it_neg hc hf
              refine lv_aload_n hx hb dX9_readTerm_37 rfl (lv_at hl 0 rfl) ?_
              refine cg_9_62_7 E hP dX9_readTerm_38 ?_
              refine lv_bipush (v := 37) hx hb dX9_readTerm_41 (by decide) ?_
              refine lv_icmp_ne (tgt := 109) hx hb dX9_readTerm_43 (by decide) (fun hc => ?_) (fun hc => ?_)
              · replace hf := it_neg hc hf
                exact B109 v2 st _ _ ls hf (lv_sub hl [2] rfl) hP hS
              · replace hf := it_pos hc hf
                exact B46 v1 v3 st _ _ ls hf (lv_sub hl [0, 1, 3] rfl) hP hS
  refine lv_aload_n hx hb dX9_readTerm_0 rfl (lv_at hl 0 rfl) ?_
  refine lv_iload_n hx hb dX9_readTerm_1 rfl (lv_at hl 1 rfl) ?_
  obtain ⟨r8, st9, hc, hf⟩ := bd_some hf
  refine c_calli (n := 1) (rest := []) E hN hP hS (fun sz => tX9_readPart l D cy ad fz hJ d0 dT dS h8 h8T h8S rT rS hrT hrS sz a0 st r8 st9 hc) (va_recv E.2 hP (ci := 9) (q0 := 35) rfl rfl) (gV k_700 k_702 ks_12 k_9 k_703) qX9_readPart ⟨by dsimp only [rmD]; omega, by dsimp only [rmD]; omega⟩ ⟨Nat.le_refl _, Nat.le_refl _⟩ rfl hl.1 rfl (Nat.le_of_ble_eq_true rfl) dX9_readTerm_2 (fun H locs hP hS => ?_)
  refine lv_istore_n (lv' := [(2, .int r8), (0, .ref (ad 799)), (1, .int a0)]) hx hb dX9_readTerm_5 rfl hl (by decide) rfl (fun ls hl => ?_)
  refine lv_iconst (v := 0) hx hb dX9_readTerm_6 (by decide) ?_
  refine lv_istore_n (lv' := [(3, .int (0 : Int32)), (2, .int r8), (0, .ref (ad 799)), (1, .int a0)]) hx hb dX9_readTerm_7 rfl hl (by decide) rfl (fun ls hl => ?_)
  exact L8 6000 a0 r8 (0 : Int32) st9 _ _ ls hf (lv_sub hl [2, 3, 1, 0] rfl) hP hS
