def fX11_within_b15 (w0 : Int32) : Option Int32 := gb w0 (some w0)
def fX11_within_b14 : Option Int32 := fX11_within_b15 (0 : Int32)
def fX11_within (a0 : Int32) (a1 : Int32) (a2 : Int32) : Option Int32 := if a0 < a1 then (fX11_within_b14 ) else (if a2 < a0 then (fX11_within_b14 ) else (fX11_within_b15 (1 : Int32)))
set_option maxHeartbeats 4000000 in
set_option maxRecDepth 100000 in
theorem tX11_within (l : Launch) (hh : Heap) (a0 : Int32) (a1 : Int32) (a2 : Int32) (rr : Int32) (hf : fX11_within a0 a1 a2 = some rr) : Met l yX11_within (Cond.code yX11_within cX11_within 3 (some .boolean) :: TT) (rmD 0) (sPc [.int a0, .int a1, .int a2] hh) (sQi rr hh) 0 0 (fun _ => False) := by
  refine s_meti (by decide) (Nat.le_of_ble_eq_true rfl) (fun p e s m args below meth c ls E hx hb hr hlocks hown hT hl => ?_)
  replace hl : lv_has ls 3 [(0, .int a0), (1, .int a1), (2, .int a2)] := hl
  unfold fX11_within at hf
  have B15 : ∀ (w0 : Int32) (ls : Array Slot), fX11_within_b15 w0 = some rr → lv_has ls 3 [] → sGi l 0 rr p e s m args below meth c (F0 m 15 ls [.int w0]) := by
    intro w0 ls hf hl
    unfold fX11_within_b15 at hf
    obtain ⟨hn, hf⟩ := gb_some hf
    exact s_zret hx hb hr hlocks hn hf dX11_within_15
  have B14 : ∀ (ls : Array Slot), fX11_within_b14  = some rr → lv_has ls 3 [] → sGi l 0 rr p e s m args below meth c (F0 m 14 ls []) := by
    intro  ls hf hl
    unfold fX11_within_b14 at hf
    refine lv_iconst (v := 0) hx hb dX11_within_14 (by decide) ?_
    exact B15 (0 : Int32) ls hf hl
  refine lv_iload_n hx hb dX11_within_0 rfl (lv_at hl 0 rfl) ?_
  refine lv_iload_n hx hb dX11_within_1 rfl (lv_at hl 1 rfl) ?_
  refine lv_icmp_lt (tgt := 14) hx hb dX11_within_2 (by decide) (fun hc => ?_) (fun hc => ?_)
  · replace hf := it_pos hc hf
    exact B14  ls hf (lv_sub hl [] rfl)
  · replace hf := it_neg hc hf
    refine lv_iload_n hx hb dX11_within_5 rfl (lv_at hl 0 rfl) ?_
    refine lv_iload_n hx hb dX11_within_6 rfl (lv_at hl 2 rfl) ?_
    refine lv_icmp_gt (tgt := 14) hx hb dX11_within_7 (by decide) (fun hc => ?_) (fun hc => ?_)
    · replace hf := it_pos hc hf
      exact B14  ls hf (lv_sub hl [] rfl)
    · replace hf := it_neg hc hf
      refine lv_iconst (v := 1) hx hb dX11_within_10 (by decide) ?_
      refine lv_goto (tgt := 15) hx hb dX11_within_11 (by decide) ?_
      exact B15 (1 : Int32) ls hf (lv_sub hl [] rfl)
def fX6_found_b19 (fz : List FP) (st : St) : Option (Int32 × St) := some ((-1 : Int32), st)
def fX6_found (a0 : Int32) (a1 : Int32) (fz : List FP) (st : St) : Option (Int32 × St) := bs (fX11_within a0 (0 : Int32) (99 : Int32)) (fun r1 => if r1 = 0 then (fX6_found_b19 fz st) else (bs (fX11_within a1 (0 : Int32) (3 : Int32)) (fun r2 => if r2 = 0 then (fX6_found_b19 fz st) else (if (st.1 108) < (6 : Int32) then (gi (st.1 108) 6 (lt (sA st 200 (upd (st.2.2.1 200) (st.1 108).toNatClampNeg a0)) (fun st3 => gi (st3.1 108) 6 (lt (sA st3 201 (upd (st3.2.2.1 201) (st3.1 108).toNatClampNeg (0 : Int32))) (fun st4 => gi (st4.1 108) 6 (lt (sA st4 202 (upd (st4.2.2.1 202) (st4.1 108).toNatClampNeg (0 : Int32))) (fun st5 => gi (st5.1 108) 6 (lt (sA st5 103 (upd (st5.2.2.1 103) (st5.1 108).toNatClampNeg a1)) (fun st6 => lt (sI st6 108 ((st6.1 108) + (1 : Int32))) (fun st7 => some (((st7.1 108) - (1 : Int32)), st7))))))))))) else (some ((-5 : Int32), st))))))
set_option maxHeartbeats 4000000 in
set_option maxRecDepth 100000 in
theorem tX6_found (l : Launch) (D : va_G) (cy : Nat → ClassId) (ad : Nat → Nat) (fz : List FP) (hJ : (cads ad fz).Nodup) (sz : Nat) (a0 : Int32) (a1 : Int32) (st : St) (rr : Int32) (st' : St) (hf : fX6_found a0 a1 fz st = some (rr, st')) : Met l yX6_found (Cond.code yX6_found cX6_found 3 (some .int) :: TT) (rmD 1) (cPc D cy ad fz [.ref (ad 199), .int a0, .int a1] st sz) (cQi D cy ad fz rr st' sz) 0 0 (cA ad fz sz) := by
  refine c_meti (by decide) hJ (Nat.le_of_ble_eq_true rfl) (fun p e s m args below meth c ls E hx hb hr hlocks hown hT hD hN hl hP hS => ?_)
  replace hl : lv_has ls 3 [(0, .ref (ad 199)), (1, .int a0), (2, .int a1)] := hl
  unfold fX6_found at hf
  have B19 : ∀ (st : St) (H : Heap) (locs : List Loc) (ls : Array Slot), fX6_found_b19 fz st = some (rr, st') → lv_has ls 3 [] → va_P D classes (cx cy ad fz st) H → va_S (cA ad fz s.heap.size) s.heap H locs → cGi l 1 D cy ad fz rr st' p e s m args below meth c H locs (F0 m 19 ls []) := by
    intro st H locs ls hf hl hP hS
    unfold fX6_found_b19 at hf
    refine lv_iconst (v := -1) hx hb dX6_found_19 (by decide) ?_
    exact c_iret hx hb hr hlocks hf hP hS dX6_found_20
  refine lv_iload_n hx hb dX6_found_0 rfl (lv_at hl 1 rfl) ?_
  refine lv_iconst (v := 0) hx hb dX6_found_1 (by decide) ?_
  refine lv_bipush (v := 99) hx hb dX6_found_2 (by decide) ?_
  obtain ⟨r1, hc, hf⟩ := bs_some hf
  refine s_calliN (n := 3) (rest := []) E.1 (tX11_within l _ a0 (0 : Int32) (99 : Int32) r1 hc) (hN.1 (Cond.methodLinkNest "OpenGates$Land" 95 ⟨"OpenGates", "within", "(III)Z"⟩ "OpenGates") (List.mem_of_getElem? (i := 6) rfl)) k_458 k_1 k_459 qX11_within.2 ⟨Nat.le_of_ble_eq_true rfl, Nat.le_of_ble_eq_true rfl⟩ ⟨Nat.le_refl _, Nat.le_refl _⟩ rfl hl.1 rfl (Nat.le_of_ble_eq_true rfl) dX6_found_4 ?_
  refine lv_if_eq (tgt := 19) hx hb dX6_found_7 (by decide) (fun hc => ?_) (fun hc => ?_)
  · replace hf := it_pos hc hf
    exact B19 st _ _ ls hf (lv_sub hl [] rfl) hP hS
  · replace hf := it_neg hc hf
    refine lv_iload_n hx hb dX6_found_10 rfl (lv_at hl 2 rfl) ?_
    refine lv_iconst (v := 0) hx hb dX6_found_11 (by decide) ?_
    refine lv_iconst (v := 3) hx hb dX6_found_12 (by decide) ?_
    obtain ⟨r2, hc, hf⟩ := bs_some hf
    refine s_calliN (n := 3) (rest := []) E.1 (tX11_within l _ a1 (0 : Int32) (3 : Int32) r2 hc) (hN.1 (Cond.methodLinkNest "OpenGates$Land" 95 ⟨"OpenGates", "within", "(III)Z"⟩ "OpenGates") (List.mem_of_getElem? (i := 6) rfl)) k_458 k_1 k_459 qX11_within.2 ⟨Nat.le_of_ble_eq_true rfl, Nat.le_of_ble_eq_true rfl⟩ ⟨Nat.le_refl _, Nat.le_refl _⟩ rfl hl.1 rfl (Nat.le_of_ble_eq_true rfl) dX6_found_13 ?_
    refine lv_if_ne (tgt := 21) hx hb dX6_found_16 (by decide) (fun hc => ?_) (fun hc => ?_)
    · replace hf := it_neg hc hf
      refine lv_aload_n hx hb dX6_found_21 rfl (lv_at hl 0 rfl) ?_
      refine cg_6_86_1 E hP dX6_found_22 ?_
      refine lv_bipush (v := 6) hx hb dX6_found_25 (by decide) ?_
      refine lv_icmp_lt (tgt := 33) hx hb dX6_found_27 (by decide) (fun hc => ?_) (fun hc => ?_)
      · replace hf := it_pos hc hf
        refine lv_aload_n hx hb dX6_found_33 rfl (lv_at hl 0 rfl) ?_
        refine cg_6_12_1 E hP dX6_found_34 ?_
        refine cg_6_99_2 E hP dX6_found_37 ?_
        refine lv_aload_n hx hb dX6_found_40 rfl (lv_at hl 0 rfl) ?_
        refine cg_6_86_1 E hP dX6_found_41 ?_
        refine lv_iload_n hx hb dX6_found_44 rfl (lv_at hl 1 rfl) ?_
        obtain ⟨hi, hf⟩ := gi_some hf
        refine cs_200 E hD hP hS hi dX6_found_45 (fun st3 H locs ex hP hS => ?_)
        replace hf := lt_at ex hf; clear ex
        refine lv_aload_n hx hb dX6_found_46 rfl (lv_at hl 0 rfl) ?_
        refine cg_6_12_1 E hP dX6_found_47 ?_
        refine cg_6_102_2 E hP dX6_found_50 ?_
        refine lv_aload_n hx hb dX6_found_53 rfl (lv_at hl 0 rfl) ?_
        refine cg_6_86_1 E hP dX6_found_54 ?_
        refine lv_iconst (v := 0) hx hb dX6_found_57 (by decide) ?_
        obtain ⟨hi, hf⟩ := gi_some hf
        refine cs_201 E hD hP hS hi dX6_found_58 (fun st4 H locs ex hP hS => ?_)
        replace hf := lt_at ex hf; clear ex
        refine lv_aload_n hx hb dX6_found_59 rfl (lv_at hl 0 rfl) ?_
        refine cg_6_12_1 E hP dX6_found_60 ?_
        refine cg_6_105_2 E hP dX6_found_63 ?_
        refine lv_aload_n hx hb dX6_found_66 rfl (lv_at hl 0 rfl) ?_
        refine cg_6_86_1 E hP dX6_found_67 ?_
        refine lv_iconst (v := 0) hx hb dX6_found_70 (by decide) ?_
        obtain ⟨hi, hf⟩ := gi_some hf
        refine cs_202 E hD hP hS hi dX6_found_71 (fun st5 H locs ex hP hS => ?_)
        replace hf := lt_at ex hf; clear ex
        refine lv_aload_n hx hb dX6_found_72 rfl (lv_at hl 0 rfl) ?_
        refine cg_6_32_1 E hP dX6_found_73 ?_
        refine lv_aload_n hx hb dX6_found_76 rfl (lv_at hl 0 rfl) ?_
        refine cg_6_86_1 E hP dX6_found_77 ?_
        refine lv_iload_n hx hb dX6_found_80 rfl (lv_at hl 2 rfl) ?_
        obtain ⟨hi, hf⟩ := gi_some hf
        refine cs_103 E hD hP hS hi dX6_found_81 (fun st6 H locs ex hP hS => ?_)
        replace hf := lt_at ex hf; clear ex
        refine lv_aload_n hx hb dX6_found_82 rfl (lv_at hl 0 rfl) ?_
        refine lv_dup hx hb dX6_found_83 rfl ?_
        refine cg_6_86_1 E hP dX6_found_84 ?_
        refine lv_iconst (v := 1) hx hb dX6_found_87 (by decide) ?_
        refine lv_iadd hx hb dX6_found_88 ?_
        refine cp_6_86_1 E hD hP hS dX6_found_89 (fun st7 H locs ex hP hS => ?_)
        replace hf := lt_at ex hf; clear ex
        refine lv_aload_n hx hb dX6_found_92 rfl (lv_at hl 0 rfl) ?_
        refine cg_6_86_1 E hP dX6_found_93 ?_
        refine lv_iconst (v := 1) hx hb dX6_found_96 (by decide) ?_
        refine lv_isub hx hb dX6_found_97 ?_
        exact c_iret hx hb hr hlocks hf hP hS dX6_found_98
      · replace hf := it_neg hc hf
        refine lv_bipush (v := -5) hx hb dX6_found_30 (by decide) ?_
        exact c_iret hx hb hr hlocks hf hP hS dX6_found_32
    · replace hf := it_pos hc hf
      exact B19 st _ _ ls hf (lv_sub hl [] rfl) hP hS
def fX2_close (fz : List FP) (st : St) : Option (Unit × St) := lt (sI st 905 (0 : Int32)) (fun st1 => some ((), st1))
set_option maxHeartbeats 4000000 in
set_option maxRecDepth 100000 in
theorem tX2_close (l : Launch) (D : va_G) (cy : Nat → ClassId) (ad : Nat → Nat) (fz : List FP) (hJ : (cads ad fz).Nodup) (sz : Nat) (st : St) (rr : Unit) (st' : St) (hf : fX2_close fz st = some (rr, st')) : Met l yX2_close (Cond.code yX2_close cX2_close 1 none :: TT) (rmD 0) (cPc D cy ad fz [.ref (ad 999)] st sz) (cQv D cy ad fz rr st' sz) 0 0 (cA ad fz sz) := by
  refine c_metv (by decide) hJ (Nat.le_of_ble_eq_true rfl) (fun p e s m args below meth c ls E hx hb hr hlocks hown hT hD hN hl hP hS => ?_)
  replace hl : lv_has ls 1 [(0, .ref (ad 999))] := hl
  unfold fX2_close at hf
  refine lv_aload_n hx hb dX2_close_0 rfl (lv_at hl 0 rfl) ?_
  refine lv_iconst (v := 0) hx hb dX2_close_1 (by decide) ?_
  refine cp_2_105_9 E hD hP hS dX2_close_2 (fun st1 H locs ex hP hS => ?_)
  replace hf := lt_at ex hf; clear ex
  exact c_vret hx hb hr hlocks hf hP hS dX2_close_5
def fX11_refuse_b26 (fz : List FP) (v1 : Int32) (st : St) : Option (Int32 × St) := some (v1, st)
def fX11_refuse (a0 : Int32) (fz : List FP) (st : St) : Option (Int32 × St) := lt (sI st 9 a0) (fun st1 => bs (fX11_within a0 (-6 : Int32) (-1 : Int32)) (fun r2 => if r2 = 0 then (fX11_refuse_b26 fz a0 st1) else (gi (-a0) 7 (gi (-a0) 7 (lt (sA st1 8 (upd (st1.2.2.1 8) (-a0).toNatClampNeg ((st1.2.2.1 8 (-a0).toNatClampNeg) + (1 : Int32)))) (fun st3 => fX11_refuse_b26 fz a0 st3))))))
set_option maxHeartbeats 4000000 in
set_option maxRecDepth 100000 in
theorem tX11_refuse (l : Launch) (D : va_G) (cy : Nat → ClassId) (ad : Nat → Nat) (fz : List FP) (hJ : (cads ad fz).Nodup) (sz : Nat) (a0 : Int32) (st : St) (rr : Int32) (st' : St) (hf : fX11_refuse a0 fz st = some (rr, st')) : Met l yX11_refuse (Cond.code yX11_refuse cX11_refuse 2 (some .int) :: TT) (rmD 1) (cPc D cy ad fz [.ref (ad 99), .int a0] st sz) (cQi D cy ad fz rr st' sz) 0 0 (cA ad fz sz) := by
  refine c_meti (by decide) hJ (Nat.le_of_ble_eq_true rfl) (fun p e s m args below meth c ls E hx hb hr hlocks hown hT hD hN hl hP hS => ?_)
  replace hl : lv_has ls 2 [(0, .ref (ad 99)), (1, .int a0)] := hl
  unfold fX11_refuse at hf
  have B26 : ∀ (v1 : Int32) (st : St) (H : Heap) (locs : List Loc) (ls : Array Slot), fX11_refuse_b26 fz v1 st = some (rr, st') → lv_has ls 2 [(1, .int v1)] → va_P D classes (cx cy ad fz st) H → va_S (cA ad fz s.heap.size) s.heap H locs → cGi l 1 D cy ad fz rr st' p e s m args below meth c H locs (F0 m 26 ls []) := by
    intro v1 st H locs ls hf hl hP hS
    unfold fX11_refuse_b26 at hf
    refine lv_iload_n hx hb dX11_refuse_26 rfl (lv_at hl 0 rfl) ?_
    exact c_iret hx hb hr hlocks hf hP hS dX11_refuse_27
  refine lv_aload_n hx hb dX11_refuse_0 rfl (lv_at hl 0 rfl) ?_
  refine lv_iload_n hx hb dX11_refuse_1 rfl (lv_at hl 1 rfl) ?_
  refine cp_11_203_0 E hD hP hS dX11_refuse_2 (fun st1 H locs ex hP hS => ?_)
  replace hf := lt_at ex hf; clear ex
  refine lv_iload_n hx hb dX11_refuse_5 rfl (lv_at hl 1 rfl) ?_
  refine lv_bipush (v := -6) hx hb dX11_refuse_6 (by decide) ?_
  refine lv_iconst (v := -1) hx hb dX11_refuse_8 (by decide) ?_
  obtain ⟨r2, hc, hf⟩ := bs_some hf
  refine s_calli (n := 3) (rest := []) E.1 (tX11_within l _ a0 (-6 : Int32) (-1 : Int32) r2 hc) (gS k_472 k_458 k_1 k_459) qX11_within ⟨Nat.le_of_ble_eq_true rfl, Nat.le_of_ble_eq_true rfl⟩ ⟨Nat.le_refl _, Nat.le_refl _⟩ rfl hl.1 rfl (Nat.le_of_ble_eq_true rfl) dX11_refuse_9 ?_
  refine lv_if_eq (tgt := 26) hx hb dX11_refuse_12 (by decide) (fun hc => ?_) (fun hc => ?_)
  · replace hf := it_pos hc hf
    exact B26 a0 st1 _ _ ls hf (lv_sub hl [1] rfl) hP hS
  · replace hf := it_neg hc hf
    refine lv_aload_n hx hb dX11_refuse_15 rfl (lv_at hl 0 rfl) ?_
    refine cg_11_75_0 E hP dX11_refuse_16 ?_
    refine lv_iload_n hx hb dX11_refuse_19 rfl (lv_at hl 1 rfl) ?_
    refine lv_ineg hx hb dX11_refuse_20 ?_
    refine lv_dup2_11 hx hb dX11_refuse_21 rfl rfl ?_
    obtain ⟨hi, hf⟩ := gi_some hf
    refine cl_8 E hP hi dX11_refuse_22 ?_
    refine lv_iconst (v := 1) hx hb dX11_refuse_23 (by decide) ?_
    refine lv_iadd hx hb dX11_refuse_24 ?_
    obtain ⟨hi, hf⟩ := gi_some hf
    refine cs_8 E hD hP hS hi dX11_refuse_25 (fun st3 H locs ex hP hS => ?_)
    replace hf := lt_at ex hf; clear ex
    exact B26 a0 st3 _ _ ls hf (lv_sub hl [1] rfl) hP hS
def fX11_settle (a0 : Int32) (fz : List FP) (st : St) : Option (Int32 × St) := if 0 ≤ a0 then (lt (sI st 9 (0 : Int32)) (fun st1 => some (a0, st1))) else (bd (fX11_refuse a0 fz st) (fun r2 st3 => some (r2, st3)))
set_option maxHeartbeats 4000000 in
set_option maxRecDepth 100000 in
theorem tX11_settle (l : Launch) (D : va_G) (cy : Nat → ClassId) (ad : Nat → Nat) (fz : List FP) (hJ : (cads ad fz).Nodup) (sz : Nat) (a0 : Int32) (st : St) (rr : Int32) (st' : St) (hf : fX11_settle a0 fz st = some (rr, st')) : Met l yX11_settle (Cond.code yX11_settle cX11_settle 2 (some .int) :: TT) (rmD 2) (cPc D cy ad fz [.ref (ad 99), .int a0] st sz) (cQi D cy ad fz rr st' sz) 0 0 (cA ad fz sz) := by
  refine c_meti (by decide) hJ (Nat.le_of_ble_eq_true rfl) (fun p e s m args below meth c ls E hx hb hr hlocks hown hT hD hN hl hP hS => ?_)
  replace hl : lv_has ls 2 [(0, .ref (ad 99)), (1, .int a0)] := hl
  unfold fX11_settle at hf
  refine lv_iload_n hx hb dX11_settle_0 rfl (lv_at hl 1 rfl) ?_
  refine lv_if_ge (tgt := 10) hx hb dX11_settle_1 (by decide) (fun hc => ?_) (fun hc => ?_)
  · replace hf := it_pos hc hf
    refine lv_aload_n hx hb dX11_settle_10 rfl (lv_at hl 0 rfl) ?_
    refine lv_iconst (v := 0) hx hb dX11_settle_11 (by decide) ?_
    refine cp_11_203_0 E hD hP hS dX11_settle_12 (fun st1 H locs ex hP hS => ?_)
    replace hf := lt_at ex hf; clear ex
    refine lv_iload_n hx hb dX11_settle_15 rfl (lv_at hl 1 rfl) ?_
    exact c_iret hx hb hr hlocks hf hP hS dX11_settle_16
  · replace hf := it_neg hc hf
    refine lv_aload_n hx hb dX11_settle_4 rfl (lv_at hl 0 rfl) ?_
    refine lv_iload_n hx hb dX11_settle_5 rfl (lv_at hl 1 rfl) ?_
    obtain ⟨r2, st3, hc, hf⟩ := bd_some hf
    refine c_calli (n := 1) (rest := []) E hN hP hS (fun sz => tX11_refuse l D cy ad fz hJ sz a0 st r2 st3 hc) (va_recv E.2 hP (ci := 11) (q0 := 0) rfl rfl) (gV k_468 k_470 ks_1 k_1 k_471) qX11_refuse ⟨Nat.le_of_ble_eq_true rfl, Nat.le_of_ble_eq_true rfl⟩ ⟨Nat.le_refl _, Nat.le_refl _⟩ rfl hl.1 rfl (Nat.le_of_ble_eq_true rfl) dX11_settle_6 (fun H locs hP hS => ?_)
    exact c_iret hx hb hr hlocks hf hP hS dX11_settle_9
def fX11_fort_b21 (fz : List FP) (v3 : Int32) (st : St) : Option (Int32 × St) := bd (fX11_settle v3 fz st) (fun r1 st2 => some (r1, st2))
def fX11_fort (a0 : Int32) (a1 : Int32) (fz : List FP) (st : St) : Option (Int32 × St) := bd (fX6_found a0 a1 fz st) (fun r3 st4 => if r3 < 0 then (fX11_fort_b21 fz r3 st4) else (bd (fX2_close fz st4) (fun r5 st6 => fX11_fort_b21 fz r3 st6)))
set_option maxHeartbeats 4000000 in
set_option maxRecDepth 100000 in
theorem tX11_fort (l : Launch) (D : va_G) (cy : Nat → ClassId) (ad : Nat → Nat) (fz : List FP) (hJ : (cads ad fz).Nodup) (sz : Nat) (a0 : Int32) (a1 : Int32) (st : St) (rr : Int32) (st' : St) (hf : fX11_fort a0 a1 fz st = some (rr, st')) : Met l yX11_fort (Cond.code yX11_fort cX11_fort 4 (some .int) :: TT) (rmD 3) (cPc D cy ad fz [.ref (ad 99), .int a0, .int a1] st sz) (cQi D cy ad fz rr st' sz) 0 0 (cA ad fz sz) := by
  refine c_meti (by decide) hJ (Nat.le_of_ble_eq_true rfl) (fun p e s m args below meth c ls E hx hb hr hlocks hown hT hD hN hl hP hS => ?_)
  replace hl : lv_has ls 4 [(0, .ref (ad 99)), (1, .int a0), (2, .int a1)] := hl
  unfold fX11_fort at hf
  have B21 : ∀ (v3 : Int32) (st : St) (H : Heap) (locs : List Loc) (ls : Array Slot), fX11_fort_b21 fz v3 st = some (rr, st') → lv_has ls 4 [(0, .ref (ad 99)), (3, .int v3)] → va_P D classes (cx cy ad fz st) H → va_S (cA ad fz s.heap.size) s.heap H locs → cGi l 3 D cy ad fz rr st' p e s m args below meth c H locs (F0 m 21 ls []) := by
    intro v3 st H locs ls hf hl hP hS
    unfold fX11_fort_b21 at hf
    refine lv_aload_n hx hb dX11_fort_21 rfl (lv_at hl 0 rfl) ?_
    refine lv_iload_n hx hb dX11_fort_22 rfl (lv_at hl 1 rfl) ?_
    obtain ⟨r1, st2, hc, hf⟩ := bd_some hf
    refine c_calli (n := 1) (rest := []) E hN hP hS (fun sz => tX11_settle l D cy ad fz hJ sz v3 st r1 st2 hc) (va_recv E.2 hP (ci := 11) (q0 := 0) rfl rfl) (gV k_464 k_466 ks_0 k_1 k_467) qX11_settle ⟨Nat.le_of_ble_eq_true rfl, Nat.le_of_ble_eq_true rfl⟩ ⟨Nat.le_refl _, Nat.le_refl _⟩ rfl hl.1 rfl (Nat.le_of_ble_eq_true rfl) dX11_fort_23 (fun H locs hP hS => ?_)
    exact c_iret hx hb hr hlocks hf hP hS dX11_fort_26
  refine lv_aload_n hx hb dX11_fort_0 rfl (lv_at hl 0 rfl) ?_
  refine cg_11_10_0 E hP dX11_fort_1 ?_
  refine lv_iload_n hx hb dX11_fort_4 rfl (lv_at hl 1 rfl) ?_
  refine lv_iload_n hx hb dX11_fort_5 rfl (lv_at hl 2 rfl) ?_
  obtain ⟨r3, st4, hc, hf⟩ := bd_some hf
  refine c_calli (n := 2) (rest := []) E hN hP hS (fun sz => tX6_found l D cy ad fz hJ sz a0 a1 st r3 st4 hc) (va_recv E.2 hP (ci := 6) (q0 := 3) rfl rfl) (gV k_453 k_454 k_455 k_2 k_456) qX6_found ⟨Nat.le_of_ble_eq_true rfl, Nat.le_of_ble_eq_true rfl⟩ ⟨Nat.le_refl _, Nat.le_refl _⟩ rfl hl.1 rfl (Nat.le_of_ble_eq_true rfl) dX11_fort_6 (fun H locs hP hS => ?_)
  refine lv_istore_n (lv' := [(3, .int r3), (0, .ref (ad 99)), (1, .int a0), (2, .int a1)]) hx hb dX11_fort_9 rfl hl (by decide) rfl (fun ls hl => ?_)
  refine lv_iload_n hx hb dX11_fort_10 rfl (lv_at hl 0 rfl) ?_
  refine lv_if_lt (tgt := 21) hx hb dX11_fort_11 (by decide) (fun hc => ?_) (fun hc => ?_)
  · replace hf := it_pos hc hf
    exact B21 r3 st4 _ _ ls hf (lv_sub hl [1, 0] rfl) hP hS
  · replace hf := it_neg hc hf
    refine lv_aload_n hx hb dX11_fort_14 rfl (lv_at hl 1 rfl) ?_
    refine cg_11_53_0 E hP dX11_fort_15 ?_
    obtain ⟨r5, st6, hc, hf⟩ := bd_some hf
    refine c_callv (n := 0) (rest := []) E hN hP hS (fun sz => tX2_close l D cy ad fz hJ sz st4 r5 st6 hc) (va_recv E.2 hP (ci := 2) (q0 := 40) rfl rfl) (gV k_460 k_461 k_462 k_11 k_463) qX2_close ⟨Nat.le_of_ble_eq_true rfl, Nat.le_of_ble_eq_true rfl⟩ ⟨Nat.le_refl _, Nat.le_refl _⟩ rfl hl.1 rfl (Nat.le_of_ble_eq_true rfl) dX11_fort_18 (fun H locs hP hS => ?_)
    exact B21 r3 st6 _ _ ls hf (lv_sub hl [1, 0] rfl) hP hS
def fX6_has (a0 : Int32) (fz : List FP) (st : St) : Option (Int32 × St) := bs (fX11_within a0 (0 : Int32) ((st.1 108) - (1 : Int32))) (fun r1 => gb r1 (some (r1, st)))
set_option maxHeartbeats 4000000 in
set_option maxRecDepth 100000 in
theorem tX6_has (l : Launch) (D : va_G) (cy : Nat → ClassId) (ad : Nat → Nat) (fz : List FP) (hJ : (cads ad fz).Nodup) (sz : Nat) (a0 : Int32) (st : St) (rr : Int32) (st' : St) (hf : fX6_has a0 fz st = some (rr, st')) : Met l yX6_has (Cond.code yX6_has cX6_has 2 (some .boolean) :: TT) (rmD 1) (cPc D cy ad fz [.ref (ad 199), .int a0] st sz) (cQi D cy ad fz rr st' sz) 0 0 (cA ad fz sz) := by
  refine c_meti (by decide) hJ (Nat.le_of_ble_eq_true rfl) (fun p e s m args below meth c ls E hx hb hr hlocks hown hT hD hN hl hP hS => ?_)
  replace hl : lv_has ls 2 [(0, .ref (ad 199)), (1, .int a0)] := hl
  unfold fX6_has at hf
  refine lv_iload_n hx hb dX6_has_0 rfl (lv_at hl 1 rfl) ?_
  refine lv_iconst (v := 0) hx hb dX6_has_1 (by decide) ?_
  refine lv_aload_n hx hb dX6_has_2 rfl (lv_at hl 0 rfl) ?_
  refine cg_6_86_1 E hP dX6_has_3 ?_
  refine lv_iconst (v := 1) hx hb dX6_has_6 (by decide) ?_
  refine lv_isub hx hb dX6_has_7 ?_
  obtain ⟨r1, hc, hf⟩ := bs_some hf
  refine s_calliN (n := 3) (rest := []) E.1 (tX11_within l _ a0 (0 : Int32) ((st.1 108) - (1 : Int32)) r1 hc) (hN.1 (Cond.methodLinkNest "OpenGates$Land" 95 ⟨"OpenGates", "within", "(III)Z"⟩ "OpenGates") (List.mem_of_getElem? (i := 6) rfl)) k_458 k_1 k_459 qX11_within.2 ⟨Nat.le_of_ble_eq_true rfl, Nat.le_of_ble_eq_true rfl⟩ ⟨Nat.le_refl _, Nat.le_refl _⟩ rfl hl.1 rfl (Nat.le_of_ble_eq_true rfl) dX6_has_8 ?_
  obtain ⟨hn, hf⟩ := gb_some hf
  exact c_zret hx hb hr hlocks hn hf hP hS dX6_has_11
def fX5_belief_b170 (fz : List FP) (v1 : Int32) (v3 : Int64) (w0 : Int64) (st : St) : Option (Int32 × St) := gi v1 6 (gi (st.2.2.1 103 v1.toNatClampNeg) 4 (lt (st.2.2.1 203 (st.2.2.1 103 v1.toNatClampNeg).toNatClampNeg) (fun x1 => some (((((x1.toInt64) * w0) + ((((100 : Int32) - x1).toInt64) * v3)) / (100 : Int64)).toInt32, st))))
def fX5_belief_b134 (fz : List FP) (k40 : Int32 → Int32 → Int64 → Int64 → Int64 → Int32 → St → Option (Int32 × St)) (v1 : Int32) (v2 : Int32) (v3 : Int64) (v5 : Int64) (v9 : Int32) (w0 : Int64) (w1 : Int64) (st : St) : Option (Int32 × St) := lt (w1 * w0) (fun x2 => lt (v9 + (1 : Int32)) (fun x3 => k40 v1 v2 v3 v5 x2 x3 st))
def fX5_belief_b112 (fz : List FP) (k40 : Int32 → Int32 → Int64 → Int64 → Int64 → Int32 → St → Option (Int32 × St)) (v1 : Int32) (v2 : Int32) (v3 : Int64) (v7 : Int64) (v9 : Int32) (v11 : Int32) (v12 : Int32) (w0 : Int64) (w1 : Int64) (st : St) : Option (Int32 × St) := lt (w1 * w0) (fun x4 => if v12 = 0 then (fX5_belief_b134 fz k40 v1 v2 v3 x4 v9 (((10 : Int32) - v11).toInt64) v7 st) else (fX5_belief_b134 fz k40 v1 v2 v3 x4 v9 (v11.toInt64) v7 st))
def fX5_belief_b91 (fz : List FP) (k40 : Int32 → Int32 → Int64 → Int64 → Int64 → Int32 → St → Option (Int32 × St)) (v1 : Int32) (v2 : Int32) (v3 : Int64) (v5 : Int64) (v7 : Int64) (v9 : Int32) (v10 : Int32) (v11 : Int32) (w0 : Int32) (st : St) : Option (Int32 × St) := if w0 = 0 then (fX5_belief_b112 fz k40 v1 v2 v3 v7 v9 v11 w0 (((10 : Int32) - v10).toInt64) v5 st) else (fX5_belief_b112 fz k40 v1 v2 v3 v7 v9 v11 w0 (v10.toInt64) v5 st)
def fX5_belief_b40 (fz : List FP) (k40 : Int32 → Int32 → Int64 → Int64 → Int64 → Int32 → St → Option (Int32 × St)) (v1 : Int32) (v2 : Int32) (v3 : Int64) (v5 : Int64) (v7 : Int64) (v9 : Int32) (st : St) : Option (Int32 × St) := if (6 : Int32) ≤ v9 then (lt (v5 + v7) (fun x5 => if (lg_cmp x5 (0 : Int64)) = 0 then (fX5_belief_b170 fz v1 v3 v3 st) else (gzl x5 (fX5_belief_b170 fz v1 v3 ((v5 * (1000000 : Int64)) / x5) st)))) else (gi ((0 : Int32) + v9) 18 (lt (st.2.2.1 104 ((0 : Int32) + v9).toNatClampNeg) (fun x6 => gi ((6 : Int32) + v9) 18 (lt (st.2.2.1 104 ((6 : Int32) + v9).toNatClampNeg) (fun x7 => if ((v2 >>> (v9 &&& 31)) &&& (1 : Int32)) = (1 : Int32) then (fX5_belief_b91 fz k40 v1 v2 v3 v5 v7 v9 x6 x7 (1 : Int32) st) else (fX5_belief_b91 fz k40 v1 v2 v3 v5 v7 v9 x6 x7 (0 : Int32) st))))))
def fX5_belief (a0 : Int32) (a1 : Int32) (fz : List FP) (st : St) : Option (Int32 × St) := lt (((st.1 109).toInt64) * (1000 : Int64)) (fun x8 => lt ((st.1 109).toInt64) (fun x9 => lt (((1000 : Int32) - (st.1 109)).toInt64) (fun x10 => lp (fun _ _ _ _ _ _ _ => none) (fX5_belief_b40 fz) 6000 a0 a1 x8 x9 x10 (0 : Int32) st)))
set_option maxHeartbeats 4000000 in
set_option maxRecDepth 100000 in
theorem tX5_belief (l : Launch) (D : va_G) (cy : Nat → ClassId) (ad : Nat → Nat) (fz : List FP) (hJ : (cads ad fz).Nodup) (sz : Nat) (a0 : Int32) (a1 : Int32) (st : St) (rr : Int32) (st' : St) (hf : fX5_belief a0 a1 fz st = some (rr, st')) : Met l yX5_belief (Cond.code yX5_belief cX5_belief 14 (some .int) :: TT) (rmD 0) (cPc D cy ad fz [.ref (ad 899), .int a0, .int a1] st sz) (cQi D cy ad fz rr st' sz) 0 0 (cA ad fz sz) := by
  refine c_meti (by decide) hJ (Nat.le_of_ble_eq_true rfl) (fun p e s m args below meth c ls E hx hb hr hlocks hown hT hD hN hl hP hS => ?_)
  replace hl : lv_has ls 14 [(0, .ref (ad 899)), (1, .int a0), (2, .int a1)] := hl
  unfold fX5_belief at hf
  have B170 : ∀ (v1 : Int32) (v3 : Int64) (w0 : Int64) (st : St) (H : Heap) (locs : List Loc) (ls : Array Slot), fX5_belief_b170 fz v1 v3 w0 st = some (rr, st') → lv_has ls 14 [(0, .ref (ad 899)), (1, .int v1), (3, .long v3)] → va_P D classes (cx cy ad fz st) H → va_S (cA ad fz s.heap.size) s.heap H locs → cGi l 0 D cy ad fz rr st' p e s m args below meth c H locs (F0 m 170 ls [.long w0]) := by
    intro v1 v3 w0 st H locs ls hf hl hP hS
    unfold fX5_belief_b170 at hf
    refine lv_lstore (lv' := [(11, .long w0), (0, .ref (ad 899)), (1, .int v1), (3, .long v3)]) hx hb dX5_belief_170 hl (by decide) rfl (fun ls hl => ?_)
    refine lv_aload_n hx hb dX5_belief_172 rfl (lv_at hl 1 rfl) ?_
    refine cg_5_24_8 E hP dX5_belief_173 ?_
    refine cg_5_41_1 E hP dX5_belief_176 ?_
    refine cg_5_45_2 E hP dX5_belief_179 ?_
    refine lv_aload_n hx hb dX5_belief_182 rfl (lv_at hl 1 rfl) ?_
    refine cg_5_24_8 E hP dX5_belief_183 ?_
    refine cg_5_50_1 E hP dX5_belief_186 ?_
    refine lv_iload_n hx hb dX5_belief_189 rfl (lv_at hl 2 rfl) ?_
    obtain ⟨hi, hf⟩ := gi_some hf
    refine cl_103 E hP hi dX5_belief_190 ?_
    obtain ⟨hi, hf⟩ := gi_some hf
    refine cl_203 E hP hi dX5_belief_191 ?_
    refine lv_topi (fun x1 ex => ?_)
    replace hf := lt_at ex hf; clear ex
    refine lv_istore (lv' := [(13, .int x1), (11, .long w0), (0, .ref (ad 899)), (1, .int v1), (3, .long v3)]) hx hb dX5_belief_192 hl (by decide) rfl (fun ls hl => ?_)
    refine lv_iload hx hb dX5_belief_194 (lv_at hl 0 rfl) ?_
    refine lv_i2l (v := x1.toInt64) hx hb dX5_belief_196 rfl ?_
    refine lv_lload hx hb dX5_belief_197 (lv_at hl 1 rfl) ?_
    refine lv_lmul hx hb dX5_belief_199 ?_
    refine lv_bipush (v := 100) hx hb dX5_belief_200 (by decide) ?_
    refine lv_iload hx hb dX5_belief_202 (lv_at hl 0 rfl) ?_
    refine lv_isub hx hb dX5_belief_204 ?_
    refine lv_i2l (v := ((100 : Int32) - x1).toInt64) hx hb dX5_belief_205 rfl ?_
    refine lv_lload_n hx hb dX5_belief_206 rfl (lv_at hl 4 rfl) ?_
    refine lv_lmul hx hb dX5_belief_207 ?_
    refine lv_ladd hx hb dX5_belief_208 ?_
    refine lv_ldc2 (v := 100) hx hb hown (hT _ k_487) dX5_belief_209 ?_
    refine lv_ldiv hx hb dX5_belief_212 (by decide) ?_
    refine lv_l2i (v := ((((x1.toInt64) * w0) + ((((100 : Int32) - x1).toInt64) * v3)) / (100 : Int64)).toInt32) hx hb dX5_belief_213 rfl ?_
    exact c_iret hx hb hr hlocks hf hP hS dX5_belief_214
  have L40 : ∀ (n : Nat) (v1 : Int32) (v2 : Int32) (v3 : Int64) (v5 : Int64) (v7 : Int64) (v9 : Int32) (st : St) (H : Heap) (locs : List Loc) (ls : Array Slot), lp (fun _ _ _ _ _ _ _ => none) (fX5_belief_b40 fz) n v1 v2 v3 v5 v7 v9 st = some (rr, st') → lv_has ls 14 [(0, .ref (ad 899)), (1, .int v1), (2, .int v2), (3, .long v3), (5, .long v5), (7, .long v7), (9, .int v9)] → va_P D classes (cx cy ad fz st) H → va_S (cA ad fz s.heap.size) s.heap H locs → cGi l 0 D cy ad fz rr st' p e s m args below meth c H locs (F0 m 40 ls []) := by
    intro n
    induction n with
    | zero => intro v1 v2 v3 v5 v7 v9 st H locs ls hf; exact absurd hf (fun h => by cases h)
    | succ n K40 =>
      intro v1 v2 v3 v5 v7 v9 st H locs ls hf hl hP hS
      replace hf : fX5_belief_b40 fz (lp (fun _ _ _ _ _ _ _ => none) (fX5_belief_b40 fz) n) v1 v2 v3 v5 v7 v9 st = some (rr, st') := hf
      generalize lp (fun _ _ _ _ _ _ _ => none) (fX5_belief_b40 fz) n = k40 at hf K40
      have B134 : ∀ (v1 : Int32) (v2 : Int32) (v3 : Int64) (v5 : Int64) (v9 : Int32) (w0 : Int64) (w1 : Int64) (st : St) (H : Heap) (locs : List Loc) (ls : Array Slot), fX5_belief_b134 fz k40 v1 v2 v3 v5 v9 w0 w1 st = some (rr, st') → lv_has ls 14 [(0, .ref (ad 899)), (1, .int v1), (2, .int v2), (3, .long v3), (5, .long v5), (9, .int v9)] → va_P D classes (cx cy ad fz st) H → va_S (cA ad fz s.heap.size) s.heap H locs → cGi l 0 D cy ad fz rr st' p e s m args below meth c H locs (F0 m 134 ls [.long w0, .long w1]) := by
        intro v1 v2 v3 v5 v9 w0 w1 st H locs ls hf hl hP hS
        unfold fX5_belief_b134 at hf
        refine lv_lmul hx hb dX5_belief_134 ?_
        refine lv_topl (fun x2 ex => ?_)
        replace hf := lt_at ex hf; clear ex
        refine lv_lstore (lv' := [(7, .long x2), (0, .ref (ad 899)), (1, .int v1), (2, .int v2), (3, .long v3), (5, .long v5), (9, .int v9)]) hx hb dX5_belief_135 hl (by decide) rfl (fun ls hl => ?_)
        obtain ⟨x3, ex⟩ : ∃ y : Int32, y = v9 + (1 : Int32) := ⟨_, rfl⟩
        replace hf := lt_at ex hf
        refine lv_iinc (v := x3) (lv' := [(9, .int x3), (7, .long x2), (0, .ref (ad 899)), (1, .int v1), (2, .int v2), (3, .long v3), (5, .long v5)]) hx hb dX5_belief_137 hl (k := 6) rfl (by rw [ex]; rfl) (by decide) rfl (fun ls hl => ?_)
        clear ex
        refine lv_goto (tgt := 40) hx hb dX5_belief_140 (by decide) ?_
        exact K40 v1 v2 v3 v5 x2 x3 st _ _ ls hf (lv_sub hl [2, 3, 4, 5, 6, 1, 0] rfl) hP hS
      have B112 : ∀ (v1 : Int32) (v2 : Int32) (v3 : Int64) (v7 : Int64) (v9 : Int32) (v11 : Int32) (v12 : Int32) (w0 : Int64) (w1 : Int64) (st : St) (H : Heap) (locs : List Loc) (ls : Array Slot), fX5_belief_b112 fz k40 v1 v2 v3 v7 v9 v11 v12 w0 w1 st = some (rr, st') → lv_has ls 14 [(0, .ref (ad 899)), (1, .int v1), (2, .int v2), (3, .long v3), (7, .long v7), (9, .int v9), (11, .int v11), (12, .int v12)] → va_P D classes (cx cy ad fz st) H → va_S (cA ad fz s.heap.size) s.heap H locs → cGi l 0 D cy ad fz rr st' p e s m args below meth c H locs (F0 m 112 ls [.long w0, .long w1]) := by
        intro v1 v2 v3 v7 v9 v11 v12 w0 w1 st H locs ls hf hl hP hS
        unfold fX5_belief_b112 at hf
        refine lv_lmul hx hb dX5_belief_112 ?_
        refine lv_topl (fun x4 ex => ?_)
        replace hf := lt_at ex hf; clear ex
        refine lv_lstore (lv' := [(5, .long x4), (0, .ref (ad 899)), (1, .int v1), (2, .int v2), (3, .long v3), (7, .long v7), (9, .int v9), (11, .int v11), (12, .int v12)]) hx hb dX5_belief_113 hl (by decide) rfl (fun ls hl => ?_)
        refine lv_lload hx hb dX5_belief_115 (lv_at hl 5 rfl) ?_
        refine lv_iload hx hb dX5_belief_117 (lv_at hl 8 rfl) ?_
        refine lv_if_eq (tgt := 128) hx hb dX5_belief_119 (by decide) (fun hc => ?_) (fun hc => ?_)
        · replace hf := it_pos hc hf
          refine lv_bipush (v := 10) hx hb dX5_belief_128 (by decide) ?_
          refine lv_iload hx hb dX5_belief_130 (lv_at hl 7 rfl) ?_
          refine lv_isub hx hb dX5_belief_132 ?_
          refine lv_i2l (v := ((10 : Int32) - v11).toInt64) hx hb dX5_belief_133 rfl ?_
          exact B134 v1 v2 v3 x4 v9 (((10 : Int32) - v11).toInt64) v7 st _ _ ls hf (lv_sub hl [1, 2, 3, 4, 0, 6] rfl) hP hS
        · replace hf := it_neg hc hf
          refine lv_iload hx hb dX5_belief_122 (lv_at hl 7 rfl) ?_
          refine lv_i2l (v := v11.toInt64) hx hb dX5_belief_124 rfl ?_
          refine lv_goto (tgt := 134) hx hb dX5_belief_125 (by decide) ?_
          exact B134 v1 v2 v3 x4 v9 (v11.toInt64) v7 st _ _ ls hf (lv_sub hl [1, 2, 3, 4, 0, 6] rfl) hP hS
      have B91 : ∀ (v1 : Int32) (v2 : Int32) (v3 : Int64) (v5 : Int64) (v7 : Int64) (v9 : Int32) (v10 : Int32) (v11 : Int32) (w0 : Int32) (st : St) (H : Heap) (locs : List Loc) (ls : Array Slot), fX5_belief_b91 fz k40 v1 v2 v3 v5 v7 v9 v10 v11 w0 st = some (rr, st') → lv_has ls 14 [(0, .ref (ad 899)), (1, .int v1), (2, .int v2), (3, .long v3), (5, .long v5), (7, .long v7), (9, .int v9), (10, .int v10), (11, .int v11)] → va_P D classes (cx cy ad fz st) H → va_S (cA ad fz s.heap.size) s.heap H locs → cGi l 0 D cy ad fz rr st' p e s m args below meth c H locs (F0 m 91 ls [.int w0]) := by
        intro v1 v2 v3 v5 v7 v9 v10 v11 w0 st H locs ls hf hl hP hS
        unfold fX5_belief_b91 at hf
        refine lv_istore (lv' := [(12, .int w0), (0, .ref (ad 899)), (1, .int v1), (2, .int v2), (3, .long v3), (5, .long v5), (7, .long v7), (9, .int v9), (10, .int v10), (11, .int v11)]) hx hb dX5_belief_91 hl (by decide) rfl (fun ls hl => ?_)
        refine lv_lload hx hb dX5_belief_93 (lv_at hl 5 rfl) ?_
        refine lv_iload hx hb dX5_belief_95 (lv_at hl 0 rfl) ?_
        refine lv_if_eq (tgt := 106) hx hb dX5_belief_97 (by decide) (fun hc => ?_) (fun hc => ?_)
        · replace hf := it_pos hc hf
          refine lv_bipush (v := 10) hx hb dX5_belief_106 (by decide) ?_
          refine lv_iload hx hb dX5_belief_108 (lv_at hl 8 rfl) ?_
          refine lv_isub hx hb dX5_belief_110 ?_
          refine lv_i2l (v := ((10 : Int32) - v10).toInt64) hx hb dX5_belief_111 rfl ?_
          exact B112 v1 v2 v3 v7 v9 v11 w0 (((10 : Int32) - v10).toInt64) v5 st _ _ ls hf (lv_sub hl [1, 2, 3, 4, 6, 7, 9, 0] rfl) hP hS
        · replace hf := it_neg hc hf
          refine lv_iload hx hb dX5_belief_100 (lv_at hl 8 rfl) ?_
          refine lv_i2l (v := v10.toInt64) hx hb dX5_belief_102 rfl ?_
          refine lv_goto (tgt := 112) hx hb dX5_belief_103 (by decide) ?_
          exact B112 v1 v2 v3 v7 v9 v11 w0 (v10.toInt64) v5 st _ _ ls hf (lv_sub hl [1, 2, 3, 4, 6, 7, 9, 0] rfl) hP hS
      unfold fX5_belief_b40 at hf
      refine lv_iload hx hb dX5_belief_40 (lv_at hl 6 rfl) ?_
      refine lv_bipush (v := 6) hx hb dX5_belief_42 (by decide) ?_
      refine lv_icmp_ge (tgt := 143) hx hb dX5_belief_44 (by decide) (fun hc => ?_) (fun hc => ?_)
      · replace hf := it_pos hc hf
        refine lv_lload hx hb dX5_belief_143 (lv_at hl 4 rfl) ?_
        refine lv_lload hx hb dX5_belief_145 (lv_at hl 5 rfl) ?_
        refine lv_ladd hx hb dX5_belief_147 ?_
        refine lv_topl (fun x5 ex => ?_)
        replace hf := lt_at ex hf; clear ex
        refine lv_lstore (lv' := [(9, .long x5), (0, .ref (ad 899)), (1, .int v1), (2, .int v2), (3, .long v3), (5, .long v5), (7, .long v7)]) hx hb dX5_belief_148 hl (by decide) rfl (fun ls hl => ?_)
        refine lv_lload hx hb dX5_belief_150 (lv_at hl 0 rfl) ?_
        refine lv_lconst (v := 0) hx hb dX5_belief_152 (by decide) ?_
        refine W.lcmp hx hb dX5_belief_153 ?_
        refine lv_if_ne (tgt := 161) hx hb dX5_belief_154 (by decide) (fun hc => ?_) (fun hc => ?_)
        · replace hf := it_neg hc hf
          refine lv_lload hx hb dX5_belief_161 (lv_at hl 5 rfl) ?_
          refine lv_ldc2 (v := 1000000) hx hb hown (hT _ k_486) dX5_belief_163 ?_
          refine lv_lmul hx hb dX5_belief_166 ?_
          refine lv_lload hx hb dX5_belief_167 (lv_at hl 0 rfl) ?_
          obtain ⟨hz, hf⟩ := gzl_some hf
          refine lv_ldiv hx hb dX5_belief_169 hz ?_
          exact B170 v1 v3 ((v5 * (1000000 : Int64)) / x5) st _ _ ls hf (lv_sub hl [1, 2, 4] rfl) hP hS
        · replace hf := it_pos hc hf
          refine lv_lload_n hx hb dX5_belief_157 rfl (lv_at hl 4 rfl) ?_
          refine lv_goto (tgt := 170) hx hb dX5_belief_158 (by decide) ?_
          exact B170 v1 v3 v3 st _ _ ls hf (lv_sub hl [1, 2, 4] rfl) hP hS
      · replace hf := it_neg hc hf
        refine lv_aload_n hx hb dX5_belief_47 rfl (lv_at hl 0 rfl) ?_
        refine cg_5_24_8 E hP dX5_belief_48 ?_
        refine cg_5_36_1 E hP dX5_belief_51 ?_
        refine lv_iconst (v := 0) hx hb dX5_belief_54 (by decide) ?_
        refine lv_iload hx hb dX5_belief_55 (lv_at hl 6 rfl) ?_
        refine lv_iadd hx hb dX5_belief_57 ?_
        obtain ⟨hi, hf⟩ := gi_some hf
        refine cl_104 E hP hi dX5_belief_58 ?_
        refine lv_topi (fun x6 ex => ?_)
        replace hf := lt_at ex hf; clear ex
        refine lv_istore (lv' := [(10, .int x6), (0, .ref (ad 899)), (1, .int v1), (2, .int v2), (3, .long v3), (5, .long v5), (7, .long v7), (9, .int v9)]) hx hb dX5_belief_59 hl (by decide) rfl (fun ls hl => ?_)
        refine lv_aload_n hx hb dX5_belief_61 rfl (lv_at hl 1 rfl) ?_
        refine cg_5_24_8 E hP dX5_belief_62 ?_
        refine cg_5_36_1 E hP dX5_belief_65 ?_
        refine lv_bipush (v := 6) hx hb dX5_belief_68 (by decide) ?_
        refine lv_iload hx hb dX5_belief_70 (lv_at hl 7 rfl) ?_
        refine lv_iadd hx hb dX5_belief_72 ?_
        obtain ⟨hi, hf⟩ := gi_some hf
        refine cl_104 E hP hi dX5_belief_73 ?_
        refine lv_topi (fun x7 ex => ?_)
        replace hf := lt_at ex hf; clear ex
        refine lv_istore (lv' := [(11, .int x7), (10, .int x6), (0, .ref (ad 899)), (1, .int v1), (2, .int v2), (3, .long v3), (5, .long v5), (7, .long v7), (9, .int v9)]) hx hb dX5_belief_74 hl (by decide) rfl (fun ls hl => ?_)
        refine lv_iload_n hx hb dX5_belief_76 rfl (lv_at hl 4 rfl) ?_
        refine lv_iload hx hb dX5_belief_77 (lv_at hl 8 rfl) ?_
        refine lv_ishr hx hb dX5_belief_79 ?_
        refine lv_iconst (v := 1) hx hb dX5_belief_80 (by decide) ?_
        refine lv_iand hx hb dX5_belief_81 ?_
        refine lv_iconst (v := 1) hx hb dX5_belief_82 (by decide) ?_
        refine lv_icmp_ne (tgt := 90) hx hb dX5_belief_83 (by decide) (fun hc => ?_) (fun hc => ?_)
        · replace hf := it_neg hc hf
          refine lv_iconst (v := 0) hx hb dX5_belief_90 (by decide) ?_
          exact B91 v1 v2 v3 v5 v7 v9 x6 x7 (0 : Int32) st _ _ ls hf (lv_sub hl [2, 3, 4, 5, 6, 7, 8, 1, 0] rfl) hP hS
        · replace hf := it_pos hc hf
          refine lv_iconst (v := 1) hx hb dX5_belief_86 (by decide) ?_
          refine lv_goto (tgt := 91) hx hb dX5_belief_87 (by decide) ?_
          exact B91 v1 v2 v3 v5 v7 v9 x6 x7 (1 : Int32) st _ _ ls hf (lv_sub hl [2, 3, 4, 5, 6, 7, 8, 1, 0] rfl) hP hS
  refine lv_aload_n hx hb dX5_belief_0 rfl (lv_at hl 0 rfl) ?_
  refine cg_5_24_8 E hP dX5_belief_1 ?_
  refine cg_5_28_1 E hP dX5_belief_4 ?_
  refine lv_i2l (v := (st.1 109).toInt64) hx hb dX5_belief_7 rfl ?_
  refine lv_ldc2 (v := 1000) hx hb hown (hT _ k_485) dX5_belief_8 ?_
  refine lv_lmul hx hb dX5_belief_11 ?_
  refine lv_topl (fun x8 ex => ?_)
  replace hf := lt_at ex hf; clear ex
  refine lv_lstore_n (lv' := [(3, .long x8), (0, .ref (ad 899)), (1, .int a0), (2, .int a1)]) hx hb dX5_belief_12 rfl hl (by decide) rfl (fun ls hl => ?_)
  refine lv_aload_n hx hb dX5_belief_13 rfl (lv_at hl 1 rfl) ?_
  refine cg_5_24_8 E hP dX5_belief_14 ?_
  refine cg_5_28_1 E hP dX5_belief_17 ?_
  refine lv_i2l (v := (st.1 109).toInt64) hx hb dX5_belief_20 rfl ?_
  refine lv_topl (fun x9 ex => ?_)
  replace hf := lt_at ex hf; clear ex
  refine lv_lstore (lv' := [(5, .long x9), (3, .long x8), (0, .ref (ad 899)), (1, .int a0), (2, .int a1)]) hx hb dX5_belief_21 hl (by decide) rfl (fun ls hl => ?_)
  refine lv_sipush (v := 1000) hx hb dX5_belief_23 (by decide) ?_
  refine lv_aload_n hx hb dX5_belief_26 rfl (lv_at hl 2 rfl) ?_
  refine cg_5_24_8 E hP dX5_belief_27 ?_
  refine cg_5_28_1 E hP dX5_belief_30 ?_
  refine lv_isub hx hb dX5_belief_33 ?_
  refine lv_i2l (v := ((1000 : Int32) - (st.1 109)).toInt64) hx hb dX5_belief_34 rfl ?_
  refine lv_topl (fun x10 ex => ?_)
  replace hf := lt_at ex hf; clear ex
  refine lv_lstore (lv' := [(7, .long x10), (5, .long x9), (3, .long x8), (0, .ref (ad 899)), (1, .int a0), (2, .int a1)]) hx hb dX5_belief_35 hl (by decide) rfl (fun ls hl => ?_)
  refine lv_iconst (v := 0) hx hb dX5_belief_37 (by decide) ?_
  refine lv_istore (lv' := [(9, .int (0 : Int32)), (7, .long x10), (5, .long x9), (3, .long x8), (0, .ref (ad 899)), (1, .int a0), (2, .int a1)]) hx hb dX5_belief_38 hl (by decide) rfl (fun ls hl => ?_)
  exact L40 6000 a0 a1 x8 x9 x10 (0 : Int32) st _ _ ls hf (lv_sub hl [4, 5, 6, 3, 2, 1, 0] rfl) hP hS
def fX11_of (a0 : Int32) (a1 : Int32) (fz : List FP) (st : St) : Option (Int32 × St) := bd (fX6_has a0 fz st) (fun r1 st2 => if r1 = 0 then (some ((-1 : Int32), st2)) else (if a1 = 0 then (gi a0 6 (some ((st2.2.2.1 200 a0.toNatClampNeg), st2))) else (if a1 = 1 then (gi a0 6 (some ((st2.2.2.1 103 a0.toNatClampNeg), st2))) else (if a1 = 2 then (gi a0 6 (some ((st2.2.2.1 201 a0.toNatClampNeg), st2))) else (if a1 = 3 then (gi a0 6 (some ((st2.2.2.1 202 a0.toNatClampNeg), st2))) else (if a1 = 4 then (gi a0 6 (bd (fX5_belief a0 (st2.2.2.1 201 a0.toNatClampNeg) fz st2) (fun r3 st4 => some (r3, st4)))) else (some ((-1 : Int32), st2))))))))
set_option maxHeartbeats 4000000 in
set_option maxRecDepth 100000 in
theorem tX11_of (l : Launch) (D : va_G) (cy : Nat → ClassId) (ad : Nat → Nat) (fz : List FP) (hJ : (cads ad fz).Nodup) (sz : Nat) (a0 : Int32) (a1 : Int32) (st : St) (rr : Int32) (st' : St) (hf : fX11_of a0 a1 fz st = some (rr, st')) : Met l yX11_of (Cond.code yX11_of cX11_of 3 (some .int) :: TT) (rmD 2) (cPc D cy ad fz [.ref (ad 99), .int a0, .int a1] st sz) (cQi D cy ad fz rr st' sz) 0 0 (cA ad fz sz) := by
  refine c_meti (by decide) hJ (Nat.le_of_ble_eq_true rfl) (fun p e s m args below meth c ls E hx hb hr hlocks hown hT hD hN hl hP hS => ?_)
  replace hl : lv_has ls 3 [(0, .ref (ad 99)), (1, .int a0), (2, .int a1)] := hl
  unfold fX11_of at hf
  refine lv_aload_n hx hb dX11_of_0 rfl (lv_at hl 0 rfl) ?_
  refine cg_11_10_0 E hP dX11_of_1 ?_
  refine lv_iload_n hx hb dX11_of_4 rfl (lv_at hl 1 rfl) ?_
  obtain ⟨r1, st2, hc, hf⟩ := bd_some hf
  refine c_calli (n := 1) (rest := []) E hN hP hS (fun sz => tX6_has l D cy ad fz hJ sz a0 st r1 st2 hc) (va_recv E.2 hP (ci := 6) (q0 := 3) rfl rfl) (gV k_477 k_478 k_479 k_2 k_480) qX6_has ⟨Nat.le_of_ble_eq_true rfl, Nat.le_of_ble_eq_true rfl⟩ ⟨Nat.le_refl _, Nat.le_refl _⟩ rfl hl.1 rfl (Nat.le_of_ble_eq_true rfl) dX11_of_5 (fun H locs hP hS => ?_)
  refine lv_if_ne (tgt := 13) hx hb dX11_of_8 (by decide) (fun hc => ?_) (fun hc => ?_)
  · replace hf := it_neg hc hf
    refine lv_iload_n hx hb dX11_of_13 rfl (lv_at hl 2 rfl) ?_
    by_cases hq0 : a1 = 0
    · replace hf := it_pos hq0 hf
      rw [hq0]; refine lv_tableIn (tgt := 48) hx hb dX11_of_14 (by decide) (by decide) rfl (by decide) ?_
      refine lv_aload_n hx hb dX11_of_48 rfl (lv_at hl 0 rfl) ?_
      refine cg_11_10_0 E hP dX11_of_49 ?_
      refine cg_11_101_1 E hP dX11_of_52 ?_
      refine cg_11_105_2 E hP dX11_of_55 ?_
      refine lv_iload_n hx hb dX11_of_58 rfl (lv_at hl 1 rfl) ?_
      obtain ⟨hi, hf⟩ := gi_some hf
      refine cl_200 E hP hi dX11_of_59 ?_
      exact c_iret hx hb hr hlocks hf hP hS dX11_of_60
    replace hf := it_neg hq0 hf
    by_cases hq1 : a1 = 1
    · replace hf := it_pos hq1 hf
      rw [hq1]; refine lv_tableIn (tgt := 61) hx hb dX11_of_14 (by decide) (by decide) rfl (by decide) ?_
      refine lv_aload_n hx hb dX11_of_61 rfl (lv_at hl 0 rfl) ?_
      refine cg_11_10_0 E hP dX11_of_62 ?_
      refine cg_11_110_1 E hP dX11_of_65 ?_
      refine lv_iload_n hx hb dX11_of_68 rfl (lv_at hl 1 rfl) ?_
      obtain ⟨hi, hf⟩ := gi_some hf
      refine cl_103 E hP hi dX11_of_69 ?_
      exact c_iret hx hb hr hlocks hf hP hS dX11_of_70
    replace hf := it_neg hq1 hf
    by_cases hq2 : a1 = 2
    · replace hf := it_pos hq2 hf
      rw [hq2]; refine lv_tableIn (tgt := 71) hx hb dX11_of_14 (by decide) (by decide) rfl (by decide) ?_
      refine lv_aload_n hx hb dX11_of_71 rfl (lv_at hl 0 rfl) ?_
      refine cg_11_10_0 E hP dX11_of_72 ?_
      refine cg_11_101_1 E hP dX11_of_75 ?_
      refine cg_11_113_2 E hP dX11_of_78 ?_
      refine lv_iload_n hx hb dX11_of_81 rfl (lv_at hl 1 rfl) ?_
      obtain ⟨hi, hf⟩ := gi_some hf
      refine cl_201 E hP hi dX11_of_82 ?_
      exact c_iret hx hb hr hlocks hf hP hS dX11_of_83
    replace hf := it_neg hq2 hf
    by_cases hq3 : a1 = 3
    · replace hf := it_pos hq3 hf
      rw [hq3]; refine lv_tableIn (tgt := 84) hx hb dX11_of_14 (by decide) (by decide) rfl (by decide) ?_
      refine lv_aload_n hx hb dX11_of_84 rfl (lv_at hl 0 rfl) ?_
      refine cg_11_10_0 E hP dX11_of_85 ?_
      refine cg_11_101_1 E hP dX11_of_88 ?_
      refine cg_11_116_2 E hP dX11_of_91 ?_
      refine lv_iload_n hx hb dX11_of_94 rfl (lv_at hl 1 rfl) ?_
      obtain ⟨hi, hf⟩ := gi_some hf
      refine cl_202 E hP hi dX11_of_95 ?_
      exact c_iret hx hb hr hlocks hf hP hS dX11_of_96
    replace hf := it_neg hq3 hf
    by_cases hq4 : a1 = 4
    · replace hf := it_pos hq4 hf
      rw [hq4]; refine lv_tableIn (tgt := 97) hx hb dX11_of_14 (by decide) (by decide) rfl (by decide) ?_
      refine lv_aload_n hx hb dX11_of_97 rfl (lv_at hl 0 rfl) ?_
      refine cg_11_44_0 E hP dX11_of_98 ?_
      refine lv_iload_n hx hb dX11_of_101 rfl (lv_at hl 1 rfl) ?_
      refine lv_aload_n hx hb dX11_of_102 rfl (lv_at hl 0 rfl) ?_
      refine cg_11_10_0 E hP dX11_of_103 ?_
      refine cg_11_101_1 E hP dX11_of_106 ?_
      refine cg_11_113_2 E hP dX11_of_109 ?_
      refine lv_iload_n hx hb dX11_of_112 rfl (lv_at hl 1 rfl) ?_
      obtain ⟨hi, hf⟩ := gi_some hf
      refine cl_201 E hP hi dX11_of_113 ?_
      obtain ⟨r3, st4, hc, hf⟩ := bd_some hf
      refine c_calli (n := 2) (rest := []) E hN hP hS (fun sz => tX5_belief l D cy ad fz hJ sz a0 (st2.2.2.1 201 a0.toNatClampNeg) st2 r3 st4 hc) (va_recv E.2 hP (ci := 5) (q0 := 36) rfl rfl) (gV k_481 k_482 k_483 k_10 k_484) qX5_belief ⟨Nat.le_of_ble_eq_true rfl, Nat.le_of_ble_eq_true rfl⟩ ⟨Nat.le_refl _, Nat.le_refl _⟩ rfl hl.1 rfl (Nat.le_of_ble_eq_true rfl) dX11_of_114 (fun H locs hP hS => ?_)
      exact c_iret hx hb hr hlocks hf hP hS dX11_of_117
    replace hf := it_neg hq4 hf
    refine lv_tableOut (tgt := 118) hx hb dX11_of_14 (tb_out (lo := 0) (hi := 4) (fun k h1 h2 he => ?_)) (by decide) ?_
    · have h3 : k = 0 ∨ k = 1 ∨ k = 2 ∨ k = 3 ∨ k = 4 := by omega
      rcases h3 with rfl | rfl | rfl | rfl | rfl
      · exact hq0 he
      · exact hq1 he
      · exact hq2 he
      · exact hq3 he
      · exact hq4 he
    · refine lv_iconst (v := -1) hx hb dX11_of_118 (by decide) ?_
      exact c_iret hx hb hr hlocks hf hP hS dX11_of_119
  · replace hf := it_pos hc hf
    refine lv_iconst (v := -1) hx hb dX11_of_11 (by decide) ?_
    exact c_iret hx hb hr hlocks hf hP hS dX11_of_12
def fX11_sign_b42 (fz : List FP) (st : St) : Option (Int32 × St) := bd (fX11_refuse (-1 : Int32) fz st) (fun r1 st2 => some (r1, st2))
def fX11_sign_b12 (fz : List FP) (v1 : Int32) (v2 : Int32) (v3 : Int32) (w0 : Int32) (st : St) : Option (Int32 × St) := bs (fX11_within v1 (0 : Int32) (5 : Int32)) (fun r3 => if r3 = 0 then (fX11_sign_b42 fz st) else (bs (fX11_within v2 (0 : Int32) (2 : Int32)) (fun r4 => if r4 = 0 then (fX11_sign_b42 fz st) else (bs (fX11_within v3 (0 : Int32) w0) (fun r5 => if r5 = 0 then (fX11_sign_b42 fz st) else (lt ((v2 * (6 : Int32)) + v1) (fun x6 => gi x6 18 (lt (st.2.2.1 104 x6.toNatClampNeg) (fun x7 => gi x6 18 (lt (sA st 104 (upd (st.2.2.1 104) x6.toNatClampNeg v3)) (fun st8 => bd (fX2_close fz st8) (fun r9 st10 => bd (fX11_settle x7 fz st10) (fun r11 st12 => some (r11, st12))))))))))))))
def fX11_sign (a0 : Int32) (a1 : Int32) (a2 : Int32) (fz : List FP) (st : St) : Option (Int32 × St) := if a1 = (2 : Int32) then (fX11_sign_b12 fz a0 a1 a2 (99 : Int32) st) else (fX11_sign_b12 fz a0 a1 a2 (10 : Int32) st)
set_option maxHeartbeats 4000000 in
set_option maxRecDepth 100000 in
theorem tX11_sign (l : Launch) (D : va_G) (cy : Nat → ClassId) (ad : Nat → Nat) (fz : List FP) (hJ : (cads ad fz).Nodup) (sz : Nat) (a0 : Int32) (a1 : Int32) (a2 : Int32) (st : St) (rr : Int32) (st' : St) (hf : fX11_sign a0 a1 a2 fz st = some (rr, st')) : Met l yX11_sign (Cond.code yX11_sign cX11_sign 7 (some .int) :: TT) (rmD 3) (cPc D cy ad fz [.ref (ad 99), .int a0, .int a1, .int a2] st sz) (cQi D cy ad fz rr st' sz) 0 0 (cA ad fz sz) := by
  refine c_meti (by decide) hJ (Nat.le_of_ble_eq_true rfl) (fun p e s m args below meth c ls E hx hb hr hlocks hown hT hD hN hl hP hS => ?_)
  replace hl : lv_has ls 7 [(0, .ref (ad 99)), (1, .int a0), (2, .int a1), (3, .int a2)] := hl
  unfold fX11_sign at hf
  have B42 : ∀ (st : St) (H : Heap) (locs : List Loc) (ls : Array Slot), fX11_sign_b42 fz st = some (rr, st') → lv_has ls 7 [(0, .ref (ad 99))] → va_P D classes (cx cy ad fz st) H → va_S (cA ad fz s.heap.size) s.heap H locs → cGi l 3 D cy ad fz rr st' p e s m args below meth c H locs (F0 m 42 ls []) := by
    intro st H locs ls hf hl hP hS
    unfold fX11_sign_b42 at hf
    refine lv_aload_n hx hb dX11_sign_42 rfl (lv_at hl 0 rfl) ?_
    refine lv_iconst (v := -1) hx hb dX11_sign_43 (by decide) ?_
    obtain ⟨r1, st2, hc, hf⟩ := bd_some hf
    refine c_calli (n := 1) (rest := []) E hN hP hS (fun sz => tX11_refuse l D cy ad fz hJ sz (-1 : Int32) st r1 st2 hc) (va_recv E.2 hP (ci := 11) (q0 := 0) rfl rfl) (gV k_468 k_470 ks_1 k_1 k_471) qX11_refuse ⟨Nat.le_of_ble_eq_true rfl, Nat.le_of_ble_eq_true rfl⟩ ⟨Nat.le_refl _, Nat.le_refl _⟩ rfl hl.1 rfl (Nat.le_of_ble_eq_true rfl) dX11_sign_44 (fun H locs hP hS => ?_)
    exact c_iret hx hb hr hlocks hf hP hS dX11_sign_47
  have B12 : ∀ (v1 : Int32) (v2 : Int32) (v3 : Int32) (w0 : Int32) (st : St) (H : Heap) (locs : List Loc) (ls : Array Slot), fX11_sign_b12 fz v1 v2 v3 w0 st = some (rr, st') → lv_has ls 7 [(0, .ref (ad 99)), (1, .int v1), (2, .int v2), (3, .int v3)] → va_P D classes (cx cy ad fz st) H → va_S (cA ad fz s.heap.size) s.heap H locs → cGi l 3 D cy ad fz rr st' p e s m args below meth c H locs (F0 m 12 ls [.int w0]) := by
    intro v1 v2 v3 w0 st H locs ls hf hl hP hS
    unfold fX11_sign_b12 at hf
    refine lv_istore (lv' := [(4, .int w0), (0, .ref (ad 99)), (1, .int v1), (2, .int v2), (3, .int v3)]) hx hb dX11_sign_12 hl (by decide) rfl (fun ls hl => ?_)
    refine lv_iload_n hx hb dX11_sign_14 rfl (lv_at hl 2 rfl) ?_
    refine lv_iconst (v := 0) hx hb dX11_sign_15 (by decide) ?_
    refine lv_iconst (v := 5) hx hb dX11_sign_16 (by decide) ?_
    obtain ⟨r3, hc, hf⟩ := bs_some hf
    refine s_calli (n := 3) (rest := []) E.1 (tX11_within l _ v1 (0 : Int32) (5 : Int32) r3 hc) (gS k_472 k_458 k_1 k_459) qX11_within ⟨Nat.le_of_ble_eq_true rfl, Nat.le_of_ble_eq_true rfl⟩ ⟨Nat.le_refl _, Nat.le_refl _⟩ rfl hl.1 rfl (Nat.le_of_ble_eq_true rfl) dX11_sign_17 ?_
    refine lv_if_eq (tgt := 42) hx hb dX11_sign_20 (by decide) (fun hc => ?_) (fun hc => ?_)
    · replace hf := it_pos hc hf
      exact B42 st _ _ ls hf (lv_sub hl [1] rfl) hP hS
    · replace hf := it_neg hc hf
      refine lv_iload_n hx hb dX11_sign_23 rfl (lv_at hl 3 rfl) ?_
      refine lv_iconst (v := 0) hx hb dX11_sign_24 (by decide) ?_
      refine lv_iconst (v := 2) hx hb dX11_sign_25 (by decide) ?_
      obtain ⟨r4, hc, hf⟩ := bs_some hf
      refine s_calli (n := 3) (rest := []) E.1 (tX11_within l _ v2 (0 : Int32) (2 : Int32) r4 hc) (gS k_472 k_458 k_1 k_459) qX11_within ⟨Nat.le_of_ble_eq_true rfl, Nat.le_of_ble_eq_true rfl⟩ ⟨Nat.le_refl _, Nat.le_refl _⟩ rfl hl.1 rfl (Nat.le_of_ble_eq_true rfl) dX11_sign_26 ?_
      refine lv_if_eq (tgt := 42) hx hb dX11_sign_29 (by decide) (fun hc => ?_) (fun hc => ?_)
      · replace hf := it_pos hc hf
        exact B42 st _ _ ls hf (lv_sub hl [1] rfl) hP hS
      · replace hf := it_neg hc hf
        refine lv_iload_n hx hb dX11_sign_32 rfl (lv_at hl 4 rfl) ?_
        refine lv_iconst (v := 0) hx hb dX11_sign_33 (by decide) ?_
        refine lv_iload hx hb dX11_sign_34 (lv_at hl 0 rfl) ?_
        obtain ⟨r5, hc, hf⟩ := bs_some hf
        refine s_calli (n := 3) (rest := []) E.1 (tX11_within l _ v3 (0 : Int32) w0 r5 hc) (gS k_472 k_458 k_1 k_459) qX11_within ⟨Nat.le_of_ble_eq_true rfl, Nat.le_of_ble_eq_true rfl⟩ ⟨Nat.le_refl _, Nat.le_refl _⟩ rfl hl.1 rfl (Nat.le_of_ble_eq_true rfl) dX11_sign_36 ?_
        refine lv_if_ne (tgt := 48) hx hb dX11_sign_39 (by decide) (fun hc => ?_) (fun hc => ?_)
        · replace hf := it_neg hc hf
          refine lv_iload_n hx hb dX11_sign_48 rfl (lv_at hl 3 rfl) ?_
          refine lv_bipush (v := 6) hx hb dX11_sign_49 (by decide) ?_
          refine lv_imul hx hb dX11_sign_51 ?_
          refine lv_iload_n hx hb dX11_sign_52 rfl (lv_at hl 2 rfl) ?_
          refine lv_iadd hx hb dX11_sign_53 ?_
          refine lv_topi (fun x6 ex => ?_)
          replace hf := lt_at ex hf; clear ex
          refine lv_istore (lv' := [(5, .int x6), (4, .int w0), (0, .ref (ad 99)), (1, .int v1), (2, .int v2), (3, .int v3)]) hx hb dX11_sign_54 hl (by decide) rfl (fun ls hl => ?_)
          refine lv_aload_n hx hb dX11_sign_56 rfl (lv_at hl 2 rfl) ?_
          refine cg_11_10_0 E hP dX11_sign_57 ?_
          refine cg_11_129_1 E hP dX11_sign_60 ?_
          refine lv_iload hx hb dX11_sign_63 (lv_at hl 0 rfl) ?_
          obtain ⟨hi, hf⟩ := gi_some hf
          refine cl_104 E hP hi dX11_sign_65 ?_
          refine lv_topi (fun x7 ex => ?_)
          replace hf := lt_at ex hf; clear ex
          refine lv_istore (lv' := [(6, .int x7), (5, .int x6), (4, .int w0), (0, .ref (ad 99)), (1, .int v1), (2, .int v2), (3, .int v3)]) hx hb dX11_sign_66 hl (by decide) rfl (fun ls hl => ?_)
          refine lv_aload_n hx hb dX11_sign_68 rfl (lv_at hl 3 rfl) ?_
          refine cg_11_10_0 E hP dX11_sign_69 ?_
          refine cg_11_129_1 E hP dX11_sign_72 ?_
          refine lv_iload hx hb dX11_sign_75 (lv_at hl 1 rfl) ?_
          refine lv_iload_n hx hb dX11_sign_77 rfl (lv_at hl 6 rfl) ?_
          obtain ⟨hi, hf⟩ := gi_some hf
          refine cs_104 E hD hP hS hi dX11_sign_78 (fun st8 H locs ex hP hS => ?_)
          replace hf := lt_at ex hf; clear ex
          refine lv_aload_n hx hb dX11_sign_79 rfl (lv_at hl 3 rfl) ?_
          refine cg_11_53_0 E hP dX11_sign_80 ?_
          obtain ⟨r9, st10, hc, hf⟩ := bd_some hf
          refine c_callv (n := 0) (rest := []) E hN hP hS (fun sz => tX2_close l D cy ad fz hJ sz st8 r9 st10 hc) (va_recv E.2 hP (ci := 2) (q0 := 40) rfl rfl) (gV k_460 k_461 k_462 k_11 k_463) qX2_close ⟨Nat.le_of_ble_eq_true rfl, Nat.le_of_ble_eq_true rfl⟩ ⟨Nat.le_refl _, Nat.le_refl _⟩ rfl hl.1 rfl (Nat.le_of_ble_eq_true rfl) dX11_sign_83 (fun H locs hP hS => ?_)
          refine lv_aload_n hx hb dX11_sign_86 rfl (lv_at hl 3 rfl) ?_
          refine lv_iload hx hb dX11_sign_87 (lv_at hl 0 rfl) ?_
          obtain ⟨r11, st12, hc, hf⟩ := bd_some hf
          refine c_calli (n := 1) (rest := []) E hN hP hS (fun sz => tX11_settle l D cy ad fz hJ sz x7 st10 r11 st12 hc) (va_recv E.2 hP (ci := 11) (q0 := 0) rfl rfl) (gV k_464 k_466 ks_0 k_1 k_467) qX11_settle ⟨Nat.le_of_ble_eq_true rfl, Nat.le_of_ble_eq_true rfl⟩ ⟨Nat.le_refl _, Nat.le_refl _⟩ rfl hl.1 rfl (Nat.le_of_ble_eq_true rfl) dX11_sign_89 (fun H locs hP hS => ?_)
          exact c_iret hx hb hr hlocks hf hP hS dX11_sign_92
        · replace hf := it_pos hc hf
          exact B42 st _ _ ls hf (lv_sub hl [1] rfl) hP hS
  refine lv_iload_n hx hb dX11_sign_0 rfl (lv_at hl 2 rfl) ?_
  refine lv_iconst (v := 2) hx hb dX11_sign_1 (by decide) ?_
  refine lv_icmp_ne (tgt := 10) hx hb dX11_sign_2 (by decide) (fun hc => ?_) (fun hc => ?_)
  · replace hf := it_neg hc hf
    refine lv_bipush (v := 10) hx hb dX11_sign_10 (by decide) ?_
    exact B12 a0 a1 a2 (10 : Int32) st _ _ ls hf hl hP hS
  · replace hf := it_pos hc hf
    refine lv_bipush (v := 99) hx hb dX11_sign_5 (by decide) ?_
    refine lv_goto (tgt := 12) hx hb dX11_sign_7 (by decide) ?_
    exact B12 a0 a1 a2 (99 : Int32) st _ _ ls hf hl hP hS
def fX11_road_b15 (fz : List FP) (st : St) : Option (Int32 × St) := bd (fX11_refuse (-1 : Int32) fz st) (fun r1 st2 => some (r1, st2))
def fX11_road_b43 (fz : List FP) (st : St) : Option (Int32 × St) := bd (fX11_refuse (-2 : Int32) fz st) (fun r3 st4 => some (r3, st4))
def fX11_road (a0 : Int32) (a1 : Int32) (a2 : Int32) (fz : List FP) (st : St) : Option (Int32 × St) := if a0 = a1 then (fX11_road_b15 fz st) else (bs (fX11_within a2 (0 : Int32) (99 : Int32)) (fun r5 => if r5 = 0 then (fX11_road_b15 fz st) else (bd (fX6_has a0 fz st) (fun r6 st7 => if r6 = 0 then (fX11_road_b43 fz st7) else (bd (fX6_has a1 fz st7) (fun r8 st9 => if r8 = 0 then (fX11_road_b43 fz st9) else (gi ((a0 * (6 : Int32)) + a1) 36 (lt (st9.2.2.1 105 ((a0 * (6 : Int32)) + a1).toNatClampNeg) (fun x10 => gi ((a0 * (6 : Int32)) + a1) 36 (lt (sA st9 105 (upd (st9.2.2.1 105) ((a0 * (6 : Int32)) + a1).toNatClampNeg a2)) (fun st11 => gi ((a1 * (6 : Int32)) + a0) 36 (lt (sA st11 105 (upd (st11.2.2.1 105) ((a1 * (6 : Int32)) + a0).toNatClampNeg a2)) (fun st12 => bd (fX11_settle x10 fz st12) (fun r13 st14 => some (r13, st14)))))))))))))))
set_option maxHeartbeats 4000000 in
set_option maxRecDepth 100000 in
theorem tX11_road (l : Launch) (D : va_G) (cy : Nat → ClassId) (ad : Nat → Nat) (fz : List FP) (hJ : (cads ad fz).Nodup) (sz : Nat) (a0 : Int32) (a1 : Int32) (a2 : Int32) (st : St) (rr : Int32) (st' : St) (hf : fX11_road a0 a1 a2 fz st = some (rr, st')) : Met l yX11_road (Cond.code yX11_road cX11_road 5 (some .int) :: TT) (rmD 3) (cPc D cy ad fz [.ref (ad 99), .int a0, .int a1, .int a2] st sz) (cQi D cy ad fz rr st' sz) 0 0 (cA ad fz sz) := by
  refine c_meti (by decide) hJ (Nat.le_of_ble_eq_true rfl) (fun p e s m args below meth c ls E hx hb hr hlocks hown hT hD hN hl hP hS => ?_)
  replace hl : lv_has ls 5 [(0, .ref (ad 99)), (1, .int a0), (2, .int a1), (3, .int a2)] := hl
  unfold fX11_road at hf
  have B15 : ∀ (st : St) (H : Heap) (locs : List Loc) (ls : Array Slot), fX11_road_b15 fz st = some (rr, st') → lv_has ls 5 [(0, .ref (ad 99))] → va_P D classes (cx cy ad fz st) H → va_S (cA ad fz s.heap.size) s.heap H locs → cGi l 3 D cy ad fz rr st' p e s m args below meth c H locs (F0 m 15 ls []) := by
    intro st H locs ls hf hl hP hS
    unfold fX11_road_b15 at hf
    refine lv_aload_n hx hb dX11_road_15 rfl (lv_at hl 0 rfl) ?_
    refine lv_iconst (v := -1) hx hb dX11_road_16 (by decide) ?_
    obtain ⟨r1, st2, hc, hf⟩ := bd_some hf
    refine c_calli (n := 1) (rest := []) E hN hP hS (fun sz => tX11_refuse l D cy ad fz hJ sz (-1 : Int32) st r1 st2 hc) (va_recv E.2 hP (ci := 11) (q0 := 0) rfl rfl) (gV k_468 k_470 ks_1 k_1 k_471) qX11_refuse ⟨Nat.le_of_ble_eq_true rfl, Nat.le_of_ble_eq_true rfl⟩ ⟨Nat.le_refl _, Nat.le_refl _⟩ rfl hl.1 rfl (Nat.le_of_ble_eq_true rfl) dX11_road_17 (fun H locs hP hS => ?_)
    exact c_iret hx hb hr hlocks hf hP hS dX11_road_20
  have B43 : ∀ (st : St) (H : Heap) (locs : List Loc) (ls : Array Slot), fX11_road_b43 fz st = some (rr, st') → lv_has ls 5 [(0, .ref (ad 99))] → va_P D classes (cx cy ad fz st) H → va_S (cA ad fz s.heap.size) s.heap H locs → cGi l 3 D cy ad fz rr st' p e s m args below meth c H locs (F0 m 43 ls []) := by
    intro st H locs ls hf hl hP hS
    unfold fX11_road_b43 at hf
    refine lv_aload_n hx hb dX11_road_43 rfl (lv_at hl 0 rfl) ?_
    refine lv_bipush (v := -2) hx hb dX11_road_44 (by decide) ?_
    obtain ⟨r3, st4, hc, hf⟩ := bd_some hf
    refine c_calli (n := 1) (rest := []) E hN hP hS (fun sz => tX11_refuse l D cy ad fz hJ sz (-2 : Int32) st r3 st4 hc) (va_recv E.2 hP (ci := 11) (q0 := 0) rfl rfl) (gV k_468 k_470 ks_1 k_1 k_471) qX11_refuse ⟨Nat.le_of_ble_eq_true rfl, Nat.le_of_ble_eq_true rfl⟩ ⟨Nat.le_refl _, Nat.le_refl _⟩ rfl hl.1 rfl (Nat.le_of_ble_eq_true rfl) dX11_road_46 (fun H locs hP hS => ?_)
    exact c_iret hx hb hr hlocks hf hP hS dX11_road_49
  refine lv_iload_n hx hb dX11_road_0 rfl (lv_at hl 1 rfl) ?_
  refine lv_iload_n hx hb dX11_road_1 rfl (lv_at hl 2 rfl) ?_
  refine lv_icmp_eq (tgt := 15) hx hb dX11_road_2 (by decide) (fun hc => ?_) (fun hc => ?_)
  · replace hf := it_pos hc hf
    exact B15 st _ _ ls hf (lv_sub hl [0] rfl) hP hS
  · replace hf := it_neg hc hf
    refine lv_iload_n hx hb dX11_road_5 rfl (lv_at hl 3 rfl) ?_
    refine lv_iconst (v := 0) hx hb dX11_road_6 (by decide) ?_
    refine lv_bipush (v := 99) hx hb dX11_road_7 (by decide) ?_
    obtain ⟨r5, hc, hf⟩ := bs_some hf
    refine s_calli (n := 3) (rest := []) E.1 (tX11_within l _ a2 (0 : Int32) (99 : Int32) r5 hc) (gS k_472 k_458 k_1 k_459) qX11_within ⟨Nat.le_of_ble_eq_true rfl, Nat.le_of_ble_eq_true rfl⟩ ⟨Nat.le_refl _, Nat.le_refl _⟩ rfl hl.1 rfl (Nat.le_of_ble_eq_true rfl) dX11_road_9 ?_
    refine lv_if_ne (tgt := 21) hx hb dX11_road_12 (by decide) (fun hc => ?_) (fun hc => ?_)
    · replace hf := it_neg hc hf
      refine lv_aload_n hx hb dX11_road_21 rfl (lv_at hl 0 rfl) ?_
      refine cg_11_10_0 E hP dX11_road_22 ?_
      refine lv_iload_n hx hb dX11_road_25 rfl (lv_at hl 1 rfl) ?_
      obtain ⟨r6, st7, hc, hf⟩ := bd_some hf
      refine c_calli (n := 1) (rest := []) E hN hP hS (fun sz => tX6_has l D cy ad fz hJ sz a0 st r6 st7 hc) (va_recv E.2 hP (ci := 6) (q0 := 3) rfl rfl) (gV k_477 k_478 k_479 k_2 k_480) qX6_has ⟨Nat.le_of_ble_eq_true rfl, Nat.le_of_ble_eq_true rfl⟩ ⟨Nat.le_refl _, Nat.le_refl _⟩ rfl hl.1 rfl (Nat.le_of_ble_eq_true rfl) dX11_road_26 (fun H locs hP hS => ?_)
      refine lv_if_eq (tgt := 43) hx hb dX11_road_29 (by decide) (fun hc => ?_) (fun hc => ?_)
      · replace hf := it_pos hc hf
        exact B43 st7 _ _ ls hf (lv_sub hl [0] rfl) hP hS
      · replace hf := it_neg hc hf
        refine lv_aload_n hx hb dX11_road_32 rfl (lv_at hl 0 rfl) ?_
        refine cg_11_10_0 E hP dX11_road_33 ?_
        refine lv_iload_n hx hb dX11_road_36 rfl (lv_at hl 2 rfl) ?_
        obtain ⟨r8, st9, hc, hf⟩ := bd_some hf
        refine c_calli (n := 1) (rest := []) E hN hP hS (fun sz => tX6_has l D cy ad fz hJ sz a1 st7 r8 st9 hc) (va_recv E.2 hP (ci := 6) (q0 := 3) rfl rfl) (gV k_477 k_478 k_479 k_2 k_480) qX6_has ⟨Nat.le_of_ble_eq_true rfl, Nat.le_of_ble_eq_true rfl⟩ ⟨Nat.le_refl _, Nat.le_refl _⟩ rfl hl.1 rfl (Nat.le_of_ble_eq_true rfl) dX11_road_37 (fun H locs hP hS => ?_)
        refine lv_if_ne (tgt := 50) hx hb dX11_road_40 (by decide) (fun hc => ?_) (fun hc => ?_)
        · replace hf := it_neg hc hf
          refine lv_aload_n hx hb dX11_road_50 rfl (lv_at hl 0 rfl) ?_
          refine cg_11_10_0 E hP dX11_road_51 ?_
          refine cg_11_132_1 E hP dX11_road_54 ?_
          refine lv_iload_n hx hb dX11_road_57 rfl (lv_at hl 1 rfl) ?_
          refine lv_bipush (v := 6) hx hb dX11_road_58 (by decide) ?_
          refine lv_imul hx hb dX11_road_60 ?_
          refine lv_iload_n hx hb dX11_road_61 rfl (lv_at hl 2 rfl) ?_
          refine lv_iadd hx hb dX11_road_62 ?_
          obtain ⟨hi, hf⟩ := gi_some hf
          refine cl_105 E hP hi dX11_road_63 ?_
          refine lv_topi (fun x10 ex => ?_)
          replace hf := lt_at ex hf; clear ex
          refine lv_istore (lv' := [(4, .int x10), (0, .ref (ad 99)), (1, .int a0), (2, .int a1), (3, .int a2)]) hx hb dX11_road_64 hl (by decide) rfl (fun ls hl => ?_)
          refine lv_aload_n hx hb dX11_road_66 rfl (lv_at hl 1 rfl) ?_
          refine cg_11_10_0 E hP dX11_road_67 ?_
          refine cg_11_132_1 E hP dX11_road_70 ?_
          refine lv_iload_n hx hb dX11_road_73 rfl (lv_at hl 2 rfl) ?_
          refine lv_bipush (v := 6) hx hb dX11_road_74 (by decide) ?_
          refine lv_imul hx hb dX11_road_76 ?_
          refine lv_iload_n hx hb dX11_road_77 rfl (lv_at hl 3 rfl) ?_
          refine lv_iadd hx hb dX11_road_78 ?_
          refine lv_iload_n hx hb dX11_road_79 rfl (lv_at hl 4 rfl) ?_
          obtain ⟨hi, hf⟩ := gi_some hf
          refine cs_105 E hD hP hS hi dX11_road_80 (fun st11 H locs ex hP hS => ?_)
          replace hf := lt_at ex hf; clear ex
          refine lv_aload_n hx hb dX11_road_81 rfl (lv_at hl 1 rfl) ?_
          refine cg_11_10_0 E hP dX11_road_82 ?_
          refine cg_11_132_1 E hP dX11_road_85 ?_
          refine lv_iload_n hx hb dX11_road_88 rfl (lv_at hl 3 rfl) ?_
          refine lv_bipush (v := 6) hx hb dX11_road_89 (by decide) ?_
          refine lv_imul hx hb dX11_road_91 ?_
          refine lv_iload_n hx hb dX11_road_92 rfl (lv_at hl 2 rfl) ?_
          refine lv_iadd hx hb dX11_road_93 ?_
          refine lv_iload_n hx hb dX11_road_94 rfl (lv_at hl 4 rfl) ?_
          obtain ⟨hi, hf⟩ := gi_some hf
          refine cs_105 E hD hP hS hi dX11_road_95 (fun st12 H locs ex hP hS => ?_)
          replace hf := lt_at ex hf; clear ex
          refine lv_aload_n hx hb dX11_road_96 rfl (lv_at hl 1 rfl) ?_
          refine lv_iload hx hb dX11_road_97 (lv_at hl 0 rfl) ?_
          obtain ⟨r13, st14, hc, hf⟩ := bd_some hf
          refine c_calli (n := 1) (rest := []) E hN hP hS (fun sz => tX11_settle l D cy ad fz hJ sz x10 st12 r13 st14 hc) (va_recv E.2 hP (ci := 11) (q0 := 0) rfl rfl) (gV k_464 k_466 ks_0 k_1 k_467) qX11_settle ⟨Nat.le_of_ble_eq_true rfl, Nat.le_of_ble_eq_true rfl⟩ ⟨Nat.le_refl _, Nat.le_refl _⟩ rfl hl.1 rfl (Nat.le_of_ble_eq_true rfl) dX11_road_99 (fun H locs hP hS => ?_)
          exact c_iret hx hb hr hlocks hf hP hS dX11_road_102
        · replace hf := it_pos hc hf
          exact B43 st9 _ _ ls hf (lv_sub hl [0] rfl) hP hS
    · replace hf := it_pos hc hf
      exact B15 st _ _ ls hf (lv_sub hl [0] rfl) hP hS
def fX11_fame_b19 (fz : List FP) (st : St) : Option (Int32 × St) := bd (fX11_refuse (-1 : Int32) fz st) (fun r1 st2 => some (r1, st2))
def fX11_fame (a0 : Int32) (a1 : Int32) (fz : List FP) (st : St) : Option (Int32 × St) := bs (fX11_within a0 (0 : Int32) (3 : Int32)) (fun r3 => if r3 = 0 then (fX11_fame_b19 fz st) else (bs (fX11_within a1 (0 : Int32) (100 : Int32)) (fun r4 => if r4 = 0 then (fX11_fame_b19 fz st) else (gi a0 4 (lt (st.2.2.1 203 a0.toNatClampNeg) (fun x5 => gi a0 4 (lt (sA st 203 (upd (st.2.2.1 203) a0.toNatClampNeg a1)) (fun st6 => bd (fX2_close fz st6) (fun r7 st8 => bd (fX11_settle x5 fz st8) (fun r9 st10 => some (r9, st10)))))))))))
set_option maxHeartbeats 4000000 in
set_option maxRecDepth 100000 in
theorem tX11_fame (l : Launch) (D : va_G) (cy : Nat → ClassId) (ad : Nat → Nat) (fz : List FP) (hJ : (cads ad fz).Nodup) (sz : Nat) (a0 : Int32) (a1 : Int32) (st : St) (rr : Int32) (st' : St) (hf : fX11_fame a0 a1 fz st = some (rr, st')) : Met l yX11_fame (Cond.code yX11_fame cX11_fame 4 (some .int) :: TT) (rmD 3) (cPc D cy ad fz [.ref (ad 99), .int a0, .int a1] st sz) (cQi D cy ad fz rr st' sz) 0 0 (cA ad fz sz) := by
  refine c_meti (by decide) hJ (Nat.le_of_ble_eq_true rfl) (fun p e s m args below meth c ls E hx hb hr hlocks hown hT hD hN hl hP hS => ?_)
  replace hl : lv_has ls 4 [(0, .ref (ad 99)), (1, .int a0), (2, .int a1)] := hl
  unfold fX11_fame at hf
  have B19 : ∀ (st : St) (H : Heap) (locs : List Loc) (ls : Array Slot), fX11_fame_b19 fz st = some (rr, st') → lv_has ls 4 [(0, .ref (ad 99))] → va_P D classes (cx cy ad fz st) H → va_S (cA ad fz s.heap.size) s.heap H locs → cGi l 3 D cy ad fz rr st' p e s m args below meth c H locs (F0 m 19 ls []) := by
    intro st H locs ls hf hl hP hS
    unfold fX11_fame_b19 at hf
    refine lv_aload_n hx hb dX11_fame_19 rfl (lv_at hl 0 rfl) ?_
    refine lv_iconst (v := -1) hx hb dX11_fame_20 (by decide) ?_
    obtain ⟨r1, st2, hc, hf⟩ := bd_some hf
    refine c_calli (n := 1) (rest := []) E hN hP hS (fun sz => tX11_refuse l D cy ad fz hJ sz (-1 : Int32) st r1 st2 hc) (va_recv E.2 hP (ci := 11) (q0 := 0) rfl rfl) (gV k_468 k_470 ks_1 k_1 k_471) qX11_refuse ⟨Nat.le_of_ble_eq_true rfl, Nat.le_of_ble_eq_true rfl⟩ ⟨Nat.le_refl _, Nat.le_refl _⟩ rfl hl.1 rfl (Nat.le_of_ble_eq_true rfl) dX11_fame_21 (fun H locs hP hS => ?_)
    exact c_iret hx hb hr hlocks hf hP hS dX11_fame_24
  refine lv_iload_n hx hb dX11_fame_0 rfl (lv_at hl 1 rfl) ?_
  refine lv_iconst (v := 0) hx hb dX11_fame_1 (by decide) ?_
  refine lv_iconst (v := 3) hx hb dX11_fame_2 (by decide) ?_
  obtain ⟨r3, hc, hf⟩ := bs_some hf
  refine s_calli (n := 3) (rest := []) E.1 (tX11_within l _ a0 (0 : Int32) (3 : Int32) r3 hc) (gS k_472 k_458 k_1 k_459) qX11_within ⟨Nat.le_of_ble_eq_true rfl, Nat.le_of_ble_eq_true rfl⟩ ⟨Nat.le_refl _, Nat.le_refl _⟩ rfl hl.1 rfl (Nat.le_of_ble_eq_true rfl) dX11_fame_3 ?_
  refine lv_if_eq (tgt := 19) hx hb dX11_fame_6 (by decide) (fun hc => ?_) (fun hc => ?_)
  · replace hf := it_pos hc hf
    exact B19 st _ _ ls hf (lv_sub hl [0] rfl) hP hS
  · replace hf := it_neg hc hf
    refine lv_iload_n hx hb dX11_fame_9 rfl (lv_at hl 2 rfl) ?_
    refine lv_iconst (v := 0) hx hb dX11_fame_10 (by decide) ?_
    refine lv_bipush (v := 100) hx hb dX11_fame_11 (by decide) ?_
    obtain ⟨r4, hc, hf⟩ := bs_some hf
    refine s_calli (n := 3) (rest := []) E.1 (tX11_within l _ a1 (0 : Int32) (100 : Int32) r4 hc) (gS k_472 k_458 k_1 k_459) qX11_within ⟨Nat.le_of_ble_eq_true rfl, Nat.le_of_ble_eq_true rfl⟩ ⟨Nat.le_refl _, Nat.le_refl _⟩ rfl hl.1 rfl (Nat.le_of_ble_eq_true rfl) dX11_fame_13 ?_
    refine lv_if_ne (tgt := 25) hx hb dX11_fame_16 (by decide) (fun hc => ?_) (fun hc => ?_)
    · replace hf := it_neg hc hf
      refine lv_aload_n hx hb dX11_fame_25 rfl (lv_at hl 0 rfl) ?_
      refine cg_11_10_0 E hP dX11_fame_26 ?_
      refine cg_11_101_1 E hP dX11_fame_29 ?_
      refine cg_11_135_2 E hP dX11_fame_32 ?_
      refine lv_iload_n hx hb dX11_fame_35 rfl (lv_at hl 1 rfl) ?_
      obtain ⟨hi, hf⟩ := gi_some hf
      refine cl_203 E hP hi dX11_fame_36 ?_
      refine lv_topi (fun x5 ex => ?_)
      replace hf := lt_at ex hf; clear ex
      refine lv_istore_n (lv' := [(3, .int x5), (0, .ref (ad 99)), (1, .int a0), (2, .int a1)]) hx hb dX11_fame_37 rfl hl (by decide) rfl (fun ls hl => ?_)
      refine lv_aload_n hx hb dX11_fame_38 rfl (lv_at hl 1 rfl) ?_
      refine cg_11_10_0 E hP dX11_fame_39 ?_
      refine cg_11_101_1 E hP dX11_fame_42 ?_
      refine cg_11_135_2 E hP dX11_fame_45 ?_
      refine lv_iload_n hx hb dX11_fame_48 rfl (lv_at hl 2 rfl) ?_
      refine lv_iload_n hx hb dX11_fame_49 rfl (lv_at hl 3 rfl) ?_
      obtain ⟨hi, hf⟩ := gi_some hf
      refine cs_203 E hD hP hS hi dX11_fame_50 (fun st6 H locs ex hP hS => ?_)
      replace hf := lt_at ex hf; clear ex
      refine lv_aload_n hx hb dX11_fame_51 rfl (lv_at hl 1 rfl) ?_
      refine cg_11_53_0 E hP dX11_fame_52 ?_
      obtain ⟨r7, st8, hc, hf⟩ := bd_some hf
      refine c_callv (n := 0) (rest := []) E hN hP hS (fun sz => tX2_close l D cy ad fz hJ sz st6 r7 st8 hc) (va_recv E.2 hP (ci := 2) (q0 := 40) rfl rfl) (gV k_460 k_461 k_462 k_11 k_463) qX2_close ⟨Nat.le_of_ble_eq_true rfl, Nat.le_of_ble_eq_true rfl⟩ ⟨Nat.le_refl _, Nat.le_refl _⟩ rfl hl.1 rfl (Nat.le_of_ble_eq_true rfl) dX11_fame_55 (fun H locs hP hS => ?_)
      refine lv_aload_n hx hb dX11_fame_58 rfl (lv_at hl 1 rfl) ?_
      refine lv_iload_n hx hb dX11_fame_59 rfl (lv_at hl 0 rfl) ?_
      obtain ⟨r9, st10, hc, hf⟩ := bd_some hf
      refine c_calli (n := 1) (rest := []) E hN hP hS (fun sz => tX11_settle l D cy ad fz hJ sz x5 st8 r9 st10 hc) (va_recv E.2 hP (ci := 11) (q0 := 0) rfl rfl) (gV k_464 k_466 ks_0 k_1 k_467) qX11_settle ⟨Nat.le_of_ble_eq_true rfl, Nat.le_of_ble_eq_true rfl⟩ ⟨Nat.le_refl _, Nat.le_refl _⟩ rfl hl.1 rfl (Nat.le_of_ble_eq_true rfl) dX11_fame_60 (fun H locs hP hS => ?_)
      exact c_iret hx hb hr hlocks hf hP hS dX11_fame_63
    · replace hf := it_pos hc hf
      exact B19 st _ _ ls hf (lv_sub hl [0] rfl) hP hS
def fX5_ask (a0 : Int32) (a1 : Int32) (a2 : Int32) (a3 : Int32) (a4 : Int32) (fz : List FP) (st : St) : Option (Unit × St) := lt (sA st 801 (upd (st.2.2.1 801) (0 : Int32).toNatClampNeg a0)) (fun st1 => gi a0 6 (lt (sA st1 801 (upd (st1.2.2.1 801) (1 : Int32).toNatClampNeg (st1.2.2.1 200 a0.toNatClampNeg))) (fun st2 => gi a0 6 (lt (sA st2 801 (upd (st2.2.2.1 801) (2 : Int32).toNatClampNeg (st2.2.2.1 103 a0.toNatClampNeg))) (fun st3 => gi a0 6 (gi (st3.2.2.1 103 a0.toNatClampNeg) 4 (lt (sA st3 801 (upd (st3.2.2.1 801) (3 : Int32).toNatClampNeg (st3.2.2.1 203 (st3.2.2.1 103 a0.toNatClampNeg).toNatClampNeg))) (fun st4 => lt (sA st4 801 (upd (st4.2.2.1 801) (4 : Int32).toNatClampNeg a1)) (fun st5 => lt (sA st5 801 (upd (st5.2.2.1 801) (5 : Int32).toNatClampNeg a2)) (fun st6 => lt (sA st6 801 (upd (st6.2.2.1 801) (6 : Int32).toNatClampNeg a3)) (fun st7 => lt (sA st7 801 (upd (st7.2.2.1 801) (7 : Int32).toNatClampNeg a4)) (fun st8 => lt (sA st8 801 (upd (st8.2.2.1 801) (8 : Int32).toNatClampNeg (st8.1 204))) (fun st9 => lt (sA st9 801 (upd (st9.2.2.1 801) (9 : Int32).toNatClampNeg (st9.1 110))) (fun st10 => some ((), st10)))))))))))))))
set_option maxHeartbeats 4000000 in
set_option maxRecDepth 100000 in
theorem tX5_ask (l : Launch) (D : va_G) (cy : Nat → ClassId) (ad : Nat → Nat) (fz : List FP) (hJ : (cads ad fz).Nodup) (sz : Nat) (a0 : Int32) (a1 : Int32) (a2 : Int32) (a3 : Int32) (a4 : Int32) (st : St) (rr : Unit) (st' : St) (hf : fX5_ask a0 a1 a2 a3 a4 fz st = some (rr, st')) : Met l yX5_ask (Cond.code yX5_ask cX5_ask 6 none :: TT) (rmD 0) (cPc D cy ad fz [.ref (ad 899), .int a0, .int a1, .int a2, .int a3, .int a4] st sz) (cQv D cy ad fz rr st' sz) 0 0 (cA ad fz sz) := by
  refine c_metv (by decide) hJ (Nat.le_of_ble_eq_true rfl) (fun p e s m args below meth c ls E hx hb hr hlocks hown hT hD hN hl hP hS => ?_)
  replace hl : lv_has ls 6 [(0, .ref (ad 899)), (1, .int a0), (2, .int a1), (3, .int a2), (4, .int a3), (5, .int a4)] := hl
  unfold fX5_ask at hf
  refine lv_aload_n hx hb dX5_ask_0 rfl (lv_at hl 0 rfl) ?_
  refine cg_5_9_8 E hP dX5_ask_1 ?_
  refine lv_iconst (v := 0) hx hb dX5_ask_4 (by decide) ?_
  refine lv_iload_n hx hb dX5_ask_5 rfl (lv_at hl 1 rfl) ?_
  refine cs_801 E hD hP hS (vi rfl) dX5_ask_6 (fun st1 H locs ex hP hS => ?_)
  replace hf := lt_at ex hf; clear ex
  refine lv_aload_n hx hb dX5_ask_7 rfl (lv_at hl 0 rfl) ?_
  refine cg_5_9_8 E hP dX5_ask_8 ?_
  refine lv_iconst (v := 1) hx hb dX5_ask_11 (by decide) ?_
  refine lv_aload_n hx hb dX5_ask_12 rfl (lv_at hl 0 rfl) ?_
  refine cg_5_24_8 E hP dX5_ask_13 ?_
  refine cg_5_41_1 E hP dX5_ask_16 ?_
  refine cg_5_72_2 E hP dX5_ask_19 ?_
  refine lv_iload_n hx hb dX5_ask_22 rfl (lv_at hl 1 rfl) ?_
  obtain ⟨hi, hf⟩ := gi_some hf
  refine cl_200 E hP hi dX5_ask_23 ?_
  refine cs_801 E hD hP hS (vi rfl) dX5_ask_24 (fun st2 H locs ex hP hS => ?_)
  replace hf := lt_at ex hf; clear ex
  refine lv_aload_n hx hb dX5_ask_25 rfl (lv_at hl 0 rfl) ?_
  refine cg_5_9_8 E hP dX5_ask_26 ?_
  refine lv_iconst (v := 2) hx hb dX5_ask_29 (by decide) ?_
  refine lv_aload_n hx hb dX5_ask_30 rfl (lv_at hl 0 rfl) ?_
  refine cg_5_24_8 E hP dX5_ask_31 ?_
  refine cg_5_50_1 E hP dX5_ask_34 ?_
  refine lv_iload_n hx hb dX5_ask_37 rfl (lv_at hl 1 rfl) ?_
  obtain ⟨hi, hf⟩ := gi_some hf
  refine cl_103 E hP hi dX5_ask_38 ?_
  refine cs_801 E hD hP hS (vi rfl) dX5_ask_39 (fun st3 H locs ex hP hS => ?_)
  replace hf := lt_at ex hf; clear ex
  refine lv_aload_n hx hb dX5_ask_40 rfl (lv_at hl 0 rfl) ?_
  refine cg_5_9_8 E hP dX5_ask_41 ?_
  refine lv_iconst (v := 3) hx hb dX5_ask_44 (by decide) ?_
  refine lv_aload_n hx hb dX5_ask_45 rfl (lv_at hl 0 rfl) ?_
  refine cg_5_24_8 E hP dX5_ask_46 ?_
  refine cg_5_41_1 E hP dX5_ask_49 ?_
  refine cg_5_45_2 E hP dX5_ask_52 ?_
  refine lv_aload_n hx hb dX5_ask_55 rfl (lv_at hl 0 rfl) ?_
  refine cg_5_24_8 E hP dX5_ask_56 ?_
  refine cg_5_50_1 E hP dX5_ask_59 ?_
  refine lv_iload_n hx hb dX5_ask_62 rfl (lv_at hl 1 rfl) ?_
  obtain ⟨hi, hf⟩ := gi_some hf
  refine cl_103 E hP hi dX5_ask_63 ?_
  obtain ⟨hi, hf⟩ := gi_some hf
  refine cl_203 E hP hi dX5_ask_64 ?_
  refine cs_801 E hD hP hS (vi rfl) dX5_ask_65 (fun st4 H locs ex hP hS => ?_)
  replace hf := lt_at ex hf; clear ex
  refine lv_aload_n hx hb dX5_ask_66 rfl (lv_at hl 0 rfl) ?_
  refine cg_5_9_8 E hP dX5_ask_67 ?_
  refine lv_iconst (v := 4) hx hb dX5_ask_70 (by decide) ?_
  refine lv_iload_n hx hb dX5_ask_71 rfl (lv_at hl 2 rfl) ?_
  refine cs_801 E hD hP hS (vi rfl) dX5_ask_72 (fun st5 H locs ex hP hS => ?_)
  replace hf := lt_at ex hf; clear ex
  refine lv_aload_n hx hb dX5_ask_73 rfl (lv_at hl 0 rfl) ?_
  refine cg_5_9_8 E hP dX5_ask_74 ?_
  refine lv_iconst (v := 5) hx hb dX5_ask_77 (by decide) ?_
  refine lv_iload_n hx hb dX5_ask_78 rfl (lv_at hl 3 rfl) ?_
  refine cs_801 E hD hP hS (vi rfl) dX5_ask_79 (fun st6 H locs ex hP hS => ?_)
  replace hf := lt_at ex hf; clear ex
  refine lv_aload_n hx hb dX5_ask_80 rfl (lv_at hl 0 rfl) ?_
  refine cg_5_9_8 E hP dX5_ask_81 ?_
  refine lv_bipush (v := 6) hx hb dX5_ask_84 (by decide) ?_
  refine lv_iload hx hb dX5_ask_86 (lv_at hl 4 rfl) ?_
  refine cs_801 E hD hP hS (vi rfl) dX5_ask_88 (fun st7 H locs ex hP hS => ?_)
  replace hf := lt_at ex hf; clear ex
  refine lv_aload_n hx hb dX5_ask_89 rfl (lv_at hl 0 rfl) ?_
  refine cg_5_9_8 E hP dX5_ask_90 ?_
  refine lv_bipush (v := 7) hx hb dX5_ask_93 (by decide) ?_
  refine lv_iload hx hb dX5_ask_95 (lv_at hl 5 rfl) ?_
  refine cs_801 E hD hP hS (vi rfl) dX5_ask_97 (fun st8 H locs ex hP hS => ?_)
  replace hf := lt_at ex hf; clear ex
  refine lv_aload_n hx hb dX5_ask_98 rfl (lv_at hl 0 rfl) ?_
  refine cg_5_9_8 E hP dX5_ask_99 ?_
  refine lv_bipush (v := 8) hx hb dX5_ask_102 (by decide) ?_
  refine lv_aload_n hx hb dX5_ask_104 rfl (lv_at hl 0 rfl) ?_
  refine cg_5_24_8 E hP dX5_ask_105 ?_
  refine cg_5_41_1 E hP dX5_ask_108 ?_
  refine cg_5_75_2 E hP dX5_ask_111 ?_
  refine cs_801 E hD hP hS (vi rfl) dX5_ask_114 (fun st9 H locs ex hP hS => ?_)
  replace hf := lt_at ex hf; clear ex
  refine lv_aload_n hx hb dX5_ask_115 rfl (lv_at hl 0 rfl) ?_
  refine cg_5_9_8 E hP dX5_ask_116 ?_
  refine lv_bipush (v := 9) hx hb dX5_ask_119 (by decide) ?_
  refine lv_aload_n hx hb dX5_ask_121 rfl (lv_at hl 0 rfl) ?_
  refine cg_5_24_8 E hP dX5_ask_122 ?_
  refine cg_5_78_1 E hP dX5_ask_125 ?_
  refine cs_801 E hD hP hS (vi rfl) dX5_ask_128 (fun st10 H locs ex hP hS => ?_)
  replace hf := lt_at ex hf; clear ex
  exact c_vret hx hb hr hlocks hf hP hS dX5_ask_129
def fX6_lawInForce_b30 (fz : List FP) (w0 : Option Nat) (st : St) : Option (Option Nat × St) := some (w0, st)
def fX6_lawInForce (fz : List FP) (st : St) : Option (Option Nat × St) := bs (fX11_within (st.1 112) (0 : Int32) ((st.1 111) - (1 : Int32))) (fun r1 => if r1 = 0 then (fX6_lawInForce_b30 fz none st) else (gi (st.1 112) 6 (fX6_lawInForce_b30 fz (st.2.2.2.2 107 (st.1 112).toNatClampNeg) st)))
set_option maxHeartbeats 4000000 in
set_option maxRecDepth 100000 in
theorem tX6_lawInForce (l : Launch) (D : va_G) (cy : Nat → ClassId) (ad : Nat → Nat) (fz : List FP) (hJ : (cads ad fz).Nodup) (sz : Nat) (st : St) (rr : Option Nat) (st' : St) (hf : fX6_lawInForce fz st = some (rr, st')) : Met l yX6_lawInForce (Cond.code yX6_lawInForce cX6_lawInForce 1 (some (.object RX8)) :: TT) (rmD 1) (cPc D cy ad fz [.ref (ad 199)] st sz) (cQq D cy ad fz rr st' sz) 0 0 (cA ad fz sz) := by
  refine c_metq (by decide) hJ (Nat.le_of_ble_eq_true rfl) (fun p e s m args below meth c ls E hx hb hr hlocks hown hT hD hN hl hP hS => ?_)
  replace hl : lv_has ls 1 [(0, .ref (ad 199))] := hl
  unfold fX6_lawInForce at hf
  have B30 : ∀ (w0 : Option Nat) (st : St) (H : Heap) (locs : List Loc) (ls : Array Slot), fX6_lawInForce_b30 fz w0 st = some (rr, st') → lv_has ls 1 [] → va_P D classes (cx cy ad fz st) H → va_S (cA ad fz s.heap.size) s.heap H locs → cGq l 1 D cy ad fz rr st' p e s m args below meth c H locs (F0 m 30 ls [va_rf w0]) := by
    intro w0 st H locs ls hf hl hP hS
    unfold fX6_lawInForce_b30 at hf
    exact c_qret hx hb hr hlocks hf hP hS dX6_lawInForce_30
  refine lv_aload_n hx hb dX6_lawInForce_0 rfl (lv_at hl 0 rfl) ?_
  refine cg_6_55_1 E hP dX6_lawInForce_1 ?_
  refine lv_iconst (v := 0) hx hb dX6_lawInForce_4 (by decide) ?_
  refine lv_aload_n hx hb dX6_lawInForce_5 rfl (lv_at hl 0 rfl) ?_
  refine cg_6_92_1 E hP dX6_lawInForce_6 ?_
  refine lv_iconst (v := 1) hx hb dX6_lawInForce_9 (by decide) ?_
  refine lv_isub hx hb dX6_lawInForce_10 ?_
  obtain ⟨r1, hc, hf⟩ := bs_some hf
  refine s_calliN (n := 3) (rest := []) E.1 (tX11_within l _ (st.1 112) (0 : Int32) ((st.1 111) - (1 : Int32)) r1 hc) (hN.1 (Cond.methodLinkNest "OpenGates$Land" 95 ⟨"OpenGates", "within", "(III)Z"⟩ "OpenGates") (List.mem_of_getElem? (i := 6) rfl)) k_458 k_1 k_459 qX11_within.2 ⟨Nat.le_of_ble_eq_true rfl, Nat.le_of_ble_eq_true rfl⟩ ⟨Nat.le_refl _, Nat.le_refl _⟩ rfl hl.1 rfl (Nat.le_of_ble_eq_true rfl) dX6_lawInForce_11 ?_
  refine lv_if_eq (tgt := 29) hx hb dX6_lawInForce_14 (by decide) (fun hc => ?_) (fun hc => ?_)
  · replace hf := it_pos hc hf
    refine lv_null hx hb dX6_lawInForce_29 ?_
    exact B30 none st _ _ ls hf (lv_sub hl [] rfl) hP hS
  · replace hf := it_neg hc hf
    refine lv_aload_n hx hb dX6_lawInForce_17 rfl (lv_at hl 0 rfl) ?_
    refine cg_6_47_1 E hP dX6_lawInForce_18 ?_
    refine lv_aload_n hx hb dX6_lawInForce_21 rfl (lv_at hl 0 rfl) ?_
    refine cg_6_55_1 E hP dX6_lawInForce_22 ?_
    obtain ⟨hi, hf⟩ := gi_some hf
    refine cl_107 E hP hi dX6_lawInForce_25 ?_
    refine lv_goto (tgt := 30) hx hb dX6_lawInForce_26 (by decide) ?_
    exact B30 (st.2.2.2.2 107 (st.1 112).toNatClampNeg) st _ _ ls hf (lv_sub hl [] rfl) hP hS
def fX8_joined_b71 (w0 : Int64) : Option Int64 := some w0
def fX8_joined_b87 (w0 : Int64) : Option Int64 := some w0
def fX8_joined_b99 (w0 : Int64) : Option Int64 := some w0
def fX8_joined_b111 (w0 : Int64) : Option Int64 := some w0
def fX8_joined_b123 (w0 : Int64) : Option Int64 := some w0
def fX8_joined (a0 : Int32) (a1 : Int64) (a2 : Int64) : Option Int64 := if a0 = 2 then (some (a1 + a2)) else (if a0 = 3 then (some (a1 - a2)) else (if a0 = 4 then (some (a1 * a2)) else (if a0 = 5 then (if (lg_cmp a2 (0 : Int64)) = 0 then (fX8_joined_b71 (-2147483648 : Int64)) else (gzl a2 (fX8_joined_b71 (a1 / a2)))) else (if a0 = 6 then (if (lg_cmp a2 (0 : Int64)) = 0 then (fX8_joined_b87 (-2147483648 : Int64)) else (gzl a2 (fX8_joined_b87 (a1 - a1 / a2 * a2)))) else (if a0 = 7 then (if 0 ≤ (lg_cmp a1 a2) then (fX8_joined_b99 (0 : Int64)) else (fX8_joined_b99 (1 : Int64))) else (if a0 = 8 then (if (lg_cmp a1 a2) ≤ 0 then (fX8_joined_b111 (0 : Int64)) else (fX8_joined_b111 (1 : Int64))) else (if (lg_cmp a1 a2) = 0 then (fX8_joined_b123 (1 : Int64)) else (fX8_joined_b123 (0 : Int64)))))))))
set_option maxHeartbeats 4000000 in
set_option maxRecDepth 100000 in
theorem tX8_joined (l : Launch) (hh : Heap) (a0 : Int32) (a1 : Int64) (a2 : Int64) (rr : Int64) (hf : fX8_joined a0 a1 a2 = some rr) : Met l yX8_joined (Cond.code yX8_joined cX8_joined 5 (some .long) :: TT) (rmD 0) (sPc [.int a0, .long a1, .long a2] hh) (sQl rr hh) 0 0 (fun _ => False) := by
  refine s_metl (by decide) (Nat.le_of_ble_eq_true rfl) (fun p e s m args below meth c ls E hx hb hr hlocks hown hT hl => ?_)
  replace hl : lv_has ls 5 [(0, .int a0), (1, .long a1), (3, .long a2)] := hl
  unfold fX8_joined at hf
  have B71 : ∀ (w0 : Int64) (ls : Array Slot), fX8_joined_b71 w0 = some rr → lv_has ls 5 [] → sGl l 0 rr p e s m args below meth c (F0 m 71 ls [.long w0]) := by
    intro w0 ls hf hl
    unfold fX8_joined_b71 at hf
    exact s_lret hx hb hr hlocks hf dX8_joined_71
  have B87 : ∀ (w0 : Int64) (ls : Array Slot), fX8_joined_b87 w0 = some rr → lv_has ls 5 [] → sGl l 0 rr p e s m args below meth c (F0 m 87 ls [.long w0]) := by
    intro w0 ls hf hl
    unfold fX8_joined_b87 at hf
    exact s_lret hx hb hr hlocks hf dX8_joined_87
  have B99 : ∀ (w0 : Int64) (ls : Array Slot), fX8_joined_b99 w0 = some rr → lv_has ls 5 [] → sGl l 0 rr p e s m args below meth c (F0 m 99 ls [.long w0]) := by
    intro w0 ls hf hl
    unfold fX8_joined_b99 at hf
    exact s_lret hx hb hr hlocks hf dX8_joined_99
  have B111 : ∀ (w0 : Int64) (ls : Array Slot), fX8_joined_b111 w0 = some rr → lv_has ls 5 [] → sGl l 0 rr p e s m args below meth c (F0 m 111 ls [.long w0]) := by
    intro w0 ls hf hl
    unfold fX8_joined_b111 at hf
    exact s_lret hx hb hr hlocks hf dX8_joined_111
  have B123 : ∀ (w0 : Int64) (ls : Array Slot), fX8_joined_b123 w0 = some rr → lv_has ls 5 [] → sGl l 0 rr p e s m args below meth c (F0 m 123 ls [.long w0]) := by
    intro w0 ls hf hl
    unfold fX8_joined_b123 at hf
    exact s_lret hx hb hr hlocks hf dX8_joined_123
  refine lv_iload_n hx hb dX8_joined_0 rfl (lv_at hl 0 rfl) ?_
  by_cases hq2 : a0 = 2
  · replace hf := it_pos hq2 hf
    rw [hq2]; refine lv_tableIn (tgt := 44) hx hb dX8_joined_1 (by decide) (by decide) rfl (by decide) ?_
    refine lv_lload_n hx hb dX8_joined_44 rfl (lv_at hl 1 rfl) ?_
    refine lv_lload_n hx hb dX8_joined_45 rfl (lv_at hl 2 rfl) ?_
    refine lv_ladd hx hb dX8_joined_46 ?_
    exact s_lret hx hb hr hlocks hf dX8_joined_47
  replace hf := it_neg hq2 hf
  by_cases hq3 : a0 = 3
  · replace hf := it_pos hq3 hf
    rw [hq3]; refine lv_tableIn (tgt := 48) hx hb dX8_joined_1 (by decide) (by decide) rfl (by decide) ?_
    refine lv_lload_n hx hb dX8_joined_48 rfl (lv_at hl 1 rfl) ?_
    refine lv_lload_n hx hb dX8_joined_49 rfl (lv_at hl 2 rfl) ?_
    refine lv_lsub hx hb dX8_joined_50 ?_
    exact s_lret hx hb hr hlocks hf dX8_joined_51
  replace hf := it_neg hq3 hf
  by_cases hq4 : a0 = 4
  · replace hf := it_pos hq4 hf
    rw [hq4]; refine lv_tableIn (tgt := 52) hx hb dX8_joined_1 (by decide) (by decide) rfl (by decide) ?_
    refine lv_lload_n hx hb dX8_joined_52 rfl (lv_at hl 1 rfl) ?_
    refine lv_lload_n hx hb dX8_joined_53 rfl (lv_at hl 2 rfl) ?_
    refine lv_lmul hx hb dX8_joined_54 ?_
    exact s_lret hx hb hr hlocks hf dX8_joined_55
  replace hf := it_neg hq4 hf
  by_cases hq5 : a0 = 5
  · replace hf := it_pos hq5 hf
    rw [hq5]; refine lv_tableIn (tgt := 56) hx hb dX8_joined_1 (by decide) (by decide) rfl (by decide) ?_
    refine lv_lload_n hx hb dX8_joined_56 rfl (lv_at hl 2 rfl) ?_
    refine lv_lconst (v := 0) hx hb dX8_joined_57 (by decide) ?_
    refine W.lcmp hx hb dX8_joined_58 ?_
    refine lv_if_ne (tgt := 68) hx hb dX8_joined_59 (by decide) (fun hc => ?_) (fun hc => ?_)
    · replace hf := it_neg hc hf
      refine lv_lload_n hx hb dX8_joined_68 rfl (lv_at hl 1 rfl) ?_
      refine lv_lload_n hx hb dX8_joined_69 rfl (lv_at hl 2 rfl) ?_
      obtain ⟨hz, hf⟩ := gzl_some hf
      refine lv_ldiv hx hb dX8_joined_70 hz ?_
      exact B71 (a1 / a2) ls hf (lv_sub hl [] rfl)
    · replace hf := it_pos hc hf
      refine lv_ldc2 (v := -2147483648) hx hb hown (hT _ k_531) dX8_joined_62 ?_
      refine lv_goto (tgt := 71) hx hb dX8_joined_65 (by decide) ?_
      exact B71 (-2147483648 : Int64) ls hf (lv_sub hl [] rfl)
  replace hf := it_neg hq5 hf
  by_cases hq6 : a0 = 6
  · replace hf := it_pos hq6 hf
    rw [hq6]; refine lv_tableIn (tgt := 72) hx hb dX8_joined_1 (by decide) (by decide) rfl (by decide) ?_
    refine lv_lload_n hx hb dX8_joined_72 rfl (lv_at hl 2 rfl) ?_
    refine lv_lconst (v := 0) hx hb dX8_joined_73 (by decide) ?_
    refine W.lcmp hx hb dX8_joined_74 ?_
    refine lv_if_ne (tgt := 84) hx hb dX8_joined_75 (by decide) (fun hc => ?_) (fun hc => ?_)
    · replace hf := it_neg hc hf
      refine lv_lload_n hx hb dX8_joined_84 rfl (lv_at hl 1 rfl) ?_
      refine lv_lload_n hx hb dX8_joined_85 rfl (lv_at hl 2 rfl) ?_
      obtain ⟨hz, hf⟩ := gzl_some hf
      refine lv_lrem hx hb dX8_joined_86 hz ?_
      exact B87 (a1 - a1 / a2 * a2) ls hf (lv_sub hl [] rfl)
    · replace hf := it_pos hc hf
      refine lv_ldc2 (v := -2147483648) hx hb hown (hT _ k_531) dX8_joined_78 ?_
      refine lv_goto (tgt := 87) hx hb dX8_joined_81 (by decide) ?_
      exact B87 (-2147483648 : Int64) ls hf (lv_sub hl [] rfl)
  replace hf := it_neg hq6 hf
  by_cases hq7 : a0 = 7
  · replace hf := it_pos hq7 hf
    rw [hq7]; refine lv_tableIn (tgt := 88) hx hb dX8_joined_1 (by decide) (by decide) rfl (by decide) ?_
    refine lv_lload_n hx hb dX8_joined_88 rfl (lv_at hl 1 rfl) ?_
    refine lv_lload_n hx hb dX8_joined_89 rfl (lv_at hl 2 rfl) ?_
    refine W.lcmp hx hb dX8_joined_90 ?_
    refine lv_if_ge (tgt := 98) hx hb dX8_joined_91 (by decide) (fun hc => ?_) (fun hc => ?_)
    · replace hf := it_pos hc hf
      refine lv_lconst (v := 0) hx hb dX8_joined_98 (by decide) ?_
      exact B99 (0 : Int64) ls hf (lv_sub hl [] rfl)
    · replace hf := it_neg hc hf
      refine lv_lconst (v := 1) hx hb dX8_joined_94 (by decide) ?_
      refine lv_goto (tgt := 99) hx hb dX8_joined_95 (by decide) ?_
      exact B99 (1 : Int64) ls hf (lv_sub hl [] rfl)
  replace hf := it_neg hq7 hf
  by_cases hq8 : a0 = 8
  · replace hf := it_pos hq8 hf
    rw [hq8]; refine lv_tableIn (tgt := 100) hx hb dX8_joined_1 (by decide) (by decide) rfl (by decide) ?_
    refine lv_lload_n hx hb dX8_joined_100 rfl (lv_at hl 1 rfl) ?_
    refine lv_lload_n hx hb dX8_joined_101 rfl (lv_at hl 2 rfl) ?_
    refine W.lcmp hx hb dX8_joined_102 ?_
    refine lv_if_le (tgt := 110) hx hb dX8_joined_103 (by decide) (fun hc => ?_) (fun hc => ?_)
    · replace hf := it_pos hc hf
      refine lv_lconst (v := 0) hx hb dX8_joined_110 (by decide) ?_
      exact B111 (0 : Int64) ls hf (lv_sub hl [] rfl)
    · replace hf := it_neg hc hf
      refine lv_lconst (v := 1) hx hb dX8_joined_106 (by decide) ?_
      refine lv_goto (tgt := 111) hx hb dX8_joined_107 (by decide) ?_
      exact B111 (1 : Int64) ls hf (lv_sub hl [] rfl)
  replace hf := it_neg hq8 hf
  refine lv_tableOut (tgt := 112) hx hb dX8_joined_1 (tb_out (lo := 2) (hi := 8) (fun k h1 h2 he => ?_)) (by decide) ?_
  · have h3 : k = 2 ∨ k = 3 ∨ k = 4 ∨ k = 5 ∨ k = 6 ∨ k = 7 ∨ k = 8 := by omega
    rcases h3 with rfl | rfl | rfl | rfl | rfl | rfl | rfl
    · exact hq2 he
    · exact hq3 he
    · exact hq4 he
    · exact hq5 he
    · exact hq6 he
    · exact hq7 he
    · exact hq8 he
  · refine lv_lload_n hx hb dX8_joined_112 rfl (lv_at hl 1 rfl) ?_
    refine lv_lload_n hx hb dX8_joined_113 rfl (lv_at hl 2 rfl) ?_
    refine W.lcmp hx hb dX8_joined_114 ?_
    refine lv_if_ne (tgt := 122) hx hb dX8_joined_115 (by decide) (fun hc => ?_) (fun hc => ?_)
    · replace hf := it_neg hc hf
      refine lv_lconst (v := 0) hx hb dX8_joined_122 (by decide) ?_
      exact B123 (0 : Int64) ls hf (lv_sub hl [] rfl)
    · replace hf := it_pos hc hf
      refine lv_lconst (v := 1) hx hb dX8_joined_118 (by decide) ?_
      refine lv_goto (tgt := 123) hx hb dX8_joined_119 (by decide) ?_
      exact B123 (1 : Int64) ls hf (lv_sub hl [] rfl)
def fX8_worth__law_801_803_b38 (P : FP) (fz : List FP) (st : St) : Option (Int32 × St) := some ((-2147483648 : Int32), st)
def fX8_worth__law_801_803_b353 (P : FP) (fz : List FP) (w0 : Int32) (st : St) : Option (Int32 × St) := some (w0, st)
def fX8_worth__law_801_803_b259 (P : FP) (fz : List FP) (st : St) : Option (Int32 × St) := some ((-2147483648 : Int32), st)
def fX8_worth__law_801_803_b146 (P : FP) (fz : List FP) (st : St) : Option (Int32 × St) := some ((-2147483648 : Int32), st)
def fX8_worth__law_801_803_b330 (P : FP) (fz : List FP) (k74 : Int32 → Int32 → Int32 → Int32 → St → Option (Int32 × St)) (v6 : Int32) (v7 : Int32) (v8 : Int32) (v9 : Int32) (st : St) : Option (Int32 × St) := lt (v9 + (1 : Int32)) (fun x1 => k74 v6 v7 v8 x1 st)
def fX8_worth__law_801_803_b317 (P : FP) (fz : List FP) (k74 : Int32 → Int32 → Int32 → Int32 → St → Option (Int32 × St)) (v6 : Int32) (v7 : Int32) (v8 : Int32) (v9 : Int32) (v11 : Int32) (w0 : Int32) (w1 : Int32) (st : St) : Option (Int32 × St) := if w1 = w0 then (fX8_worth__law_801_803_b330 P fz k74 v6 v7 v11 v9 st) else (lt (v7 + (-1 : Int32)) (fun x2 => fX8_worth__law_801_803_b330 P fz k74 v6 x2 v8 v9 st))
def fX8_worth__law_801_803_b305 (P : FP) (fz : List FP) (k74 : Int32 → Int32 → Int32 → Int32 → St → Option (Int32 × St)) (v6 : Int32) (v7 : Int32) (v8 : Int32) (v9 : Int32) (v10 : Int32) (v11 : Int32) (w0 : Int32) (st : St) : Option (Int32 × St) := if v10 = (11 : Int32) then (fX8_worth__law_801_803_b317 P fz k74 v6 v7 v8 v9 v11 (1 : Int32) w0 st) else (fX8_worth__law_801_803_b317 P fz k74 v6 v7 v8 v9 v11 (0 : Int32) w0 st)
def fX8_worth__law_801_803_b191 (P : FP) (fz : List FP) (k74 : Int32 → Int32 → Int32 → Int32 → St → Option (Int32 × St)) (v6 : Int32) (v7 : Int32) (v8 : Int32) (v9 : Int32) (v10 : Int32) (v11 : Int32) (w0 : Int32) (w1 : Int32) (st : St) : Option (Int32 × St) := if w0 ≤ w1 then (if (10 : Int32) ≤ v10 then (if v10 = (10 : Int32) then (gi (v7 - (1 : Int32)) 64 (gi (v7 - (1 : Int32)) 64 (lt (sB st 803 (vp_updL (st.2.2.2.1 803) (v7 - (1 : Int32)).toNatClampNeg ((1 : Int64) - (st.2.2.2.1 803 (v7 - (1 : Int32)).toNatClampNeg)))) (fun st3 => fX8_worth__law_801_803_b330 P fz k74 v6 v7 v8 v9 st3)))) else (gi (v7 - (1 : Int32)) 64 (if (lg_cmp (st.2.2.2.1 803 (v7 - (1 : Int32)).toNatClampNeg) (0 : Int64)) = 0 then (fX8_worth__law_801_803_b305 P fz k74 v6 v7 v8 v9 v10 v11 (0 : Int32) st) else (fX8_worth__law_801_803_b305 P fz k74 v6 v7 v8 v9 v10 v11 (1 : Int32) st)))) else (lt (v7 + (-1 : Int32)) (fun x4 => gi (x4 - (1 : Int32)) 64 (gi x4 64 (bs (fX8_joined v10 (st.2.2.2.1 803 (x4 - (1 : Int32)).toNatClampNeg) (st.2.2.2.1 803 x4.toNatClampNeg)) (fun r5 => gi (x4 - (1 : Int32)) 64 (lt (sB st 803 (vp_updL (st.2.2.2.1 803) (x4 - (1 : Int32)).toNatClampNeg r5)) (fun st6 => gi (x4 - (1 : Int32)) 64 (if 0 < (lg_cmp (st6.2.2.2.1 803 (x4 - (1 : Int32)).toNatClampNeg) (1000000000 : Int64)) then (fX8_worth__law_801_803_b259 P fz st6) else (gi (x4 - (1 : Int32)) 64 (if 0 ≤ (lg_cmp (st6.2.2.2.1 803 (x4 - (1 : Int32)).toNatClampNeg) (-1000000000 : Int64)) then (fX8_worth__law_801_803_b330 P fz k74 v6 x4 v8 v9 st6) else (fX8_worth__law_801_803_b259 P fz st6)))))))))))) else (some ((-2147483648 : Int32), st))
def fX8_worth__law_801_803_b170 (P : FP) (fz : List FP) (k74 : Int32 → Int32 → Int32 → Int32 → St → Option (Int32 × St)) (v6 : Int32) (v7 : Int32) (v8 : Int32) (v9 : Int32) (w0 : Int64) (w1 : Int32) (st : St) : Option (Int32 × St) := gi w1 64 (lt (sB st 803 (vp_updL (st.2.2.2.1 803) w1.toNatClampNeg w0)) (fun st7 => lt (v7 + (1 : Int32)) (fun x8 => fX8_worth__law_801_803_b330 P fz k74 v6 x8 v8 v9 st7)))
def fX8_worth__law_801_803_b149 (P : FP) (fz : List FP) (k74 : Int32 → Int32 → Int32 → Int32 → St → Option (Int32 × St)) (v6 : Int32) (v7 : Int32) (v8 : Int32) (v9 : Int32) (v10 : Int32) (v11 : Int32) (st : St) : Option (Int32 × St) := if v10 = (1 : Int32) then (gi v11 10 (fX8_worth__law_801_803_b170 P fz k74 v6 v7 v8 v9 ((st.2.2.1 801 v11.toNatClampNeg).toInt64) v7 st)) else (fX8_worth__law_801_803_b170 P fz k74 v6 v7 v8 v9 (v11.toInt64) v7 st)
def fX8_worth__law_801_803_b74 (P : FP) (fz : List FP) (k74 : Int32 → Int32 → Int32 → Int32 → St → Option (Int32 × St)) (v6 : Int32) (v7 : Int32) (v8 : Int32) (v9 : Int32) (st : St) : Option (Int32 × St) := if v6 ≤ v9 then (if v7 = 0 then (fX8_worth__law_801_803_b353 P fz (1 : Int32) st) else (gi (v7 - (1 : Int32)) 64 (fX8_worth__law_801_803_b353 P fz ((st.2.2.2.1 803 (v7 - (1 : Int32)).toNatClampNeg).toInt32) st))) else (gi v9 (P.2.1 3) (lt ((P.2.2.2.2.1 3 v9.toNatClampNeg) &&& (15 : Int32)) (fun x9 => gi v9 (P.2.1 3) (lt ((P.2.2.2.2.1 3 v9.toNatClampNeg) >>> ((4 : Int32) &&& 31)) (fun x10 => if v8 ≤ v9 then (if (1 : Int32) < x9 then (if (10 : Int32) ≤ x9 then (fX8_worth__law_801_803_b191 P fz k74 v6 v7 v8 v9 x9 x10 (1 : Int32) v7 st) else (fX8_worth__law_801_803_b191 P fz k74 v6 v7 v8 v9 x9 x10 (2 : Int32) v7 st)) else (if (64 : Int32) ≤ v7 then (fX8_worth__law_801_803_b146 P fz st) else (if x10 < 0 then (fX8_worth__law_801_803_b146 P fz st) else (if x9 = (1 : Int32) then (if x10 < (10 : Int32) then (fX8_worth__law_801_803_b149 P fz k74 v6 v7 v8 v9 x9 x10 st) else (fX8_worth__law_801_803_b146 P fz st)) else (fX8_worth__law_801_803_b149 P fz k74 v6 v7 v8 v9 x9 x10 st))))) else (fX8_worth__law_801_803_b330 P fz k74 v6 v7 v8 v9 st))))))
def fX8_worth__law_801_803 (P : FP) (a0 : Int32) (a1 : Int32) (fz : List FP) (st : St) : Option (Int32 × St) := lt ((a0 * (4 : Int32)) + a1) (fun x11 => if a0 < 0 then (fX8_worth__law_801_803_b38 P fz st) else (if (P.2.2.1 5) ≤ a0 then (fX8_worth__law_801_803_b38 P fz st) else (if a1 < 0 then (fX8_worth__law_801_803_b38 P fz st) else (if (2 : Int32) < a1 then (fX8_worth__law_801_803_b38 P fz st) else (gi x11 (P.2.1 2) (if 0 ≤ (P.2.2.2.2.1 2 x11.toNatClampNeg) then (gi (x11 + (1 : Int32)) (P.2.1 2) (lt (if (P.2.2.1 4) < (P.2.2.2.2.1 2 (x11 + (1 : Int32)).toNatClampNeg) then (P.2.2.1 4) else (P.2.2.2.2.1 2 (x11 + (1 : Int32)).toNatClampNeg)) (fun x12 => gi x11 (P.2.1 2) (lt (P.2.2.2.2.1 2 x11.toNatClampNeg) (fun x13 => lp (fun _ _ _ _ _ => none) (fX8_worth__law_801_803_b74 P fz) 6000 x12 (0 : Int32) (0 : Int32) x13 st))))) else (fX8_worth__law_801_803_b38 P fz st)))))))
set_option maxHeartbeats 4000000 in
set_option maxRecDepth 100000 in
theorem tX8_worth__law_801_803 (l : Launch) (D : va_G) (cy : Nat → ClassId) (ad : Nat → Nat) (fz : List FP) (hJ : (cads ad fz).Nodup) (sz : Nat) (P : FP) (hPm : P ∈ fz) (a0 : Int32) (a1 : Int32) (st : St) (rr : Int32) (st' : St) (hf : fX8_worth__law_801_803 P a0 a1 fz st = some (rr, st')) : Met l yX8_worth (Cond.code yX8_worth cX8_worth 12 (some .int) :: TT) (rmD 1) (cPc D cy ad fz [.ref (P.1 99), .int a0, .int a1, .ref (ad 801), .ref (ad 803)] st sz) (cQi D cy ad fz rr st' sz) 0 0 (cA ad fz sz) := by
  refine c_meti (by decide) hJ (Nat.le_of_ble_eq_true rfl) (fun p e s m args below meth c ls E hx hb hr hlocks hown hT hD hN hl hP hS => ?_)
  replace hl : lv_has ls 12 [(0, .ref (P.1 99)), (1, .int a0), (2, .int a1), (3, .ref (ad 801)), (4, .ref (ad 803))] := hl
  unfold fX8_worth__law_801_803 at hf
  have B38 : ∀ (st : St) (H : Heap) (locs : List Loc) (ls : Array Slot), fX8_worth__law_801_803_b38 P fz st = some (rr, st') → lv_has ls 12 [] → va_P D classes (cx cy ad fz st) H → va_S (cA ad fz s.heap.size) s.heap H locs → cGi l 1 D cy ad fz rr st' p e s m args below meth c H locs (F0 m 38 ls []) := by
    intro st H locs ls hf hl hP hS
    unfold fX8_worth__law_801_803_b38 at hf
    refine lv_ldc (v := -2147483648) hx hb hown (hT _ k_524) dX8_worth_38 ?_
    exact c_iret hx hb hr hlocks hf hP hS dX8_worth_40
  have B353 : ∀ (w0 : Int32) (st : St) (H : Heap) (locs : List Loc) (ls : Array Slot), fX8_worth__law_801_803_b353 P fz w0 st = some (rr, st') → lv_has ls 12 [] → va_P D classes (cx cy ad fz st) H → va_S (cA ad fz s.heap.size) s.heap H locs → cGi l 1 D cy ad fz rr st' p e s m args below meth c H locs (F0 m 353 ls [.int w0]) := by
    intro w0 st H locs ls hf hl hP hS
    unfold fX8_worth__law_801_803_b353 at hf
    exact c_iret hx hb hr hlocks hf hP hS dX8_worth_353
  have B259 : ∀ (st : St) (H : Heap) (locs : List Loc) (ls : Array Slot), fX8_worth__law_801_803_b259 P fz st = some (rr, st') → lv_has ls 12 [] → va_P D classes (cx cy ad fz st) H → va_S (cA ad fz s.heap.size) s.heap H locs → cGi l 1 D cy ad fz rr st' p e s m args below meth c H locs (F0 m 259 ls []) := by
    intro st H locs ls hf hl hP hS
    unfold fX8_worth__law_801_803_b259 at hf
    refine lv_ldc (v := -2147483648) hx hb hown (hT _ k_524) dX8_worth_259 ?_
    exact c_iret hx hb hr hlocks hf hP hS dX8_worth_261
  have B146 : ∀ (st : St) (H : Heap) (locs : List Loc) (ls : Array Slot), fX8_worth__law_801_803_b146 P fz st = some (rr, st') → lv_has ls 12 [] → va_P D classes (cx cy ad fz st) H → va_S (cA ad fz s.heap.size) s.heap H locs → cGi l 1 D cy ad fz rr st' p e s m args below meth c H locs (F0 m 146 ls []) := by
    intro st H locs ls hf hl hP hS
    unfold fX8_worth__law_801_803_b146 at hf
    refine lv_ldc (v := -2147483648) hx hb hown (hT _ k_524) dX8_worth_146 ?_
    exact c_iret hx hb hr hlocks hf hP hS dX8_worth_148
  have L74 : ∀ (n : Nat) (v6 : Int32) (v7 : Int32) (v8 : Int32) (v9 : Int32) (st : St) (H : Heap) (locs : List Loc) (ls : Array Slot), lp (fun _ _ _ _ _ => none) (fX8_worth__law_801_803_b74 P fz) n v6 v7 v8 v9 st = some (rr, st') → lv_has ls 12 [(0, .ref (P.1 99)), (3, .ref (ad 801)), (4, .ref (ad 803)), (6, .int v6), (7, .int v7), (8, .int v8), (9, .int v9)] → va_P D classes (cx cy ad fz st) H → va_S (cA ad fz s.heap.size) s.heap H locs → cGi l 1 D cy ad fz rr st' p e s m args below meth c H locs (F0 m 74 ls []) := by
    intro n
    induction n with
    | zero => intro v6 v7 v8 v9 st H locs ls hf; exact absurd hf (fun h => by cases h)
    | succ n K74 =>
      intro v6 v7 v8 v9 st H locs ls hf hl hP hS
      replace hf : fX8_worth__law_801_803_b74 P fz (lp (fun _ _ _ _ _ => none) (fX8_worth__law_801_803_b74 P fz) n) v6 v7 v8 v9 st = some (rr, st') := hf
      generalize lp (fun _ _ _ _ _ => none) (fX8_worth__law_801_803_b74 P fz) n = k74 at hf K74
      have B330 : ∀ (v6 : Int32) (v7 : Int32) (v8 : Int32) (v9 : Int32) (st : St) (H : Heap) (locs : List Loc) (ls : Array Slot), fX8_worth__law_801_803_b330 P fz k74 v6 v7 v8 v9 st = some (rr, st') → lv_has ls 12 [(0, .ref (P.1 99)), (3, .ref (ad 801)), (4, .ref (ad 803)), (6, .int v6), (7, .int v7), (8, .int v8), (9, .int v9)] → va_P D classes (cx cy ad fz st) H → va_S (cA ad fz s.heap.size) s.heap H locs → cGi l 1 D cy ad fz rr st' p e s m args below meth c H locs (F0 m 330 ls []) := by
        intro v6 v7 v8 v9 st H locs ls hf hl hP hS
        unfold fX8_worth__law_801_803_b330 at hf
        obtain ⟨x1, ex⟩ : ∃ y : Int32, y = v9 + (1 : Int32) := ⟨_, rfl⟩
        replace hf := lt_at ex hf
        refine lv_iinc (v := x1) (lv' := [(9, .int x1), (0, .ref (P.1 99)), (3, .ref (ad 801)), (4, .ref (ad 803)), (6, .int v6), (7, .int v7), (8, .int v8)]) hx hb dX8_worth_330 hl (k := 6) rfl (by rw [ex]; rfl) (by decide) rfl (fun ls hl => ?_)
        clear ex
        refine lv_goto (tgt := 74) hx hb dX8_worth_333 (by decide) ?_
        exact K74 v6 v7 v8 x1 st _ _ ls hf (lv_sub hl [1, 2, 3, 4, 5, 6, 0] rfl) hP hS
      have B317 : ∀ (v6 : Int32) (v7 : Int32) (v8 : Int32) (v9 : Int32) (v11 : Int32) (w0 : Int32) (w1 : Int32) (st : St) (H : Heap) (locs : List Loc) (ls : Array Slot), fX8_worth__law_801_803_b317 P fz k74 v6 v7 v8 v9 v11 w0 w1 st = some (rr, st') → lv_has ls 12 [(0, .ref (P.1 99)), (3, .ref (ad 801)), (4, .ref (ad 803)), (6, .int v6), (7, .int v7), (8, .int v8), (9, .int v9), (11, .int v11)] → va_P D classes (cx cy ad fz st) H → va_S (cA ad fz s.heap.size) s.heap H locs → cGi l 1 D cy ad fz rr st' p e s m args below meth c H locs (F0 m 317 ls [.int w0, .int w1]) := by
        intro v6 v7 v8 v9 v11 w0 w1 st H locs ls hf hl hP hS
        unfold fX8_worth__law_801_803_b317 at hf
        refine lv_icmp_ne (tgt := 327) hx hb dX8_worth_317 (by decide) (fun hc => ?_) (fun hc => ?_)
        · replace hf := it_neg hc hf
          obtain ⟨x2, ex⟩ : ∃ y : Int32, y = v7 + (-1 : Int32) := ⟨_, rfl⟩
          replace hf := lt_at ex hf
          refine lv_iinc (v := x2) (lv' := [(7, .int x2), (0, .ref (P.1 99)), (3, .ref (ad 801)), (4, .ref (ad 803)), (6, .int v6), (8, .int v8), (9, .int v9), (11, .int v11)]) hx hb dX8_worth_327 hl (k := 4) rfl (by rw [ex]; rfl) (by decide) rfl (fun ls hl => ?_)
          clear ex
          exact B330 v6 x2 v8 v9 st _ _ ls hf (lv_sub hl [1, 2, 3, 4, 0, 5, 6] rfl) hP hS
        · replace hf := it_pos hc hf
          refine lv_iload hx hb dX8_worth_320 (lv_at hl 7 rfl) ?_
          refine lv_istore (lv' := [(8, .int v11), (0, .ref (P.1 99)), (3, .ref (ad 801)), (4, .ref (ad 803)), (6, .int v6), (7, .int v7), (9, .int v9), (11, .int v11)]) hx hb dX8_worth_322 hl (by decide) rfl (fun ls hl => ?_)
          refine lv_goto (tgt := 330) hx hb dX8_worth_324 (by decide) ?_
          exact B330 v6 v7 v11 v9 st _ _ ls hf (lv_sub hl [1, 2, 3, 4, 5, 0, 6] rfl) hP hS
      have B305 : ∀ (v6 : Int32) (v7 : Int32) (v8 : Int32) (v9 : Int32) (v10 : Int32) (v11 : Int32) (w0 : Int32) (st : St) (H : Heap) (locs : List Loc) (ls : Array Slot), fX8_worth__law_801_803_b305 P fz k74 v6 v7 v8 v9 v10 v11 w0 st = some (rr, st') → lv_has ls 12 [(0, .ref (P.1 99)), (3, .ref (ad 801)), (4, .ref (ad 803)), (6, .int v6), (7, .int v7), (8, .int v8), (9, .int v9), (10, .int v10), (11, .int v11)] → va_P D classes (cx cy ad fz st) H → va_S (cA ad fz s.heap.size) s.heap H locs → cGi l 1 D cy ad fz rr st' p e s m args below meth c H locs (F0 m 305 ls [.int w0]) := by
        intro v6 v7 v8 v9 v10 v11 w0 st H locs ls hf hl hP hS
        unfold fX8_worth__law_801_803_b305 at hf
        refine lv_iload hx hb dX8_worth_305 (lv_at hl 7 rfl) ?_
        refine lv_bipush (v := 11) hx hb dX8_worth_307 (by decide) ?_
        refine lv_icmp_ne (tgt := 316) hx hb dX8_worth_309 (by decide) (fun hc => ?_) (fun hc => ?_)
        · replace hf := it_neg hc hf
          refine lv_iconst (v := 0) hx hb dX8_worth_316 (by decide) ?_
          exact B317 v6 v7 v8 v9 v11 (0 : Int32) w0 st _ _ ls hf (lv_sub hl [0, 1, 2, 3, 4, 5, 6, 8] rfl) hP hS
        · replace hf := it_pos hc hf
          refine lv_iconst (v := 1) hx hb dX8_worth_312 (by decide) ?_
          refine lv_goto (tgt := 317) hx hb dX8_worth_313 (by decide) ?_
          exact B317 v6 v7 v8 v9 v11 (1 : Int32) w0 st _ _ ls hf (lv_sub hl [0, 1, 2, 3, 4, 5, 6, 8] rfl) hP hS
      have B191 : ∀ (v6 : Int32) (v7 : Int32) (v8 : Int32) (v9 : Int32) (v10 : Int32) (v11 : Int32) (w0 : Int32) (w1 : Int32) (st : St) (H : Heap) (locs : List Loc) (ls : Array Slot), fX8_worth__law_801_803_b191 P fz k74 v6 v7 v8 v9 v10 v11 w0 w1 st = some (rr, st') → lv_has ls 12 [(0, .ref (P.1 99)), (3, .ref (ad 801)), (4, .ref (ad 803)), (6, .int v6), (7, .int v7), (8, .int v8), (9, .int v9), (10, .int v10), (11, .int v11)] → va_P D classes (cx cy ad fz st) H → va_S (cA ad fz s.heap.size) s.heap H locs → cGi l 1 D cy ad fz rr st' p e s m args below meth c H locs (F0 m 191 ls [.int w0, .int w1]) := by
        intro v6 v7 v8 v9 v10 v11 w0 w1 st H locs ls hf hl hP hS
        unfold fX8_worth__law_801_803_b191 at hf
        refine lv_icmp_ge (tgt := 197) hx hb dX8_worth_191 (by decide) (fun hc => ?_) (fun hc => ?_)
        · replace hf := it_pos hc hf
          refine lv_iload hx hb dX8_worth_197 (lv_at hl 7 rfl) ?_
          refine lv_bipush (v := 10) hx hb dX8_worth_199 (by decide) ?_
          refine lv_icmp_ge (tgt := 262) hx hb dX8_worth_201 (by decide) (fun hc => ?_) (fun hc => ?_)
          · replace hf := it_pos hc hf
            refine lv_iload hx hb dX8_worth_262 (lv_at hl 7 rfl) ?_
            refine lv_bipush (v := 10) hx hb dX8_worth_264 (by decide) ?_
            refine lv_icmp_ne (tgt := 288) hx hb dX8_worth_266 (by decide) (fun hc => ?_) (fun hc => ?_)
            · replace hf := it_neg hc hf
              refine lv_aload hx hb dX8_worth_288 (lv_at hl 2 rfl) ?_
              refine lv_iload hx hb dX8_worth_290 (lv_at hl 4 rfl) ?_
              refine lv_iconst (v := 1) hx hb dX8_worth_292 (by decide) ?_
              refine lv_isub hx hb dX8_worth_293 ?_
              obtain ⟨hi, hf⟩ := gi_some hf
              refine cl_803 E hP hi dX8_worth_294 ?_
              refine lv_lconst (v := 0) hx hb dX8_worth_295 (by decide) ?_
              refine W.lcmp hx hb dX8_worth_296 ?_
              refine lv_if_eq (tgt := 304) hx hb dX8_worth_297 (by decide) (fun hc => ?_) (fun hc => ?_)
              · replace hf := it_pos hc hf
                refine lv_iconst (v := 0) hx hb dX8_worth_304 (by decide) ?_
                exact B305 v6 v7 v8 v9 v10 v11 (0 : Int32) st _ _ ls hf hl hP hS
              · replace hf := it_neg hc hf
                refine lv_iconst (v := 1) hx hb dX8_worth_300 (by decide) ?_
                refine lv_goto (tgt := 305) hx hb dX8_worth_301 (by decide) ?_
                exact B305 v6 v7 v8 v9 v10 v11 (1 : Int32) st _ _ ls hf hl hP hS
            · replace hf := it_pos hc hf
              refine lv_aload hx hb dX8_worth_269 (lv_at hl 2 rfl) ?_
              refine lv_iload hx hb dX8_worth_271 (lv_at hl 4 rfl) ?_
              refine lv_iconst (v := 1) hx hb dX8_worth_273 (by decide) ?_
              refine lv_isub hx hb dX8_worth_274 ?_
              refine lv_lconst (v := 1) hx hb dX8_worth_275 (by decide) ?_
              refine lv_aload hx hb dX8_worth_276 (lv_at hl 2 rfl) ?_
              refine lv_iload hx hb dX8_worth_278 (lv_at hl 4 rfl) ?_
              refine lv_iconst (v := 1) hx hb dX8_worth_280 (by decide) ?_
              refine lv_isub hx hb dX8_worth_281 ?_
              obtain ⟨hi, hf⟩ := gi_some hf
              refine cl_803 E hP hi dX8_worth_282 ?_
              refine lv_lsub hx hb dX8_worth_283 ?_
              obtain ⟨hi, hf⟩ := gi_some hf
              refine cs_803 E hD hP hS hi dX8_worth_284 (fun st3 H locs ex hP hS => ?_)
              replace hf := lt_at ex hf; clear ex
              refine lv_goto (tgt := 330) hx hb dX8_worth_285 (by decide) ?_
              exact B330 v6 v7 v8 v9 st3 _ _ ls hf (lv_sub hl [0, 1, 2, 3, 4, 5, 6] rfl) hP hS
          · replace hf := it_neg hc hf
            obtain ⟨x4, ex⟩ : ∃ y : Int32, y = v7 + (-1 : Int32) := ⟨_, rfl⟩
            replace hf := lt_at ex hf
            refine lv_iinc (v := x4) (lv' := [(7, .int x4), (0, .ref (P.1 99)), (3, .ref (ad 801)), (4, .ref (ad 803)), (6, .int v6), (8, .int v8), (9, .int v9), (10, .int v10), (11, .int v11)]) hx hb dX8_worth_204 hl (k := 4) rfl (by rw [ex]; rfl) (by decide) rfl (fun ls hl => ?_)
            clear ex
            refine lv_aload hx hb dX8_worth_207 (lv_at hl 3 rfl) ?_
            refine lv_iload hx hb dX8_worth_209 (lv_at hl 0 rfl) ?_
            refine lv_iconst (v := 1) hx hb dX8_worth_211 (by decide) ?_
            refine lv_isub hx hb dX8_worth_212 ?_
            refine lv_iload hx hb dX8_worth_213 (lv_at hl 7 rfl) ?_
            refine lv_aload hx hb dX8_worth_215 (lv_at hl 3 rfl) ?_
            refine lv_iload hx hb dX8_worth_217 (lv_at hl 0 rfl) ?_
            refine lv_iconst (v := 1) hx hb dX8_worth_219 (by decide) ?_
            refine lv_isub hx hb dX8_worth_220 ?_
            obtain ⟨hi, hf⟩ := gi_some hf
            refine cl_803 E hP hi dX8_worth_221 ?_
            refine lv_aload hx hb dX8_worth_222 (lv_at hl 3 rfl) ?_
            refine lv_iload hx hb dX8_worth_224 (lv_at hl 0 rfl) ?_
            obtain ⟨hi, hf⟩ := gi_some hf
            refine cl_803 E hP hi dX8_worth_226 ?_
            obtain ⟨r5, hc, hf⟩ := bs_some hf
            refine s_calll (n := 3) (rest := [.int (x4 - (1 : Int32)), .ref (ad 803)]) E.1 (tX8_joined l _ v10 (st.2.2.2.1 803 (x4 - (1 : Int32)).toNatClampNeg) (st.2.2.2.1 803 x4.toNatClampNeg) r5 hc) (gS k_528 k_529 k_8 k_530) qX8_joined ⟨Nat.le_of_ble_eq_true rfl, Nat.le_of_ble_eq_true rfl⟩ ⟨Nat.le_refl _, Nat.le_refl _⟩ rfl hl.1 rfl (Nat.le_of_ble_eq_true rfl) dX8_worth_227 ?_
            obtain ⟨hi, hf⟩ := gi_some hf
            refine cs_803 E hD hP hS hi dX8_worth_230 (fun st6 H locs ex hP hS => ?_)
            replace hf := lt_at ex hf; clear ex
            refine lv_aload hx hb dX8_worth_231 (lv_at hl 3 rfl) ?_
            refine lv_iload hx hb dX8_worth_233 (lv_at hl 0 rfl) ?_
            refine lv_iconst (v := 1) hx hb dX8_worth_235 (by decide) ?_
            refine lv_isub hx hb dX8_worth_236 ?_
            obtain ⟨hi, hf⟩ := gi_some hf
            refine cl_803 E hP hi dX8_worth_237 ?_
            refine lv_ldc2 (v := 1000000000) hx hb hown (hT _ k_532) dX8_worth_238 ?_
            refine W.lcmp hx hb dX8_worth_241 ?_
            refine lv_if_gt (tgt := 259) hx hb dX8_worth_242 (by decide) (fun hc => ?_) (fun hc => ?_)
            · replace hf := it_pos hc hf
              exact B259 st6 _ _ ls hf (lv_sub hl [] rfl) hP hS
            · replace hf := it_neg hc hf
              refine lv_aload hx hb dX8_worth_245 (lv_at hl 3 rfl) ?_
              refine lv_iload hx hb dX8_worth_247 (lv_at hl 0 rfl) ?_
              refine lv_iconst (v := 1) hx hb dX8_worth_249 (by decide) ?_
              refine lv_isub hx hb dX8_worth_250 ?_
              obtain ⟨hi, hf⟩ := gi_some hf
              refine cl_803 E hP hi dX8_worth_251 ?_
              refine lv_ldc2 (v := -1000000000) hx hb hown (hT _ k_533) dX8_worth_252 ?_
              refine W.lcmp hx hb dX8_worth_255 ?_
              refine lv_if_ge (tgt := 330) hx hb dX8_worth_256 (by decide) (fun hc => ?_) (fun hc => ?_)
              · replace hf := it_pos hc hf
                exact B330 v6 x4 v8 v9 st6 _ _ ls hf (lv_sub hl [1, 2, 3, 4, 0, 5, 6] rfl) hP hS
              · replace hf := it_neg hc hf
                exact B259 st6 _ _ ls hf (lv_sub hl [] rfl) hP hS
        · replace hf := it_neg hc hf
          refine lv_ldc (v := -2147483648) hx hb hown (hT _ k_524) dX8_worth_194 ?_
          exact c_iret hx hb hr hlocks hf hP hS dX8_worth_196
      have B170 : ∀ (v6 : Int32) (v7 : Int32) (v8 : Int32) (v9 : Int32) (w0 : Int64) (w1 : Int32) (st : St) (H : Heap) (locs : List Loc) (ls : Array Slot), fX8_worth__law_801_803_b170 P fz k74 v6 v7 v8 v9 w0 w1 st = some (rr, st') → lv_has ls 12 [(0, .ref (P.1 99)), (3, .ref (ad 801)), (4, .ref (ad 803)), (6, .int v6), (7, .int v7), (8, .int v8), (9, .int v9)] → va_P D classes (cx cy ad fz st) H → va_S (cA ad fz s.heap.size) s.heap H locs → cGi l 1 D cy ad fz rr st' p e s m args below meth c H locs (F0 m 170 ls [.long w0, .int w1, .ref (ad 803)]) := by
        intro v6 v7 v8 v9 w0 w1 st H locs ls hf hl hP hS
        unfold fX8_worth__law_801_803_b170 at hf
        obtain ⟨hi, hf⟩ := gi_some hf
        refine cs_803 E hD hP hS hi dX8_worth_170 (fun st7 H locs ex hP hS => ?_)
        replace hf := lt_at ex hf; clear ex
        obtain ⟨x8, ex⟩ : ∃ y : Int32, y = v7 + (1 : Int32) := ⟨_, rfl⟩
        replace hf := lt_at ex hf
        refine lv_iinc (v := x8) (lv' := [(7, .int x8), (0, .ref (P.1 99)), (3, .ref (ad 801)), (4, .ref (ad 803)), (6, .int v6), (8, .int v8), (9, .int v9)]) hx hb dX8_worth_171 hl (k := 4) rfl (by rw [ex]; rfl) (by decide) rfl (fun ls hl => ?_)
        clear ex
        refine lv_goto (tgt := 330) hx hb dX8_worth_174 (by decide) ?_
        exact B330 v6 x8 v8 v9 st7 _ _ ls hf (lv_sub hl [1, 2, 3, 4, 0, 5, 6] rfl) hP hS
      have B149 : ∀ (v6 : Int32) (v7 : Int32) (v8 : Int32) (v9 : Int32) (v10 : Int32) (v11 : Int32) (st : St) (H : Heap) (locs : List Loc) (ls : Array Slot), fX8_worth__law_801_803_b149 P fz k74 v6 v7 v8 v9 v10 v11 st = some (rr, st') → lv_has ls 12 [(0, .ref (P.1 99)), (3, .ref (ad 801)), (4, .ref (ad 803)), (6, .int v6), (7, .int v7), (8, .int v8), (9, .int v9), (10, .int v10), (11, .int v11)] → va_P D classes (cx cy ad fz st) H → va_S (cA ad fz s.heap.size) s.heap H locs → cGi l 1 D cy ad fz rr st' p e s m args below meth c H locs (F0 m 149 ls []) := by
        intro v6 v7 v8 v9 v10 v11 st H locs ls hf hl hP hS
        unfold fX8_worth__law_801_803_b149 at hf
        refine lv_aload hx hb dX8_worth_149 (lv_at hl 2 rfl) ?_
        refine lv_iload hx hb dX8_worth_151 (lv_at hl 4 rfl) ?_
        refine lv_iload hx hb dX8_worth_153 (lv_at hl 7 rfl) ?_
        refine lv_iconst (v := 1) hx hb dX8_worth_155 (by decide) ?_
        refine lv_icmp_ne (tgt := 167) hx hb dX8_worth_156 (by decide) (fun hc => ?_) (fun hc => ?_)
        · replace hf := it_neg hc hf
          refine lv_iload hx hb dX8_worth_167 (lv_at hl 8 rfl) ?_
          refine lv_i2l (v := v11.toInt64) hx hb dX8_worth_169 rfl ?_
          exact B170 v6 v7 v8 v9 (v11.toInt64) v7 st _ _ ls hf (lv_sub hl [0, 1, 2, 3, 4, 5, 6] rfl) hP hS
        · replace hf := it_pos hc hf
          refine lv_aload_n hx hb dX8_worth_159 rfl (lv_at hl 1 rfl) ?_
          refine lv_iload hx hb dX8_worth_160 (lv_at hl 8 rfl) ?_
          obtain ⟨hi, hf⟩ := gi_some hf
          refine cl_801 E hP hi dX8_worth_162 ?_
          refine lv_i2l (v := (st.2.2.1 801 v11.toNatClampNeg).toInt64) hx hb dX8_worth_163 rfl ?_
          refine lv_goto (tgt := 170) hx hb dX8_worth_164 (by decide) ?_
          exact B170 v6 v7 v8 v9 ((st.2.2.1 801 v11.toNatClampNeg).toInt64) v7 st _ _ ls hf (lv_sub hl [0, 1, 2, 3, 4, 5, 6] rfl) hP hS
      unfold fX8_worth__law_801_803_b74 at hf
      refine lv_iload hx hb dX8_worth_74 (lv_at hl 6 rfl) ?_
      refine lv_iload hx hb dX8_worth_76 (lv_at hl 3 rfl) ?_
      refine lv_icmp_ge (tgt := 336) hx hb dX8_worth_78 (by decide) (fun hc => ?_) (fun hc => ?_)
      · replace hf := it_pos hc hf
        refine lv_iload hx hb dX8_worth_336 (lv_at hl 4 rfl) ?_
        refine lv_if_ne (tgt := 345) hx hb dX8_worth_338 (by decide) (fun hc => ?_) (fun hc => ?_)
        · replace hf := it_neg hc hf
          refine lv_aload hx hb dX8_worth_345 (lv_at hl 2 rfl) ?_
          refine lv_iload hx hb dX8_worth_347 (lv_at hl 4 rfl) ?_
          refine lv_iconst (v := 1) hx hb dX8_worth_349 (by decide) ?_
          refine lv_isub hx hb dX8_worth_350 ?_
          obtain ⟨hi, hf⟩ := gi_some hf
          refine cl_803 E hP hi dX8_worth_351 ?_
          refine lv_l2i (v := (st.2.2.2.1 803 (v7 - (1 : Int32)).toNatClampNeg).toInt32) hx hb dX8_worth_352 rfl ?_
          exact B353 ((st.2.2.2.1 803 (v7 - (1 : Int32)).toNatClampNeg).toInt32) st _ _ ls hf (lv_sub hl [] rfl) hP hS
        · replace hf := it_pos hc hf
          refine lv_iconst (v := 1) hx hb dX8_worth_341 (by decide) ?_
          refine lv_goto (tgt := 353) hx hb dX8_worth_342 (by decide) ?_
          exact B353 (1 : Int32) st _ _ ls hf (lv_sub hl [] rfl) hP hS
      · replace hf := it_neg hc hf
        refine lv_aload_n hx hb dX8_worth_81 rfl (lv_at hl 0 rfl) ?_
        refine clg_8_21 E hP hPm dX8_worth_82 ?_
        refine lv_iload hx hb dX8_worth_85 (lv_at hl 6 rfl) ?_
        obtain ⟨hi, hf⟩ := gi_some hf
        refine cll_3 E hP hPm hi dX8_worth_87 ?_
        refine lv_bipush (v := 15) hx hb dX8_worth_88 (by decide) ?_
        refine lv_iand hx hb dX8_worth_90 ?_
        refine lv_topi (fun x9 ex => ?_)
        replace hf := lt_at ex hf; clear ex
        refine lv_istore (lv' := [(10, .int x9), (0, .ref (P.1 99)), (3, .ref (ad 801)), (4, .ref (ad 803)), (6, .int v6), (7, .int v7), (8, .int v8), (9, .int v9)]) hx hb dX8_worth_91 hl (by decide) rfl (fun ls hl => ?_)
        refine lv_aload_n hx hb dX8_worth_93 rfl (lv_at hl 1 rfl) ?_
        refine clg_8_21 E hP hPm dX8_worth_94 ?_
        refine lv_iload hx hb dX8_worth_97 (lv_at hl 7 rfl) ?_
        obtain ⟨hi, hf⟩ := gi_some hf
        refine cll_3 E hP hPm hi dX8_worth_99 ?_
        refine lv_iconst (v := 4) hx hb dX8_worth_100 (by decide) ?_
        refine lv_ishr hx hb dX8_worth_101 ?_
        refine lv_topi (fun x10 ex => ?_)
        replace hf := lt_at ex hf; clear ex
        refine lv_istore (lv' := [(11, .int x10), (10, .int x9), (0, .ref (P.1 99)), (3, .ref (ad 801)), (4, .ref (ad 803)), (6, .int v6), (7, .int v7), (8, .int v8), (9, .int v9)]) hx hb dX8_worth_102 hl (by decide) rfl (fun ls hl => ?_)
        refine lv_iload hx hb dX8_worth_104 (lv_at hl 8 rfl) ?_
        refine lv_iload hx hb dX8_worth_106 (lv_at hl 7 rfl) ?_
        refine lv_icmp_ge (tgt := 114) hx hb dX8_worth_108 (by decide) (fun hc => ?_) (fun hc => ?_)
        · replace hf := it_pos hc hf
          refine lv_iload hx hb dX8_worth_114 (lv_at hl 1 rfl) ?_
          refine lv_iconst (v := 1) hx hb dX8_worth_116 (by decide) ?_
          refine lv_icmp_gt (tgt := 177) hx hb dX8_worth_117 (by decide) (fun hc => ?_) (fun hc => ?_)
          · replace hf := it_pos hc hf
            refine lv_iload hx hb dX8_worth_177 (lv_at hl 6 rfl) ?_
            refine lv_iload hx hb dX8_worth_179 (lv_at hl 1 rfl) ?_
            refine lv_bipush (v := 10) hx hb dX8_worth_181 (by decide) ?_
            refine lv_icmp_ge (tgt := 190) hx hb dX8_worth_183 (by decide) (fun hc => ?_) (fun hc => ?_)
            · replace hf := it_pos hc hf
              refine lv_iconst (v := 1) hx hb dX8_worth_190 (by decide) ?_
              exact B191 v6 v7 v8 v9 x9 x10 (1 : Int32) v7 st _ _ ls hf (lv_sub hl [2, 3, 4, 5, 6, 7, 8, 1, 0] rfl) hP hS
            · replace hf := it_neg hc hf
              refine lv_iconst (v := 2) hx hb dX8_worth_186 (by decide) ?_
              refine lv_goto (tgt := 191) hx hb dX8_worth_187 (by decide) ?_
              exact B191 v6 v7 v8 v9 x9 x10 (2 : Int32) v7 st _ _ ls hf (lv_sub hl [2, 3, 4, 5, 6, 7, 8, 1, 0] rfl) hP hS
          · replace hf := it_neg hc hf
            refine lv_iload hx hb dX8_worth_120 (lv_at hl 6 rfl) ?_
            refine lv_aload hx hb dX8_worth_122 (lv_at hl 4 rfl) ?_
            refine cn_803 E hP dX8_worth_124 ?_
            refine lv_icmp_ge (tgt := 146) hx hb dX8_worth_125 (by decide) (fun hc => ?_) (fun hc => ?_)
            · replace hf := it_pos hc hf
              exact B146 st _ _ ls hf (lv_sub hl [] rfl) hP hS
            · replace hf := it_neg hc hf
              refine lv_iload hx hb dX8_worth_128 (lv_at hl 0 rfl) ?_
              refine lv_if_lt (tgt := 146) hx hb dX8_worth_130 (by decide) (fun hc => ?_) (fun hc => ?_)
              · replace hf := it_pos hc hf
                exact B146 st _ _ ls hf (lv_sub hl [] rfl) hP hS
              · replace hf := it_neg hc hf
                refine lv_iload hx hb dX8_worth_133 (lv_at hl 1 rfl) ?_
                refine lv_iconst (v := 1) hx hb dX8_worth_135 (by decide) ?_
                refine lv_icmp_ne (tgt := 149) hx hb dX8_worth_136 (by decide) (fun hc => ?_) (fun hc => ?_)
                · replace hf := it_neg hc hf
                  exact B149 v6 v7 v8 v9 x9 x10 st _ _ ls hf (lv_sub hl [2, 3, 4, 5, 6, 7, 8, 1, 0] rfl) hP hS
                · replace hf := it_pos hc hf
                  refine lv_iload hx hb dX8_worth_139 (lv_at hl 0 rfl) ?_
                  refine lv_aload_n hx hb dX8_worth_141 rfl (lv_at hl 3 rfl) ?_
                  refine cn_801 E hP dX8_worth_142 ?_
                  refine lv_icmp_lt (tgt := 149) hx hb dX8_worth_143 (by decide) (fun hc => ?_) (fun hc => ?_)
                  · replace hf := it_pos hc hf
                    exact B149 v6 v7 v8 v9 x9 x10 st _ _ ls hf (lv_sub hl [2, 3, 4, 5, 6, 7, 8, 1, 0] rfl) hP hS
                  · replace hf := it_neg hc hf
                    exact B146 st _ _ ls hf (lv_sub hl [] rfl) hP hS
        · replace hf := it_neg hc hf
          refine lv_goto (tgt := 330) hx hb dX8_worth_111 (by decide) ?_
          exact B330 v6 v7 v8 v9 st _ _ ls hf (lv_sub hl [2, 3, 4, 5, 6, 7, 8] rfl) hP hS
  refine lv_iload_n hx hb dX8_worth_0 rfl (lv_at hl 1 rfl) ?_
  refine lv_iconst (v := 4) hx hb dX8_worth_1 (by decide) ?_
  refine lv_imul hx hb dX8_worth_2 ?_
  refine lv_iload_n hx hb dX8_worth_3 rfl (lv_at hl 2 rfl) ?_
  refine lv_iadd hx hb dX8_worth_4 ?_
  refine lv_topi (fun x11 ex => ?_)
  replace hf := lt_at ex hf; clear ex
  refine lv_istore (lv' := [(5, .int x11), (0, .ref (P.1 99)), (1, .int a0), (2, .int a1), (3, .ref (ad 801)), (4, .ref (ad 803))]) hx hb dX8_worth_5 hl (by decide) rfl (fun ls hl => ?_)
  refine lv_iload_n hx hb dX8_worth_7 rfl (lv_at hl 2 rfl) ?_
  refine lv_if_lt (tgt := 38) hx hb dX8_worth_8 (by decide) (fun hc => ?_) (fun hc => ?_)
  · replace hf := it_pos hc hf
    exact B38 st _ _ ls hf (lv_sub hl [] rfl) hP hS
  · replace hf := it_neg hc hf
    refine lv_iload_n hx hb dX8_worth_11 rfl (lv_at hl 2 rfl) ?_
    refine lv_aload_n hx hb dX8_worth_12 rfl (lv_at hl 1 rfl) ?_
    refine clg_8_24 E hP hPm dX8_worth_13 ?_
    refine lv_icmp_ge (tgt := 38) hx hb dX8_worth_16 (by decide) (fun hc => ?_) (fun hc => ?_)
    · replace hf := it_pos hc hf
      exact B38 st _ _ ls hf (lv_sub hl [] rfl) hP hS
    · replace hf := it_neg hc hf
      refine lv_iload_n hx hb dX8_worth_19 rfl (lv_at hl 3 rfl) ?_
      refine lv_if_lt (tgt := 38) hx hb dX8_worth_20 (by decide) (fun hc => ?_) (fun hc => ?_)
      · replace hf := it_pos hc hf
        exact B38 st _ _ ls hf (lv_sub hl [] rfl) hP hS
      · replace hf := it_neg hc hf
        refine lv_iload_n hx hb dX8_worth_23 rfl (lv_at hl 3 rfl) ?_
        refine lv_iconst (v := 2) hx hb dX8_worth_24 (by decide) ?_
        refine lv_icmp_gt (tgt := 38) hx hb dX8_worth_25 (by decide) (fun hc => ?_) (fun hc => ?_)
        · replace hf := it_pos hc hf
          exact B38 st _ _ ls hf (lv_sub hl [] rfl) hP hS
        · replace hf := it_neg hc hf
          refine lv_aload_n hx hb dX8_worth_28 rfl (lv_at hl 1 rfl) ?_
          refine clg_8_16 E hP hPm dX8_worth_29 ?_
          refine lv_iload hx hb dX8_worth_32 (lv_at hl 0 rfl) ?_
          obtain ⟨hi, hf⟩ := gi_some hf
          refine cll_2 E hP hPm hi dX8_worth_34 ?_
          refine lv_if_ge (tgt := 41) hx hb dX8_worth_35 (by decide) (fun hc => ?_) (fun hc => ?_)
          · replace hf := it_pos hc hf
            refine lv_aload_n hx hb dX8_worth_41 rfl (lv_at hl 1 rfl) ?_
            refine clg_8_16 E hP hPm dX8_worth_42 ?_
            refine lv_iload hx hb dX8_worth_45 (lv_at hl 0 rfl) ?_
            refine lv_iconst (v := 1) hx hb dX8_worth_47 (by decide) ?_
            refine lv_iadd hx hb dX8_worth_48 ?_
            obtain ⟨hi, hf⟩ := gi_some hf
            refine cll_2 E hP hPm hi dX8_worth_49 ?_
            refine lv_aload_n hx hb dX8_worth_50 rfl (lv_at hl 1 rfl) ?_
            refine clg_8_34 E hP hPm dX8_worth_51 ?_
            refine va_mmin hx hb (E.1.2.2.1.trans hl.1.symm) hown (hT _ k_525) (hT _ k_526) (hT _ k_15) (hT _ k_527) (Nat.le_of_ble_eq_true rfl) (Nat.le_of_ble_eq_true rfl) (Nat.zero_le _) (Nat.zero_le _) dX8_worth_54 ?_
            refine lv_topi (fun x12 ex => ?_)
            replace hf := lt_at ex hf; clear ex
            refine lv_istore (lv' := [(6, .int x12), (5, .int x11), (0, .ref (P.1 99)), (1, .int a0), (2, .int a1), (3, .ref (ad 801)), (4, .ref (ad 803))]) hx hb dX8_worth_57 hl (by decide) rfl (fun ls hl => ?_)
            refine lv_iconst (v := 0) hx hb dX8_worth_59 (by decide) ?_
            refine lv_istore (lv' := [(7, .int (0 : Int32)), (6, .int x12), (5, .int x11), (0, .ref (P.1 99)), (1, .int a0), (2, .int a1), (3, .ref (ad 801)), (4, .ref (ad 803))]) hx hb dX8_worth_60 hl (by decide) rfl (fun ls hl => ?_)
            refine lv_iconst (v := 0) hx hb dX8_worth_62 (by decide) ?_
            refine lv_istore (lv' := [(8, .int (0 : Int32)), (7, .int (0 : Int32)), (6, .int x12), (5, .int x11), (0, .ref (P.1 99)), (1, .int a0), (2, .int a1), (3, .ref (ad 801)), (4, .ref (ad 803))]) hx hb dX8_worth_63 hl (by decide) rfl (fun ls hl => ?_)
            refine lv_aload_n hx hb dX8_worth_65 rfl (lv_at hl 4 rfl) ?_
            refine clg_8_16 E hP hPm dX8_worth_66 ?_
            refine lv_iload hx hb dX8_worth_69 (lv_at hl 3 rfl) ?_
            obtain ⟨hi, hf⟩ := gi_some hf
            refine cll_2 E hP hPm hi dX8_worth_71 ?_
            refine lv_topi (fun x13 ex => ?_)
            replace hf := lt_at ex hf; clear ex
            refine lv_istore (lv' := [(9, .int x13), (8, .int (0 : Int32)), (7, .int (0 : Int32)), (6, .int x12), (5, .int x11), (0, .ref (P.1 99)), (1, .int a0), (2, .int a1), (3, .ref (ad 801)), (4, .ref (ad 803))]) hx hb dX8_worth_72 hl (by decide) rfl (fun ls hl => ?_)
            exact L74 6000 x12 (0 : Int32) (0 : Int32) x13 st _ _ ls hf (lv_sub hl [5, 8, 9, 3, 2, 1, 0] rfl) hP hS
          · replace hf := it_neg hc hf
            exact B38 st _ _ ls hf (lv_sub hl [] rfl) hP hS
def fX5_told_b99 (fz : List FP) (k25 : Int32 → Int32 → Int32 → Int32 → FP → Int32 → St → Option (Int32 × St)) (v1 : Int32) (v2 : Int32) (v3 : Int32) (v4 : Int32) (Pv5 : FP) (v6 : Int32) (st : St) : Option (Int32 × St) := lt (v6 + (-1 : Int32)) (fun x1 => k25 v1 v2 v3 v4 Pv5 x1 st)
def fX5_told_b25 (fz : List FP) (k25 : Int32 → Int32 → Int32 → Int32 → FP → Int32 → St → Option (Int32 × St)) (v1 : Int32) (v2 : Int32) (v3 : Int32) (v4 : Int32) (Pv5 : FP) (v6 : Int32) (st : St) : Option (Int32 × St) := if v6 < 0 then (some (v2, st)) else (gi v6 (Pv5.2.1 0) (if (Pv5.2.2.2.2.1 0 v6.toNatClampNeg) = v1 then (bd (fX8_worth__law_801_803 Pv5 v6 (2 : Int32) fz st) (fun r2 st3 => if r2 = (1 : Int32) then (bd (fX8_worth__law_801_803 Pv5 v6 (0 : Int32) fz st3) (fun r4 st5 => if r4 = (-2147483648 : Int32) then (fX5_told_b99 fz k25 v1 v2 v3 v4 Pv5 v6 st5) else (some ((if v3 < (if r4 < v4 then r4 else v4) then (if r4 < v4 then r4 else v4) else v3), st5)))) else (fX5_told_b99 fz k25 v1 v2 v3 v4 Pv5 v6 st3))) else (fX5_told_b99 fz k25 v1 v2 v3 v4 Pv5 v6 st)))
def fX5_told (a0 : Int32) (a1 : Int32) (a2 : Int32) (a3 : Int32) (fz : List FP) (st : St) : Option (Int32 × St) := bd (fX6_lawInForce fz st) (fun r6 st7 => oq r6 (some (a1, st7)) (fun q => bs (fzGet fz q) (fun P8 => lt ((P8.2.2.1 5) - (1 : Int32)) (fun x9 => lp (fun _ _ _ _ _ _ _ => none) (fX5_told_b25 fz) 6000 a0 a1 a2 a3 P8 x9 st7))))
set_option maxHeartbeats 4000000 in
set_option maxRecDepth 100000 in
theorem tX5_told (l : Launch) (D : va_G) (cy : Nat → ClassId) (ad : Nat → Nat) (fz : List FP) (hJ : (cads ad fz).Nodup) (sz : Nat) (a0 : Int32) (a1 : Int32) (a2 : Int32) (a3 : Int32) (st : St) (rr : Int32) (st' : St) (hf : fX5_told a0 a1 a2 a3 fz st = some (rr, st')) : Met l yX5_told (Cond.code yX5_told cX5_told 8 (some .int) :: TT) (rmD 2) (cPc D cy ad fz [.ref (ad 899), .int a0, .int a1, .int a2, .int a3] st sz) (cQi D cy ad fz rr st' sz) 0 0 (cA ad fz sz) := by
  refine c_meti (by decide) hJ (Nat.le_of_ble_eq_true rfl) (fun p e s m args below meth c ls E hx hb hr hlocks hown hT hD hN hl hP hS => ?_)
  replace hl : lv_has ls 8 [(0, .ref (ad 899)), (1, .int a0), (2, .int a1), (3, .int a2), (4, .int a3)] := hl
  unfold fX5_told at hf
  have L25 : ∀ (n : Nat) (v1 : Int32) (v2 : Int32) (v3 : Int32) (v4 : Int32) (Pv5 : FP) (v6 : Int32) (st : St) (H : Heap) (locs : List Loc) (ls : Array Slot), Pv5 ∈ fz → lp (fun _ _ _ _ _ _ _ => none) (fX5_told_b25 fz) n v1 v2 v3 v4 Pv5 v6 st = some (rr, st') → lv_has ls 8 [(0, .ref (ad 899)), (1, .int v1), (2, .int v2), (3, .int v3), (4, .int v4), (5, .ref (Pv5.1 99)), (6, .int v6)] → va_P D classes (cx cy ad fz st) H → va_S (cA ad fz s.heap.size) s.heap H locs → cGi l 2 D cy ad fz rr st' p e s m args below meth c H locs (F0 m 25 ls []) := by
    intro n
    induction n with
    | zero => intro v1 v2 v3 v4 Pv5 v6 st H locs ls hPm hf; exact absurd hf (fun h => by cases h)
    | succ n K25 =>
      intro v1 v2 v3 v4 Pv5 v6 st H locs ls hPm hf hl hP hS
      replace hf : fX5_told_b25 fz (lp (fun _ _ _ _ _ _ _ => none) (fX5_told_b25 fz) n) v1 v2 v3 v4 Pv5 v6 st = some (rr, st') := hf
      generalize lp (fun _ _ _ _ _ _ _ => none) (fX5_told_b25 fz) n = k25 at hf K25
      have B99 : ∀ (v1 : Int32) (v2 : Int32) (v3 : Int32) (v4 : Int32) (Pv5 : FP) (v6 : Int32) (st : St) (H : Heap) (locs : List Loc) (ls : Array Slot), Pv5 ∈ fz → fX5_told_b99 fz k25 v1 v2 v3 v4 Pv5 v6 st = some (rr, st') → lv_has ls 8 [(0, .ref (ad 899)), (1, .int v1), (2, .int v2), (3, .int v3), (4, .int v4), (5, .ref (Pv5.1 99)), (6, .int v6)] → va_P D classes (cx cy ad fz st) H → va_S (cA ad fz s.heap.size) s.heap H locs → cGi l 2 D cy ad fz rr st' p e s m args below meth c H locs (F0 m 99 ls []) := by
        intro v1 v2 v3 v4 Pv5 v6 st H locs ls hPm hf hl hP hS
        unfold fX5_told_b99 at hf
        obtain ⟨x1, ex⟩ : ∃ y : Int32, y = v6 + (-1 : Int32) := ⟨_, rfl⟩
        replace hf := lt_at ex hf
        refine lv_iinc (v := x1) (lv' := [(6, .int x1), (0, .ref (ad 899)), (1, .int v1), (2, .int v2), (3, .int v3), (4, .int v4), (5, .ref (Pv5.1 99))]) hx hb dX5_told_99 hl (k := 6) rfl (by rw [ex]; rfl) (by decide) rfl (fun ls hl => ?_)
        clear ex
        refine lv_goto (tgt := 25) hx hb dX5_told_102 (by decide) ?_
        exact K25 v1 v2 v3 v4 Pv5 x1 st _ _ ls hPm hf (lv_sub hl [1, 2, 3, 4, 5, 6, 0] rfl) hP hS
      unfold fX5_told_b25 at hf
      refine lv_iload hx hb dX5_told_25 (lv_at hl 6 rfl) ?_
      refine lv_if_lt (tgt := 105) hx hb dX5_told_27 (by decide) (fun hc => ?_) (fun hc => ?_)
      · replace hf := it_pos hc hf
        refine lv_iload_n hx hb dX5_told_105 rfl (lv_at hl 2 rfl) ?_
        exact c_iret hx hb hr hlocks hf hP hS dX5_told_106
      · replace hf := it_neg hc hf
        refine lv_aload hx hb dX5_told_30 (lv_at hl 5 rfl) ?_
        refine clg_5_88 E hP hPm dX5_told_32 ?_
        refine lv_iload hx hb dX5_told_35 (lv_at hl 6 rfl) ?_
        obtain ⟨hi, hf⟩ := gi_some hf
        refine cll_0 E hP hPm hi dX5_told_37 ?_
        refine lv_iload_n hx hb dX5_told_38 rfl (lv_at hl 1 rfl) ?_
        refine lv_icmp_ne (tgt := 99) hx hb dX5_told_39 (by decide) (fun hc => ?_) (fun hc => ?_)
        · replace hf := it_neg hc hf
          exact B99 v1 v2 v3 v4 Pv5 v6 st _ _ ls hPm hf hl hP hS
        · replace hf := it_pos hc hf
          refine lv_aload hx hb dX5_told_42 (lv_at hl 5 rfl) ?_
          refine lv_iload hx hb dX5_told_44 (lv_at hl 6 rfl) ?_
          refine lv_iconst (v := 2) hx hb dX5_told_46 (by decide) ?_
          refine lv_aload_n hx hb dX5_told_47 rfl (lv_at hl 0 rfl) ?_
          refine cg_5_9_8 E hP dX5_told_48 ?_
          refine lv_aload_n hx hb dX5_told_51 rfl (lv_at hl 0 rfl) ?_
          refine cg_5_20_8 E hP dX5_told_52 ?_
          obtain ⟨r2, st3, hc, hf⟩ := bd_some hf
          refine c_calli (n := 4) (rest := []) E hN hP hS (fun sz => tX8_worth__law_801_803 l D cy ad fz hJ sz Pv5 hPm v6 (2 : Int32) st r2 st3 hc) (c_lawrv E hP hPm) (gV k_520 k_521 k_522 k_8 k_523) qX8_worth ⟨Nat.le_of_ble_eq_true rfl, Nat.le_of_ble_eq_true rfl⟩ ⟨Nat.le_refl _, Nat.le_refl _⟩ rfl hl.1 rfl (Nat.le_of_ble_eq_true rfl) dX5_told_55 (fun H locs hP hS => ?_)
          refine lv_iconst (v := 1) hx hb dX5_told_58 (by decide) ?_
          refine lv_icmp_ne (tgt := 99) hx hb dX5_told_59 (by decide) (fun hc => ?_) (fun hc => ?_)
          · replace hf := it_neg hc hf
            exact B99 v1 v2 v3 v4 Pv5 v6 st3 _ _ ls hPm hf hl hP hS
          · replace hf := it_pos hc hf
            refine lv_aload hx hb dX5_told_62 (lv_at hl 5 rfl) ?_
            refine lv_iload hx hb dX5_told_64 (lv_at hl 6 rfl) ?_
            refine lv_iconst (v := 0) hx hb dX5_told_66 (by decide) ?_
            refine lv_aload_n hx hb dX5_told_67 rfl (lv_at hl 0 rfl) ?_
            refine cg_5_9_8 E hP dX5_told_68 ?_
            refine lv_aload_n hx hb dX5_told_71 rfl (lv_at hl 0 rfl) ?_
            refine cg_5_20_8 E hP dX5_told_72 ?_
            obtain ⟨r4, st5, hc, hf⟩ := bd_some hf
            refine c_calli (n := 4) (rest := []) E hN hP hS (fun sz => tX8_worth__law_801_803 l D cy ad fz hJ sz Pv5 hPm v6 (0 : Int32) st3 r4 st5 hc) (c_lawrv E hP hPm) (gV k_520 k_521 k_522 k_8 k_523) qX8_worth ⟨Nat.le_of_ble_eq_true rfl, Nat.le_of_ble_eq_true rfl⟩ ⟨Nat.le_refl _, Nat.le_refl _⟩ rfl hl.1 rfl (Nat.le_of_ble_eq_true rfl) dX5_told_75 (fun H locs hP hS => ?_)
            refine lv_istore (lv' := [(7, .int r4), (0, .ref (ad 899)), (1, .int v1), (2, .int v2), (3, .int v3), (4, .int v4), (5, .ref (Pv5.1 99)), (6, .int v6)]) hx hb dX5_told_78 hl (by decide) rfl (fun ls hl => ?_)
            refine lv_iload hx hb dX5_told_80 (lv_at hl 0 rfl) ?_
            refine lv_ldc (v := -2147483648) hx hb hown (hT _ k_534) dX5_told_82 ?_
            refine lv_icmp_eq (tgt := 99) hx hb dX5_told_84 (by decide) (fun hc => ?_) (fun hc => ?_)
            · replace hf := it_pos hc hf
              exact B99 v1 v2 v3 v4 Pv5 v6 st5 _ _ ls hPm hf (lv_sub hl [1, 2, 3, 4, 5, 6, 7] rfl) hP hS
            · replace hf := it_neg hc hf
              refine lv_iload_n hx hb dX5_told_87 rfl (lv_at hl 4 rfl) ?_
              refine lv_iload hx hb dX5_told_88 (lv_at hl 5 rfl) ?_
              refine lv_iload hx hb dX5_told_90 (lv_at hl 0 rfl) ?_
              refine va_mmin hx hb (E.1.2.2.1.trans hl.1.symm) hown (hT _ k_535) (hT _ k_526) (hT _ k_15) (hT _ k_527) (Nat.le_of_ble_eq_true rfl) (Nat.le_of_ble_eq_true rfl) (Nat.zero_le _) (Nat.zero_le _) dX5_told_92 ?_
              refine va_mmax hx hb (E.1.2.2.1.trans hl.1.symm) hown (hT _ k_536) (hT _ k_537) (hT _ k_15) (hT _ k_538) (Nat.le_of_ble_eq_true rfl) (Nat.le_of_ble_eq_true rfl) (Nat.zero_le _) (Nat.zero_le _) dX5_told_95 ?_
              exact c_iret hx hb hr hlocks hf hP hS dX5_told_98
  refine lv_aload_n hx hb dX5_told_0 rfl (lv_at hl 0 rfl) ?_
  refine cg_5_24_8 E hP dX5_told_1 ?_
  obtain ⟨r6, st7, hc, hf⟩ := bd_some hf
  refine c_callq (n := 0) (rest := []) E hN hP hS (fun sz => tX6_lawInForce l D cy ad fz hJ sz st r6 st7 hc) (va_recv E.2 hP (ci := 6) (q0 := 3) rfl rfl) (gV k_516 k_517 k_518 k_2 k_519) qX6_lawInForce ⟨Nat.le_of_ble_eq_true rfl, Nat.le_of_ble_eq_true rfl⟩ ⟨Nat.le_refl _, Nat.le_refl _⟩ rfl hl.1 rfl (Nat.le_of_ble_eq_true rfl) dX5_told_4 (fun H locs hP hS => ?_)
  cases r6 with
  | none =>
    replace hf := oq_none hf
    refine lv_astoreN (lv' := [(5, .null), (0, .ref (ad 899)), (1, .int a0), (2, .int a1), (3, .int a2), (4, .int a3)]) hx hb dX5_told_7 hl (by decide) rfl (fun ls hl => ?_)
    refine lv_aloadN hx hb dX5_told_9 (lv_at hl 0 rfl) ?_
    refine lv_ifnonnullN hx hb dX5_told_11 ?_
    refine lv_iload_n hx hb dX5_told_14 rfl (lv_at hl 3 rfl) ?_
    exact c_iret hx hb hr hlocks hf hP hS dX5_told_15
  | some q =>
    replace hf := oq_some hf
    have hbs := bs_some hf
    clear hf
    obtain ⟨P8, hPf, hf⟩ := hbs
    obtain ⟨hPm, rfl⟩ := fzGet_some hPf
    refine lv_astore (lv' := [(5, .ref (P8.1 99)), (0, .ref (ad 899)), (1, .int a0), (2, .int a1), (3, .int a2), (4, .int a3)]) hx hb dX5_told_7 hl (by decide) rfl (fun ls hl => ?_)
    refine lv_aload hx hb dX5_told_9 (lv_at hl 0 rfl) ?_
    refine lv_ifnonnull (tgt := 16) hx hb dX5_told_11 (by decide) ?_
    refine lv_aload hx hb dX5_told_16 (lv_at hl 0 rfl) ?_
    refine clg_5_85 E hP hPm dX5_told_18 ?_
    refine lv_iconst (v := 1) hx hb dX5_told_21 (by decide) ?_
    refine lv_isub hx hb dX5_told_22 ?_
    refine lv_topi (fun x9 ex => ?_)
    replace hf := lt_at ex hf; clear ex
    refine lv_istore (lv' := [(6, .int x9), (5, .ref (P8.1 99)), (0, .ref (ad 899)), (1, .int a0), (2, .int a1), (3, .int a2), (4, .int a3)]) hx hb dX5_told_23 hl (by decide) rfl (fun ls hl => ?_)
    exact L25 6000 a0 a1 a2 a3 P8 x9 st7 _ _ ls hPm hf (lv_sub hl [2, 3, 4, 5, 6, 1, 0] rfl) hP hS
def fX5_turns_b48 (fz : List FP) (w0 : Int32) (st : St) : Option (Int32 × St) := gb w0 (some (w0, st))
def fX5_turns (a0 : Int32) (a1 : Int32) (a2 : Int32) (fz : List FP) (st : St) : Option (Int32 × St) := bd (fX5_belief a0 a2 fz st) (fun r1 st2 => bd (fX5_ask a0 (-1 : Int32) a1 (r1 / (10000 : Int32)) (-1 : Int32) fz st2) (fun r3 st4 => bd (fX5_told (300 : Int32) (50 : Int32) (0 : Int32) (100 : Int32) fz st4) (fun r5 st6 => if r1 < ((10000 : Int32) * r5) then (fX5_turns_b48 fz (0 : Int32) st6) else (fX5_turns_b48 fz (1 : Int32) st6))))
set_option maxHeartbeats 4000000 in
set_option maxRecDepth 100000 in
theorem tX5_turns (l : Launch) (D : va_G) (cy : Nat → ClassId) (ad : Nat → Nat) (fz : List FP) (hJ : (cads ad fz).Nodup) (sz : Nat) (a0 : Int32) (a1 : Int32) (a2 : Int32) (st : St) (rr : Int32) (st' : St) (hf : fX5_turns a0 a1 a2 fz st = some (rr, st')) : Met l yX5_turns (Cond.code yX5_turns cX5_turns 5 (some .boolean) :: TT) (rmD 3) (cPc D cy ad fz [.ref (ad 899), .int a0, .int a1, .int a2] st sz) (cQi D cy ad fz rr st' sz) 0 0 (cA ad fz sz) := by
  refine c_meti (by decide) hJ (Nat.le_of_ble_eq_true rfl) (fun p e s m args below meth c ls E hx hb hr hlocks hown hT hD hN hl hP hS => ?_)
  replace hl : lv_has ls 5 [(0, .ref (ad 899)), (1, .int a0), (2, .int a1), (3, .int a2)] := hl
  unfold fX5_turns at hf
  have B48 : ∀ (w0 : Int32) (st : St) (H : Heap) (locs : List Loc) (ls : Array Slot), fX5_turns_b48 fz w0 st = some (rr, st') → lv_has ls 5 [] → va_P D classes (cx cy ad fz st) H → va_S (cA ad fz s.heap.size) s.heap H locs → cGi l 3 D cy ad fz rr st' p e s m args below meth c H locs (F0 m 48 ls [.int w0]) := by
    intro w0 st H locs ls hf hl hP hS
    unfold fX5_turns_b48 at hf
    obtain ⟨hn, hf⟩ := gb_some hf
    exact c_zret hx hb hr hlocks hn hf hP hS dX5_turns_48
  refine lv_aload_n hx hb dX5_turns_0 rfl (lv_at hl 0 rfl) ?_
  refine lv_iload_n hx hb dX5_turns_1 rfl (lv_at hl 1 rfl) ?_
  refine lv_iload_n hx hb dX5_turns_2 rfl (lv_at hl 3 rfl) ?_
  obtain ⟨r1, st2, hc, hf⟩ := bd_some hf
  refine c_calli (n := 2) (rest := []) E hN hP hS (fun sz => tX5_belief l D cy ad fz hJ sz a0 a2 st r1 st2 hc) (va_recv E.2 hP (ci := 5) (q0 := 36) rfl rfl) (gV k_550 k_482 k_483 k_10 k_484) qX5_belief ⟨Nat.le_of_ble_eq_true rfl, Nat.le_of_ble_eq_true rfl⟩ ⟨Nat.le_refl _, Nat.le_refl _⟩ rfl hl.1 rfl (Nat.le_of_ble_eq_true rfl) dX5_turns_3 (fun H locs hP hS => ?_)
  refine lv_istore (lv' := [(4, .int r1), (0, .ref (ad 899)), (1, .int a0), (2, .int a1), (3, .int a2)]) hx hb dX5_turns_6 hl (by decide) rfl (fun ls hl => ?_)
  refine lv_aload_n hx hb dX5_turns_8 rfl (lv_at hl 1 rfl) ?_
  refine lv_iload_n hx hb dX5_turns_9 rfl (lv_at hl 2 rfl) ?_
  refine lv_iconst (v := -1) hx hb dX5_turns_10 (by decide) ?_
  refine lv_iload_n hx hb dX5_turns_11 rfl (lv_at hl 3 rfl) ?_
  refine lv_iload hx hb dX5_turns_12 (lv_at hl 0 rfl) ?_
  refine lv_sipush (v := 10000) hx hb dX5_turns_14 (by decide) ?_
  refine lv_idiv hx hb dX5_turns_17 (by decide) ?_
  refine lv_iconst (v := -1) hx hb dX5_turns_18 (by decide) ?_
  obtain ⟨r3, st4, hc, hf⟩ := bd_some hf
  refine c_callv (n := 5) (rest := []) E hN hP hS (fun sz => tX5_ask l D cy ad fz hJ sz a0 (-1 : Int32) a1 (r1 / (10000 : Int32)) (-1 : Int32) st2 r3 st4 hc) (va_recv E.2 hP (ci := 5) (q0 := 36) rfl rfl) (gV k_508 k_510 ks_2 k_10 k_511) qX5_ask ⟨Nat.le_of_ble_eq_true rfl, Nat.le_of_ble_eq_true rfl⟩ ⟨Nat.le_refl _, Nat.le_refl _⟩ rfl hl.1 rfl (Nat.le_of_ble_eq_true rfl) dX5_turns_19 (fun H locs hP hS => ?_)
  refine lv_iload hx hb dX5_turns_22 (lv_at hl 0 rfl) ?_
  refine lv_sipush (v := 10000) hx hb dX5_turns_24 (by decide) ?_
  refine lv_aload_n hx hb dX5_turns_27 rfl (lv_at hl 1 rfl) ?_
  refine lv_sipush (v := 300) hx hb dX5_turns_28 (by decide) ?_
  refine lv_bipush (v := 50) hx hb dX5_turns_31 (by decide) ?_
  refine lv_iconst (v := 0) hx hb dX5_turns_33 (by decide) ?_
  refine lv_bipush (v := 100) hx hb dX5_turns_34 (by decide) ?_
  obtain ⟨r5, st6, hc, hf⟩ := bd_some hf
  refine c_calli (n := 4) (rest := [.int (10000 : Int32), .int r1]) E hN hP hS (fun sz => tX5_told l D cy ad fz hJ sz (300 : Int32) (50 : Int32) (0 : Int32) (100 : Int32) st4 r5 st6 hc) (va_recv E.2 hP (ci := 5) (q0 := 36) rfl rfl) (gV k_512 k_514 ks_3 k_10 k_515) qX5_told ⟨Nat.le_of_ble_eq_true rfl, Nat.le_of_ble_eq_true rfl⟩ ⟨Nat.le_refl _, Nat.le_refl _⟩ rfl hl.1 rfl (Nat.le_of_ble_eq_true rfl) dX5_turns_36 (fun H locs hP hS => ?_)
  refine lv_imul hx hb dX5_turns_39 ?_
  refine lv_icmp_lt (tgt := 47) hx hb dX5_turns_40 (by decide) (fun hc => ?_) (fun hc => ?_)
  · replace hf := it_pos hc hf
    refine lv_iconst (v := 0) hx hb dX5_turns_47 (by decide) ?_
    exact B48 (0 : Int32) st6 _ _ ls hf (lv_sub hl [] rfl) hP hS
  · replace hf := it_neg hc hf
    refine lv_iconst (v := 1) hx hb dX5_turns_43 (by decide) ?_
    refine lv_goto (tgt := 48) hx hb dX5_turns_44 (by decide) ?_
    exact B48 (1 : Int32) st6 _ _ ls hf (lv_sub hl [] rfl) hP hS
def fX11_bit_b9 (w0 : Int32) : Option Int32 := some w0
def fX11_bit (a0 : Int32) : Option Int32 := if a0 = 0 then (fX11_bit_b9 (0 : Int32)) else (fX11_bit_b9 (1 : Int32))
set_option maxHeartbeats 4000000 in
set_option maxRecDepth 100000 in
theorem tX11_bit (l : Launch) (hh : Heap) (a0 : Int32) (rr : Int32) (hf : fX11_bit a0 = some rr) : Met l yX11_bit (Cond.code yX11_bit cX11_bit 1 (some .int) :: TT) (rmD 0) (sPc [.int a0] hh) (sQi rr hh) 0 0 (fun _ => False) := by
  refine s_meti (by decide) (Nat.le_of_ble_eq_true rfl) (fun p e s m args below meth c ls E hx hb hr hlocks hown hT hl => ?_)
  replace hl : lv_has ls 1 [(0, .int a0)] := hl
  unfold fX11_bit at hf
  have B9 : ∀ (w0 : Int32) (ls : Array Slot), fX11_bit_b9 w0 = some rr → lv_has ls 1 [] → sGi l 0 rr p e s m args below meth c (F0 m 9 ls [.int w0]) := by
    intro w0 ls hf hl
    unfold fX11_bit_b9 at hf
    exact s_iret hx hb hr hlocks hf dX11_bit_9
  refine lv_iload_n hx hb dX11_bit_0 rfl (lv_at hl 0 rfl) ?_
  refine lv_if_eq (tgt := 8) hx hb dX11_bit_1 (by decide) (fun hc => ?_) (fun hc => ?_)
  · replace hf := it_pos hc hf
    refine lv_iconst (v := 0) hx hb dX11_bit_8 (by decide) ?_
    exact B9 (0 : Int32) ls hf (lv_sub hl [] rfl)
  · replace hf := it_neg hc hf
    refine lv_iconst (v := 1) hx hb dX11_bit_4 (by decide) ?_
    refine lv_goto (tgt := 9) hx hb dX11_bit_5 (by decide) ?_
    exact B9 (1 : Int32) ls hf (lv_sub hl [] rfl)
def fX5_turnsAt (a0 : Int32) (a1 : Int32) (fz : List FP) (st : St) : Option (Int32 × St) := gi a0 6 (bd (fX5_belief a0 (st.2.2.1 201 a0.toNatClampNeg) fz st) (fun r1 st2 => bd (fX5_ask a0 (-1 : Int32) a1 (r1 / (10000 : Int32)) (-1 : Int32) fz st2) (fun r3 st4 => bd (fX5_told (300 : Int32) (50 : Int32) (0 : Int32) (100 : Int32) fz st4) (fun r5 st6 => some (r5, st6)))))
set_option maxHeartbeats 4000000 in
set_option maxRecDepth 100000 in
theorem tX5_turnsAt (l : Launch) (D : va_G) (cy : Nat → ClassId) (ad : Nat → Nat) (fz : List FP) (hJ : (cads ad fz).Nodup) (sz : Nat) (a0 : Int32) (a1 : Int32) (st : St) (rr : Int32) (st' : St) (hf : fX5_turnsAt a0 a1 fz st = some (rr, st')) : Met l yX5_turnsAt (Cond.code yX5_turnsAt cX5_turnsAt 3 (some .int) :: TT) (rmD 3) (cPc D cy ad fz [.ref (ad 899), .int a0, .int a1] st sz) (cQi D cy ad fz rr st' sz) 0 0 (cA ad fz sz) := by
  refine c_meti (by decide) hJ (Nat.le_of_ble_eq_true rfl) (fun p e s m args below meth c ls E hx hb hr hlocks hown hT hD hN hl hP hS => ?_)
  replace hl : lv_has ls 3 [(0, .ref (ad 899)), (1, .int a0), (2, .int a1)] := hl
  unfold fX5_turnsAt at hf
  refine lv_aload_n hx hb dX5_turnsAt_0 rfl (lv_at hl 0 rfl) ?_
  refine lv_iload_n hx hb dX5_turnsAt_1 rfl (lv_at hl 1 rfl) ?_
  refine lv_iconst (v := -1) hx hb dX5_turnsAt_2 (by decide) ?_
  refine lv_iload_n hx hb dX5_turnsAt_3 rfl (lv_at hl 2 rfl) ?_
  refine lv_aload_n hx hb dX5_turnsAt_4 rfl (lv_at hl 0 rfl) ?_
  refine lv_iload_n hx hb dX5_turnsAt_5 rfl (lv_at hl 1 rfl) ?_
  refine lv_aload_n hx hb dX5_turnsAt_6 rfl (lv_at hl 0 rfl) ?_
  refine cg_5_24_8 E hP dX5_turnsAt_7 ?_
  refine cg_5_41_1 E hP dX5_turnsAt_10 ?_
  refine cg_5_65_2 E hP dX5_turnsAt_13 ?_
  refine lv_iload_n hx hb dX5_turnsAt_16 rfl (lv_at hl 1 rfl) ?_
  obtain ⟨hi, hf⟩ := gi_some hf
  refine cl_201 E hP hi dX5_turnsAt_17 ?_
  obtain ⟨r1, st2, hc, hf⟩ := bd_some hf
  refine c_calli (n := 2) (rest := [.int a1, .int (-1 : Int32), .int a0, .ref (ad 899)]) E hN hP hS (fun sz => tX5_belief l D cy ad fz hJ sz a0 (st.2.2.1 201 a0.toNatClampNeg) st r1 st2 hc) (va_recv E.2 hP (ci := 5) (q0 := 36) rfl rfl) (gV k_550 k_482 k_483 k_10 k_484) qX5_belief ⟨Nat.le_of_ble_eq_true rfl, Nat.le_of_ble_eq_true rfl⟩ ⟨Nat.le_refl _, Nat.le_refl _⟩ rfl hl.1 rfl (Nat.le_of_ble_eq_true rfl) dX5_turnsAt_18 (fun H locs hP hS => ?_)
  refine lv_sipush (v := 10000) hx hb dX5_turnsAt_21 (by decide) ?_
  refine lv_idiv hx hb dX5_turnsAt_24 (by decide) ?_
  refine lv_iconst (v := -1) hx hb dX5_turnsAt_25 (by decide) ?_
  obtain ⟨r3, st4, hc, hf⟩ := bd_some hf
  refine c_callv (n := 5) (rest := []) E hN hP hS (fun sz => tX5_ask l D cy ad fz hJ sz a0 (-1 : Int32) a1 (r1 / (10000 : Int32)) (-1 : Int32) st2 r3 st4 hc) (va_recv E.2 hP (ci := 5) (q0 := 36) rfl rfl) (gV k_508 k_510 ks_2 k_10 k_511) qX5_ask ⟨Nat.le_of_ble_eq_true rfl, Nat.le_of_ble_eq_true rfl⟩ ⟨Nat.le_refl _, Nat.le_refl _⟩ rfl hl.1 rfl (Nat.le_of_ble_eq_true rfl) dX5_turnsAt_26 (fun H locs hP hS => ?_)
  refine lv_aload_n hx hb dX5_turnsAt_29 rfl (lv_at hl 0 rfl) ?_
  refine lv_sipush (v := 300) hx hb dX5_turnsAt_30 (by decide) ?_
  refine lv_bipush (v := 50) hx hb dX5_turnsAt_33 (by decide) ?_
  refine lv_iconst (v := 0) hx hb dX5_turnsAt_35 (by decide) ?_
  refine lv_bipush (v := 100) hx hb dX5_turnsAt_36 (by decide) ?_
  obtain ⟨r5, st6, hc, hf⟩ := bd_some hf
  refine c_calli (n := 4) (rest := []) E hN hP hS (fun sz => tX5_told l D cy ad fz hJ sz (300 : Int32) (50 : Int32) (0 : Int32) (100 : Int32) st4 r5 st6 hc) (va_recv E.2 hP (ci := 5) (q0 := 36) rfl rfl) (gV k_512 k_514 ks_3 k_10 k_515) qX5_told ⟨Nat.le_of_ble_eq_true rfl, Nat.le_of_ble_eq_true rfl⟩ ⟨Nat.le_refl _, Nat.le_refl _⟩ rfl hl.1 rfl (Nat.le_of_ble_eq_true rfl) dX5_turnsAt_38 (fun H locs hP hS => ?_)
  exact c_iret hx hb hr hlocks hf hP hS dX5_turnsAt_41
def fX5_bars_b28 (fz : List FP) (w0 : Int32) (st : St) : Option (Int32 × St) := gb w0 (some (w0, st))
def fX5_bars (a0 : Int32) (a1 : Int32) (fz : List FP) (st : St) : Option (Int32 × St) := bd (fX5_ask a0 a1 (-1 : Int32) (-1 : Int32) (-1 : Int32) fz st) (fun r1 st2 => bd (fX5_told (303 : Int32) (0 : Int32) (0 : Int32) (1 : Int32) fz st2) (fun r3 st4 => if r3 = (1 : Int32) then (fX5_bars_b28 fz (1 : Int32) st4) else (fX5_bars_b28 fz (0 : Int32) st4)))
set_option maxHeartbeats 4000000 in
set_option maxRecDepth 100000 in
theorem tX5_bars (l : Launch) (D : va_G) (cy : Nat → ClassId) (ad : Nat → Nat) (fz : List FP) (hJ : (cads ad fz).Nodup) (sz : Nat) (a0 : Int32) (a1 : Int32) (st : St) (rr : Int32) (st' : St) (hf : fX5_bars a0 a1 fz st = some (rr, st')) : Met l yX5_bars (Cond.code yX5_bars cX5_bars 3 (some .boolean) :: TT) (rmD 3) (cPc D cy ad fz [.ref (ad 899), .int a0, .int a1] st sz) (cQi D cy ad fz rr st' sz) 0 0 (cA ad fz sz) := by
  refine c_meti (by decide) hJ (Nat.le_of_ble_eq_true rfl) (fun p e s m args below meth c ls E hx hb hr hlocks hown hT hD hN hl hP hS => ?_)
  replace hl : lv_has ls 3 [(0, .ref (ad 899)), (1, .int a0), (2, .int a1)] := hl
  unfold fX5_bars at hf
  have B28 : ∀ (w0 : Int32) (st : St) (H : Heap) (locs : List Loc) (ls : Array Slot), fX5_bars_b28 fz w0 st = some (rr, st') → lv_has ls 3 [] → va_P D classes (cx cy ad fz st) H → va_S (cA ad fz s.heap.size) s.heap H locs → cGi l 3 D cy ad fz rr st' p e s m args below meth c H locs (F0 m 28 ls [.int w0]) := by
    intro w0 st H locs ls hf hl hP hS
    unfold fX5_bars_b28 at hf
    obtain ⟨hn, hf⟩ := gb_some hf
    exact c_zret hx hb hr hlocks hn hf hP hS dX5_bars_28
  refine lv_aload_n hx hb dX5_bars_0 rfl (lv_at hl 0 rfl) ?_
  refine lv_iload_n hx hb dX5_bars_1 rfl (lv_at hl 1 rfl) ?_
  refine lv_iload_n hx hb dX5_bars_2 rfl (lv_at hl 2 rfl) ?_
  refine lv_iconst (v := -1) hx hb dX5_bars_3 (by decide) ?_
  refine lv_iconst (v := -1) hx hb dX5_bars_4 (by decide) ?_
  refine lv_iconst (v := -1) hx hb dX5_bars_5 (by decide) ?_
  obtain ⟨r1, st2, hc, hf⟩ := bd_some hf
  refine c_callv (n := 5) (rest := []) E hN hP hS (fun sz => tX5_ask l D cy ad fz hJ sz a0 a1 (-1 : Int32) (-1 : Int32) (-1 : Int32) st r1 st2 hc) (va_recv E.2 hP (ci := 5) (q0 := 36) rfl rfl) (gV k_508 k_510 ks_2 k_10 k_511) qX5_ask ⟨Nat.le_of_ble_eq_true rfl, Nat.le_of_ble_eq_true rfl⟩ ⟨Nat.le_refl _, Nat.le_refl _⟩ rfl hl.1 rfl (Nat.le_of_ble_eq_true rfl) dX5_bars_6 (fun H locs hP hS => ?_)
  refine lv_aload_n hx hb dX5_bars_9 rfl (lv_at hl 0 rfl) ?_
  refine lv_sipush (v := 303) hx hb dX5_bars_10 (by decide) ?_
  refine lv_iconst (v := 0) hx hb dX5_bars_13 (by decide) ?_
  refine lv_iconst (v := 0) hx hb dX5_bars_14 (by decide) ?_
  refine lv_iconst (v := 1) hx hb dX5_bars_15 (by decide) ?_
  obtain ⟨r3, st4, hc, hf⟩ := bd_some hf
  refine c_calli (n := 4) (rest := []) E hN hP hS (fun sz => tX5_told l D cy ad fz hJ sz (303 : Int32) (0 : Int32) (0 : Int32) (1 : Int32) st2 r3 st4 hc) (va_recv E.2 hP (ci := 5) (q0 := 36) rfl rfl) (gV k_512 k_514 ks_3 k_10 k_515) qX5_told ⟨Nat.le_of_ble_eq_true rfl, Nat.le_of_ble_eq_true rfl⟩ ⟨Nat.le_refl _, Nat.le_refl _⟩ rfl hl.1 rfl (Nat.le_of_ble_eq_true rfl) dX5_bars_16 (fun H locs hP hS => ?_)
  refine lv_iconst (v := 1) hx hb dX5_bars_19 (by decide) ?_
  refine lv_icmp_ne (tgt := 27) hx hb dX5_bars_20 (by decide) (fun hc => ?_) (fun hc => ?_)
  · replace hf := it_neg hc hf
    refine lv_iconst (v := 0) hx hb dX5_bars_27 (by decide) ?_
    exact B28 (0 : Int32) st4 _ _ ls hf (lv_sub hl [] rfl) hP hS
  · replace hf := it_pos hc hf
    refine lv_iconst (v := 1) hx hb dX5_bars_23 (by decide) ?_
    refine lv_goto (tgt := 28) hx hb dX5_bars_24 (by decide) ?_
    exact B28 (1 : Int32) st4 _ _ ls hf (lv_sub hl [] rfl) hP hS
