def fX12_endText_b19 (st : St) : Option (Unit × St) := lt (sI st 20 (0 : Int32)) (fun st1 => lt (sI st1 13 (0 : Int32)) (fun st2 => some ((), st2)))
def fX12_endText (st : St) : Option (Unit × St) := if (st.1 19) = 0 then (if (st.1 16) = 0 then (fX12_endText_b19 st) else (bd (fX12_must (0 : Int32) st) (fun r3 st4 => fX12_endText_b19 st4))) else (fX12_endText_b19 st)
set_option maxHeartbeats 4000000 in
set_option maxRecDepth 100000 in
theorem tX12_endText (l : Launch) (D : va_G) (cy : Nat → ClassId) (ad : Nat → Nat) (hJ : (mads ad).Nodup) (sz : Nat) (st : St) (rr : Unit) (st' : St) (hf : fX12_endText  st = some (rr, st')) : Met l yX12_endText (Cond.code yX12_endText cX12_endText 1 none :: TT) (rmD 3) (mPc D cy ad [] st sz) (mQv D cy ad rr st' sz) 0 0 (mA ad sz) := by
  refine m_metv (by decide) hJ (Nat.le_of_ble_eq_true rfl) (fun p e s m args below meth c ls E hx hb hr hlocks hown hT hD hl hP hS => ?_)
  replace hl : lv_has ls 1 [(0, .ref (ad 100))] := hl
  unfold fX12_endText at hf
  have B19 : ∀ (st : St) (H : Heap) (locs : List Loc) (ls : Array Slot), fX12_endText_b19 st = some (rr, st') → lv_has ls 1 [(0, .ref (ad 100))] → va_P D classes (mw cy ad st) H → va_S (mA ad s.heap.size) s.heap H locs → mGv l 3 D cy ad rr st' p e s m args below meth c H locs (F0 m 19 ls []) := by
    intro st H locs ls hf hl hP hS
    unfold fX12_endText_b19 at hf
    refine lv_aload_n hx hb dX12_endText_19 rfl (lv_at hl 0 rfl) ?_
    refine lv_iconst (v := 0) hx hb dX12_endText_20 (by decide) ?_
    refine mp_20 E hD hP hS (by decide) dX12_endText_21 (fun st1 H locs ex hP hS => ?_)
    replace hf := lt_at ex hf; clear ex
    refine lv_aload_n hx hb dX12_endText_24 rfl (lv_at hl 0 rfl) ?_
    refine lv_iconst (v := 0) hx hb dX12_endText_25 (by decide) ?_
    refine mp_13 E hD hP hS dX12_endText_26 (fun st2 H locs ex hP hS => ?_)
    replace hf := lt_at ex hf; clear ex
    exact m_vret hx hb hr hlocks hf hP hS dX12_endText_29
  refine lv_aload_n hx hb dX12_endText_0 rfl (lv_at hl 0 rfl) ?_
  refine mg_19 E hP dX12_endText_1 ?_
  refine lv_if_ne (tgt := 19) hx hb dX12_endText_4 (by decide) (fun hc => ?_) (fun hc => ?_)
  · replace hf := it_neg hc hf
    exact B19 st _ _ ls hf hl hP hS
  · replace hf := it_pos hc hf
    refine lv_aload_n hx hb dX12_endText_7 rfl (lv_at hl 0 rfl) ?_
    refine mg_16 E hP dX12_endText_8 ?_
    refine lv_if_eq (tgt := 19) hx hb dX12_endText_11 (by decide) (fun hc => ?_) (fun hc => ?_)
    · replace hf := it_pos hc hf
      exact B19 st _ _ ls hf hl hP hS
    · replace hf := it_neg hc hf
      refine lv_aload_n hx hb dX12_endText_14 rfl (lv_at hl 0 rfl) ?_
      refine lv_iconst (v := 0) hx hb dX12_endText_15 (by decide) ?_
      obtain ⟨r3, st4, hc, hf⟩ := bd_some hf
      refine m_callv (n := 1) (rest := []) E hP hS (fun sz => tX12_must l D cy ad hJ sz (0 : Int32) st r3 st4 hc) (gV k_1475 k_1477 ks_50 k_14 k_1478) qX12_must ⟨Nat.le_of_ble_eq_true rfl, Nat.le_of_ble_eq_true rfl⟩ ⟨Nat.le_refl _, Nat.le_refl _⟩ rfl hl.1 rfl (Nat.le_of_ble_eq_true rfl) dX12_endText_16 (fun H locs hP hS => ?_)
      exact B19 st4 _ _ ls hf hl hP hS
theorem qX12_endText : yX12_endText.cls = RX12 ∧ yX12_endText.cls ≠ "java/lang/invoke/MethodHandle" ∧ yX12_endText.cls ≠ "java/lang/invoke/VarHandle" ∧ (parseMethodDescriptor yX12_endText.desc).map (fun d => d.parameters.length) = some 0 := by decide +kernel
def fX12_readLaw_b185 (v2 : Int32) (st : St) : Option (Unit × St) := gi (v2 + (6 : Int32)) 96 (lt (sA st 22 (upd (st.2.2.1 22) (v2 + (6 : Int32)).toNatClampNeg (st.1 23))) (fun st1 => some ((), st1)))
def fX12_readLaw_b135 (v2 : Int32) (st : St) : Option (Unit × St) := gi (v2 + (4 : Int32)) 96 (lt (sA st 22 (upd (st.2.2.1 22) (v2 + (4 : Int32)).toNatClampNeg (st.1 23))) (fun st2 => gi (v2 + (5 : Int32)) 96 (lt (sA st2 22 (upd (st2.2.2.1 22) (v2 + (5 : Int32)).toNatClampNeg (st2.1 23))) (fun st3 => if (st3.1 19) = 0 then (bd (fX12_isWord (294 : Int64) st3) (fun r4 st5 => if r4 = 0 then (fX12_readLaw_b185 v2 st5) else (bd (fX12_nextToken st5) (fun r6 st7 => bd (fX12_readExpression (1 : Int32) st7) (fun r8 st9 => fX12_readLaw_b185 v2 st9))))) else (fX12_readLaw_b185 v2 st3)))))
def fX12_readLaw_b75 (k75 : Int32 → Int32 → Int32 → St → Option (Unit × St)) (v1 : Int32) (v2 : Int32) (v3 : Int32) (st : St) : Option (Unit × St) := if (8 : Int32) ≤ v3 then (gi v2 96 (lt (sA st 22 (upd (st.2.2.1 22) v2.toNatClampNeg v1)) (fun st10 => lt (sI st10 21 ((st10.1 21) + (1 : Int32))) (fun st11 => gi (v2 + (3 : Int32)) 96 (lt (sA st11 22 (upd (st11.2.2.1 22) (v2 + (3 : Int32)).toNatClampNeg (st11.1 23))) (fun st12 => if v1 = (3 : Int32) then (fX12_readLaw_b135 v2 st12) else (bd (fX12_readExpression (0 : Int32) st12) (fun r13 st14 => fX12_readLaw_b135 v2 st14)))))))) else (gi (v2 + v3) 96 (lt (sA st 22 (upd (st.2.2.1 22) (v2 + v3).toNatClampNeg (0 : Int32))) (fun st15 => lt (v3 + (1 : Int32)) (fun x16 => k75 v1 v2 x16 st15))))
def fX12_readLaw_b54 (v1 : Int32) (w0 : Int32) (st : St) : Option (Unit × St) := bd (fX12_must w0 st) (fun r17 st18 => if (st18.1 19) = 0 then (lt ((8 : Int32) * (st18.1 21)) (fun x19 => lp (fun _ _ _ _ => none) (fX12_readLaw_b75) 6000 v1 x19 (0 : Int32) st18)) else (some ((), st18)))
def fX12_readLaw_b53 (v1 : Int32) (st : St) : Option (Unit × St) := fX12_readLaw_b54 v1 (0 : Int32) st
def fX12_readLaw_b27 (k4 : Int32 → Int32 → St → Option (Unit × St)) (v2 : Int32) (w0 : Int32) (st : St) : Option (Unit × St) := lt (v2 + (1 : Int32)) (fun x20 => k4 w0 x20 st)
def fX12_readLaw_b4 (k4 : Int32 → Int32 → St → Option (Unit × St)) (v1 : Int32) (v2 : Int32) (st : St) : Option (Unit × St) := if (4 : Int32) ≤ v2 then (if v1 = (-1 : Int32) then (fX12_readLaw_b53 v1 st) else (if (12 : Int32) ≤ (st.1 21) then (fX12_readLaw_b53 v1 st) else (fX12_readLaw_b54 v1 (1 : Int32) st))) else (gi v2 4 (bd (fX12_isWord (st.2.2.2.1 33 v2.toNatClampNeg) st) (fun r21 st22 => if r21 = 0 then (fX12_readLaw_b27 k4 v2 v1 st22) else (fX12_readLaw_b27 k4 v2 v2 st22))))
def fX12_readLaw (st : St) : Option (Unit × St) := lp (fun _ _ _ => none) (fX12_readLaw_b4) 6000 (-1 : Int32) (0 : Int32) st
set_option maxHeartbeats 4000000 in
set_option maxRecDepth 100000 in
theorem tX12_readLaw (l : Launch) (D : va_G) (cy : Nat → ClassId) (ad : Nat → Nat) (hJ : (mads ad).Nodup) (sz : Nat) (st : St) (rr : Unit) (st' : St) (hf : fX12_readLaw  st = some (rr, st')) : Met l yX12_readLaw (Cond.code yX12_readLaw cX12_readLaw 4 none :: TT) (rmD 7) (mPc D cy ad [] st sz) (mQv D cy ad rr st' sz) 0 0 (mA ad sz) := by
  refine m_metv (by decide) hJ (Nat.le_of_ble_eq_true rfl) (fun p e s m args below meth c ls E hx hb hr hlocks hown hT hD hl hP hS => ?_)
  replace hl : lv_has ls 4 [(0, .ref (ad 100))] := hl
  unfold fX12_readLaw at hf
  have B185 : ∀ (v2 : Int32) (st : St) (H : Heap) (locs : List Loc) (ls : Array Slot), fX12_readLaw_b185 v2 st = some (rr, st') → lv_has ls 4 [(0, .ref (ad 100)), (2, .int v2)] → va_P D classes (mw cy ad st) H → va_S (mA ad s.heap.size) s.heap H locs → mGv l 7 D cy ad rr st' p e s m args below meth c H locs (F0 m 185 ls []) := by
    intro v2 st H locs ls hf hl hP hS
    unfold fX12_readLaw_b185 at hf
    refine lv_aload_n hx hb dX12_readLaw_185 rfl (lv_at hl 0 rfl) ?_
    refine mg_22 E hP dX12_readLaw_186 ?_
    refine lv_iload_n hx hb dX12_readLaw_189 rfl (lv_at hl 1 rfl) ?_
    refine lv_bipush (v := 6) hx hb dX12_readLaw_190 (by decide) ?_
    refine lv_iadd hx hb dX12_readLaw_192 ?_
    refine lv_aload_n hx hb dX12_readLaw_193 rfl (lv_at hl 0 rfl) ?_
    refine mg_23 E hP dX12_readLaw_194 ?_
    obtain ⟨hi, hf⟩ := gi_some hf
    refine ms_22 E hD hP hS hi dX12_readLaw_197 (fun st1 H locs ex hP hS => ?_)
    replace hf := lt_at ex hf; clear ex
    exact m_vret hx hb hr hlocks hf hP hS dX12_readLaw_198
  have B135 : ∀ (v2 : Int32) (st : St) (H : Heap) (locs : List Loc) (ls : Array Slot), fX12_readLaw_b135 v2 st = some (rr, st') → lv_has ls 4 [(0, .ref (ad 100)), (2, .int v2)] → va_P D classes (mw cy ad st) H → va_S (mA ad s.heap.size) s.heap H locs → mGv l 7 D cy ad rr st' p e s m args below meth c H locs (F0 m 135 ls []) := by
    intro v2 st H locs ls hf hl hP hS
    unfold fX12_readLaw_b135 at hf
    refine lv_aload_n hx hb dX12_readLaw_135 rfl (lv_at hl 0 rfl) ?_
    refine mg_22 E hP dX12_readLaw_136 ?_
    refine lv_iload_n hx hb dX12_readLaw_139 rfl (lv_at hl 1 rfl) ?_
    refine lv_iconst (v := 4) hx hb dX12_readLaw_140 (by decide) ?_
    refine lv_iadd hx hb dX12_readLaw_141 ?_
    refine lv_aload_n hx hb dX12_readLaw_142 rfl (lv_at hl 0 rfl) ?_
    refine mg_23 E hP dX12_readLaw_143 ?_
    obtain ⟨hi, hf⟩ := gi_some hf
    refine ms_22 E hD hP hS hi dX12_readLaw_146 (fun st2 H locs ex hP hS => ?_)
    replace hf := lt_at ex hf; clear ex
    refine lv_aload_n hx hb dX12_readLaw_147 rfl (lv_at hl 0 rfl) ?_
    refine mg_22 E hP dX12_readLaw_148 ?_
    refine lv_iload_n hx hb dX12_readLaw_151 rfl (lv_at hl 1 rfl) ?_
    refine lv_iconst (v := 5) hx hb dX12_readLaw_152 (by decide) ?_
    refine lv_iadd hx hb dX12_readLaw_153 ?_
    refine lv_aload_n hx hb dX12_readLaw_154 rfl (lv_at hl 0 rfl) ?_
    refine mg_23 E hP dX12_readLaw_155 ?_
    obtain ⟨hi, hf⟩ := gi_some hf
    refine ms_22 E hD hP hS hi dX12_readLaw_158 (fun st3 H locs ex hP hS => ?_)
    replace hf := lt_at ex hf; clear ex
    refine lv_aload_n hx hb dX12_readLaw_159 rfl (lv_at hl 0 rfl) ?_
    refine mg_19 E hP dX12_readLaw_160 ?_
    refine lv_if_ne (tgt := 185) hx hb dX12_readLaw_163 (by decide) (fun hc => ?_) (fun hc => ?_)
    · replace hf := it_neg hc hf
      exact B185 v2 st3 _ _ ls hf hl hP hS
    · replace hf := it_pos hc hf
      refine lv_aload_n hx hb dX12_readLaw_166 rfl (lv_at hl 0 rfl) ?_
      refine lv_ldc2 (v := 294) hx hb hown (hT _ k_1553) dX12_readLaw_167 ?_
      obtain ⟨r4, st5, hc, hf⟩ := bd_some hf
      refine m_calli (n := 1) (rest := []) E hP hS (fun sz => tX12_isWord l D cy ad hJ sz (294 : Int64) st3 r4 st5 hc) (gV k_1471 k_1473 ks_49 k_14 k_1474) qX12_isWord ⟨Nat.le_of_ble_eq_true rfl, Nat.le_of_ble_eq_true rfl⟩ ⟨Nat.le_refl _, Nat.le_refl _⟩ rfl hl.1 rfl (Nat.le_of_ble_eq_true rfl) dX12_readLaw_170 (fun H locs hP hS => ?_)
      refine lv_if_eq (tgt := 185) hx hb dX12_readLaw_173 (by decide) (fun hc => ?_) (fun hc => ?_)
      · replace hf := it_pos hc hf
        exact B185 v2 st5 _ _ ls hf hl hP hS
      · replace hf := it_neg hc hf
        refine lv_aload_n hx hb dX12_readLaw_176 rfl (lv_at hl 0 rfl) ?_
        obtain ⟨r6, st7, hc, hf⟩ := bd_some hf
        refine m_callv (n := 0) (rest := []) E hP hS (fun sz => tX12_nextToken l D cy ad hJ sz st5 r6 st7 hc) (gV k_1453 k_1455 ks_47 k_14 k_1456) qX12_nextToken ⟨Nat.le_of_ble_eq_true rfl, Nat.le_of_ble_eq_true rfl⟩ ⟨Nat.le_refl _, Nat.le_refl _⟩ rfl hl.1 rfl (Nat.le_of_ble_eq_true rfl) dX12_readLaw_177 (fun H locs hP hS => ?_)
        refine lv_aload_n hx hb dX12_readLaw_180 rfl (lv_at hl 0 rfl) ?_
        refine lv_iconst (v := 1) hx hb dX12_readLaw_181 (by decide) ?_
        obtain ⟨r8, st9, hc, hf⟩ := bd_some hf
        refine m_callv (n := 1) (rest := []) E hP hS (fun sz => tX12_readExpression l D cy ad hJ sz (1 : Int32) st7 r8 st9 hc) (gV k_1479 k_1481 ks_51 k_14 k_1482) qX12_readExpression ⟨Nat.le_of_ble_eq_true rfl, Nat.le_of_ble_eq_true rfl⟩ ⟨Nat.le_refl _, Nat.le_refl _⟩ rfl hl.1 rfl (Nat.le_of_ble_eq_true rfl) dX12_readLaw_182 (fun H locs hP hS => ?_)
        exact B185 v2 st9 _ _ ls hf hl hP hS
  have L75 : ∀ (n : Nat) (v1 : Int32) (v2 : Int32) (v3 : Int32) (st : St) (H : Heap) (locs : List Loc) (ls : Array Slot), lp (fun _ _ _ _ => none) (fX12_readLaw_b75) n v1 v2 v3 st = some (rr, st') → lv_has ls 4 [(0, .ref (ad 100)), (1, .int v1), (2, .int v2), (3, .int v3)] → va_P D classes (mw cy ad st) H → va_S (mA ad s.heap.size) s.heap H locs → mGv l 7 D cy ad rr st' p e s m args below meth c H locs (F0 m 75 ls []) := by
    intro n
    induction n with
    | zero => intro v1 v2 v3 st H locs ls hf; exact absurd hf (fun h => by cases h)
    | succ n K75 =>
      intro v1 v2 v3 st H locs ls hf hl hP hS
      replace hf : fX12_readLaw_b75 (lp (fun _ _ _ _ => none) (fX12_readLaw_b75) n) v1 v2 v3 st = some (rr, st') := hf
      generalize lp (fun _ _ _ _ => none) (fX12_readLaw_b75) n = k75 at hf K75
      unfold fX12_readLaw_b75 at hf
      refine lv_iload_n hx hb dX12_readLaw_75 rfl (lv_at hl 3 rfl) ?_
      refine lv_bipush (v := 8) hx hb dX12_readLaw_76 (by decide) ?_
      refine lv_icmp_ge (tgt := 96) hx hb dX12_readLaw_78 (by decide) (fun hc => ?_) (fun hc => ?_)
      · replace hf := it_pos hc hf
        refine lv_aload_n hx hb dX12_readLaw_96 rfl (lv_at hl 0 rfl) ?_
        refine mg_22 E hP dX12_readLaw_97 ?_
        refine lv_iload_n hx hb dX12_readLaw_100 rfl (lv_at hl 2 rfl) ?_
        refine lv_iload_n hx hb dX12_readLaw_101 rfl (lv_at hl 1 rfl) ?_
        obtain ⟨hi, hf⟩ := gi_some hf
        refine ms_22 E hD hP hS hi dX12_readLaw_102 (fun st10 H locs ex hP hS => ?_)
        replace hf := lt_at ex hf; clear ex
        refine lv_aload_n hx hb dX12_readLaw_103 rfl (lv_at hl 0 rfl) ?_
        refine lv_dup hx hb dX12_readLaw_104 rfl ?_
        refine mg_21 E hP dX12_readLaw_105 ?_
        refine lv_iconst (v := 1) hx hb dX12_readLaw_108 (by decide) ?_
        refine lv_iadd hx hb dX12_readLaw_109 ?_
        refine mp_21 E hD hP hS dX12_readLaw_110 (fun st11 H locs ex hP hS => ?_)
        replace hf := lt_at ex hf; clear ex
        refine lv_aload_n hx hb dX12_readLaw_113 rfl (lv_at hl 0 rfl) ?_
        refine mg_22 E hP dX12_readLaw_114 ?_
        refine lv_iload_n hx hb dX12_readLaw_117 rfl (lv_at hl 2 rfl) ?_
        refine lv_iconst (v := 3) hx hb dX12_readLaw_118 (by decide) ?_
        refine lv_iadd hx hb dX12_readLaw_119 ?_
        refine lv_aload_n hx hb dX12_readLaw_120 rfl (lv_at hl 0 rfl) ?_
        refine mg_23 E hP dX12_readLaw_121 ?_
        obtain ⟨hi, hf⟩ := gi_some hf
        refine ms_22 E hD hP hS hi dX12_readLaw_124 (fun st12 H locs ex hP hS => ?_)
        replace hf := lt_at ex hf; clear ex
        refine lv_iload_n hx hb dX12_readLaw_125 rfl (lv_at hl 1 rfl) ?_
        refine lv_iconst (v := 3) hx hb dX12_readLaw_126 (by decide) ?_
        refine lv_icmp_eq (tgt := 135) hx hb dX12_readLaw_127 (by decide) (fun hc => ?_) (fun hc => ?_)
        · replace hf := it_pos hc hf
          exact B135 v2 st12 _ _ ls hf (lv_sub hl [0, 2] rfl) hP hS
        · replace hf := it_neg hc hf
          refine lv_aload_n hx hb dX12_readLaw_130 rfl (lv_at hl 0 rfl) ?_
          refine lv_iconst (v := 0) hx hb dX12_readLaw_131 (by decide) ?_
          obtain ⟨r13, st14, hc, hf⟩ := bd_some hf
          refine m_callv (n := 1) (rest := []) E hP hS (fun sz => tX12_readExpression l D cy ad hJ sz (0 : Int32) st12 r13 st14 hc) (gV k_1479 k_1481 ks_51 k_14 k_1482) qX12_readExpression ⟨Nat.le_of_ble_eq_true rfl, Nat.le_of_ble_eq_true rfl⟩ ⟨Nat.le_refl _, Nat.le_refl _⟩ rfl hl.1 rfl (Nat.le_of_ble_eq_true rfl) dX12_readLaw_132 (fun H locs hP hS => ?_)
          exact B135 v2 st14 _ _ ls hf (lv_sub hl [0, 2] rfl) hP hS
      · replace hf := it_neg hc hf
        refine lv_aload_n hx hb dX12_readLaw_81 rfl (lv_at hl 0 rfl) ?_
        refine mg_22 E hP dX12_readLaw_82 ?_
        refine lv_iload_n hx hb dX12_readLaw_85 rfl (lv_at hl 2 rfl) ?_
        refine lv_iload_n hx hb dX12_readLaw_86 rfl (lv_at hl 3 rfl) ?_
        refine lv_iadd hx hb dX12_readLaw_87 ?_
        refine lv_iconst (v := 0) hx hb dX12_readLaw_88 (by decide) ?_
        obtain ⟨hi, hf⟩ := gi_some hf
        refine ms_22 E hD hP hS hi dX12_readLaw_89 (fun st15 H locs ex hP hS => ?_)
        replace hf := lt_at ex hf; clear ex
        obtain ⟨x16, ex⟩ : ∃ y : Int32, y = v3 + (1 : Int32) := ⟨_, rfl⟩
        replace hf := lt_at ex hf
        refine lv_iinc (v := x16) (lv' := [(3, .int x16), (0, .ref (ad 100)), (1, .int v1), (2, .int v2)]) hx hb dX12_readLaw_90 hl (k := 3) rfl (by rw [ex]; rfl) (by decide) rfl (fun ls hl => ?_)
        clear ex
        refine lv_goto (tgt := 75) hx hb dX12_readLaw_93 (by decide) ?_
        exact K75 v1 v2 x16 st15 _ _ ls hf (lv_sub hl [1, 2, 3, 0] rfl) hP hS
  have B54 : ∀ (v1 : Int32) (w0 : Int32) (st : St) (H : Heap) (locs : List Loc) (ls : Array Slot), fX12_readLaw_b54 v1 w0 st = some (rr, st') → lv_has ls 4 [(0, .ref (ad 100)), (1, .int v1)] → va_P D classes (mw cy ad st) H → va_S (mA ad s.heap.size) s.heap H locs → mGv l 7 D cy ad rr st' p e s m args below meth c H locs (F0 m 54 ls [.int w0, .ref (ad 100)]) := by
    intro v1 w0 st H locs ls hf hl hP hS
    unfold fX12_readLaw_b54 at hf
    obtain ⟨r17, st18, hc, hf⟩ := bd_some hf
    refine m_callv (n := 1) (rest := []) E hP hS (fun sz => tX12_must l D cy ad hJ sz w0 st r17 st18 hc) (gV k_1475 k_1477 ks_50 k_14 k_1478) qX12_must ⟨Nat.le_of_ble_eq_true rfl, Nat.le_of_ble_eq_true rfl⟩ ⟨Nat.le_refl _, Nat.le_refl _⟩ rfl hl.1 rfl (Nat.le_of_ble_eq_true rfl) dX12_readLaw_54 (fun H locs hP hS => ?_)
    refine lv_aload_n hx hb dX12_readLaw_57 rfl (lv_at hl 0 rfl) ?_
    refine mg_19 E hP dX12_readLaw_58 ?_
    refine lv_if_eq (tgt := 65) hx hb dX12_readLaw_61 (by decide) (fun hc => ?_) (fun hc => ?_)
    · replace hf := it_pos hc hf
      refine lv_bipush (v := 8) hx hb dX12_readLaw_65 (by decide) ?_
      refine lv_aload_n hx hb dX12_readLaw_67 rfl (lv_at hl 0 rfl) ?_
      refine mg_21 E hP dX12_readLaw_68 ?_
      refine lv_imul hx hb dX12_readLaw_71 ?_
      refine lv_topi (fun x19 ex => ?_)
      replace hf := lt_at ex hf; clear ex
      refine lv_istore_n (lv' := [(2, .int x19), (0, .ref (ad 100)), (1, .int v1)]) hx hb dX12_readLaw_72 rfl hl (by decide) rfl (fun ls hl => ?_)
      refine lv_iconst (v := 0) hx hb dX12_readLaw_73 (by decide) ?_
      refine lv_istore_n (lv' := [(3, .int (0 : Int32)), (2, .int x19), (0, .ref (ad 100)), (1, .int v1)]) hx hb dX12_readLaw_74 rfl hl (by decide) rfl (fun ls hl => ?_)
      exact L75 6000 v1 x19 (0 : Int32) st18 _ _ ls hf (lv_sub hl [2, 3, 1, 0] rfl) hP hS
    · replace hf := it_neg hc hf
      exact m_vret hx hb hr hlocks hf hP hS dX12_readLaw_64
  have B53 : ∀ (v1 : Int32) (st : St) (H : Heap) (locs : List Loc) (ls : Array Slot), fX12_readLaw_b53 v1 st = some (rr, st') → lv_has ls 4 [(0, .ref (ad 100)), (1, .int v1)] → va_P D classes (mw cy ad st) H → va_S (mA ad s.heap.size) s.heap H locs → mGv l 7 D cy ad rr st' p e s m args below meth c H locs (F0 m 53 ls [.ref (ad 100)]) := by
    intro v1 st H locs ls hf hl hP hS
    unfold fX12_readLaw_b53 at hf
    refine lv_iconst (v := 0) hx hb dX12_readLaw_53 (by decide) ?_
    exact B54 v1 (0 : Int32) st _ _ ls hf hl hP hS
  have L4 : ∀ (n : Nat) (v1 : Int32) (v2 : Int32) (st : St) (H : Heap) (locs : List Loc) (ls : Array Slot), lp (fun _ _ _ => none) (fX12_readLaw_b4) n v1 v2 st = some (rr, st') → lv_has ls 4 [(0, .ref (ad 100)), (1, .int v1), (2, .int v2)] → va_P D classes (mw cy ad st) H → va_S (mA ad s.heap.size) s.heap H locs → mGv l 7 D cy ad rr st' p e s m args below meth c H locs (F0 m 4 ls []) := by
    intro n
    induction n with
    | zero => intro v1 v2 st H locs ls hf; exact absurd hf (fun h => by cases h)
    | succ n K4 =>
      intro v1 v2 st H locs ls hf hl hP hS
      replace hf : fX12_readLaw_b4 (lp (fun _ _ _ => none) (fX12_readLaw_b4) n) v1 v2 st = some (rr, st') := hf
      generalize lp (fun _ _ _ => none) (fX12_readLaw_b4) n = k4 at hf K4
      have B27 : ∀ (v2 : Int32) (w0 : Int32) (st : St) (H : Heap) (locs : List Loc) (ls : Array Slot), fX12_readLaw_b27 k4 v2 w0 st = some (rr, st') → lv_has ls 4 [(0, .ref (ad 100)), (2, .int v2)] → va_P D classes (mw cy ad st) H → va_S (mA ad s.heap.size) s.heap H locs → mGv l 7 D cy ad rr st' p e s m args below meth c H locs (F0 m 27 ls [.int w0]) := by
        intro v2 w0 st H locs ls hf hl hP hS
        unfold fX12_readLaw_b27 at hf
        refine lv_istore_n (lv' := [(1, .int w0), (0, .ref (ad 100)), (2, .int v2)]) hx hb dX12_readLaw_27 rfl hl (by decide) rfl (fun ls hl => ?_)
        obtain ⟨x20, ex⟩ : ∃ y : Int32, y = v2 + (1 : Int32) := ⟨_, rfl⟩
        replace hf := lt_at ex hf
        refine lv_iinc (v := x20) (lv' := [(2, .int x20), (1, .int w0), (0, .ref (ad 100))]) hx hb dX12_readLaw_28 hl (k := 2) rfl (by rw [ex]; rfl) (by decide) rfl (fun ls hl => ?_)
        clear ex
        refine lv_goto (tgt := 4) hx hb dX12_readLaw_31 (by decide) ?_
        exact K4 w0 x20 st _ _ ls hf (lv_sub hl [2, 1, 0] rfl) hP hS
      unfold fX12_readLaw_b4 at hf
      refine lv_iload_n hx hb dX12_readLaw_4 rfl (lv_at hl 2 rfl) ?_
      refine lv_iconst (v := 4) hx hb dX12_readLaw_5 (by decide) ?_
      refine lv_icmp_ge (tgt := 34) hx hb dX12_readLaw_6 (by decide) (fun hc => ?_) (fun hc => ?_)
      · replace hf := it_pos hc hf
        refine lv_aload_n hx hb dX12_readLaw_34 rfl (lv_at hl 0 rfl) ?_
        refine lv_iload_n hx hb dX12_readLaw_35 rfl (lv_at hl 1 rfl) ?_
        refine lv_iconst (v := -1) hx hb dX12_readLaw_36 (by decide) ?_
        refine lv_icmp_eq (tgt := 53) hx hb dX12_readLaw_37 (by decide) (fun hc => ?_) (fun hc => ?_)
        · replace hf := it_pos hc hf
          exact B53 v1 st _ _ ls hf (lv_sub hl [0, 1] rfl) hP hS
        · replace hf := it_neg hc hf
          refine lv_aload_n hx hb dX12_readLaw_40 rfl (lv_at hl 0 rfl) ?_
          refine mg_21 E hP dX12_readLaw_41 ?_
          refine lv_bipush (v := 12) hx hb dX12_readLaw_44 (by decide) ?_
          refine lv_icmp_ge (tgt := 53) hx hb dX12_readLaw_46 (by decide) (fun hc => ?_) (fun hc => ?_)
          · replace hf := it_pos hc hf
            exact B53 v1 st _ _ ls hf (lv_sub hl [0, 1] rfl) hP hS
          · replace hf := it_neg hc hf
            refine lv_iconst (v := 1) hx hb dX12_readLaw_49 (by decide) ?_
            refine lv_goto (tgt := 54) hx hb dX12_readLaw_50 (by decide) ?_
            exact B54 v1 (1 : Int32) st _ _ ls hf (lv_sub hl [0, 1] rfl) hP hS
      · replace hf := it_neg hc hf
        refine lv_aload_n hx hb dX12_readLaw_9 rfl (lv_at hl 0 rfl) ?_
        refine lv_aload_n hx hb dX12_readLaw_10 rfl (lv_at hl 0 rfl) ?_
        refine mg_33 E hP dX12_readLaw_11 ?_
        refine lv_iload_n hx hb dX12_readLaw_14 rfl (lv_at hl 2 rfl) ?_
        obtain ⟨hi, hf⟩ := gi_some hf
        refine ml_33 E hP hi dX12_readLaw_15 ?_
        obtain ⟨r21, st22, hc, hf⟩ := bd_some hf
        refine m_calli (n := 1) (rest := []) E hP hS (fun sz => tX12_isWord l D cy ad hJ sz (st.2.2.2.1 33 v2.toNatClampNeg) st r21 st22 hc) (gV k_1471 k_1473 ks_49 k_14 k_1474) qX12_isWord ⟨Nat.le_of_ble_eq_true rfl, Nat.le_of_ble_eq_true rfl⟩ ⟨Nat.le_refl _, Nat.le_refl _⟩ rfl hl.1 rfl (Nat.le_of_ble_eq_true rfl) dX12_readLaw_16 (fun H locs hP hS => ?_)
        refine lv_if_eq (tgt := 26) hx hb dX12_readLaw_19 (by decide) (fun hc => ?_) (fun hc => ?_)
        · replace hf := it_pos hc hf
          refine lv_iload_n hx hb dX12_readLaw_26 rfl (lv_at hl 1 rfl) ?_
          exact B27 v2 v1 st22 _ _ ls hf (lv_sub hl [0, 2] rfl) hP hS
        · replace hf := it_neg hc hf
          refine lv_iload_n hx hb dX12_readLaw_22 rfl (lv_at hl 2 rfl) ?_
          refine lv_goto (tgt := 27) hx hb dX12_readLaw_23 (by decide) ?_
          exact B27 v2 v2 st22 _ _ ls hf (lv_sub hl [0, 2] rfl) hP hS
  refine lv_iconst (v := -1) hx hb dX12_readLaw_0 (by decide) ?_
  refine lv_istore_n (lv' := [(1, .int (-1 : Int32)), (0, .ref (ad 100))]) hx hb dX12_readLaw_1 rfl hl (by decide) rfl (fun ls hl => ?_)
  refine lv_iconst (v := 0) hx hb dX12_readLaw_2 (by decide) ?_
  refine lv_istore_n (lv' := [(2, .int (0 : Int32)), (1, .int (-1 : Int32)), (0, .ref (ad 100))]) hx hb dX12_readLaw_3 rfl hl (by decide) rfl (fun ls hl => ?_)
  exact L4 6000 (-1 : Int32) (0 : Int32) st _ _ ls hf (lv_sub hl [2, 1, 0] rfl) hP hS
theorem qX12_readLaw : yX12_readLaw.cls = RX12 ∧ yX12_readLaw.cls ≠ "java/lang/invoke/MethodHandle" ∧ yX12_readLaw.cls ≠ "java/lang/invoke/VarHandle" ∧ (parseMethodDescriptor yX12_readLaw.desc).map (fun d => d.parameters.length) = some 0 := by decide +kernel
def fX12_law_b146 (k146 : Int32 → Int32 → St → Option (Int32 × St)) (v1 : Int32) (v2 : Int32) (st : St) : Option (Int32 × St) := if (st.1 23) ≤ v2 then (lt (sA st 3 (upd (st.2.2.1 3) (4 : Int32).toNatClampNeg ((st.2.2.1 3 (4 : Int32).toNatClampNeg) + (1 : Int32)))) (fun st1 => bd (fX12_tell ((st1.2.2.1 3 (4 : Int32).toNatClampNeg) - (1 : Int32)) st1) (fun r2 st3 => some (r2, st3)))) else (gi v2 400 (gi ((v1 + (98 : Int32)) + ((2 : Int32) * v2)) 5550 (lt (sA st 3 (upd (st.2.2.1 3) ((v1 + (98 : Int32)) + ((2 : Int32) * v2)).toNatClampNeg (st.2.2.1 24 v2.toNatClampNeg))) (fun st4 => gi v2 400 (gi (((v1 + (98 : Int32)) + ((2 : Int32) * v2)) + (1 : Int32)) 5550 (lt (sA st4 3 (upd (st4.2.2.1 3) (((v1 + (98 : Int32)) + ((2 : Int32) * v2)) + (1 : Int32)).toNatClampNeg (st4.2.2.1 25 v2.toNatClampNeg))) (fun st5 => lt (v2 + (1 : Int32)) (fun x6 => k146 v1 x6 st5))))))))
def fX12_law_b111 (k111 : Int32 → Int32 → St → Option (Int32 × St)) (v1 : Int32) (v2 : Int32) (st : St) : Option (Int32 × St) := if ((8 : Int32) * (st.1 21)) ≤ v2 then (lp (fun _ _ _ => none) (fX12_law_b146) 6000 v1 (0 : Int32) st) else (gi v2 96 (gi ((v1 + (2 : Int32)) + v2) 5550 (lt (sA st 3 (upd (st.2.2.1 3) ((v1 + (2 : Int32)) + v2).toNatClampNeg (st.2.2.1 22 v2.toNatClampNeg))) (fun st7 => lt (v2 + (1 : Int32)) (fun x8 => k111 v1 x8 st7)))))
def fX12_law_b64 (st : St) : Option (Int32 × St) := bd (fX12_endText st) (fun r9 st10 => if (st10.1 19) = 0 then (lt ((150 : Int32) + ((900 : Int32) * (st10.2.2.1 3 (4 : Int32).toNatClampNeg))) (fun x11 => gi (x11 + (1 : Int32)) 5550 (lt (sA st10 3 (upd (st10.2.2.1 3) (x11 + (1 : Int32)).toNatClampNeg (st10.1 21))) (fun st12 => lp (fun _ _ _ => none) (fX12_law_b111) 6000 x11 (0 : Int32) st12)))) else (bd (fX12_tell (-6 : Int32) st10) (fun r13 st14 => some (r13, st14))))
def fX12_law_b37 (k37 : St → Option (Int32 × St)) (st : St) : Option (Int32 × St) := if (st.1 19) = 0 then (bd (fX12_isSign (59 : Int32) st) (fun r15 st16 => if r15 = 0 then (fX12_law_b64 st16) else (bd (fX12_nextToken st16) (fun r17 st18 => bd (fX12_readLaw st18) (fun r19 st20 => k37 st20))))) else (fX12_law_b64 st)
def fX12_law (st : St) : Option (Int32 × St) := lt (sI st 0 (0 : Int32)) (fun st21 => if (st21.2.2.1 3 (4 : Int32).toNatClampNeg) = (6 : Int32) then (lt (sI st21 13 (0 : Int32)) (fun st26 => bd (fX12_tell (-5 : Int32) st26) (fun r27 st28 => some (r27, st28)))) else (bd (fX12_beginText (0 : Int32) st21) (fun r22 st23 => bd (fX12_readLaw st23) (fun r24 st25 => lp (fun _ => none) (fX12_law_b37) 6000 st25))))
set_option maxHeartbeats 4000000 in
set_option maxRecDepth 100000 in
theorem tX12_law (l : Launch) (D : va_G) (cy : Nat → ClassId) (ad : Nat → Nat) (hJ : (mads ad).Nodup) (sz : Nat) (st : St) (rr : Int32) (st' : St) (hf : fX12_law  st = some (rr, st')) : Met l yX12_law (Cond.code yX12_law cX12_law 3 (some .int) :: TT) (rmD 8) (mPc D cy ad [] st sz) (mQi D cy ad rr st' sz) 0 0 (mA ad sz) := by
  refine m_meti (by decide) hJ (Nat.le_of_ble_eq_true rfl) (fun p e s m args below meth c ls E hx hb hr hlocks hown hT hD hl hP hS => ?_)
  replace hl : lv_has ls 3 [(0, .ref (ad 100))] := hl
  unfold fX12_law at hf
  have L146 : ∀ (n : Nat) (v1 : Int32) (v2 : Int32) (st : St) (H : Heap) (locs : List Loc) (ls : Array Slot), lp (fun _ _ _ => none) (fX12_law_b146) n v1 v2 st = some (rr, st') → lv_has ls 3 [(0, .ref (ad 100)), (1, .int v1), (2, .int v2)] → va_P D classes (mw cy ad st) H → va_S (mA ad s.heap.size) s.heap H locs → mGi l 8 D cy ad rr st' p e s m args below meth c H locs (F0 m 146 ls []) := by
    intro n
    induction n with
    | zero => intro v1 v2 st H locs ls hf; exact absurd hf (fun h => by cases h)
    | succ n K146 =>
      intro v1 v2 st H locs ls hf hl hP hS
      replace hf : fX12_law_b146 (lp (fun _ _ _ => none) (fX12_law_b146) n) v1 v2 st = some (rr, st') := hf
      generalize lp (fun _ _ _ => none) (fX12_law_b146) n = k146 at hf K146
      unfold fX12_law_b146 at hf
      refine lv_iload_n hx hb dX12_law_146 rfl (lv_at hl 2 rfl) ?_
      refine lv_aload_n hx hb dX12_law_147 rfl (lv_at hl 0 rfl) ?_
      refine mg_23 E hP dX12_law_148 ?_
      refine lv_icmp_ge (tgt := 200) hx hb dX12_law_151 (by decide) (fun hc => ?_) (fun hc => ?_)
      · replace hf := it_pos hc hf
        refine lv_aload_n hx hb dX12_law_200 rfl (lv_at hl 0 rfl) ?_
        refine mg_3 E hP dX12_law_201 ?_
        refine lv_iconst (v := 4) hx hb dX12_law_204 (by decide) ?_
        refine lv_dup2_11 hx hb dX12_law_205 rfl rfl ?_
        refine ml_3 E hP (vi rfl) dX12_law_206 ?_
        refine lv_iconst (v := 1) hx hb dX12_law_207 (by decide) ?_
        refine lv_iadd hx hb dX12_law_208 ?_
        refine ms_3 E hD hP hS (vi rfl) dX12_law_209 (fun st1 H locs ex hP hS => ?_)
        replace hf := lt_at ex hf; clear ex
        refine lv_aload_n hx hb dX12_law_210 rfl (lv_at hl 0 rfl) ?_
        refine lv_aload_n hx hb dX12_law_211 rfl (lv_at hl 0 rfl) ?_
        refine mg_3 E hP dX12_law_212 ?_
        refine lv_iconst (v := 4) hx hb dX12_law_215 (by decide) ?_
        refine ml_3 E hP (vi rfl) dX12_law_216 ?_
        refine lv_iconst (v := 1) hx hb dX12_law_217 (by decide) ?_
        refine lv_isub hx hb dX12_law_218 ?_
        obtain ⟨r2, st3, hc, hf⟩ := bd_some hf
        refine m_calli (n := 1) (rest := []) E hP hS (fun sz => tX12_tell l D cy ad hJ sz ((st1.2.2.1 3 (4 : Int32).toNatClampNeg) - (1 : Int32)) st1 r2 st3 hc) (gV k_1338 k_1340 ks_37 k_14 k_1341) qX12_tell ⟨Nat.le_of_ble_eq_true rfl, Nat.le_of_ble_eq_true rfl⟩ ⟨Nat.le_refl _, Nat.le_refl _⟩ rfl hl.1 rfl (Nat.le_of_ble_eq_true rfl) dX12_law_219 (fun H locs hP hS => ?_)
        exact m_iret hx hb hr hlocks hf hP hS dX12_law_222
      · replace hf := it_neg hc hf
        refine lv_aload_n hx hb dX12_law_154 rfl (lv_at hl 0 rfl) ?_
        refine mg_3 E hP dX12_law_155 ?_
        refine lv_iload_n hx hb dX12_law_158 rfl (lv_at hl 1 rfl) ?_
        refine lv_bipush (v := 98) hx hb dX12_law_159 (by decide) ?_
        refine lv_iadd hx hb dX12_law_161 ?_
        refine lv_iconst (v := 2) hx hb dX12_law_162 (by decide) ?_
        refine lv_iload_n hx hb dX12_law_163 rfl (lv_at hl 2 rfl) ?_
        refine lv_imul hx hb dX12_law_164 ?_
        refine lv_iadd hx hb dX12_law_165 ?_
        refine lv_aload_n hx hb dX12_law_166 rfl (lv_at hl 0 rfl) ?_
        refine mg_24 E hP dX12_law_167 ?_
        refine lv_iload_n hx hb dX12_law_170 rfl (lv_at hl 2 rfl) ?_
        obtain ⟨hi, hf⟩ := gi_some hf
        refine ml_24 E hP hi dX12_law_171 ?_
        obtain ⟨hi, hf⟩ := gi_some hf
        refine ms_3 E hD hP hS hi dX12_law_172 (fun st4 H locs ex hP hS => ?_)
        replace hf := lt_at ex hf; clear ex
        refine lv_aload_n hx hb dX12_law_173 rfl (lv_at hl 0 rfl) ?_
        refine mg_3 E hP dX12_law_174 ?_
        refine lv_iload_n hx hb dX12_law_177 rfl (lv_at hl 1 rfl) ?_
        refine lv_bipush (v := 98) hx hb dX12_law_178 (by decide) ?_
        refine lv_iadd hx hb dX12_law_180 ?_
        refine lv_iconst (v := 2) hx hb dX12_law_181 (by decide) ?_
        refine lv_iload_n hx hb dX12_law_182 rfl (lv_at hl 2 rfl) ?_
        refine lv_imul hx hb dX12_law_183 ?_
        refine lv_iadd hx hb dX12_law_184 ?_
        refine lv_iconst (v := 1) hx hb dX12_law_185 (by decide) ?_
        refine lv_iadd hx hb dX12_law_186 ?_
        refine lv_aload_n hx hb dX12_law_187 rfl (lv_at hl 0 rfl) ?_
        refine mg_25 E hP dX12_law_188 ?_
        refine lv_iload_n hx hb dX12_law_191 rfl (lv_at hl 2 rfl) ?_
        obtain ⟨hi, hf⟩ := gi_some hf
        refine ml_25 E hP hi dX12_law_192 ?_
        obtain ⟨hi, hf⟩ := gi_some hf
        refine ms_3 E hD hP hS hi dX12_law_193 (fun st5 H locs ex hP hS => ?_)
        replace hf := lt_at ex hf; clear ex
        obtain ⟨x6, ex⟩ : ∃ y : Int32, y = v2 + (1 : Int32) := ⟨_, rfl⟩
        replace hf := lt_at ex hf
        refine lv_iinc (v := x6) (lv' := [(2, .int x6), (0, .ref (ad 100)), (1, .int v1)]) hx hb dX12_law_194 hl (k := 2) rfl (by rw [ex]; rfl) (by decide) rfl (fun ls hl => ?_)
        clear ex
        refine lv_goto (tgt := 146) hx hb dX12_law_197 (by decide) ?_
        exact K146 v1 x6 st5 _ _ ls hf (lv_sub hl [1, 2, 0] rfl) hP hS
  have L111 : ∀ (n : Nat) (v1 : Int32) (v2 : Int32) (st : St) (H : Heap) (locs : List Loc) (ls : Array Slot), lp (fun _ _ _ => none) (fX12_law_b111) n v1 v2 st = some (rr, st') → lv_has ls 3 [(0, .ref (ad 100)), (1, .int v1), (2, .int v2)] → va_P D classes (mw cy ad st) H → va_S (mA ad s.heap.size) s.heap H locs → mGi l 8 D cy ad rr st' p e s m args below meth c H locs (F0 m 111 ls []) := by
    intro n
    induction n with
    | zero => intro v1 v2 st H locs ls hf; exact absurd hf (fun h => by cases h)
    | succ n K111 =>
      intro v1 v2 st H locs ls hf hl hP hS
      replace hf : fX12_law_b111 (lp (fun _ _ _ => none) (fX12_law_b111) n) v1 v2 st = some (rr, st') := hf
      generalize lp (fun _ _ _ => none) (fX12_law_b111) n = k111 at hf K111
      unfold fX12_law_b111 at hf
      refine lv_iload_n hx hb dX12_law_111 rfl (lv_at hl 2 rfl) ?_
      refine lv_bipush (v := 8) hx hb dX12_law_112 (by decide) ?_
      refine lv_aload_n hx hb dX12_law_114 rfl (lv_at hl 0 rfl) ?_
      refine mg_21 E hP dX12_law_115 ?_
      refine lv_imul hx hb dX12_law_118 ?_
      refine lv_icmp_ge (tgt := 144) hx hb dX12_law_119 (by decide) (fun hc => ?_) (fun hc => ?_)
      · replace hf := it_pos hc hf
        refine lv_iconst (v := 0) hx hb dX12_law_144 (by decide) ?_
        refine lv_istore_n (lv' := [(2, .int (0 : Int32)), (0, .ref (ad 100)), (1, .int v1)]) hx hb dX12_law_145 rfl hl (by decide) rfl (fun ls hl => ?_)
        exact L146 6000 v1 (0 : Int32) st _ _ ls hf (lv_sub hl [1, 2, 0] rfl) hP hS
      · replace hf := it_neg hc hf
        refine lv_aload_n hx hb dX12_law_122 rfl (lv_at hl 0 rfl) ?_
        refine mg_3 E hP dX12_law_123 ?_
        refine lv_iload_n hx hb dX12_law_126 rfl (lv_at hl 1 rfl) ?_
        refine lv_iconst (v := 2) hx hb dX12_law_127 (by decide) ?_
        refine lv_iadd hx hb dX12_law_128 ?_
        refine lv_iload_n hx hb dX12_law_129 rfl (lv_at hl 2 rfl) ?_
        refine lv_iadd hx hb dX12_law_130 ?_
        refine lv_aload_n hx hb dX12_law_131 rfl (lv_at hl 0 rfl) ?_
        refine mg_22 E hP dX12_law_132 ?_
        refine lv_iload_n hx hb dX12_law_135 rfl (lv_at hl 2 rfl) ?_
        obtain ⟨hi, hf⟩ := gi_some hf
        refine ml_22 E hP hi dX12_law_136 ?_
        obtain ⟨hi, hf⟩ := gi_some hf
        refine ms_3 E hD hP hS hi dX12_law_137 (fun st7 H locs ex hP hS => ?_)
        replace hf := lt_at ex hf; clear ex
        obtain ⟨x8, ex⟩ : ∃ y : Int32, y = v2 + (1 : Int32) := ⟨_, rfl⟩
        replace hf := lt_at ex hf
        refine lv_iinc (v := x8) (lv' := [(2, .int x8), (0, .ref (ad 100)), (1, .int v1)]) hx hb dX12_law_138 hl (k := 2) rfl (by rw [ex]; rfl) (by decide) rfl (fun ls hl => ?_)
        clear ex
        refine lv_goto (tgt := 111) hx hb dX12_law_141 (by decide) ?_
        exact K111 v1 x8 st7 _ _ ls hf (lv_sub hl [1, 2, 0] rfl) hP hS
  have B64 : ∀ (st : St) (H : Heap) (locs : List Loc) (ls : Array Slot), fX12_law_b64 st = some (rr, st') → lv_has ls 3 [(0, .ref (ad 100))] → va_P D classes (mw cy ad st) H → va_S (mA ad s.heap.size) s.heap H locs → mGi l 8 D cy ad rr st' p e s m args below meth c H locs (F0 m 64 ls []) := by
    intro st H locs ls hf hl hP hS
    unfold fX12_law_b64 at hf
    refine lv_aload_n hx hb dX12_law_64 rfl (lv_at hl 0 rfl) ?_
    obtain ⟨r9, st10, hc, hf⟩ := bd_some hf
    refine m_callv (n := 0) (rest := []) E hP hS (fun sz => tX12_endText l D cy ad hJ sz st r9 st10 hc) (gV k_1554 k_1556 ks_67 k_14 k_1557) qX12_endText ⟨Nat.le_of_ble_eq_true rfl, Nat.le_of_ble_eq_true rfl⟩ ⟨Nat.le_refl _, Nat.le_refl _⟩ rfl hl.1 rfl (Nat.le_of_ble_eq_true rfl) dX12_law_65 (fun H locs hP hS => ?_)
    refine lv_aload_n hx hb dX12_law_68 rfl (lv_at hl 0 rfl) ?_
    refine mg_19 E hP dX12_law_69 ?_
    refine lv_if_eq (tgt := 82) hx hb dX12_law_72 (by decide) (fun hc => ?_) (fun hc => ?_)
    · replace hf := it_pos hc hf
      refine lv_sipush (v := 150) hx hb dX12_law_82 (by decide) ?_
      refine lv_sipush (v := 900) hx hb dX12_law_85 (by decide) ?_
      refine lv_aload_n hx hb dX12_law_88 rfl (lv_at hl 0 rfl) ?_
      refine mg_3 E hP dX12_law_89 ?_
      refine lv_iconst (v := 4) hx hb dX12_law_92 (by decide) ?_
      refine ml_3 E hP (vi rfl) dX12_law_93 ?_
      refine lv_imul hx hb dX12_law_94 ?_
      refine lv_iadd hx hb dX12_law_95 ?_
      refine lv_topi (fun x11 ex => ?_)
      replace hf := lt_at ex hf; clear ex
      refine lv_istore_n (lv' := [(1, .int x11), (0, .ref (ad 100))]) hx hb dX12_law_96 rfl hl (by decide) rfl (fun ls hl => ?_)
      refine lv_aload_n hx hb dX12_law_97 rfl (lv_at hl 1 rfl) ?_
      refine mg_3 E hP dX12_law_98 ?_
      refine lv_iload_n hx hb dX12_law_101 rfl (lv_at hl 0 rfl) ?_
      refine lv_iconst (v := 1) hx hb dX12_law_102 (by decide) ?_
      refine lv_iadd hx hb dX12_law_103 ?_
      refine lv_aload_n hx hb dX12_law_104 rfl (lv_at hl 1 rfl) ?_
      refine mg_21 E hP dX12_law_105 ?_
      obtain ⟨hi, hf⟩ := gi_some hf
      refine ms_3 E hD hP hS hi dX12_law_108 (fun st12 H locs ex hP hS => ?_)
      replace hf := lt_at ex hf; clear ex
      refine lv_iconst (v := 0) hx hb dX12_law_109 (by decide) ?_
      refine lv_istore_n (lv' := [(2, .int (0 : Int32)), (1, .int x11), (0, .ref (ad 100))]) hx hb dX12_law_110 rfl hl (by decide) rfl (fun ls hl => ?_)
      exact L111 6000 x11 (0 : Int32) st12 _ _ ls hf (lv_sub hl [2, 1, 0] rfl) hP hS
    · replace hf := it_neg hc hf
      refine lv_aload_n hx hb dX12_law_75 rfl (lv_at hl 0 rfl) ?_
      refine lv_bipush (v := -6) hx hb dX12_law_76 (by decide) ?_
      obtain ⟨r13, st14, hc, hf⟩ := bd_some hf
      refine m_calli (n := 1) (rest := []) E hP hS (fun sz => tX12_tell l D cy ad hJ sz (-6 : Int32) st10 r13 st14 hc) (gV k_1338 k_1340 ks_37 k_14 k_1341) qX12_tell ⟨Nat.le_of_ble_eq_true rfl, Nat.le_of_ble_eq_true rfl⟩ ⟨Nat.le_refl _, Nat.le_refl _⟩ rfl hl.1 rfl (Nat.le_of_ble_eq_true rfl) dX12_law_78 (fun H locs hP hS => ?_)
      exact m_iret hx hb hr hlocks hf hP hS dX12_law_81
  have L37 : ∀ (n : Nat) (st : St) (H : Heap) (locs : List Loc) (ls : Array Slot), lp (fun _ => none) (fX12_law_b37) n st = some (rr, st') → lv_has ls 3 [(0, .ref (ad 100))] → va_P D classes (mw cy ad st) H → va_S (mA ad s.heap.size) s.heap H locs → mGi l 8 D cy ad rr st' p e s m args below meth c H locs (F0 m 37 ls []) := by
    intro n
    induction n with
    | zero => intro st H locs ls hf; exact absurd hf (fun h => by cases h)
    | succ n K37 =>
      intro st H locs ls hf hl hP hS
      replace hf : fX12_law_b37 (lp (fun _ => none) (fX12_law_b37) n) st = some (rr, st') := hf
      generalize lp (fun _ => none) (fX12_law_b37) n = k37 at hf K37
      unfold fX12_law_b37 at hf
      refine lv_aload_n hx hb dX12_law_37 rfl (lv_at hl 0 rfl) ?_
      refine mg_19 E hP dX12_law_38 ?_
      refine lv_if_ne (tgt := 64) hx hb dX12_law_41 (by decide) (fun hc => ?_) (fun hc => ?_)
      · replace hf := it_neg hc hf
        exact B64 st _ _ ls hf hl hP hS
      · replace hf := it_pos hc hf
        refine lv_aload_n hx hb dX12_law_44 rfl (lv_at hl 0 rfl) ?_
        refine lv_bipush (v := 59) hx hb dX12_law_45 (by decide) ?_
        obtain ⟨r15, st16, hc, hf⟩ := bd_some hf
        refine m_calli (n := 1) (rest := []) E hP hS (fun sz => tX12_isSign l D cy ad hJ sz (59 : Int32) st r15 st16 hc) (gV k_1492 k_1494 ks_54 k_14 k_1495) qX12_isSign ⟨Nat.le_of_ble_eq_true rfl, Nat.le_of_ble_eq_true rfl⟩ ⟨Nat.le_refl _, Nat.le_refl _⟩ rfl hl.1 rfl (Nat.le_of_ble_eq_true rfl) dX12_law_47 (fun H locs hP hS => ?_)
        refine lv_if_eq (tgt := 64) hx hb dX12_law_50 (by decide) (fun hc => ?_) (fun hc => ?_)
        · replace hf := it_pos hc hf
          exact B64 st16 _ _ ls hf hl hP hS
        · replace hf := it_neg hc hf
          refine lv_aload_n hx hb dX12_law_53 rfl (lv_at hl 0 rfl) ?_
          obtain ⟨r17, st18, hc, hf⟩ := bd_some hf
          refine m_callv (n := 0) (rest := []) E hP hS (fun sz => tX12_nextToken l D cy ad hJ sz st16 r17 st18 hc) (gV k_1453 k_1455 ks_47 k_14 k_1456) qX12_nextToken ⟨Nat.le_of_ble_eq_true rfl, Nat.le_of_ble_eq_true rfl⟩ ⟨Nat.le_refl _, Nat.le_refl _⟩ rfl hl.1 rfl (Nat.le_of_ble_eq_true rfl) dX12_law_54 (fun H locs hP hS => ?_)
          refine lv_aload_n hx hb dX12_law_57 rfl (lv_at hl 0 rfl) ?_
          obtain ⟨r19, st20, hc, hf⟩ := bd_some hf
          refine m_callv (n := 0) (rest := []) E hP hS (fun sz => tX12_readLaw l D cy ad hJ sz st18 r19 st20 hc) (gV k_1467 k_1469 ks_48 k_14 k_1470) qX12_readLaw ⟨Nat.le_of_ble_eq_true rfl, Nat.le_of_ble_eq_true rfl⟩ ⟨Nat.le_refl _, Nat.le_refl _⟩ rfl hl.1 rfl (Nat.le_of_ble_eq_true rfl) dX12_law_58 (fun H locs hP hS => ?_)
          refine lv_goto (tgt := 37) hx hb dX12_law_61 (by decide) ?_
          exact K37 st20 _ _ ls hf hl hP hS
  refine lv_aload_n hx hb dX12_law_0 rfl (lv_at hl 0 rfl) ?_
  refine lv_iconst (v := 0) hx hb dX12_law_1 (by decide) ?_
  refine mp_0 E hD hP hS dX12_law_2 (fun st21 H locs ex hP hS => ?_)
  replace hf := lt_at ex hf; clear ex
  refine lv_aload_n hx hb dX12_law_5 rfl (lv_at hl 0 rfl) ?_
  refine mg_3 E hP dX12_law_6 ?_
  refine lv_iconst (v := 4) hx hb dX12_law_9 (by decide) ?_
  refine ml_3 E hP (vi rfl) dX12_law_10 ?_
  refine lv_bipush (v := 6) hx hb dX12_law_11 (by decide) ?_
  refine lv_icmp_ne (tgt := 28) hx hb dX12_law_13 (by decide) (fun hc => ?_) (fun hc => ?_)
  · replace hf := it_neg hc hf
    refine lv_aload_n hx hb dX12_law_28 rfl (lv_at hl 0 rfl) ?_
    refine lv_iconst (v := 0) hx hb dX12_law_29 (by decide) ?_
    obtain ⟨r22, st23, hc, hf⟩ := bd_some hf
    refine m_callv (n := 1) (rest := []) E hP hS (fun sz => tX12_beginText l D cy ad hJ sz (0 : Int32) st21 r22 st23 hc) (gV k_1445 k_1447 ks_45 k_14 k_1448) qX12_beginText ⟨Nat.le_of_ble_eq_true rfl, Nat.le_of_ble_eq_true rfl⟩ ⟨Nat.le_refl _, Nat.le_refl _⟩ rfl hl.1 rfl (Nat.le_of_ble_eq_true rfl) dX12_law_30 (fun H locs hP hS => ?_)
    refine lv_aload_n hx hb dX12_law_33 rfl (lv_at hl 0 rfl) ?_
    obtain ⟨r24, st25, hc, hf⟩ := bd_some hf
    refine m_callv (n := 0) (rest := []) E hP hS (fun sz => tX12_readLaw l D cy ad hJ sz st23 r24 st25 hc) (gV k_1467 k_1469 ks_48 k_14 k_1470) qX12_readLaw ⟨Nat.le_of_ble_eq_true rfl, Nat.le_of_ble_eq_true rfl⟩ ⟨Nat.le_refl _, Nat.le_refl _⟩ rfl hl.1 rfl (Nat.le_of_ble_eq_true rfl) dX12_law_34 (fun H locs hP hS => ?_)
    exact L37 6000 st25 _ _ ls hf hl hP hS
  · replace hf := it_pos hc hf
    refine lv_aload_n hx hb dX12_law_16 rfl (lv_at hl 0 rfl) ?_
    refine lv_iconst (v := 0) hx hb dX12_law_17 (by decide) ?_
    refine mp_13 E hD hP hS dX12_law_18 (fun st26 H locs ex hP hS => ?_)
    replace hf := lt_at ex hf; clear ex
    refine lv_aload_n hx hb dX12_law_21 rfl (lv_at hl 0 rfl) ?_
    refine lv_bipush (v := -5) hx hb dX12_law_22 (by decide) ?_
    obtain ⟨r27, st28, hc, hf⟩ := bd_some hf
    refine m_calli (n := 1) (rest := []) E hP hS (fun sz => tX12_tell l D cy ad hJ sz (-5 : Int32) st26 r27 st28 hc) (gV k_1338 k_1340 ks_37 k_14 k_1341) qX12_tell ⟨Nat.le_of_ble_eq_true rfl, Nat.le_of_ble_eq_true rfl⟩ ⟨Nat.le_refl _, Nat.le_refl _⟩ rfl hl.1 rfl (Nat.le_of_ble_eq_true rfl) dX12_law_24 (fun H locs hP hS => ?_)
    exact m_iret hx hb hr hlocks hf hP hS dX12_law_27
theorem qX12_law : yX12_law.cls = RX12 ∧ yX12_law.cls ≠ "java/lang/invoke/MethodHandle" ∧ yX12_law.cls ≠ "java/lang/invoke/VarHandle" ∧ (parseMethodDescriptor yX12_law.desc).map (fun d => d.parameters.length) = some 0 := by decide +kernel
def fX12_force_b43 (w0 : Int32) (st : St) : Option (Int32 × St) := some (w0, st)
def fX12_force_b28 (v1 : Int32) (st : St) : Option (Int32 × St) := bd (fX12_change (5 : Int32) v1 st) (fun r1 st2 => fX12_force_b43 r1 st2)
def fX12_force (a0 : Int32) (st : St) : Option (Int32 × St) := lt (sI st 0 (0 : Int32)) (fun st3 => if a0 = (-1 : Int32) then (fX12_force_b28 a0 st3) else (bs (fX12_in (a0.toInt64) (0 : Int64) (((st3.2.2.1 3 (4 : Int32).toNatClampNeg).toInt64) - (1 : Int64))) (fun r4 => if r4 = 0 then (bd (fX12_tell (-2 : Int32) st3) (fun r5 st6 => fX12_force_b43 r5 st6)) else (fX12_force_b28 a0 st3))))
set_option maxHeartbeats 4000000 in
set_option maxRecDepth 100000 in
theorem tX12_force (l : Launch) (D : va_G) (cy : Nat → ClassId) (ad : Nat → Nat) (hJ : (mads ad).Nodup) (sz : Nat) (a0 : Int32) (st : St) (rr : Int32) (st' : St) (hf : fX12_force a0 st = some (rr, st')) : Met l yX12_force (Cond.code yX12_force cX12_force 2 (some .int) :: TT) (rmD 1) (mPc D cy ad [.int a0] st sz) (mQi D cy ad rr st' sz) 0 0 (mA ad sz) := by
  refine m_meti (by decide) hJ (Nat.le_of_ble_eq_true rfl) (fun p e s m args below meth c ls E hx hb hr hlocks hown hT hD hl hP hS => ?_)
  replace hl : lv_has ls 2 [(0, .ref (ad 100)), (1, .int a0)] := hl
  unfold fX12_force at hf
  have B43 : ∀ (w0 : Int32) (st : St) (H : Heap) (locs : List Loc) (ls : Array Slot), fX12_force_b43 w0 st = some (rr, st') → lv_has ls 2 [] → va_P D classes (mw cy ad st) H → va_S (mA ad s.heap.size) s.heap H locs → mGi l 1 D cy ad rr st' p e s m args below meth c H locs (F0 m 43 ls [.int w0]) := by
    intro w0 st H locs ls hf hl hP hS
    unfold fX12_force_b43 at hf
    exact m_iret hx hb hr hlocks hf hP hS dX12_force_43
  have B28 : ∀ (v1 : Int32) (st : St) (H : Heap) (locs : List Loc) (ls : Array Slot), fX12_force_b28 v1 st = some (rr, st') → lv_has ls 2 [(0, .ref (ad 100)), (1, .int v1)] → va_P D classes (mw cy ad st) H → va_S (mA ad s.heap.size) s.heap H locs → mGi l 1 D cy ad rr st' p e s m args below meth c H locs (F0 m 28 ls []) := by
    intro v1 st H locs ls hf hl hP hS
    unfold fX12_force_b28 at hf
    refine lv_aload_n hx hb dX12_force_28 rfl (lv_at hl 0 rfl) ?_
    refine lv_iconst (v := 5) hx hb dX12_force_29 (by decide) ?_
    refine lv_iload_n hx hb dX12_force_30 rfl (lv_at hl 1 rfl) ?_
    obtain ⟨r1, st2, hc, hf⟩ := bd_some hf
    refine m_calli (n := 2) (rest := []) E hP hS (fun sz => tX12_change l D cy ad hJ sz (5 : Int32) v1 st r1 st2 hc) (gV k_1399 k_1401 ks_43 k_14 k_1402) qX12_change ⟨Nat.le_of_ble_eq_true rfl, Nat.le_of_ble_eq_true rfl⟩ ⟨Nat.le_refl _, Nat.le_refl _⟩ rfl hl.1 rfl (Nat.le_of_ble_eq_true rfl) dX12_force_31 (fun H locs hP hS => ?_)
    refine lv_goto (tgt := 43) hx hb dX12_force_34 (by decide) ?_
    exact B43 r1 st2 _ _ ls hf (lv_sub hl [] rfl) hP hS
  refine lv_aload_n hx hb dX12_force_0 rfl (lv_at hl 0 rfl) ?_
  refine lv_iconst (v := 0) hx hb dX12_force_1 (by decide) ?_
  refine mp_0 E hD hP hS dX12_force_2 (fun st3 H locs ex hP hS => ?_)
  replace hf := lt_at ex hf; clear ex
  refine lv_iload_n hx hb dX12_force_5 rfl (lv_at hl 1 rfl) ?_
  refine lv_iconst (v := -1) hx hb dX12_force_6 (by decide) ?_
  refine lv_icmp_eq (tgt := 28) hx hb dX12_force_7 (by decide) (fun hc => ?_) (fun hc => ?_)
  · replace hf := it_pos hc hf
    exact B28 a0 st3 _ _ ls hf hl hP hS
  · replace hf := it_neg hc hf
    refine lv_iload_n hx hb dX12_force_10 rfl (lv_at hl 1 rfl) ?_
    refine lv_i2l (v := a0.toInt64) hx hb dX12_force_11 rfl ?_
    refine lv_lconst (v := 0) hx hb dX12_force_12 (by decide) ?_
    refine lv_aload_n hx hb dX12_force_13 rfl (lv_at hl 0 rfl) ?_
    refine mg_3 E hP dX12_force_14 ?_
    refine lv_iconst (v := 4) hx hb dX12_force_17 (by decide) ?_
    refine ml_3 E hP (vi rfl) dX12_force_18 ?_
    refine lv_i2l (v := (st3.2.2.1 3 (4 : Int32).toNatClampNeg).toInt64) hx hb dX12_force_19 rfl ?_
    refine lv_lconst (v := 1) hx hb dX12_force_20 (by decide) ?_
    refine lv_lsub hx hb dX12_force_21 ?_
    obtain ⟨r4, hc, hf⟩ := bs_some hf
    refine s_calli (n := 3) (rest := []) E.1 (tX12_in l _ (a0.toInt64) (0 : Int64) (((st3.2.2.1 3 (4 : Int32).toNatClampNeg).toInt64) - (1 : Int64)) r4 hc) (gS k_1350 k_1351 k_14 k_1352) qX12_in ⟨Nat.le_of_ble_eq_true rfl, Nat.le_of_ble_eq_true rfl⟩ ⟨Nat.le_refl _, Nat.le_refl _⟩ rfl hl.1 rfl (Nat.le_of_ble_eq_true rfl) dX12_force_22 ?_
    refine lv_if_eq (tgt := 37) hx hb dX12_force_25 (by decide) (fun hc => ?_) (fun hc => ?_)
    · replace hf := it_pos hc hf
      refine lv_aload_n hx hb dX12_force_37 rfl (lv_at hl 0 rfl) ?_
      refine lv_bipush (v := -2) hx hb dX12_force_38 (by decide) ?_
      obtain ⟨r5, st6, hc, hf⟩ := bd_some hf
      refine m_calli (n := 1) (rest := []) E hP hS (fun sz => tX12_tell l D cy ad hJ sz (-2 : Int32) st3 r5 st6 hc) (gV k_1338 k_1340 ks_37 k_14 k_1341) qX12_tell ⟨Nat.le_of_ble_eq_true rfl, Nat.le_of_ble_eq_true rfl⟩ ⟨Nat.le_refl _, Nat.le_refl _⟩ rfl hl.1 rfl (Nat.le_of_ble_eq_true rfl) dX12_force_40 (fun H locs hP hS => ?_)
      exact B43 r5 st6 _ _ ls hf (lv_sub hl [] rfl) hP hS
    · replace hf := it_neg hc hf
      exact B28 a0 st3 _ _ ls hf hl hP hS
theorem qX12_force : yX12_force.cls = RX12 ∧ yX12_force.cls ≠ "java/lang/invoke/MethodHandle" ∧ yX12_force.cls ≠ "java/lang/invoke/VarHandle" ∧ (parseMethodDescriptor yX12_force.desc).map (fun d => d.parameters.length) = some 1 := by decide +kernel
def fX12_reckon_b90 (w0 : Int64) (st : St) : Option (Int64 × St) := some (w0, st)
def fX12_reckon_b72 (v2 : Int64) (v4 : Int64) (w0 : Int32) (st : St) : Option (Int64 × St) := gb w0 (lt (sI st 38 w0) (fun st1 => if (st1.1 38) = 0 then (gzl v4 (fX12_reckon_b90 (v2 / v4) st1)) else (fX12_reckon_b90 (0 : Int64) st1)))
def fX12_reckon_b122 (w0 : Int64) (st : St) : Option (Int64 × St) := some (w0, st)
def fX12_reckon_b104 (v2 : Int64) (v4 : Int64) (w0 : Int32) (st : St) : Option (Int64 × St) := gb w0 (lt (sI st 38 w0) (fun st2 => if (st2.1 38) = 0 then (gzl v4 (fX12_reckon_b122 (v2 - v2 / v4 * v4) st2)) else (fX12_reckon_b122 (0 : Int64) st2)))
def fX12_reckon_b135 (w0 : Int64) (st : St) : Option (Int64 × St) := some (w0, st)
def fX12_reckon_b148 (w0 : Int64) (st : St) : Option (Int64 × St) := some (w0, st)
def fX12_reckon_b161 (w0 : Int64) (st : St) : Option (Int64 × St) := some (w0, st)
def fX12_reckon (a0 : Int32) (a1 : Int64) (a2 : Int64) (st : St) : Option (Int64 × St) := if a0 = 20 then (some ((a1 + a2), st)) else (if a0 = 21 then (some ((a1 - a2), st)) else (if a0 = 22 then (some ((a1 * a2), st)) else (if a0 = 23 then (if (lg_cmp a2 (0 : Int64)) = 0 then (fX12_reckon_b72 a1 a2 (1 : Int32) st) else (fX12_reckon_b72 a1 a2 (0 : Int32) st)) else (if a0 = 24 then (if (lg_cmp a2 (0 : Int64)) = 0 then (fX12_reckon_b104 a1 a2 (1 : Int32) st) else (fX12_reckon_b104 a1 a2 (0 : Int32) st)) else (if a0 = 25 then (if 0 ≤ (lg_cmp a1 a2) then (fX12_reckon_b135 (0 : Int64) st) else (fX12_reckon_b135 (1 : Int64) st)) else (if a0 = 26 then (if (lg_cmp a1 a2) ≤ 0 then (fX12_reckon_b148 (0 : Int64) st) else (fX12_reckon_b148 (1 : Int64) st)) else (if (lg_cmp a1 a2) = 0 then (fX12_reckon_b161 (1 : Int64) st) else (fX12_reckon_b161 (0 : Int64) st))))))))
set_option maxHeartbeats 4000000 in
set_option maxRecDepth 100000 in
theorem tX12_reckon (l : Launch) (D : va_G) (cy : Nat → ClassId) (ad : Nat → Nat) (hJ : (mads ad).Nodup) (sz : Nat) (a0 : Int32) (a1 : Int64) (a2 : Int64) (st : St) (rr : Int64) (st' : St) (hf : fX12_reckon a0 a1 a2 st = some (rr, st')) : Met l yX12_reckon (Cond.code yX12_reckon cX12_reckon 6 (some .long) :: TT) (rmD 0) (mPc D cy ad [.int a0, .long a1, .long a2] st sz) (mQl D cy ad rr st' sz) 0 0 (mA ad sz) := by
  refine m_metl (by decide) hJ (Nat.le_of_ble_eq_true rfl) (fun p e s m args below meth c ls E hx hb hr hlocks hown hT hD hl hP hS => ?_)
  replace hl : lv_has ls 6 [(0, .ref (ad 100)), (1, .int a0), (2, .long a1), (4, .long a2)] := hl
  unfold fX12_reckon at hf
  have B90 : ∀ (w0 : Int64) (st : St) (H : Heap) (locs : List Loc) (ls : Array Slot), fX12_reckon_b90 w0 st = some (rr, st') → lv_has ls 6 [] → va_P D classes (mw cy ad st) H → va_S (mA ad s.heap.size) s.heap H locs → mGl l 0 D cy ad rr st' p e s m args below meth c H locs (F0 m 90 ls [.long w0]) := by
    intro w0 st H locs ls hf hl hP hS
    unfold fX12_reckon_b90 at hf
    exact m_lret hx hb hr hlocks hf hP hS dX12_reckon_90
  have B72 : ∀ (v2 : Int64) (v4 : Int64) (w0 : Int32) (st : St) (H : Heap) (locs : List Loc) (ls : Array Slot), fX12_reckon_b72 v2 v4 w0 st = some (rr, st') → lv_has ls 6 [(0, .ref (ad 100)), (2, .long v2), (4, .long v4)] → va_P D classes (mw cy ad st) H → va_S (mA ad s.heap.size) s.heap H locs → mGl l 0 D cy ad rr st' p e s m args below meth c H locs (F0 m 72 ls [.int w0, .ref (ad 100)]) := by
    intro v2 v4 w0 st H locs ls hf hl hP hS
    unfold fX12_reckon_b72 at hf
    obtain ⟨hz, hf⟩ := gb_some hf
    refine mp_38 E hD hP hS hz dX12_reckon_72 (fun st1 H locs ex hP hS => ?_)
    replace hf := lt_at ex hf; clear ex
    refine lv_aload_n hx hb dX12_reckon_75 rfl (lv_at hl 0 rfl) ?_
    refine mg_38 E hP dX12_reckon_76 ?_
    refine lv_if_eq (tgt := 86) hx hb dX12_reckon_79 (by decide) (fun hc => ?_) (fun hc => ?_)
    · replace hf := it_pos hc hf
      refine lv_lload_n hx hb dX12_reckon_86 rfl (lv_at hl 1 rfl) ?_
      refine lv_lload hx hb dX12_reckon_87 (lv_at hl 2 rfl) ?_
      obtain ⟨hz, hf⟩ := gzl_some hf
      refine lv_ldiv hx hb dX12_reckon_89 hz ?_
      exact B90 (v2 / v4) st1 _ _ ls hf (lv_sub hl [] rfl) hP hS
    · replace hf := it_neg hc hf
      refine lv_lconst (v := 0) hx hb dX12_reckon_82 (by decide) ?_
      refine lv_goto (tgt := 90) hx hb dX12_reckon_83 (by decide) ?_
      exact B90 (0 : Int64) st1 _ _ ls hf (lv_sub hl [] rfl) hP hS
  have B122 : ∀ (w0 : Int64) (st : St) (H : Heap) (locs : List Loc) (ls : Array Slot), fX12_reckon_b122 w0 st = some (rr, st') → lv_has ls 6 [] → va_P D classes (mw cy ad st) H → va_S (mA ad s.heap.size) s.heap H locs → mGl l 0 D cy ad rr st' p e s m args below meth c H locs (F0 m 122 ls [.long w0]) := by
    intro w0 st H locs ls hf hl hP hS
    unfold fX12_reckon_b122 at hf
    exact m_lret hx hb hr hlocks hf hP hS dX12_reckon_122
  have B104 : ∀ (v2 : Int64) (v4 : Int64) (w0 : Int32) (st : St) (H : Heap) (locs : List Loc) (ls : Array Slot), fX12_reckon_b104 v2 v4 w0 st = some (rr, st') → lv_has ls 6 [(0, .ref (ad 100)), (2, .long v2), (4, .long v4)] → va_P D classes (mw cy ad st) H → va_S (mA ad s.heap.size) s.heap H locs → mGl l 0 D cy ad rr st' p e s m args below meth c H locs (F0 m 104 ls [.int w0, .ref (ad 100)]) := by
    intro v2 v4 w0 st H locs ls hf hl hP hS
    unfold fX12_reckon_b104 at hf
    obtain ⟨hz, hf⟩ := gb_some hf
    refine mp_38 E hD hP hS hz dX12_reckon_104 (fun st2 H locs ex hP hS => ?_)
    replace hf := lt_at ex hf; clear ex
    refine lv_aload_n hx hb dX12_reckon_107 rfl (lv_at hl 0 rfl) ?_
    refine mg_38 E hP dX12_reckon_108 ?_
    refine lv_if_eq (tgt := 118) hx hb dX12_reckon_111 (by decide) (fun hc => ?_) (fun hc => ?_)
    · replace hf := it_pos hc hf
      refine lv_lload_n hx hb dX12_reckon_118 rfl (lv_at hl 1 rfl) ?_
      refine lv_lload hx hb dX12_reckon_119 (lv_at hl 2 rfl) ?_
      obtain ⟨hz, hf⟩ := gzl_some hf
      refine lv_lrem hx hb dX12_reckon_121 hz ?_
      exact B122 (v2 - v2 / v4 * v4) st2 _ _ ls hf (lv_sub hl [] rfl) hP hS
    · replace hf := it_neg hc hf
      refine lv_lconst (v := 0) hx hb dX12_reckon_114 (by decide) ?_
      refine lv_goto (tgt := 122) hx hb dX12_reckon_115 (by decide) ?_
      exact B122 (0 : Int64) st2 _ _ ls hf (lv_sub hl [] rfl) hP hS
  have B135 : ∀ (w0 : Int64) (st : St) (H : Heap) (locs : List Loc) (ls : Array Slot), fX12_reckon_b135 w0 st = some (rr, st') → lv_has ls 6 [] → va_P D classes (mw cy ad st) H → va_S (mA ad s.heap.size) s.heap H locs → mGl l 0 D cy ad rr st' p e s m args below meth c H locs (F0 m 135 ls [.long w0]) := by
    intro w0 st H locs ls hf hl hP hS
    unfold fX12_reckon_b135 at hf
    exact m_lret hx hb hr hlocks hf hP hS dX12_reckon_135
  have B148 : ∀ (w0 : Int64) (st : St) (H : Heap) (locs : List Loc) (ls : Array Slot), fX12_reckon_b148 w0 st = some (rr, st') → lv_has ls 6 [] → va_P D classes (mw cy ad st) H → va_S (mA ad s.heap.size) s.heap H locs → mGl l 0 D cy ad rr st' p e s m args below meth c H locs (F0 m 148 ls [.long w0]) := by
    intro w0 st H locs ls hf hl hP hS
    unfold fX12_reckon_b148 at hf
    exact m_lret hx hb hr hlocks hf hP hS dX12_reckon_148
  have B161 : ∀ (w0 : Int64) (st : St) (H : Heap) (locs : List Loc) (ls : Array Slot), fX12_reckon_b161 w0 st = some (rr, st') → lv_has ls 6 [] → va_P D classes (mw cy ad st) H → va_S (mA ad s.heap.size) s.heap H locs → mGl l 0 D cy ad rr st' p e s m args below meth c H locs (F0 m 161 ls [.long w0]) := by
    intro w0 st H locs ls hf hl hP hS
    unfold fX12_reckon_b161 at hf
    exact m_lret hx hb hr hlocks hf hP hS dX12_reckon_161
  refine lv_iload_n hx hb dX12_reckon_0 rfl (lv_at hl 1 rfl) ?_
  by_cases hq20 : a0 = 20
  · replace hf := it_pos hq20 hf
    rw [hq20]; refine lv_tableIn (tgt := 44) hx hb dX12_reckon_1 (by decide) (by decide) rfl (by decide) ?_
    refine lv_lload_n hx hb dX12_reckon_44 rfl (lv_at hl 2 rfl) ?_
    refine lv_lload hx hb dX12_reckon_45 (lv_at hl 3 rfl) ?_
    refine lv_ladd hx hb dX12_reckon_47 ?_
    exact m_lret hx hb hr hlocks hf hP hS dX12_reckon_48
  replace hf := it_neg hq20 hf
  by_cases hq21 : a0 = 21
  · replace hf := it_pos hq21 hf
    rw [hq21]; refine lv_tableIn (tgt := 49) hx hb dX12_reckon_1 (by decide) (by decide) rfl (by decide) ?_
    refine lv_lload_n hx hb dX12_reckon_49 rfl (lv_at hl 2 rfl) ?_
    refine lv_lload hx hb dX12_reckon_50 (lv_at hl 3 rfl) ?_
    refine lv_lsub hx hb dX12_reckon_52 ?_
    exact m_lret hx hb hr hlocks hf hP hS dX12_reckon_53
  replace hf := it_neg hq21 hf
  by_cases hq22 : a0 = 22
  · replace hf := it_pos hq22 hf
    rw [hq22]; refine lv_tableIn (tgt := 54) hx hb dX12_reckon_1 (by decide) (by decide) rfl (by decide) ?_
    refine lv_lload_n hx hb dX12_reckon_54 rfl (lv_at hl 2 rfl) ?_
    refine lv_lload hx hb dX12_reckon_55 (lv_at hl 3 rfl) ?_
    refine lv_lmul hx hb dX12_reckon_57 ?_
    exact m_lret hx hb hr hlocks hf hP hS dX12_reckon_58
  replace hf := it_neg hq22 hf
  by_cases hq23 : a0 = 23
  · replace hf := it_pos hq23 hf
    rw [hq23]; refine lv_tableIn (tgt := 59) hx hb dX12_reckon_1 (by decide) (by decide) rfl (by decide) ?_
    refine lv_aload_n hx hb dX12_reckon_59 rfl (lv_at hl 0 rfl) ?_
    refine lv_lload hx hb dX12_reckon_60 (lv_at hl 3 rfl) ?_
    refine lv_lconst (v := 0) hx hb dX12_reckon_62 (by decide) ?_
    refine W.lcmp hx hb dX12_reckon_63 ?_
    refine lv_if_ne (tgt := 71) hx hb dX12_reckon_64 (by decide) (fun hc => ?_) (fun hc => ?_)
    · replace hf := it_neg hc hf
      refine lv_iconst (v := 0) hx hb dX12_reckon_71 (by decide) ?_
      exact B72 a1 a2 (0 : Int32) st _ _ ls hf (lv_sub hl [0, 2, 3] rfl) hP hS
    · replace hf := it_pos hc hf
      refine lv_iconst (v := 1) hx hb dX12_reckon_67 (by decide) ?_
      refine lv_goto (tgt := 72) hx hb dX12_reckon_68 (by decide) ?_
      exact B72 a1 a2 (1 : Int32) st _ _ ls hf (lv_sub hl [0, 2, 3] rfl) hP hS
  replace hf := it_neg hq23 hf
  by_cases hq24 : a0 = 24
  · replace hf := it_pos hq24 hf
    rw [hq24]; refine lv_tableIn (tgt := 91) hx hb dX12_reckon_1 (by decide) (by decide) rfl (by decide) ?_
    refine lv_aload_n hx hb dX12_reckon_91 rfl (lv_at hl 0 rfl) ?_
    refine lv_lload hx hb dX12_reckon_92 (lv_at hl 3 rfl) ?_
    refine lv_lconst (v := 0) hx hb dX12_reckon_94 (by decide) ?_
    refine W.lcmp hx hb dX12_reckon_95 ?_
    refine lv_if_ne (tgt := 103) hx hb dX12_reckon_96 (by decide) (fun hc => ?_) (fun hc => ?_)
    · replace hf := it_neg hc hf
      refine lv_iconst (v := 0) hx hb dX12_reckon_103 (by decide) ?_
      exact B104 a1 a2 (0 : Int32) st _ _ ls hf (lv_sub hl [0, 2, 3] rfl) hP hS
    · replace hf := it_pos hc hf
      refine lv_iconst (v := 1) hx hb dX12_reckon_99 (by decide) ?_
      refine lv_goto (tgt := 104) hx hb dX12_reckon_100 (by decide) ?_
      exact B104 a1 a2 (1 : Int32) st _ _ ls hf (lv_sub hl [0, 2, 3] rfl) hP hS
  replace hf := it_neg hq24 hf
  by_cases hq25 : a0 = 25
  · replace hf := it_pos hq25 hf
    rw [hq25]; refine lv_tableIn (tgt := 123) hx hb dX12_reckon_1 (by decide) (by decide) rfl (by decide) ?_
    refine lv_lload_n hx hb dX12_reckon_123 rfl (lv_at hl 2 rfl) ?_
    refine lv_lload hx hb dX12_reckon_124 (lv_at hl 3 rfl) ?_
    refine W.lcmp hx hb dX12_reckon_126 ?_
    refine lv_if_ge (tgt := 134) hx hb dX12_reckon_127 (by decide) (fun hc => ?_) (fun hc => ?_)
    · replace hf := it_pos hc hf
      refine lv_lconst (v := 0) hx hb dX12_reckon_134 (by decide) ?_
      exact B135 (0 : Int64) st _ _ ls hf (lv_sub hl [] rfl) hP hS
    · replace hf := it_neg hc hf
      refine lv_lconst (v := 1) hx hb dX12_reckon_130 (by decide) ?_
      refine lv_goto (tgt := 135) hx hb dX12_reckon_131 (by decide) ?_
      exact B135 (1 : Int64) st _ _ ls hf (lv_sub hl [] rfl) hP hS
  replace hf := it_neg hq25 hf
  by_cases hq26 : a0 = 26
  · replace hf := it_pos hq26 hf
    rw [hq26]; refine lv_tableIn (tgt := 136) hx hb dX12_reckon_1 (by decide) (by decide) rfl (by decide) ?_
    refine lv_lload_n hx hb dX12_reckon_136 rfl (lv_at hl 2 rfl) ?_
    refine lv_lload hx hb dX12_reckon_137 (lv_at hl 3 rfl) ?_
    refine W.lcmp hx hb dX12_reckon_139 ?_
    refine lv_if_le (tgt := 147) hx hb dX12_reckon_140 (by decide) (fun hc => ?_) (fun hc => ?_)
    · replace hf := it_pos hc hf
      refine lv_lconst (v := 0) hx hb dX12_reckon_147 (by decide) ?_
      exact B148 (0 : Int64) st _ _ ls hf (lv_sub hl [] rfl) hP hS
    · replace hf := it_neg hc hf
      refine lv_lconst (v := 1) hx hb dX12_reckon_143 (by decide) ?_
      refine lv_goto (tgt := 148) hx hb dX12_reckon_144 (by decide) ?_
      exact B148 (1 : Int64) st _ _ ls hf (lv_sub hl [] rfl) hP hS
  replace hf := it_neg hq26 hf
  refine lv_tableOut (tgt := 149) hx hb dX12_reckon_1 (tb_out (lo := 20) (hi := 26) (fun k h1 h2 he => ?_)) (by decide) ?_
  · have h3 : k = 20 ∨ k = 21 ∨ k = 22 ∨ k = 23 ∨ k = 24 ∨ k = 25 ∨ k = 26 := by omega
    rcases h3 with rfl | rfl | rfl | rfl | rfl | rfl | rfl
    · exact hq20 he
    · exact hq21 he
    · exact hq22 he
    · exact hq23 he
    · exact hq24 he
    · exact hq25 he
    · exact hq26 he
  · refine lv_lload_n hx hb dX12_reckon_149 rfl (lv_at hl 2 rfl) ?_
    refine lv_lload hx hb dX12_reckon_150 (lv_at hl 3 rfl) ?_
    refine W.lcmp hx hb dX12_reckon_152 ?_
    refine lv_if_ne (tgt := 160) hx hb dX12_reckon_153 (by decide) (fun hc => ?_) (fun hc => ?_)
    · replace hf := it_neg hc hf
      refine lv_lconst (v := 0) hx hb dX12_reckon_160 (by decide) ?_
      exact B161 (0 : Int64) st _ _ ls hf (lv_sub hl [] rfl) hP hS
    · replace hf := it_pos hc hf
      refine lv_lconst (v := 1) hx hb dX12_reckon_156 (by decide) ?_
      refine lv_goto (tgt := 161) hx hb dX12_reckon_157 (by decide) ?_
      exact B161 (1 : Int64) st _ _ ls hf (lv_sub hl [] rfl) hP hS
theorem qX12_reckon : yX12_reckon.cls = RX12 ∧ yX12_reckon.cls ≠ "java/lang/invoke/MethodHandle" ∧ yX12_reckon.cls ≠ "java/lang/invoke/VarHandle" ∧ (parseMethodDescriptor yX12_reckon.desc).map (fun d => d.parameters.length) = some 3 := by decide +kernel
def fX12_reckonAll_b387 (w0 : Int64) (st : St) : Option (Unit × St) := lt (sJ st 39 w0) (fun st1 => some ((), st1))
def fX12_reckonAll_b372 (v3 : Int32) (st : St) : Option (Unit × St) := if v3 ≤ 0 then (fX12_reckonAll_b387 (0 : Int64) st) else (fX12_reckonAll_b387 (st.2.2.2.1 37 (0 : Int32).toNatClampNeg) st)
def fX12_reckonAll_b369 (k10 : Int32 → Int32 → Int32 → St → Option (Unit × St)) (v2 : Int32) (v3 : Int32) (v4 : Int32) (st : St) : Option (Unit × St) := k10 v2 v3 v4 st
def fX12_reckonAll_b355 (k10 : Int32 → Int32 → Int32 → St → Option (Unit × St)) (v2 : Int32) (v3 : Int32) (v4 : Int32) (v6 : Int32) (w0 : Int64) (w1 : Int64) (st : St) : Option (Unit × St) := if (lg_cmp w1 w0) = 0 then (fX12_reckonAll_b369 k10 v2 v3 v6 st) else (lt (v3 + (-1 : Int32)) (fun x2 => fX12_reckonAll_b369 k10 v2 x2 v4 st))
def fX12_reckonAll_b301 (k10 : Int32 → Int32 → Int32 → St → Option (Unit × St)) (v2 : Int32) (v3 : Int32) (v4 : Int32) (w0 : Int32) (st : St) : Option (Unit × St) := gb w0 (lt (sI st 38 w0) (fun st3 => fX12_reckonAll_b369 k10 v2 v3 v4 st3))
def fX12_reckonAll_b296 (k10 : Int32 → Int32 → Int32 → St → Option (Unit × St)) (v2 : Int32) (v3 : Int32) (v4 : Int32) (st : St) : Option (Unit × St) := fX12_reckonAll_b301 k10 v2 v3 v4 (1 : Int32) st
def fX12_reckonAll_b223 (k10 : Int32 → Int32 → Int32 → St → Option (Unit × St)) (v2 : Int32) (v3 : Int32) (v4 : Int32) (w0 : Int64) (w1 : Int32) (st : St) : Option (Unit × St) := gi w1 400 (lt (sB st 37 (vp_updL (st.2.2.2.1 37) w1.toNatClampNeg w0)) (fun st4 => lt (v3 + (1 : Int32)) (fun x5 => fX12_reckonAll_b369 k10 v2 x5 v4 st4)))
def fX12_reckonAll_b95 (k10 : Int32 → Int32 → Int32 → St → Option (Unit × St)) (v2 : Int32) (v3 : Int32) (v4 : Int32) (v5 : Int32) (w0 : Int32) (st : St) : Option (Unit × St) := lt (v4 + (1 : Int32)) (fun x6 => if (20 : Int32) ≤ v5 then (if (28 : Int32) ≤ v5 then (if v5 = (28 : Int32) then (gi (v3 - (1 : Int32)) 400 (gi (v3 - (1 : Int32)) 400 (lt (sB st 37 (vp_updL (st.2.2.2.1 37) (v3 - (1 : Int32)).toNatClampNeg ((1 : Int64) - (st.2.2.2.1 37 (v3 - (1 : Int32)).toNatClampNeg)))) (fun st7 => fX12_reckonAll_b369 k10 v2 v3 x6 st7)))) else (gi (v3 - (1 : Int32)) 400 (if v5 = (29 : Int32) then (fX12_reckonAll_b355 k10 v2 v3 x6 w0 (0 : Int64) (st.2.2.2.1 37 (v3 - (1 : Int32)).toNatClampNeg) st) else (fX12_reckonAll_b355 k10 v2 v3 x6 w0 (1 : Int64) (st.2.2.2.1 37 (v3 - (1 : Int32)).toNatClampNeg) st)))) else (lt (v3 + (-1 : Int32)) (fun x8 => gi (x8 - (1 : Int32)) 400 (gi x8 400 (bd (fX12_reckon v5 (st.2.2.2.1 37 (x8 - (1 : Int32)).toNatClampNeg) (st.2.2.2.1 37 x8.toNatClampNeg) st) (fun r9 st10 => gi (x8 - (1 : Int32)) 400 (lt (sB st10 37 (vp_updL (st10.2.2.2.1 37) (x8 - (1 : Int32)).toNatClampNeg r9)) (fun st11 => if (st11.1 38) = 0 then (gi (x8 - (1 : Int32)) 400 (bs (fX12_in (st11.2.2.2.1 37 (x8 - (1 : Int32)).toNatClampNeg) (-1000000000 : Int64) (1000000000 : Int64)) (fun r12 => if r12 = 0 then (fX12_reckonAll_b296 k10 v2 x8 x6 st11) else (fX12_reckonAll_b301 k10 v2 x8 x6 (0 : Int32) st11)))) else (fX12_reckonAll_b296 k10 v2 x8 x6 st11))))))))) else (if v5 = 0 then (fX12_reckonAll_b223 k10 v2 v3 x6 (w0.toInt64) v3 st) else (if (st.1 20) = 0 then (gi v5 13 (fX12_reckonAll_b223 k10 v2 v3 x6 (st.2.2.2.1 35 v5.toNatClampNeg) v3 st)) else (if (4 : Int32) ≤ v5 then (if v5 = (6 : Int32) then (gi ((9 : Int32) + w0) 5550 (fX12_reckonAll_b223 k10 v2 v3 x6 ((st.2.2.1 3 ((9 : Int32) + w0).toNatClampNeg).toInt64) v3 st)) else (bd (fX12_isFort w0 st) (fun r13 st14 => if r13 = 0 then (fX12_reckonAll_b223 k10 v2 v3 x6 (-1 : Int64) v3 st14) else (if v5 = (4 : Int32) then (gi ((13 : Int32) + w0) 5550 (fX12_reckonAll_b223 k10 v2 v3 x6 ((st14.2.2.1 3 ((13 : Int32) + w0).toNatClampNeg).toInt64) v3 st14)) else (gi ((19 : Int32) + w0) 5550 (fX12_reckonAll_b223 k10 v2 v3 x6 ((st14.2.2.1 3 ((19 : Int32) + w0).toNatClampNeg).toInt64) v3 st14)))))) else (gi v5 13 (fX12_reckonAll_b223 k10 v2 v3 x6 (st.2.2.2.1 36 v5.toNatClampNeg) v3 st))))))
def fX12_reckonAll_b57 (k10 : Int32 → Int32 → Int32 → St → Option (Unit × St)) (v2 : Int32) (v3 : Int32) (v4 : Int32) (w0 : Int32) (st : St) : Option (Unit × St) := if (st.1 20) = 0 then (gi ((((st.1 34) + (98 : Int32)) + ((2 : Int32) * v4)) + (1 : Int32)) 5550 (fX12_reckonAll_b95 k10 v2 v3 v4 w0 (st.2.2.1 3 ((((st.1 34) + (98 : Int32)) + ((2 : Int32) * v4)) + (1 : Int32)).toNatClampNeg) st)) else (gi v4 400 (fX12_reckonAll_b95 k10 v2 v3 v4 w0 (st.2.2.1 25 v4.toNatClampNeg) st))
def fX12_reckonAll_b10 (k10 : Int32 → Int32 → Int32 → St → Option (Unit × St)) (v2 : Int32) (v3 : Int32) (v4 : Int32) (st : St) : Option (Unit × St) := if v2 ≤ v4 then (fX12_reckonAll_b372 v3 st) else (if (st.1 38) = 0 then (if (st.1 20) = 0 then (gi (((st.1 34) + (98 : Int32)) + ((2 : Int32) * v4)) 5550 (fX12_reckonAll_b57 k10 v2 v3 v4 (st.2.2.1 3 (((st.1 34) + (98 : Int32)) + ((2 : Int32) * v4)).toNatClampNeg) st)) else (gi v4 400 (fX12_reckonAll_b57 k10 v2 v3 v4 (st.2.2.1 24 v4.toNatClampNeg) st))) else (fX12_reckonAll_b372 v3 st))
def fX12_reckonAll (a0 : Int32) (a1 : Int32) (st : St) : Option (Unit × St) := lt (sI st 38 (0 : Int32)) (fun st15 => lp (fun _ _ _ _ => none) (fX12_reckonAll_b10) 6000 a1 (0 : Int32) a0 st15)
set_option maxHeartbeats 4000000 in
set_option maxRecDepth 100000 in
theorem tX12_reckonAll (l : Launch) (D : va_G) (cy : Nat → ClassId) (ad : Nat → Nat) (hJ : (mads ad).Nodup) (sz : Nat) (a0 : Int32) (a1 : Int32) (st : St) (rr : Unit) (st' : St) (hf : fX12_reckonAll a0 a1 st = some (rr, st')) : Met l yX12_reckonAll (Cond.code yX12_reckonAll cX12_reckonAll 7 none :: TT) (rmD 2) (mPc D cy ad [.int a0, .int a1] st sz) (mQv D cy ad rr st' sz) 0 0 (mA ad sz) := by
  refine m_metv (by decide) hJ (Nat.le_of_ble_eq_true rfl) (fun p e s m args below meth c ls E hx hb hr hlocks hown hT hD hl hP hS => ?_)
  replace hl : lv_has ls 7 [(0, .ref (ad 100)), (1, .int a0), (2, .int a1)] := hl
  unfold fX12_reckonAll at hf
  have B387 : ∀ (w0 : Int64) (st : St) (H : Heap) (locs : List Loc) (ls : Array Slot), fX12_reckonAll_b387 w0 st = some (rr, st') → lv_has ls 7 [] → va_P D classes (mw cy ad st) H → va_S (mA ad s.heap.size) s.heap H locs → mGv l 2 D cy ad rr st' p e s m args below meth c H locs (F0 m 387 ls [.long w0, .ref (ad 100)]) := by
    intro w0 st H locs ls hf hl hP hS
    unfold fX12_reckonAll_b387 at hf
    refine mp_39 E hD hP hS dX12_reckonAll_387 (fun st1 H locs ex hP hS => ?_)
    replace hf := lt_at ex hf; clear ex
    exact m_vret hx hb hr hlocks hf hP hS dX12_reckonAll_390
  have B372 : ∀ (v3 : Int32) (st : St) (H : Heap) (locs : List Loc) (ls : Array Slot), fX12_reckonAll_b372 v3 st = some (rr, st') → lv_has ls 7 [(0, .ref (ad 100)), (3, .int v3)] → va_P D classes (mw cy ad st) H → va_S (mA ad s.heap.size) s.heap H locs → mGv l 2 D cy ad rr st' p e s m args below meth c H locs (F0 m 372 ls []) := by
    intro v3 st H locs ls hf hl hP hS
    unfold fX12_reckonAll_b372 at hf
    refine lv_aload_n hx hb dX12_reckonAll_372 rfl (lv_at hl 0 rfl) ?_
    refine lv_iload_n hx hb dX12_reckonAll_373 rfl (lv_at hl 1 rfl) ?_
    refine lv_if_le (tgt := 386) hx hb dX12_reckonAll_374 (by decide) (fun hc => ?_) (fun hc => ?_)
    · replace hf := it_pos hc hf
      refine lv_lconst (v := 0) hx hb dX12_reckonAll_386 (by decide) ?_
      exact B387 (0 : Int64) st _ _ ls hf (lv_sub hl [] rfl) hP hS
    · replace hf := it_neg hc hf
      refine lv_aload_n hx hb dX12_reckonAll_377 rfl (lv_at hl 0 rfl) ?_
      refine mg_37 E hP dX12_reckonAll_378 ?_
      refine lv_iconst (v := 0) hx hb dX12_reckonAll_381 (by decide) ?_
      refine ml_37 E hP (vi rfl) dX12_reckonAll_382 ?_
      refine lv_goto (tgt := 387) hx hb dX12_reckonAll_383 (by decide) ?_
      exact B387 (st.2.2.2.1 37 (0 : Int32).toNatClampNeg) st _ _ ls hf (lv_sub hl [] rfl) hP hS
  have L10 : ∀ (n : Nat) (v2 : Int32) (v3 : Int32) (v4 : Int32) (st : St) (H : Heap) (locs : List Loc) (ls : Array Slot), lp (fun _ _ _ _ => none) (fX12_reckonAll_b10) n v2 v3 v4 st = some (rr, st') → lv_has ls 7 [(0, .ref (ad 100)), (2, .int v2), (3, .int v3), (4, .int v4)] → va_P D classes (mw cy ad st) H → va_S (mA ad s.heap.size) s.heap H locs → mGv l 2 D cy ad rr st' p e s m args below meth c H locs (F0 m 10 ls []) := by
    intro n
    induction n with
    | zero => intro v2 v3 v4 st H locs ls hf; exact absurd hf (fun h => by cases h)
    | succ n K10 =>
      intro v2 v3 v4 st H locs ls hf hl hP hS
      replace hf : fX12_reckonAll_b10 (lp (fun _ _ _ _ => none) (fX12_reckonAll_b10) n) v2 v3 v4 st = some (rr, st') := hf
      generalize lp (fun _ _ _ _ => none) (fX12_reckonAll_b10) n = k10 at hf K10
      have B369 : ∀ (v2 : Int32) (v3 : Int32) (v4 : Int32) (st : St) (H : Heap) (locs : List Loc) (ls : Array Slot), fX12_reckonAll_b369 k10 v2 v3 v4 st = some (rr, st') → lv_has ls 7 [(0, .ref (ad 100)), (2, .int v2), (3, .int v3), (4, .int v4)] → va_P D classes (mw cy ad st) H → va_S (mA ad s.heap.size) s.heap H locs → mGv l 2 D cy ad rr st' p e s m args below meth c H locs (F0 m 369 ls []) := by
        intro v2 v3 v4 st H locs ls hf hl hP hS
        unfold fX12_reckonAll_b369 at hf
        refine lv_goto (tgt := 10) hx hb dX12_reckonAll_369 (by decide) ?_
        exact K10 v2 v3 v4 st _ _ ls hf hl hP hS
      have B355 : ∀ (v2 : Int32) (v3 : Int32) (v4 : Int32) (v6 : Int32) (w0 : Int64) (w1 : Int64) (st : St) (H : Heap) (locs : List Loc) (ls : Array Slot), fX12_reckonAll_b355 k10 v2 v3 v4 v6 w0 w1 st = some (rr, st') → lv_has ls 7 [(0, .ref (ad 100)), (2, .int v2), (3, .int v3), (4, .int v4), (6, .int v6)] → va_P D classes (mw cy ad st) H → va_S (mA ad s.heap.size) s.heap H locs → mGv l 2 D cy ad rr st' p e s m args below meth c H locs (F0 m 355 ls [.long w0, .long w1]) := by
        intro v2 v3 v4 v6 w0 w1 st H locs ls hf hl hP hS
        unfold fX12_reckonAll_b355 at hf
        refine W.lcmp hx hb dX12_reckonAll_355 ?_
        refine lv_if_ne (tgt := 366) hx hb dX12_reckonAll_356 (by decide) (fun hc => ?_) (fun hc => ?_)
        · replace hf := it_neg hc hf
          obtain ⟨x2, ex⟩ : ∃ y : Int32, y = v3 + (-1 : Int32) := ⟨_, rfl⟩
          replace hf := lt_at ex hf
          refine lv_iinc (v := x2) (lv' := [(3, .int x2), (0, .ref (ad 100)), (2, .int v2), (4, .int v4), (6, .int v6)]) hx hb dX12_reckonAll_366 hl (k := 2) rfl (by rw [ex]; rfl) (by decide) rfl (fun ls hl => ?_)
          clear ex
          exact B369 v2 x2 v4 st _ _ ls hf (lv_sub hl [1, 2, 0, 3] rfl) hP hS
        · replace hf := it_pos hc hf
          refine lv_iload hx hb dX12_reckonAll_359 (lv_at hl 4 rfl) ?_
          refine lv_istore (lv' := [(4, .int v6), (0, .ref (ad 100)), (2, .int v2), (3, .int v3), (6, .int v6)]) hx hb dX12_reckonAll_361 hl (by decide) rfl (fun ls hl => ?_)
          refine lv_goto (tgt := 369) hx hb dX12_reckonAll_363 (by decide) ?_
          exact B369 v2 v3 v6 st _ _ ls hf (lv_sub hl [1, 2, 3, 0] rfl) hP hS
      have B301 : ∀ (v2 : Int32) (v3 : Int32) (v4 : Int32) (w0 : Int32) (st : St) (H : Heap) (locs : List Loc) (ls : Array Slot), fX12_reckonAll_b301 k10 v2 v3 v4 w0 st = some (rr, st') → lv_has ls 7 [(0, .ref (ad 100)), (2, .int v2), (3, .int v3), (4, .int v4)] → va_P D classes (mw cy ad st) H → va_S (mA ad s.heap.size) s.heap H locs → mGv l 2 D cy ad rr st' p e s m args below meth c H locs (F0 m 301 ls [.int w0, .ref (ad 100)]) := by
        intro v2 v3 v4 w0 st H locs ls hf hl hP hS
        unfold fX12_reckonAll_b301 at hf
        obtain ⟨hz, hf⟩ := gb_some hf
        refine mp_38 E hD hP hS hz dX12_reckonAll_301 (fun st3 H locs ex hP hS => ?_)
        replace hf := lt_at ex hf; clear ex
        refine lv_goto (tgt := 369) hx hb dX12_reckonAll_304 (by decide) ?_
        exact B369 v2 v3 v4 st3 _ _ ls hf hl hP hS
      have B296 : ∀ (v2 : Int32) (v3 : Int32) (v4 : Int32) (st : St) (H : Heap) (locs : List Loc) (ls : Array Slot), fX12_reckonAll_b296 k10 v2 v3 v4 st = some (rr, st') → lv_has ls 7 [(0, .ref (ad 100)), (2, .int v2), (3, .int v3), (4, .int v4)] → va_P D classes (mw cy ad st) H → va_S (mA ad s.heap.size) s.heap H locs → mGv l 2 D cy ad rr st' p e s m args below meth c H locs (F0 m 296 ls [.ref (ad 100)]) := by
        intro v2 v3 v4 st H locs ls hf hl hP hS
        unfold fX12_reckonAll_b296 at hf
        refine lv_iconst (v := 1) hx hb dX12_reckonAll_296 (by decide) ?_
        refine lv_goto (tgt := 301) hx hb dX12_reckonAll_297 (by decide) ?_
        exact B301 v2 v3 v4 (1 : Int32) st _ _ ls hf hl hP hS
      have B223 : ∀ (v2 : Int32) (v3 : Int32) (v4 : Int32) (w0 : Int64) (w1 : Int32) (st : St) (H : Heap) (locs : List Loc) (ls : Array Slot), fX12_reckonAll_b223 k10 v2 v3 v4 w0 w1 st = some (rr, st') → lv_has ls 7 [(0, .ref (ad 100)), (2, .int v2), (3, .int v3), (4, .int v4)] → va_P D classes (mw cy ad st) H → va_S (mA ad s.heap.size) s.heap H locs → mGv l 2 D cy ad rr st' p e s m args below meth c H locs (F0 m 223 ls [.long w0, .int w1, .ref (ad 37)]) := by
        intro v2 v3 v4 w0 w1 st H locs ls hf hl hP hS
        unfold fX12_reckonAll_b223 at hf
        obtain ⟨hi, hf⟩ := gi_some hf
        refine ms_37 E hD hP hS hi dX12_reckonAll_223 (fun st4 H locs ex hP hS => ?_)
        replace hf := lt_at ex hf; clear ex
        obtain ⟨x5, ex⟩ : ∃ y : Int32, y = v3 + (1 : Int32) := ⟨_, rfl⟩
        replace hf := lt_at ex hf
        refine lv_iinc (v := x5) (lv' := [(3, .int x5), (0, .ref (ad 100)), (2, .int v2), (4, .int v4)]) hx hb dX12_reckonAll_224 hl (k := 2) rfl (by rw [ex]; rfl) (by decide) rfl (fun ls hl => ?_)
        clear ex
        refine lv_goto (tgt := 369) hx hb dX12_reckonAll_227 (by decide) ?_
        exact B369 v2 x5 v4 st4 _ _ ls hf (lv_sub hl [1, 2, 0, 3] rfl) hP hS
      have B95 : ∀ (v2 : Int32) (v3 : Int32) (v4 : Int32) (v5 : Int32) (w0 : Int32) (st : St) (H : Heap) (locs : List Loc) (ls : Array Slot), fX12_reckonAll_b95 k10 v2 v3 v4 v5 w0 st = some (rr, st') → lv_has ls 7 [(0, .ref (ad 100)), (2, .int v2), (3, .int v3), (4, .int v4), (5, .int v5)] → va_P D classes (mw cy ad st) H → va_S (mA ad s.heap.size) s.heap H locs → mGv l 2 D cy ad rr st' p e s m args below meth c H locs (F0 m 95 ls [.int w0]) := by
        intro v2 v3 v4 v5 w0 st H locs ls hf hl hP hS
        unfold fX12_reckonAll_b95 at hf
        refine lv_istore (lv' := [(6, .int w0), (0, .ref (ad 100)), (2, .int v2), (3, .int v3), (4, .int v4), (5, .int v5)]) hx hb dX12_reckonAll_95 hl (by decide) rfl (fun ls hl => ?_)
        obtain ⟨x6, ex⟩ : ∃ y : Int32, y = v4 + (1 : Int32) := ⟨_, rfl⟩
        replace hf := lt_at ex hf
        refine lv_iinc (v := x6) (lv' := [(4, .int x6), (6, .int w0), (0, .ref (ad 100)), (2, .int v2), (3, .int v3), (5, .int v5)]) hx hb dX12_reckonAll_97 hl (k := 4) rfl (by rw [ex]; rfl) (by decide) rfl (fun ls hl => ?_)
        clear ex
        refine lv_iload hx hb dX12_reckonAll_100 (lv_at hl 5 rfl) ?_
        refine lv_bipush (v := 20) hx hb dX12_reckonAll_102 (by decide) ?_
        refine lv_icmp_ge (tgt := 230) hx hb dX12_reckonAll_104 (by decide) (fun hc => ?_) (fun hc => ?_)
        · replace hf := it_pos hc hf
          refine lv_iload hx hb dX12_reckonAll_230 (lv_at hl 5 rfl) ?_
          refine lv_bipush (v := 28) hx hb dX12_reckonAll_232 (by decide) ?_
          refine lv_icmp_ge (tgt := 307) hx hb dX12_reckonAll_234 (by decide) (fun hc => ?_) (fun hc => ?_)
          · replace hf := it_pos hc hf
            refine lv_iload hx hb dX12_reckonAll_307 (lv_at hl 5 rfl) ?_
            refine lv_bipush (v := 28) hx hb dX12_reckonAll_309 (by decide) ?_
            refine lv_icmp_ne (tgt := 335) hx hb dX12_reckonAll_311 (by decide) (fun hc => ?_) (fun hc => ?_)
            · replace hf := it_neg hc hf
              refine lv_aload_n hx hb dX12_reckonAll_335 rfl (lv_at hl 2 rfl) ?_
              refine mg_37 E hP dX12_reckonAll_336 ?_
              refine lv_iload_n hx hb dX12_reckonAll_339 rfl (lv_at hl 4 rfl) ?_
              refine lv_iconst (v := 1) hx hb dX12_reckonAll_340 (by decide) ?_
              refine lv_isub hx hb dX12_reckonAll_341 ?_
              obtain ⟨hi, hf⟩ := gi_some hf
              refine ml_37 E hP hi dX12_reckonAll_342 ?_
              refine lv_iload hx hb dX12_reckonAll_343 (lv_at hl 5 rfl) ?_
              refine lv_bipush (v := 29) hx hb dX12_reckonAll_345 (by decide) ?_
              refine lv_icmp_ne (tgt := 354) hx hb dX12_reckonAll_347 (by decide) (fun hc => ?_) (fun hc => ?_)
              · replace hf := it_neg hc hf
                refine lv_lconst (v := 1) hx hb dX12_reckonAll_354 (by decide) ?_
                exact B355 v2 v3 x6 w0 (1 : Int64) (st.2.2.2.1 37 (v3 - (1 : Int32)).toNatClampNeg) st _ _ ls hf (lv_sub hl [2, 3, 4, 0, 1] rfl) hP hS
              · replace hf := it_pos hc hf
                refine lv_lconst (v := 0) hx hb dX12_reckonAll_350 (by decide) ?_
                refine lv_goto (tgt := 355) hx hb dX12_reckonAll_351 (by decide) ?_
                exact B355 v2 v3 x6 w0 (0 : Int64) (st.2.2.2.1 37 (v3 - (1 : Int32)).toNatClampNeg) st _ _ ls hf (lv_sub hl [2, 3, 4, 0, 1] rfl) hP hS
            · replace hf := it_pos hc hf
              refine lv_aload_n hx hb dX12_reckonAll_314 rfl (lv_at hl 2 rfl) ?_
              refine mg_37 E hP dX12_reckonAll_315 ?_
              refine lv_iload_n hx hb dX12_reckonAll_318 rfl (lv_at hl 4 rfl) ?_
              refine lv_iconst (v := 1) hx hb dX12_reckonAll_319 (by decide) ?_
              refine lv_isub hx hb dX12_reckonAll_320 ?_
              refine lv_lconst (v := 1) hx hb dX12_reckonAll_321 (by decide) ?_
              refine lv_aload_n hx hb dX12_reckonAll_322 rfl (lv_at hl 2 rfl) ?_
              refine mg_37 E hP dX12_reckonAll_323 ?_
              refine lv_iload_n hx hb dX12_reckonAll_326 rfl (lv_at hl 4 rfl) ?_
              refine lv_iconst (v := 1) hx hb dX12_reckonAll_327 (by decide) ?_
              refine lv_isub hx hb dX12_reckonAll_328 ?_
              obtain ⟨hi, hf⟩ := gi_some hf
              refine ml_37 E hP hi dX12_reckonAll_329 ?_
              refine lv_lsub hx hb dX12_reckonAll_330 ?_
              obtain ⟨hi, hf⟩ := gi_some hf
              refine ms_37 E hD hP hS hi dX12_reckonAll_331 (fun st7 H locs ex hP hS => ?_)
              replace hf := lt_at ex hf; clear ex
              refine lv_goto (tgt := 369) hx hb dX12_reckonAll_332 (by decide) ?_
              exact B369 v2 v3 x6 st7 _ _ ls hf (lv_sub hl [2, 3, 4, 0] rfl) hP hS
          · replace hf := it_neg hc hf
            obtain ⟨x8, ex⟩ : ∃ y : Int32, y = v3 + (-1 : Int32) := ⟨_, rfl⟩
            replace hf := lt_at ex hf
            refine lv_iinc (v := x8) (lv' := [(3, .int x8), (4, .int x6), (6, .int w0), (0, .ref (ad 100)), (2, .int v2), (5, .int v5)]) hx hb dX12_reckonAll_237 hl (k := 4) rfl (by rw [ex]; rfl) (by decide) rfl (fun ls hl => ?_)
            clear ex
            refine lv_aload_n hx hb dX12_reckonAll_240 rfl (lv_at hl 3 rfl) ?_
            refine mg_37 E hP dX12_reckonAll_241 ?_
            refine lv_iload_n hx hb dX12_reckonAll_244 rfl (lv_at hl 0 rfl) ?_
            refine lv_iconst (v := 1) hx hb dX12_reckonAll_245 (by decide) ?_
            refine lv_isub hx hb dX12_reckonAll_246 ?_
            refine lv_aload_n hx hb dX12_reckonAll_247 rfl (lv_at hl 3 rfl) ?_
            refine lv_iload hx hb dX12_reckonAll_248 (lv_at hl 5 rfl) ?_
            refine lv_aload_n hx hb dX12_reckonAll_250 rfl (lv_at hl 3 rfl) ?_
            refine mg_37 E hP dX12_reckonAll_251 ?_
            refine lv_iload_n hx hb dX12_reckonAll_254 rfl (lv_at hl 0 rfl) ?_
            refine lv_iconst (v := 1) hx hb dX12_reckonAll_255 (by decide) ?_
            refine lv_isub hx hb dX12_reckonAll_256 ?_
            obtain ⟨hi, hf⟩ := gi_some hf
            refine ml_37 E hP hi dX12_reckonAll_257 ?_
            refine lv_aload_n hx hb dX12_reckonAll_258 rfl (lv_at hl 3 rfl) ?_
            refine mg_37 E hP dX12_reckonAll_259 ?_
            refine lv_iload_n hx hb dX12_reckonAll_262 rfl (lv_at hl 0 rfl) ?_
            obtain ⟨hi, hf⟩ := gi_some hf
            refine ml_37 E hP hi dX12_reckonAll_263 ?_
            obtain ⟨r9, st10, hc, hf⟩ := bd_some hf
            refine m_calll (n := 3) (rest := [.int (x8 - (1 : Int32)), .ref (ad 37)]) E hP hS (fun sz => tX12_reckon l D cy ad hJ sz v5 (st.2.2.2.1 37 (x8 - (1 : Int32)).toNatClampNeg) (st.2.2.2.1 37 x8.toNatClampNeg) st r9 st10 hc) (gV k_1582 k_1584 ks_72 k_14 k_1585) qX12_reckon ⟨Nat.le_of_ble_eq_true rfl, Nat.le_of_ble_eq_true rfl⟩ ⟨Nat.le_refl _, Nat.le_refl _⟩ rfl hl.1 rfl (Nat.le_of_ble_eq_true rfl) dX12_reckonAll_264 (fun H locs hP hS => ?_)
            obtain ⟨hi, hf⟩ := gi_some hf
            refine ms_37 E hD hP hS hi dX12_reckonAll_267 (fun st11 H locs ex hP hS => ?_)
            replace hf := lt_at ex hf; clear ex
            refine lv_aload_n hx hb dX12_reckonAll_268 rfl (lv_at hl 3 rfl) ?_
            refine lv_aload_n hx hb dX12_reckonAll_269 rfl (lv_at hl 3 rfl) ?_
            refine mg_38 E hP dX12_reckonAll_270 ?_
            refine lv_if_ne (tgt := 296) hx hb dX12_reckonAll_273 (by decide) (fun hc => ?_) (fun hc => ?_)
            · replace hf := it_neg hc hf
              exact B296 v2 x8 x6 st11 _ _ ls hf (lv_sub hl [3, 4, 0, 1] rfl) hP hS
            · replace hf := it_pos hc hf
              refine lv_aload_n hx hb dX12_reckonAll_276 rfl (lv_at hl 3 rfl) ?_
              refine mg_37 E hP dX12_reckonAll_277 ?_
              refine lv_iload_n hx hb dX12_reckonAll_280 rfl (lv_at hl 0 rfl) ?_
              refine lv_iconst (v := 1) hx hb dX12_reckonAll_281 (by decide) ?_
              refine lv_isub hx hb dX12_reckonAll_282 ?_
              obtain ⟨hi, hf⟩ := gi_some hf
              refine ml_37 E hP hi dX12_reckonAll_283 ?_
              refine lv_ldc2 (v := -1000000000) hx hb hown (hT _ k_1586) dX12_reckonAll_284 ?_
              refine lv_ldc2 (v := 1000000000) hx hb hown (hT _ k_1587) dX12_reckonAll_287 ?_
              obtain ⟨r12, hc, hf⟩ := bs_some hf
              refine s_calli (n := 3) (rest := [.ref (ad 100)]) E.1 (tX12_in l _ (st11.2.2.2.1 37 (x8 - (1 : Int32)).toNatClampNeg) (-1000000000 : Int64) (1000000000 : Int64) r12 hc) (gS k_1350 k_1351 k_14 k_1352) qX12_in ⟨Nat.le_of_ble_eq_true rfl, Nat.le_of_ble_eq_true rfl⟩ ⟨Nat.le_refl _, Nat.le_refl _⟩ rfl hl.1 rfl (Nat.le_of_ble_eq_true rfl) dX12_reckonAll_290 ?_
              refine lv_if_ne (tgt := 300) hx hb dX12_reckonAll_293 (by decide) (fun hc => ?_) (fun hc => ?_)
              · replace hf := it_neg hc hf
                refine lv_iconst (v := 0) hx hb dX12_reckonAll_300 (by decide) ?_
                exact B301 v2 x8 x6 (0 : Int32) st11 _ _ ls hf (lv_sub hl [3, 4, 0, 1] rfl) hP hS
              · replace hf := it_pos hc hf
                exact B296 v2 x8 x6 st11 _ _ ls hf (lv_sub hl [3, 4, 0, 1] rfl) hP hS
        · replace hf := it_neg hc hf
          refine lv_aload_n hx hb dX12_reckonAll_107 rfl (lv_at hl 2 rfl) ?_
          refine mg_37 E hP dX12_reckonAll_108 ?_
          refine lv_iload_n hx hb dX12_reckonAll_111 rfl (lv_at hl 4 rfl) ?_
          refine lv_iload hx hb dX12_reckonAll_112 (lv_at hl 5 rfl) ?_
          refine lv_if_ne (tgt := 123) hx hb dX12_reckonAll_114 (by decide) (fun hc => ?_) (fun hc => ?_)
          · replace hf := it_neg hc hf
            refine lv_aload_n hx hb dX12_reckonAll_123 rfl (lv_at hl 2 rfl) ?_
            refine mg_20 E hP dX12_reckonAll_124 ?_
            refine lv_if_ne (tgt := 140) hx hb dX12_reckonAll_127 (by decide) (fun hc => ?_) (fun hc => ?_)
            · replace hf := it_neg hc hf
              refine lv_iload hx hb dX12_reckonAll_140 (lv_at hl 5 rfl) ?_
              refine lv_iconst (v := 4) hx hb dX12_reckonAll_142 (by decide) ?_
              refine lv_icmp_ge (tgt := 156) hx hb dX12_reckonAll_143 (by decide) (fun hc => ?_) (fun hc => ?_)
              · replace hf := it_pos hc hf
                refine lv_iload hx hb dX12_reckonAll_156 (lv_at hl 5 rfl) ?_
                refine lv_bipush (v := 6) hx hb dX12_reckonAll_158 (by decide) ?_
                refine lv_icmp_ne (tgt := 177) hx hb dX12_reckonAll_160 (by decide) (fun hc => ?_) (fun hc => ?_)
                · replace hf := it_neg hc hf
                  refine lv_aload_n hx hb dX12_reckonAll_177 rfl (lv_at hl 2 rfl) ?_
                  refine lv_iload hx hb dX12_reckonAll_178 (lv_at hl 1 rfl) ?_
                  obtain ⟨r13, st14, hc, hf⟩ := bd_some hf
                  refine m_calli (n := 1) (rest := [.int v3, .ref (ad 37)]) E hP hS (fun sz => tX12_isFort l D cy ad hJ sz w0 st r13 st14 hc) (gV k_1371 k_1373 ks_40 k_14 k_1374) qX12_isFort ⟨Nat.le_of_ble_eq_true rfl, Nat.le_of_ble_eq_true rfl⟩ ⟨Nat.le_refl _, Nat.le_refl _⟩ rfl hl.1 rfl (Nat.le_of_ble_eq_true rfl) dX12_reckonAll_180 (fun H locs hP hS => ?_)
                  refine lv_if_ne (tgt := 192) hx hb dX12_reckonAll_183 (by decide) (fun hc => ?_) (fun hc => ?_)
                  · replace hf := it_neg hc hf
                    refine lv_iload hx hb dX12_reckonAll_192 (lv_at hl 5 rfl) ?_
                    refine lv_iconst (v := 4) hx hb dX12_reckonAll_194 (by decide) ?_
                    refine lv_icmp_ne (tgt := 212) hx hb dX12_reckonAll_195 (by decide) (fun hc => ?_) (fun hc => ?_)
                    · replace hf := it_neg hc hf
                      refine lv_aload_n hx hb dX12_reckonAll_212 rfl (lv_at hl 2 rfl) ?_
                      refine mg_3 E hP dX12_reckonAll_213 ?_
                      refine lv_bipush (v := 19) hx hb dX12_reckonAll_216 (by decide) ?_
                      refine lv_iload hx hb dX12_reckonAll_218 (lv_at hl 1 rfl) ?_
                      refine lv_iadd hx hb dX12_reckonAll_220 ?_
                      obtain ⟨hi, hf⟩ := gi_some hf
                      refine ml_3 E hP hi dX12_reckonAll_221 ?_
                      refine lv_i2l (v := (st14.2.2.1 3 ((19 : Int32) + w0).toNatClampNeg).toInt64) hx hb dX12_reckonAll_222 rfl ?_
                      exact B223 v2 v3 x6 ((st14.2.2.1 3 ((19 : Int32) + w0).toNatClampNeg).toInt64) v3 st14 _ _ ls hf (lv_sub hl [2, 3, 4, 0] rfl) hP hS
                    · replace hf := it_pos hc hf
                      refine lv_aload_n hx hb dX12_reckonAll_198 rfl (lv_at hl 2 rfl) ?_
                      refine mg_3 E hP dX12_reckonAll_199 ?_
                      refine lv_bipush (v := 13) hx hb dX12_reckonAll_202 (by decide) ?_
                      refine lv_iload hx hb dX12_reckonAll_204 (lv_at hl 1 rfl) ?_
                      refine lv_iadd hx hb dX12_reckonAll_206 ?_
                      obtain ⟨hi, hf⟩ := gi_some hf
                      refine ml_3 E hP hi dX12_reckonAll_207 ?_
                      refine lv_i2l (v := (st14.2.2.1 3 ((13 : Int32) + w0).toNatClampNeg).toInt64) hx hb dX12_reckonAll_208 rfl ?_
                      refine lv_goto (tgt := 223) hx hb dX12_reckonAll_209 (by decide) ?_
                      exact B223 v2 v3 x6 ((st14.2.2.1 3 ((13 : Int32) + w0).toNatClampNeg).toInt64) v3 st14 _ _ ls hf (lv_sub hl [2, 3, 4, 0] rfl) hP hS
                  · replace hf := it_pos hc hf
                    refine lv_ldc2 (v := -1) hx hb hown (hT _ k_1465) dX12_reckonAll_186 ?_
                    refine lv_goto (tgt := 223) hx hb dX12_reckonAll_189 (by decide) ?_
                    exact B223 v2 v3 x6 (-1 : Int64) v3 st14 _ _ ls hf (lv_sub hl [2, 3, 4, 0] rfl) hP hS
                · replace hf := it_pos hc hf
                  refine lv_aload_n hx hb dX12_reckonAll_163 rfl (lv_at hl 2 rfl) ?_
                  refine mg_3 E hP dX12_reckonAll_164 ?_
                  refine lv_bipush (v := 9) hx hb dX12_reckonAll_167 (by decide) ?_
                  refine lv_iload hx hb dX12_reckonAll_169 (lv_at hl 1 rfl) ?_
                  refine lv_iadd hx hb dX12_reckonAll_171 ?_
                  obtain ⟨hi, hf⟩ := gi_some hf
                  refine ml_3 E hP hi dX12_reckonAll_172 ?_
                  refine lv_i2l (v := (st.2.2.1 3 ((9 : Int32) + w0).toNatClampNeg).toInt64) hx hb dX12_reckonAll_173 rfl ?_
                  refine lv_goto (tgt := 223) hx hb dX12_reckonAll_174 (by decide) ?_
                  exact B223 v2 v3 x6 ((st.2.2.1 3 ((9 : Int32) + w0).toNatClampNeg).toInt64) v3 st _ _ ls hf (lv_sub hl [2, 3, 4, 0] rfl) hP hS
              · replace hf := it_neg hc hf
                refine lv_aload_n hx hb dX12_reckonAll_146 rfl (lv_at hl 2 rfl) ?_
                refine mg_36 E hP dX12_reckonAll_147 ?_
                refine lv_iload hx hb dX12_reckonAll_150 (lv_at hl 5 rfl) ?_
                obtain ⟨hi, hf⟩ := gi_some hf
                refine ml_36 E hP hi dX12_reckonAll_152 ?_
                refine lv_goto (tgt := 223) hx hb dX12_reckonAll_153 (by decide) ?_
                exact B223 v2 v3 x6 (st.2.2.2.1 36 v5.toNatClampNeg) v3 st _ _ ls hf (lv_sub hl [2, 3, 4, 0] rfl) hP hS
            · replace hf := it_pos hc hf
              refine lv_aload_n hx hb dX12_reckonAll_130 rfl (lv_at hl 2 rfl) ?_
              refine mg_35 E hP dX12_reckonAll_131 ?_
              refine lv_iload hx hb dX12_reckonAll_134 (lv_at hl 5 rfl) ?_
              obtain ⟨hi, hf⟩ := gi_some hf
              refine ml_35 E hP hi dX12_reckonAll_136 ?_
              refine lv_goto (tgt := 223) hx hb dX12_reckonAll_137 (by decide) ?_
              exact B223 v2 v3 x6 (st.2.2.2.1 35 v5.toNatClampNeg) v3 st _ _ ls hf (lv_sub hl [2, 3, 4, 0] rfl) hP hS
          · replace hf := it_pos hc hf
            refine lv_iload hx hb dX12_reckonAll_117 (lv_at hl 1 rfl) ?_
            refine lv_i2l (v := w0.toInt64) hx hb dX12_reckonAll_119 rfl ?_
            refine lv_goto (tgt := 223) hx hb dX12_reckonAll_120 (by decide) ?_
            exact B223 v2 v3 x6 (w0.toInt64) v3 st _ _ ls hf (lv_sub hl [2, 3, 4, 0] rfl) hP hS
      have B57 : ∀ (v2 : Int32) (v3 : Int32) (v4 : Int32) (w0 : Int32) (st : St) (H : Heap) (locs : List Loc) (ls : Array Slot), fX12_reckonAll_b57 k10 v2 v3 v4 w0 st = some (rr, st') → lv_has ls 7 [(0, .ref (ad 100)), (2, .int v2), (3, .int v3), (4, .int v4)] → va_P D classes (mw cy ad st) H → va_S (mA ad s.heap.size) s.heap H locs → mGv l 2 D cy ad rr st' p e s m args below meth c H locs (F0 m 57 ls [.int w0]) := by
        intro v2 v3 v4 w0 st H locs ls hf hl hP hS
        unfold fX12_reckonAll_b57 at hf
        refine lv_istore (lv' := [(5, .int w0), (0, .ref (ad 100)), (2, .int v2), (3, .int v3), (4, .int v4)]) hx hb dX12_reckonAll_57 hl (by decide) rfl (fun ls hl => ?_)
        refine lv_aload_n hx hb dX12_reckonAll_59 rfl (lv_at hl 1 rfl) ?_
        refine mg_20 E hP dX12_reckonAll_60 ?_
        refine lv_if_eq (tgt := 76) hx hb dX12_reckonAll_63 (by decide) (fun hc => ?_) (fun hc => ?_)
        · replace hf := it_pos hc hf
          refine lv_aload_n hx hb dX12_reckonAll_76 rfl (lv_at hl 1 rfl) ?_
          refine mg_3 E hP dX12_reckonAll_77 ?_
          refine lv_aload_n hx hb dX12_reckonAll_80 rfl (lv_at hl 1 rfl) ?_
          refine mg_34 E hP dX12_reckonAll_81 ?_
          refine lv_bipush (v := 98) hx hb dX12_reckonAll_84 (by decide) ?_
          refine lv_iadd hx hb dX12_reckonAll_86 ?_
          refine lv_iconst (v := 2) hx hb dX12_reckonAll_87 (by decide) ?_
          refine lv_iload hx hb dX12_reckonAll_88 (lv_at hl 4 rfl) ?_
          refine lv_imul hx hb dX12_reckonAll_90 ?_
          refine lv_iadd hx hb dX12_reckonAll_91 ?_
          refine lv_iconst (v := 1) hx hb dX12_reckonAll_92 (by decide) ?_
          refine lv_iadd hx hb dX12_reckonAll_93 ?_
          obtain ⟨hi, hf⟩ := gi_some hf
          refine ml_3 E hP hi dX12_reckonAll_94 ?_
          exact B95 v2 v3 v4 w0 (st.2.2.1 3 ((((st.1 34) + (98 : Int32)) + ((2 : Int32) * v4)) + (1 : Int32)).toNatClampNeg) st _ _ ls hf (lv_sub hl [1, 2, 3, 4, 0] rfl) hP hS
        · replace hf := it_neg hc hf
          refine lv_aload_n hx hb dX12_reckonAll_66 rfl (lv_at hl 1 rfl) ?_
          refine mg_25 E hP dX12_reckonAll_67 ?_
          refine lv_iload hx hb dX12_reckonAll_70 (lv_at hl 4 rfl) ?_
          obtain ⟨hi, hf⟩ := gi_some hf
          refine ml_25 E hP hi dX12_reckonAll_72 ?_
          refine lv_goto (tgt := 95) hx hb dX12_reckonAll_73 (by decide) ?_
          exact B95 v2 v3 v4 w0 (st.2.2.1 25 v4.toNatClampNeg) st _ _ ls hf (lv_sub hl [1, 2, 3, 4, 0] rfl) hP hS
      unfold fX12_reckonAll_b10 at hf
      refine lv_iload hx hb dX12_reckonAll_10 (lv_at hl 3 rfl) ?_
      refine lv_iload_n hx hb dX12_reckonAll_12 rfl (lv_at hl 1 rfl) ?_
      refine lv_icmp_ge (tgt := 372) hx hb dX12_reckonAll_13 (by decide) (fun hc => ?_) (fun hc => ?_)
      · replace hf := it_pos hc hf
        exact B372 v3 st _ _ ls hf (lv_sub hl [0, 2] rfl) hP hS
      · replace hf := it_neg hc hf
        refine lv_aload_n hx hb dX12_reckonAll_16 rfl (lv_at hl 0 rfl) ?_
        refine mg_38 E hP dX12_reckonAll_17 ?_
        refine lv_if_ne (tgt := 372) hx hb dX12_reckonAll_20 (by decide) (fun hc => ?_) (fun hc => ?_)
        · replace hf := it_neg hc hf
          exact B372 v3 st _ _ ls hf (lv_sub hl [0, 2] rfl) hP hS
        · replace hf := it_pos hc hf
          refine lv_aload_n hx hb dX12_reckonAll_23 rfl (lv_at hl 0 rfl) ?_
          refine mg_20 E hP dX12_reckonAll_24 ?_
          refine lv_if_eq (tgt := 40) hx hb dX12_reckonAll_27 (by decide) (fun hc => ?_) (fun hc => ?_)
          · replace hf := it_pos hc hf
            refine lv_aload_n hx hb dX12_reckonAll_40 rfl (lv_at hl 0 rfl) ?_
            refine mg_3 E hP dX12_reckonAll_41 ?_
            refine lv_aload_n hx hb dX12_reckonAll_44 rfl (lv_at hl 0 rfl) ?_
            refine mg_34 E hP dX12_reckonAll_45 ?_
            refine lv_bipush (v := 98) hx hb dX12_reckonAll_48 (by decide) ?_
            refine lv_iadd hx hb dX12_reckonAll_50 ?_
            refine lv_iconst (v := 2) hx hb dX12_reckonAll_51 (by decide) ?_
            refine lv_iload hx hb dX12_reckonAll_52 (lv_at hl 3 rfl) ?_
            refine lv_imul hx hb dX12_reckonAll_54 ?_
            refine lv_iadd hx hb dX12_reckonAll_55 ?_
            obtain ⟨hi, hf⟩ := gi_some hf
            refine ml_3 E hP hi dX12_reckonAll_56 ?_
            exact B57 v2 v3 v4 (st.2.2.1 3 (((st.1 34) + (98 : Int32)) + ((2 : Int32) * v4)).toNatClampNeg) st _ _ ls hf hl hP hS
          · replace hf := it_neg hc hf
            refine lv_aload_n hx hb dX12_reckonAll_30 rfl (lv_at hl 0 rfl) ?_
            refine mg_24 E hP dX12_reckonAll_31 ?_
            refine lv_iload hx hb dX12_reckonAll_34 (lv_at hl 3 rfl) ?_
            obtain ⟨hi, hf⟩ := gi_some hf
            refine ml_24 E hP hi dX12_reckonAll_36 ?_
            refine lv_goto (tgt := 57) hx hb dX12_reckonAll_37 (by decide) ?_
            exact B57 v2 v3 v4 (st.2.2.1 24 v4.toNatClampNeg) st _ _ ls hf hl hP hS
  refine lv_aload_n hx hb dX12_reckonAll_0 rfl (lv_at hl 0 rfl) ?_
  refine lv_iconst (v := 0) hx hb dX12_reckonAll_1 (by decide) ?_
  refine mp_38 E hD hP hS (by decide) dX12_reckonAll_2 (fun st15 H locs ex hP hS => ?_)
  replace hf := lt_at ex hf; clear ex
  refine lv_iconst (v := 0) hx hb dX12_reckonAll_5 (by decide) ?_
  refine lv_istore_n (lv' := [(3, .int (0 : Int32)), (0, .ref (ad 100)), (1, .int a0), (2, .int a1)]) hx hb dX12_reckonAll_6 rfl hl (by decide) rfl (fun ls hl => ?_)
  refine lv_iload_n hx hb dX12_reckonAll_7 rfl (lv_at hl 2 rfl) ?_
  refine lv_istore (lv' := [(4, .int a0), (3, .int (0 : Int32)), (0, .ref (ad 100)), (1, .int a0), (2, .int a1)]) hx hb dX12_reckonAll_8 hl (by decide) rfl (fun ls hl => ?_)
  exact L10 6000 a1 (0 : Int32) a0 st15 _ _ ls hf (lv_sub hl [2, 4, 1, 0] rfl) hP hS
theorem qX12_reckonAll : yX12_reckonAll.cls = RX12 ∧ yX12_reckonAll.cls ≠ "java/lang/invoke/MethodHandle" ∧ yX12_reckonAll.cls ≠ "java/lang/invoke/VarHandle" ∧ (parseMethodDescriptor yX12_reckonAll.desc).map (fun d => d.parameters.length) = some 2 := by decide +kernel
def fX12_isSo_b109 (w0 : Int32) (st : St) : Option (Int32 × St) := gb w0 (some (w0, st))
def fX12_isSo_b59 (v1 : Int32) (st : St) : Option (Int32 × St) := gi v1 5550 (if (st.2.2.1 3 v1.toNatClampNeg) = (3 : Int32) then (some ((1 : Int32), st)) else (gi (v1 + (3 : Int32)) 5550 (gi (v1 + (4 : Int32)) 5550 (bd (fX12_reckonAll (st.2.2.1 3 (v1 + (3 : Int32)).toNatClampNeg) (st.2.2.1 3 (v1 + (4 : Int32)).toNatClampNeg) st) (fun r1 st2 => lt (sJ st2 40 (st2.2.1 39)) (fun st3 => if (st3.1 38) = 0 then (fX12_isSo_b109 (1 : Int32) st3) else (fX12_isSo_b109 (0 : Int32) st3)))))))
def fX12_isSo_b57 (st : St) : Option (Int32 × St) := some ((0 : Int32), st)
def fX12_isSo (a0 : Int32) (st : St) : Option (Int32 × St) := gi (a0 + (5 : Int32)) 5550 (gi (a0 + (6 : Int32)) 5550 (if (st.2.2.1 3 (a0 + (6 : Int32)).toNatClampNeg) ≤ (st.2.2.1 3 (a0 + (5 : Int32)).toNatClampNeg) then (fX12_isSo_b59 a0 st) else (gi (a0 + (5 : Int32)) 5550 (gi (a0 + (6 : Int32)) 5550 (bd (fX12_reckonAll (st.2.2.1 3 (a0 + (5 : Int32)).toNatClampNeg) (st.2.2.1 3 (a0 + (6 : Int32)).toNatClampNeg) st) (fun r4 st5 => if (st5.1 38) = 0 then (if (lg_cmp (st5.2.1 39) (0 : Int64)) = 0 then (fX12_isSo_b57 st5) else (fX12_isSo_b59 a0 st5)) else (fX12_isSo_b57 st5)))))))
set_option maxHeartbeats 4000000 in
set_option maxRecDepth 100000 in
theorem tX12_isSo (l : Launch) (D : va_G) (cy : Nat → ClassId) (ad : Nat → Nat) (hJ : (mads ad).Nodup) (sz : Nat) (a0 : Int32) (st : St) (rr : Int32) (st' : St) (hf : fX12_isSo a0 st = some (rr, st')) : Met l yX12_isSo (Cond.code yX12_isSo cX12_isSo 2 (some .boolean) :: TT) (rmD 3) (mPc D cy ad [.int a0] st sz) (mQi D cy ad rr st' sz) 0 0 (mA ad sz) := by
  refine m_meti (by decide) hJ (Nat.le_of_ble_eq_true rfl) (fun p e s m args below meth c ls E hx hb hr hlocks hown hT hD hl hP hS => ?_)
  replace hl : lv_has ls 2 [(0, .ref (ad 100)), (1, .int a0)] := hl
  unfold fX12_isSo at hf
  have B109 : ∀ (w0 : Int32) (st : St) (H : Heap) (locs : List Loc) (ls : Array Slot), fX12_isSo_b109 w0 st = some (rr, st') → lv_has ls 2 [] → va_P D classes (mw cy ad st) H → va_S (mA ad s.heap.size) s.heap H locs → mGi l 3 D cy ad rr st' p e s m args below meth c H locs (F0 m 109 ls [.int w0]) := by
    intro w0 st H locs ls hf hl hP hS
    unfold fX12_isSo_b109 at hf
    obtain ⟨hn, hf⟩ := gb_some hf
    exact m_zret hx hb hr hlocks hn hf hP hS dX12_isSo_109
  have B59 : ∀ (v1 : Int32) (st : St) (H : Heap) (locs : List Loc) (ls : Array Slot), fX12_isSo_b59 v1 st = some (rr, st') → lv_has ls 2 [(0, .ref (ad 100)), (1, .int v1)] → va_P D classes (mw cy ad st) H → va_S (mA ad s.heap.size) s.heap H locs → mGi l 3 D cy ad rr st' p e s m args below meth c H locs (F0 m 59 ls []) := by
    intro v1 st H locs ls hf hl hP hS
    unfold fX12_isSo_b59 at hf
    refine lv_aload_n hx hb dX12_isSo_59 rfl (lv_at hl 0 rfl) ?_
    refine mg_3 E hP dX12_isSo_60 ?_
    refine lv_iload_n hx hb dX12_isSo_63 rfl (lv_at hl 1 rfl) ?_
    obtain ⟨hi, hf⟩ := gi_some hf
    refine ml_3 E hP hi dX12_isSo_64 ?_
    refine lv_iconst (v := 3) hx hb dX12_isSo_65 (by decide) ?_
    refine lv_icmp_eq (tgt := 110) hx hb dX12_isSo_66 (by decide) (fun hc => ?_) (fun hc => ?_)
    · replace hf := it_pos hc hf
      refine lv_iconst (v := 1) hx hb dX12_isSo_110 (by decide) ?_
      exact m_zret hx hb hr hlocks (by decide) hf hP hS dX12_isSo_111
    · replace hf := it_neg hc hf
      refine lv_aload_n hx hb dX12_isSo_69 rfl (lv_at hl 0 rfl) ?_
      refine lv_aload_n hx hb dX12_isSo_70 rfl (lv_at hl 0 rfl) ?_
      refine mg_3 E hP dX12_isSo_71 ?_
      refine lv_iload_n hx hb dX12_isSo_74 rfl (lv_at hl 1 rfl) ?_
      refine lv_iconst (v := 3) hx hb dX12_isSo_75 (by decide) ?_
      refine lv_iadd hx hb dX12_isSo_76 ?_
      obtain ⟨hi, hf⟩ := gi_some hf
      refine ml_3 E hP hi dX12_isSo_77 ?_
      refine lv_aload_n hx hb dX12_isSo_78 rfl (lv_at hl 0 rfl) ?_
      refine mg_3 E hP dX12_isSo_79 ?_
      refine lv_iload_n hx hb dX12_isSo_82 rfl (lv_at hl 1 rfl) ?_
      refine lv_iconst (v := 4) hx hb dX12_isSo_83 (by decide) ?_
      refine lv_iadd hx hb dX12_isSo_84 ?_
      obtain ⟨hi, hf⟩ := gi_some hf
      refine ml_3 E hP hi dX12_isSo_85 ?_
      obtain ⟨r1, st2, hc, hf⟩ := bd_some hf
      refine m_callv (n := 2) (rest := []) E hP hS (fun sz => tX12_reckonAll l D cy ad hJ sz (st.2.2.1 3 (v1 + (3 : Int32)).toNatClampNeg) (st.2.2.1 3 (v1 + (4 : Int32)).toNatClampNeg) st r1 st2 hc) (gV k_1578 k_1580 ks_71 k_14 k_1581) qX12_reckonAll ⟨Nat.le_of_ble_eq_true rfl, Nat.le_of_ble_eq_true rfl⟩ ⟨Nat.le_refl _, Nat.le_refl _⟩ rfl hl.1 rfl (Nat.le_of_ble_eq_true rfl) dX12_isSo_86 (fun H locs hP hS => ?_)
      refine lv_aload_n hx hb dX12_isSo_89 rfl (lv_at hl 0 rfl) ?_
      refine lv_aload_n hx hb dX12_isSo_90 rfl (lv_at hl 0 rfl) ?_
      refine mg_39 E hP dX12_isSo_91 ?_
      refine mp_40 E hD hP hS dX12_isSo_94 (fun st3 H locs ex hP hS => ?_)
      replace hf := lt_at ex hf; clear ex
      refine lv_aload_n hx hb dX12_isSo_97 rfl (lv_at hl 0 rfl) ?_
      refine mg_38 E hP dX12_isSo_98 ?_
      refine lv_if_ne (tgt := 108) hx hb dX12_isSo_101 (by decide) (fun hc => ?_) (fun hc => ?_)
      · replace hf := it_neg hc hf
        refine lv_iconst (v := 0) hx hb dX12_isSo_108 (by decide) ?_
        exact B109 (0 : Int32) st3 _ _ ls hf (lv_sub hl [] rfl) hP hS
      · replace hf := it_pos hc hf
        refine lv_iconst (v := 1) hx hb dX12_isSo_104 (by decide) ?_
        refine lv_goto (tgt := 109) hx hb dX12_isSo_105 (by decide) ?_
        exact B109 (1 : Int32) st3 _ _ ls hf (lv_sub hl [] rfl) hP hS
  have B57 : ∀ (st : St) (H : Heap) (locs : List Loc) (ls : Array Slot), fX12_isSo_b57 st = some (rr, st') → lv_has ls 2 [] → va_P D classes (mw cy ad st) H → va_S (mA ad s.heap.size) s.heap H locs → mGi l 3 D cy ad rr st' p e s m args below meth c H locs (F0 m 57 ls []) := by
    intro st H locs ls hf hl hP hS
    unfold fX12_isSo_b57 at hf
    refine lv_iconst (v := 0) hx hb dX12_isSo_57 (by decide) ?_
    exact m_zret hx hb hr hlocks (by decide) hf hP hS dX12_isSo_58
  refine lv_aload_n hx hb dX12_isSo_0 rfl (lv_at hl 0 rfl) ?_
  refine mg_3 E hP dX12_isSo_1 ?_
  refine lv_iload_n hx hb dX12_isSo_4 rfl (lv_at hl 1 rfl) ?_
  refine lv_iconst (v := 5) hx hb dX12_isSo_5 (by decide) ?_
  refine lv_iadd hx hb dX12_isSo_6 ?_
  obtain ⟨hi, hf⟩ := gi_some hf
  refine ml_3 E hP hi dX12_isSo_7 ?_
  refine lv_aload_n hx hb dX12_isSo_8 rfl (lv_at hl 0 rfl) ?_
  refine mg_3 E hP dX12_isSo_9 ?_
  refine lv_iload_n hx hb dX12_isSo_12 rfl (lv_at hl 1 rfl) ?_
  refine lv_bipush (v := 6) hx hb dX12_isSo_13 (by decide) ?_
  refine lv_iadd hx hb dX12_isSo_15 ?_
  obtain ⟨hi, hf⟩ := gi_some hf
  refine ml_3 E hP hi dX12_isSo_16 ?_
  refine lv_icmp_ge (tgt := 59) hx hb dX12_isSo_17 (by decide) (fun hc => ?_) (fun hc => ?_)
  · replace hf := it_pos hc hf
    exact B59 a0 st _ _ ls hf hl hP hS
  · replace hf := it_neg hc hf
    refine lv_aload_n hx hb dX12_isSo_20 rfl (lv_at hl 0 rfl) ?_
    refine lv_aload_n hx hb dX12_isSo_21 rfl (lv_at hl 0 rfl) ?_
    refine mg_3 E hP dX12_isSo_22 ?_
    refine lv_iload_n hx hb dX12_isSo_25 rfl (lv_at hl 1 rfl) ?_
    refine lv_iconst (v := 5) hx hb dX12_isSo_26 (by decide) ?_
    refine lv_iadd hx hb dX12_isSo_27 ?_
    obtain ⟨hi, hf⟩ := gi_some hf
    refine ml_3 E hP hi dX12_isSo_28 ?_
    refine lv_aload_n hx hb dX12_isSo_29 rfl (lv_at hl 0 rfl) ?_
    refine mg_3 E hP dX12_isSo_30 ?_
    refine lv_iload_n hx hb dX12_isSo_33 rfl (lv_at hl 1 rfl) ?_
    refine lv_bipush (v := 6) hx hb dX12_isSo_34 (by decide) ?_
    refine lv_iadd hx hb dX12_isSo_36 ?_
    obtain ⟨hi, hf⟩ := gi_some hf
    refine ml_3 E hP hi dX12_isSo_37 ?_
    obtain ⟨r4, st5, hc, hf⟩ := bd_some hf
    refine m_callv (n := 2) (rest := []) E hP hS (fun sz => tX12_reckonAll l D cy ad hJ sz (st.2.2.1 3 (a0 + (5 : Int32)).toNatClampNeg) (st.2.2.1 3 (a0 + (6 : Int32)).toNatClampNeg) st r4 st5 hc) (gV k_1578 k_1580 ks_71 k_14 k_1581) qX12_reckonAll ⟨Nat.le_of_ble_eq_true rfl, Nat.le_of_ble_eq_true rfl⟩ ⟨Nat.le_refl _, Nat.le_refl _⟩ rfl hl.1 rfl (Nat.le_of_ble_eq_true rfl) dX12_isSo_38 (fun H locs hP hS => ?_)
    refine lv_aload_n hx hb dX12_isSo_41 rfl (lv_at hl 0 rfl) ?_
    refine mg_38 E hP dX12_isSo_42 ?_
    refine lv_if_ne (tgt := 57) hx hb dX12_isSo_45 (by decide) (fun hc => ?_) (fun hc => ?_)
    · replace hf := it_neg hc hf
      exact B57 st5 _ _ ls hf (lv_sub hl [] rfl) hP hS
    · replace hf := it_pos hc hf
      refine lv_aload_n hx hb dX12_isSo_48 rfl (lv_at hl 0 rfl) ?_
      refine mg_39 E hP dX12_isSo_49 ?_
      refine lv_lconst (v := 0) hx hb dX12_isSo_52 (by decide) ?_
      refine W.lcmp hx hb dX12_isSo_53 ?_
      refine lv_if_ne (tgt := 59) hx hb dX12_isSo_54 (by decide) (fun hc => ?_) (fun hc => ?_)
      · replace hf := it_neg hc hf
        exact B59 a0 st5 _ _ ls hf hl hP hS
      · replace hf := it_pos hc hf
        exact B57 st5 _ _ ls hf (lv_sub hl [] rfl) hP hS
theorem qX12_isSo : yX12_isSo.cls = RX12 ∧ yX12_isSo.cls ≠ "java/lang/invoke/MethodHandle" ∧ yX12_isSo.cls ≠ "java/lang/invoke/VarHandle" ∧ (parseMethodDescriptor yX12_isSo.desc).map (fun d => d.parameters.length) = some 1 := by decide +kernel
def fX12_tells_b223 (k158 : Int32 → Int64 → Int32 → St → Option (Int64 × St)) (v1 : Int32) (v9 : Int64) (v11 : Int32) (st : St) : Option (Int64 × St) := lt (v11 + (1 : Int32)) (fun x1 => k158 v1 v9 x1 st)
def fX12_tells_b221 (k158 : Int32 → Int64 → Int32 → St → Option (Int64 × St)) (v1 : Int32) (v11 : Int32) (w0 : Int64) (st : St) : Option (Int64 × St) := fX12_tells_b223 k158 v1 w0 v11 st
def fX12_tells_b158 (k158 : Int32 → Int64 → Int32 → St → Option (Int64 × St)) (v1 : Int32) (v9 : Int64) (v11 : Int32) (st : St) : Option (Int64 × St) := gi ((st.1 34) + (1 : Int32)) 5550 (if (st.2.2.1 3 ((st.1 34) + (1 : Int32)).toNatClampNeg) ≤ v11 then (some (v9, st)) else (lt (((st.1 34) + (2 : Int32)) + ((8 : Int32) * v11)) (fun x2 => gi x2 5550 (if (st.2.2.1 3 x2.toNatClampNeg) = v1 then (bd (fX12_isSo x2 st) (fun r3 st4 => if r3 = 0 then (fX12_tells_b223 k158 v1 v9 v11 st4) else (if v1 = (3 : Int32) then (fX12_tells_b221 k158 v1 v11 (1 : Int64) st4) else (fX12_tells_b221 k158 v1 v11 (st4.2.1 40) st4)))) else (fX12_tells_b223 k158 v1 v9 v11 st)))))
def fX12_tells (a0 : Int32) (a1 : Int32) (a2 : Int32) (a3 : Int32) (a4 : Int32) (a5 : Int32) (a6 : Int64) (st : St) : Option (Int64 × St) := if (st.2.2.1 3 (5 : Int32).toNatClampNeg) = (-1 : Int32) then (some (a6, st)) else (lt (sI st 34 ((150 : Int32) + ((900 : Int32) * (st.2.2.1 3 (5 : Int32).toNatClampNeg)))) (fun st5 => lt (sB st5 35 (vp_updL (st5.2.2.2.1 35) (1 : Int32).toNatClampNeg (a1.toInt64))) (fun st6 => gi ((13 : Int32) + a1) 5550 (lt (sB st6 35 (vp_updL (st6.2.2.2.1 35) (2 : Int32).toNatClampNeg ((st6.2.2.1 3 ((13 : Int32) + a1).toNatClampNeg).toInt64))) (fun st7 => gi ((31 : Int32) + a1) 5550 (lt (sB st7 35 (vp_updL (st7.2.2.2.1 35) (3 : Int32).toNatClampNeg ((st7.2.2.1 3 ((31 : Int32) + a1).toNatClampNeg).toInt64))) (fun st8 => bd (fX12_fameOf a1 st8) (fun r9 st10 => lt (sB st10 35 (vp_updL (st10.2.2.2.1 35) (4 : Int32).toNatClampNeg (r9.toInt64))) (fun st11 => lt (sB st11 35 (vp_updL (st11.2.2.2.1 35) (5 : Int32).toNatClampNeg (a2.toInt64))) (fun st12 => lt (sB st12 35 (vp_updL (st12.2.2.2.1 35) (6 : Int32).toNatClampNeg (a3.toInt64))) (fun st13 => lt (sB st13 35 (vp_updL (st13.2.2.2.1 35) (7 : Int32).toNatClampNeg (a4.toInt64))) (fun st14 => lt (sB st14 35 (vp_updL (st14.2.2.2.1 35) (8 : Int32).toNatClampNeg (a5.toInt64))) (fun st15 => lt (sB st15 35 (vp_updL (st15.2.2.2.1 35) (9 : Int32).toNatClampNeg ((st15.2.2.1 3 (6 : Int32).toNatClampNeg).toInt64))) (fun st16 => lt (sB st16 35 (vp_updL (st16.2.2.2.1 35) (10 : Int32).toNatClampNeg ((st16.2.2.1 3 (8 : Int32).toNatClampNeg).toInt64))) (fun st17 => lp (fun _ _ _ _ => none) (fX12_tells_b158) 6000 a0 a6 (0 : Int32) st17)))))))))))))))
set_option maxHeartbeats 4000000 in
set_option maxRecDepth 100000 in
theorem tX12_tells (l : Launch) (D : va_G) (cy : Nat → ClassId) (ad : Nat → Nat) (hJ : (mads ad).Nodup) (sz : Nat) (a0 : Int32) (a1 : Int32) (a2 : Int32) (a3 : Int32) (a4 : Int32) (a5 : Int32) (a6 : Int64) (st : St) (rr : Int64) (st' : St) (hf : fX12_tells a0 a1 a2 a3 a4 a5 a6 st = some (rr, st')) : Met l yX12_tells (Cond.code yX12_tells cX12_tells 13 (some .long) :: TT) (rmD 4) (mPc D cy ad [.int a0, .int a1, .int a2, .int a3, .int a4, .int a5, .long a6] st sz) (mQl D cy ad rr st' sz) 0 0 (mA ad sz) := by
  refine m_metl (by decide) hJ (Nat.le_of_ble_eq_true rfl) (fun p e s m args below meth c ls E hx hb hr hlocks hown hT hD hl hP hS => ?_)
  replace hl : lv_has ls 13 [(0, .ref (ad 100)), (1, .int a0), (2, .int a1), (3, .int a2), (4, .int a3), (5, .int a4), (6, .int a5), (7, .long a6)] := hl
  unfold fX12_tells at hf
  have L158 : ∀ (n : Nat) (v1 : Int32) (v9 : Int64) (v11 : Int32) (st : St) (H : Heap) (locs : List Loc) (ls : Array Slot), lp (fun _ _ _ _ => none) (fX12_tells_b158) n v1 v9 v11 st = some (rr, st') → lv_has ls 13 [(0, .ref (ad 100)), (1, .int v1), (9, .long v9), (11, .int v11)] → va_P D classes (mw cy ad st) H → va_S (mA ad s.heap.size) s.heap H locs → mGl l 4 D cy ad rr st' p e s m args below meth c H locs (F0 m 158 ls []) := by
    intro n
    induction n with
    | zero => intro v1 v9 v11 st H locs ls hf; exact absurd hf (fun h => by cases h)
    | succ n K158 =>
      intro v1 v9 v11 st H locs ls hf hl hP hS
      replace hf : fX12_tells_b158 (lp (fun _ _ _ _ => none) (fX12_tells_b158) n) v1 v9 v11 st = some (rr, st') := hf
      generalize lp (fun _ _ _ _ => none) (fX12_tells_b158) n = k158 at hf K158
      have B223 : ∀ (v1 : Int32) (v9 : Int64) (v11 : Int32) (st : St) (H : Heap) (locs : List Loc) (ls : Array Slot), fX12_tells_b223 k158 v1 v9 v11 st = some (rr, st') → lv_has ls 13 [(0, .ref (ad 100)), (1, .int v1), (9, .long v9), (11, .int v11)] → va_P D classes (mw cy ad st) H → va_S (mA ad s.heap.size) s.heap H locs → mGl l 4 D cy ad rr st' p e s m args below meth c H locs (F0 m 223 ls []) := by
        intro v1 v9 v11 st H locs ls hf hl hP hS
        unfold fX12_tells_b223 at hf
        obtain ⟨x1, ex⟩ : ∃ y : Int32, y = v11 + (1 : Int32) := ⟨_, rfl⟩
        replace hf := lt_at ex hf
        refine lv_iinc (v := x1) (lv' := [(11, .int x1), (0, .ref (ad 100)), (1, .int v1), (9, .long v9)]) hx hb dX12_tells_223 hl (k := 3) rfl (by rw [ex]; rfl) (by decide) rfl (fun ls hl => ?_)
        clear ex
        refine lv_goto (tgt := 158) hx hb dX12_tells_226 (by decide) ?_
        exact K158 v1 v9 x1 st _ _ ls hf (lv_sub hl [1, 2, 3, 0] rfl) hP hS
      have B221 : ∀ (v1 : Int32) (v11 : Int32) (w0 : Int64) (st : St) (H : Heap) (locs : List Loc) (ls : Array Slot), fX12_tells_b221 k158 v1 v11 w0 st = some (rr, st') → lv_has ls 13 [(0, .ref (ad 100)), (1, .int v1), (11, .int v11)] → va_P D classes (mw cy ad st) H → va_S (mA ad s.heap.size) s.heap H locs → mGl l 4 D cy ad rr st' p e s m args below meth c H locs (F0 m 221 ls [.long w0]) := by
        intro v1 v11 w0 st H locs ls hf hl hP hS
        unfold fX12_tells_b221 at hf
        refine lv_lstore (lv' := [(9, .long w0), (0, .ref (ad 100)), (1, .int v1), (11, .int v11)]) hx hb dX12_tells_221 hl (by decide) rfl (fun ls hl => ?_)
        exact B223 v1 w0 v11 st _ _ ls hf (lv_sub hl [1, 2, 0, 3] rfl) hP hS
      unfold fX12_tells_b158 at hf
      refine lv_iload hx hb dX12_tells_158 (lv_at hl 3 rfl) ?_
      refine lv_aload_n hx hb dX12_tells_160 rfl (lv_at hl 0 rfl) ?_
      refine mg_3 E hP dX12_tells_161 ?_
      refine lv_aload_n hx hb dX12_tells_164 rfl (lv_at hl 0 rfl) ?_
      refine mg_34 E hP dX12_tells_165 ?_
      refine lv_iconst (v := 1) hx hb dX12_tells_168 (by decide) ?_
      refine lv_iadd hx hb dX12_tells_169 ?_
      obtain ⟨hi, hf⟩ := gi_some hf
      refine ml_3 E hP hi dX12_tells_170 ?_
      refine lv_icmp_ge (tgt := 229) hx hb dX12_tells_171 (by decide) (fun hc => ?_) (fun hc => ?_)
      · replace hf := it_pos hc hf
        refine lv_lload hx hb dX12_tells_229 (lv_at hl 2 rfl) ?_
        exact m_lret hx hb hr hlocks hf hP hS dX12_tells_231
      · replace hf := it_neg hc hf
        refine lv_aload_n hx hb dX12_tells_174 rfl (lv_at hl 0 rfl) ?_
        refine mg_34 E hP dX12_tells_175 ?_
        refine lv_iconst (v := 2) hx hb dX12_tells_178 (by decide) ?_
        refine lv_iadd hx hb dX12_tells_179 ?_
        refine lv_bipush (v := 8) hx hb dX12_tells_180 (by decide) ?_
        refine lv_iload hx hb dX12_tells_182 (lv_at hl 3 rfl) ?_
        refine lv_imul hx hb dX12_tells_184 ?_
        refine lv_iadd hx hb dX12_tells_185 ?_
        refine lv_topi (fun x2 ex => ?_)
        replace hf := lt_at ex hf; clear ex
        refine lv_istore (lv' := [(12, .int x2), (0, .ref (ad 100)), (1, .int v1), (9, .long v9), (11, .int v11)]) hx hb dX12_tells_186 hl (by decide) rfl (fun ls hl => ?_)
        refine lv_aload_n hx hb dX12_tells_188 rfl (lv_at hl 1 rfl) ?_
        refine mg_3 E hP dX12_tells_189 ?_
        refine lv_iload hx hb dX12_tells_192 (lv_at hl 0 rfl) ?_
        obtain ⟨hi, hf⟩ := gi_some hf
        refine ml_3 E hP hi dX12_tells_194 ?_
        refine lv_iload_n hx hb dX12_tells_195 rfl (lv_at hl 2 rfl) ?_
        refine lv_icmp_ne (tgt := 223) hx hb dX12_tells_196 (by decide) (fun hc => ?_) (fun hc => ?_)
        · replace hf := it_neg hc hf
          exact B223 v1 v9 v11 st _ _ ls hf (lv_sub hl [1, 2, 3, 4] rfl) hP hS
        · replace hf := it_pos hc hf
          refine lv_aload_n hx hb dX12_tells_199 rfl (lv_at hl 1 rfl) ?_
          refine lv_iload hx hb dX12_tells_200 (lv_at hl 0 rfl) ?_
          obtain ⟨r3, st4, hc, hf⟩ := bd_some hf
          refine m_calli (n := 1) (rest := []) E hP hS (fun sz => tX12_isSo l D cy ad hJ sz x2 st r3 st4 hc) (gV k_1574 k_1576 ks_70 k_14 k_1577) qX12_isSo ⟨Nat.le_of_ble_eq_true rfl, Nat.le_of_ble_eq_true rfl⟩ ⟨Nat.le_refl _, Nat.le_refl _⟩ rfl hl.1 rfl (Nat.le_of_ble_eq_true rfl) dX12_tells_202 (fun H locs hP hS => ?_)
          refine lv_if_eq (tgt := 223) hx hb dX12_tells_205 (by decide) (fun hc => ?_) (fun hc => ?_)
          · replace hf := it_pos hc hf
            exact B223 v1 v9 v11 st4 _ _ ls hf (lv_sub hl [1, 2, 3, 4] rfl) hP hS
          · replace hf := it_neg hc hf
            refine lv_iload_n hx hb dX12_tells_208 rfl (lv_at hl 2 rfl) ?_
            refine lv_iconst (v := 3) hx hb dX12_tells_209 (by decide) ?_
            refine lv_icmp_ne (tgt := 217) hx hb dX12_tells_210 (by decide) (fun hc => ?_) (fun hc => ?_)
            · replace hf := it_neg hc hf
              refine lv_aload_n hx hb dX12_tells_217 rfl (lv_at hl 1 rfl) ?_
              refine mg_40 E hP dX12_tells_218 ?_
              exact B221 v1 v11 (st4.2.1 40) st4 _ _ ls hf (lv_sub hl [1, 2, 4] rfl) hP hS
            · replace hf := it_pos hc hf
              refine lv_lconst (v := 1) hx hb dX12_tells_213 (by decide) ?_
              refine lv_goto (tgt := 221) hx hb dX12_tells_214 (by decide) ?_
              exact B221 v1 v11 (1 : Int64) st4 _ _ ls hf (lv_sub hl [1, 2, 4] rfl) hP hS
  refine lv_aload_n hx hb dX12_tells_0 rfl (lv_at hl 0 rfl) ?_
  refine mg_3 E hP dX12_tells_1 ?_
  refine lv_iconst (v := 5) hx hb dX12_tells_4 (by decide) ?_
  refine ml_3 E hP (vi rfl) dX12_tells_5 ?_
  refine lv_iconst (v := -1) hx hb dX12_tells_6 (by decide) ?_
  refine lv_icmp_ne (tgt := 13) hx hb dX12_tells_7 (by decide) (fun hc => ?_) (fun hc => ?_)
  · replace hf := it_neg hc hf
    refine lv_aload_n hx hb dX12_tells_13 rfl (lv_at hl 0 rfl) ?_
    refine lv_sipush (v := 150) hx hb dX12_tells_14 (by decide) ?_
    refine lv_sipush (v := 900) hx hb dX12_tells_17 (by decide) ?_
    refine lv_aload_n hx hb dX12_tells_20 rfl (lv_at hl 0 rfl) ?_
    refine mg_3 E hP dX12_tells_21 ?_
    refine lv_iconst (v := 5) hx hb dX12_tells_24 (by decide) ?_
    refine ml_3 E hP (vi rfl) dX12_tells_25 ?_
    refine lv_imul hx hb dX12_tells_26 ?_
    refine lv_iadd hx hb dX12_tells_27 ?_
    refine mp_34 E hD hP hS dX12_tells_28 (fun st5 H locs ex hP hS => ?_)
    replace hf := lt_at ex hf; clear ex
    refine lv_aload_n hx hb dX12_tells_31 rfl (lv_at hl 0 rfl) ?_
    refine mg_35 E hP dX12_tells_32 ?_
    refine lv_iconst (v := 1) hx hb dX12_tells_35 (by decide) ?_
    refine lv_iload_n hx hb dX12_tells_36 rfl (lv_at hl 2 rfl) ?_
    refine lv_i2l (v := a1.toInt64) hx hb dX12_tells_37 rfl ?_
    refine ms_35 E hD hP hS (vi rfl) dX12_tells_38 (fun st6 H locs ex hP hS => ?_)
    replace hf := lt_at ex hf; clear ex
    refine lv_aload_n hx hb dX12_tells_39 rfl (lv_at hl 0 rfl) ?_
    refine mg_35 E hP dX12_tells_40 ?_
    refine lv_iconst (v := 2) hx hb dX12_tells_43 (by decide) ?_
    refine lv_aload_n hx hb dX12_tells_44 rfl (lv_at hl 0 rfl) ?_
    refine mg_3 E hP dX12_tells_45 ?_
    refine lv_bipush (v := 13) hx hb dX12_tells_48 (by decide) ?_
    refine lv_iload_n hx hb dX12_tells_50 rfl (lv_at hl 2 rfl) ?_
    refine lv_iadd hx hb dX12_tells_51 ?_
    obtain ⟨hi, hf⟩ := gi_some hf
    refine ml_3 E hP hi dX12_tells_52 ?_
    refine lv_i2l (v := (st6.2.2.1 3 ((13 : Int32) + a1).toNatClampNeg).toInt64) hx hb dX12_tells_53 rfl ?_
    refine ms_35 E hD hP hS (vi rfl) dX12_tells_54 (fun st7 H locs ex hP hS => ?_)
    replace hf := lt_at ex hf; clear ex
    refine lv_aload_n hx hb dX12_tells_55 rfl (lv_at hl 0 rfl) ?_
    refine mg_35 E hP dX12_tells_56 ?_
    refine lv_iconst (v := 3) hx hb dX12_tells_59 (by decide) ?_
    refine lv_aload_n hx hb dX12_tells_60 rfl (lv_at hl 0 rfl) ?_
    refine mg_3 E hP dX12_tells_61 ?_
    refine lv_bipush (v := 31) hx hb dX12_tells_64 (by decide) ?_
    refine lv_iload_n hx hb dX12_tells_66 rfl (lv_at hl 2 rfl) ?_
    refine lv_iadd hx hb dX12_tells_67 ?_
    obtain ⟨hi, hf⟩ := gi_some hf
    refine ml_3 E hP hi dX12_tells_68 ?_
    refine lv_i2l (v := (st7.2.2.1 3 ((31 : Int32) + a1).toNatClampNeg).toInt64) hx hb dX12_tells_69 rfl ?_
    refine ms_35 E hD hP hS (vi rfl) dX12_tells_70 (fun st8 H locs ex hP hS => ?_)
    replace hf := lt_at ex hf; clear ex
    refine lv_aload_n hx hb dX12_tells_71 rfl (lv_at hl 0 rfl) ?_
    refine mg_35 E hP dX12_tells_72 ?_
    refine lv_iconst (v := 4) hx hb dX12_tells_75 (by decide) ?_
    refine lv_aload_n hx hb dX12_tells_76 rfl (lv_at hl 0 rfl) ?_
    refine lv_iload_n hx hb dX12_tells_77 rfl (lv_at hl 2 rfl) ?_
    obtain ⟨r9, st10, hc, hf⟩ := bd_some hf
    refine m_calli (n := 1) (rest := [.int (4 : Int32), .ref (ad 35)]) E hP hS (fun sz => tX12_fameOf l D cy ad hJ sz a1 st8 r9 st10 hc) (gV k_1384 k_1386 ks_42 k_14 k_1387) qX12_fameOf ⟨Nat.le_of_ble_eq_true rfl, Nat.le_of_ble_eq_true rfl⟩ ⟨Nat.le_refl _, Nat.le_refl _⟩ rfl hl.1 rfl (Nat.le_of_ble_eq_true rfl) dX12_tells_78 (fun H locs hP hS => ?_)
    refine lv_i2l (v := r9.toInt64) hx hb dX12_tells_81 rfl ?_
    refine ms_35 E hD hP hS (vi rfl) dX12_tells_82 (fun st11 H locs ex hP hS => ?_)
    replace hf := lt_at ex hf; clear ex
    refine lv_aload_n hx hb dX12_tells_83 rfl (lv_at hl 0 rfl) ?_
    refine mg_35 E hP dX12_tells_84 ?_
    refine lv_iconst (v := 5) hx hb dX12_tells_87 (by decide) ?_
    refine lv_iload_n hx hb dX12_tells_88 rfl (lv_at hl 3 rfl) ?_
    refine lv_i2l (v := a2.toInt64) hx hb dX12_tells_89 rfl ?_
    refine ms_35 E hD hP hS (vi rfl) dX12_tells_90 (fun st12 H locs ex hP hS => ?_)
    replace hf := lt_at ex hf; clear ex
    refine lv_aload_n hx hb dX12_tells_91 rfl (lv_at hl 0 rfl) ?_
    refine mg_35 E hP dX12_tells_92 ?_
    refine lv_bipush (v := 6) hx hb dX12_tells_95 (by decide) ?_
    refine lv_iload hx hb dX12_tells_97 (lv_at hl 4 rfl) ?_
    refine lv_i2l (v := a3.toInt64) hx hb dX12_tells_99 rfl ?_
    refine ms_35 E hD hP hS (vi rfl) dX12_tells_100 (fun st13 H locs ex hP hS => ?_)
    replace hf := lt_at ex hf; clear ex
    refine lv_aload_n hx hb dX12_tells_101 rfl (lv_at hl 0 rfl) ?_
    refine mg_35 E hP dX12_tells_102 ?_
    refine lv_bipush (v := 7) hx hb dX12_tells_105 (by decide) ?_
    refine lv_iload hx hb dX12_tells_107 (lv_at hl 5 rfl) ?_
    refine lv_i2l (v := a4.toInt64) hx hb dX12_tells_109 rfl ?_
    refine ms_35 E hD hP hS (vi rfl) dX12_tells_110 (fun st14 H locs ex hP hS => ?_)
    replace hf := lt_at ex hf; clear ex
    refine lv_aload_n hx hb dX12_tells_111 rfl (lv_at hl 0 rfl) ?_
    refine mg_35 E hP dX12_tells_112 ?_
    refine lv_bipush (v := 8) hx hb dX12_tells_115 (by decide) ?_
    refine lv_iload hx hb dX12_tells_117 (lv_at hl 6 rfl) ?_
    refine lv_i2l (v := a5.toInt64) hx hb dX12_tells_119 rfl ?_
    refine ms_35 E hD hP hS (vi rfl) dX12_tells_120 (fun st15 H locs ex hP hS => ?_)
    replace hf := lt_at ex hf; clear ex
    refine lv_aload_n hx hb dX12_tells_121 rfl (lv_at hl 0 rfl) ?_
    refine mg_35 E hP dX12_tells_122 ?_
    refine lv_bipush (v := 9) hx hb dX12_tells_125 (by decide) ?_
    refine lv_aload_n hx hb dX12_tells_127 rfl (lv_at hl 0 rfl) ?_
    refine mg_3 E hP dX12_tells_128 ?_
    refine lv_bipush (v := 6) hx hb dX12_tells_131 (by decide) ?_
    refine ml_3 E hP (vi rfl) dX12_tells_133 ?_
    refine lv_i2l (v := (st15.2.2.1 3 (6 : Int32).toNatClampNeg).toInt64) hx hb dX12_tells_134 rfl ?_
    refine ms_35 E hD hP hS (vi rfl) dX12_tells_135 (fun st16 H locs ex hP hS => ?_)
    replace hf := lt_at ex hf; clear ex
    refine lv_aload_n hx hb dX12_tells_136 rfl (lv_at hl 0 rfl) ?_
    refine mg_35 E hP dX12_tells_137 ?_
    refine lv_bipush (v := 10) hx hb dX12_tells_140 (by decide) ?_
    refine lv_aload_n hx hb dX12_tells_142 rfl (lv_at hl 0 rfl) ?_
    refine mg_3 E hP dX12_tells_143 ?_
    refine lv_bipush (v := 8) hx hb dX12_tells_146 (by decide) ?_
    refine ml_3 E hP (vi rfl) dX12_tells_148 ?_
    refine lv_i2l (v := (st16.2.2.1 3 (8 : Int32).toNatClampNeg).toInt64) hx hb dX12_tells_149 rfl ?_
    refine ms_35 E hD hP hS (vi rfl) dX12_tells_150 (fun st17 H locs ex hP hS => ?_)
    replace hf := lt_at ex hf; clear ex
    refine lv_lload hx hb dX12_tells_151 (lv_at hl 7 rfl) ?_
    refine lv_lstore (lv' := [(9, .long a6), (0, .ref (ad 100)), (1, .int a0), (2, .int a1), (3, .int a2), (4, .int a3), (5, .int a4), (6, .int a5), (7, .long a6)]) hx hb dX12_tells_153 hl (by decide) rfl (fun ls hl => ?_)
    refine lv_iconst (v := 0) hx hb dX12_tells_155 (by decide) ?_
    refine lv_istore (lv' := [(11, .int (0 : Int32)), (9, .long a6), (0, .ref (ad 100)), (1, .int a0), (2, .int a1), (3, .int a2), (4, .int a3), (5, .int a4), (6, .int a5), (7, .long a6)]) hx hb dX12_tells_156 hl (by decide) rfl (fun ls hl => ?_)
    exact L158 6000 a0 a6 (0 : Int32) st17 _ _ ls hf (lv_sub hl [2, 3, 1, 0] rfl) hP hS
  · replace hf := it_pos hc hf
    refine lv_lload hx hb dX12_tells_10 (lv_at hl 7 rfl) ?_
    exact m_lret hx hb hr hlocks hf hP hS dX12_tells_12
theorem qX12_tells : yX12_tells.cls = RX12 ∧ yX12_tells.cls ≠ "java/lang/invoke/MethodHandle" ∧ yX12_tells.cls ≠ "java/lang/invoke/VarHandle" ∧ (parseMethodDescriptor yX12_tells.desc).map (fun d => d.parameters.length) = some 7 := by decide +kernel
def fX12_paysOf (a0 : Int32) (a1 : Int32) (st : St) : Option (Int32 × St) := gi ((49 : Int32) + a1) 5550 (bd (fX12_tells (1 : Int32) a0 a1 (-1 : Int32) (-1 : Int32) (-1 : Int32) ((st.2.2.1 3 ((49 : Int32) + a1).toNatClampNeg).toInt64) st) (fun r1 st2 => bs (fX12_within r1 (0 : Int32) (99 : Int32)) (fun r3 => some (r3, st2))))
set_option maxHeartbeats 4000000 in
set_option maxRecDepth 100000 in
theorem tX12_paysOf (l : Launch) (D : va_G) (cy : Nat → ClassId) (ad : Nat → Nat) (hJ : (mads ad).Nodup) (sz : Nat) (a0 : Int32) (a1 : Int32) (st : St) (rr : Int32) (st' : St) (hf : fX12_paysOf a0 a1 st = some (rr, st')) : Met l yX12_paysOf (Cond.code yX12_paysOf cX12_paysOf 3 (some .int) :: TT) (rmD 5) (mPc D cy ad [.int a0, .int a1] st sz) (mQi D cy ad rr st' sz) 0 0 (mA ad sz) := by
  refine m_meti (by decide) hJ (Nat.le_of_ble_eq_true rfl) (fun p e s m args below meth c ls E hx hb hr hlocks hown hT hD hl hP hS => ?_)
  replace hl : lv_has ls 3 [(0, .ref (ad 100)), (1, .int a0), (2, .int a1)] := hl
  unfold fX12_paysOf at hf
  refine lv_aload_n hx hb dX12_paysOf_0 rfl (lv_at hl 0 rfl) ?_
  refine lv_iconst (v := 1) hx hb dX12_paysOf_1 (by decide) ?_
  refine lv_iload_n hx hb dX12_paysOf_2 rfl (lv_at hl 1 rfl) ?_
  refine lv_iload_n hx hb dX12_paysOf_3 rfl (lv_at hl 2 rfl) ?_
  refine lv_iconst (v := -1) hx hb dX12_paysOf_4 (by decide) ?_
  refine lv_iconst (v := -1) hx hb dX12_paysOf_5 (by decide) ?_
  refine lv_iconst (v := -1) hx hb dX12_paysOf_6 (by decide) ?_
  refine lv_aload_n hx hb dX12_paysOf_7 rfl (lv_at hl 0 rfl) ?_
  refine mg_3 E hP dX12_paysOf_8 ?_
  refine lv_bipush (v := 49) hx hb dX12_paysOf_11 (by decide) ?_
  refine lv_iload_n hx hb dX12_paysOf_13 rfl (lv_at hl 2 rfl) ?_
  refine lv_iadd hx hb dX12_paysOf_14 ?_
  obtain ⟨hi, hf⟩ := gi_some hf
  refine ml_3 E hP hi dX12_paysOf_15 ?_
  refine lv_i2l (v := (st.2.2.1 3 ((49 : Int32) + a1).toNatClampNeg).toInt64) hx hb dX12_paysOf_16 rfl ?_
  obtain ⟨r1, st2, hc, hf⟩ := bd_some hf
  refine m_calll (n := 7) (rest := []) E hP hS (fun sz => tX12_tells l D cy ad hJ sz (1 : Int32) a0 a1 (-1 : Int32) (-1 : Int32) (-1 : Int32) ((st.2.2.1 3 ((49 : Int32) + a1).toNatClampNeg).toInt64) st r1 st2 hc) (gV k_1570 k_1572 ks_69 k_14 k_1573) qX12_tells ⟨Nat.le_of_ble_eq_true rfl, Nat.le_of_ble_eq_true rfl⟩ ⟨Nat.le_refl _, Nat.le_refl _⟩ rfl hl.1 rfl (Nat.le_of_ble_eq_true rfl) dX12_paysOf_17 (fun H locs hP hS => ?_)
  refine lv_iconst (v := 0) hx hb dX12_paysOf_20 (by decide) ?_
  refine lv_bipush (v := 99) hx hb dX12_paysOf_21 (by decide) ?_
  obtain ⟨r3, hc, hf⟩ := bs_some hf
  refine s_calli (n := 3) (rest := []) E.1 (tX12_within l _ r1 (0 : Int32) (99 : Int32) r3 hc) (gS k_1588 k_1589 k_14 k_1590) qX12_within ⟨Nat.le_of_ble_eq_true rfl, Nat.le_of_ble_eq_true rfl⟩ ⟨Nat.le_refl _, Nat.le_refl _⟩ rfl hl.1 rfl (Nat.le_of_ble_eq_true rfl) dX12_paysOf_23 ?_
  exact m_iret hx hb hr hlocks hf hP hS dX12_paysOf_26
theorem qX12_paysOf : yX12_paysOf.cls = RX12 ∧ yX12_paysOf.cls ≠ "java/lang/invoke/MethodHandle" ∧ yX12_paysOf.cls ≠ "java/lang/invoke/VarHandle" ∧ (parseMethodDescriptor yX12_paysOf.desc).map (fun d => d.parameters.length) = some 2 := by decide +kernel
def fX12_isBarred_b21 (w0 : Int32) (st : St) : Option (Int32 × St) := gb w0 (some (w0, st))
def fX12_isBarred (a0 : Int32) (a1 : Int32) (st : St) : Option (Int32 × St) := bd (fX12_tells (3 : Int32) a0 a1 (-1 : Int32) (-1 : Int32) (-1 : Int32) (0 : Int64) st) (fun r1 st2 => if (lg_cmp r1 (1 : Int64)) = 0 then (fX12_isBarred_b21 (1 : Int32) st2) else (fX12_isBarred_b21 (0 : Int32) st2))
set_option maxHeartbeats 4000000 in
set_option maxRecDepth 100000 in
theorem tX12_isBarred (l : Launch) (D : va_G) (cy : Nat → ClassId) (ad : Nat → Nat) (hJ : (mads ad).Nodup) (sz : Nat) (a0 : Int32) (a1 : Int32) (st : St) (rr : Int32) (st' : St) (hf : fX12_isBarred a0 a1 st = some (rr, st')) : Met l yX12_isBarred (Cond.code yX12_isBarred cX12_isBarred 3 (some .boolean) :: TT) (rmD 5) (mPc D cy ad [.int a0, .int a1] st sz) (mQi D cy ad rr st' sz) 0 0 (mA ad sz) := by
  refine m_meti (by decide) hJ (Nat.le_of_ble_eq_true rfl) (fun p e s m args below meth c ls E hx hb hr hlocks hown hT hD hl hP hS => ?_)
  replace hl : lv_has ls 3 [(0, .ref (ad 100)), (1, .int a0), (2, .int a1)] := hl
  unfold fX12_isBarred at hf
  have B21 : ∀ (w0 : Int32) (st : St) (H : Heap) (locs : List Loc) (ls : Array Slot), fX12_isBarred_b21 w0 st = some (rr, st') → lv_has ls 3 [] → va_P D classes (mw cy ad st) H → va_S (mA ad s.heap.size) s.heap H locs → mGi l 5 D cy ad rr st' p e s m args below meth c H locs (F0 m 21 ls [.int w0]) := by
    intro w0 st H locs ls hf hl hP hS
    unfold fX12_isBarred_b21 at hf
    obtain ⟨hn, hf⟩ := gb_some hf
    exact m_zret hx hb hr hlocks hn hf hP hS dX12_isBarred_21
  refine lv_aload_n hx hb dX12_isBarred_0 rfl (lv_at hl 0 rfl) ?_
  refine lv_iconst (v := 3) hx hb dX12_isBarred_1 (by decide) ?_
  refine lv_iload_n hx hb dX12_isBarred_2 rfl (lv_at hl 1 rfl) ?_
  refine lv_iload_n hx hb dX12_isBarred_3 rfl (lv_at hl 2 rfl) ?_
  refine lv_iconst (v := -1) hx hb dX12_isBarred_4 (by decide) ?_
  refine lv_iconst (v := -1) hx hb dX12_isBarred_5 (by decide) ?_
  refine lv_iconst (v := -1) hx hb dX12_isBarred_6 (by decide) ?_
  refine lv_lconst (v := 0) hx hb dX12_isBarred_7 (by decide) ?_
  obtain ⟨r1, st2, hc, hf⟩ := bd_some hf
  refine m_calll (n := 7) (rest := []) E hP hS (fun sz => tX12_tells l D cy ad hJ sz (3 : Int32) a0 a1 (-1 : Int32) (-1 : Int32) (-1 : Int32) (0 : Int64) st r1 st2 hc) (gV k_1570 k_1572 ks_69 k_14 k_1573) qX12_tells ⟨Nat.le_of_ble_eq_true rfl, Nat.le_of_ble_eq_true rfl⟩ ⟨Nat.le_refl _, Nat.le_refl _⟩ rfl hl.1 rfl (Nat.le_of_ble_eq_true rfl) dX12_isBarred_8 (fun H locs hP hS => ?_)
  refine lv_lconst (v := 1) hx hb dX12_isBarred_11 (by decide) ?_
  refine W.lcmp hx hb dX12_isBarred_12 ?_
  refine lv_if_ne (tgt := 20) hx hb dX12_isBarred_13 (by decide) (fun hc => ?_) (fun hc => ?_)
  · replace hf := it_neg hc hf
    refine lv_iconst (v := 0) hx hb dX12_isBarred_20 (by decide) ?_
    exact B21 (0 : Int32) st2 _ _ ls hf (lv_sub hl [] rfl) hP hS
  · replace hf := it_pos hc hf
    refine lv_iconst (v := 1) hx hb dX12_isBarred_16 (by decide) ?_
    refine lv_goto (tgt := 21) hx hb dX12_isBarred_17 (by decide) ?_
    exact B21 (1 : Int32) st2 _ _ ls hf (lv_sub hl [] rfl) hP hS
theorem qX12_isBarred : yX12_isBarred.cls = RX12 ∧ yX12_isBarred.cls ≠ "java/lang/invoke/MethodHandle" ∧ yX12_isBarred.cls ≠ "java/lang/invoke/VarHandle" ∧ (parseMethodDescriptor yX12_isBarred.desc).map (fun d => d.parameters.length) = some 2 := by decide +kernel
def fX12_turnsAt (a0 : Int32) (a1 : Int32) (a2 : Int32) (st : St) : Option (Int32 × St) := bd (fX12_hundredths a0 a2 st) (fun r1 st2 => bd (fX12_tells (0 : Int32) a0 (-1 : Int32) a1 r1 (-1 : Int32) (50 : Int64) st2) (fun r3 st4 => bs (fX12_within r3 (0 : Int32) (100 : Int32)) (fun r5 => some (r5, st4))))
set_option maxHeartbeats 4000000 in
set_option maxRecDepth 100000 in
theorem tX12_turnsAt (l : Launch) (D : va_G) (cy : Nat → ClassId) (ad : Nat → Nat) (hJ : (mads ad).Nodup) (sz : Nat) (a0 : Int32) (a1 : Int32) (a2 : Int32) (st : St) (rr : Int32) (st' : St) (hf : fX12_turnsAt a0 a1 a2 st = some (rr, st')) : Met l yX12_turnsAt (Cond.code yX12_turnsAt cX12_turnsAt 4 (some .int) :: TT) (rmD 5) (mPc D cy ad [.int a0, .int a1, .int a2] st sz) (mQi D cy ad rr st' sz) 0 0 (mA ad sz) := by
  refine m_meti (by decide) hJ (Nat.le_of_ble_eq_true rfl) (fun p e s m args below meth c ls E hx hb hr hlocks hown hT hD hl hP hS => ?_)
  replace hl : lv_has ls 4 [(0, .ref (ad 100)), (1, .int a0), (2, .int a1), (3, .int a2)] := hl
  unfold fX12_turnsAt at hf
  refine lv_aload_n hx hb dX12_turnsAt_0 rfl (lv_at hl 0 rfl) ?_
  refine lv_iconst (v := 0) hx hb dX12_turnsAt_1 (by decide) ?_
  refine lv_iload_n hx hb dX12_turnsAt_2 rfl (lv_at hl 1 rfl) ?_
  refine lv_iconst (v := -1) hx hb dX12_turnsAt_3 (by decide) ?_
  refine lv_iload_n hx hb dX12_turnsAt_4 rfl (lv_at hl 2 rfl) ?_
  refine lv_aload_n hx hb dX12_turnsAt_5 rfl (lv_at hl 0 rfl) ?_
  refine lv_iload_n hx hb dX12_turnsAt_6 rfl (lv_at hl 1 rfl) ?_
  refine lv_iload_n hx hb dX12_turnsAt_7 rfl (lv_at hl 3 rfl) ?_
  obtain ⟨r1, st2, hc, hf⟩ := bd_some hf
  refine m_calli (n := 2) (rest := [.int a1, .int (-1 : Int32), .int a0, .int (0 : Int32), .ref (ad 100)]) E hP hS (fun sz => tX12_hundredths l D cy ad hJ sz a0 a2 st r1 st2 hc) (gV k_1599 k_1601 ks_75 k_14 k_1602) qX12_hundredths ⟨Nat.le_of_ble_eq_true rfl, Nat.le_of_ble_eq_true rfl⟩ ⟨Nat.le_refl _, Nat.le_refl _⟩ rfl hl.1 rfl (Nat.le_of_ble_eq_true rfl) dX12_turnsAt_8 (fun H locs hP hS => ?_)
  refine lv_iconst (v := -1) hx hb dX12_turnsAt_11 (by decide) ?_
  refine lv_ldc2 (v := 50) hx hb hown (hT _ k_1604) dX12_turnsAt_12 ?_
  obtain ⟨r3, st4, hc, hf⟩ := bd_some hf
  refine m_calll (n := 7) (rest := []) E hP hS (fun sz => tX12_tells l D cy ad hJ sz (0 : Int32) a0 (-1 : Int32) a1 r1 (-1 : Int32) (50 : Int64) st2 r3 st4 hc) (gV k_1570 k_1572 ks_69 k_14 k_1573) qX12_tells ⟨Nat.le_of_ble_eq_true rfl, Nat.le_of_ble_eq_true rfl⟩ ⟨Nat.le_refl _, Nat.le_refl _⟩ rfl hl.1 rfl (Nat.le_of_ble_eq_true rfl) dX12_turnsAt_15 (fun H locs hP hS => ?_)
  refine lv_iconst (v := 0) hx hb dX12_turnsAt_18 (by decide) ?_
  refine lv_bipush (v := 100) hx hb dX12_turnsAt_19 (by decide) ?_
  obtain ⟨r5, hc, hf⟩ := bs_some hf
  refine s_calli (n := 3) (rest := []) E.1 (tX12_within l _ r3 (0 : Int32) (100 : Int32) r5 hc) (gS k_1588 k_1589 k_14 k_1590) qX12_within ⟨Nat.le_of_ble_eq_true rfl, Nat.le_of_ble_eq_true rfl⟩ ⟨Nat.le_refl _, Nat.le_refl _⟩ rfl hl.1 rfl (Nat.le_of_ble_eq_true rfl) dX12_turnsAt_21 ?_
  exact m_iret hx hb hr hlocks hf hP hS dX12_turnsAt_24
theorem qX12_turnsAt : yX12_turnsAt.cls = RX12 ∧ yX12_turnsAt.cls ≠ "java/lang/invoke/MethodHandle" ∧ yX12_turnsAt.cls ≠ "java/lang/invoke/VarHandle" ∧ (parseMethodDescriptor yX12_turnsAt.desc).map (fun d => d.parameters.length) = some 3 := by decide +kernel
def fX12_isTurned_b21 (w0 : Int32) (st : St) : Option (Int32 × St) := gb w0 (some (w0, st))
def fX12_isTurned (a0 : Int32) (a1 : Int32) (a2 : Int32) (st : St) : Option (Int32 × St) := bd (fX12_hundredths a0 a2 st) (fun r1 st2 => bd (fX12_turnsAt a0 a1 a2 st2) (fun r3 st4 => if r1 < r3 then (fX12_isTurned_b21 (0 : Int32) st4) else (fX12_isTurned_b21 (1 : Int32) st4)))
set_option maxHeartbeats 4000000 in
set_option maxRecDepth 100000 in
theorem tX12_isTurned (l : Launch) (D : va_G) (cy : Nat → ClassId) (ad : Nat → Nat) (hJ : (mads ad).Nodup) (sz : Nat) (a0 : Int32) (a1 : Int32) (a2 : Int32) (st : St) (rr : Int32) (st' : St) (hf : fX12_isTurned a0 a1 a2 st = some (rr, st')) : Met l yX12_isTurned (Cond.code yX12_isTurned cX12_isTurned 4 (some .boolean) :: TT) (rmD 6) (mPc D cy ad [.int a0, .int a1, .int a2] st sz) (mQi D cy ad rr st' sz) 0 0 (mA ad sz) := by
  refine m_meti (by decide) hJ (Nat.le_of_ble_eq_true rfl) (fun p e s m args below meth c ls E hx hb hr hlocks hown hT hD hl hP hS => ?_)
  replace hl : lv_has ls 4 [(0, .ref (ad 100)), (1, .int a0), (2, .int a1), (3, .int a2)] := hl
  unfold fX12_isTurned at hf
  have B21 : ∀ (w0 : Int32) (st : St) (H : Heap) (locs : List Loc) (ls : Array Slot), fX12_isTurned_b21 w0 st = some (rr, st') → lv_has ls 4 [] → va_P D classes (mw cy ad st) H → va_S (mA ad s.heap.size) s.heap H locs → mGi l 6 D cy ad rr st' p e s m args below meth c H locs (F0 m 21 ls [.int w0]) := by
    intro w0 st H locs ls hf hl hP hS
    unfold fX12_isTurned_b21 at hf
    obtain ⟨hn, hf⟩ := gb_some hf
    exact m_zret hx hb hr hlocks hn hf hP hS dX12_isTurned_21
  refine lv_aload_n hx hb dX12_isTurned_0 rfl (lv_at hl 0 rfl) ?_
  refine lv_iload_n hx hb dX12_isTurned_1 rfl (lv_at hl 1 rfl) ?_
  refine lv_iload_n hx hb dX12_isTurned_2 rfl (lv_at hl 3 rfl) ?_
  obtain ⟨r1, st2, hc, hf⟩ := bd_some hf
  refine m_calli (n := 2) (rest := []) E hP hS (fun sz => tX12_hundredths l D cy ad hJ sz a0 a2 st r1 st2 hc) (gV k_1599 k_1601 ks_75 k_14 k_1602) qX12_hundredths ⟨Nat.le_of_ble_eq_true rfl, Nat.le_of_ble_eq_true rfl⟩ ⟨Nat.le_refl _, Nat.le_refl _⟩ rfl hl.1 rfl (Nat.le_of_ble_eq_true rfl) dX12_isTurned_3 (fun H locs hP hS => ?_)
  refine lv_aload_n hx hb dX12_isTurned_6 rfl (lv_at hl 0 rfl) ?_
  refine lv_iload_n hx hb dX12_isTurned_7 rfl (lv_at hl 1 rfl) ?_
  refine lv_iload_n hx hb dX12_isTurned_8 rfl (lv_at hl 2 rfl) ?_
  refine lv_iload_n hx hb dX12_isTurned_9 rfl (lv_at hl 3 rfl) ?_
  obtain ⟨r3, st4, hc, hf⟩ := bd_some hf
  refine m_calli (n := 3) (rest := [.int r1]) E hP hS (fun sz => tX12_turnsAt l D cy ad hJ sz a0 a1 a2 st2 r3 st4 hc) (gV k_1595 k_1597 ks_74 k_14 k_1598) qX12_turnsAt ⟨Nat.le_of_ble_eq_true rfl, Nat.le_of_ble_eq_true rfl⟩ ⟨Nat.le_refl _, Nat.le_refl _⟩ rfl hl.1 rfl (Nat.le_of_ble_eq_true rfl) dX12_isTurned_10 (fun H locs hP hS => ?_)
  refine lv_icmp_lt (tgt := 20) hx hb dX12_isTurned_13 (by decide) (fun hc => ?_) (fun hc => ?_)
  · replace hf := it_pos hc hf
    refine lv_iconst (v := 0) hx hb dX12_isTurned_20 (by decide) ?_
    exact B21 (0 : Int32) st4 _ _ ls hf (lv_sub hl [] rfl) hP hS
  · replace hf := it_neg hc hf
    refine lv_iconst (v := 1) hx hb dX12_isTurned_16 (by decide) ?_
    refine lv_goto (tgt := 21) hx hb dX12_isTurned_17 (by decide) ?_
    exact B21 (1 : Int32) st4 _ _ ls hf (lv_sub hl [] rfl) hP hS
theorem qX12_isTurned : yX12_isTurned.cls = RX12 ∧ yX12_isTurned.cls ≠ "java/lang/invoke/MethodHandle" ∧ yX12_isTurned.cls ≠ "java/lang/invoke/VarHandle" ∧ (parseMethodDescriptor yX12_isTurned.desc).map (fun d => d.parameters.length) = some 3 := by decide +kernel
def fX12_asks_b52 (st : St) : Option (Int32 × St) := some ((-1 : Int32), st)
def fX12_asks_b101 (w0 : Int32) (st : St) : Option (Int32 × St) := some (w0, st)
def fX12_asks_b141 (w0 : Int32) (st : St) : Option (Int32 × St) := some (w0, st)
def fX12_asks_b54 (v1 : Int32) (v2 : Int32) (v3 : Int32) (st : St) : Option (Int32 × St) := if v3 = 0 then (bd (fX12_paysOf v1 v2 st) (fun r1 st2 => some (r1, st2))) else (if v3 = 1 then (bd (fX12_isBarred v1 v2 st) (fun r3 st4 => if r3 = 0 then (fX12_asks_b101 (0 : Int32) st4) else (fX12_asks_b101 (1 : Int32) st4))) else (if v3 = 2 then (gi ((19 : Int32) + v1) 5550 (bd (fX12_turnsAt v1 v2 (st.2.2.1 3 ((19 : Int32) + v1).toNatClampNeg) st) (fun r5 st6 => some (r5, st6)))) else (gi ((19 : Int32) + v1) 5550 (bd (fX12_isTurned v1 v2 (st.2.2.1 3 ((19 : Int32) + v1).toNatClampNeg) st) (fun r7 st8 => if r7 = 0 then (fX12_asks_b141 (0 : Int32) st8) else (fX12_asks_b141 (1 : Int32) st8))))))
def fX12_asks (a0 : Int32) (a1 : Int32) (a2 : Int32) (st : St) : Option (Int32 × St) := lt (sI st 0 (0 : Int32)) (fun st9 => bd (fX12_isFort a0 st9) (fun r10 st11 => if r10 = 0 then (fX12_asks_b52 st11) else (bs (fX12_in (a2.toInt64) (0 : Int64) (3 : Int64)) (fun r12 => if r12 = 0 then (fX12_asks_b52 st11) else (if (2 : Int32) ≤ a2 then (bs (fX12_in (a1.toInt64) (1 : Int64) (99 : Int64)) (fun r13 => if r13 = 0 then (fX12_asks_b52 st11) else (fX12_asks_b54 a0 a1 a2 st11))) else (bs (fX12_isOne a1) (fun r14 => if r14 = 0 then (fX12_asks_b52 st11) else (fX12_asks_b54 a0 a1 a2 st11))))))))
set_option maxHeartbeats 4000000 in
set_option maxRecDepth 100000 in
theorem tX12_asks (l : Launch) (D : va_G) (cy : Nat → ClassId) (ad : Nat → Nat) (hJ : (mads ad).Nodup) (sz : Nat) (a0 : Int32) (a1 : Int32) (a2 : Int32) (st : St) (rr : Int32) (st' : St) (hf : fX12_asks a0 a1 a2 st = some (rr, st')) : Met l yX12_asks (Cond.code yX12_asks cX12_asks 4 (some .int) :: TT) (rmD 7) (mPc D cy ad [.int a0, .int a1, .int a2] st sz) (mQi D cy ad rr st' sz) 0 0 (mA ad sz) := by
  refine m_meti (by decide) hJ (Nat.le_of_ble_eq_true rfl) (fun p e s m args below meth c ls E hx hb hr hlocks hown hT hD hl hP hS => ?_)
  replace hl : lv_has ls 4 [(0, .ref (ad 100)), (1, .int a0), (2, .int a1), (3, .int a2)] := hl
  unfold fX12_asks at hf
  have B52 : ∀ (st : St) (H : Heap) (locs : List Loc) (ls : Array Slot), fX12_asks_b52 st = some (rr, st') → lv_has ls 4 [] → va_P D classes (mw cy ad st) H → va_S (mA ad s.heap.size) s.heap H locs → mGi l 7 D cy ad rr st' p e s m args below meth c H locs (F0 m 52 ls []) := by
    intro st H locs ls hf hl hP hS
    unfold fX12_asks_b52 at hf
    refine lv_iconst (v := -1) hx hb dX12_asks_52 (by decide) ?_
    exact m_iret hx hb hr hlocks hf hP hS dX12_asks_53
  have B101 : ∀ (w0 : Int32) (st : St) (H : Heap) (locs : List Loc) (ls : Array Slot), fX12_asks_b101 w0 st = some (rr, st') → lv_has ls 4 [] → va_P D classes (mw cy ad st) H → va_S (mA ad s.heap.size) s.heap H locs → mGi l 7 D cy ad rr st' p e s m args below meth c H locs (F0 m 101 ls [.int w0]) := by
    intro w0 st H locs ls hf hl hP hS
    unfold fX12_asks_b101 at hf
    exact m_iret hx hb hr hlocks hf hP hS dX12_asks_101
  have B141 : ∀ (w0 : Int32) (st : St) (H : Heap) (locs : List Loc) (ls : Array Slot), fX12_asks_b141 w0 st = some (rr, st') → lv_has ls 4 [] → va_P D classes (mw cy ad st) H → va_S (mA ad s.heap.size) s.heap H locs → mGi l 7 D cy ad rr st' p e s m args below meth c H locs (F0 m 141 ls [.int w0]) := by
    intro w0 st H locs ls hf hl hP hS
    unfold fX12_asks_b141 at hf
    exact m_iret hx hb hr hlocks hf hP hS dX12_asks_141
  have B54 : ∀ (v1 : Int32) (v2 : Int32) (v3 : Int32) (st : St) (H : Heap) (locs : List Loc) (ls : Array Slot), fX12_asks_b54 v1 v2 v3 st = some (rr, st') → lv_has ls 4 [(0, .ref (ad 100)), (1, .int v1), (2, .int v2), (3, .int v3)] → va_P D classes (mw cy ad st) H → va_S (mA ad s.heap.size) s.heap H locs → mGi l 7 D cy ad rr st' p e s m args below meth c H locs (F0 m 54 ls []) := by
    intro v1 v2 v3 st H locs ls hf hl hP hS
    unfold fX12_asks_b54 at hf
    refine lv_iload_n hx hb dX12_asks_54 rfl (lv_at hl 3 rfl) ?_
    by_cases hq0 : v3 = 0
    · replace hf := it_pos hq0 hf
      rw [hq0]; refine lv_tableIn (tgt := 80) hx hb dX12_asks_55 (by decide) (by decide) rfl (by decide) ?_
      refine lv_aload_n hx hb dX12_asks_80 rfl (lv_at hl 0 rfl) ?_
      refine lv_iload_n hx hb dX12_asks_81 rfl (lv_at hl 1 rfl) ?_
      refine lv_iload_n hx hb dX12_asks_82 rfl (lv_at hl 2 rfl) ?_
      obtain ⟨r1, st2, hc, hf⟩ := bd_some hf
      refine m_calli (n := 2) (rest := []) E hP hS (fun sz => tX12_paysOf l D cy ad hJ sz v1 v2 st r1 st2 hc) (gV k_1566 k_1568 ks_68 k_14 k_1569) qX12_paysOf ⟨Nat.le_of_ble_eq_true rfl, Nat.le_of_ble_eq_true rfl⟩ ⟨Nat.le_refl _, Nat.le_refl _⟩ rfl hl.1 rfl (Nat.le_of_ble_eq_true rfl) dX12_asks_83 (fun H locs hP hS => ?_)
      exact m_iret hx hb hr hlocks hf hP hS dX12_asks_86
    replace hf := it_neg hq0 hf
    by_cases hq1 : v3 = 1
    · replace hf := it_pos hq1 hf
      rw [hq1]; refine lv_tableIn (tgt := 87) hx hb dX12_asks_55 (by decide) (by decide) rfl (by decide) ?_
      refine lv_aload_n hx hb dX12_asks_87 rfl (lv_at hl 0 rfl) ?_
      refine lv_iload_n hx hb dX12_asks_88 rfl (lv_at hl 1 rfl) ?_
      refine lv_iload_n hx hb dX12_asks_89 rfl (lv_at hl 2 rfl) ?_
      obtain ⟨r3, st4, hc, hf⟩ := bd_some hf
      refine m_calli (n := 2) (rest := []) E hP hS (fun sz => tX12_isBarred l D cy ad hJ sz v1 v2 st r3 st4 hc) (gV k_1591 k_1593 ks_73 k_14 k_1594) qX12_isBarred ⟨Nat.le_of_ble_eq_true rfl, Nat.le_of_ble_eq_true rfl⟩ ⟨Nat.le_refl _, Nat.le_refl _⟩ rfl hl.1 rfl (Nat.le_of_ble_eq_true rfl) dX12_asks_90 (fun H locs hP hS => ?_)
      refine lv_if_eq (tgt := 100) hx hb dX12_asks_93 (by decide) (fun hc => ?_) (fun hc => ?_)
      · replace hf := it_pos hc hf
        refine lv_iconst (v := 0) hx hb dX12_asks_100 (by decide) ?_
        exact B101 (0 : Int32) st4 _ _ ls hf (lv_sub hl [] rfl) hP hS
      · replace hf := it_neg hc hf
        refine lv_iconst (v := 1) hx hb dX12_asks_96 (by decide) ?_
        refine lv_goto (tgt := 101) hx hb dX12_asks_97 (by decide) ?_
        exact B101 (1 : Int32) st4 _ _ ls hf (lv_sub hl [] rfl) hP hS
    replace hf := it_neg hq1 hf
    by_cases hq2 : v3 = 2
    · replace hf := it_pos hq2 hf
      rw [hq2]; refine lv_tableIn (tgt := 102) hx hb dX12_asks_55 (by decide) (by decide) rfl (by decide) ?_
      refine lv_aload_n hx hb dX12_asks_102 rfl (lv_at hl 0 rfl) ?_
      refine lv_iload_n hx hb dX12_asks_103 rfl (lv_at hl 1 rfl) ?_
      refine lv_iload_n hx hb dX12_asks_104 rfl (lv_at hl 2 rfl) ?_
      refine lv_aload_n hx hb dX12_asks_105 rfl (lv_at hl 0 rfl) ?_
      refine mg_3 E hP dX12_asks_106 ?_
      refine lv_bipush (v := 19) hx hb dX12_asks_109 (by decide) ?_
      refine lv_iload_n hx hb dX12_asks_111 rfl (lv_at hl 1 rfl) ?_
      refine lv_iadd hx hb dX12_asks_112 ?_
      obtain ⟨hi, hf⟩ := gi_some hf
      refine ml_3 E hP hi dX12_asks_113 ?_
      obtain ⟨r5, st6, hc, hf⟩ := bd_some hf
      refine m_calli (n := 3) (rest := []) E hP hS (fun sz => tX12_turnsAt l D cy ad hJ sz v1 v2 (st.2.2.1 3 ((19 : Int32) + v1).toNatClampNeg) st r5 st6 hc) (gV k_1595 k_1597 ks_74 k_14 k_1598) qX12_turnsAt ⟨Nat.le_of_ble_eq_true rfl, Nat.le_of_ble_eq_true rfl⟩ ⟨Nat.le_refl _, Nat.le_refl _⟩ rfl hl.1 rfl (Nat.le_of_ble_eq_true rfl) dX12_asks_114 (fun H locs hP hS => ?_)
      exact m_iret hx hb hr hlocks hf hP hS dX12_asks_117
    replace hf := it_neg hq2 hf
    refine lv_tableOut (tgt := 118) hx hb dX12_asks_55 (tb_out (lo := 0) (hi := 2) (fun k h1 h2 he => ?_)) (by decide) ?_
    · have h3 : k = 0 ∨ k = 1 ∨ k = 2 := by omega
      rcases h3 with rfl | rfl | rfl
      · exact hq0 he
      · exact hq1 he
      · exact hq2 he
    · refine lv_aload_n hx hb dX12_asks_118 rfl (lv_at hl 0 rfl) ?_
      refine lv_iload_n hx hb dX12_asks_119 rfl (lv_at hl 1 rfl) ?_
      refine lv_iload_n hx hb dX12_asks_120 rfl (lv_at hl 2 rfl) ?_
      refine lv_aload_n hx hb dX12_asks_121 rfl (lv_at hl 0 rfl) ?_
      refine mg_3 E hP dX12_asks_122 ?_
      refine lv_bipush (v := 19) hx hb dX12_asks_125 (by decide) ?_
      refine lv_iload_n hx hb dX12_asks_127 rfl (lv_at hl 1 rfl) ?_
      refine lv_iadd hx hb dX12_asks_128 ?_
      obtain ⟨hi, hf⟩ := gi_some hf
      refine ml_3 E hP hi dX12_asks_129 ?_
      obtain ⟨r7, st8, hc, hf⟩ := bd_some hf
      refine m_calli (n := 3) (rest := []) E hP hS (fun sz => tX12_isTurned l D cy ad hJ sz v1 v2 (st.2.2.1 3 ((19 : Int32) + v1).toNatClampNeg) st r7 st8 hc) (gV k_1605 k_1607 ks_76 k_14 k_1608) qX12_isTurned ⟨Nat.le_of_ble_eq_true rfl, Nat.le_of_ble_eq_true rfl⟩ ⟨Nat.le_refl _, Nat.le_refl _⟩ rfl hl.1 rfl (Nat.le_of_ble_eq_true rfl) dX12_asks_130 (fun H locs hP hS => ?_)
      refine lv_if_eq (tgt := 140) hx hb dX12_asks_133 (by decide) (fun hc => ?_) (fun hc => ?_)
      · replace hf := it_pos hc hf
        refine lv_iconst (v := 0) hx hb dX12_asks_140 (by decide) ?_
        exact B141 (0 : Int32) st8 _ _ ls hf (lv_sub hl [] rfl) hP hS
      · replace hf := it_neg hc hf
        refine lv_iconst (v := 1) hx hb dX12_asks_136 (by decide) ?_
        refine lv_goto (tgt := 141) hx hb dX12_asks_137 (by decide) ?_
        exact B141 (1 : Int32) st8 _ _ ls hf (lv_sub hl [] rfl) hP hS
  refine lv_aload_n hx hb dX12_asks_0 rfl (lv_at hl 0 rfl) ?_
  refine lv_iconst (v := 0) hx hb dX12_asks_1 (by decide) ?_
  refine mp_0 E hD hP hS dX12_asks_2 (fun st9 H locs ex hP hS => ?_)
  replace hf := lt_at ex hf; clear ex
  refine lv_aload_n hx hb dX12_asks_5 rfl (lv_at hl 0 rfl) ?_
  refine lv_iload_n hx hb dX12_asks_6 rfl (lv_at hl 1 rfl) ?_
  obtain ⟨r10, st11, hc, hf⟩ := bd_some hf
  refine m_calli (n := 1) (rest := []) E hP hS (fun sz => tX12_isFort l D cy ad hJ sz a0 st9 r10 st11 hc) (gV k_1371 k_1373 ks_40 k_14 k_1374) qX12_isFort ⟨Nat.le_of_ble_eq_true rfl, Nat.le_of_ble_eq_true rfl⟩ ⟨Nat.le_refl _, Nat.le_refl _⟩ rfl hl.1 rfl (Nat.le_of_ble_eq_true rfl) dX12_asks_7 (fun H locs hP hS => ?_)
  refine lv_if_eq (tgt := 52) hx hb dX12_asks_10 (by decide) (fun hc => ?_) (fun hc => ?_)
  · replace hf := it_pos hc hf
    exact B52 st11 _ _ ls hf (lv_sub hl [] rfl) hP hS
  · replace hf := it_neg hc hf
    refine lv_iload_n hx hb dX12_asks_13 rfl (lv_at hl 3 rfl) ?_
    refine lv_i2l (v := a2.toInt64) hx hb dX12_asks_14 rfl ?_
    refine lv_lconst (v := 0) hx hb dX12_asks_15 (by decide) ?_
    refine lv_ldc2 (v := 3) hx hb hown (hT _ k_1366) dX12_asks_16 ?_
    obtain ⟨r12, hc, hf⟩ := bs_some hf
    refine s_calli (n := 3) (rest := []) E.1 (tX12_in l _ (a2.toInt64) (0 : Int64) (3 : Int64) r12 hc) (gS k_1350 k_1351 k_14 k_1352) qX12_in ⟨Nat.le_of_ble_eq_true rfl, Nat.le_of_ble_eq_true rfl⟩ ⟨Nat.le_refl _, Nat.le_refl _⟩ rfl hl.1 rfl (Nat.le_of_ble_eq_true rfl) dX12_asks_19 ?_
    refine lv_if_eq (tgt := 52) hx hb dX12_asks_22 (by decide) (fun hc => ?_) (fun hc => ?_)
    · replace hf := it_pos hc hf
      exact B52 st11 _ _ ls hf (lv_sub hl [] rfl) hP hS
    · replace hf := it_neg hc hf
      refine lv_iload_n hx hb dX12_asks_25 rfl (lv_at hl 3 rfl) ?_
      refine lv_iconst (v := 2) hx hb dX12_asks_26 (by decide) ?_
      refine lv_icmp_ge (tgt := 40) hx hb dX12_asks_27 (by decide) (fun hc => ?_) (fun hc => ?_)
      · replace hf := it_pos hc hf
        refine lv_iload_n hx hb dX12_asks_40 rfl (lv_at hl 2 rfl) ?_
        refine lv_i2l (v := a1.toInt64) hx hb dX12_asks_41 rfl ?_
        refine lv_lconst (v := 1) hx hb dX12_asks_42 (by decide) ?_
        refine lv_ldc2 (v := 99) hx hb hown (hT _ k_1365) dX12_asks_43 ?_
        obtain ⟨r13, hc, hf⟩ := bs_some hf
        refine s_calli (n := 3) (rest := []) E.1 (tX12_in l _ (a1.toInt64) (1 : Int64) (99 : Int64) r13 hc) (gS k_1350 k_1351 k_14 k_1352) qX12_in ⟨Nat.le_of_ble_eq_true rfl, Nat.le_of_ble_eq_true rfl⟩ ⟨Nat.le_refl _, Nat.le_refl _⟩ rfl hl.1 rfl (Nat.le_of_ble_eq_true rfl) dX12_asks_46 ?_
        refine lv_if_ne (tgt := 54) hx hb dX12_asks_49 (by decide) (fun hc => ?_) (fun hc => ?_)
        · replace hf := it_neg hc hf
          exact B54 a0 a1 a2 st11 _ _ ls hf hl hP hS
        · replace hf := it_pos hc hf
          exact B52 st11 _ _ ls hf (lv_sub hl [] rfl) hP hS
      · replace hf := it_neg hc hf
        refine lv_iload_n hx hb dX12_asks_30 rfl (lv_at hl 2 rfl) ?_
        obtain ⟨r14, hc, hf⟩ := bs_some hf
        refine s_calli (n := 1) (rest := []) E.1 (tX12_isOne l _ a1 r14 hc) (gS k_1393 k_1394 k_14 k_1395) qX12_isOne ⟨Nat.le_of_ble_eq_true rfl, Nat.le_of_ble_eq_true rfl⟩ ⟨Nat.le_refl _, Nat.le_refl _⟩ rfl hl.1 rfl (Nat.le_of_ble_eq_true rfl) dX12_asks_31 ?_
        refine lv_if_ne (tgt := 54) hx hb dX12_asks_34 (by decide) (fun hc => ?_) (fun hc => ?_)
        · replace hf := it_neg hc hf
          exact B54 a0 a1 a2 st11 _ _ ls hf hl hP hS
        · replace hf := it_pos hc hf
          refine lv_goto (tgt := 52) hx hb dX12_asks_37 (by decide) ?_
          exact B52 st11 _ _ ls hf (lv_sub hl [] rfl) hP hS
theorem qX12_asks : yX12_asks.cls = RX12 ∧ yX12_asks.cls ≠ "java/lang/invoke/MethodHandle" ∧ yX12_asks.cls ≠ "java/lang/invoke/VarHandle" ∧ (parseMethodDescriptor yX12_asks.desc).map (fun d => d.parameters.length) = some 3 := by decide +kernel
