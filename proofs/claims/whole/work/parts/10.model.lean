def fX12_in_b18 (w0 : Int32) : Option Int32 := gb w0 (some w0)
def fX12_in_b17 : Option Int32 := fX12_in_b18 (0 : Int32)
def fX12_in (a0 : Int64) (a1 : Int64) (a2 : Int64) : Option Int32 := if (lg_cmp a0 a1) < 0 then (fX12_in_b17 ) else (if 0 < (lg_cmp a0 a2) then (fX12_in_b17 ) else (fX12_in_b18 (1 : Int32)))
set_option maxHeartbeats 4000000 in
set_option maxRecDepth 100000 in
theorem tX12_in (l : Launch) (hh : Heap) (a0 : Int64) (a1 : Int64) (a2 : Int64) (rr : Int32) (hf : fX12_in a0 a1 a2 = some rr) : Met l yX12_in (Cond.code yX12_in cX12_in 6 (some .boolean) :: TT) (rmD 0) (sPc [.long a0, .long a1, .long a2] hh) (sQi rr hh) 0 0 (fun _ => False) := by
  refine s_meti (by decide) (Nat.le_of_ble_eq_true rfl) (fun p e s m args below meth c ls E hx hb hr hlocks hown hT hl => ?_)
  replace hl : lv_has ls 6 [(0, .long a0), (2, .long a1), (4, .long a2)] := hl
  unfold fX12_in at hf
  have B18 : ∀ (w0 : Int32) (ls : Array Slot), fX12_in_b18 w0 = some rr → lv_has ls 6 [] → sGi l 0 rr p e s m args below meth c (F0 m 18 ls [.int w0]) := by
    intro w0 ls hf hl
    unfold fX12_in_b18 at hf
    obtain ⟨hn, hf⟩ := gb_some hf
    exact s_zret hx hb hr hlocks hn hf dX12_in_18
  have B17 : ∀ (ls : Array Slot), fX12_in_b17  = some rr → lv_has ls 6 [] → sGi l 0 rr p e s m args below meth c (F0 m 17 ls []) := by
    intro  ls hf hl
    unfold fX12_in_b17 at hf
    refine lv_iconst (v := 0) hx hb dX12_in_17 (by decide) ?_
    exact B18 (0 : Int32) ls hf hl
  refine lv_lload_n hx hb dX12_in_0 rfl (lv_at hl 0 rfl) ?_
  refine lv_lload_n hx hb dX12_in_1 rfl (lv_at hl 1 rfl) ?_
  refine W.lcmp hx hb dX12_in_2 ?_
  refine lv_if_lt (tgt := 17) hx hb dX12_in_3 (by decide) (fun hc => ?_) (fun hc => ?_)
  · replace hf := it_pos hc hf
    exact B17  ls hf (lv_sub hl [] rfl)
  · replace hf := it_neg hc hf
    refine lv_lload_n hx hb dX12_in_6 rfl (lv_at hl 0 rfl) ?_
    refine lv_lload hx hb dX12_in_7 (lv_at hl 2 rfl) ?_
    refine W.lcmp hx hb dX12_in_9 ?_
    refine lv_if_gt (tgt := 17) hx hb dX12_in_10 (by decide) (fun hc => ?_) (fun hc => ?_)
    · replace hf := it_pos hc hf
      exact B17  ls hf (lv_sub hl [] rfl)
    · replace hf := it_neg hc hf
      refine lv_iconst (v := 1) hx hb dX12_in_13 (by decide) ?_
      refine lv_goto (tgt := 18) hx hb dX12_in_14 (by decide) ?_
      exact B18 (1 : Int32) ls hf (lv_sub hl [] rfl)
theorem qX12_in : yX12_in.cls = RX12 ∧ yX12_in.cls ≠ "java/lang/invoke/MethodHandle" ∧ yX12_in.cls ≠ "java/lang/invoke/VarHandle" ∧ (parseMethodDescriptor yX12_in.desc).map (fun d => d.parameters.length) = some 3 := by decide +kernel
def fX12_is_b14 (w0 : Int32) : Option Int32 := gb w0 (some w0)
def fX12_is (a0 : Int32) (a1 : Int32) : Option Int32 := if ((a0 >>> (a1 &&& 31)) &&& (1 : Int32)) = (1 : Int32) then (fX12_is_b14 (1 : Int32)) else (fX12_is_b14 (0 : Int32))
set_option maxHeartbeats 4000000 in
set_option maxRecDepth 100000 in
theorem tX12_is (l : Launch) (hh : Heap) (a0 : Int32) (a1 : Int32) (rr : Int32) (hf : fX12_is a0 a1 = some rr) : Met l yX12_is (Cond.code yX12_is cX12_is 2 (some .boolean) :: TT) (rmD 0) (sPc [.int a0, .int a1] hh) (sQi rr hh) 0 0 (fun _ => False) := by
  refine s_meti (by decide) (Nat.le_of_ble_eq_true rfl) (fun p e s m args below meth c ls E hx hb hr hlocks hown hT hl => ?_)
  replace hl : lv_has ls 2 [(0, .int a0), (1, .int a1)] := hl
  unfold fX12_is at hf
  have B14 : ∀ (w0 : Int32) (ls : Array Slot), fX12_is_b14 w0 = some rr → lv_has ls 2 [] → sGi l 0 rr p e s m args below meth c (F0 m 14 ls [.int w0]) := by
    intro w0 ls hf hl
    unfold fX12_is_b14 at hf
    obtain ⟨hn, hf⟩ := gb_some hf
    exact s_zret hx hb hr hlocks hn hf dX12_is_14
  refine lv_iload_n hx hb dX12_is_0 rfl (lv_at hl 0 rfl) ?_
  refine lv_iload_n hx hb dX12_is_1 rfl (lv_at hl 1 rfl) ?_
  refine lv_ishr hx hb dX12_is_2 ?_
  refine lv_iconst (v := 1) hx hb dX12_is_3 (by decide) ?_
  refine lv_iand hx hb dX12_is_4 ?_
  refine lv_iconst (v := 1) hx hb dX12_is_5 (by decide) ?_
  refine lv_icmp_ne (tgt := 13) hx hb dX12_is_6 (by decide) (fun hc => ?_) (fun hc => ?_)
  · replace hf := it_neg hc hf
    refine lv_iconst (v := 0) hx hb dX12_is_13 (by decide) ?_
    exact B14 (0 : Int32) ls hf (lv_sub hl [] rfl)
  · replace hf := it_pos hc hf
    refine lv_iconst (v := 1) hx hb dX12_is_9 (by decide) ?_
    refine lv_goto (tgt := 14) hx hb dX12_is_10 (by decide) ?_
    exact B14 (1 : Int32) ls hf (lv_sub hl [] rfl)
theorem qX12_is : yX12_is.cls = RX12 ∧ yX12_is.cls ≠ "java/lang/invoke/MethodHandle" ∧ yX12_is.cls ≠ "java/lang/invoke/VarHandle" ∧ (parseMethodDescriptor yX12_is.desc).map (fun d => d.parameters.length) = some 2 := by decide +kernel
def fX12_ones_b4 (k4 : Int32 → Int32 → Int32 → Option Int32) (v0 : Int32) (v1 : Int32) (v2 : Int32) : Option Int32 := if (10 : Int32) ≤ v2 then (some v1) else (lt (v1 + ((v0 >>> (v2 &&& 31)) &&& (1 : Int32))) (fun x1 => lt (v2 + (1 : Int32)) (fun x2 => k4 v0 x1 x2)))
def fX12_ones (a0 : Int32) : Option Int32 := lp (fun _ _ _ => none) (fX12_ones_b4) 6000 a0 (0 : Int32) (0 : Int32)
set_option maxHeartbeats 4000000 in
set_option maxRecDepth 100000 in
theorem tX12_ones (l : Launch) (hh : Heap) (a0 : Int32) (rr : Int32) (hf : fX12_ones a0 = some rr) : Met l yX12_ones (Cond.code yX12_ones cX12_ones 3 (some .int) :: TT) (rmD 0) (sPc [.int a0] hh) (sQi rr hh) 0 0 (fun _ => False) := by
  refine s_meti (by decide) (Nat.le_of_ble_eq_true rfl) (fun p e s m args below meth c ls E hx hb hr hlocks hown hT hl => ?_)
  replace hl : lv_has ls 3 [(0, .int a0)] := hl
  unfold fX12_ones at hf
  have L4 : ∀ (n : Nat) (v0 : Int32) (v1 : Int32) (v2 : Int32) (ls : Array Slot), lp (fun _ _ _ => none) (fX12_ones_b4) n v0 v1 v2 = some rr → lv_has ls 3 [(0, .int v0), (1, .int v1), (2, .int v2)] → sGi l 0 rr p e s m args below meth c (F0 m 4 ls []) := by
    intro n
    induction n with
    | zero => intro v0 v1 v2 ls hf; exact absurd hf (fun h => by cases h)
    | succ n K4 =>
      intro v0 v1 v2 ls hf hl
      replace hf : fX12_ones_b4 (lp (fun _ _ _ => none) (fX12_ones_b4) n) v0 v1 v2 = some rr := hf
      generalize lp (fun _ _ _ => none) (fX12_ones_b4) n = k4 at hf K4
      unfold fX12_ones_b4 at hf
      refine lv_iload_n hx hb dX12_ones_4 rfl (lv_at hl 2 rfl) ?_
      refine lv_bipush (v := 10) hx hb dX12_ones_5 (by decide) ?_
      refine lv_icmp_ge (tgt := 24) hx hb dX12_ones_7 (by decide) (fun hc => ?_) (fun hc => ?_)
      · replace hf := it_pos hc hf
        refine lv_iload_n hx hb dX12_ones_24 rfl (lv_at hl 1 rfl) ?_
        exact s_iret hx hb hr hlocks hf dX12_ones_25
      · replace hf := it_neg hc hf
        refine lv_iload_n hx hb dX12_ones_10 rfl (lv_at hl 1 rfl) ?_
        refine lv_iload_n hx hb dX12_ones_11 rfl (lv_at hl 0 rfl) ?_
        refine lv_iload_n hx hb dX12_ones_12 rfl (lv_at hl 2 rfl) ?_
        refine lv_ishr hx hb dX12_ones_13 ?_
        refine lv_iconst (v := 1) hx hb dX12_ones_14 (by decide) ?_
        refine lv_iand hx hb dX12_ones_15 ?_
        refine lv_iadd hx hb dX12_ones_16 ?_
        refine lv_topi (fun x1 ex => ?_)
        replace hf := lt_at ex hf; clear ex
        refine lv_istore_n (lv' := [(1, .int x1), (0, .int v0), (2, .int v2)]) hx hb dX12_ones_17 rfl hl (by decide) rfl (fun ls hl => ?_)
        obtain ⟨x2, ex⟩ : ∃ y : Int32, y = v2 + (1 : Int32) := ⟨_, rfl⟩
        replace hf := lt_at ex hf
        refine lv_iinc (v := x2) (lv' := [(2, .int x2), (1, .int x1), (0, .int v0)]) hx hb dX12_ones_18 hl (k := 2) rfl (by rw [ex]; rfl) (by decide) rfl (fun ls hl => ?_)
        clear ex
        refine lv_goto (tgt := 4) hx hb dX12_ones_21 (by decide) ?_
        exact K4 v0 x1 x2 ls hf (lv_sub hl [2, 1, 0] rfl)
  refine lv_iconst (v := 0) hx hb dX12_ones_0 (by decide) ?_
  refine lv_istore_n (lv' := [(1, .int (0 : Int32)), (0, .int a0)]) hx hb dX12_ones_1 rfl hl (by decide) rfl (fun ls hl => ?_)
  refine lv_iconst (v := 0) hx hb dX12_ones_2 (by decide) ?_
  refine lv_istore_n (lv' := [(2, .int (0 : Int32)), (1, .int (0 : Int32)), (0, .int a0)]) hx hb dX12_ones_3 rfl hl (by decide) rfl (fun ls hl => ?_)
  exact L4 6000 a0 (0 : Int32) (0 : Int32) ls hf (lv_sub hl [2, 1, 0] rfl)
theorem qX12_ones : yX12_ones.cls = RX12 ∧ yX12_ones.cls ≠ "java/lang/invoke/MethodHandle" ∧ yX12_ones.cls ≠ "java/lang/invoke/VarHandle" ∧ (parseMethodDescriptor yX12_ones.desc).map (fun d => d.parameters.length) = some 1 := by decide +kernel
def fX12_within_b24 (w0 : Int32) : Option Int32 := some w0
def fX12_within (a0 : Int64) (a1 : Int32) (a2 : Int32) : Option Int32 := if 0 ≤ (lg_cmp a0 (a1.toInt64)) then (if (lg_cmp a0 (a2.toInt64)) ≤ 0 then (fX12_within_b24 (a0.toInt32)) else (fX12_within_b24 a2)) else (fX12_within_b24 a1)
set_option maxHeartbeats 4000000 in
set_option maxRecDepth 100000 in
theorem tX12_within (l : Launch) (hh : Heap) (a0 : Int64) (a1 : Int32) (a2 : Int32) (rr : Int32) (hf : fX12_within a0 a1 a2 = some rr) : Met l yX12_within (Cond.code yX12_within cX12_within 4 (some .int) :: TT) (rmD 0) (sPc [.long a0, .int a1, .int a2] hh) (sQi rr hh) 0 0 (fun _ => False) := by
  refine s_meti (by decide) (Nat.le_of_ble_eq_true rfl) (fun p e s m args below meth c ls E hx hb hr hlocks hown hT hl => ?_)
  replace hl : lv_has ls 4 [(0, .long a0), (2, .int a1), (3, .int a2)] := hl
  unfold fX12_within at hf
  have B24 : ∀ (w0 : Int32) (ls : Array Slot), fX12_within_b24 w0 = some rr → lv_has ls 4 [] → sGi l 0 rr p e s m args below meth c (F0 m 24 ls [.int w0]) := by
    intro w0 ls hf hl
    unfold fX12_within_b24 at hf
    exact s_iret hx hb hr hlocks hf dX12_within_24
  refine lv_lload_n hx hb dX12_within_0 rfl (lv_at hl 0 rfl) ?_
  refine lv_iload_n hx hb dX12_within_1 rfl (lv_at hl 1 rfl) ?_
  refine lv_i2l (v := a1.toInt64) hx hb dX12_within_2 rfl ?_
  refine W.lcmp hx hb dX12_within_3 ?_
  refine lv_if_ge (tgt := 11) hx hb dX12_within_4 (by decide) (fun hc => ?_) (fun hc => ?_)
  · replace hf := it_pos hc hf
    refine lv_lload_n hx hb dX12_within_11 rfl (lv_at hl 0 rfl) ?_
    refine lv_iload_n hx hb dX12_within_12 rfl (lv_at hl 2 rfl) ?_
    refine lv_i2l (v := a2.toInt64) hx hb dX12_within_13 rfl ?_
    refine W.lcmp hx hb dX12_within_14 ?_
    refine lv_if_le (tgt := 22) hx hb dX12_within_15 (by decide) (fun hc => ?_) (fun hc => ?_)
    · replace hf := it_pos hc hf
      refine lv_lload_n hx hb dX12_within_22 rfl (lv_at hl 0 rfl) ?_
      refine lv_l2i (v := a0.toInt32) hx hb dX12_within_23 rfl ?_
      exact B24 (a0.toInt32) ls hf (lv_sub hl [] rfl)
    · replace hf := it_neg hc hf
      refine lv_iload_n hx hb dX12_within_18 rfl (lv_at hl 2 rfl) ?_
      refine lv_goto (tgt := 24) hx hb dX12_within_19 (by decide) ?_
      exact B24 a2 ls hf (lv_sub hl [] rfl)
  · replace hf := it_neg hc hf
    refine lv_iload_n hx hb dX12_within_7 rfl (lv_at hl 1 rfl) ?_
    refine lv_goto (tgt := 24) hx hb dX12_within_8 (by decide) ?_
    exact B24 a1 ls hf (lv_sub hl [] rfl)
theorem qX12_within : yX12_within.cls = RX12 ∧ yX12_within.cls ≠ "java/lang/invoke/MethodHandle" ∧ yX12_within.cls ≠ "java/lang/invoke/VarHandle" ∧ (parseMethodDescriptor yX12_within.desc).map (fun d => d.parameters.length) = some 3 := by decide +kernel
def fX12_tell_b28 (v1 : Int32) (st : St) : Option (Int32 × St) := some (v1, st)
def fX12_tell_b10 (v1 : Int32) (w0 : Int32) (st : St) : Option (Int32 × St) := lt (sI st 1 w0) (fun st1 => if 0 ≤ v1 then (fX12_tell_b28 v1 st1) else (gi (-v1) 7 (gi (-v1) 7 (lt (sA st1 2 (upd (st1.2.2.1 2) (-v1).toNatClampNeg ((st1.2.2.1 2 (-v1).toNatClampNeg) + (1 : Int32)))) (fun st2 => fX12_tell_b28 v1 st2)))))
def fX12_tell (a0 : Int32) (st : St) : Option (Int32 × St) := if 0 ≤ a0 then (fX12_tell_b10 a0 (0 : Int32) st) else (fX12_tell_b10 a0 a0 st)
set_option maxHeartbeats 4000000 in
set_option maxRecDepth 100000 in
theorem tX12_tell (l : Launch) (D : va_G) (cy : Nat → ClassId) (ad : Nat → Nat) (hJ : (mads ad).Nodup) (sz : Nat) (a0 : Int32) (st : St) (rr : Int32) (st' : St) (hf : fX12_tell a0 st = some (rr, st')) : Met l yX12_tell (Cond.code yX12_tell cX12_tell 2 (some .int) :: TT) (rmD 0) (mPc D cy ad [.int a0] st sz) (mQi D cy ad rr st' sz) 0 0 (mA ad sz) := by
  refine m_meti (by decide) hJ (Nat.le_of_ble_eq_true rfl) (fun p e s m args below meth c ls E hx hb hr hlocks hown hT hD hl hP hS => ?_)
  replace hl : lv_has ls 2 [(0, .ref (ad 100)), (1, .int a0)] := hl
  unfold fX12_tell at hf
  have B28 : ∀ (v1 : Int32) (st : St) (H : Heap) (locs : List Loc) (ls : Array Slot), fX12_tell_b28 v1 st = some (rr, st') → lv_has ls 2 [(1, .int v1)] → va_P D classes (mw cy ad st) H → va_S (mA ad s.heap.size) s.heap H locs → mGi l 0 D cy ad rr st' p e s m args below meth c H locs (F0 m 28 ls []) := by
    intro v1 st H locs ls hf hl hP hS
    unfold fX12_tell_b28 at hf
    refine lv_iload_n hx hb dX12_tell_28 rfl (lv_at hl 0 rfl) ?_
    exact m_iret hx hb hr hlocks hf hP hS dX12_tell_29
  have B10 : ∀ (v1 : Int32) (w0 : Int32) (st : St) (H : Heap) (locs : List Loc) (ls : Array Slot), fX12_tell_b10 v1 w0 st = some (rr, st') → lv_has ls 2 [(0, .ref (ad 100)), (1, .int v1)] → va_P D classes (mw cy ad st) H → va_S (mA ad s.heap.size) s.heap H locs → mGi l 0 D cy ad rr st' p e s m args below meth c H locs (F0 m 10 ls [.int w0, .ref (ad 100)]) := by
    intro v1 w0 st H locs ls hf hl hP hS
    unfold fX12_tell_b10 at hf
    refine mp_1 E hD hP hS dX12_tell_10 (fun st1 H locs ex hP hS => ?_)
    replace hf := lt_at ex hf; clear ex
    refine lv_iload_n hx hb dX12_tell_13 rfl (lv_at hl 1 rfl) ?_
    refine lv_if_ge (tgt := 28) hx hb dX12_tell_14 (by decide) (fun hc => ?_) (fun hc => ?_)
    · replace hf := it_pos hc hf
      exact B28 v1 st1 _ _ ls hf (lv_sub hl [1] rfl) hP hS
    · replace hf := it_neg hc hf
      refine lv_aload_n hx hb dX12_tell_17 rfl (lv_at hl 0 rfl) ?_
      refine mg_2 E hP dX12_tell_18 ?_
      refine lv_iload_n hx hb dX12_tell_21 rfl (lv_at hl 1 rfl) ?_
      refine lv_ineg hx hb dX12_tell_22 ?_
      refine lv_dup2_11 hx hb dX12_tell_23 rfl rfl ?_
      obtain ⟨hi, hf⟩ := gi_some hf
      refine ml_2 E hP hi dX12_tell_24 ?_
      refine lv_iconst (v := 1) hx hb dX12_tell_25 (by decide) ?_
      refine lv_iadd hx hb dX12_tell_26 ?_
      obtain ⟨hi, hf⟩ := gi_some hf
      refine ms_2 E hD hP hS hi dX12_tell_27 (fun st2 H locs ex hP hS => ?_)
      replace hf := lt_at ex hf; clear ex
      exact B28 v1 st2 _ _ ls hf (lv_sub hl [1] rfl) hP hS
  refine lv_aload_n hx hb dX12_tell_0 rfl (lv_at hl 0 rfl) ?_
  refine lv_iload_n hx hb dX12_tell_1 rfl (lv_at hl 1 rfl) ?_
  refine lv_if_ge (tgt := 9) hx hb dX12_tell_2 (by decide) (fun hc => ?_) (fun hc => ?_)
  · replace hf := it_pos hc hf
    refine lv_iconst (v := 0) hx hb dX12_tell_9 (by decide) ?_
    exact B10 a0 (0 : Int32) st _ _ ls hf hl hP hS
  · replace hf := it_neg hc hf
    refine lv_iload_n hx hb dX12_tell_5 rfl (lv_at hl 1 rfl) ?_
    refine lv_goto (tgt := 10) hx hb dX12_tell_6 (by decide) ?_
    exact B10 a0 a0 st _ _ ls hf hl hP hS
theorem qX12_tell : yX12_tell.cls = RX12 ∧ yX12_tell.cls ≠ "java/lang/invoke/MethodHandle" ∧ yX12_tell.cls ≠ "java/lang/invoke/VarHandle" ∧ (parseMethodDescriptor yX12_tell.desc).map (fun d => d.parameters.length) = some 1 := by decide +kernel
def fX12_change (a0 : Int32) (a1 : Int32) (st : St) : Option (Int32 × St) := gi a0 5550 (lt (st.2.2.1 3 a0.toNatClampNeg) (fun x1 => gi a0 5550 (lt (sA st 3 (upd (st.2.2.1 3) a0.toNatClampNeg a1)) (fun st2 => lt (sI st2 1 (0 : Int32)) (fun st3 => some (x1, st3))))))
set_option maxHeartbeats 4000000 in
set_option maxRecDepth 100000 in
theorem tX12_change (l : Launch) (D : va_G) (cy : Nat → ClassId) (ad : Nat → Nat) (hJ : (mads ad).Nodup) (sz : Nat) (a0 : Int32) (a1 : Int32) (st : St) (rr : Int32) (st' : St) (hf : fX12_change a0 a1 st = some (rr, st')) : Met l yX12_change (Cond.code yX12_change cX12_change 4 (some .int) :: TT) (rmD 0) (mPc D cy ad [.int a0, .int a1] st sz) (mQi D cy ad rr st' sz) 0 0 (mA ad sz) := by
  refine m_meti (by decide) hJ (Nat.le_of_ble_eq_true rfl) (fun p e s m args below meth c ls E hx hb hr hlocks hown hT hD hl hP hS => ?_)
  replace hl : lv_has ls 4 [(0, .ref (ad 100)), (1, .int a0), (2, .int a1)] := hl
  unfold fX12_change at hf
  refine lv_aload_n hx hb dX12_change_0 rfl (lv_at hl 0 rfl) ?_
  refine mg_3 E hP dX12_change_1 ?_
  refine lv_iload_n hx hb dX12_change_4 rfl (lv_at hl 1 rfl) ?_
  obtain ⟨hi, hf⟩ := gi_some hf
  refine ml_3 E hP hi dX12_change_5 ?_
  refine lv_topi (fun x1 ex => ?_)
  replace hf := lt_at ex hf; clear ex
  refine lv_istore_n (lv' := [(3, .int x1), (0, .ref (ad 100)), (1, .int a0), (2, .int a1)]) hx hb dX12_change_6 rfl hl (by decide) rfl (fun ls hl => ?_)
  refine lv_aload_n hx hb dX12_change_7 rfl (lv_at hl 1 rfl) ?_
  refine mg_3 E hP dX12_change_8 ?_
  refine lv_iload_n hx hb dX12_change_11 rfl (lv_at hl 2 rfl) ?_
  refine lv_iload_n hx hb dX12_change_12 rfl (lv_at hl 3 rfl) ?_
  obtain ⟨hi, hf⟩ := gi_some hf
  refine ms_3 E hD hP hS hi dX12_change_13 (fun st2 H locs ex hP hS => ?_)
  replace hf := lt_at ex hf; clear ex
  refine lv_aload_n hx hb dX12_change_14 rfl (lv_at hl 1 rfl) ?_
  refine lv_iconst (v := 0) hx hb dX12_change_15 (by decide) ?_
  refine mp_1 E hD hP hS dX12_change_16 (fun st3 H locs ex hP hS => ?_)
  replace hf := lt_at ex hf; clear ex
  refine lv_iload_n hx hb dX12_change_19 rfl (lv_at hl 0 rfl) ?_
  exact m_iret hx hb hr hlocks hf hP hS dX12_change_20
theorem qX12_change : yX12_change.cls = RX12 ∧ yX12_change.cls ≠ "java/lang/invoke/MethodHandle" ∧ yX12_change.cls ≠ "java/lang/invoke/VarHandle" ∧ (parseMethodDescriptor yX12_change.desc).map (fun d => d.parameters.length) = some 2 := by decide +kernel
def fX12_keepAll_b2 (k2 : Int32 → Int32 → St → Option (Unit × St)) (v1 : Int32) (v2 : Int32) (st : St) : Option (Unit × St) := if (25 : Int32) ≤ v2 then (some ((), st)) else (gi ((6 : Int32) + v2) 5550 (gi (((25 : Int32) * v1) + v2) 450 (lt (sA st 6 (upd (st.2.2.1 6) (((25 : Int32) * v1) + v2).toNatClampNeg (st.2.2.1 3 ((6 : Int32) + v2).toNatClampNeg))) (fun st1 => lt (v2 + (1 : Int32)) (fun x2 => k2 v1 x2 st1)))))
def fX12_keepAll (a0 : Int32) (st : St) : Option (Unit × St) := lp (fun _ _ _ => none) (fX12_keepAll_b2) 6000 a0 (0 : Int32) st
set_option maxHeartbeats 4000000 in
set_option maxRecDepth 100000 in
theorem tX12_keepAll (l : Launch) (D : va_G) (cy : Nat → ClassId) (ad : Nat → Nat) (hJ : (mads ad).Nodup) (sz : Nat) (a0 : Int32) (st : St) (rr : Unit) (st' : St) (hf : fX12_keepAll a0 st = some (rr, st')) : Met l yX12_keepAll (Cond.code yX12_keepAll cX12_keepAll 3 none :: TT) (rmD 0) (mPc D cy ad [.int a0] st sz) (mQv D cy ad rr st' sz) 0 0 (mA ad sz) := by
  refine m_metv (by decide) hJ (Nat.le_of_ble_eq_true rfl) (fun p e s m args below meth c ls E hx hb hr hlocks hown hT hD hl hP hS => ?_)
  replace hl : lv_has ls 3 [(0, .ref (ad 100)), (1, .int a0)] := hl
  unfold fX12_keepAll at hf
  have L2 : ∀ (n : Nat) (v1 : Int32) (v2 : Int32) (st : St) (H : Heap) (locs : List Loc) (ls : Array Slot), lp (fun _ _ _ => none) (fX12_keepAll_b2) n v1 v2 st = some (rr, st') → lv_has ls 3 [(0, .ref (ad 100)), (1, .int v1), (2, .int v2)] → va_P D classes (mw cy ad st) H → va_S (mA ad s.heap.size) s.heap H locs → mGv l 0 D cy ad rr st' p e s m args below meth c H locs (F0 m 2 ls []) := by
    intro n
    induction n with
    | zero => intro v1 v2 st H locs ls hf; exact absurd hf (fun h => by cases h)
    | succ n K2 =>
      intro v1 v2 st H locs ls hf hl hP hS
      replace hf : fX12_keepAll_b2 (lp (fun _ _ _ => none) (fX12_keepAll_b2) n) v1 v2 st = some (rr, st') := hf
      generalize lp (fun _ _ _ => none) (fX12_keepAll_b2) n = k2 at hf K2
      unfold fX12_keepAll_b2 at hf
      refine lv_iload_n hx hb dX12_keepAll_2 rfl (lv_at hl 2 rfl) ?_
      refine lv_bipush (v := 25) hx hb dX12_keepAll_3 (by decide) ?_
      refine lv_icmp_ge (tgt := 34) hx hb dX12_keepAll_5 (by decide) (fun hc => ?_) (fun hc => ?_)
      · replace hf := it_pos hc hf
        exact m_vret hx hb hr hlocks hf hP hS dX12_keepAll_34
      · replace hf := it_neg hc hf
        refine lv_aload_n hx hb dX12_keepAll_8 rfl (lv_at hl 0 rfl) ?_
        refine mg_6 E hP dX12_keepAll_9 ?_
        refine lv_bipush (v := 25) hx hb dX12_keepAll_12 (by decide) ?_
        refine lv_iload_n hx hb dX12_keepAll_14 rfl (lv_at hl 1 rfl) ?_
        refine lv_imul hx hb dX12_keepAll_15 ?_
        refine lv_iload_n hx hb dX12_keepAll_16 rfl (lv_at hl 2 rfl) ?_
        refine lv_iadd hx hb dX12_keepAll_17 ?_
        refine lv_aload_n hx hb dX12_keepAll_18 rfl (lv_at hl 0 rfl) ?_
        refine mg_3 E hP dX12_keepAll_19 ?_
        refine lv_bipush (v := 6) hx hb dX12_keepAll_22 (by decide) ?_
        refine lv_iload_n hx hb dX12_keepAll_24 rfl (lv_at hl 2 rfl) ?_
        refine lv_iadd hx hb dX12_keepAll_25 ?_
        obtain ⟨hi, hf⟩ := gi_some hf
        refine ml_3 E hP hi dX12_keepAll_26 ?_
        obtain ⟨hi, hf⟩ := gi_some hf
        refine ms_6 E hD hP hS hi dX12_keepAll_27 (fun st1 H locs ex hP hS => ?_)
        replace hf := lt_at ex hf; clear ex
        obtain ⟨x2, ex⟩ : ∃ y : Int32, y = v2 + (1 : Int32) := ⟨_, rfl⟩
        replace hf := lt_at ex hf
        refine lv_iinc (v := x2) (lv' := [(2, .int x2), (0, .ref (ad 100)), (1, .int v1)]) hx hb dX12_keepAll_28 hl (k := 2) rfl (by rw [ex]; rfl) (by decide) rfl (fun ls hl => ?_)
        clear ex
        refine lv_goto (tgt := 2) hx hb dX12_keepAll_31 (by decide) ?_
        exact K2 v1 x2 st1 _ _ ls hf (lv_sub hl [1, 2, 0] rfl) hP hS
  refine lv_iconst (v := 0) hx hb dX12_keepAll_0 (by decide) ?_
  refine lv_istore_n (lv' := [(2, .int (0 : Int32)), (0, .ref (ad 100)), (1, .int a0)]) hx hb dX12_keepAll_1 rfl hl (by decide) rfl (fun ls hl => ?_)
  exact L2 6000 a0 (0 : Int32) st _ _ ls hf (lv_sub hl [1, 2, 0] rfl) hP hS
theorem qX12_keepAll : yX12_keepAll.cls = RX12 ∧ yX12_keepAll.cls ≠ "java/lang/invoke/MethodHandle" ∧ yX12_keepAll.cls ≠ "java/lang/invoke/VarHandle" ∧ (parseMethodDescriptor yX12_keepAll.desc).map (fun d => d.parameters.length) = some 1 := by decide +kernel
def fX12_putBack_b2 (k2 : Int32 → Int32 → St → Option (Unit × St)) (v1 : Int32) (v2 : Int32) (st : St) : Option (Unit × St) := if (25 : Int32) ≤ v2 then (some ((), st)) else (gi (((25 : Int32) * v1) + v2) 450 (gi ((6 : Int32) + v2) 5550 (lt (sA st 3 (upd (st.2.2.1 3) ((6 : Int32) + v2).toNatClampNeg (st.2.2.1 6 (((25 : Int32) * v1) + v2).toNatClampNeg))) (fun st1 => lt (v2 + (1 : Int32)) (fun x2 => k2 v1 x2 st1)))))
def fX12_putBack (a0 : Int32) (st : St) : Option (Unit × St) := lp (fun _ _ _ => none) (fX12_putBack_b2) 6000 a0 (0 : Int32) st
set_option maxHeartbeats 4000000 in
set_option maxRecDepth 100000 in
theorem tX12_putBack (l : Launch) (D : va_G) (cy : Nat → ClassId) (ad : Nat → Nat) (hJ : (mads ad).Nodup) (sz : Nat) (a0 : Int32) (st : St) (rr : Unit) (st' : St) (hf : fX12_putBack a0 st = some (rr, st')) : Met l yX12_putBack (Cond.code yX12_putBack cX12_putBack 3 none :: TT) (rmD 0) (mPc D cy ad [.int a0] st sz) (mQv D cy ad rr st' sz) 0 0 (mA ad sz) := by
  refine m_metv (by decide) hJ (Nat.le_of_ble_eq_true rfl) (fun p e s m args below meth c ls E hx hb hr hlocks hown hT hD hl hP hS => ?_)
  replace hl : lv_has ls 3 [(0, .ref (ad 100)), (1, .int a0)] := hl
  unfold fX12_putBack at hf
  have L2 : ∀ (n : Nat) (v1 : Int32) (v2 : Int32) (st : St) (H : Heap) (locs : List Loc) (ls : Array Slot), lp (fun _ _ _ => none) (fX12_putBack_b2) n v1 v2 st = some (rr, st') → lv_has ls 3 [(0, .ref (ad 100)), (1, .int v1), (2, .int v2)] → va_P D classes (mw cy ad st) H → va_S (mA ad s.heap.size) s.heap H locs → mGv l 0 D cy ad rr st' p e s m args below meth c H locs (F0 m 2 ls []) := by
    intro n
    induction n with
    | zero => intro v1 v2 st H locs ls hf; exact absurd hf (fun h => by cases h)
    | succ n K2 =>
      intro v1 v2 st H locs ls hf hl hP hS
      replace hf : fX12_putBack_b2 (lp (fun _ _ _ => none) (fX12_putBack_b2) n) v1 v2 st = some (rr, st') := hf
      generalize lp (fun _ _ _ => none) (fX12_putBack_b2) n = k2 at hf K2
      unfold fX12_putBack_b2 at hf
      refine lv_iload_n hx hb dX12_putBack_2 rfl (lv_at hl 2 rfl) ?_
      refine lv_bipush (v := 25) hx hb dX12_putBack_3 (by decide) ?_
      refine lv_icmp_ge (tgt := 34) hx hb dX12_putBack_5 (by decide) (fun hc => ?_) (fun hc => ?_)
      · replace hf := it_pos hc hf
        exact m_vret hx hb hr hlocks hf hP hS dX12_putBack_34
      · replace hf := it_neg hc hf
        refine lv_aload_n hx hb dX12_putBack_8 rfl (lv_at hl 0 rfl) ?_
        refine mg_3 E hP dX12_putBack_9 ?_
        refine lv_bipush (v := 6) hx hb dX12_putBack_12 (by decide) ?_
        refine lv_iload_n hx hb dX12_putBack_14 rfl (lv_at hl 2 rfl) ?_
        refine lv_iadd hx hb dX12_putBack_15 ?_
        refine lv_aload_n hx hb dX12_putBack_16 rfl (lv_at hl 0 rfl) ?_
        refine mg_6 E hP dX12_putBack_17 ?_
        refine lv_bipush (v := 25) hx hb dX12_putBack_20 (by decide) ?_
        refine lv_iload_n hx hb dX12_putBack_22 rfl (lv_at hl 1 rfl) ?_
        refine lv_imul hx hb dX12_putBack_23 ?_
        refine lv_iload_n hx hb dX12_putBack_24 rfl (lv_at hl 2 rfl) ?_
        refine lv_iadd hx hb dX12_putBack_25 ?_
        obtain ⟨hi, hf⟩ := gi_some hf
        refine ml_6 E hP hi dX12_putBack_26 ?_
        obtain ⟨hi, hf⟩ := gi_some hf
        refine ms_3 E hD hP hS hi dX12_putBack_27 (fun st1 H locs ex hP hS => ?_)
        replace hf := lt_at ex hf; clear ex
        obtain ⟨x2, ex⟩ : ∃ y : Int32, y = v2 + (1 : Int32) := ⟨_, rfl⟩
        replace hf := lt_at ex hf
        refine lv_iinc (v := x2) (lv' := [(2, .int x2), (0, .ref (ad 100)), (1, .int v1)]) hx hb dX12_putBack_28 hl (k := 2) rfl (by rw [ex]; rfl) (by decide) rfl (fun ls hl => ?_)
        clear ex
        refine lv_goto (tgt := 2) hx hb dX12_putBack_31 (by decide) ?_
        exact K2 v1 x2 st1 _ _ ls hf (lv_sub hl [1, 2, 0] rfl) hP hS
  refine lv_iconst (v := 0) hx hb dX12_putBack_0 (by decide) ?_
  refine lv_istore_n (lv' := [(2, .int (0 : Int32)), (0, .ref (ad 100)), (1, .int a0)]) hx hb dX12_putBack_1 rfl hl (by decide) rfl (fun ls hl => ?_)
  exact L2 6000 a0 (0 : Int32) st _ _ ls hf (lv_sub hl [1, 2, 0] rfl) hP hS
theorem qX12_putBack : yX12_putBack.cls = RX12 ∧ yX12_putBack.cls ≠ "java/lang/invoke/MethodHandle" ∧ yX12_putBack.cls ≠ "java/lang/invoke/VarHandle" ∧ (parseMethodDescriptor yX12_putBack.desc).map (fun d => d.parameters.length) = some 1 := by decide +kernel
def fX12_remember_b77 (v1 : Int32) (st : St) : Option (Unit × St) := bd (fX12_keepAll (st.1 8) st) (fun r1 st2 => gi (st2.1 8) 16 (lt (sA st2 7 (upd (st2.2.2.1 7) (st2.1 8).toNatClampNeg v1)) (fun st3 => lt (sI st3 8 ((st3.1 8) + (1 : Int32))) (fun st4 => some ((), st4)))))
def fX12_remember_b41 (k41 : Int32 → Int32 → St → Option (Unit × St)) (v1 : Int32) (v2 : Int32) (st : St) : Option (Unit × St) := if (15 : Int32) ≤ v2 then (lt (sI st 8 ((st.1 8) - (1 : Int32))) (fun st5 => fX12_remember_b77 v1 st5)) else (gi (v2 + (1 : Int32)) 16 (gi v2 16 (lt (sA st 7 (upd (st.2.2.1 7) v2.toNatClampNeg (st.2.2.1 7 (v2 + (1 : Int32)).toNatClampNeg))) (fun st6 => lt (v2 + (1 : Int32)) (fun x7 => k41 v1 x7 st6)))))
def fX12_remember_b11 (k11 : Int32 → Int32 → St → Option (Unit × St)) (v1 : Int32) (v2 : Int32) (st : St) : Option (Unit × St) := if (375 : Int32) ≤ v2 then (lp (fun _ _ _ => none) (fX12_remember_b41) 6000 v1 (0 : Int32) st) else (gi (v2 + (25 : Int32)) 450 (gi v2 450 (lt (sA st 6 (upd (st.2.2.1 6) v2.toNatClampNeg (st.2.2.1 6 (v2 + (25 : Int32)).toNatClampNeg))) (fun st8 => lt (v2 + (1 : Int32)) (fun x9 => k11 v1 x9 st8)))))
def fX12_remember (a0 : Int32) (st : St) : Option (Unit × St) := if (st.1 8) = (16 : Int32) then (lp (fun _ _ _ => none) (fX12_remember_b11) 6000 a0 (0 : Int32) st) else (fX12_remember_b77 a0 st)
set_option maxHeartbeats 4000000 in
set_option maxRecDepth 100000 in
theorem tX12_remember (l : Launch) (D : va_G) (cy : Nat → ClassId) (ad : Nat → Nat) (hJ : (mads ad).Nodup) (sz : Nat) (a0 : Int32) (st : St) (rr : Unit) (st' : St) (hf : fX12_remember a0 st = some (rr, st')) : Met l yX12_remember (Cond.code yX12_remember cX12_remember 3 none :: TT) (rmD 1) (mPc D cy ad [.int a0] st sz) (mQv D cy ad rr st' sz) 0 0 (mA ad sz) := by
  refine m_metv (by decide) hJ (Nat.le_of_ble_eq_true rfl) (fun p e s m args below meth c ls E hx hb hr hlocks hown hT hD hl hP hS => ?_)
  replace hl : lv_has ls 3 [(0, .ref (ad 100)), (1, .int a0)] := hl
  unfold fX12_remember at hf
  have B77 : ∀ (v1 : Int32) (st : St) (H : Heap) (locs : List Loc) (ls : Array Slot), fX12_remember_b77 v1 st = some (rr, st') → lv_has ls 3 [(0, .ref (ad 100)), (1, .int v1)] → va_P D classes (mw cy ad st) H → va_S (mA ad s.heap.size) s.heap H locs → mGv l 1 D cy ad rr st' p e s m args below meth c H locs (F0 m 77 ls []) := by
    intro v1 st H locs ls hf hl hP hS
    unfold fX12_remember_b77 at hf
    refine lv_aload_n hx hb dX12_remember_77 rfl (lv_at hl 0 rfl) ?_
    refine lv_aload_n hx hb dX12_remember_78 rfl (lv_at hl 0 rfl) ?_
    refine mg_8 E hP dX12_remember_79 ?_
    obtain ⟨r1, st2, hc, hf⟩ := bd_some hf
    refine m_callv (n := 1) (rest := []) E hP hS (fun sz => tX12_keepAll l D cy ad hJ sz (st.1 8) st r1 st2 hc) (gV k_1625 k_1627 ks_80 k_14 k_1628) qX12_keepAll ⟨Nat.le_of_ble_eq_true rfl, Nat.le_of_ble_eq_true rfl⟩ ⟨Nat.le_refl _, Nat.le_refl _⟩ rfl hl.1 rfl (Nat.le_of_ble_eq_true rfl) dX12_remember_82 (fun H locs hP hS => ?_)
    refine lv_aload_n hx hb dX12_remember_85 rfl (lv_at hl 0 rfl) ?_
    refine mg_7 E hP dX12_remember_86 ?_
    refine lv_aload_n hx hb dX12_remember_89 rfl (lv_at hl 0 rfl) ?_
    refine mg_8 E hP dX12_remember_90 ?_
    refine lv_iload_n hx hb dX12_remember_93 rfl (lv_at hl 1 rfl) ?_
    obtain ⟨hi, hf⟩ := gi_some hf
    refine ms_7 E hD hP hS hi dX12_remember_94 (fun st3 H locs ex hP hS => ?_)
    replace hf := lt_at ex hf; clear ex
    refine lv_aload_n hx hb dX12_remember_95 rfl (lv_at hl 0 rfl) ?_
    refine lv_dup hx hb dX12_remember_96 rfl ?_
    refine mg_8 E hP dX12_remember_97 ?_
    refine lv_iconst (v := 1) hx hb dX12_remember_100 (by decide) ?_
    refine lv_iadd hx hb dX12_remember_101 ?_
    refine mp_8 E hD hP hS dX12_remember_102 (fun st4 H locs ex hP hS => ?_)
    replace hf := lt_at ex hf; clear ex
    exact m_vret hx hb hr hlocks hf hP hS dX12_remember_105
  have L41 : ∀ (n : Nat) (v1 : Int32) (v2 : Int32) (st : St) (H : Heap) (locs : List Loc) (ls : Array Slot), lp (fun _ _ _ => none) (fX12_remember_b41) n v1 v2 st = some (rr, st') → lv_has ls 3 [(0, .ref (ad 100)), (1, .int v1), (2, .int v2)] → va_P D classes (mw cy ad st) H → va_S (mA ad s.heap.size) s.heap H locs → mGv l 1 D cy ad rr st' p e s m args below meth c H locs (F0 m 41 ls []) := by
    intro n
    induction n with
    | zero => intro v1 v2 st H locs ls hf; exact absurd hf (fun h => by cases h)
    | succ n K41 =>
      intro v1 v2 st H locs ls hf hl hP hS
      replace hf : fX12_remember_b41 (lp (fun _ _ _ => none) (fX12_remember_b41) n) v1 v2 st = some (rr, st') := hf
      generalize lp (fun _ _ _ => none) (fX12_remember_b41) n = k41 at hf K41
      unfold fX12_remember_b41 at hf
      refine lv_iload_n hx hb dX12_remember_41 rfl (lv_at hl 2 rfl) ?_
      refine lv_bipush (v := 15) hx hb dX12_remember_42 (by decide) ?_
      refine lv_icmp_ge (tgt := 67) hx hb dX12_remember_44 (by decide) (fun hc => ?_) (fun hc => ?_)
      · replace hf := it_pos hc hf
        refine lv_aload_n hx hb dX12_remember_67 rfl (lv_at hl 0 rfl) ?_
        refine lv_dup hx hb dX12_remember_68 rfl ?_
        refine mg_8 E hP dX12_remember_69 ?_
        refine lv_iconst (v := 1) hx hb dX12_remember_72 (by decide) ?_
        refine lv_isub hx hb dX12_remember_73 ?_
        refine mp_8 E hD hP hS dX12_remember_74 (fun st5 H locs ex hP hS => ?_)
        replace hf := lt_at ex hf; clear ex
        exact B77 v1 st5 _ _ ls hf (lv_sub hl [0, 1] rfl) hP hS
      · replace hf := it_neg hc hf
        refine lv_aload_n hx hb dX12_remember_47 rfl (lv_at hl 0 rfl) ?_
        refine mg_7 E hP dX12_remember_48 ?_
        refine lv_iload_n hx hb dX12_remember_51 rfl (lv_at hl 2 rfl) ?_
        refine lv_aload_n hx hb dX12_remember_52 rfl (lv_at hl 0 rfl) ?_
        refine mg_7 E hP dX12_remember_53 ?_
        refine lv_iload_n hx hb dX12_remember_56 rfl (lv_at hl 2 rfl) ?_
        refine lv_iconst (v := 1) hx hb dX12_remember_57 (by decide) ?_
        refine lv_iadd hx hb dX12_remember_58 ?_
        obtain ⟨hi, hf⟩ := gi_some hf
        refine ml_7 E hP hi dX12_remember_59 ?_
        obtain ⟨hi, hf⟩ := gi_some hf
        refine ms_7 E hD hP hS hi dX12_remember_60 (fun st6 H locs ex hP hS => ?_)
        replace hf := lt_at ex hf; clear ex
        obtain ⟨x7, ex⟩ : ∃ y : Int32, y = v2 + (1 : Int32) := ⟨_, rfl⟩
        replace hf := lt_at ex hf
        refine lv_iinc (v := x7) (lv' := [(2, .int x7), (0, .ref (ad 100)), (1, .int v1)]) hx hb dX12_remember_61 hl (k := 2) rfl (by rw [ex]; rfl) (by decide) rfl (fun ls hl => ?_)
        clear ex
        refine lv_goto (tgt := 41) hx hb dX12_remember_64 (by decide) ?_
        exact K41 v1 x7 st6 _ _ ls hf (lv_sub hl [1, 2, 0] rfl) hP hS
  have L11 : ∀ (n : Nat) (v1 : Int32) (v2 : Int32) (st : St) (H : Heap) (locs : List Loc) (ls : Array Slot), lp (fun _ _ _ => none) (fX12_remember_b11) n v1 v2 st = some (rr, st') → lv_has ls 3 [(0, .ref (ad 100)), (1, .int v1), (2, .int v2)] → va_P D classes (mw cy ad st) H → va_S (mA ad s.heap.size) s.heap H locs → mGv l 1 D cy ad rr st' p e s m args below meth c H locs (F0 m 11 ls []) := by
    intro n
    induction n with
    | zero => intro v1 v2 st H locs ls hf; exact absurd hf (fun h => by cases h)
    | succ n K11 =>
      intro v1 v2 st H locs ls hf hl hP hS
      replace hf : fX12_remember_b11 (lp (fun _ _ _ => none) (fX12_remember_b11) n) v1 v2 st = some (rr, st') := hf
      generalize lp (fun _ _ _ => none) (fX12_remember_b11) n = k11 at hf K11
      unfold fX12_remember_b11 at hf
      refine lv_iload_n hx hb dX12_remember_11 rfl (lv_at hl 2 rfl) ?_
      refine lv_sipush (v := 375) hx hb dX12_remember_12 (by decide) ?_
      refine lv_icmp_ge (tgt := 39) hx hb dX12_remember_15 (by decide) (fun hc => ?_) (fun hc => ?_)
      · replace hf := it_pos hc hf
        refine lv_iconst (v := 0) hx hb dX12_remember_39 (by decide) ?_
        refine lv_istore_n (lv' := [(2, .int (0 : Int32)), (0, .ref (ad 100)), (1, .int v1)]) hx hb dX12_remember_40 rfl hl (by decide) rfl (fun ls hl => ?_)
        exact L41 6000 v1 (0 : Int32) st _ _ ls hf (lv_sub hl [1, 2, 0] rfl) hP hS
      · replace hf := it_neg hc hf
        refine lv_aload_n hx hb dX12_remember_18 rfl (lv_at hl 0 rfl) ?_
        refine mg_6 E hP dX12_remember_19 ?_
        refine lv_iload_n hx hb dX12_remember_22 rfl (lv_at hl 2 rfl) ?_
        refine lv_aload_n hx hb dX12_remember_23 rfl (lv_at hl 0 rfl) ?_
        refine mg_6 E hP dX12_remember_24 ?_
        refine lv_iload_n hx hb dX12_remember_27 rfl (lv_at hl 2 rfl) ?_
        refine lv_bipush (v := 25) hx hb dX12_remember_28 (by decide) ?_
        refine lv_iadd hx hb dX12_remember_30 ?_
        obtain ⟨hi, hf⟩ := gi_some hf
        refine ml_6 E hP hi dX12_remember_31 ?_
        obtain ⟨hi, hf⟩ := gi_some hf
        refine ms_6 E hD hP hS hi dX12_remember_32 (fun st8 H locs ex hP hS => ?_)
        replace hf := lt_at ex hf; clear ex
        obtain ⟨x9, ex⟩ : ∃ y : Int32, y = v2 + (1 : Int32) := ⟨_, rfl⟩
        replace hf := lt_at ex hf
        refine lv_iinc (v := x9) (lv' := [(2, .int x9), (0, .ref (ad 100)), (1, .int v1)]) hx hb dX12_remember_33 hl (k := 2) rfl (by rw [ex]; rfl) (by decide) rfl (fun ls hl => ?_)
        clear ex
        refine lv_goto (tgt := 11) hx hb dX12_remember_36 (by decide) ?_
        exact K11 v1 x9 st8 _ _ ls hf (lv_sub hl [1, 2, 0] rfl) hP hS
  refine lv_aload_n hx hb dX12_remember_0 rfl (lv_at hl 0 rfl) ?_
  refine mg_8 E hP dX12_remember_1 ?_
  refine lv_bipush (v := 16) hx hb dX12_remember_4 (by decide) ?_
  refine lv_icmp_ne (tgt := 77) hx hb dX12_remember_6 (by decide) (fun hc => ?_) (fun hc => ?_)
  · replace hf := it_neg hc hf
    exact B77 a0 st _ _ ls hf hl hP hS
  · replace hf := it_pos hc hf
    refine lv_iconst (v := 0) hx hb dX12_remember_9 (by decide) ?_
    refine lv_istore_n (lv' := [(2, .int (0 : Int32)), (0, .ref (ad 100)), (1, .int a0)]) hx hb dX12_remember_10 rfl hl (by decide) rfl (fun ls hl => ?_)
    exact L11 6000 a0 (0 : Int32) st _ _ ls hf (lv_sub hl [1, 2, 0] rfl) hP hS
theorem qX12_remember : yX12_remember.cls = RX12 ∧ yX12_remember.cls ≠ "java/lang/invoke/MethodHandle" ∧ yX12_remember.cls ≠ "java/lang/invoke/VarHandle" ∧ (parseMethodDescriptor yX12_remember.desc).map (fun d => d.parameters.length) = some 1 := by decide +kernel
def fX12_undo (st : St) : Option (Int32 × St) := lt (sI st 0 (0 : Int32)) (fun st1 => if (st1.1 8) = 0 then (bd (fX12_tell (-3 : Int32) st1) (fun r7 st8 => some (r7, st8))) else (lt (sI st1 8 ((st1.1 8) - (1 : Int32))) (fun st2 => bd (fX12_putBack (st2.1 8) st2) (fun r3 st4 => gi (st4.1 8) 16 (bd (fX12_tell (st4.2.2.1 7 (st4.1 8).toNatClampNeg) st4) (fun r5 st6 => some (r5, st6)))))))
set_option maxHeartbeats 4000000 in
set_option maxRecDepth 100000 in
theorem tX12_undo (l : Launch) (D : va_G) (cy : Nat → ClassId) (ad : Nat → Nat) (hJ : (mads ad).Nodup) (sz : Nat) (st : St) (rr : Int32) (st' : St) (hf : fX12_undo  st = some (rr, st')) : Met l yX12_undo (Cond.code yX12_undo cX12_undo 1 (some .int) :: TT) (rmD 1) (mPc D cy ad [] st sz) (mQi D cy ad rr st' sz) 0 0 (mA ad sz) := by
  refine m_meti (by decide) hJ (Nat.le_of_ble_eq_true rfl) (fun p e s m args below meth c ls E hx hb hr hlocks hown hT hD hl hP hS => ?_)
  replace hl : lv_has ls 1 [(0, .ref (ad 100))] := hl
  unfold fX12_undo at hf
  refine lv_aload_n hx hb dX12_undo_0 rfl (lv_at hl 0 rfl) ?_
  refine lv_iconst (v := 0) hx hb dX12_undo_1 (by decide) ?_
  refine mp_0 E hD hP hS dX12_undo_2 (fun st1 H locs ex hP hS => ?_)
  replace hf := lt_at ex hf; clear ex
  refine lv_aload_n hx hb dX12_undo_5 rfl (lv_at hl 0 rfl) ?_
  refine mg_8 E hP dX12_undo_6 ?_
  refine lv_if_ne (tgt := 19) hx hb dX12_undo_9 (by decide) (fun hc => ?_) (fun hc => ?_)
  · replace hf := it_neg hc hf
    refine lv_aload_n hx hb dX12_undo_19 rfl (lv_at hl 0 rfl) ?_
    refine lv_dup hx hb dX12_undo_20 rfl ?_
    refine mg_8 E hP dX12_undo_21 ?_
    refine lv_iconst (v := 1) hx hb dX12_undo_24 (by decide) ?_
    refine lv_isub hx hb dX12_undo_25 ?_
    refine mp_8 E hD hP hS dX12_undo_26 (fun st2 H locs ex hP hS => ?_)
    replace hf := lt_at ex hf; clear ex
    refine lv_aload_n hx hb dX12_undo_29 rfl (lv_at hl 0 rfl) ?_
    refine lv_aload_n hx hb dX12_undo_30 rfl (lv_at hl 0 rfl) ?_
    refine mg_8 E hP dX12_undo_31 ?_
    obtain ⟨r3, st4, hc, hf⟩ := bd_some hf
    refine m_callv (n := 1) (rest := []) E hP hS (fun sz => tX12_putBack l D cy ad hJ sz (st2.1 8) st2 r3 st4 hc) (gV k_1342 k_1344 ks_38 k_14 k_1345) qX12_putBack ⟨Nat.le_of_ble_eq_true rfl, Nat.le_of_ble_eq_true rfl⟩ ⟨Nat.le_refl _, Nat.le_refl _⟩ rfl hl.1 rfl (Nat.le_of_ble_eq_true rfl) dX12_undo_34 (fun H locs hP hS => ?_)
    refine lv_aload_n hx hb dX12_undo_37 rfl (lv_at hl 0 rfl) ?_
    refine lv_aload_n hx hb dX12_undo_38 rfl (lv_at hl 0 rfl) ?_
    refine mg_7 E hP dX12_undo_39 ?_
    refine lv_aload_n hx hb dX12_undo_42 rfl (lv_at hl 0 rfl) ?_
    refine mg_8 E hP dX12_undo_43 ?_
    obtain ⟨hi, hf⟩ := gi_some hf
    refine ml_7 E hP hi dX12_undo_46 ?_
    obtain ⟨r5, st6, hc, hf⟩ := bd_some hf
    refine m_calli (n := 1) (rest := []) E hP hS (fun sz => tX12_tell l D cy ad hJ sz (st4.2.2.1 7 (st4.1 8).toNatClampNeg) st4 r5 st6 hc) (gV k_1338 k_1340 ks_37 k_14 k_1341) qX12_tell ⟨Nat.le_of_ble_eq_true rfl, Nat.le_of_ble_eq_true rfl⟩ ⟨Nat.le_refl _, Nat.le_refl _⟩ rfl hl.1 rfl (Nat.le_of_ble_eq_true rfl) dX12_undo_47 (fun H locs hP hS => ?_)
    exact m_iret hx hb hr hlocks hf hP hS dX12_undo_50
  · replace hf := it_pos hc hf
    refine lv_aload_n hx hb dX12_undo_12 rfl (lv_at hl 0 rfl) ?_
    refine lv_bipush (v := -3) hx hb dX12_undo_13 (by decide) ?_
    obtain ⟨r7, st8, hc, hf⟩ := bd_some hf
    refine m_calli (n := 1) (rest := []) E hP hS (fun sz => tX12_tell l D cy ad hJ sz (-3 : Int32) st1 r7 st8 hc) (gV k_1338 k_1340 ks_37 k_14 k_1341) qX12_tell ⟨Nat.le_of_ble_eq_true rfl, Nat.le_of_ble_eq_true rfl⟩ ⟨Nat.le_refl _, Nat.le_refl _⟩ rfl hl.1 rfl (Nat.le_of_ble_eq_true rfl) dX12_undo_15 (fun H locs hP hS => ?_)
    exact m_iret hx hb hr hlocks hf hP hS dX12_undo_18
theorem qX12_undo : yX12_undo.cls = RX12 ∧ yX12_undo.cls ≠ "java/lang/invoke/MethodHandle" ∧ yX12_undo.cls ≠ "java/lang/invoke/VarHandle" ∧ (parseMethodDescriptor yX12_undo.desc).map (fun d => d.parameters.length) = some 0 := by decide +kernel
def fX12_image_b23 (k23 : Int32 → Int32 → St → Option (Int32 × St)) (v1 : Int32) (v2 : Int32) (st : St) : Option (Int32 × St) := if (5550 : Int32) ≤ v2 then (gi v1 2 (lt (sA st 5 (upd (st.2.2.1 5) v1.toNatClampNeg (vp_nar .boolean (1 : Int32)))) (fun st1 => bd (fX12_tell (0 : Int32) st1) (fun r2 st3 => some (r2, st3))))) else (gi v2 5550 (gi (((5550 : Int32) * v1) + v2) 11100 (lt (sA st 4 (upd (st.2.2.1 4) (((5550 : Int32) * v1) + v2).toNatClampNeg (st.2.2.1 3 v2.toNatClampNeg))) (fun st4 => lt (v2 + (1 : Int32)) (fun x5 => k23 v1 x5 st4)))))
def fX12_image (a0 : Int32) (st : St) : Option (Int32 × St) := lt (sI st 0 (0 : Int32)) (fun st6 => bs (fX12_in (a0.toInt64) (0 : Int64) (1 : Int64)) (fun r7 => if r7 = 0 then (bd (fX12_tell (-1 : Int32) st6) (fun r8 st9 => some (r8, st9))) else (lp (fun _ _ _ => none) (fX12_image_b23) 6000 a0 (0 : Int32) st6)))
set_option maxHeartbeats 4000000 in
set_option maxRecDepth 100000 in
theorem tX12_image (l : Launch) (D : va_G) (cy : Nat → ClassId) (ad : Nat → Nat) (hJ : (mads ad).Nodup) (sz : Nat) (a0 : Int32) (st : St) (rr : Int32) (st' : St) (hf : fX12_image a0 st = some (rr, st')) : Met l yX12_image (Cond.code yX12_image cX12_image 3 (some .int) :: TT) (rmD 1) (mPc D cy ad [.int a0] st sz) (mQi D cy ad rr st' sz) 0 0 (mA ad sz) := by
  refine m_meti (by decide) hJ (Nat.le_of_ble_eq_true rfl) (fun p e s m args below meth c ls E hx hb hr hlocks hown hT hD hl hP hS => ?_)
  replace hl : lv_has ls 3 [(0, .ref (ad 100)), (1, .int a0)] := hl
  unfold fX12_image at hf
  have L23 : ∀ (n : Nat) (v1 : Int32) (v2 : Int32) (st : St) (H : Heap) (locs : List Loc) (ls : Array Slot), lp (fun _ _ _ => none) (fX12_image_b23) n v1 v2 st = some (rr, st') → lv_has ls 3 [(0, .ref (ad 100)), (1, .int v1), (2, .int v2)] → va_P D classes (mw cy ad st) H → va_S (mA ad s.heap.size) s.heap H locs → mGi l 1 D cy ad rr st' p e s m args below meth c H locs (F0 m 23 ls []) := by
    intro n
    induction n with
    | zero => intro v1 v2 st H locs ls hf; exact absurd hf (fun h => by cases h)
    | succ n K23 =>
      intro v1 v2 st H locs ls hf hl hP hS
      replace hf : fX12_image_b23 (lp (fun _ _ _ => none) (fX12_image_b23) n) v1 v2 st = some (rr, st') := hf
      generalize lp (fun _ _ _ => none) (fX12_image_b23) n = k23 at hf K23
      unfold fX12_image_b23 at hf
      refine lv_iload_n hx hb dX12_image_23 rfl (lv_at hl 2 rfl) ?_
      refine lv_sipush (v := 5550) hx hb dX12_image_24 (by decide) ?_
      refine lv_icmp_ge (tgt := 54) hx hb dX12_image_27 (by decide) (fun hc => ?_) (fun hc => ?_)
      · replace hf := it_pos hc hf
        refine lv_aload_n hx hb dX12_image_54 rfl (lv_at hl 0 rfl) ?_
        refine mg_5 E hP dX12_image_55 ?_
        refine lv_iload_n hx hb dX12_image_58 rfl (lv_at hl 1 rfl) ?_
        refine lv_iconst (v := 1) hx hb dX12_image_59 (by decide) ?_
        obtain ⟨hi, hf⟩ := gi_some hf
        refine ms_5 E hD hP hS hi dX12_image_60 (fun st1 H locs ex hP hS => ?_)
        replace hf := lt_at ex hf; clear ex
        refine lv_aload_n hx hb dX12_image_61 rfl (lv_at hl 0 rfl) ?_
        refine lv_iconst (v := 0) hx hb dX12_image_62 (by decide) ?_
        obtain ⟨r2, st3, hc, hf⟩ := bd_some hf
        refine m_calli (n := 1) (rest := []) E hP hS (fun sz => tX12_tell l D cy ad hJ sz (0 : Int32) st1 r2 st3 hc) (gV k_1338 k_1340 ks_37 k_14 k_1341) qX12_tell ⟨Nat.le_of_ble_eq_true rfl, Nat.le_of_ble_eq_true rfl⟩ ⟨Nat.le_refl _, Nat.le_refl _⟩ rfl hl.1 rfl (Nat.le_of_ble_eq_true rfl) dX12_image_63 (fun H locs hP hS => ?_)
        exact m_iret hx hb hr hlocks hf hP hS dX12_image_66
      · replace hf := it_neg hc hf
        refine lv_aload_n hx hb dX12_image_30 rfl (lv_at hl 0 rfl) ?_
        refine mg_4 E hP dX12_image_31 ?_
        refine lv_sipush (v := 5550) hx hb dX12_image_34 (by decide) ?_
        refine lv_iload_n hx hb dX12_image_37 rfl (lv_at hl 1 rfl) ?_
        refine lv_imul hx hb dX12_image_38 ?_
        refine lv_iload_n hx hb dX12_image_39 rfl (lv_at hl 2 rfl) ?_
        refine lv_iadd hx hb dX12_image_40 ?_
        refine lv_aload_n hx hb dX12_image_41 rfl (lv_at hl 0 rfl) ?_
        refine mg_3 E hP dX12_image_42 ?_
        refine lv_iload_n hx hb dX12_image_45 rfl (lv_at hl 2 rfl) ?_
        obtain ⟨hi, hf⟩ := gi_some hf
        refine ml_3 E hP hi dX12_image_46 ?_
        obtain ⟨hi, hf⟩ := gi_some hf
        refine ms_4 E hD hP hS hi dX12_image_47 (fun st4 H locs ex hP hS => ?_)
        replace hf := lt_at ex hf; clear ex
        obtain ⟨x5, ex⟩ : ∃ y : Int32, y = v2 + (1 : Int32) := ⟨_, rfl⟩
        replace hf := lt_at ex hf
        refine lv_iinc (v := x5) (lv' := [(2, .int x5), (0, .ref (ad 100)), (1, .int v1)]) hx hb dX12_image_48 hl (k := 2) rfl (by rw [ex]; rfl) (by decide) rfl (fun ls hl => ?_)
        clear ex
        refine lv_goto (tgt := 23) hx hb dX12_image_51 (by decide) ?_
        exact K23 v1 x5 st4 _ _ ls hf (lv_sub hl [1, 2, 0] rfl) hP hS
  refine lv_aload_n hx hb dX12_image_0 rfl (lv_at hl 0 rfl) ?_
  refine lv_iconst (v := 0) hx hb dX12_image_1 (by decide) ?_
  refine mp_0 E hD hP hS dX12_image_2 (fun st6 H locs ex hP hS => ?_)
  replace hf := lt_at ex hf; clear ex
  refine lv_iload_n hx hb dX12_image_5 rfl (lv_at hl 1 rfl) ?_
  refine lv_i2l (v := a0.toInt64) hx hb dX12_image_6 rfl ?_
  refine lv_lconst (v := 0) hx hb dX12_image_7 (by decide) ?_
  refine lv_lconst (v := 1) hx hb dX12_image_8 (by decide) ?_
  obtain ⟨r7, hc, hf⟩ := bs_some hf
  refine s_calli (n := 3) (rest := []) E.1 (tX12_in l _ (a0.toInt64) (0 : Int64) (1 : Int64) r7 hc) (gS k_1350 k_1351 k_14 k_1352) qX12_in ⟨Nat.le_of_ble_eq_true rfl, Nat.le_of_ble_eq_true rfl⟩ ⟨Nat.le_refl _, Nat.le_refl _⟩ rfl hl.1 rfl (Nat.le_of_ble_eq_true rfl) dX12_image_9 ?_
  refine lv_if_ne (tgt := 21) hx hb dX12_image_12 (by decide) (fun hc => ?_) (fun hc => ?_)
  · replace hf := it_neg hc hf
    refine lv_iconst (v := 0) hx hb dX12_image_21 (by decide) ?_
    refine lv_istore_n (lv' := [(2, .int (0 : Int32)), (0, .ref (ad 100)), (1, .int a0)]) hx hb dX12_image_22 rfl hl (by decide) rfl (fun ls hl => ?_)
    exact L23 6000 a0 (0 : Int32) st6 _ _ ls hf (lv_sub hl [1, 2, 0] rfl) hP hS
  · replace hf := it_pos hc hf
    refine lv_aload_n hx hb dX12_image_15 rfl (lv_at hl 0 rfl) ?_
    refine lv_iconst (v := -1) hx hb dX12_image_16 (by decide) ?_
    obtain ⟨r8, st9, hc, hf⟩ := bd_some hf
    refine m_calli (n := 1) (rest := []) E hP hS (fun sz => tX12_tell l D cy ad hJ sz (-1 : Int32) st6 r8 st9 hc) (gV k_1338 k_1340 ks_37 k_14 k_1341) qX12_tell ⟨Nat.le_of_ble_eq_true rfl, Nat.le_of_ble_eq_true rfl⟩ ⟨Nat.le_refl _, Nat.le_refl _⟩ rfl hl.1 rfl (Nat.le_of_ble_eq_true rfl) dX12_image_17 (fun H locs hP hS => ?_)
    exact m_iret hx hb hr hlocks hf hP hS dX12_image_20
theorem qX12_image : yX12_image.cls = RX12 ∧ yX12_image.cls ≠ "java/lang/invoke/MethodHandle" ∧ yX12_image.cls ≠ "java/lang/invoke/VarHandle" ∧ (parseMethodDescriptor yX12_image.desc).map (fun d => d.parameters.length) = some 1 := by decide +kernel
def fX12_back_b39 (k39 : Int32 → Int32 → St → Option (Int32 × St)) (v1 : Int32) (v2 : Int32) (st : St) : Option (Int32 × St) := if (5550 : Int32) ≤ v2 then (lt (sI st 8 (0 : Int32)) (fun st1 => bd (fX12_tell (0 : Int32) st1) (fun r2 st3 => some (r2, st3)))) else (gi (((5550 : Int32) * v1) + v2) 11100 (gi v2 5550 (lt (sA st 3 (upd (st.2.2.1 3) v2.toNatClampNeg (st.2.2.1 4 (((5550 : Int32) * v1) + v2).toNatClampNeg))) (fun st4 => lt (v2 + (1 : Int32)) (fun x5 => k39 v1 x5 st4)))))
def fX12_back (a0 : Int32) (st : St) : Option (Int32 × St) := lt (sI st 0 (0 : Int32)) (fun st6 => bs (fX12_in (a0.toInt64) (0 : Int64) (1 : Int64)) (fun r7 => if r7 = 0 then (bd (fX12_tell (-1 : Int32) st6) (fun r10 st11 => some (r10, st11))) else (gi a0 2 (if (st6.2.2.1 5 a0.toNatClampNeg) = 0 then (bd (fX12_tell (-2 : Int32) st6) (fun r8 st9 => some (r8, st9))) else (lp (fun _ _ _ => none) (fX12_back_b39) 6000 a0 (0 : Int32) st6)))))
set_option maxHeartbeats 4000000 in
set_option maxRecDepth 100000 in
theorem tX12_back (l : Launch) (D : va_G) (cy : Nat → ClassId) (ad : Nat → Nat) (hJ : (mads ad).Nodup) (sz : Nat) (a0 : Int32) (st : St) (rr : Int32) (st' : St) (hf : fX12_back a0 st = some (rr, st')) : Met l yX12_back (Cond.code yX12_back cX12_back 3 (some .int) :: TT) (rmD 1) (mPc D cy ad [.int a0] st sz) (mQi D cy ad rr st' sz) 0 0 (mA ad sz) := by
  refine m_meti (by decide) hJ (Nat.le_of_ble_eq_true rfl) (fun p e s m args below meth c ls E hx hb hr hlocks hown hT hD hl hP hS => ?_)
  replace hl : lv_has ls 3 [(0, .ref (ad 100)), (1, .int a0)] := hl
  unfold fX12_back at hf
  have L39 : ∀ (n : Nat) (v1 : Int32) (v2 : Int32) (st : St) (H : Heap) (locs : List Loc) (ls : Array Slot), lp (fun _ _ _ => none) (fX12_back_b39) n v1 v2 st = some (rr, st') → lv_has ls 3 [(0, .ref (ad 100)), (1, .int v1), (2, .int v2)] → va_P D classes (mw cy ad st) H → va_S (mA ad s.heap.size) s.heap H locs → mGi l 1 D cy ad rr st' p e s m args below meth c H locs (F0 m 39 ls []) := by
    intro n
    induction n with
    | zero => intro v1 v2 st H locs ls hf; exact absurd hf (fun h => by cases h)
    | succ n K39 =>
      intro v1 v2 st H locs ls hf hl hP hS
      replace hf : fX12_back_b39 (lp (fun _ _ _ => none) (fX12_back_b39) n) v1 v2 st = some (rr, st') := hf
      generalize lp (fun _ _ _ => none) (fX12_back_b39) n = k39 at hf K39
      unfold fX12_back_b39 at hf
      refine lv_iload_n hx hb dX12_back_39 rfl (lv_at hl 2 rfl) ?_
      refine lv_sipush (v := 5550) hx hb dX12_back_40 (by decide) ?_
      refine lv_icmp_ge (tgt := 70) hx hb dX12_back_43 (by decide) (fun hc => ?_) (fun hc => ?_)
      · replace hf := it_pos hc hf
        refine lv_aload_n hx hb dX12_back_70 rfl (lv_at hl 0 rfl) ?_
        refine lv_iconst (v := 0) hx hb dX12_back_71 (by decide) ?_
        refine mp_8 E hD hP hS dX12_back_72 (fun st1 H locs ex hP hS => ?_)
        replace hf := lt_at ex hf; clear ex
        refine lv_aload_n hx hb dX12_back_75 rfl (lv_at hl 0 rfl) ?_
        refine lv_iconst (v := 0) hx hb dX12_back_76 (by decide) ?_
        obtain ⟨r2, st3, hc, hf⟩ := bd_some hf
        refine m_calli (n := 1) (rest := []) E hP hS (fun sz => tX12_tell l D cy ad hJ sz (0 : Int32) st1 r2 st3 hc) (gV k_1338 k_1340 ks_37 k_14 k_1341) qX12_tell ⟨Nat.le_of_ble_eq_true rfl, Nat.le_of_ble_eq_true rfl⟩ ⟨Nat.le_refl _, Nat.le_refl _⟩ rfl hl.1 rfl (Nat.le_of_ble_eq_true rfl) dX12_back_77 (fun H locs hP hS => ?_)
        exact m_iret hx hb hr hlocks hf hP hS dX12_back_80
      · replace hf := it_neg hc hf
        refine lv_aload_n hx hb dX12_back_46 rfl (lv_at hl 0 rfl) ?_
        refine mg_3 E hP dX12_back_47 ?_
        refine lv_iload_n hx hb dX12_back_50 rfl (lv_at hl 2 rfl) ?_
        refine lv_aload_n hx hb dX12_back_51 rfl (lv_at hl 0 rfl) ?_
        refine mg_4 E hP dX12_back_52 ?_
        refine lv_sipush (v := 5550) hx hb dX12_back_55 (by decide) ?_
        refine lv_iload_n hx hb dX12_back_58 rfl (lv_at hl 1 rfl) ?_
        refine lv_imul hx hb dX12_back_59 ?_
        refine lv_iload_n hx hb dX12_back_60 rfl (lv_at hl 2 rfl) ?_
        refine lv_iadd hx hb dX12_back_61 ?_
        obtain ⟨hi, hf⟩ := gi_some hf
        refine ml_4 E hP hi dX12_back_62 ?_
        obtain ⟨hi, hf⟩ := gi_some hf
        refine ms_3 E hD hP hS hi dX12_back_63 (fun st4 H locs ex hP hS => ?_)
        replace hf := lt_at ex hf; clear ex
        obtain ⟨x5, ex⟩ : ∃ y : Int32, y = v2 + (1 : Int32) := ⟨_, rfl⟩
        replace hf := lt_at ex hf
        refine lv_iinc (v := x5) (lv' := [(2, .int x5), (0, .ref (ad 100)), (1, .int v1)]) hx hb dX12_back_64 hl (k := 2) rfl (by rw [ex]; rfl) (by decide) rfl (fun ls hl => ?_)
        clear ex
        refine lv_goto (tgt := 39) hx hb dX12_back_67 (by decide) ?_
        exact K39 v1 x5 st4 _ _ ls hf (lv_sub hl [1, 2, 0] rfl) hP hS
  refine lv_aload_n hx hb dX12_back_0 rfl (lv_at hl 0 rfl) ?_
  refine lv_iconst (v := 0) hx hb dX12_back_1 (by decide) ?_
  refine mp_0 E hD hP hS dX12_back_2 (fun st6 H locs ex hP hS => ?_)
  replace hf := lt_at ex hf; clear ex
  refine lv_iload_n hx hb dX12_back_5 rfl (lv_at hl 1 rfl) ?_
  refine lv_i2l (v := a0.toInt64) hx hb dX12_back_6 rfl ?_
  refine lv_lconst (v := 0) hx hb dX12_back_7 (by decide) ?_
  refine lv_lconst (v := 1) hx hb dX12_back_8 (by decide) ?_
  obtain ⟨r7, hc, hf⟩ := bs_some hf
  refine s_calli (n := 3) (rest := []) E.1 (tX12_in l _ (a0.toInt64) (0 : Int64) (1 : Int64) r7 hc) (gS k_1350 k_1351 k_14 k_1352) qX12_in ⟨Nat.le_of_ble_eq_true rfl, Nat.le_of_ble_eq_true rfl⟩ ⟨Nat.le_refl _, Nat.le_refl _⟩ rfl hl.1 rfl (Nat.le_of_ble_eq_true rfl) dX12_back_9 ?_
  refine lv_if_ne (tgt := 21) hx hb dX12_back_12 (by decide) (fun hc => ?_) (fun hc => ?_)
  · replace hf := it_neg hc hf
    refine lv_aload_n hx hb dX12_back_21 rfl (lv_at hl 0 rfl) ?_
    refine mg_5 E hP dX12_back_22 ?_
    refine lv_iload_n hx hb dX12_back_25 rfl (lv_at hl 1 rfl) ?_
    obtain ⟨hi, hf⟩ := gi_some hf
    refine ml_5 E hP hi dX12_back_26 ?_
    refine lv_if_ne (tgt := 37) hx hb dX12_back_27 (by decide) (fun hc => ?_) (fun hc => ?_)
    · replace hf := it_neg hc hf
      refine lv_iconst (v := 0) hx hb dX12_back_37 (by decide) ?_
      refine lv_istore_n (lv' := [(2, .int (0 : Int32)), (0, .ref (ad 100)), (1, .int a0)]) hx hb dX12_back_38 rfl hl (by decide) rfl (fun ls hl => ?_)
      exact L39 6000 a0 (0 : Int32) st6 _ _ ls hf (lv_sub hl [1, 2, 0] rfl) hP hS
    · replace hf := it_pos hc hf
      refine lv_aload_n hx hb dX12_back_30 rfl (lv_at hl 0 rfl) ?_
      refine lv_bipush (v := -2) hx hb dX12_back_31 (by decide) ?_
      obtain ⟨r8, st9, hc, hf⟩ := bd_some hf
      refine m_calli (n := 1) (rest := []) E hP hS (fun sz => tX12_tell l D cy ad hJ sz (-2 : Int32) st6 r8 st9 hc) (gV k_1338 k_1340 ks_37 k_14 k_1341) qX12_tell ⟨Nat.le_of_ble_eq_true rfl, Nat.le_of_ble_eq_true rfl⟩ ⟨Nat.le_refl _, Nat.le_refl _⟩ rfl hl.1 rfl (Nat.le_of_ble_eq_true rfl) dX12_back_33 (fun H locs hP hS => ?_)
      exact m_iret hx hb hr hlocks hf hP hS dX12_back_36
  · replace hf := it_pos hc hf
    refine lv_aload_n hx hb dX12_back_15 rfl (lv_at hl 0 rfl) ?_
    refine lv_iconst (v := -1) hx hb dX12_back_16 (by decide) ?_
    obtain ⟨r10, st11, hc, hf⟩ := bd_some hf
    refine m_calli (n := 1) (rest := []) E hP hS (fun sz => tX12_tell l D cy ad hJ sz (-1 : Int32) st6 r10 st11 hc) (gV k_1338 k_1340 ks_37 k_14 k_1341) qX12_tell ⟨Nat.le_of_ble_eq_true rfl, Nat.le_of_ble_eq_true rfl⟩ ⟨Nat.le_refl _, Nat.le_refl _⟩ rfl hl.1 rfl (Nat.le_of_ble_eq_true rfl) dX12_back_17 (fun H locs hP hS => ?_)
    exact m_iret hx hb hr hlocks hf hP hS dX12_back_20
theorem qX12_back : yX12_back.cls = RX12 ∧ yX12_back.cls ≠ "java/lang/invoke/MethodHandle" ∧ yX12_back.cls ≠ "java/lang/invoke/VarHandle" ∧ (parseMethodDescriptor yX12_back.desc).map (fun d => d.parameters.length) = some 1 := by decide +kernel
def fX12_isFort (a0 : Int32) (st : St) : Option (Int32 × St) := bs (fX12_in (a0.toInt64) (0 : Int64) (((st.2.2.1 3 (0 : Int32).toNatClampNeg).toInt64) - (1 : Int64))) (fun r1 => gb r1 (some (r1, st)))
set_option maxHeartbeats 4000000 in
set_option maxRecDepth 100000 in
theorem tX12_isFort (l : Launch) (D : va_G) (cy : Nat → ClassId) (ad : Nat → Nat) (hJ : (mads ad).Nodup) (sz : Nat) (a0 : Int32) (st : St) (rr : Int32) (st' : St) (hf : fX12_isFort a0 st = some (rr, st')) : Met l yX12_isFort (Cond.code yX12_isFort cX12_isFort 2 (some .boolean) :: TT) (rmD 1) (mPc D cy ad [.int a0] st sz) (mQi D cy ad rr st' sz) 0 0 (mA ad sz) := by
  refine m_meti (by decide) hJ (Nat.le_of_ble_eq_true rfl) (fun p e s m args below meth c ls E hx hb hr hlocks hown hT hD hl hP hS => ?_)
  replace hl : lv_has ls 2 [(0, .ref (ad 100)), (1, .int a0)] := hl
  unfold fX12_isFort at hf
  refine lv_iload_n hx hb dX12_isFort_0 rfl (lv_at hl 1 rfl) ?_
  refine lv_i2l (v := a0.toInt64) hx hb dX12_isFort_1 rfl ?_
  refine lv_lconst (v := 0) hx hb dX12_isFort_2 (by decide) ?_
  refine lv_aload_n hx hb dX12_isFort_3 rfl (lv_at hl 0 rfl) ?_
  refine mg_3 E hP dX12_isFort_4 ?_
  refine lv_iconst (v := 0) hx hb dX12_isFort_7 (by decide) ?_
  refine ml_3 E hP (vi rfl) dX12_isFort_8 ?_
  refine lv_i2l (v := (st.2.2.1 3 (0 : Int32).toNatClampNeg).toInt64) hx hb dX12_isFort_9 rfl ?_
  refine lv_lconst (v := 1) hx hb dX12_isFort_10 (by decide) ?_
  refine lv_lsub hx hb dX12_isFort_11 ?_
  obtain ⟨r1, hc, hf⟩ := bs_some hf
  refine s_calli (n := 3) (rest := []) E.1 (tX12_in l _ (a0.toInt64) (0 : Int64) (((st.2.2.1 3 (0 : Int32).toNatClampNeg).toInt64) - (1 : Int64)) r1 hc) (gS k_1350 k_1351 k_14 k_1352) qX12_in ⟨Nat.le_of_ble_eq_true rfl, Nat.le_of_ble_eq_true rfl⟩ ⟨Nat.le_refl _, Nat.le_refl _⟩ rfl hl.1 rfl (Nat.le_of_ble_eq_true rfl) dX12_isFort_12 ?_
  obtain ⟨hn, hf⟩ := gb_some hf
  exact m_zret hx hb hr hlocks hn hf hP hS dX12_isFort_15
theorem qX12_isFort : yX12_isFort.cls = RX12 ∧ yX12_isFort.cls ≠ "java/lang/invoke/MethodHandle" ∧ yX12_isFort.cls ≠ "java/lang/invoke/VarHandle" ∧ (parseMethodDescriptor yX12_isFort.desc).map (fun d => d.parameters.length) = some 1 := by decide +kernel
def fX12_isOne (a0 : Int32) : Option Int32 := bs (fX12_in (a0.toInt64) (0 : Int64) (5 : Int64)) (fun r1 => gb r1 (some r1))
set_option maxHeartbeats 4000000 in
set_option maxRecDepth 100000 in
theorem tX12_isOne (l : Launch) (hh : Heap) (a0 : Int32) (rr : Int32) (hf : fX12_isOne a0 = some rr) : Met l yX12_isOne (Cond.code yX12_isOne cX12_isOne 1 (some .boolean) :: TT) (rmD 1) (sPc [.int a0] hh) (sQi rr hh) 0 0 (fun _ => False) := by
  refine s_meti (by decide) (Nat.le_of_ble_eq_true rfl) (fun p e s m args below meth c ls E hx hb hr hlocks hown hT hl => ?_)
  replace hl : lv_has ls 1 [(0, .int a0)] := hl
  unfold fX12_isOne at hf
  refine lv_iload_n hx hb dX12_isOne_0 rfl (lv_at hl 0 rfl) ?_
  refine lv_i2l (v := a0.toInt64) hx hb dX12_isOne_1 rfl ?_
  refine lv_lconst (v := 0) hx hb dX12_isOne_2 (by decide) ?_
  refine lv_ldc2 (v := 5) hx hb hown (hT _ k_1396) dX12_isOne_3 ?_
  obtain ⟨r1, hc, hf⟩ := bs_some hf
  refine s_calli (n := 3) (rest := []) E (tX12_in l _ (a0.toInt64) (0 : Int64) (5 : Int64) r1 hc) (gS k_1350 k_1351 k_14 k_1352) qX12_in ⟨Nat.le_of_ble_eq_true rfl, Nat.le_of_ble_eq_true rfl⟩ ⟨Nat.le_refl _, Nat.le_refl _⟩ rfl hl.1 rfl (Nat.le_of_ble_eq_true rfl) dX12_isOne_6 ?_
  obtain ⟨hn, hf⟩ := gb_some hf
  exact s_zret hx hb hr hlocks hn hf dX12_isOne_9
theorem qX12_isOne : yX12_isOne.cls = RX12 ∧ yX12_isOne.cls ≠ "java/lang/invoke/MethodHandle" ∧ yX12_isOne.cls ≠ "java/lang/invoke/VarHandle" ∧ (parseMethodDescriptor yX12_isOne.desc).map (fun d => d.parameters.length) = some 1 := by decide +kernel
def fX12_fameOf (a0 : Int32) (st : St) : Option (Int32 × St) := gi ((31 : Int32) + a0) 5550 (gi ((9 : Int32) + (st.2.2.1 3 ((31 : Int32) + a0).toNatClampNeg)) 5550 (some ((st.2.2.1 3 ((9 : Int32) + (st.2.2.1 3 ((31 : Int32) + a0).toNatClampNeg)).toNatClampNeg), st)))
set_option maxHeartbeats 4000000 in
set_option maxRecDepth 100000 in
theorem tX12_fameOf (l : Launch) (D : va_G) (cy : Nat → ClassId) (ad : Nat → Nat) (hJ : (mads ad).Nodup) (sz : Nat) (a0 : Int32) (st : St) (rr : Int32) (st' : St) (hf : fX12_fameOf a0 st = some (rr, st')) : Met l yX12_fameOf (Cond.code yX12_fameOf cX12_fameOf 2 (some .int) :: TT) (rmD 0) (mPc D cy ad [.int a0] st sz) (mQi D cy ad rr st' sz) 0 0 (mA ad sz) := by
  refine m_meti (by decide) hJ (Nat.le_of_ble_eq_true rfl) (fun p e s m args below meth c ls E hx hb hr hlocks hown hT hD hl hP hS => ?_)
  replace hl : lv_has ls 2 [(0, .ref (ad 100)), (1, .int a0)] := hl
  unfold fX12_fameOf at hf
  refine lv_aload_n hx hb dX12_fameOf_0 rfl (lv_at hl 0 rfl) ?_
  refine mg_3 E hP dX12_fameOf_1 ?_
  refine lv_bipush (v := 9) hx hb dX12_fameOf_4 (by decide) ?_
  refine lv_aload_n hx hb dX12_fameOf_6 rfl (lv_at hl 0 rfl) ?_
  refine mg_3 E hP dX12_fameOf_7 ?_
  refine lv_bipush (v := 31) hx hb dX12_fameOf_10 (by decide) ?_
  refine lv_iload_n hx hb dX12_fameOf_12 rfl (lv_at hl 1 rfl) ?_
  refine lv_iadd hx hb dX12_fameOf_13 ?_
  obtain ⟨hi, hf⟩ := gi_some hf
  refine ml_3 E hP hi dX12_fameOf_14 ?_
  refine lv_iadd hx hb dX12_fameOf_15 ?_
  obtain ⟨hi, hf⟩ := gi_some hf
  refine ml_3 E hP hi dX12_fameOf_16 ?_
  exact m_iret hx hb hr hlocks hf hP hS dX12_fameOf_17
theorem qX12_fameOf : yX12_fameOf.cls = RX12 ∧ yX12_fameOf.cls ≠ "java/lang/invoke/MethodHandle" ∧ yX12_fameOf.cls ≠ "java/lang/invoke/VarHandle" ∧ (parseMethodDescriptor yX12_fameOf.desc).map (fun d => d.parameters.length) = some 1 := by decide +kernel
def fX12_beliefBy_b145 (v1 : Int32) (v7 : Int64) (w0 : Int64) (st : St) : Option (Int64 × St) := bd (fX12_fameOf v1 st) (fun r1 st2 => bd (fX12_fameOf v1 st2) (fun r3 st4 => some (((((r1.toInt64) * w0) + ((((100 : Int32) - r3).toInt64) * v7)) / (100 : Int64)), st4)))
def fX12_beliefBy_b112 (k26 : Int32 → Int32 → Int64 → Int64 → Int64 → Int32 → St → Option (Int64 × St)) (v1 : Int32) (v2 : Int32) (v3 : Int64) (v7 : Int64) (v9 : Int32) (w0 : Int64) (w1 : Int64) (st : St) : Option (Int64 × St) := lt (w1 * w0) (fun x5 => lt (v9 + (1 : Int32)) (fun x6 => k26 v1 v2 v3 x5 v7 x6 st))
def fX12_beliefBy_b71 (k26 : Int32 → Int32 → Int64 → Int64 → Int64 → Int32 → St → Option (Int64 × St)) (v1 : Int32) (v2 : Int32) (v5 : Int64) (v7 : Int64) (v9 : Int32) (w0 : Int64) (w1 : Int64) (st : St) : Option (Int64 × St) := lt (w1 * w0) (fun x7 => bs (fX12_is v2 v9) (fun r8 => if r8 = 0 then (gi ((43 : Int32) + v9) 5550 (fX12_beliefBy_b112 k26 v1 v2 x7 v7 v9 (((10 : Int32) - (st.2.2.1 3 ((43 : Int32) + v9).toNatClampNeg)).toInt64) v5 st)) else (gi ((43 : Int32) + v9) 5550 (fX12_beliefBy_b112 k26 v1 v2 x7 v7 v9 ((st.2.2.1 3 ((43 : Int32) + v9).toNatClampNeg).toInt64) v5 st))))
def fX12_beliefBy_b26 (k26 : Int32 → Int32 → Int64 → Int64 → Int64 → Int32 → St → Option (Int64 × St)) (v1 : Int32) (v2 : Int32) (v3 : Int64) (v5 : Int64) (v7 : Int64) (v9 : Int32) (st : St) : Option (Int64 × St) := if (6 : Int32) ≤ v9 then (if (lg_cmp (v3 + v5) (0 : Int64)) = 0 then (fX12_beliefBy_b145 v1 v7 v7 st) else (gzl (v3 + v5) (fX12_beliefBy_b145 v1 v7 ((v3 * (1000000 : Int64)) / (v3 + v5)) st))) else (bs (fX12_is v2 v9) (fun r9 => if r9 = 0 then (gi ((37 : Int32) + v9) 5550 (fX12_beliefBy_b71 k26 v1 v2 v5 v7 v9 (((10 : Int32) - (st.2.2.1 3 ((37 : Int32) + v9).toNatClampNeg)).toInt64) v3 st)) else (gi ((37 : Int32) + v9) 5550 (fX12_beliefBy_b71 k26 v1 v2 v5 v7 v9 ((st.2.2.1 3 ((37 : Int32) + v9).toNatClampNeg).toInt64) v3 st))))
def fX12_beliefBy (a0 : Int32) (a1 : Int32) (st : St) : Option (Int64 × St) := lt ((st.2.2.1 3 (7 : Int32).toNatClampNeg).toInt64) (fun x10 => lt ((1000 : Int64) - x10) (fun x11 => lt (x10 * (1000 : Int64)) (fun x12 => lp (fun _ _ _ _ _ _ _ => none) (fX12_beliefBy_b26) 6000 a0 a1 x10 x11 x12 (0 : Int32) st)))
set_option maxHeartbeats 4000000 in
set_option maxRecDepth 100000 in
theorem tX12_beliefBy (l : Launch) (D : va_G) (cy : Nat → ClassId) (ad : Nat → Nat) (hJ : (mads ad).Nodup) (sz : Nat) (a0 : Int32) (a1 : Int32) (st : St) (rr : Int64) (st' : St) (hf : fX12_beliefBy a0 a1 st = some (rr, st')) : Met l yX12_beliefBy (Cond.code yX12_beliefBy cX12_beliefBy 11 (some .long) :: TT) (rmD 1) (mPc D cy ad [.int a0, .int a1] st sz) (mQl D cy ad rr st' sz) 0 0 (mA ad sz) := by
  refine m_metl (by decide) hJ (Nat.le_of_ble_eq_true rfl) (fun p e s m args below meth c ls E hx hb hr hlocks hown hT hD hl hP hS => ?_)
  replace hl : lv_has ls 11 [(0, .ref (ad 100)), (1, .int a0), (2, .int a1)] := hl
  unfold fX12_beliefBy at hf
  have B145 : ∀ (v1 : Int32) (v7 : Int64) (w0 : Int64) (st : St) (H : Heap) (locs : List Loc) (ls : Array Slot), fX12_beliefBy_b145 v1 v7 w0 st = some (rr, st') → lv_has ls 11 [(0, .ref (ad 100)), (1, .int v1), (7, .long v7)] → va_P D classes (mw cy ad st) H → va_S (mA ad s.heap.size) s.heap H locs → mGl l 1 D cy ad rr st' p e s m args below meth c H locs (F0 m 145 ls [.long w0]) := by
    intro v1 v7 w0 st H locs ls hf hl hP hS
    unfold fX12_beliefBy_b145 at hf
    refine lv_lstore (lv' := [(9, .long w0), (0, .ref (ad 100)), (1, .int v1), (7, .long v7)]) hx hb dX12_beliefBy_145 hl (by decide) rfl (fun ls hl => ?_)
    refine lv_aload_n hx hb dX12_beliefBy_147 rfl (lv_at hl 1 rfl) ?_
    refine lv_iload_n hx hb dX12_beliefBy_148 rfl (lv_at hl 2 rfl) ?_
    obtain ⟨r1, st2, hc, hf⟩ := bd_some hf
    refine m_calli (n := 1) (rest := []) E hP hS (fun sz => tX12_fameOf l D cy ad hJ sz v1 st r1 st2 hc) (gV k_1384 k_1386 ks_42 k_14 k_1387) qX12_fameOf ⟨Nat.le_of_ble_eq_true rfl, Nat.le_of_ble_eq_true rfl⟩ ⟨Nat.le_refl _, Nat.le_refl _⟩ rfl hl.1 rfl (Nat.le_of_ble_eq_true rfl) dX12_beliefBy_149 (fun H locs hP hS => ?_)
    refine lv_i2l (v := r1.toInt64) hx hb dX12_beliefBy_152 rfl ?_
    refine lv_lload hx hb dX12_beliefBy_153 (lv_at hl 0 rfl) ?_
    refine lv_lmul hx hb dX12_beliefBy_155 ?_
    refine lv_bipush (v := 100) hx hb dX12_beliefBy_156 (by decide) ?_
    refine lv_aload_n hx hb dX12_beliefBy_158 rfl (lv_at hl 1 rfl) ?_
    refine lv_iload_n hx hb dX12_beliefBy_159 rfl (lv_at hl 2 rfl) ?_
    obtain ⟨r3, st4, hc, hf⟩ := bd_some hf
    refine m_calli (n := 1) (rest := [.int (100 : Int32), .long ((r1.toInt64) * w0)]) E hP hS (fun sz => tX12_fameOf l D cy ad hJ sz v1 st2 r3 st4 hc) (gV k_1384 k_1386 ks_42 k_14 k_1387) qX12_fameOf ⟨Nat.le_of_ble_eq_true rfl, Nat.le_of_ble_eq_true rfl⟩ ⟨Nat.le_refl _, Nat.le_refl _⟩ rfl hl.1 rfl (Nat.le_of_ble_eq_true rfl) dX12_beliefBy_160 (fun H locs hP hS => ?_)
    refine lv_isub hx hb dX12_beliefBy_163 ?_
    refine lv_i2l (v := ((100 : Int32) - r3).toInt64) hx hb dX12_beliefBy_164 rfl ?_
    refine lv_lload hx hb dX12_beliefBy_165 (lv_at hl 3 rfl) ?_
    refine lv_lmul hx hb dX12_beliefBy_167 ?_
    refine lv_ladd hx hb dX12_beliefBy_168 ?_
    refine lv_ldc2 (v := 100) hx hb hown (hT _ k_1388) dX12_beliefBy_169 ?_
    refine lv_ldiv hx hb dX12_beliefBy_172 (by decide) ?_
    exact m_lret hx hb hr hlocks hf hP hS dX12_beliefBy_173
  have L26 : ∀ (n : Nat) (v1 : Int32) (v2 : Int32) (v3 : Int64) (v5 : Int64) (v7 : Int64) (v9 : Int32) (st : St) (H : Heap) (locs : List Loc) (ls : Array Slot), lp (fun _ _ _ _ _ _ _ => none) (fX12_beliefBy_b26) n v1 v2 v3 v5 v7 v9 st = some (rr, st') → lv_has ls 11 [(0, .ref (ad 100)), (1, .int v1), (2, .int v2), (3, .long v3), (5, .long v5), (7, .long v7), (9, .int v9)] → va_P D classes (mw cy ad st) H → va_S (mA ad s.heap.size) s.heap H locs → mGl l 1 D cy ad rr st' p e s m args below meth c H locs (F0 m 26 ls []) := by
    intro n
    induction n with
    | zero => intro v1 v2 v3 v5 v7 v9 st H locs ls hf; exact absurd hf (fun h => by cases h)
    | succ n K26 =>
      intro v1 v2 v3 v5 v7 v9 st H locs ls hf hl hP hS
      replace hf : fX12_beliefBy_b26 (lp (fun _ _ _ _ _ _ _ => none) (fX12_beliefBy_b26) n) v1 v2 v3 v5 v7 v9 st = some (rr, st') := hf
      generalize lp (fun _ _ _ _ _ _ _ => none) (fX12_beliefBy_b26) n = k26 at hf K26
      have B112 : ∀ (v1 : Int32) (v2 : Int32) (v3 : Int64) (v7 : Int64) (v9 : Int32) (w0 : Int64) (w1 : Int64) (st : St) (H : Heap) (locs : List Loc) (ls : Array Slot), fX12_beliefBy_b112 k26 v1 v2 v3 v7 v9 w0 w1 st = some (rr, st') → lv_has ls 11 [(0, .ref (ad 100)), (1, .int v1), (2, .int v2), (3, .long v3), (7, .long v7), (9, .int v9)] → va_P D classes (mw cy ad st) H → va_S (mA ad s.heap.size) s.heap H locs → mGl l 1 D cy ad rr st' p e s m args below meth c H locs (F0 m 112 ls [.long w0, .long w1]) := by
        intro v1 v2 v3 v7 v9 w0 w1 st H locs ls hf hl hP hS
        unfold fX12_beliefBy_b112 at hf
        refine lv_lmul hx hb dX12_beliefBy_112 ?_
        refine lv_topl (fun x5 ex => ?_)
        replace hf := lt_at ex hf; clear ex
        refine lv_lstore (lv' := [(5, .long x5), (0, .ref (ad 100)), (1, .int v1), (2, .int v2), (3, .long v3), (7, .long v7), (9, .int v9)]) hx hb dX12_beliefBy_113 hl (by decide) rfl (fun ls hl => ?_)
        obtain ⟨x6, ex⟩ : ∃ y : Int32, y = v9 + (1 : Int32) := ⟨_, rfl⟩
        replace hf := lt_at ex hf
        refine lv_iinc (v := x6) (lv' := [(9, .int x6), (5, .long x5), (0, .ref (ad 100)), (1, .int v1), (2, .int v2), (3, .long v3), (7, .long v7)]) hx hb dX12_beliefBy_115 hl (k := 6) rfl (by rw [ex]; rfl) (by decide) rfl (fun ls hl => ?_)
        clear ex
        refine lv_goto (tgt := 26) hx hb dX12_beliefBy_118 (by decide) ?_
        exact K26 v1 v2 v3 x5 v7 x6 st _ _ ls hf (lv_sub hl [2, 3, 4, 5, 1, 6, 0] rfl) hP hS
      have B71 : ∀ (v1 : Int32) (v2 : Int32) (v5 : Int64) (v7 : Int64) (v9 : Int32) (w0 : Int64) (w1 : Int64) (st : St) (H : Heap) (locs : List Loc) (ls : Array Slot), fX12_beliefBy_b71 k26 v1 v2 v5 v7 v9 w0 w1 st = some (rr, st') → lv_has ls 11 [(0, .ref (ad 100)), (1, .int v1), (2, .int v2), (5, .long v5), (7, .long v7), (9, .int v9)] → va_P D classes (mw cy ad st) H → va_S (mA ad s.heap.size) s.heap H locs → mGl l 1 D cy ad rr st' p e s m args below meth c H locs (F0 m 71 ls [.long w0, .long w1]) := by
        intro v1 v2 v5 v7 v9 w0 w1 st H locs ls hf hl hP hS
        unfold fX12_beliefBy_b71 at hf
        refine lv_lmul hx hb dX12_beliefBy_71 ?_
        refine lv_topl (fun x7 ex => ?_)
        replace hf := lt_at ex hf; clear ex
        refine lv_lstore_n (lv' := [(3, .long x7), (0, .ref (ad 100)), (1, .int v1), (2, .int v2), (5, .long v5), (7, .long v7), (9, .int v9)]) hx hb dX12_beliefBy_72 rfl hl (by decide) rfl (fun ls hl => ?_)
        refine lv_lload hx hb dX12_beliefBy_73 (lv_at hl 4 rfl) ?_
        refine lv_iload_n hx hb dX12_beliefBy_75 rfl (lv_at hl 3 rfl) ?_
        refine lv_iload hx hb dX12_beliefBy_76 (lv_at hl 6 rfl) ?_
        obtain ⟨r8, hc, hf⟩ := bs_some hf
        refine s_calli (n := 2) (rest := [.long v5]) E.1 (tX12_is l _ v2 v9 r8 hc) (gS k_1380 k_1381 k_14 k_1382) qX12_is ⟨Nat.le_of_ble_eq_true rfl, Nat.le_of_ble_eq_true rfl⟩ ⟨Nat.le_refl _, Nat.le_refl _⟩ rfl hl.1 rfl (Nat.le_of_ble_eq_true rfl) dX12_beliefBy_78 ?_
        refine lv_if_eq (tgt := 98) hx hb dX12_beliefBy_81 (by decide) (fun hc => ?_) (fun hc => ?_)
        · replace hf := it_pos hc hf
          refine lv_bipush (v := 10) hx hb dX12_beliefBy_98 (by decide) ?_
          refine lv_aload_n hx hb dX12_beliefBy_100 rfl (lv_at hl 1 rfl) ?_
          refine mg_3 E hP dX12_beliefBy_101 ?_
          refine lv_bipush (v := 43) hx hb dX12_beliefBy_104 (by decide) ?_
          refine lv_iload hx hb dX12_beliefBy_106 (lv_at hl 6 rfl) ?_
          refine lv_iadd hx hb dX12_beliefBy_108 ?_
          obtain ⟨hi, hf⟩ := gi_some hf
          refine ml_3 E hP hi dX12_beliefBy_109 ?_
          refine lv_isub hx hb dX12_beliefBy_110 ?_
          refine lv_i2l (v := ((10 : Int32) - (st.2.2.1 3 ((43 : Int32) + v9).toNatClampNeg)).toInt64) hx hb dX12_beliefBy_111 rfl ?_
          exact B112 v1 v2 x7 v7 v9 (((10 : Int32) - (st.2.2.1 3 ((43 : Int32) + v9).toNatClampNeg)).toInt64) v5 st _ _ ls hf (lv_sub hl [1, 2, 3, 0, 5, 6] rfl) hP hS
        · replace hf := it_neg hc hf
          refine lv_aload_n hx hb dX12_beliefBy_84 rfl (lv_at hl 1 rfl) ?_
          refine mg_3 E hP dX12_beliefBy_85 ?_
          refine lv_bipush (v := 43) hx hb dX12_beliefBy_88 (by decide) ?_
          refine lv_iload hx hb dX12_beliefBy_90 (lv_at hl 6 rfl) ?_
          refine lv_iadd hx hb dX12_beliefBy_92 ?_
          obtain ⟨hi, hf⟩ := gi_some hf
          refine ml_3 E hP hi dX12_beliefBy_93 ?_
          refine lv_i2l (v := (st.2.2.1 3 ((43 : Int32) + v9).toNatClampNeg).toInt64) hx hb dX12_beliefBy_94 rfl ?_
          refine lv_goto (tgt := 112) hx hb dX12_beliefBy_95 (by decide) ?_
          exact B112 v1 v2 x7 v7 v9 ((st.2.2.1 3 ((43 : Int32) + v9).toNatClampNeg).toInt64) v5 st _ _ ls hf (lv_sub hl [1, 2, 3, 0, 5, 6] rfl) hP hS
      unfold fX12_beliefBy_b26 at hf
      refine lv_iload hx hb dX12_beliefBy_26 (lv_at hl 6 rfl) ?_
      refine lv_bipush (v := 6) hx hb dX12_beliefBy_28 (by decide) ?_
      refine lv_icmp_ge (tgt := 121) hx hb dX12_beliefBy_30 (by decide) (fun hc => ?_) (fun hc => ?_)
      · replace hf := it_pos hc hf
        refine lv_lload_n hx hb dX12_beliefBy_121 rfl (lv_at hl 3 rfl) ?_
        refine lv_lload hx hb dX12_beliefBy_122 (lv_at hl 4 rfl) ?_
        refine lv_ladd hx hb dX12_beliefBy_124 ?_
        refine lv_lconst (v := 0) hx hb dX12_beliefBy_125 (by decide) ?_
        refine W.lcmp hx hb dX12_beliefBy_126 ?_
        refine lv_if_ne (tgt := 135) hx hb dX12_beliefBy_127 (by decide) (fun hc => ?_) (fun hc => ?_)
        · replace hf := it_neg hc hf
          refine lv_lload_n hx hb dX12_beliefBy_135 rfl (lv_at hl 3 rfl) ?_
          refine lv_ldc2 (v := 1000000) hx hb hown (hT _ k_1383) dX12_beliefBy_136 ?_
          refine lv_lmul hx hb dX12_beliefBy_139 ?_
          refine lv_lload_n hx hb dX12_beliefBy_140 rfl (lv_at hl 3 rfl) ?_
          refine lv_lload hx hb dX12_beliefBy_141 (lv_at hl 4 rfl) ?_
          refine lv_ladd hx hb dX12_beliefBy_143 ?_
          obtain ⟨hz, hf⟩ := gzl_some hf
          refine lv_ldiv hx hb dX12_beliefBy_144 hz ?_
          exact B145 v1 v7 ((v3 * (1000000 : Int64)) / (v3 + v5)) st _ _ ls hf (lv_sub hl [0, 1, 5] rfl) hP hS
        · replace hf := it_pos hc hf
          refine lv_lload hx hb dX12_beliefBy_130 (lv_at hl 5 rfl) ?_
          refine lv_goto (tgt := 145) hx hb dX12_beliefBy_132 (by decide) ?_
          exact B145 v1 v7 v7 st _ _ ls hf (lv_sub hl [0, 1, 5] rfl) hP hS
      · replace hf := it_neg hc hf
        refine lv_lload_n hx hb dX12_beliefBy_33 rfl (lv_at hl 3 rfl) ?_
        refine lv_iload_n hx hb dX12_beliefBy_34 rfl (lv_at hl 2 rfl) ?_
        refine lv_iload hx hb dX12_beliefBy_35 (lv_at hl 6 rfl) ?_
        obtain ⟨r9, hc, hf⟩ := bs_some hf
        refine s_calli (n := 2) (rest := [.long v3]) E.1 (tX12_is l _ v2 v9 r9 hc) (gS k_1380 k_1381 k_14 k_1382) qX12_is ⟨Nat.le_of_ble_eq_true rfl, Nat.le_of_ble_eq_true rfl⟩ ⟨Nat.le_refl _, Nat.le_refl _⟩ rfl hl.1 rfl (Nat.le_of_ble_eq_true rfl) dX12_beliefBy_37 ?_
        refine lv_if_eq (tgt := 57) hx hb dX12_beliefBy_40 (by decide) (fun hc => ?_) (fun hc => ?_)
        · replace hf := it_pos hc hf
          refine lv_bipush (v := 10) hx hb dX12_beliefBy_57 (by decide) ?_
          refine lv_aload_n hx hb dX12_beliefBy_59 rfl (lv_at hl 0 rfl) ?_
          refine mg_3 E hP dX12_beliefBy_60 ?_
          refine lv_bipush (v := 37) hx hb dX12_beliefBy_63 (by decide) ?_
          refine lv_iload hx hb dX12_beliefBy_65 (lv_at hl 6 rfl) ?_
          refine lv_iadd hx hb dX12_beliefBy_67 ?_
          obtain ⟨hi, hf⟩ := gi_some hf
          refine ml_3 E hP hi dX12_beliefBy_68 ?_
          refine lv_isub hx hb dX12_beliefBy_69 ?_
          refine lv_i2l (v := ((10 : Int32) - (st.2.2.1 3 ((37 : Int32) + v9).toNatClampNeg)).toInt64) hx hb dX12_beliefBy_70 rfl ?_
          exact B71 v1 v2 v5 v7 v9 (((10 : Int32) - (st.2.2.1 3 ((37 : Int32) + v9).toNatClampNeg)).toInt64) v3 st _ _ ls hf (lv_sub hl [0, 1, 2, 4, 5, 6] rfl) hP hS
        · replace hf := it_neg hc hf
          refine lv_aload_n hx hb dX12_beliefBy_43 rfl (lv_at hl 0 rfl) ?_
          refine mg_3 E hP dX12_beliefBy_44 ?_
          refine lv_bipush (v := 37) hx hb dX12_beliefBy_47 (by decide) ?_
          refine lv_iload hx hb dX12_beliefBy_49 (lv_at hl 6 rfl) ?_
          refine lv_iadd hx hb dX12_beliefBy_51 ?_
          obtain ⟨hi, hf⟩ := gi_some hf
          refine ml_3 E hP hi dX12_beliefBy_52 ?_
          refine lv_i2l (v := (st.2.2.1 3 ((37 : Int32) + v9).toNatClampNeg).toInt64) hx hb dX12_beliefBy_53 rfl ?_
          refine lv_goto (tgt := 71) hx hb dX12_beliefBy_54 (by decide) ?_
          exact B71 v1 v2 v5 v7 v9 ((st.2.2.1 3 ((37 : Int32) + v9).toNatClampNeg).toInt64) v3 st _ _ ls hf (lv_sub hl [0, 1, 2, 4, 5, 6] rfl) hP hS
  refine lv_aload_n hx hb dX12_beliefBy_0 rfl (lv_at hl 0 rfl) ?_
  refine mg_3 E hP dX12_beliefBy_1 ?_
  refine lv_bipush (v := 7) hx hb dX12_beliefBy_4 (by decide) ?_
  refine ml_3 E hP (vi rfl) dX12_beliefBy_6 ?_
  refine lv_i2l (v := (st.2.2.1 3 (7 : Int32).toNatClampNeg).toInt64) hx hb dX12_beliefBy_7 rfl ?_
  refine lv_topl (fun x10 ex => ?_)
  replace hf := lt_at ex hf; clear ex
  refine lv_lstore_n (lv' := [(3, .long x10), (0, .ref (ad 100)), (1, .int a0), (2, .int a1)]) hx hb dX12_beliefBy_8 rfl hl (by decide) rfl (fun ls hl => ?_)
  refine lv_ldc2 (v := 1000) hx hb hown (hT _ k_1379) dX12_beliefBy_9 ?_
  refine lv_lload_n hx hb dX12_beliefBy_12 rfl (lv_at hl 0 rfl) ?_
  refine lv_lsub hx hb dX12_beliefBy_13 ?_
  refine lv_topl (fun x11 ex => ?_)
  replace hf := lt_at ex hf; clear ex
  refine lv_lstore (lv' := [(5, .long x11), (3, .long x10), (0, .ref (ad 100)), (1, .int a0), (2, .int a1)]) hx hb dX12_beliefBy_14 hl (by decide) rfl (fun ls hl => ?_)
  refine lv_lload_n hx hb dX12_beliefBy_16 rfl (lv_at hl 1 rfl) ?_
  refine lv_ldc2 (v := 1000) hx hb hown (hT _ k_1379) dX12_beliefBy_17 ?_
  refine lv_lmul hx hb dX12_beliefBy_20 ?_
  refine lv_topl (fun x12 ex => ?_)
  replace hf := lt_at ex hf; clear ex
  refine lv_lstore (lv' := [(7, .long x12), (5, .long x11), (3, .long x10), (0, .ref (ad 100)), (1, .int a0), (2, .int a1)]) hx hb dX12_beliefBy_21 hl (by decide) rfl (fun ls hl => ?_)
  refine lv_iconst (v := 0) hx hb dX12_beliefBy_23 (by decide) ?_
  refine lv_istore (lv' := [(9, .int (0 : Int32)), (7, .long x12), (5, .long x11), (3, .long x10), (0, .ref (ad 100)), (1, .int a0), (2, .int a1)]) hx hb dX12_beliefBy_24 hl (by decide) rfl (fun ls hl => ?_)
  exact L26 6000 a0 a1 x10 x11 x12 (0 : Int32) st _ _ ls hf (lv_sub hl [4, 5, 6, 3, 2, 1, 0] rfl) hP hS
theorem qX12_beliefBy : yX12_beliefBy.cls = RX12 ∧ yX12_beliefBy.cls ≠ "java/lang/invoke/MethodHandle" ∧ yX12_beliefBy.cls ≠ "java/lang/invoke/VarHandle" ∧ (parseMethodDescriptor yX12_beliefBy.desc).map (fun d => d.parameters.length) = some 2 := by decide +kernel
def fX12_hundredths (a0 : Int32) (a1 : Int32) (st : St) : Option (Int32 × St) := bd (fX12_beliefBy a0 a1 st) (fun r1 st2 => some ((r1 / (10000 : Int64)).toInt32, st2))
set_option maxHeartbeats 4000000 in
set_option maxRecDepth 100000 in
theorem tX12_hundredths (l : Launch) (D : va_G) (cy : Nat → ClassId) (ad : Nat → Nat) (hJ : (mads ad).Nodup) (sz : Nat) (a0 : Int32) (a1 : Int32) (st : St) (rr : Int32) (st' : St) (hf : fX12_hundredths a0 a1 st = some (rr, st')) : Met l yX12_hundredths (Cond.code yX12_hundredths cX12_hundredths 3 (some .int) :: TT) (rmD 2) (mPc D cy ad [.int a0, .int a1] st sz) (mQi D cy ad rr st' sz) 0 0 (mA ad sz) := by
  refine m_meti (by decide) hJ (Nat.le_of_ble_eq_true rfl) (fun p e s m args below meth c ls E hx hb hr hlocks hown hT hD hl hP hS => ?_)
  replace hl : lv_has ls 3 [(0, .ref (ad 100)), (1, .int a0), (2, .int a1)] := hl
  unfold fX12_hundredths at hf
  refine lv_aload_n hx hb dX12_hundredths_0 rfl (lv_at hl 0 rfl) ?_
  refine lv_iload_n hx hb dX12_hundredths_1 rfl (lv_at hl 1 rfl) ?_
  refine lv_iload_n hx hb dX12_hundredths_2 rfl (lv_at hl 2 rfl) ?_
  obtain ⟨r1, st2, hc, hf⟩ := bd_some hf
  refine m_calll (n := 2) (rest := []) E hP hS (fun sz => tX12_beliefBy l D cy ad hJ sz a0 a1 st r1 st2 hc) (gV k_1375 k_1377 ks_41 k_14 k_1378) qX12_beliefBy ⟨Nat.le_of_ble_eq_true rfl, Nat.le_of_ble_eq_true rfl⟩ ⟨Nat.le_refl _, Nat.le_refl _⟩ rfl hl.1 rfl (Nat.le_of_ble_eq_true rfl) dX12_hundredths_3 (fun H locs hP hS => ?_)
  refine lv_ldc2 (v := 10000) hx hb hown (hT _ k_1603) dX12_hundredths_6 ?_
  refine lv_ldiv hx hb dX12_hundredths_9 (by decide) ?_
  refine lv_l2i (v := (r1 / (10000 : Int64)).toInt32) hx hb dX12_hundredths_10 rfl ?_
  exact m_iret hx hb hr hlocks hf hP hS dX12_hundredths_11
theorem qX12_hundredths : yX12_hundredths.cls = RX12 ∧ yX12_hundredths.cls ≠ "java/lang/invoke/MethodHandle" ∧ yX12_hundredths.cls ≠ "java/lang/invoke/VarHandle" ∧ (parseMethodDescriptor yX12_hundredths.desc).map (fun d => d.parameters.length) = some 2 := by decide +kernel
def fX12_come_b24 (st : St) : Option (Int32 × St) := some ((-1 : Int32), st)
def fX12_come (a0 : Int32) (a1 : Int32) (st : St) : Option (Int32 × St) := bs (fX12_in (a0.toInt64) (0 : Int64) (99 : Int64)) (fun r1 => if r1 = 0 then (fX12_come_b24 st) else (bs (fX12_in (a1.toInt64) (0 : Int64) (3 : Int64)) (fun r2 => if r2 = 0 then (fX12_come_b24 st) else (lt (st.2.2.1 3 (0 : Int32).toNatClampNeg) (fun x3 => if x3 = (6 : Int32) then (some ((-5 : Int32), st)) else (gi ((13 : Int32) + x3) 5550 (lt (sA st 3 (upd (st.2.2.1 3) ((13 : Int32) + x3).toNatClampNeg a0)) (fun st4 => gi ((31 : Int32) + x3) 5550 (lt (sA st4 3 (upd (st4.2.2.1 3) ((31 : Int32) + x3).toNatClampNeg a1)) (fun st5 => gi ((19 : Int32) + x3) 5550 (lt (sA st5 3 (upd (st5.2.2.1 3) ((19 : Int32) + x3).toNatClampNeg (0 : Int32))) (fun st6 => gi ((25 : Int32) + x3) 5550 (lt (sA st6 3 (upd (st6.2.2.1 3) ((25 : Int32) + x3).toNatClampNeg (0 : Int32))) (fun st7 => lt (sA st7 3 (upd (st7.2.2.1 3) (0 : Int32).toNatClampNeg ((st7.2.2.1 3 (0 : Int32).toNatClampNeg) + (1 : Int32)))) (fun st8 => lt (sI st8 8 (0 : Int32)) (fun st9 => some (x3, st9)))))))))))))))))
set_option maxHeartbeats 4000000 in
set_option maxRecDepth 100000 in
theorem tX12_come (l : Launch) (D : va_G) (cy : Nat → ClassId) (ad : Nat → Nat) (hJ : (mads ad).Nodup) (sz : Nat) (a0 : Int32) (a1 : Int32) (st : St) (rr : Int32) (st' : St) (hf : fX12_come a0 a1 st = some (rr, st')) : Met l yX12_come (Cond.code yX12_come cX12_come 4 (some .int) :: TT) (rmD 1) (mPc D cy ad [.int a0, .int a1] st sz) (mQi D cy ad rr st' sz) 0 0 (mA ad sz) := by
  refine m_meti (by decide) hJ (Nat.le_of_ble_eq_true rfl) (fun p e s m args below meth c ls E hx hb hr hlocks hown hT hD hl hP hS => ?_)
  replace hl : lv_has ls 4 [(0, .ref (ad 100)), (1, .int a0), (2, .int a1)] := hl
  unfold fX12_come at hf
  have B24 : ∀ (st : St) (H : Heap) (locs : List Loc) (ls : Array Slot), fX12_come_b24 st = some (rr, st') → lv_has ls 4 [] → va_P D classes (mw cy ad st) H → va_S (mA ad s.heap.size) s.heap H locs → mGi l 1 D cy ad rr st' p e s m args below meth c H locs (F0 m 24 ls []) := by
    intro st H locs ls hf hl hP hS
    unfold fX12_come_b24 at hf
    refine lv_iconst (v := -1) hx hb dX12_come_24 (by decide) ?_
    exact m_iret hx hb hr hlocks hf hP hS dX12_come_25
  refine lv_iload_n hx hb dX12_come_0 rfl (lv_at hl 1 rfl) ?_
  refine lv_i2l (v := a0.toInt64) hx hb dX12_come_1 rfl ?_
  refine lv_lconst (v := 0) hx hb dX12_come_2 (by decide) ?_
  refine lv_ldc2 (v := 99) hx hb hown (hT _ k_1365) dX12_come_3 ?_
  obtain ⟨r1, hc, hf⟩ := bs_some hf
  refine s_calli (n := 3) (rest := []) E.1 (tX12_in l _ (a0.toInt64) (0 : Int64) (99 : Int64) r1 hc) (gS k_1350 k_1351 k_14 k_1352) qX12_in ⟨Nat.le_of_ble_eq_true rfl, Nat.le_of_ble_eq_true rfl⟩ ⟨Nat.le_refl _, Nat.le_refl _⟩ rfl hl.1 rfl (Nat.le_of_ble_eq_true rfl) dX12_come_6 ?_
  refine lv_if_eq (tgt := 24) hx hb dX12_come_9 (by decide) (fun hc => ?_) (fun hc => ?_)
  · replace hf := it_pos hc hf
    exact B24 st _ _ ls hf (lv_sub hl [] rfl) hP hS
  · replace hf := it_neg hc hf
    refine lv_iload_n hx hb dX12_come_12 rfl (lv_at hl 2 rfl) ?_
    refine lv_i2l (v := a1.toInt64) hx hb dX12_come_13 rfl ?_
    refine lv_lconst (v := 0) hx hb dX12_come_14 (by decide) ?_
    refine lv_ldc2 (v := 3) hx hb hown (hT _ k_1366) dX12_come_15 ?_
    obtain ⟨r2, hc, hf⟩ := bs_some hf
    refine s_calli (n := 3) (rest := []) E.1 (tX12_in l _ (a1.toInt64) (0 : Int64) (3 : Int64) r2 hc) (gS k_1350 k_1351 k_14 k_1352) qX12_in ⟨Nat.le_of_ble_eq_true rfl, Nat.le_of_ble_eq_true rfl⟩ ⟨Nat.le_refl _, Nat.le_refl _⟩ rfl hl.1 rfl (Nat.le_of_ble_eq_true rfl) dX12_come_18 ?_
    refine lv_if_ne (tgt := 26) hx hb dX12_come_21 (by decide) (fun hc => ?_) (fun hc => ?_)
    · replace hf := it_neg hc hf
      refine lv_aload_n hx hb dX12_come_26 rfl (lv_at hl 0 rfl) ?_
      refine mg_3 E hP dX12_come_27 ?_
      refine lv_iconst (v := 0) hx hb dX12_come_30 (by decide) ?_
      refine ml_3 E hP (vi rfl) dX12_come_31 ?_
      refine lv_topi (fun x3 ex => ?_)
      replace hf := lt_at ex hf; clear ex
      refine lv_istore_n (lv' := [(3, .int x3), (0, .ref (ad 100)), (1, .int a0), (2, .int a1)]) hx hb dX12_come_32 rfl hl (by decide) rfl (fun ls hl => ?_)
      refine lv_iload_n hx hb dX12_come_33 rfl (lv_at hl 0 rfl) ?_
      refine lv_bipush (v := 6) hx hb dX12_come_34 (by decide) ?_
      refine lv_icmp_ne (tgt := 42) hx hb dX12_come_36 (by decide) (fun hc => ?_) (fun hc => ?_)
      · replace hf := it_neg hc hf
        refine lv_aload_n hx hb dX12_come_42 rfl (lv_at hl 1 rfl) ?_
        refine mg_3 E hP dX12_come_43 ?_
        refine lv_bipush (v := 13) hx hb dX12_come_46 (by decide) ?_
        refine lv_iload_n hx hb dX12_come_48 rfl (lv_at hl 0 rfl) ?_
        refine lv_iadd hx hb dX12_come_49 ?_
        refine lv_iload_n hx hb dX12_come_50 rfl (lv_at hl 2 rfl) ?_
        obtain ⟨hi, hf⟩ := gi_some hf
        refine ms_3 E hD hP hS hi dX12_come_51 (fun st4 H locs ex hP hS => ?_)
        replace hf := lt_at ex hf; clear ex
        refine lv_aload_n hx hb dX12_come_52 rfl (lv_at hl 1 rfl) ?_
        refine mg_3 E hP dX12_come_53 ?_
        refine lv_bipush (v := 31) hx hb dX12_come_56 (by decide) ?_
        refine lv_iload_n hx hb dX12_come_58 rfl (lv_at hl 0 rfl) ?_
        refine lv_iadd hx hb dX12_come_59 ?_
        refine lv_iload_n hx hb dX12_come_60 rfl (lv_at hl 3 rfl) ?_
        obtain ⟨hi, hf⟩ := gi_some hf
        refine ms_3 E hD hP hS hi dX12_come_61 (fun st5 H locs ex hP hS => ?_)
        replace hf := lt_at ex hf; clear ex
        refine lv_aload_n hx hb dX12_come_62 rfl (lv_at hl 1 rfl) ?_
        refine mg_3 E hP dX12_come_63 ?_
        refine lv_bipush (v := 19) hx hb dX12_come_66 (by decide) ?_
        refine lv_iload_n hx hb dX12_come_68 rfl (lv_at hl 0 rfl) ?_
        refine lv_iadd hx hb dX12_come_69 ?_
        refine lv_iconst (v := 0) hx hb dX12_come_70 (by decide) ?_
        obtain ⟨hi, hf⟩ := gi_some hf
        refine ms_3 E hD hP hS hi dX12_come_71 (fun st6 H locs ex hP hS => ?_)
        replace hf := lt_at ex hf; clear ex
        refine lv_aload_n hx hb dX12_come_72 rfl (lv_at hl 1 rfl) ?_
        refine mg_3 E hP dX12_come_73 ?_
        refine lv_bipush (v := 25) hx hb dX12_come_76 (by decide) ?_
        refine lv_iload_n hx hb dX12_come_78 rfl (lv_at hl 0 rfl) ?_
        refine lv_iadd hx hb dX12_come_79 ?_
        refine lv_iconst (v := 0) hx hb dX12_come_80 (by decide) ?_
        obtain ⟨hi, hf⟩ := gi_some hf
        refine ms_3 E hD hP hS hi dX12_come_81 (fun st7 H locs ex hP hS => ?_)
        replace hf := lt_at ex hf; clear ex
        refine lv_aload_n hx hb dX12_come_82 rfl (lv_at hl 1 rfl) ?_
        refine mg_3 E hP dX12_come_83 ?_
        refine lv_iconst (v := 0) hx hb dX12_come_86 (by decide) ?_
        refine lv_dup2_11 hx hb dX12_come_87 rfl rfl ?_
        refine ml_3 E hP (vi rfl) dX12_come_88 ?_
        refine lv_iconst (v := 1) hx hb dX12_come_89 (by decide) ?_
        refine lv_iadd hx hb dX12_come_90 ?_
        refine ms_3 E hD hP hS (vi rfl) dX12_come_91 (fun st8 H locs ex hP hS => ?_)
        replace hf := lt_at ex hf; clear ex
        refine lv_aload_n hx hb dX12_come_92 rfl (lv_at hl 1 rfl) ?_
        refine lv_iconst (v := 0) hx hb dX12_come_93 (by decide) ?_
        refine mp_8 E hD hP hS dX12_come_94 (fun st9 H locs ex hP hS => ?_)
        replace hf := lt_at ex hf; clear ex
        refine lv_iload_n hx hb dX12_come_97 rfl (lv_at hl 0 rfl) ?_
        exact m_iret hx hb hr hlocks hf hP hS dX12_come_98
      · replace hf := it_pos hc hf
        refine lv_bipush (v := -5) hx hb dX12_come_39 (by decide) ?_
        exact m_iret hx hb hr hlocks hf hP hS dX12_come_41
    · replace hf := it_pos hc hf
      exact B24 st _ _ ls hf (lv_sub hl [] rfl) hP hS
theorem qX12_come : yX12_come.cls = RX12 ∧ yX12_come.cls ≠ "java/lang/invoke/MethodHandle" ∧ yX12_come.cls ≠ "java/lang/invoke/VarHandle" ∧ (parseMethodDescriptor yX12_come.desc).map (fun d => d.parameters.length) = some 2 := by decide +kernel
def fX12_fort (a0 : Int32) (a1 : Int32) (st : St) : Option (Int32 × St) := lt (sI st 0 (0 : Int32)) (fun st1 => bd (fX12_come a0 a1 st1) (fun r2 st3 => bd (fX12_tell r2 st3) (fun r4 st5 => some (r4, st5))))
set_option maxHeartbeats 4000000 in
set_option maxRecDepth 100000 in
theorem tX12_fort (l : Launch) (D : va_G) (cy : Nat → ClassId) (ad : Nat → Nat) (hJ : (mads ad).Nodup) (sz : Nat) (a0 : Int32) (a1 : Int32) (st : St) (rr : Int32) (st' : St) (hf : fX12_fort a0 a1 st = some (rr, st')) : Met l yX12_fort (Cond.code yX12_fort cX12_fort 3 (some .int) :: TT) (rmD 2) (mPc D cy ad [.int a0, .int a1] st sz) (mQi D cy ad rr st' sz) 0 0 (mA ad sz) := by
  refine m_meti (by decide) hJ (Nat.le_of_ble_eq_true rfl) (fun p e s m args below meth c ls E hx hb hr hlocks hown hT hD hl hP hS => ?_)
  replace hl : lv_has ls 3 [(0, .ref (ad 100)), (1, .int a0), (2, .int a1)] := hl
  unfold fX12_fort at hf
  refine lv_aload_n hx hb dX12_fort_0 rfl (lv_at hl 0 rfl) ?_
  refine lv_iconst (v := 0) hx hb dX12_fort_1 (by decide) ?_
  refine mp_0 E hD hP hS dX12_fort_2 (fun st1 H locs ex hP hS => ?_)
  replace hf := lt_at ex hf; clear ex
  refine lv_aload_n hx hb dX12_fort_5 rfl (lv_at hl 0 rfl) ?_
  refine lv_aload_n hx hb dX12_fort_6 rfl (lv_at hl 0 rfl) ?_
  refine lv_iload_n hx hb dX12_fort_7 rfl (lv_at hl 1 rfl) ?_
  refine lv_iload_n hx hb dX12_fort_8 rfl (lv_at hl 2 rfl) ?_
  obtain ⟨r2, st3, hc, hf⟩ := bd_some hf
  refine m_calli (n := 2) (rest := [.ref (ad 100)]) E hP hS (fun sz => tX12_come l D cy ad hJ sz a0 a1 st1 r2 st3 hc) (gV k_1361 k_1363 ks_39 k_14 k_1364) qX12_come ⟨Nat.le_of_ble_eq_true rfl, Nat.le_of_ble_eq_true rfl⟩ ⟨Nat.le_refl _, Nat.le_refl _⟩ rfl hl.1 rfl (Nat.le_of_ble_eq_true rfl) dX12_fort_9 (fun H locs hP hS => ?_)
  obtain ⟨r4, st5, hc, hf⟩ := bd_some hf
  refine m_calli (n := 1) (rest := []) E hP hS (fun sz => tX12_tell l D cy ad hJ sz r2 st3 r4 st5 hc) (gV k_1338 k_1340 ks_37 k_14 k_1341) qX12_tell ⟨Nat.le_of_ble_eq_true rfl, Nat.le_of_ble_eq_true rfl⟩ ⟨Nat.le_refl _, Nat.le_refl _⟩ rfl hl.1 rfl (Nat.le_of_ble_eq_true rfl) dX12_fort_12 (fun H locs hP hS => ?_)
  exact m_iret hx hb hr hlocks hf hP hS dX12_fort_15
theorem qX12_fort : yX12_fort.cls = RX12 ∧ yX12_fort.cls ≠ "java/lang/invoke/MethodHandle" ∧ yX12_fort.cls ≠ "java/lang/invoke/VarHandle" ∧ (parseMethodDescriptor yX12_fort.desc).map (fun d => d.parameters.length) = some 2 := by decide +kernel
def fX12_of (a0 : Int32) (a1 : Int32) (st : St) : Option (Int32 × St) := lt (sI st 0 (0 : Int32)) (fun st1 => bd (fX12_isFort a0 st1) (fun r2 st3 => if r2 = 0 then (some ((-1 : Int32), st3)) else (if a1 = 0 then (gi ((13 : Int32) + a0) 5550 (some ((st3.2.2.1 3 ((13 : Int32) + a0).toNatClampNeg), st3))) else (if a1 = 1 then (gi ((31 : Int32) + a0) 5550 (some ((st3.2.2.1 3 ((31 : Int32) + a0).toNatClampNeg), st3))) else (if a1 = 2 then (gi ((19 : Int32) + a0) 5550 (some ((st3.2.2.1 3 ((19 : Int32) + a0).toNatClampNeg), st3))) else (if a1 = 3 then (gi ((25 : Int32) + a0) 5550 (some ((st3.2.2.1 3 ((25 : Int32) + a0).toNatClampNeg), st3))) else (if a1 = 4 then (gi ((19 : Int32) + a0) 5550 (bd (fX12_beliefBy a0 (st3.2.2.1 3 ((19 : Int32) + a0).toNatClampNeg) st3) (fun r4 st5 => some (r4.toInt32, st5)))) else (some ((-1 : Int32), st3)))))))))
set_option maxHeartbeats 4000000 in
set_option maxRecDepth 100000 in
theorem tX12_of (l : Launch) (D : va_G) (cy : Nat → ClassId) (ad : Nat → Nat) (hJ : (mads ad).Nodup) (sz : Nat) (a0 : Int32) (a1 : Int32) (st : St) (rr : Int32) (st' : St) (hf : fX12_of a0 a1 st = some (rr, st')) : Met l yX12_of (Cond.code yX12_of cX12_of 3 (some .int) :: TT) (rmD 2) (mPc D cy ad [.int a0, .int a1] st sz) (mQi D cy ad rr st' sz) 0 0 (mA ad sz) := by
  refine m_meti (by decide) hJ (Nat.le_of_ble_eq_true rfl) (fun p e s m args below meth c ls E hx hb hr hlocks hown hT hD hl hP hS => ?_)
  replace hl : lv_has ls 3 [(0, .ref (ad 100)), (1, .int a0), (2, .int a1)] := hl
  unfold fX12_of at hf
  refine lv_aload_n hx hb dX12_of_0 rfl (lv_at hl 0 rfl) ?_
  refine lv_iconst (v := 0) hx hb dX12_of_1 (by decide) ?_
  refine mp_0 E hD hP hS dX12_of_2 (fun st1 H locs ex hP hS => ?_)
  replace hf := lt_at ex hf; clear ex
  refine lv_aload_n hx hb dX12_of_5 rfl (lv_at hl 0 rfl) ?_
  refine lv_iload_n hx hb dX12_of_6 rfl (lv_at hl 1 rfl) ?_
  obtain ⟨r2, st3, hc, hf⟩ := bd_some hf
  refine m_calli (n := 1) (rest := []) E hP hS (fun sz => tX12_isFort l D cy ad hJ sz a0 st1 r2 st3 hc) (gV k_1371 k_1373 ks_40 k_14 k_1374) qX12_isFort ⟨Nat.le_of_ble_eq_true rfl, Nat.le_of_ble_eq_true rfl⟩ ⟨Nat.le_refl _, Nat.le_refl _⟩ rfl hl.1 rfl (Nat.le_of_ble_eq_true rfl) dX12_of_7 (fun H locs hP hS => ?_)
  refine lv_if_ne (tgt := 15) hx hb dX12_of_10 (by decide) (fun hc => ?_) (fun hc => ?_)
  · replace hf := it_neg hc hf
    refine lv_iload_n hx hb dX12_of_15 rfl (lv_at hl 2 rfl) ?_
    by_cases hq0 : a1 = 0
    · replace hf := it_pos hq0 hf
      rw [hq0]; refine lv_tableIn (tgt := 52) hx hb dX12_of_16 (by decide) (by decide) rfl (by decide) ?_
      refine lv_aload_n hx hb dX12_of_52 rfl (lv_at hl 0 rfl) ?_
      refine mg_3 E hP dX12_of_53 ?_
      refine lv_bipush (v := 13) hx hb dX12_of_56 (by decide) ?_
      refine lv_iload_n hx hb dX12_of_58 rfl (lv_at hl 1 rfl) ?_
      refine lv_iadd hx hb dX12_of_59 ?_
      obtain ⟨hi, hf⟩ := gi_some hf
      refine ml_3 E hP hi dX12_of_60 ?_
      exact m_iret hx hb hr hlocks hf hP hS dX12_of_61
    replace hf := it_neg hq0 hf
    by_cases hq1 : a1 = 1
    · replace hf := it_pos hq1 hf
      rw [hq1]; refine lv_tableIn (tgt := 62) hx hb dX12_of_16 (by decide) (by decide) rfl (by decide) ?_
      refine lv_aload_n hx hb dX12_of_62 rfl (lv_at hl 0 rfl) ?_
      refine mg_3 E hP dX12_of_63 ?_
      refine lv_bipush (v := 31) hx hb dX12_of_66 (by decide) ?_
      refine lv_iload_n hx hb dX12_of_68 rfl (lv_at hl 1 rfl) ?_
      refine lv_iadd hx hb dX12_of_69 ?_
      obtain ⟨hi, hf⟩ := gi_some hf
      refine ml_3 E hP hi dX12_of_70 ?_
      exact m_iret hx hb hr hlocks hf hP hS dX12_of_71
    replace hf := it_neg hq1 hf
    by_cases hq2 : a1 = 2
    · replace hf := it_pos hq2 hf
      rw [hq2]; refine lv_tableIn (tgt := 72) hx hb dX12_of_16 (by decide) (by decide) rfl (by decide) ?_
      refine lv_aload_n hx hb dX12_of_72 rfl (lv_at hl 0 rfl) ?_
      refine mg_3 E hP dX12_of_73 ?_
      refine lv_bipush (v := 19) hx hb dX12_of_76 (by decide) ?_
      refine lv_iload_n hx hb dX12_of_78 rfl (lv_at hl 1 rfl) ?_
      refine lv_iadd hx hb dX12_of_79 ?_
      obtain ⟨hi, hf⟩ := gi_some hf
      refine ml_3 E hP hi dX12_of_80 ?_
      exact m_iret hx hb hr hlocks hf hP hS dX12_of_81
    replace hf := it_neg hq2 hf
    by_cases hq3 : a1 = 3
    · replace hf := it_pos hq3 hf
      rw [hq3]; refine lv_tableIn (tgt := 82) hx hb dX12_of_16 (by decide) (by decide) rfl (by decide) ?_
      refine lv_aload_n hx hb dX12_of_82 rfl (lv_at hl 0 rfl) ?_
      refine mg_3 E hP dX12_of_83 ?_
      refine lv_bipush (v := 25) hx hb dX12_of_86 (by decide) ?_
      refine lv_iload_n hx hb dX12_of_88 rfl (lv_at hl 1 rfl) ?_
      refine lv_iadd hx hb dX12_of_89 ?_
      obtain ⟨hi, hf⟩ := gi_some hf
      refine ml_3 E hP hi dX12_of_90 ?_
      exact m_iret hx hb hr hlocks hf hP hS dX12_of_91
    replace hf := it_neg hq3 hf
    by_cases hq4 : a1 = 4
    · replace hf := it_pos hq4 hf
      rw [hq4]; refine lv_tableIn (tgt := 92) hx hb dX12_of_16 (by decide) (by decide) rfl (by decide) ?_
      refine lv_aload_n hx hb dX12_of_92 rfl (lv_at hl 0 rfl) ?_
      refine lv_iload_n hx hb dX12_of_93 rfl (lv_at hl 1 rfl) ?_
      refine lv_aload_n hx hb dX12_of_94 rfl (lv_at hl 0 rfl) ?_
      refine mg_3 E hP dX12_of_95 ?_
      refine lv_bipush (v := 19) hx hb dX12_of_98 (by decide) ?_
      refine lv_iload_n hx hb dX12_of_100 rfl (lv_at hl 1 rfl) ?_
      refine lv_iadd hx hb dX12_of_101 ?_
      obtain ⟨hi, hf⟩ := gi_some hf
      refine ml_3 E hP hi dX12_of_102 ?_
      obtain ⟨r4, st5, hc, hf⟩ := bd_some hf
      refine m_calll (n := 2) (rest := []) E hP hS (fun sz => tX12_beliefBy l D cy ad hJ sz a0 (st3.2.2.1 3 ((19 : Int32) + a0).toNatClampNeg) st3 r4 st5 hc) (gV k_1375 k_1377 ks_41 k_14 k_1378) qX12_beliefBy ⟨Nat.le_of_ble_eq_true rfl, Nat.le_of_ble_eq_true rfl⟩ ⟨Nat.le_refl _, Nat.le_refl _⟩ rfl hl.1 rfl (Nat.le_of_ble_eq_true rfl) dX12_of_103 (fun H locs hP hS => ?_)
      refine lv_l2i (v := r4.toInt32) hx hb dX12_of_106 rfl ?_
      exact m_iret hx hb hr hlocks hf hP hS dX12_of_107
    replace hf := it_neg hq4 hf
    refine lv_tableOut (tgt := 108) hx hb dX12_of_16 (tb_out (lo := 0) (hi := 4) (fun k h1 h2 he => ?_)) (by decide) ?_
    · have h3 : k = 0 ∨ k = 1 ∨ k = 2 ∨ k = 3 ∨ k = 4 := by omega
      rcases h3 with rfl | rfl | rfl | rfl | rfl
      · exact hq0 he
      · exact hq1 he
      · exact hq2 he
      · exact hq3 he
      · exact hq4 he
    · refine lv_iconst (v := -1) hx hb dX12_of_108 (by decide) ?_
      exact m_iret hx hb hr hlocks hf hP hS dX12_of_109
  · replace hf := it_pos hc hf
    refine lv_iconst (v := -1) hx hb dX12_of_13 (by decide) ?_
    exact m_iret hx hb hr hlocks hf hP hS dX12_of_14
theorem qX12_of : yX12_of.cls = RX12 ∧ yX12_of.cls ≠ "java/lang/invoke/MethodHandle" ∧ yX12_of.cls ≠ "java/lang/invoke/VarHandle" ∧ (parseMethodDescriptor yX12_of.desc).map (fun d => d.parameters.length) = some 2 := by decide +kernel
def fX12_sign_b47 (st : St) : Option (Int32 × St) := bd (fX12_tell (-1 : Int32) st) (fun r1 st2 => some (r1, st2))
def fX12_sign_b80 (v1 : Int32) (v3 : Int32) (w0 : Int32) (st : St) : Option (Int32 × St) := bd (fX12_change (w0 + v1) v3 st) (fun r3 st4 => some (r3, st4))
def fX12_sign_b41 (v1 : Int32) (v2 : Int32) (v3 : Int32) (w0 : Int64) (w1 : Int64) (w2 : Int64) (st : St) : Option (Int32 × St) := bs (fX12_in w2 w1 w0) (fun r5 => if r5 = 0 then (fX12_sign_b47 st) else (lt (sI st 8 (0 : Int32)) (fun st6 => if v2 = 0 then (fX12_sign_b80 v1 v3 (37 : Int32) st6) else (if v2 = (1 : Int32) then (fX12_sign_b80 v1 v3 (43 : Int32) st6) else (fX12_sign_b80 v1 v3 (49 : Int32) st6)))))
def fX12_sign (a0 : Int32) (a1 : Int32) (a2 : Int32) (st : St) : Option (Int32 × St) := lt (sI st 0 (0 : Int32)) (fun st7 => bs (fX12_isOne a0) (fun r8 => if r8 = 0 then (fX12_sign_b47 st7) else (bs (fX12_in (a1.toInt64) (0 : Int64) (2 : Int64)) (fun r9 => if r9 = 0 then (fX12_sign_b47 st7) else (if a1 = (2 : Int32) then (fX12_sign_b41 a0 a1 a2 (99 : Int64) (0 : Int64) (a2.toInt64) st7) else (fX12_sign_b41 a0 a1 a2 (10 : Int64) (0 : Int64) (a2.toInt64) st7))))))
set_option maxHeartbeats 4000000 in
set_option maxRecDepth 100000 in
theorem tX12_sign (l : Launch) (D : va_G) (cy : Nat → ClassId) (ad : Nat → Nat) (hJ : (mads ad).Nodup) (sz : Nat) (a0 : Int32) (a1 : Int32) (a2 : Int32) (st : St) (rr : Int32) (st' : St) (hf : fX12_sign a0 a1 a2 st = some (rr, st')) : Met l yX12_sign (Cond.code yX12_sign cX12_sign 4 (some .int) :: TT) (rmD 2) (mPc D cy ad [.int a0, .int a1, .int a2] st sz) (mQi D cy ad rr st' sz) 0 0 (mA ad sz) := by
  refine m_meti (by decide) hJ (Nat.le_of_ble_eq_true rfl) (fun p e s m args below meth c ls E hx hb hr hlocks hown hT hD hl hP hS => ?_)
  replace hl : lv_has ls 4 [(0, .ref (ad 100)), (1, .int a0), (2, .int a1), (3, .int a2)] := hl
  unfold fX12_sign at hf
  have B47 : ∀ (st : St) (H : Heap) (locs : List Loc) (ls : Array Slot), fX12_sign_b47 st = some (rr, st') → lv_has ls 4 [(0, .ref (ad 100))] → va_P D classes (mw cy ad st) H → va_S (mA ad s.heap.size) s.heap H locs → mGi l 2 D cy ad rr st' p e s m args below meth c H locs (F0 m 47 ls []) := by
    intro st H locs ls hf hl hP hS
    unfold fX12_sign_b47 at hf
    refine lv_aload_n hx hb dX12_sign_47 rfl (lv_at hl 0 rfl) ?_
    refine lv_iconst (v := -1) hx hb dX12_sign_48 (by decide) ?_
    obtain ⟨r1, st2, hc, hf⟩ := bd_some hf
    refine m_calli (n := 1) (rest := []) E hP hS (fun sz => tX12_tell l D cy ad hJ sz (-1 : Int32) st r1 st2 hc) (gV k_1338 k_1340 ks_37 k_14 k_1341) qX12_tell ⟨Nat.le_of_ble_eq_true rfl, Nat.le_of_ble_eq_true rfl⟩ ⟨Nat.le_refl _, Nat.le_refl _⟩ rfl hl.1 rfl (Nat.le_of_ble_eq_true rfl) dX12_sign_49 (fun H locs hP hS => ?_)
    exact m_iret hx hb hr hlocks hf hP hS dX12_sign_52
  have B80 : ∀ (v1 : Int32) (v3 : Int32) (w0 : Int32) (st : St) (H : Heap) (locs : List Loc) (ls : Array Slot), fX12_sign_b80 v1 v3 w0 st = some (rr, st') → lv_has ls 4 [(1, .int v1), (3, .int v3)] → va_P D classes (mw cy ad st) H → va_S (mA ad s.heap.size) s.heap H locs → mGi l 2 D cy ad rr st' p e s m args below meth c H locs (F0 m 80 ls [.int w0, .ref (ad 100)]) := by
    intro v1 v3 w0 st H locs ls hf hl hP hS
    unfold fX12_sign_b80 at hf
    refine lv_iload_n hx hb dX12_sign_80 rfl (lv_at hl 0 rfl) ?_
    refine lv_iadd hx hb dX12_sign_81 ?_
    refine lv_iload_n hx hb dX12_sign_82 rfl (lv_at hl 1 rfl) ?_
    obtain ⟨r3, st4, hc, hf⟩ := bd_some hf
    refine m_calli (n := 2) (rest := []) E hP hS (fun sz => tX12_change l D cy ad hJ sz (w0 + v1) v3 st r3 st4 hc) (gV k_1399 k_1401 ks_43 k_14 k_1402) qX12_change ⟨Nat.le_of_ble_eq_true rfl, Nat.le_of_ble_eq_true rfl⟩ ⟨Nat.le_refl _, Nat.le_refl _⟩ rfl hl.1 rfl (Nat.le_of_ble_eq_true rfl) dX12_sign_83 (fun H locs hP hS => ?_)
    exact m_iret hx hb hr hlocks hf hP hS dX12_sign_86
  have B41 : ∀ (v1 : Int32) (v2 : Int32) (v3 : Int32) (w0 : Int64) (w1 : Int64) (w2 : Int64) (st : St) (H : Heap) (locs : List Loc) (ls : Array Slot), fX12_sign_b41 v1 v2 v3 w0 w1 w2 st = some (rr, st') → lv_has ls 4 [(0, .ref (ad 100)), (1, .int v1), (2, .int v2), (3, .int v3)] → va_P D classes (mw cy ad st) H → va_S (mA ad s.heap.size) s.heap H locs → mGi l 2 D cy ad rr st' p e s m args below meth c H locs (F0 m 41 ls [.long w0, .long w1, .long w2]) := by
    intro v1 v2 v3 w0 w1 w2 st H locs ls hf hl hP hS
    unfold fX12_sign_b41 at hf
    obtain ⟨r5, hc, hf⟩ := bs_some hf
    refine s_calli (n := 3) (rest := []) E.1 (tX12_in l _ w2 w1 w0 r5 hc) (gS k_1350 k_1351 k_14 k_1352) qX12_in ⟨Nat.le_of_ble_eq_true rfl, Nat.le_of_ble_eq_true rfl⟩ ⟨Nat.le_refl _, Nat.le_refl _⟩ rfl hl.1 rfl (Nat.le_of_ble_eq_true rfl) dX12_sign_41 ?_
    refine lv_if_ne (tgt := 53) hx hb dX12_sign_44 (by decide) (fun hc => ?_) (fun hc => ?_)
    · replace hf := it_neg hc hf
      refine lv_aload_n hx hb dX12_sign_53 rfl (lv_at hl 0 rfl) ?_
      refine lv_iconst (v := 0) hx hb dX12_sign_54 (by decide) ?_
      refine mp_8 E hD hP hS dX12_sign_55 (fun st6 H locs ex hP hS => ?_)
      replace hf := lt_at ex hf; clear ex
      refine lv_aload_n hx hb dX12_sign_58 rfl (lv_at hl 0 rfl) ?_
      refine lv_iload_n hx hb dX12_sign_59 rfl (lv_at hl 2 rfl) ?_
      refine lv_if_ne (tgt := 68) hx hb dX12_sign_60 (by decide) (fun hc => ?_) (fun hc => ?_)
      · replace hf := it_neg hc hf
        refine lv_iload_n hx hb dX12_sign_68 rfl (lv_at hl 2 rfl) ?_
        refine lv_iconst (v := 1) hx hb dX12_sign_69 (by decide) ?_
        refine lv_icmp_ne (tgt := 78) hx hb dX12_sign_70 (by decide) (fun hc => ?_) (fun hc => ?_)
        · replace hf := it_neg hc hf
          refine lv_bipush (v := 49) hx hb dX12_sign_78 (by decide) ?_
          exact B80 v1 v3 (49 : Int32) st6 _ _ ls hf (lv_sub hl [1, 3] rfl) hP hS
        · replace hf := it_pos hc hf
          refine lv_bipush (v := 43) hx hb dX12_sign_73 (by decide) ?_
          refine lv_goto (tgt := 80) hx hb dX12_sign_75 (by decide) ?_
          exact B80 v1 v3 (43 : Int32) st6 _ _ ls hf (lv_sub hl [1, 3] rfl) hP hS
      · replace hf := it_pos hc hf
        refine lv_bipush (v := 37) hx hb dX12_sign_63 (by decide) ?_
        refine lv_goto (tgt := 80) hx hb dX12_sign_65 (by decide) ?_
        exact B80 v1 v3 (37 : Int32) st6 _ _ ls hf (lv_sub hl [1, 3] rfl) hP hS
    · replace hf := it_pos hc hf
      exact B47 st _ _ ls hf (lv_sub hl [0] rfl) hP hS
  refine lv_aload_n hx hb dX12_sign_0 rfl (lv_at hl 0 rfl) ?_
  refine lv_iconst (v := 0) hx hb dX12_sign_1 (by decide) ?_
  refine mp_0 E hD hP hS dX12_sign_2 (fun st7 H locs ex hP hS => ?_)
  replace hf := lt_at ex hf; clear ex
  refine lv_iload_n hx hb dX12_sign_5 rfl (lv_at hl 1 rfl) ?_
  obtain ⟨r8, hc, hf⟩ := bs_some hf
  refine s_calli (n := 1) (rest := []) E.1 (tX12_isOne l _ a0 r8 hc) (gS k_1393 k_1394 k_14 k_1395) qX12_isOne ⟨Nat.le_of_ble_eq_true rfl, Nat.le_of_ble_eq_true rfl⟩ ⟨Nat.le_refl _, Nat.le_refl _⟩ rfl hl.1 rfl (Nat.le_of_ble_eq_true rfl) dX12_sign_6 ?_
  refine lv_if_eq (tgt := 47) hx hb dX12_sign_9 (by decide) (fun hc => ?_) (fun hc => ?_)
  · replace hf := it_pos hc hf
    exact B47 st7 _ _ ls hf (lv_sub hl [0] rfl) hP hS
  · replace hf := it_neg hc hf
    refine lv_iload_n hx hb dX12_sign_12 rfl (lv_at hl 2 rfl) ?_
    refine lv_i2l (v := a1.toInt64) hx hb dX12_sign_13 rfl ?_
    refine lv_lconst (v := 0) hx hb dX12_sign_14 (by decide) ?_
    refine lv_ldc2 (v := 2) hx hb hown (hT _ k_1397) dX12_sign_15 ?_
    obtain ⟨r9, hc, hf⟩ := bs_some hf
    refine s_calli (n := 3) (rest := []) E.1 (tX12_in l _ (a1.toInt64) (0 : Int64) (2 : Int64) r9 hc) (gS k_1350 k_1351 k_14 k_1352) qX12_in ⟨Nat.le_of_ble_eq_true rfl, Nat.le_of_ble_eq_true rfl⟩ ⟨Nat.le_refl _, Nat.le_refl _⟩ rfl hl.1 rfl (Nat.le_of_ble_eq_true rfl) dX12_sign_18 ?_
    refine lv_if_eq (tgt := 47) hx hb dX12_sign_21 (by decide) (fun hc => ?_) (fun hc => ?_)
    · replace hf := it_pos hc hf
      exact B47 st7 _ _ ls hf (lv_sub hl [0] rfl) hP hS
    · replace hf := it_neg hc hf
      refine lv_iload_n hx hb dX12_sign_24 rfl (lv_at hl 3 rfl) ?_
      refine lv_i2l (v := a2.toInt64) hx hb dX12_sign_25 rfl ?_
      refine lv_lconst (v := 0) hx hb dX12_sign_26 (by decide) ?_
      refine lv_iload_n hx hb dX12_sign_27 rfl (lv_at hl 2 rfl) ?_
      refine lv_iconst (v := 2) hx hb dX12_sign_28 (by decide) ?_
      refine lv_icmp_ne (tgt := 38) hx hb dX12_sign_29 (by decide) (fun hc => ?_) (fun hc => ?_)
      · replace hf := it_neg hc hf
        refine lv_ldc2 (v := 10) hx hb hown (hT _ k_1398) dX12_sign_38 ?_
        exact B41 a0 a1 a2 (10 : Int64) (0 : Int64) (a2.toInt64) st7 _ _ ls hf hl hP hS
      · replace hf := it_pos hc hf
        refine lv_ldc2 (v := 99) hx hb hown (hT _ k_1365) dX12_sign_32 ?_
        refine lv_goto (tgt := 41) hx hb dX12_sign_35 (by decide) ?_
        exact B41 a0 a1 a2 (99 : Int64) (0 : Int64) (a2.toInt64) st7 _ _ ls hf hl hP hS
theorem qX12_sign : yX12_sign.cls = RX12 ∧ yX12_sign.cls ≠ "java/lang/invoke/MethodHandle" ∧ yX12_sign.cls ≠ "java/lang/invoke/VarHandle" ∧ (parseMethodDescriptor yX12_sign.desc).map (fun d => d.parameters.length) = some 3 := by decide +kernel
def fX12_road_b22 (st : St) : Option (Int32 × St) := bd (fX12_tell (-1 : Int32) st) (fun r1 st2 => some (r1, st2))
def fX12_road_b44 (st : St) : Option (Int32 × St) := bd (fX12_tell (-2 : Int32) st) (fun r3 st4 => some (r3, st4))
def fX12_road (a0 : Int32) (a1 : Int32) (a2 : Int32) (st : St) : Option (Int32 × St) := lt (sI st 0 (0 : Int32)) (fun st5 => if a0 = a1 then (fX12_road_b22 st5) else (bs (fX12_in (a2.toInt64) (0 : Int64) (99 : Int64)) (fun r6 => if r6 = 0 then (fX12_road_b22 st5) else (bd (fX12_isFort a0 st5) (fun r7 st8 => if r7 = 0 then (fX12_road_b44 st8) else (bd (fX12_isFort a1 st8) (fun r9 st10 => if r9 = 0 then (fX12_road_b44 st10) else (gi (((55 : Int32) + ((6 : Int32) * a1)) + a0) 5550 (lt (sA st10 3 (upd (st10.2.2.1 3) (((55 : Int32) + ((6 : Int32) * a1)) + a0).toNatClampNeg a2)) (fun st11 => bd (fX12_change (((55 : Int32) + ((6 : Int32) * a0)) + a1) a2 st11) (fun r12 st13 => some (r12, st13))))))))))))
set_option maxHeartbeats 4000000 in
set_option maxRecDepth 100000 in
theorem tX12_road (l : Launch) (D : va_G) (cy : Nat → ClassId) (ad : Nat → Nat) (hJ : (mads ad).Nodup) (sz : Nat) (a0 : Int32) (a1 : Int32) (a2 : Int32) (st : St) (rr : Int32) (st' : St) (hf : fX12_road a0 a1 a2 st = some (rr, st')) : Met l yX12_road (Cond.code yX12_road cX12_road 4 (some .int) :: TT) (rmD 2) (mPc D cy ad [.int a0, .int a1, .int a2] st sz) (mQi D cy ad rr st' sz) 0 0 (mA ad sz) := by
  refine m_meti (by decide) hJ (Nat.le_of_ble_eq_true rfl) (fun p e s m args below meth c ls E hx hb hr hlocks hown hT hD hl hP hS => ?_)
  replace hl : lv_has ls 4 [(0, .ref (ad 100)), (1, .int a0), (2, .int a1), (3, .int a2)] := hl
  unfold fX12_road at hf
  have B22 : ∀ (st : St) (H : Heap) (locs : List Loc) (ls : Array Slot), fX12_road_b22 st = some (rr, st') → lv_has ls 4 [(0, .ref (ad 100))] → va_P D classes (mw cy ad st) H → va_S (mA ad s.heap.size) s.heap H locs → mGi l 2 D cy ad rr st' p e s m args below meth c H locs (F0 m 22 ls []) := by
    intro st H locs ls hf hl hP hS
    unfold fX12_road_b22 at hf
    refine lv_aload_n hx hb dX12_road_22 rfl (lv_at hl 0 rfl) ?_
    refine lv_iconst (v := -1) hx hb dX12_road_23 (by decide) ?_
    obtain ⟨r1, st2, hc, hf⟩ := bd_some hf
    refine m_calli (n := 1) (rest := []) E hP hS (fun sz => tX12_tell l D cy ad hJ sz (-1 : Int32) st r1 st2 hc) (gV k_1338 k_1340 ks_37 k_14 k_1341) qX12_tell ⟨Nat.le_of_ble_eq_true rfl, Nat.le_of_ble_eq_true rfl⟩ ⟨Nat.le_refl _, Nat.le_refl _⟩ rfl hl.1 rfl (Nat.le_of_ble_eq_true rfl) dX12_road_24 (fun H locs hP hS => ?_)
    exact m_iret hx hb hr hlocks hf hP hS dX12_road_27
  have B44 : ∀ (st : St) (H : Heap) (locs : List Loc) (ls : Array Slot), fX12_road_b44 st = some (rr, st') → lv_has ls 4 [(0, .ref (ad 100))] → va_P D classes (mw cy ad st) H → va_S (mA ad s.heap.size) s.heap H locs → mGi l 2 D cy ad rr st' p e s m args below meth c H locs (F0 m 44 ls []) := by
    intro st H locs ls hf hl hP hS
    unfold fX12_road_b44 at hf
    refine lv_aload_n hx hb dX12_road_44 rfl (lv_at hl 0 rfl) ?_
    refine lv_bipush (v := -2) hx hb dX12_road_45 (by decide) ?_
    obtain ⟨r3, st4, hc, hf⟩ := bd_some hf
    refine m_calli (n := 1) (rest := []) E hP hS (fun sz => tX12_tell l D cy ad hJ sz (-2 : Int32) st r3 st4 hc) (gV k_1338 k_1340 ks_37 k_14 k_1341) qX12_tell ⟨Nat.le_of_ble_eq_true rfl, Nat.le_of_ble_eq_true rfl⟩ ⟨Nat.le_refl _, Nat.le_refl _⟩ rfl hl.1 rfl (Nat.le_of_ble_eq_true rfl) dX12_road_47 (fun H locs hP hS => ?_)
    exact m_iret hx hb hr hlocks hf hP hS dX12_road_50
  refine lv_aload_n hx hb dX12_road_0 rfl (lv_at hl 0 rfl) ?_
  refine lv_iconst (v := 0) hx hb dX12_road_1 (by decide) ?_
  refine mp_0 E hD hP hS dX12_road_2 (fun st5 H locs ex hP hS => ?_)
  replace hf := lt_at ex hf; clear ex
  refine lv_iload_n hx hb dX12_road_5 rfl (lv_at hl 1 rfl) ?_
  refine lv_iload_n hx hb dX12_road_6 rfl (lv_at hl 2 rfl) ?_
  refine lv_icmp_eq (tgt := 22) hx hb dX12_road_7 (by decide) (fun hc => ?_) (fun hc => ?_)
  · replace hf := it_pos hc hf
    exact B22 st5 _ _ ls hf (lv_sub hl [0] rfl) hP hS
  · replace hf := it_neg hc hf
    refine lv_iload_n hx hb dX12_road_10 rfl (lv_at hl 3 rfl) ?_
    refine lv_i2l (v := a2.toInt64) hx hb dX12_road_11 rfl ?_
    refine lv_lconst (v := 0) hx hb dX12_road_12 (by decide) ?_
    refine lv_ldc2 (v := 99) hx hb hown (hT _ k_1365) dX12_road_13 ?_
    obtain ⟨r6, hc, hf⟩ := bs_some hf
    refine s_calli (n := 3) (rest := []) E.1 (tX12_in l _ (a2.toInt64) (0 : Int64) (99 : Int64) r6 hc) (gS k_1350 k_1351 k_14 k_1352) qX12_in ⟨Nat.le_of_ble_eq_true rfl, Nat.le_of_ble_eq_true rfl⟩ ⟨Nat.le_refl _, Nat.le_refl _⟩ rfl hl.1 rfl (Nat.le_of_ble_eq_true rfl) dX12_road_16 ?_
    refine lv_if_ne (tgt := 28) hx hb dX12_road_19 (by decide) (fun hc => ?_) (fun hc => ?_)
    · replace hf := it_neg hc hf
      refine lv_aload_n hx hb dX12_road_28 rfl (lv_at hl 0 rfl) ?_
      refine lv_iload_n hx hb dX12_road_29 rfl (lv_at hl 1 rfl) ?_
      obtain ⟨r7, st8, hc, hf⟩ := bd_some hf
      refine m_calli (n := 1) (rest := []) E hP hS (fun sz => tX12_isFort l D cy ad hJ sz a0 st5 r7 st8 hc) (gV k_1371 k_1373 ks_40 k_14 k_1374) qX12_isFort ⟨Nat.le_of_ble_eq_true rfl, Nat.le_of_ble_eq_true rfl⟩ ⟨Nat.le_refl _, Nat.le_refl _⟩ rfl hl.1 rfl (Nat.le_of_ble_eq_true rfl) dX12_road_30 (fun H locs hP hS => ?_)
      refine lv_if_eq (tgt := 44) hx hb dX12_road_33 (by decide) (fun hc => ?_) (fun hc => ?_)
      · replace hf := it_pos hc hf
        exact B44 st8 _ _ ls hf (lv_sub hl [0] rfl) hP hS
      · replace hf := it_neg hc hf
        refine lv_aload_n hx hb dX12_road_36 rfl (lv_at hl 0 rfl) ?_
        refine lv_iload_n hx hb dX12_road_37 rfl (lv_at hl 2 rfl) ?_
        obtain ⟨r9, st10, hc, hf⟩ := bd_some hf
        refine m_calli (n := 1) (rest := []) E hP hS (fun sz => tX12_isFort l D cy ad hJ sz a1 st8 r9 st10 hc) (gV k_1371 k_1373 ks_40 k_14 k_1374) qX12_isFort ⟨Nat.le_of_ble_eq_true rfl, Nat.le_of_ble_eq_true rfl⟩ ⟨Nat.le_refl _, Nat.le_refl _⟩ rfl hl.1 rfl (Nat.le_of_ble_eq_true rfl) dX12_road_38 (fun H locs hP hS => ?_)
        refine lv_if_ne (tgt := 51) hx hb dX12_road_41 (by decide) (fun hc => ?_) (fun hc => ?_)
        · replace hf := it_neg hc hf
          refine lv_aload_n hx hb dX12_road_51 rfl (lv_at hl 0 rfl) ?_
          refine mg_3 E hP dX12_road_52 ?_
          refine lv_bipush (v := 55) hx hb dX12_road_55 (by decide) ?_
          refine lv_bipush (v := 6) hx hb dX12_road_57 (by decide) ?_
          refine lv_iload_n hx hb dX12_road_59 rfl (lv_at hl 2 rfl) ?_
          refine lv_imul hx hb dX12_road_60 ?_
          refine lv_iadd hx hb dX12_road_61 ?_
          refine lv_iload_n hx hb dX12_road_62 rfl (lv_at hl 1 rfl) ?_
          refine lv_iadd hx hb dX12_road_63 ?_
          refine lv_iload_n hx hb dX12_road_64 rfl (lv_at hl 3 rfl) ?_
          obtain ⟨hi, hf⟩ := gi_some hf
          refine ms_3 E hD hP hS hi dX12_road_65 (fun st11 H locs ex hP hS => ?_)
          replace hf := lt_at ex hf; clear ex
          refine lv_aload_n hx hb dX12_road_66 rfl (lv_at hl 0 rfl) ?_
          refine lv_bipush (v := 55) hx hb dX12_road_67 (by decide) ?_
          refine lv_bipush (v := 6) hx hb dX12_road_69 (by decide) ?_
          refine lv_iload_n hx hb dX12_road_71 rfl (lv_at hl 1 rfl) ?_
          refine lv_imul hx hb dX12_road_72 ?_
          refine lv_iadd hx hb dX12_road_73 ?_
          refine lv_iload_n hx hb dX12_road_74 rfl (lv_at hl 2 rfl) ?_
          refine lv_iadd hx hb dX12_road_75 ?_
          refine lv_iload_n hx hb dX12_road_76 rfl (lv_at hl 3 rfl) ?_
          obtain ⟨r12, st13, hc, hf⟩ := bd_some hf
          refine m_calli (n := 2) (rest := []) E hP hS (fun sz => tX12_change l D cy ad hJ sz (((55 : Int32) + ((6 : Int32) * a0)) + a1) a2 st11 r12 st13 hc) (gV k_1399 k_1401 ks_43 k_14 k_1402) qX12_change ⟨Nat.le_of_ble_eq_true rfl, Nat.le_of_ble_eq_true rfl⟩ ⟨Nat.le_refl _, Nat.le_refl _⟩ rfl hl.1 rfl (Nat.le_of_ble_eq_true rfl) dX12_road_77 (fun H locs hP hS => ?_)
          exact m_iret hx hb hr hlocks hf hP hS dX12_road_80
        · replace hf := it_pos hc hf
          exact B44 st10 _ _ ls hf (lv_sub hl [0] rfl) hP hS
    · replace hf := it_pos hc hf
      exact B22 st5 _ _ ls hf (lv_sub hl [0] rfl) hP hS
theorem qX12_road : yX12_road.cls = RX12 ∧ yX12_road.cls ≠ "java/lang/invoke/MethodHandle" ∧ yX12_road.cls ≠ "java/lang/invoke/VarHandle" ∧ (parseMethodDescriptor yX12_road.desc).map (fun d => d.parameters.length) = some 3 := by decide +kernel
def fX12_fame_b29 (st : St) : Option (Int32 × St) := bd (fX12_tell (-1 : Int32) st) (fun r1 st2 => some (r1, st2))
def fX12_fame (a0 : Int32) (a1 : Int32) (st : St) : Option (Int32 × St) := lt (sI st 0 (0 : Int32)) (fun st3 => bs (fX12_in (a0.toInt64) (0 : Int64) (3 : Int64)) (fun r4 => if r4 = 0 then (fX12_fame_b29 st3) else (bs (fX12_in (a1.toInt64) (0 : Int64) (100 : Int64)) (fun r5 => if r5 = 0 then (fX12_fame_b29 st3) else (lt (sI st3 8 (0 : Int32)) (fun st6 => bd (fX12_change ((9 : Int32) + a0) a1 st6) (fun r7 st8 => some (r7, st8))))))))
set_option maxHeartbeats 4000000 in
set_option maxRecDepth 100000 in
theorem tX12_fame (l : Launch) (D : va_G) (cy : Nat → ClassId) (ad : Nat → Nat) (hJ : (mads ad).Nodup) (sz : Nat) (a0 : Int32) (a1 : Int32) (st : St) (rr : Int32) (st' : St) (hf : fX12_fame a0 a1 st = some (rr, st')) : Met l yX12_fame (Cond.code yX12_fame cX12_fame 3 (some .int) :: TT) (rmD 1) (mPc D cy ad [.int a0, .int a1] st sz) (mQi D cy ad rr st' sz) 0 0 (mA ad sz) := by
  refine m_meti (by decide) hJ (Nat.le_of_ble_eq_true rfl) (fun p e s m args below meth c ls E hx hb hr hlocks hown hT hD hl hP hS => ?_)
  replace hl : lv_has ls 3 [(0, .ref (ad 100)), (1, .int a0), (2, .int a1)] := hl
  unfold fX12_fame at hf
  have B29 : ∀ (st : St) (H : Heap) (locs : List Loc) (ls : Array Slot), fX12_fame_b29 st = some (rr, st') → lv_has ls 3 [(0, .ref (ad 100))] → va_P D classes (mw cy ad st) H → va_S (mA ad s.heap.size) s.heap H locs → mGi l 1 D cy ad rr st' p e s m args below meth c H locs (F0 m 29 ls []) := by
    intro st H locs ls hf hl hP hS
    unfold fX12_fame_b29 at hf
    refine lv_aload_n hx hb dX12_fame_29 rfl (lv_at hl 0 rfl) ?_
    refine lv_iconst (v := -1) hx hb dX12_fame_30 (by decide) ?_
    obtain ⟨r1, st2, hc, hf⟩ := bd_some hf
    refine m_calli (n := 1) (rest := []) E hP hS (fun sz => tX12_tell l D cy ad hJ sz (-1 : Int32) st r1 st2 hc) (gV k_1338 k_1340 ks_37 k_14 k_1341) qX12_tell ⟨Nat.le_of_ble_eq_true rfl, Nat.le_of_ble_eq_true rfl⟩ ⟨Nat.le_refl _, Nat.le_refl _⟩ rfl hl.1 rfl (Nat.le_of_ble_eq_true rfl) dX12_fame_31 (fun H locs hP hS => ?_)
    exact m_iret hx hb hr hlocks hf hP hS dX12_fame_34
  refine lv_aload_n hx hb dX12_fame_0 rfl (lv_at hl 0 rfl) ?_
  refine lv_iconst (v := 0) hx hb dX12_fame_1 (by decide) ?_
  refine mp_0 E hD hP hS dX12_fame_2 (fun st3 H locs ex hP hS => ?_)
  replace hf := lt_at ex hf; clear ex
  refine lv_iload_n hx hb dX12_fame_5 rfl (lv_at hl 1 rfl) ?_
  refine lv_i2l (v := a0.toInt64) hx hb dX12_fame_6 rfl ?_
  refine lv_lconst (v := 0) hx hb dX12_fame_7 (by decide) ?_
  refine lv_ldc2 (v := 3) hx hb hown (hT _ k_1366) dX12_fame_8 ?_
  obtain ⟨r4, hc, hf⟩ := bs_some hf
  refine s_calli (n := 3) (rest := []) E.1 (tX12_in l _ (a0.toInt64) (0 : Int64) (3 : Int64) r4 hc) (gS k_1350 k_1351 k_14 k_1352) qX12_in ⟨Nat.le_of_ble_eq_true rfl, Nat.le_of_ble_eq_true rfl⟩ ⟨Nat.le_refl _, Nat.le_refl _⟩ rfl hl.1 rfl (Nat.le_of_ble_eq_true rfl) dX12_fame_11 ?_
  refine lv_if_eq (tgt := 29) hx hb dX12_fame_14 (by decide) (fun hc => ?_) (fun hc => ?_)
  · replace hf := it_pos hc hf
    exact B29 st3 _ _ ls hf (lv_sub hl [0] rfl) hP hS
  · replace hf := it_neg hc hf
    refine lv_iload_n hx hb dX12_fame_17 rfl (lv_at hl 2 rfl) ?_
    refine lv_i2l (v := a1.toInt64) hx hb dX12_fame_18 rfl ?_
    refine lv_lconst (v := 0) hx hb dX12_fame_19 (by decide) ?_
    refine lv_ldc2 (v := 100) hx hb hown (hT _ k_1388) dX12_fame_20 ?_
    obtain ⟨r5, hc, hf⟩ := bs_some hf
    refine s_calli (n := 3) (rest := []) E.1 (tX12_in l _ (a1.toInt64) (0 : Int64) (100 : Int64) r5 hc) (gS k_1350 k_1351 k_14 k_1352) qX12_in ⟨Nat.le_of_ble_eq_true rfl, Nat.le_of_ble_eq_true rfl⟩ ⟨Nat.le_refl _, Nat.le_refl _⟩ rfl hl.1 rfl (Nat.le_of_ble_eq_true rfl) dX12_fame_23 ?_
    refine lv_if_ne (tgt := 35) hx hb dX12_fame_26 (by decide) (fun hc => ?_) (fun hc => ?_)
    · replace hf := it_neg hc hf
      refine lv_aload_n hx hb dX12_fame_35 rfl (lv_at hl 0 rfl) ?_
      refine lv_iconst (v := 0) hx hb dX12_fame_36 (by decide) ?_
      refine mp_8 E hD hP hS dX12_fame_37 (fun st6 H locs ex hP hS => ?_)
      replace hf := lt_at ex hf; clear ex
      refine lv_aload_n hx hb dX12_fame_40 rfl (lv_at hl 0 rfl) ?_
      refine lv_bipush (v := 9) hx hb dX12_fame_41 (by decide) ?_
      refine lv_iload_n hx hb dX12_fame_43 rfl (lv_at hl 1 rfl) ?_
      refine lv_iadd hx hb dX12_fame_44 ?_
      refine lv_iload_n hx hb dX12_fame_45 rfl (lv_at hl 2 rfl) ?_
      obtain ⟨r7, st8, hc, hf⟩ := bd_some hf
      refine m_calli (n := 2) (rest := []) E hP hS (fun sz => tX12_change l D cy ad hJ sz ((9 : Int32) + a0) a1 st6 r7 st8 hc) (gV k_1399 k_1401 ks_43 k_14 k_1402) qX12_change ⟨Nat.le_of_ble_eq_true rfl, Nat.le_of_ble_eq_true rfl⟩ ⟨Nat.le_refl _, Nat.le_refl _⟩ rfl hl.1 rfl (Nat.le_of_ble_eq_true rfl) dX12_fame_46 (fun H locs hP hS => ?_)
      exact m_iret hx hb hr hlocks hf hP hS dX12_fame_49
    · replace hf := it_pos hc hf
      exact B29 st3 _ _ ls hf (lv_sub hl [0] rfl) hP hS
theorem qX12_fame : yX12_fame.cls = RX12 ∧ yX12_fame.cls ≠ "java/lang/invoke/MethodHandle" ∧ yX12_fame.cls ≠ "java/lang/invoke/VarHandle" ∧ (parseMethodDescriptor yX12_fame.desc).map (fun d => d.parameters.length) = some 2 := by decide +kernel
def fX12_terms_b60 (v1 : Int32) (v2 : Int32) (w0 : Int32) (st : St) : Option (Int32 × St) := if w0 = 0 then (bd (fX12_tell (-1 : Int32) st) (fun r4 st5 => some (r4, st5))) else (lt (sI st 8 (0 : Int32)) (fun st1 => bd (fX12_change ((6 : Int32) + v1) v2 st1) (fun r2 st3 => some (r2, st3))))
def fX12_terms_b59 (v1 : Int32) (v2 : Int32) (st : St) : Option (Int32 × St) := fX12_terms_b60 v1 v2 (0 : Int32) st
def fX12_terms (a0 : Int32) (a1 : Int32) (st : St) : Option (Int32 × St) := lt (sI st 0 (0 : Int32)) (fun st6 => if a0 = 0 then (bs (fX12_in (a1.toInt64) (0 : Int64) (999 : Int64)) (fun r9 => fX12_terms_b60 a0 a1 r9 st6)) else (if a0 = (1 : Int32) then (bs (fX12_in (a1.toInt64) (0 : Int64) (1000 : Int64)) (fun r8 => fX12_terms_b60 a0 a1 r8 st6)) else (if a0 = (2 : Int32) then (bs (fX12_in (a1.toInt64) (0 : Int64) (9 : Int64)) (fun r7 => if r7 = 0 then (fX12_terms_b59 a0 a1 st6) else (fX12_terms_b60 a0 a1 (1 : Int32) st6))) else (fX12_terms_b59 a0 a1 st6))))
set_option maxHeartbeats 4000000 in
set_option maxRecDepth 100000 in
theorem tX12_terms (l : Launch) (D : va_G) (cy : Nat → ClassId) (ad : Nat → Nat) (hJ : (mads ad).Nodup) (sz : Nat) (a0 : Int32) (a1 : Int32) (st : St) (rr : Int32) (st' : St) (hf : fX12_terms a0 a1 st = some (rr, st')) : Met l yX12_terms (Cond.code yX12_terms cX12_terms 4 (some .int) :: TT) (rmD 1) (mPc D cy ad [.int a0, .int a1] st sz) (mQi D cy ad rr st' sz) 0 0 (mA ad sz) := by
  refine m_meti (by decide) hJ (Nat.le_of_ble_eq_true rfl) (fun p e s m args below meth c ls E hx hb hr hlocks hown hT hD hl hP hS => ?_)
  replace hl : lv_has ls 4 [(0, .ref (ad 100)), (1, .int a0), (2, .int a1)] := hl
  unfold fX12_terms at hf
  have B60 : ∀ (v1 : Int32) (v2 : Int32) (w0 : Int32) (st : St) (H : Heap) (locs : List Loc) (ls : Array Slot), fX12_terms_b60 v1 v2 w0 st = some (rr, st') → lv_has ls 4 [(0, .ref (ad 100)), (1, .int v1), (2, .int v2)] → va_P D classes (mw cy ad st) H → va_S (mA ad s.heap.size) s.heap H locs → mGi l 1 D cy ad rr st' p e s m args below meth c H locs (F0 m 60 ls [.int w0]) := by
    intro v1 v2 w0 st H locs ls hf hl hP hS
    unfold fX12_terms_b60 at hf
    refine lv_istore_n (lv' := [(3, .int w0), (0, .ref (ad 100)), (1, .int v1), (2, .int v2)]) hx hb dX12_terms_60 rfl hl (by decide) rfl (fun ls hl => ?_)
    refine lv_iload_n hx hb dX12_terms_61 rfl (lv_at hl 0 rfl) ?_
    refine lv_if_ne (tgt := 71) hx hb dX12_terms_62 (by decide) (fun hc => ?_) (fun hc => ?_)
    · replace hf := it_neg hc hf
      refine lv_aload_n hx hb dX12_terms_71 rfl (lv_at hl 1 rfl) ?_
      refine lv_iconst (v := 0) hx hb dX12_terms_72 (by decide) ?_
      refine mp_8 E hD hP hS dX12_terms_73 (fun st1 H locs ex hP hS => ?_)
      replace hf := lt_at ex hf; clear ex
      refine lv_aload_n hx hb dX12_terms_76 rfl (lv_at hl 1 rfl) ?_
      refine lv_bipush (v := 6) hx hb dX12_terms_77 (by decide) ?_
      refine lv_iload_n hx hb dX12_terms_79 rfl (lv_at hl 2 rfl) ?_
      refine lv_iadd hx hb dX12_terms_80 ?_
      refine lv_iload_n hx hb dX12_terms_81 rfl (lv_at hl 3 rfl) ?_
      obtain ⟨r2, st3, hc, hf⟩ := bd_some hf
      refine m_calli (n := 2) (rest := []) E hP hS (fun sz => tX12_change l D cy ad hJ sz ((6 : Int32) + v1) v2 st1 r2 st3 hc) (gV k_1399 k_1401 ks_43 k_14 k_1402) qX12_change ⟨Nat.le_of_ble_eq_true rfl, Nat.le_of_ble_eq_true rfl⟩ ⟨Nat.le_refl _, Nat.le_refl _⟩ rfl hl.1 rfl (Nat.le_of_ble_eq_true rfl) dX12_terms_82 (fun H locs hP hS => ?_)
      exact m_iret hx hb hr hlocks hf hP hS dX12_terms_85
    · replace hf := it_pos hc hf
      refine lv_aload_n hx hb dX12_terms_65 rfl (lv_at hl 1 rfl) ?_
      refine lv_iconst (v := -1) hx hb dX12_terms_66 (by decide) ?_
      obtain ⟨r4, st5, hc, hf⟩ := bd_some hf
      refine m_calli (n := 1) (rest := []) E hP hS (fun sz => tX12_tell l D cy ad hJ sz (-1 : Int32) st r4 st5 hc) (gV k_1338 k_1340 ks_37 k_14 k_1341) qX12_tell ⟨Nat.le_of_ble_eq_true rfl, Nat.le_of_ble_eq_true rfl⟩ ⟨Nat.le_refl _, Nat.le_refl _⟩ rfl hl.1 rfl (Nat.le_of_ble_eq_true rfl) dX12_terms_67 (fun H locs hP hS => ?_)
      exact m_iret hx hb hr hlocks hf hP hS dX12_terms_70
  have B59 : ∀ (v1 : Int32) (v2 : Int32) (st : St) (H : Heap) (locs : List Loc) (ls : Array Slot), fX12_terms_b59 v1 v2 st = some (rr, st') → lv_has ls 4 [(0, .ref (ad 100)), (1, .int v1), (2, .int v2)] → va_P D classes (mw cy ad st) H → va_S (mA ad s.heap.size) s.heap H locs → mGi l 1 D cy ad rr st' p e s m args below meth c H locs (F0 m 59 ls []) := by
    intro v1 v2 st H locs ls hf hl hP hS
    unfold fX12_terms_b59 at hf
    refine lv_iconst (v := 0) hx hb dX12_terms_59 (by decide) ?_
    exact B60 v1 v2 (0 : Int32) st _ _ ls hf hl hP hS
  refine lv_aload_n hx hb dX12_terms_0 rfl (lv_at hl 0 rfl) ?_
  refine lv_iconst (v := 0) hx hb dX12_terms_1 (by decide) ?_
  refine mp_0 E hD hP hS dX12_terms_2 (fun st6 H locs ex hP hS => ?_)
  replace hf := lt_at ex hf; clear ex
  refine lv_iload_n hx hb dX12_terms_5 rfl (lv_at hl 1 rfl) ?_
  refine lv_if_ne (tgt := 21) hx hb dX12_terms_6 (by decide) (fun hc => ?_) (fun hc => ?_)
  · replace hf := it_neg hc hf
    refine lv_iload_n hx hb dX12_terms_21 rfl (lv_at hl 1 rfl) ?_
    refine lv_iconst (v := 1) hx hb dX12_terms_22 (by decide) ?_
    refine lv_icmp_ne (tgt := 38) hx hb dX12_terms_23 (by decide) (fun hc => ?_) (fun hc => ?_)
    · replace hf := it_neg hc hf
      refine lv_iload_n hx hb dX12_terms_38 rfl (lv_at hl 1 rfl) ?_
      refine lv_iconst (v := 2) hx hb dX12_terms_39 (by decide) ?_
      refine lv_icmp_ne (tgt := 59) hx hb dX12_terms_40 (by decide) (fun hc => ?_) (fun hc => ?_)
      · replace hf := it_neg hc hf
        exact B59 a0 a1 st6 _ _ ls hf hl hP hS
      · replace hf := it_pos hc hf
        refine lv_iload_n hx hb dX12_terms_43 rfl (lv_at hl 2 rfl) ?_
        refine lv_i2l (v := a1.toInt64) hx hb dX12_terms_44 rfl ?_
        refine lv_lconst (v := 0) hx hb dX12_terms_45 (by decide) ?_
        refine lv_ldc2 (v := 9) hx hb hown (hT _ k_1416) dX12_terms_46 ?_
        obtain ⟨r7, hc, hf⟩ := bs_some hf
        refine s_calli (n := 3) (rest := []) E.1 (tX12_in l _ (a1.toInt64) (0 : Int64) (9 : Int64) r7 hc) (gS k_1350 k_1351 k_14 k_1352) qX12_in ⟨Nat.le_of_ble_eq_true rfl, Nat.le_of_ble_eq_true rfl⟩ ⟨Nat.le_refl _, Nat.le_refl _⟩ rfl hl.1 rfl (Nat.le_of_ble_eq_true rfl) dX12_terms_49 ?_
        refine lv_if_eq (tgt := 59) hx hb dX12_terms_52 (by decide) (fun hc => ?_) (fun hc => ?_)
        · replace hf := it_pos hc hf
          exact B59 a0 a1 st6 _ _ ls hf hl hP hS
        · replace hf := it_neg hc hf
          refine lv_iconst (v := 1) hx hb dX12_terms_55 (by decide) ?_
          refine lv_goto (tgt := 60) hx hb dX12_terms_56 (by decide) ?_
          exact B60 a0 a1 (1 : Int32) st6 _ _ ls hf hl hP hS
    · replace hf := it_pos hc hf
      refine lv_iload_n hx hb dX12_terms_26 rfl (lv_at hl 2 rfl) ?_
      refine lv_i2l (v := a1.toInt64) hx hb dX12_terms_27 rfl ?_
      refine lv_lconst (v := 0) hx hb dX12_terms_28 (by decide) ?_
      refine lv_ldc2 (v := 1000) hx hb hown (hT _ k_1379) dX12_terms_29 ?_
      obtain ⟨r8, hc, hf⟩ := bs_some hf
      refine s_calli (n := 3) (rest := []) E.1 (tX12_in l _ (a1.toInt64) (0 : Int64) (1000 : Int64) r8 hc) (gS k_1350 k_1351 k_14 k_1352) qX12_in ⟨Nat.le_of_ble_eq_true rfl, Nat.le_of_ble_eq_true rfl⟩ ⟨Nat.le_refl _, Nat.le_refl _⟩ rfl hl.1 rfl (Nat.le_of_ble_eq_true rfl) dX12_terms_32 ?_
      refine lv_goto (tgt := 60) hx hb dX12_terms_35 (by decide) ?_
      exact B60 a0 a1 r8 st6 _ _ ls hf hl hP hS
  · replace hf := it_pos hc hf
    refine lv_iload_n hx hb dX12_terms_9 rfl (lv_at hl 2 rfl) ?_
    refine lv_i2l (v := a1.toInt64) hx hb dX12_terms_10 rfl ?_
    refine lv_lconst (v := 0) hx hb dX12_terms_11 (by decide) ?_
    refine lv_ldc2 (v := 999) hx hb hown (hT _ k_1415) dX12_terms_12 ?_
    obtain ⟨r9, hc, hf⟩ := bs_some hf
    refine s_calli (n := 3) (rest := []) E.1 (tX12_in l _ (a1.toInt64) (0 : Int64) (999 : Int64) r9 hc) (gS k_1350 k_1351 k_14 k_1352) qX12_in ⟨Nat.le_of_ble_eq_true rfl, Nat.le_of_ble_eq_true rfl⟩ ⟨Nat.le_refl _, Nat.le_refl _⟩ rfl hl.1 rfl (Nat.le_of_ble_eq_true rfl) dX12_terms_15 ?_
    refine lv_goto (tgt := 60) hx hb dX12_terms_18 (by decide) ?_
    exact B60 a0 a1 r9 st6 _ _ ls hf hl hP hS
theorem qX12_terms : yX12_terms.cls = RX12 ∧ yX12_terms.cls ≠ "java/lang/invoke/MethodHandle" ∧ yX12_terms.cls ≠ "java/lang/invoke/VarHandle" ∧ (parseMethodDescriptor yX12_terms.desc).map (fun d => d.parameters.length) = some 2 := by decide +kernel
def fX12_row_b84 (k35 : Int32 → Int32 → Int32 → St → Option (Int32 × St)) (v1 : Int32) (v2 : Int32) (v3 : Int32) (st : St) : Option (Int32 × St) := lt (v3 + (2 : Int32)) (fun x1 => k35 v1 v2 x1 st)
def fX12_row_b74 (k35 : Int32 → Int32 → Int32 → St → Option (Int32 × St)) (v1 : Int32) (v2 : Int32) (v3 : Int32) (st : St) : Option (Int32 × St) := lt (sI st 11 ((st.1 11) + (1 : Int32))) (fun st2 => fX12_row_b84 k35 v1 v2 v3 st2)
def fX12_row_b35 (k35 : Int32 → Int32 → Int32 → St → Option (Int32 × St)) (v1 : Int32) (v2 : Int32) (v3 : Int32) (st : St) : Option (Int32 × St) := if v1 ≤ v3 then (lt (sI st 8 (0 : Int32)) (fun st3 => bd (fX12_tell v2 st3) (fun r4 st5 => some (r4, st5)))) else (if v1 ≤ (v3 + (1 : Int32)) then (fX12_row_b74 k35 v1 v2 v3 st) else (gi v3 400 (gi (v3 + (1 : Int32)) 400 (bd (fX12_come (st.2.2.1 12 v3.toNatClampNeg) (st.2.2.1 12 (v3 + (1 : Int32)).toNatClampNeg) st) (fun r6 st7 => if r6 < 0 then (fX12_row_b74 k35 v1 v2 v3 st7) else (lt (v2 + (1 : Int32)) (fun x8 => fX12_row_b84 k35 v1 x8 v3 st7)))))))
def fX12_row (st : St) : Option (Int32 × St) := lt (sI st 0 (0 : Int32)) (fun st9 => lt (st9.1 13) (fun x10 => lt (sI st9 13 (0 : Int32)) (fun st11 => if x10 = 0 then (bd (fX12_tell (-6 : Int32) st11) (fun r13 st14 => some (r13, st14))) else (lt (sI st11 11 (0 : Int32)) (fun st12 => lp (fun _ _ _ _ => none) (fX12_row_b35) 6000 x10 (0 : Int32) (0 : Int32) st12)))))
set_option maxHeartbeats 4000000 in
set_option maxRecDepth 100000 in
theorem tX12_row (l : Launch) (D : va_G) (cy : Nat → ClassId) (ad : Nat → Nat) (hJ : (mads ad).Nodup) (sz : Nat) (st : St) (rr : Int32) (st' : St) (hf : fX12_row  st = some (rr, st')) : Met l yX12_row (Cond.code yX12_row cX12_row 4 (some .int) :: TT) (rmD 2) (mPc D cy ad [] st sz) (mQi D cy ad rr st' sz) 0 0 (mA ad sz) := by
  refine m_meti (by decide) hJ (Nat.le_of_ble_eq_true rfl) (fun p e s m args below meth c ls E hx hb hr hlocks hown hT hD hl hP hS => ?_)
  replace hl : lv_has ls 4 [(0, .ref (ad 100))] := hl
  unfold fX12_row at hf
  have L35 : ∀ (n : Nat) (v1 : Int32) (v2 : Int32) (v3 : Int32) (st : St) (H : Heap) (locs : List Loc) (ls : Array Slot), lp (fun _ _ _ _ => none) (fX12_row_b35) n v1 v2 v3 st = some (rr, st') → lv_has ls 4 [(0, .ref (ad 100)), (1, .int v1), (2, .int v2), (3, .int v3)] → va_P D classes (mw cy ad st) H → va_S (mA ad s.heap.size) s.heap H locs → mGi l 2 D cy ad rr st' p e s m args below meth c H locs (F0 m 35 ls []) := by
    intro n
    induction n with
    | zero => intro v1 v2 v3 st H locs ls hf; exact absurd hf (fun h => by cases h)
    | succ n K35 =>
      intro v1 v2 v3 st H locs ls hf hl hP hS
      replace hf : fX12_row_b35 (lp (fun _ _ _ _ => none) (fX12_row_b35) n) v1 v2 v3 st = some (rr, st') := hf
      generalize lp (fun _ _ _ _ => none) (fX12_row_b35) n = k35 at hf K35
      have B84 : ∀ (v1 : Int32) (v2 : Int32) (v3 : Int32) (st : St) (H : Heap) (locs : List Loc) (ls : Array Slot), fX12_row_b84 k35 v1 v2 v3 st = some (rr, st') → lv_has ls 4 [(0, .ref (ad 100)), (1, .int v1), (2, .int v2), (3, .int v3)] → va_P D classes (mw cy ad st) H → va_S (mA ad s.heap.size) s.heap H locs → mGi l 2 D cy ad rr st' p e s m args below meth c H locs (F0 m 84 ls []) := by
        intro v1 v2 v3 st H locs ls hf hl hP hS
        unfold fX12_row_b84 at hf
        obtain ⟨x1, ex⟩ : ∃ y : Int32, y = v3 + (2 : Int32) := ⟨_, rfl⟩
        replace hf := lt_at ex hf
        refine lv_iinc (v := x1) (lv' := [(3, .int x1), (0, .ref (ad 100)), (1, .int v1), (2, .int v2)]) hx hb dX12_row_84 hl (k := 3) rfl (by rw [ex]; rfl) (by decide) rfl (fun ls hl => ?_)
        clear ex
        refine lv_goto (tgt := 35) hx hb dX12_row_87 (by decide) ?_
        exact K35 v1 v2 x1 st _ _ ls hf (lv_sub hl [1, 2, 3, 0] rfl) hP hS
      have B74 : ∀ (v1 : Int32) (v2 : Int32) (v3 : Int32) (st : St) (H : Heap) (locs : List Loc) (ls : Array Slot), fX12_row_b74 k35 v1 v2 v3 st = some (rr, st') → lv_has ls 4 [(0, .ref (ad 100)), (1, .int v1), (2, .int v2), (3, .int v3)] → va_P D classes (mw cy ad st) H → va_S (mA ad s.heap.size) s.heap H locs → mGi l 2 D cy ad rr st' p e s m args below meth c H locs (F0 m 74 ls []) := by
        intro v1 v2 v3 st H locs ls hf hl hP hS
        unfold fX12_row_b74 at hf
        refine lv_aload_n hx hb dX12_row_74 rfl (lv_at hl 0 rfl) ?_
        refine lv_dup hx hb dX12_row_75 rfl ?_
        refine mg_11 E hP dX12_row_76 ?_
        refine lv_iconst (v := 1) hx hb dX12_row_79 (by decide) ?_
        refine lv_iadd hx hb dX12_row_80 ?_
        refine mp_11 E hD hP hS dX12_row_81 (fun st2 H locs ex hP hS => ?_)
        replace hf := lt_at ex hf; clear ex
        exact B84 v1 v2 v3 st2 _ _ ls hf hl hP hS
      unfold fX12_row_b35 at hf
      refine lv_iload_n hx hb dX12_row_35 rfl (lv_at hl 3 rfl) ?_
      refine lv_iload_n hx hb dX12_row_36 rfl (lv_at hl 1 rfl) ?_
      refine lv_icmp_ge (tgt := 90) hx hb dX12_row_37 (by decide) (fun hc => ?_) (fun hc => ?_)
      · replace hf := it_pos hc hf
        refine lv_aload_n hx hb dX12_row_90 rfl (lv_at hl 0 rfl) ?_
        refine lv_iconst (v := 0) hx hb dX12_row_91 (by decide) ?_
        refine mp_8 E hD hP hS dX12_row_92 (fun st3 H locs ex hP hS => ?_)
        replace hf := lt_at ex hf; clear ex
        refine lv_aload_n hx hb dX12_row_95 rfl (lv_at hl 0 rfl) ?_
        refine lv_iload_n hx hb dX12_row_96 rfl (lv_at hl 2 rfl) ?_
        obtain ⟨r4, st5, hc, hf⟩ := bd_some hf
        refine m_calli (n := 1) (rest := []) E hP hS (fun sz => tX12_tell l D cy ad hJ sz v2 st3 r4 st5 hc) (gV k_1338 k_1340 ks_37 k_14 k_1341) qX12_tell ⟨Nat.le_of_ble_eq_true rfl, Nat.le_of_ble_eq_true rfl⟩ ⟨Nat.le_refl _, Nat.le_refl _⟩ rfl hl.1 rfl (Nat.le_of_ble_eq_true rfl) dX12_row_97 (fun H locs hP hS => ?_)
        exact m_iret hx hb hr hlocks hf hP hS dX12_row_100
      · replace hf := it_neg hc hf
        refine lv_iload_n hx hb dX12_row_40 rfl (lv_at hl 3 rfl) ?_
        refine lv_iconst (v := 1) hx hb dX12_row_41 (by decide) ?_
        refine lv_iadd hx hb dX12_row_42 ?_
        refine lv_iload_n hx hb dX12_row_43 rfl (lv_at hl 1 rfl) ?_
        refine lv_icmp_ge (tgt := 74) hx hb dX12_row_44 (by decide) (fun hc => ?_) (fun hc => ?_)
        · replace hf := it_pos hc hf
          exact B74 v1 v2 v3 st _ _ ls hf hl hP hS
        · replace hf := it_neg hc hf
          refine lv_aload_n hx hb dX12_row_47 rfl (lv_at hl 0 rfl) ?_
          refine lv_aload_n hx hb dX12_row_48 rfl (lv_at hl 0 rfl) ?_
          refine mg_12 E hP dX12_row_49 ?_
          refine lv_iload_n hx hb dX12_row_52 rfl (lv_at hl 3 rfl) ?_
          obtain ⟨hi, hf⟩ := gi_some hf
          refine ml_12 E hP hi dX12_row_53 ?_
          refine lv_aload_n hx hb dX12_row_54 rfl (lv_at hl 0 rfl) ?_
          refine mg_12 E hP dX12_row_55 ?_
          refine lv_iload_n hx hb dX12_row_58 rfl (lv_at hl 3 rfl) ?_
          refine lv_iconst (v := 1) hx hb dX12_row_59 (by decide) ?_
          refine lv_iadd hx hb dX12_row_60 ?_
          obtain ⟨hi, hf⟩ := gi_some hf
          refine ml_12 E hP hi dX12_row_61 ?_
          obtain ⟨r6, st7, hc, hf⟩ := bd_some hf
          refine m_calli (n := 2) (rest := []) E hP hS (fun sz => tX12_come l D cy ad hJ sz (st.2.2.1 12 v3.toNatClampNeg) (st.2.2.1 12 (v3 + (1 : Int32)).toNatClampNeg) st r6 st7 hc) (gV k_1361 k_1363 ks_39 k_14 k_1364) qX12_come ⟨Nat.le_of_ble_eq_true rfl, Nat.le_of_ble_eq_true rfl⟩ ⟨Nat.le_refl _, Nat.le_refl _⟩ rfl hl.1 rfl (Nat.le_of_ble_eq_true rfl) dX12_row_62 (fun H locs hP hS => ?_)
          refine lv_if_lt (tgt := 74) hx hb dX12_row_65 (by decide) (fun hc => ?_) (fun hc => ?_)
          · replace hf := it_pos hc hf
            exact B74 v1 v2 v3 st7 _ _ ls hf hl hP hS
          · replace hf := it_neg hc hf
            obtain ⟨x8, ex⟩ : ∃ y : Int32, y = v2 + (1 : Int32) := ⟨_, rfl⟩
            replace hf := lt_at ex hf
            refine lv_iinc (v := x8) (lv' := [(2, .int x8), (0, .ref (ad 100)), (1, .int v1), (3, .int v3)]) hx hb dX12_row_68 hl (k := 2) rfl (by rw [ex]; rfl) (by decide) rfl (fun ls hl => ?_)
            clear ex
            refine lv_goto (tgt := 84) hx hb dX12_row_71 (by decide) ?_
            exact B84 v1 x8 v3 st7 _ _ ls hf (lv_sub hl [1, 2, 0, 3] rfl) hP hS
  refine lv_aload_n hx hb dX12_row_0 rfl (lv_at hl 0 rfl) ?_
  refine lv_iconst (v := 0) hx hb dX12_row_1 (by decide) ?_
  refine mp_0 E hD hP hS dX12_row_2 (fun st9 H locs ex hP hS => ?_)
  replace hf := lt_at ex hf; clear ex
  refine lv_aload_n hx hb dX12_row_5 rfl (lv_at hl 0 rfl) ?_
  refine mg_13 E hP dX12_row_6 ?_
  refine lv_topi (fun x10 ex => ?_)
  replace hf := lt_at ex hf; clear ex
  refine lv_istore_n (lv' := [(1, .int x10), (0, .ref (ad 100))]) hx hb dX12_row_9 rfl hl (by decide) rfl (fun ls hl => ?_)
  refine lv_aload_n hx hb dX12_row_10 rfl (lv_at hl 1 rfl) ?_
  refine lv_iconst (v := 0) hx hb dX12_row_11 (by decide) ?_
  refine mp_13 E hD hP hS dX12_row_12 (fun st11 H locs ex hP hS => ?_)
  replace hf := lt_at ex hf; clear ex
  refine lv_iload_n hx hb dX12_row_15 rfl (lv_at hl 0 rfl) ?_
  refine lv_if_ne (tgt := 26) hx hb dX12_row_16 (by decide) (fun hc => ?_) (fun hc => ?_)
  · replace hf := it_neg hc hf
    refine lv_aload_n hx hb dX12_row_26 rfl (lv_at hl 1 rfl) ?_
    refine lv_iconst (v := 0) hx hb dX12_row_27 (by decide) ?_
    refine mp_11 E hD hP hS dX12_row_28 (fun st12 H locs ex hP hS => ?_)
    replace hf := lt_at ex hf; clear ex
    refine lv_iconst (v := 0) hx hb dX12_row_31 (by decide) ?_
    refine lv_istore_n (lv' := [(2, .int (0 : Int32)), (1, .int x10), (0, .ref (ad 100))]) hx hb dX12_row_32 rfl hl (by decide) rfl (fun ls hl => ?_)
    refine lv_iconst (v := 0) hx hb dX12_row_33 (by decide) ?_
    refine lv_istore_n (lv' := [(3, .int (0 : Int32)), (2, .int (0 : Int32)), (1, .int x10), (0, .ref (ad 100))]) hx hb dX12_row_34 rfl hl (by decide) rfl (fun ls hl => ?_)
    exact L35 6000 x10 (0 : Int32) (0 : Int32) st12 _ _ ls hf (lv_sub hl [3, 2, 1, 0] rfl) hP hS
  · replace hf := it_pos hc hf
    refine lv_aload_n hx hb dX12_row_19 rfl (lv_at hl 1 rfl) ?_
    refine lv_bipush (v := -6) hx hb dX12_row_20 (by decide) ?_
    obtain ⟨r13, st14, hc, hf⟩ := bd_some hf
    refine m_calli (n := 1) (rest := []) E hP hS (fun sz => tX12_tell l D cy ad hJ sz (-6 : Int32) st11 r13 st14 hc) (gV k_1338 k_1340 ks_37 k_14 k_1341) qX12_tell ⟨Nat.le_of_ble_eq_true rfl, Nat.le_of_ble_eq_true rfl⟩ ⟨Nat.le_refl _, Nat.le_refl _⟩ rfl hl.1 rfl (Nat.le_of_ble_eq_true rfl) dX12_row_22 (fun H locs hP hS => ?_)
    exact m_iret hx hb hr hlocks hf hP hS dX12_row_25
theorem qX12_row : yX12_row.cls = RX12 ∧ yX12_row.cls ≠ "java/lang/invoke/MethodHandle" ∧ yX12_row.cls ≠ "java/lang/invoke/VarHandle" ∧ (parseMethodDescriptor yX12_row.desc).map (fun d => d.parameters.length) = some 0 := by decide +kernel
def fX12_brooms (st : St) : Option (Int32 × St) := lt (sI st 0 (0 : Int32)) (fun st1 => some ((st1.1 11), st1))
set_option maxHeartbeats 4000000 in
set_option maxRecDepth 100000 in
theorem tX12_brooms (l : Launch) (D : va_G) (cy : Nat → ClassId) (ad : Nat → Nat) (hJ : (mads ad).Nodup) (sz : Nat) (st : St) (rr : Int32) (st' : St) (hf : fX12_brooms  st = some (rr, st')) : Met l yX12_brooms (Cond.code yX12_brooms cX12_brooms 1 (some .int) :: TT) (rmD 0) (mPc D cy ad [] st sz) (mQi D cy ad rr st' sz) 0 0 (mA ad sz) := by
  refine m_meti (by decide) hJ (Nat.le_of_ble_eq_true rfl) (fun p e s m args below meth c ls E hx hb hr hlocks hown hT hD hl hP hS => ?_)
  replace hl : lv_has ls 1 [(0, .ref (ad 100))] := hl
  unfold fX12_brooms at hf
  refine lv_aload_n hx hb dX12_brooms_0 rfl (lv_at hl 0 rfl) ?_
  refine lv_iconst (v := 0) hx hb dX12_brooms_1 (by decide) ?_
  refine mp_0 E hD hP hS dX12_brooms_2 (fun st1 H locs ex hP hS => ?_)
  replace hf := lt_at ex hf; clear ex
  refine lv_aload_n hx hb dX12_brooms_5 rfl (lv_at hl 0 rfl) ?_
  refine mg_11 E hP dX12_brooms_6 ?_
  exact m_iret hx hb hr hlocks hf hP hS dX12_brooms_9
theorem qX12_brooms : yX12_brooms.cls = RX12 ∧ yX12_brooms.cls ≠ "java/lang/invoke/MethodHandle" ∧ yX12_brooms.cls ≠ "java/lang/invoke/VarHandle" ∧ (parseMethodDescriptor yX12_brooms.desc).map (fun d => d.parameters.length) = some 0 := by decide +kernel
def fX12_four_b3 (k3 : Int32 → Int32 → St → Option (Unit × St)) (v1 : Int32) (v2 : Int32) (st : St) : Option (Unit × St) := if v2 < 0 then (some ((), st)) else (gi (st.1 13) 400 (lt (sA st 12 (upd (st.2.2.1 12) (st.1 13).toNatClampNeg ((v1 >>> (v2 &&& 31)) &&& (255 : Int32)))) (fun st1 => lt (sI st1 13 ((st1.1 13) + (1 : Int32))) (fun st2 => lt (v2 + (-8 : Int32)) (fun x3 => k3 v1 x3 st2)))))
def fX12_four (a0 : Int32) (st : St) : Option (Unit × St) := lp (fun _ _ _ => none) (fX12_four_b3) 6000 a0 (24 : Int32) st
set_option maxHeartbeats 4000000 in
set_option maxRecDepth 100000 in
theorem tX12_four (l : Launch) (D : va_G) (cy : Nat → ClassId) (ad : Nat → Nat) (hJ : (mads ad).Nodup) (sz : Nat) (a0 : Int32) (st : St) (rr : Unit) (st' : St) (hf : fX12_four a0 st = some (rr, st')) : Met l yX12_four (Cond.code yX12_four cX12_four 3 none :: TT) (rmD 0) (mPc D cy ad [.int a0] st sz) (mQv D cy ad rr st' sz) 0 0 (mA ad sz) := by
  refine m_metv (by decide) hJ (Nat.le_of_ble_eq_true rfl) (fun p e s m args below meth c ls E hx hb hr hlocks hown hT hD hl hP hS => ?_)
  replace hl : lv_has ls 3 [(0, .ref (ad 100)), (1, .int a0)] := hl
  unfold fX12_four at hf
  have L3 : ∀ (n : Nat) (v1 : Int32) (v2 : Int32) (st : St) (H : Heap) (locs : List Loc) (ls : Array Slot), lp (fun _ _ _ => none) (fX12_four_b3) n v1 v2 st = some (rr, st') → lv_has ls 3 [(0, .ref (ad 100)), (1, .int v1), (2, .int v2)] → va_P D classes (mw cy ad st) H → va_S (mA ad s.heap.size) s.heap H locs → mGv l 0 D cy ad rr st' p e s m args below meth c H locs (F0 m 3 ls []) := by
    intro n
    induction n with
    | zero => intro v1 v2 st H locs ls hf; exact absurd hf (fun h => by cases h)
    | succ n K3 =>
      intro v1 v2 st H locs ls hf hl hP hS
      replace hf : fX12_four_b3 (lp (fun _ _ _ => none) (fX12_four_b3) n) v1 v2 st = some (rr, st') := hf
      generalize lp (fun _ _ _ => none) (fX12_four_b3) n = k3 at hf K3
      unfold fX12_four_b3 at hf
      refine lv_iload_n hx hb dX12_four_3 rfl (lv_at hl 2 rfl) ?_
      refine lv_if_lt (tgt := 39) hx hb dX12_four_4 (by decide) (fun hc => ?_) (fun hc => ?_)
      · replace hf := it_pos hc hf
        exact m_vret hx hb hr hlocks hf hP hS dX12_four_39
      · replace hf := it_neg hc hf
        refine lv_aload_n hx hb dX12_four_7 rfl (lv_at hl 0 rfl) ?_
        refine mg_12 E hP dX12_four_8 ?_
        refine lv_aload_n hx hb dX12_four_11 rfl (lv_at hl 0 rfl) ?_
        refine mg_13 E hP dX12_four_12 ?_
        refine lv_iload_n hx hb dX12_four_15 rfl (lv_at hl 1 rfl) ?_
        refine lv_iload_n hx hb dX12_four_16 rfl (lv_at hl 2 rfl) ?_
        refine lv_ishr hx hb dX12_four_17 ?_
        refine lv_sipush (v := 255) hx hb dX12_four_18 (by decide) ?_
        refine lv_iand hx hb dX12_four_21 ?_
        obtain ⟨hi, hf⟩ := gi_some hf
        refine ms_12 E hD hP hS hi dX12_four_22 (fun st1 H locs ex hP hS => ?_)
        replace hf := lt_at ex hf; clear ex
        refine lv_aload_n hx hb dX12_four_23 rfl (lv_at hl 0 rfl) ?_
        refine lv_dup hx hb dX12_four_24 rfl ?_
        refine mg_13 E hP dX12_four_25 ?_
        refine lv_iconst (v := 1) hx hb dX12_four_28 (by decide) ?_
        refine lv_iadd hx hb dX12_four_29 ?_
        refine mp_13 E hD hP hS dX12_four_30 (fun st2 H locs ex hP hS => ?_)
        replace hf := lt_at ex hf; clear ex
        obtain ⟨x3, ex⟩ : ∃ y : Int32, y = v2 + (-8 : Int32) := ⟨_, rfl⟩
        replace hf := lt_at ex hf
        refine lv_iinc (v := x3) (lv' := [(2, .int x3), (0, .ref (ad 100)), (1, .int v1)]) hx hb dX12_four_33 hl (k := 2) rfl (by rw [ex]; rfl) (by decide) rfl (fun ls hl => ?_)
        clear ex
        refine lv_goto (tgt := 3) hx hb dX12_four_36 (by decide) ?_
        exact K3 v1 x3 st2 _ _ ls hf (lv_sub hl [1, 2, 0] rfl) hP hS
  refine lv_bipush (v := 24) hx hb dX12_four_0 (by decide) ?_
  refine lv_istore_n (lv' := [(2, .int (24 : Int32)), (0, .ref (ad 100)), (1, .int a0)]) hx hb dX12_four_2 rfl hl (by decide) rfl (fun ls hl => ?_)
  exact L3 6000 a0 (24 : Int32) st _ _ ls hf (lv_sub hl [1, 2, 0] rfl) hP hS
theorem qX12_four : yX12_four.cls = RX12 ∧ yX12_four.cls ≠ "java/lang/invoke/MethodHandle" ∧ yX12_four.cls ≠ "java/lang/invoke/VarHandle" ∧ (parseMethodDescriptor yX12_four.desc).map (fun d => d.parameters.length) = some 1 := by decide +kernel
def fX12_feed (a0 : Int32) (a1 : Int32) (a2 : Int32) (a3 : Int32) (a4 : Int32) (st : St) : Option (Int32 × St) := lt (sI st 0 (0 : Int32)) (fun st1 => if ((st1.1 13) + (20 : Int32)) ≤ (400 : Int32) then (bd (fX12_four a0 st1) (fun r2 st3 => bd (fX12_four a1 st3) (fun r4 st5 => bd (fX12_four a2 st5) (fun r6 st7 => bd (fX12_four a3 st7) (fun r8 st9 => bd (fX12_four a4 st9) (fun r10 st11 => some ((st11.1 13), st11))))))) else (some ((-1 : Int32), st1)))
set_option maxHeartbeats 4000000 in
set_option maxRecDepth 100000 in
theorem tX12_feed (l : Launch) (D : va_G) (cy : Nat → ClassId) (ad : Nat → Nat) (hJ : (mads ad).Nodup) (sz : Nat) (a0 : Int32) (a1 : Int32) (a2 : Int32) (a3 : Int32) (a4 : Int32) (st : St) (rr : Int32) (st' : St) (hf : fX12_feed a0 a1 a2 a3 a4 st = some (rr, st')) : Met l yX12_feed (Cond.code yX12_feed cX12_feed 6 (some .int) :: TT) (rmD 1) (mPc D cy ad [.int a0, .int a1, .int a2, .int a3, .int a4] st sz) (mQi D cy ad rr st' sz) 0 0 (mA ad sz) := by
  refine m_meti (by decide) hJ (Nat.le_of_ble_eq_true rfl) (fun p e s m args below meth c ls E hx hb hr hlocks hown hT hD hl hP hS => ?_)
  replace hl : lv_has ls 6 [(0, .ref (ad 100)), (1, .int a0), (2, .int a1), (3, .int a2), (4, .int a3), (5, .int a4)] := hl
  unfold fX12_feed at hf
  refine lv_aload_n hx hb dX12_feed_0 rfl (lv_at hl 0 rfl) ?_
  refine lv_iconst (v := 0) hx hb dX12_feed_1 (by decide) ?_
  refine mp_0 E hD hP hS dX12_feed_2 (fun st1 H locs ex hP hS => ?_)
  replace hf := lt_at ex hf; clear ex
  refine lv_aload_n hx hb dX12_feed_5 rfl (lv_at hl 0 rfl) ?_
  refine mg_13 E hP dX12_feed_6 ?_
  refine lv_bipush (v := 20) hx hb dX12_feed_9 (by decide) ?_
  refine lv_iadd hx hb dX12_feed_11 ?_
  refine lv_sipush (v := 400) hx hb dX12_feed_12 (by decide) ?_
  refine lv_icmp_le (tgt := 20) hx hb dX12_feed_15 (by decide) (fun hc => ?_) (fun hc => ?_)
  · replace hf := it_pos hc hf
    refine lv_aload_n hx hb dX12_feed_20 rfl (lv_at hl 0 rfl) ?_
    refine lv_iload_n hx hb dX12_feed_21 rfl (lv_at hl 1 rfl) ?_
    obtain ⟨r2, st3, hc, hf⟩ := bd_some hf
    refine m_callv (n := 1) (rest := []) E hP hS (fun sz => tX12_four l D cy ad hJ sz a0 st1 r2 st3 hc) (gV k_1429 k_1431 ks_44 k_14 k_1432) qX12_four ⟨Nat.le_of_ble_eq_true rfl, Nat.le_of_ble_eq_true rfl⟩ ⟨Nat.le_refl _, Nat.le_refl _⟩ rfl hl.1 rfl (Nat.le_of_ble_eq_true rfl) dX12_feed_22 (fun H locs hP hS => ?_)
    refine lv_aload_n hx hb dX12_feed_25 rfl (lv_at hl 0 rfl) ?_
    refine lv_iload_n hx hb dX12_feed_26 rfl (lv_at hl 2 rfl) ?_
    obtain ⟨r4, st5, hc, hf⟩ := bd_some hf
    refine m_callv (n := 1) (rest := []) E hP hS (fun sz => tX12_four l D cy ad hJ sz a1 st3 r4 st5 hc) (gV k_1429 k_1431 ks_44 k_14 k_1432) qX12_four ⟨Nat.le_of_ble_eq_true rfl, Nat.le_of_ble_eq_true rfl⟩ ⟨Nat.le_refl _, Nat.le_refl _⟩ rfl hl.1 rfl (Nat.le_of_ble_eq_true rfl) dX12_feed_27 (fun H locs hP hS => ?_)
    refine lv_aload_n hx hb dX12_feed_30 rfl (lv_at hl 0 rfl) ?_
    refine lv_iload_n hx hb dX12_feed_31 rfl (lv_at hl 3 rfl) ?_
    obtain ⟨r6, st7, hc, hf⟩ := bd_some hf
    refine m_callv (n := 1) (rest := []) E hP hS (fun sz => tX12_four l D cy ad hJ sz a2 st5 r6 st7 hc) (gV k_1429 k_1431 ks_44 k_14 k_1432) qX12_four ⟨Nat.le_of_ble_eq_true rfl, Nat.le_of_ble_eq_true rfl⟩ ⟨Nat.le_refl _, Nat.le_refl _⟩ rfl hl.1 rfl (Nat.le_of_ble_eq_true rfl) dX12_feed_32 (fun H locs hP hS => ?_)
    refine lv_aload_n hx hb dX12_feed_35 rfl (lv_at hl 0 rfl) ?_
    refine lv_iload hx hb dX12_feed_36 (lv_at hl 4 rfl) ?_
    obtain ⟨r8, st9, hc, hf⟩ := bd_some hf
    refine m_callv (n := 1) (rest := []) E hP hS (fun sz => tX12_four l D cy ad hJ sz a3 st7 r8 st9 hc) (gV k_1429 k_1431 ks_44 k_14 k_1432) qX12_four ⟨Nat.le_of_ble_eq_true rfl, Nat.le_of_ble_eq_true rfl⟩ ⟨Nat.le_refl _, Nat.le_refl _⟩ rfl hl.1 rfl (Nat.le_of_ble_eq_true rfl) dX12_feed_38 (fun H locs hP hS => ?_)
    refine lv_aload_n hx hb dX12_feed_41 rfl (lv_at hl 0 rfl) ?_
    refine lv_iload hx hb dX12_feed_42 (lv_at hl 5 rfl) ?_
    obtain ⟨r10, st11, hc, hf⟩ := bd_some hf
    refine m_callv (n := 1) (rest := []) E hP hS (fun sz => tX12_four l D cy ad hJ sz a4 st9 r10 st11 hc) (gV k_1429 k_1431 ks_44 k_14 k_1432) qX12_four ⟨Nat.le_of_ble_eq_true rfl, Nat.le_of_ble_eq_true rfl⟩ ⟨Nat.le_refl _, Nat.le_refl _⟩ rfl hl.1 rfl (Nat.le_of_ble_eq_true rfl) dX12_feed_44 (fun H locs hP hS => ?_)
    refine lv_aload_n hx hb dX12_feed_47 rfl (lv_at hl 0 rfl) ?_
    refine mg_13 E hP dX12_feed_48 ?_
    exact m_iret hx hb hr hlocks hf hP hS dX12_feed_51
  · replace hf := it_neg hc hf
    refine lv_iconst (v := -1) hx hb dX12_feed_18 (by decide) ?_
    exact m_iret hx hb hr hlocks hf hP hS dX12_feed_19
theorem qX12_feed : yX12_feed.cls = RX12 ∧ yX12_feed.cls ≠ "java/lang/invoke/MethodHandle" ∧ yX12_feed.cls ≠ "java/lang/invoke/VarHandle" ∧ (parseMethodDescriptor yX12_feed.desc).map (fun d => d.parameters.length) = some 5 := by decide +kernel
def fX12_end_b17 (st : St) : Option (Int32 × St) := some ((-1 : Int32), st)
def fX12_end (a0 : Int32) (st : St) : Option (Int32 × St) := lt (sI st 0 (0 : Int32)) (fun st1 => if a0 < 0 then (fX12_end_b17 st1) else (if a0 ≤ (st1.1 13) then (lt (sI st1 13 a0) (fun st2 => some (a0, st2))) else (fX12_end_b17 st1)))
set_option maxHeartbeats 4000000 in
set_option maxRecDepth 100000 in
theorem tX12_end (l : Launch) (D : va_G) (cy : Nat → ClassId) (ad : Nat → Nat) (hJ : (mads ad).Nodup) (sz : Nat) (a0 : Int32) (st : St) (rr : Int32) (st' : St) (hf : fX12_end a0 st = some (rr, st')) : Met l yX12_end (Cond.code yX12_end cX12_end 2 (some .int) :: TT) (rmD 0) (mPc D cy ad [.int a0] st sz) (mQi D cy ad rr st' sz) 0 0 (mA ad sz) := by
  refine m_meti (by decide) hJ (Nat.le_of_ble_eq_true rfl) (fun p e s m args below meth c ls E hx hb hr hlocks hown hT hD hl hP hS => ?_)
  replace hl : lv_has ls 2 [(0, .ref (ad 100)), (1, .int a0)] := hl
  unfold fX12_end at hf
  have B17 : ∀ (st : St) (H : Heap) (locs : List Loc) (ls : Array Slot), fX12_end_b17 st = some (rr, st') → lv_has ls 2 [] → va_P D classes (mw cy ad st) H → va_S (mA ad s.heap.size) s.heap H locs → mGi l 0 D cy ad rr st' p e s m args below meth c H locs (F0 m 17 ls []) := by
    intro st H locs ls hf hl hP hS
    unfold fX12_end_b17 at hf
    refine lv_iconst (v := -1) hx hb dX12_end_17 (by decide) ?_
    exact m_iret hx hb hr hlocks hf hP hS dX12_end_18
  refine lv_aload_n hx hb dX12_end_0 rfl (lv_at hl 0 rfl) ?_
  refine lv_iconst (v := 0) hx hb dX12_end_1 (by decide) ?_
  refine mp_0 E hD hP hS dX12_end_2 (fun st1 H locs ex hP hS => ?_)
  replace hf := lt_at ex hf; clear ex
  refine lv_iload_n hx hb dX12_end_5 rfl (lv_at hl 1 rfl) ?_
  refine lv_if_lt (tgt := 17) hx hb dX12_end_6 (by decide) (fun hc => ?_) (fun hc => ?_)
  · replace hf := it_pos hc hf
    exact B17 st1 _ _ ls hf (lv_sub hl [] rfl) hP hS
  · replace hf := it_neg hc hf
    refine lv_iload_n hx hb dX12_end_9 rfl (lv_at hl 1 rfl) ?_
    refine lv_aload_n hx hb dX12_end_10 rfl (lv_at hl 0 rfl) ?_
    refine mg_13 E hP dX12_end_11 ?_
    refine lv_icmp_le (tgt := 19) hx hb dX12_end_14 (by decide) (fun hc => ?_) (fun hc => ?_)
    · replace hf := it_pos hc hf
      refine lv_aload_n hx hb dX12_end_19 rfl (lv_at hl 0 rfl) ?_
      refine lv_iload_n hx hb dX12_end_20 rfl (lv_at hl 1 rfl) ?_
      refine mp_13 E hD hP hS dX12_end_21 (fun st2 H locs ex hP hS => ?_)
      replace hf := lt_at ex hf; clear ex
      refine lv_iload_n hx hb dX12_end_24 rfl (lv_at hl 1 rfl) ?_
      exact m_iret hx hb hr hlocks hf hP hS dX12_end_25
    · replace hf := it_neg hc hf
      exact B17 st1 _ _ ls hf (lv_sub hl [] rfl) hP hS
theorem qX12_end : yX12_end.cls = RX12 ∧ yX12_end.cls ≠ "java/lang/invoke/MethodHandle" ∧ yX12_end.cls ≠ "java/lang/invoke/VarHandle" ∧ (parseMethodDescriptor yX12_end.desc).map (fun d => d.parameters.length) = some 1 := by decide +kernel
def fX12_isSmall_b17 (w0 : Int32) : Option Int32 := gb w0 (some w0)
def fX12_isSmall_b16 : Option Int32 := fX12_isSmall_b17 (0 : Int32)
def fX12_isSmall (a0 : Int32) : Option Int32 := if a0 < (97 : Int32) then (fX12_isSmall_b16 ) else (if (122 : Int32) < a0 then (fX12_isSmall_b16 ) else (fX12_isSmall_b17 (1 : Int32)))
set_option maxHeartbeats 4000000 in
set_option maxRecDepth 100000 in
theorem tX12_isSmall (l : Launch) (hh : Heap) (a0 : Int32) (rr : Int32) (hf : fX12_isSmall a0 = some rr) : Met l yX12_isSmall (Cond.code yX12_isSmall cX12_isSmall 1 (some .boolean) :: TT) (rmD 0) (sPc [.int a0] hh) (sQi rr hh) 0 0 (fun _ => False) := by
  refine s_meti (by decide) (Nat.le_of_ble_eq_true rfl) (fun p e s m args below meth c ls E hx hb hr hlocks hown hT hl => ?_)
  replace hl : lv_has ls 1 [(0, .int a0)] := hl
  unfold fX12_isSmall at hf
  have B17 : ∀ (w0 : Int32) (ls : Array Slot), fX12_isSmall_b17 w0 = some rr → lv_has ls 1 [] → sGi l 0 rr p e s m args below meth c (F0 m 17 ls [.int w0]) := by
    intro w0 ls hf hl
    unfold fX12_isSmall_b17 at hf
    obtain ⟨hn, hf⟩ := gb_some hf
    exact s_zret hx hb hr hlocks hn hf dX12_isSmall_17
  have B16 : ∀ (ls : Array Slot), fX12_isSmall_b16  = some rr → lv_has ls 1 [] → sGi l 0 rr p e s m args below meth c (F0 m 16 ls []) := by
    intro  ls hf hl
    unfold fX12_isSmall_b16 at hf
    refine lv_iconst (v := 0) hx hb dX12_isSmall_16 (by decide) ?_
    exact B17 (0 : Int32) ls hf hl
  refine lv_iload_n hx hb dX12_isSmall_0 rfl (lv_at hl 0 rfl) ?_
  refine lv_bipush (v := 97) hx hb dX12_isSmall_1 (by decide) ?_
  refine lv_icmp_lt (tgt := 16) hx hb dX12_isSmall_3 (by decide) (fun hc => ?_) (fun hc => ?_)
  · replace hf := it_pos hc hf
    exact B16  ls hf (lv_sub hl [] rfl)
  · replace hf := it_neg hc hf
    refine lv_iload_n hx hb dX12_isSmall_6 rfl (lv_at hl 0 rfl) ?_
    refine lv_bipush (v := 122) hx hb dX12_isSmall_7 (by decide) ?_
    refine lv_icmp_gt (tgt := 16) hx hb dX12_isSmall_9 (by decide) (fun hc => ?_) (fun hc => ?_)
    · replace hf := it_pos hc hf
      exact B16  ls hf (lv_sub hl [] rfl)
    · replace hf := it_neg hc hf
      refine lv_iconst (v := 1) hx hb dX12_isSmall_12 (by decide) ?_
      refine lv_goto (tgt := 17) hx hb dX12_isSmall_13 (by decide) ?_
      exact B17 (1 : Int32) ls hf (lv_sub hl [] rfl)
theorem qX12_isSmall : yX12_isSmall.cls = RX12 ∧ yX12_isSmall.cls ≠ "java/lang/invoke/MethodHandle" ∧ yX12_isSmall.cls ≠ "java/lang/invoke/VarHandle" ∧ (parseMethodDescriptor yX12_isSmall.desc).map (fun d => d.parameters.length) = some 1 := by decide +kernel
