def fX12_isDigit_b17 (w0 : Int32) : Option Int32 := gb w0 (some w0)
def fX12_isDigit_b16 : Option Int32 := fX12_isDigit_b17 (0 : Int32)
def fX12_isDigit (a0 : Int32) : Option Int32 := if a0 < (48 : Int32) then (fX12_isDigit_b16 ) else (if (57 : Int32) < a0 then (fX12_isDigit_b16 ) else (fX12_isDigit_b17 (1 : Int32)))
set_option maxHeartbeats 4000000 in
set_option maxRecDepth 100000 in
theorem tX12_isDigit (l : Launch) (hh : Heap) (a0 : Int32) (rr : Int32) (hf : fX12_isDigit a0 = some rr) : Met l yX12_isDigit (Cond.code yX12_isDigit cX12_isDigit 1 (some .boolean) :: TT) (rmD 0) (sPc [.int a0] hh) (sQi rr hh) 0 0 (fun _ => False) := by
  refine s_meti (by decide) (Nat.le_of_ble_eq_true rfl) (fun p e s m args below meth c ls E hx hb hr hlocks hown hT hl => ?_)
  replace hl : lv_has ls 1 [(0, .int a0)] := hl
  unfold fX12_isDigit at hf
  have B17 : ∀ (w0 : Int32) (ls : Array Slot), fX12_isDigit_b17 w0 = some rr → lv_has ls 1 [] → sGi l 0 rr p e s m args below meth c (F0 m 17 ls [.int w0]) := by
    intro w0 ls hf hl
    unfold fX12_isDigit_b17 at hf
    obtain ⟨hn, hf⟩ := gb_some hf
    exact s_zret hx hb hr hlocks hn hf dX12_isDigit_17
  have B16 : ∀ (ls : Array Slot), fX12_isDigit_b16  = some rr → lv_has ls 1 [] → sGi l 0 rr p e s m args below meth c (F0 m 16 ls []) := by
    intro  ls hf hl
    unfold fX12_isDigit_b16 at hf
    refine lv_iconst (v := 0) hx hb dX12_isDigit_16 (by decide) ?_
    exact B17 (0 : Int32) ls hf hl
  refine lv_iload_n hx hb dX12_isDigit_0 rfl (lv_at hl 0 rfl) ?_
  refine lv_bipush (v := 48) hx hb dX12_isDigit_1 (by decide) ?_
  refine lv_icmp_lt (tgt := 16) hx hb dX12_isDigit_3 (by decide) (fun hc => ?_) (fun hc => ?_)
  · replace hf := it_pos hc hf
    exact B16  ls hf (lv_sub hl [] rfl)
  · replace hf := it_neg hc hf
    refine lv_iload_n hx hb dX12_isDigit_6 rfl (lv_at hl 0 rfl) ?_
    refine lv_bipush (v := 57) hx hb dX12_isDigit_7 (by decide) ?_
    refine lv_icmp_gt (tgt := 16) hx hb dX12_isDigit_9 (by decide) (fun hc => ?_) (fun hc => ?_)
    · replace hf := it_pos hc hf
      exact B16  ls hf (lv_sub hl [] rfl)
    · replace hf := it_neg hc hf
      refine lv_iconst (v := 1) hx hb dX12_isDigit_12 (by decide) ?_
      refine lv_goto (tgt := 17) hx hb dX12_isDigit_13 (by decide) ?_
      exact B17 (1 : Int32) ls hf (lv_sub hl [] rfl)
theorem qX12_isDigit : yX12_isDigit.cls = RX12 ∧ yX12_isDigit.cls ≠ "java/lang/invoke/MethodHandle" ∧ yX12_isDigit.cls ≠ "java/lang/invoke/VarHandle" ∧ (parseMethodDescriptor yX12_isDigit.desc).map (fun d => d.parameters.length) = some 1 := by decide +kernel
def fX12_nextToken_b335 (st : St) : Option (Unit × St) := some ((), st)
def fX12_nextToken_b319 (k243 : St → Option (Unit × St)) (w0 : Int64) (st : St) : Option (Unit × St) := lt (sJ st 17 w0) (fun st1 => lt (sI st1 15 ((st1.1 15) + (1 : Int32))) (fun st2 => k243 st2))
def fX12_nextToken_b243 (k243 : St → Option (Unit × St)) (st : St) : Option (Unit × St) := if (st.1 16) = (2 : Int32) then (if (st.1 13) ≤ (st.1 15) then (fX12_nextToken_b335 st) else (gi (st.1 15) 400 (bs (fX12_isDigit (st.2.2.1 12 (st.1 15).toNatClampNeg)) (fun r3 => if r3 = 0 then (fX12_nextToken_b335 st) else (if (lg_cmp (st.2.1 17) (1000000 : Int64)) ≤ 0 then (gi (st.1 15) 400 (fX12_nextToken_b319 k243 ((((st.2.1 17) * (10 : Int64)) + ((st.2.2.1 12 (st.1 15).toNatClampNeg).toInt64)) - (48 : Int64)) st)) else (fX12_nextToken_b319 k243 (st.2.1 17) st)))))) else (fX12_nextToken_b335 st)
def fX12_nextToken_b227 (k149 : St → Option (Unit × St)) (w0 : Int64) (st : St) : Option (Unit × St) := lt (sJ st 17 w0) (fun st4 => lt (sI st4 15 ((st4.1 15) + (1 : Int32))) (fun st5 => k149 st5))
def fX12_nextToken_b149 (k149 : St → Option (Unit × St)) (st : St) : Option (Unit × St) := if (st.1 16) = (1 : Int32) then (if (st.1 13) ≤ (st.1 15) then (lp (fun _ => none) (fX12_nextToken_b243) 6000 st) else (gi (st.1 15) 400 (bs (fX12_isSmall (st.2.2.1 12 (st.1 15).toNatClampNeg)) (fun r6 => if r6 = 0 then (lp (fun _ => none) (fX12_nextToken_b243) 6000 st) else (if (10 : Int32) ≤ ((st.1 15) - (st.1 14)) then (fX12_nextToken_b227 k149 (-1 : Int64) st) else (gi (st.1 15) 400 (fX12_nextToken_b227 k149 ((((st.2.1 17) * (32 : Int64)) + ((st.2.2.1 12 (st.1 15).toNatClampNeg).toInt64)) - (96 : Int64)) st))))))) else (lp (fun _ => none) (fX12_nextToken_b243) 6000 st)
def fX12_nextToken_b114 (w0 : Int32) (st : St) : Option (Unit × St) := lt (sI st 16 w0) (fun st7 => if (st7.1 16) = (3 : Int32) then (gi (st7.1 14) 400 (lt (sJ st7 17 ((st7.2.2.1 12 (st7.1 14).toNatClampNeg).toInt64)) (fun st8 => lt (sI st8 15 ((st8.1 15) + (1 : Int32))) (fun st9 => lp (fun _ => none) (fX12_nextToken_b149) 6000 st9)))) else (lp (fun _ => none) (fX12_nextToken_b149) 6000 st7))
def fX12_nextToken_b46 (st : St) : Option (Unit × St) := lt (sI st 15 (st.1 14)) (fun st10 => lt (sJ st10 17 (0 : Int64)) (fun st11 => if (st11.1 14) = (st11.1 13) then (fX12_nextToken_b114 (0 : Int32) st11) else (gi (st11.1 14) 400 (bs (fX12_isSmall (st11.2.2.1 12 (st11.1 14).toNatClampNeg)) (fun r12 => if r12 = 0 then (gi (st11.1 14) 400 (bs (fX12_isDigit (st11.2.2.1 12 (st11.1 14).toNatClampNeg)) (fun r13 => if r13 = 0 then (fX12_nextToken_b114 (3 : Int32) st11) else (fX12_nextToken_b114 (2 : Int32) st11)))) else (fX12_nextToken_b114 (1 : Int32) st11))))))
def fX12_nextToken_b8 (k8 : St → Option (Unit × St)) (st : St) : Option (Unit × St) := if (st.1 13) ≤ (st.1 14) then (fX12_nextToken_b46 st) else (gi (st.1 14) 400 (if (st.2.2.1 12 (st.1 14).toNatClampNeg) = (32 : Int32) then (lt (sI st 14 ((st.1 14) + (1 : Int32))) (fun st14 => k8 st14)) else (fX12_nextToken_b46 st)))
def fX12_nextToken (st : St) : Option (Unit × St) := lt (sI st 14 (st.1 15)) (fun st15 => lp (fun _ => none) (fX12_nextToken_b8) 6000 st15)
set_option maxHeartbeats 4000000 in
set_option maxRecDepth 100000 in
theorem tX12_nextToken (l : Launch) (D : va_G) (cy : Nat → ClassId) (ad : Nat → Nat) (hJ : (mads ad).Nodup) (sz : Nat) (st : St) (rr : Unit) (st' : St) (hf : fX12_nextToken  st = some (rr, st')) : Met l yX12_nextToken (Cond.code yX12_nextToken cX12_nextToken 1 none :: TT) (rmD 1) (mPc D cy ad [] st sz) (mQv D cy ad rr st' sz) 0 0 (mA ad sz) := by
  refine m_metv (by decide) hJ (Nat.le_of_ble_eq_true rfl) (fun p e s m args below meth c ls E hx hb hr hlocks hown hT hD hl hP hS => ?_)
  replace hl : lv_has ls 1 [(0, .ref (ad 100))] := hl
  unfold fX12_nextToken at hf
  have B335 : ∀ (st : St) (H : Heap) (locs : List Loc) (ls : Array Slot), fX12_nextToken_b335 st = some (rr, st') → lv_has ls 1 [] → va_P D classes (mw cy ad st) H → va_S (mA ad s.heap.size) s.heap H locs → mGv l 1 D cy ad rr st' p e s m args below meth c H locs (F0 m 335 ls []) := by
    intro st H locs ls hf hl hP hS
    unfold fX12_nextToken_b335 at hf
    exact m_vret hx hb hr hlocks hf hP hS dX12_nextToken_335
  have L243 : ∀ (n : Nat) (st : St) (H : Heap) (locs : List Loc) (ls : Array Slot), lp (fun _ => none) (fX12_nextToken_b243) n st = some (rr, st') → lv_has ls 1 [(0, .ref (ad 100))] → va_P D classes (mw cy ad st) H → va_S (mA ad s.heap.size) s.heap H locs → mGv l 1 D cy ad rr st' p e s m args below meth c H locs (F0 m 243 ls []) := by
    intro n
    induction n with
    | zero => intro st H locs ls hf; exact absurd hf (fun h => by cases h)
    | succ n K243 =>
      intro st H locs ls hf hl hP hS
      replace hf : fX12_nextToken_b243 (lp (fun _ => none) (fX12_nextToken_b243) n) st = some (rr, st') := hf
      generalize lp (fun _ => none) (fX12_nextToken_b243) n = k243 at hf K243
      have B319 : ∀ (w0 : Int64) (st : St) (H : Heap) (locs : List Loc) (ls : Array Slot), fX12_nextToken_b319 k243 w0 st = some (rr, st') → lv_has ls 1 [(0, .ref (ad 100))] → va_P D classes (mw cy ad st) H → va_S (mA ad s.heap.size) s.heap H locs → mGv l 1 D cy ad rr st' p e s m args below meth c H locs (F0 m 319 ls [.long w0, .ref (ad 100)]) := by
        intro w0 st H locs ls hf hl hP hS
        unfold fX12_nextToken_b319 at hf
        refine mp_17 E hD hP hS dX12_nextToken_319 (fun st1 H locs ex hP hS => ?_)
        replace hf := lt_at ex hf; clear ex
        refine lv_aload_n hx hb dX12_nextToken_322 rfl (lv_at hl 0 rfl) ?_
        refine lv_dup hx hb dX12_nextToken_323 rfl ?_
        refine mg_15 E hP dX12_nextToken_324 ?_
        refine lv_iconst (v := 1) hx hb dX12_nextToken_327 (by decide) ?_
        refine lv_iadd hx hb dX12_nextToken_328 ?_
        refine mp_15 E hD hP hS dX12_nextToken_329 (fun st2 H locs ex hP hS => ?_)
        replace hf := lt_at ex hf; clear ex
        refine lv_goto (tgt := 243) hx hb dX12_nextToken_332 (by decide) ?_
        exact K243 st2 _ _ ls hf hl hP hS
      unfold fX12_nextToken_b243 at hf
      refine lv_aload_n hx hb dX12_nextToken_243 rfl (lv_at hl 0 rfl) ?_
      refine mg_16 E hP dX12_nextToken_244 ?_
      refine lv_iconst (v := 2) hx hb dX12_nextToken_247 (by decide) ?_
      refine lv_icmp_ne (tgt := 335) hx hb dX12_nextToken_248 (by decide) (fun hc => ?_) (fun hc => ?_)
      · replace hf := it_neg hc hf
        exact B335 st _ _ ls hf (lv_sub hl [] rfl) hP hS
      · replace hf := it_pos hc hf
        refine lv_aload_n hx hb dX12_nextToken_251 rfl (lv_at hl 0 rfl) ?_
        refine mg_15 E hP dX12_nextToken_252 ?_
        refine lv_aload_n hx hb dX12_nextToken_255 rfl (lv_at hl 0 rfl) ?_
        refine mg_13 E hP dX12_nextToken_256 ?_
        refine lv_icmp_ge (tgt := 335) hx hb dX12_nextToken_259 (by decide) (fun hc => ?_) (fun hc => ?_)
        · replace hf := it_pos hc hf
          exact B335 st _ _ ls hf (lv_sub hl [] rfl) hP hS
        · replace hf := it_neg hc hf
          refine lv_aload_n hx hb dX12_nextToken_262 rfl (lv_at hl 0 rfl) ?_
          refine mg_12 E hP dX12_nextToken_263 ?_
          refine lv_aload_n hx hb dX12_nextToken_266 rfl (lv_at hl 0 rfl) ?_
          refine mg_15 E hP dX12_nextToken_267 ?_
          obtain ⟨hi, hf⟩ := gi_some hf
          refine ml_12 E hP hi dX12_nextToken_270 ?_
          obtain ⟨r3, hc, hf⟩ := bs_some hf
          refine s_calli (n := 1) (rest := []) E.1 (tX12_isDigit l _ (st.2.2.1 12 (st.1 15).toNatClampNeg) r3 hc) (gS k_1460 k_1461 k_14 k_1462) qX12_isDigit ⟨Nat.le_of_ble_eq_true rfl, Nat.le_of_ble_eq_true rfl⟩ ⟨Nat.le_refl _, Nat.le_refl _⟩ rfl hl.1 rfl (Nat.le_of_ble_eq_true rfl) dX12_nextToken_271 ?_
          refine lv_if_eq (tgt := 335) hx hb dX12_nextToken_274 (by decide) (fun hc => ?_) (fun hc => ?_)
          · replace hf := it_pos hc hf
            exact B335 st _ _ ls hf (lv_sub hl [] rfl) hP hS
          · replace hf := it_neg hc hf
            refine lv_aload_n hx hb dX12_nextToken_277 rfl (lv_at hl 0 rfl) ?_
            refine lv_aload_n hx hb dX12_nextToken_278 rfl (lv_at hl 0 rfl) ?_
            refine mg_17 E hP dX12_nextToken_279 ?_
            refine lv_ldc2 (v := 1000000) hx hb hown (hT _ k_1383) dX12_nextToken_282 ?_
            refine W.lcmp hx hb dX12_nextToken_285 ?_
            refine lv_if_le (tgt := 296) hx hb dX12_nextToken_286 (by decide) (fun hc => ?_) (fun hc => ?_)
            · replace hf := it_pos hc hf
              refine lv_aload_n hx hb dX12_nextToken_296 rfl (lv_at hl 0 rfl) ?_
              refine mg_17 E hP dX12_nextToken_297 ?_
              refine lv_ldc2 (v := 10) hx hb hown (hT _ k_1398) dX12_nextToken_300 ?_
              refine lv_lmul hx hb dX12_nextToken_303 ?_
              refine lv_aload_n hx hb dX12_nextToken_304 rfl (lv_at hl 0 rfl) ?_
              refine mg_12 E hP dX12_nextToken_305 ?_
              refine lv_aload_n hx hb dX12_nextToken_308 rfl (lv_at hl 0 rfl) ?_
              refine mg_15 E hP dX12_nextToken_309 ?_
              obtain ⟨hi, hf⟩ := gi_some hf
              refine ml_12 E hP hi dX12_nextToken_312 ?_
              refine lv_i2l (v := (st.2.2.1 12 (st.1 15).toNatClampNeg).toInt64) hx hb dX12_nextToken_313 rfl ?_
              refine lv_ladd hx hb dX12_nextToken_314 ?_
              refine lv_ldc2 (v := 48) hx hb hown (hT _ k_1466) dX12_nextToken_315 ?_
              refine lv_lsub hx hb dX12_nextToken_318 ?_
              exact B319 ((((st.2.1 17) * (10 : Int64)) + ((st.2.2.1 12 (st.1 15).toNatClampNeg).toInt64)) - (48 : Int64)) st _ _ ls hf hl hP hS
            · replace hf := it_neg hc hf
              refine lv_aload_n hx hb dX12_nextToken_289 rfl (lv_at hl 0 rfl) ?_
              refine mg_17 E hP dX12_nextToken_290 ?_
              refine lv_goto (tgt := 319) hx hb dX12_nextToken_293 (by decide) ?_
              exact B319 (st.2.1 17) st _ _ ls hf hl hP hS
  have L149 : ∀ (n : Nat) (st : St) (H : Heap) (locs : List Loc) (ls : Array Slot), lp (fun _ => none) (fX12_nextToken_b149) n st = some (rr, st') → lv_has ls 1 [(0, .ref (ad 100))] → va_P D classes (mw cy ad st) H → va_S (mA ad s.heap.size) s.heap H locs → mGv l 1 D cy ad rr st' p e s m args below meth c H locs (F0 m 149 ls []) := by
    intro n
    induction n with
    | zero => intro st H locs ls hf; exact absurd hf (fun h => by cases h)
    | succ n K149 =>
      intro st H locs ls hf hl hP hS
      replace hf : fX12_nextToken_b149 (lp (fun _ => none) (fX12_nextToken_b149) n) st = some (rr, st') := hf
      generalize lp (fun _ => none) (fX12_nextToken_b149) n = k149 at hf K149
      have B227 : ∀ (w0 : Int64) (st : St) (H : Heap) (locs : List Loc) (ls : Array Slot), fX12_nextToken_b227 k149 w0 st = some (rr, st') → lv_has ls 1 [(0, .ref (ad 100))] → va_P D classes (mw cy ad st) H → va_S (mA ad s.heap.size) s.heap H locs → mGv l 1 D cy ad rr st' p e s m args below meth c H locs (F0 m 227 ls [.long w0, .ref (ad 100)]) := by
        intro w0 st H locs ls hf hl hP hS
        unfold fX12_nextToken_b227 at hf
        refine mp_17 E hD hP hS dX12_nextToken_227 (fun st4 H locs ex hP hS => ?_)
        replace hf := lt_at ex hf; clear ex
        refine lv_aload_n hx hb dX12_nextToken_230 rfl (lv_at hl 0 rfl) ?_
        refine lv_dup hx hb dX12_nextToken_231 rfl ?_
        refine mg_15 E hP dX12_nextToken_232 ?_
        refine lv_iconst (v := 1) hx hb dX12_nextToken_235 (by decide) ?_
        refine lv_iadd hx hb dX12_nextToken_236 ?_
        refine mp_15 E hD hP hS dX12_nextToken_237 (fun st5 H locs ex hP hS => ?_)
        replace hf := lt_at ex hf; clear ex
        refine lv_goto (tgt := 149) hx hb dX12_nextToken_240 (by decide) ?_
        exact K149 st5 _ _ ls hf hl hP hS
      unfold fX12_nextToken_b149 at hf
      refine lv_aload_n hx hb dX12_nextToken_149 rfl (lv_at hl 0 rfl) ?_
      refine mg_16 E hP dX12_nextToken_150 ?_
      refine lv_iconst (v := 1) hx hb dX12_nextToken_153 (by decide) ?_
      refine lv_icmp_ne (tgt := 243) hx hb dX12_nextToken_154 (by decide) (fun hc => ?_) (fun hc => ?_)
      · replace hf := it_neg hc hf
        exact L243 6000 st _ _ ls hf hl hP hS
      · replace hf := it_pos hc hf
        refine lv_aload_n hx hb dX12_nextToken_157 rfl (lv_at hl 0 rfl) ?_
        refine mg_15 E hP dX12_nextToken_158 ?_
        refine lv_aload_n hx hb dX12_nextToken_161 rfl (lv_at hl 0 rfl) ?_
        refine mg_13 E hP dX12_nextToken_162 ?_
        refine lv_icmp_ge (tgt := 243) hx hb dX12_nextToken_165 (by decide) (fun hc => ?_) (fun hc => ?_)
        · replace hf := it_pos hc hf
          exact L243 6000 st _ _ ls hf hl hP hS
        · replace hf := it_neg hc hf
          refine lv_aload_n hx hb dX12_nextToken_168 rfl (lv_at hl 0 rfl) ?_
          refine mg_12 E hP dX12_nextToken_169 ?_
          refine lv_aload_n hx hb dX12_nextToken_172 rfl (lv_at hl 0 rfl) ?_
          refine mg_15 E hP dX12_nextToken_173 ?_
          obtain ⟨hi, hf⟩ := gi_some hf
          refine ml_12 E hP hi dX12_nextToken_176 ?_
          obtain ⟨r6, hc, hf⟩ := bs_some hf
          refine s_calli (n := 1) (rest := []) E.1 (tX12_isSmall l _ (st.2.2.1 12 (st.1 15).toNatClampNeg) r6 hc) (gS k_1457 k_1458 k_14 k_1459) qX12_isSmall ⟨Nat.le_of_ble_eq_true rfl, Nat.le_of_ble_eq_true rfl⟩ ⟨Nat.le_refl _, Nat.le_refl _⟩ rfl hl.1 rfl (Nat.le_of_ble_eq_true rfl) dX12_nextToken_177 ?_
          refine lv_if_eq (tgt := 243) hx hb dX12_nextToken_180 (by decide) (fun hc => ?_) (fun hc => ?_)
          · replace hf := it_pos hc hf
            exact L243 6000 st _ _ ls hf hl hP hS
          · replace hf := it_neg hc hf
            refine lv_aload_n hx hb dX12_nextToken_183 rfl (lv_at hl 0 rfl) ?_
            refine lv_aload_n hx hb dX12_nextToken_184 rfl (lv_at hl 0 rfl) ?_
            refine mg_15 E hP dX12_nextToken_185 ?_
            refine lv_aload_n hx hb dX12_nextToken_188 rfl (lv_at hl 0 rfl) ?_
            refine mg_14 E hP dX12_nextToken_189 ?_
            refine lv_isub hx hb dX12_nextToken_192 ?_
            refine lv_bipush (v := 10) hx hb dX12_nextToken_193 (by decide) ?_
            refine lv_icmp_ge (tgt := 224) hx hb dX12_nextToken_195 (by decide) (fun hc => ?_) (fun hc => ?_)
            · replace hf := it_pos hc hf
              refine lv_ldc2 (v := -1) hx hb hown (hT _ k_1465) dX12_nextToken_224 ?_
              exact B227 (-1 : Int64) st _ _ ls hf hl hP hS
            · replace hf := it_neg hc hf
              refine lv_aload_n hx hb dX12_nextToken_198 rfl (lv_at hl 0 rfl) ?_
              refine mg_17 E hP dX12_nextToken_199 ?_
              refine lv_ldc2 (v := 32) hx hb hown (hT _ k_1463) dX12_nextToken_202 ?_
              refine lv_lmul hx hb dX12_nextToken_205 ?_
              refine lv_aload_n hx hb dX12_nextToken_206 rfl (lv_at hl 0 rfl) ?_
              refine mg_12 E hP dX12_nextToken_207 ?_
              refine lv_aload_n hx hb dX12_nextToken_210 rfl (lv_at hl 0 rfl) ?_
              refine mg_15 E hP dX12_nextToken_211 ?_
              obtain ⟨hi, hf⟩ := gi_some hf
              refine ml_12 E hP hi dX12_nextToken_214 ?_
              refine lv_i2l (v := (st.2.2.1 12 (st.1 15).toNatClampNeg).toInt64) hx hb dX12_nextToken_215 rfl ?_
              refine lv_ladd hx hb dX12_nextToken_216 ?_
              refine lv_ldc2 (v := 96) hx hb hown (hT _ k_1464) dX12_nextToken_217 ?_
              refine lv_lsub hx hb dX12_nextToken_220 ?_
              refine lv_goto (tgt := 227) hx hb dX12_nextToken_221 (by decide) ?_
              exact B227 ((((st.2.1 17) * (32 : Int64)) + ((st.2.2.1 12 (st.1 15).toNatClampNeg).toInt64)) - (96 : Int64)) st _ _ ls hf hl hP hS
  have B114 : ∀ (w0 : Int32) (st : St) (H : Heap) (locs : List Loc) (ls : Array Slot), fX12_nextToken_b114 w0 st = some (rr, st') → lv_has ls 1 [(0, .ref (ad 100))] → va_P D classes (mw cy ad st) H → va_S (mA ad s.heap.size) s.heap H locs → mGv l 1 D cy ad rr st' p e s m args below meth c H locs (F0 m 114 ls [.int w0, .ref (ad 100)]) := by
    intro w0 st H locs ls hf hl hP hS
    unfold fX12_nextToken_b114 at hf
    refine mp_16 E hD hP hS dX12_nextToken_114 (fun st7 H locs ex hP hS => ?_)
    replace hf := lt_at ex hf; clear ex
    refine lv_aload_n hx hb dX12_nextToken_117 rfl (lv_at hl 0 rfl) ?_
    refine mg_16 E hP dX12_nextToken_118 ?_
    refine lv_iconst (v := 3) hx hb dX12_nextToken_121 (by decide) ?_
    refine lv_icmp_ne (tgt := 149) hx hb dX12_nextToken_122 (by decide) (fun hc => ?_) (fun hc => ?_)
    · replace hf := it_neg hc hf
      exact L149 6000 st7 _ _ ls hf hl hP hS
    · replace hf := it_pos hc hf
      refine lv_aload_n hx hb dX12_nextToken_125 rfl (lv_at hl 0 rfl) ?_
      refine lv_aload_n hx hb dX12_nextToken_126 rfl (lv_at hl 0 rfl) ?_
      refine mg_12 E hP dX12_nextToken_127 ?_
      refine lv_aload_n hx hb dX12_nextToken_130 rfl (lv_at hl 0 rfl) ?_
      refine mg_14 E hP dX12_nextToken_131 ?_
      obtain ⟨hi, hf⟩ := gi_some hf
      refine ml_12 E hP hi dX12_nextToken_134 ?_
      refine lv_i2l (v := (st7.2.2.1 12 (st7.1 14).toNatClampNeg).toInt64) hx hb dX12_nextToken_135 rfl ?_
      refine mp_17 E hD hP hS dX12_nextToken_136 (fun st8 H locs ex hP hS => ?_)
      replace hf := lt_at ex hf; clear ex
      refine lv_aload_n hx hb dX12_nextToken_139 rfl (lv_at hl 0 rfl) ?_
      refine lv_dup hx hb dX12_nextToken_140 rfl ?_
      refine mg_15 E hP dX12_nextToken_141 ?_
      refine lv_iconst (v := 1) hx hb dX12_nextToken_144 (by decide) ?_
      refine lv_iadd hx hb dX12_nextToken_145 ?_
      refine mp_15 E hD hP hS dX12_nextToken_146 (fun st9 H locs ex hP hS => ?_)
      replace hf := lt_at ex hf; clear ex
      exact L149 6000 st9 _ _ ls hf hl hP hS
  have B46 : ∀ (st : St) (H : Heap) (locs : List Loc) (ls : Array Slot), fX12_nextToken_b46 st = some (rr, st') → lv_has ls 1 [(0, .ref (ad 100))] → va_P D classes (mw cy ad st) H → va_S (mA ad s.heap.size) s.heap H locs → mGv l 1 D cy ad rr st' p e s m args below meth c H locs (F0 m 46 ls []) := by
    intro st H locs ls hf hl hP hS
    unfold fX12_nextToken_b46 at hf
    refine lv_aload_n hx hb dX12_nextToken_46 rfl (lv_at hl 0 rfl) ?_
    refine lv_aload_n hx hb dX12_nextToken_47 rfl (lv_at hl 0 rfl) ?_
    refine mg_14 E hP dX12_nextToken_48 ?_
    refine mp_15 E hD hP hS dX12_nextToken_51 (fun st10 H locs ex hP hS => ?_)
    replace hf := lt_at ex hf; clear ex
    refine lv_aload_n hx hb dX12_nextToken_54 rfl (lv_at hl 0 rfl) ?_
    refine lv_lconst (v := 0) hx hb dX12_nextToken_55 (by decide) ?_
    refine mp_17 E hD hP hS dX12_nextToken_56 (fun st11 H locs ex hP hS => ?_)
    replace hf := lt_at ex hf; clear ex
    refine lv_aload_n hx hb dX12_nextToken_59 rfl (lv_at hl 0 rfl) ?_
    refine lv_aload_n hx hb dX12_nextToken_60 rfl (lv_at hl 0 rfl) ?_
    refine mg_14 E hP dX12_nextToken_61 ?_
    refine lv_aload_n hx hb dX12_nextToken_64 rfl (lv_at hl 0 rfl) ?_
    refine mg_13 E hP dX12_nextToken_65 ?_
    refine lv_icmp_ne (tgt := 75) hx hb dX12_nextToken_68 (by decide) (fun hc => ?_) (fun hc => ?_)
    · replace hf := it_neg hc hf
      refine lv_aload_n hx hb dX12_nextToken_75 rfl (lv_at hl 0 rfl) ?_
      refine mg_12 E hP dX12_nextToken_76 ?_
      refine lv_aload_n hx hb dX12_nextToken_79 rfl (lv_at hl 0 rfl) ?_
      refine mg_14 E hP dX12_nextToken_80 ?_
      obtain ⟨hi, hf⟩ := gi_some hf
      refine ml_12 E hP hi dX12_nextToken_83 ?_
      obtain ⟨r12, hc, hf⟩ := bs_some hf
      refine s_calli (n := 1) (rest := [.ref (ad 100)]) E.1 (tX12_isSmall l _ (st11.2.2.1 12 (st11.1 14).toNatClampNeg) r12 hc) (gS k_1457 k_1458 k_14 k_1459) qX12_isSmall ⟨Nat.le_of_ble_eq_true rfl, Nat.le_of_ble_eq_true rfl⟩ ⟨Nat.le_refl _, Nat.le_refl _⟩ rfl hl.1 rfl (Nat.le_of_ble_eq_true rfl) dX12_nextToken_84 ?_
      refine lv_if_eq (tgt := 94) hx hb dX12_nextToken_87 (by decide) (fun hc => ?_) (fun hc => ?_)
      · replace hf := it_pos hc hf
        refine lv_aload_n hx hb dX12_nextToken_94 rfl (lv_at hl 0 rfl) ?_
        refine mg_12 E hP dX12_nextToken_95 ?_
        refine lv_aload_n hx hb dX12_nextToken_98 rfl (lv_at hl 0 rfl) ?_
        refine mg_14 E hP dX12_nextToken_99 ?_
        obtain ⟨hi, hf⟩ := gi_some hf
        refine ml_12 E hP hi dX12_nextToken_102 ?_
        obtain ⟨r13, hc, hf⟩ := bs_some hf
        refine s_calli (n := 1) (rest := [.ref (ad 100)]) E.1 (tX12_isDigit l _ (st11.2.2.1 12 (st11.1 14).toNatClampNeg) r13 hc) (gS k_1460 k_1461 k_14 k_1462) qX12_isDigit ⟨Nat.le_of_ble_eq_true rfl, Nat.le_of_ble_eq_true rfl⟩ ⟨Nat.le_refl _, Nat.le_refl _⟩ rfl hl.1 rfl (Nat.le_of_ble_eq_true rfl) dX12_nextToken_103 ?_
        refine lv_if_eq (tgt := 113) hx hb dX12_nextToken_106 (by decide) (fun hc => ?_) (fun hc => ?_)
        · replace hf := it_pos hc hf
          refine lv_iconst (v := 3) hx hb dX12_nextToken_113 (by decide) ?_
          exact B114 (3 : Int32) st11 _ _ ls hf hl hP hS
        · replace hf := it_neg hc hf
          refine lv_iconst (v := 2) hx hb dX12_nextToken_109 (by decide) ?_
          refine lv_goto (tgt := 114) hx hb dX12_nextToken_110 (by decide) ?_
          exact B114 (2 : Int32) st11 _ _ ls hf hl hP hS
      · replace hf := it_neg hc hf
        refine lv_iconst (v := 1) hx hb dX12_nextToken_90 (by decide) ?_
        refine lv_goto (tgt := 114) hx hb dX12_nextToken_91 (by decide) ?_
        exact B114 (1 : Int32) st11 _ _ ls hf hl hP hS
    · replace hf := it_pos hc hf
      refine lv_iconst (v := 0) hx hb dX12_nextToken_71 (by decide) ?_
      refine lv_goto (tgt := 114) hx hb dX12_nextToken_72 (by decide) ?_
      exact B114 (0 : Int32) st11 _ _ ls hf hl hP hS
  have L8 : ∀ (n : Nat) (st : St) (H : Heap) (locs : List Loc) (ls : Array Slot), lp (fun _ => none) (fX12_nextToken_b8) n st = some (rr, st') → lv_has ls 1 [(0, .ref (ad 100))] → va_P D classes (mw cy ad st) H → va_S (mA ad s.heap.size) s.heap H locs → mGv l 1 D cy ad rr st' p e s m args below meth c H locs (F0 m 8 ls []) := by
    intro n
    induction n with
    | zero => intro st H locs ls hf; exact absurd hf (fun h => by cases h)
    | succ n K8 =>
      intro st H locs ls hf hl hP hS
      replace hf : fX12_nextToken_b8 (lp (fun _ => none) (fX12_nextToken_b8) n) st = some (rr, st') := hf
      generalize lp (fun _ => none) (fX12_nextToken_b8) n = k8 at hf K8
      unfold fX12_nextToken_b8 at hf
      refine lv_aload_n hx hb dX12_nextToken_8 rfl (lv_at hl 0 rfl) ?_
      refine mg_14 E hP dX12_nextToken_9 ?_
      refine lv_aload_n hx hb dX12_nextToken_12 rfl (lv_at hl 0 rfl) ?_
      refine mg_13 E hP dX12_nextToken_13 ?_
      refine lv_icmp_ge (tgt := 46) hx hb dX12_nextToken_16 (by decide) (fun hc => ?_) (fun hc => ?_)
      · replace hf := it_pos hc hf
        exact B46 st _ _ ls hf hl hP hS
      · replace hf := it_neg hc hf
        refine lv_aload_n hx hb dX12_nextToken_19 rfl (lv_at hl 0 rfl) ?_
        refine mg_12 E hP dX12_nextToken_20 ?_
        refine lv_aload_n hx hb dX12_nextToken_23 rfl (lv_at hl 0 rfl) ?_
        refine mg_14 E hP dX12_nextToken_24 ?_
        obtain ⟨hi, hf⟩ := gi_some hf
        refine ml_12 E hP hi dX12_nextToken_27 ?_
        refine lv_bipush (v := 32) hx hb dX12_nextToken_28 (by decide) ?_
        refine lv_icmp_ne (tgt := 46) hx hb dX12_nextToken_30 (by decide) (fun hc => ?_) (fun hc => ?_)
        · replace hf := it_neg hc hf
          exact B46 st _ _ ls hf hl hP hS
        · replace hf := it_pos hc hf
          refine lv_aload_n hx hb dX12_nextToken_33 rfl (lv_at hl 0 rfl) ?_
          refine lv_dup hx hb dX12_nextToken_34 rfl ?_
          refine mg_14 E hP dX12_nextToken_35 ?_
          refine lv_iconst (v := 1) hx hb dX12_nextToken_38 (by decide) ?_
          refine lv_iadd hx hb dX12_nextToken_39 ?_
          refine mp_14 E hD hP hS dX12_nextToken_40 (fun st14 H locs ex hP hS => ?_)
          replace hf := lt_at ex hf; clear ex
          refine lv_goto (tgt := 8) hx hb dX12_nextToken_43 (by decide) ?_
          exact K8 st14 _ _ ls hf hl hP hS
  refine lv_aload_n hx hb dX12_nextToken_0 rfl (lv_at hl 0 rfl) ?_
  refine lv_aload_n hx hb dX12_nextToken_1 rfl (lv_at hl 0 rfl) ?_
  refine mg_15 E hP dX12_nextToken_2 ?_
  refine mp_14 E hD hP hS dX12_nextToken_5 (fun st15 H locs ex hP hS => ?_)
  replace hf := lt_at ex hf; clear ex
  exact L8 6000 st15 _ _ ls hf hl hP hS
theorem qX12_nextToken : yX12_nextToken.cls = RX12 ∧ yX12_nextToken.cls ≠ "java/lang/invoke/MethodHandle" ∧ yX12_nextToken.cls ≠ "java/lang/invoke/VarHandle" ∧ (parseMethodDescriptor yX12_nextToken.desc).map (fun d => d.parameters.length) = some 0 := by decide +kernel
def fX12_begin (st : St) : Option (Unit × St) := lt (sI st 15 (0 : Int32)) (fun st1 => lt (sI st1 19 (0 : Int32)) (fun st2 => lt (sI st2 18 (-1 : Int32)) (fun st3 => bd (fX12_nextToken st3) (fun r4 st5 => some ((), st5)))))
set_option maxHeartbeats 4000000 in
set_option maxRecDepth 100000 in
theorem tX12_begin (l : Launch) (D : va_G) (cy : Nat → ClassId) (ad : Nat → Nat) (hJ : (mads ad).Nodup) (sz : Nat) (st : St) (rr : Unit) (st' : St) (hf : fX12_begin  st = some (rr, st')) : Met l yX12_begin (Cond.code yX12_begin cX12_begin 1 none :: TT) (rmD 2) (mPc D cy ad [] st sz) (mQv D cy ad rr st' sz) 0 0 (mA ad sz) := by
  refine m_metv (by decide) hJ (Nat.le_of_ble_eq_true rfl) (fun p e s m args below meth c ls E hx hb hr hlocks hown hT hD hl hP hS => ?_)
  replace hl : lv_has ls 1 [(0, .ref (ad 100))] := hl
  unfold fX12_begin at hf
  refine lv_aload_n hx hb dX12_begin_0 rfl (lv_at hl 0 rfl) ?_
  refine lv_iconst (v := 0) hx hb dX12_begin_1 (by decide) ?_
  refine mp_15 E hD hP hS dX12_begin_2 (fun st1 H locs ex hP hS => ?_)
  replace hf := lt_at ex hf; clear ex
  refine lv_aload_n hx hb dX12_begin_5 rfl (lv_at hl 0 rfl) ?_
  refine lv_iconst (v := 0) hx hb dX12_begin_6 (by decide) ?_
  refine mp_19 E hD hP hS (by decide) dX12_begin_7 (fun st2 H locs ex hP hS => ?_)
  replace hf := lt_at ex hf; clear ex
  refine lv_aload_n hx hb dX12_begin_10 rfl (lv_at hl 0 rfl) ?_
  refine lv_iconst (v := -1) hx hb dX12_begin_11 (by decide) ?_
  refine mp_18 E hD hP hS dX12_begin_12 (fun st3 H locs ex hP hS => ?_)
  replace hf := lt_at ex hf; clear ex
  refine lv_aload_n hx hb dX12_begin_15 rfl (lv_at hl 0 rfl) ?_
  obtain ⟨r4, st5, hc, hf⟩ := bd_some hf
  refine m_callv (n := 0) (rest := []) E hP hS (fun sz => tX12_nextToken l D cy ad hJ sz st3 r4 st5 hc) (gV k_1453 k_1455 ks_47 k_14 k_1456) qX12_nextToken ⟨Nat.le_of_ble_eq_true rfl, Nat.le_of_ble_eq_true rfl⟩ ⟨Nat.le_refl _, Nat.le_refl _⟩ rfl hl.1 rfl (Nat.le_of_ble_eq_true rfl) dX12_begin_16 (fun H locs hP hS => ?_)
  exact m_vret hx hb hr hlocks hf hP hS dX12_begin_19
theorem qX12_begin : yX12_begin.cls = RX12 ∧ yX12_begin.cls ≠ "java/lang/invoke/MethodHandle" ∧ yX12_begin.cls ≠ "java/lang/invoke/VarHandle" ∧ (parseMethodDescriptor yX12_begin.desc).map (fun d => d.parameters.length) = some 0 := by decide +kernel
def fX12_isWord_b22 (w0 : Int32) (st : St) : Option (Int32 × St) := gb w0 (some (w0, st))
def fX12_isWord_b21 (st : St) : Option (Int32 × St) := fX12_isWord_b22 (0 : Int32) st
def fX12_isWord (a0 : Int64) (st : St) : Option (Int32 × St) := if (st.1 16) = (1 : Int32) then (if (lg_cmp (st.2.1 17) a0) = 0 then (fX12_isWord_b22 (1 : Int32) st) else (fX12_isWord_b21 st)) else (fX12_isWord_b21 st)
set_option maxHeartbeats 4000000 in
set_option maxRecDepth 100000 in
theorem tX12_isWord (l : Launch) (D : va_G) (cy : Nat → ClassId) (ad : Nat → Nat) (hJ : (mads ad).Nodup) (sz : Nat) (a0 : Int64) (st : St) (rr : Int32) (st' : St) (hf : fX12_isWord a0 st = some (rr, st')) : Met l yX12_isWord (Cond.code yX12_isWord cX12_isWord 3 (some .boolean) :: TT) (rmD 0) (mPc D cy ad [.long a0] st sz) (mQi D cy ad rr st' sz) 0 0 (mA ad sz) := by
  refine m_meti (by decide) hJ (Nat.le_of_ble_eq_true rfl) (fun p e s m args below meth c ls E hx hb hr hlocks hown hT hD hl hP hS => ?_)
  replace hl : lv_has ls 3 [(0, .ref (ad 100)), (1, .long a0)] := hl
  unfold fX12_isWord at hf
  have B22 : ∀ (w0 : Int32) (st : St) (H : Heap) (locs : List Loc) (ls : Array Slot), fX12_isWord_b22 w0 st = some (rr, st') → lv_has ls 3 [] → va_P D classes (mw cy ad st) H → va_S (mA ad s.heap.size) s.heap H locs → mGi l 0 D cy ad rr st' p e s m args below meth c H locs (F0 m 22 ls [.int w0]) := by
    intro w0 st H locs ls hf hl hP hS
    unfold fX12_isWord_b22 at hf
    obtain ⟨hn, hf⟩ := gb_some hf
    exact m_zret hx hb hr hlocks hn hf hP hS dX12_isWord_22
  have B21 : ∀ (st : St) (H : Heap) (locs : List Loc) (ls : Array Slot), fX12_isWord_b21 st = some (rr, st') → lv_has ls 3 [] → va_P D classes (mw cy ad st) H → va_S (mA ad s.heap.size) s.heap H locs → mGi l 0 D cy ad rr st' p e s m args below meth c H locs (F0 m 21 ls []) := by
    intro st H locs ls hf hl hP hS
    unfold fX12_isWord_b21 at hf
    refine lv_iconst (v := 0) hx hb dX12_isWord_21 (by decide) ?_
    exact B22 (0 : Int32) st _ _ ls hf hl hP hS
  refine lv_aload_n hx hb dX12_isWord_0 rfl (lv_at hl 0 rfl) ?_
  refine mg_16 E hP dX12_isWord_1 ?_
  refine lv_iconst (v := 1) hx hb dX12_isWord_4 (by decide) ?_
  refine lv_icmp_ne (tgt := 21) hx hb dX12_isWord_5 (by decide) (fun hc => ?_) (fun hc => ?_)
  · replace hf := it_neg hc hf
    exact B21 st _ _ ls hf (lv_sub hl [] rfl) hP hS
  · replace hf := it_pos hc hf
    refine lv_aload_n hx hb dX12_isWord_8 rfl (lv_at hl 0 rfl) ?_
    refine mg_17 E hP dX12_isWord_9 ?_
    refine lv_lload_n hx hb dX12_isWord_12 rfl (lv_at hl 1 rfl) ?_
    refine W.lcmp hx hb dX12_isWord_13 ?_
    refine lv_if_ne (tgt := 21) hx hb dX12_isWord_14 (by decide) (fun hc => ?_) (fun hc => ?_)
    · replace hf := it_neg hc hf
      exact B21 st _ _ ls hf (lv_sub hl [] rfl) hP hS
    · replace hf := it_pos hc hf
      refine lv_iconst (v := 1) hx hb dX12_isWord_17 (by decide) ?_
      refine lv_goto (tgt := 22) hx hb dX12_isWord_18 (by decide) ?_
      exact B22 (1 : Int32) st _ _ ls hf (lv_sub hl [] rfl) hP hS
theorem qX12_isWord : yX12_isWord.cls = RX12 ∧ yX12_isWord.cls ≠ "java/lang/invoke/MethodHandle" ∧ yX12_isWord.cls ≠ "java/lang/invoke/VarHandle" ∧ (parseMethodDescriptor yX12_isWord.desc).map (fun d => d.parameters.length) = some 1 := by decide +kernel
def fX12_isSign_b23 (w0 : Int32) (st : St) : Option (Int32 × St) := gb w0 (some (w0, st))
def fX12_isSign_b22 (st : St) : Option (Int32 × St) := fX12_isSign_b23 (0 : Int32) st
def fX12_isSign (a0 : Int32) (st : St) : Option (Int32 × St) := if (st.1 16) = (3 : Int32) then (if (lg_cmp (st.2.1 17) (a0.toInt64)) = 0 then (fX12_isSign_b23 (1 : Int32) st) else (fX12_isSign_b22 st)) else (fX12_isSign_b22 st)
set_option maxHeartbeats 4000000 in
set_option maxRecDepth 100000 in
theorem tX12_isSign (l : Launch) (D : va_G) (cy : Nat → ClassId) (ad : Nat → Nat) (hJ : (mads ad).Nodup) (sz : Nat) (a0 : Int32) (st : St) (rr : Int32) (st' : St) (hf : fX12_isSign a0 st = some (rr, st')) : Met l yX12_isSign (Cond.code yX12_isSign cX12_isSign 2 (some .boolean) :: TT) (rmD 0) (mPc D cy ad [.int a0] st sz) (mQi D cy ad rr st' sz) 0 0 (mA ad sz) := by
  refine m_meti (by decide) hJ (Nat.le_of_ble_eq_true rfl) (fun p e s m args below meth c ls E hx hb hr hlocks hown hT hD hl hP hS => ?_)
  replace hl : lv_has ls 2 [(0, .ref (ad 100)), (1, .int a0)] := hl
  unfold fX12_isSign at hf
  have B23 : ∀ (w0 : Int32) (st : St) (H : Heap) (locs : List Loc) (ls : Array Slot), fX12_isSign_b23 w0 st = some (rr, st') → lv_has ls 2 [] → va_P D classes (mw cy ad st) H → va_S (mA ad s.heap.size) s.heap H locs → mGi l 0 D cy ad rr st' p e s m args below meth c H locs (F0 m 23 ls [.int w0]) := by
    intro w0 st H locs ls hf hl hP hS
    unfold fX12_isSign_b23 at hf
    obtain ⟨hn, hf⟩ := gb_some hf
    exact m_zret hx hb hr hlocks hn hf hP hS dX12_isSign_23
  have B22 : ∀ (st : St) (H : Heap) (locs : List Loc) (ls : Array Slot), fX12_isSign_b22 st = some (rr, st') → lv_has ls 2 [] → va_P D classes (mw cy ad st) H → va_S (mA ad s.heap.size) s.heap H locs → mGi l 0 D cy ad rr st' p e s m args below meth c H locs (F0 m 22 ls []) := by
    intro st H locs ls hf hl hP hS
    unfold fX12_isSign_b22 at hf
    refine lv_iconst (v := 0) hx hb dX12_isSign_22 (by decide) ?_
    exact B23 (0 : Int32) st _ _ ls hf hl hP hS
  refine lv_aload_n hx hb dX12_isSign_0 rfl (lv_at hl 0 rfl) ?_
  refine mg_16 E hP dX12_isSign_1 ?_
  refine lv_iconst (v := 3) hx hb dX12_isSign_4 (by decide) ?_
  refine lv_icmp_ne (tgt := 22) hx hb dX12_isSign_5 (by decide) (fun hc => ?_) (fun hc => ?_)
  · replace hf := it_neg hc hf
    exact B22 st _ _ ls hf (lv_sub hl [] rfl) hP hS
  · replace hf := it_pos hc hf
    refine lv_aload_n hx hb dX12_isSign_8 rfl (lv_at hl 0 rfl) ?_
    refine mg_17 E hP dX12_isSign_9 ?_
    refine lv_iload_n hx hb dX12_isSign_12 rfl (lv_at hl 1 rfl) ?_
    refine lv_i2l (v := a0.toInt64) hx hb dX12_isSign_13 rfl ?_
    refine W.lcmp hx hb dX12_isSign_14 ?_
    refine lv_if_ne (tgt := 22) hx hb dX12_isSign_15 (by decide) (fun hc => ?_) (fun hc => ?_)
    · replace hf := it_neg hc hf
      exact B22 st _ _ ls hf (lv_sub hl [] rfl) hP hS
    · replace hf := it_pos hc hf
      refine lv_iconst (v := 1) hx hb dX12_isSign_18 (by decide) ?_
      refine lv_goto (tgt := 23) hx hb dX12_isSign_19 (by decide) ?_
      exact B23 (1 : Int32) st _ _ ls hf (lv_sub hl [] rfl) hP hS
theorem qX12_isSign : yX12_isSign.cls = RX12 ∧ yX12_isSign.cls ≠ "java/lang/invoke/MethodHandle" ∧ yX12_isSign.cls ≠ "java/lang/invoke/VarHandle" ∧ (parseMethodDescriptor yX12_isSign.desc).map (fun d => d.parameters.length) = some 1 := by decide +kernel
def fX12_must_b35 (st : St) : Option (Unit × St) := some ((), st)
def fX12_must_b24 (st : St) : Option (Unit × St) := if (st.1 19) = 0 then (bd (fX12_nextToken st) (fun r1 st2 => fX12_must_b35 st2)) else (fX12_must_b35 st)
def fX12_must (a0 : Int32) (st : St) : Option (Unit × St) := if (st.1 19) = 0 then (if a0 = 0 then (lt (sI st 19 (1 : Int32)) (fun st3 => lt (sI st3 18 (st3.1 14)) (fun st4 => fX12_must_b24 st4))) else (fX12_must_b24 st)) else (fX12_must_b24 st)
set_option maxHeartbeats 4000000 in
set_option maxRecDepth 100000 in
theorem tX12_must (l : Launch) (D : va_G) (cy : Nat → ClassId) (ad : Nat → Nat) (hJ : (mads ad).Nodup) (sz : Nat) (a0 : Int32) (st : St) (rr : Unit) (st' : St) (hf : fX12_must a0 st = some (rr, st')) : Met l yX12_must (Cond.code yX12_must cX12_must 2 none :: TT) (rmD 2) (mPc D cy ad [.int a0] st sz) (mQv D cy ad rr st' sz) 0 0 (mA ad sz) := by
  refine m_metv (by decide) hJ (Nat.le_of_ble_eq_true rfl) (fun p e s m args below meth c ls E hx hb hr hlocks hown hT hD hl hP hS => ?_)
  replace hl : lv_has ls 2 [(0, .ref (ad 100)), (1, .int a0)] := hl
  unfold fX12_must at hf
  have B35 : ∀ (st : St) (H : Heap) (locs : List Loc) (ls : Array Slot), fX12_must_b35 st = some (rr, st') → lv_has ls 2 [] → va_P D classes (mw cy ad st) H → va_S (mA ad s.heap.size) s.heap H locs → mGv l 2 D cy ad rr st' p e s m args below meth c H locs (F0 m 35 ls []) := by
    intro st H locs ls hf hl hP hS
    unfold fX12_must_b35 at hf
    exact m_vret hx hb hr hlocks hf hP hS dX12_must_35
  have B24 : ∀ (st : St) (H : Heap) (locs : List Loc) (ls : Array Slot), fX12_must_b24 st = some (rr, st') → lv_has ls 2 [(0, .ref (ad 100))] → va_P D classes (mw cy ad st) H → va_S (mA ad s.heap.size) s.heap H locs → mGv l 2 D cy ad rr st' p e s m args below meth c H locs (F0 m 24 ls []) := by
    intro st H locs ls hf hl hP hS
    unfold fX12_must_b24 at hf
    refine lv_aload_n hx hb dX12_must_24 rfl (lv_at hl 0 rfl) ?_
    refine mg_19 E hP dX12_must_25 ?_
    refine lv_if_ne (tgt := 35) hx hb dX12_must_28 (by decide) (fun hc => ?_) (fun hc => ?_)
    · replace hf := it_neg hc hf
      exact B35 st _ _ ls hf (lv_sub hl [] rfl) hP hS
    · replace hf := it_pos hc hf
      refine lv_aload_n hx hb dX12_must_31 rfl (lv_at hl 0 rfl) ?_
      obtain ⟨r1, st2, hc, hf⟩ := bd_some hf
      refine m_callv (n := 0) (rest := []) E hP hS (fun sz => tX12_nextToken l D cy ad hJ sz st r1 st2 hc) (gV k_1453 k_1455 ks_47 k_14 k_1456) qX12_nextToken ⟨Nat.le_of_ble_eq_true rfl, Nat.le_of_ble_eq_true rfl⟩ ⟨Nat.le_refl _, Nat.le_refl _⟩ rfl hl.1 rfl (Nat.le_of_ble_eq_true rfl) dX12_must_32 (fun H locs hP hS => ?_)
      exact B35 st2 _ _ ls hf (lv_sub hl [] rfl) hP hS
  refine lv_aload_n hx hb dX12_must_0 rfl (lv_at hl 0 rfl) ?_
  refine mg_19 E hP dX12_must_1 ?_
  refine lv_if_ne (tgt := 24) hx hb dX12_must_4 (by decide) (fun hc => ?_) (fun hc => ?_)
  · replace hf := it_neg hc hf
    exact B24 st _ _ ls hf (lv_sub hl [0] rfl) hP hS
  · replace hf := it_pos hc hf
    refine lv_iload_n hx hb dX12_must_7 rfl (lv_at hl 1 rfl) ?_
    refine lv_if_ne (tgt := 24) hx hb dX12_must_8 (by decide) (fun hc => ?_) (fun hc => ?_)
    · replace hf := it_neg hc hf
      exact B24 st _ _ ls hf (lv_sub hl [0] rfl) hP hS
    · replace hf := it_pos hc hf
      refine lv_aload_n hx hb dX12_must_11 rfl (lv_at hl 0 rfl) ?_
      refine lv_iconst (v := 1) hx hb dX12_must_12 (by decide) ?_
      refine mp_19 E hD hP hS (by decide) dX12_must_13 (fun st3 H locs ex hP hS => ?_)
      replace hf := lt_at ex hf; clear ex
      refine lv_aload_n hx hb dX12_must_16 rfl (lv_at hl 0 rfl) ?_
      refine lv_aload_n hx hb dX12_must_17 rfl (lv_at hl 0 rfl) ?_
      refine mg_14 E hP dX12_must_18 ?_
      refine mp_18 E hD hP hS dX12_must_21 (fun st4 H locs ex hP hS => ?_)
      replace hf := lt_at ex hf; clear ex
      exact B24 st4 _ _ ls hf (lv_sub hl [0] rfl) hP hS
theorem qX12_must : yX12_must.cls = RX12 ∧ yX12_must.cls ≠ "java/lang/invoke/MethodHandle" ∧ yX12_must.cls ≠ "java/lang/invoke/VarHandle" ∧ (parseMethodDescriptor yX12_must.desc).map (fun d => d.parameters.length) = some 1 := by decide +kernel
def fX12_number_b33 (v5 : Int32) (w0 : Int32) (st : St) : Option (Int32 × St) := bd (fX12_must w0 st) (fun r1 st2 => some (v5, st2))
def fX12_number_b32 (v5 : Int32) (st : St) : Option (Int32 × St) := fX12_number_b33 v5 (0 : Int32) st
def fX12_number (a0 : Int64) (a1 : Int64) (st : St) : Option (Int32 × St) := lt ((st.2.1 17).toInt32) (fun x3 => if (st.1 16) = (2 : Int32) then (bs (fX12_in (st.2.1 17) a0 a1) (fun r4 => if r4 = 0 then (fX12_number_b32 x3 st) else (fX12_number_b33 x3 (1 : Int32) st))) else (fX12_number_b32 x3 st))
set_option maxHeartbeats 4000000 in
set_option maxRecDepth 100000 in
theorem tX12_number (l : Launch) (D : va_G) (cy : Nat → ClassId) (ad : Nat → Nat) (hJ : (mads ad).Nodup) (sz : Nat) (a0 : Int64) (a1 : Int64) (st : St) (rr : Int32) (st' : St) (hf : fX12_number a0 a1 st = some (rr, st')) : Met l yX12_number (Cond.code yX12_number cX12_number 6 (some .int) :: TT) (rmD 3) (mPc D cy ad [.long a0, .long a1] st sz) (mQi D cy ad rr st' sz) 0 0 (mA ad sz) := by
  refine m_meti (by decide) hJ (Nat.le_of_ble_eq_true rfl) (fun p e s m args below meth c ls E hx hb hr hlocks hown hT hD hl hP hS => ?_)
  replace hl : lv_has ls 6 [(0, .ref (ad 100)), (1, .long a0), (3, .long a1)] := hl
  unfold fX12_number at hf
  have B33 : ∀ (v5 : Int32) (w0 : Int32) (st : St) (H : Heap) (locs : List Loc) (ls : Array Slot), fX12_number_b33 v5 w0 st = some (rr, st') → lv_has ls 6 [(5, .int v5)] → va_P D classes (mw cy ad st) H → va_S (mA ad s.heap.size) s.heap H locs → mGi l 3 D cy ad rr st' p e s m args below meth c H locs (F0 m 33 ls [.int w0, .ref (ad 100)]) := by
    intro v5 w0 st H locs ls hf hl hP hS
    unfold fX12_number_b33 at hf
    obtain ⟨r1, st2, hc, hf⟩ := bd_some hf
    refine m_callv (n := 1) (rest := []) E hP hS (fun sz => tX12_must l D cy ad hJ sz w0 st r1 st2 hc) (gV k_1475 k_1477 ks_50 k_14 k_1478) qX12_must ⟨Nat.le_of_ble_eq_true rfl, Nat.le_of_ble_eq_true rfl⟩ ⟨Nat.le_refl _, Nat.le_refl _⟩ rfl hl.1 rfl (Nat.le_of_ble_eq_true rfl) dX12_number_33 (fun H locs hP hS => ?_)
    refine lv_iload hx hb dX12_number_36 (lv_at hl 0 rfl) ?_
    exact m_iret hx hb hr hlocks hf hP hS dX12_number_38
  have B32 : ∀ (v5 : Int32) (st : St) (H : Heap) (locs : List Loc) (ls : Array Slot), fX12_number_b32 v5 st = some (rr, st') → lv_has ls 6 [(5, .int v5)] → va_P D classes (mw cy ad st) H → va_S (mA ad s.heap.size) s.heap H locs → mGi l 3 D cy ad rr st' p e s m args below meth c H locs (F0 m 32 ls [.ref (ad 100)]) := by
    intro v5 st H locs ls hf hl hP hS
    unfold fX12_number_b32 at hf
    refine lv_iconst (v := 0) hx hb dX12_number_32 (by decide) ?_
    exact B33 v5 (0 : Int32) st _ _ ls hf hl hP hS
  refine lv_aload_n hx hb dX12_number_0 rfl (lv_at hl 0 rfl) ?_
  refine mg_17 E hP dX12_number_1 ?_
  refine lv_l2i (v := (st.2.1 17).toInt32) hx hb dX12_number_4 rfl ?_
  refine lv_topi (fun x3 ex => ?_)
  replace hf := lt_at ex hf; clear ex
  refine lv_istore (lv' := [(5, .int x3), (0, .ref (ad 100)), (1, .long a0), (3, .long a1)]) hx hb dX12_number_5 hl (by decide) rfl (fun ls hl => ?_)
  refine lv_aload_n hx hb dX12_number_7 rfl (lv_at hl 1 rfl) ?_
  refine lv_aload_n hx hb dX12_number_8 rfl (lv_at hl 1 rfl) ?_
  refine mg_16 E hP dX12_number_9 ?_
  refine lv_iconst (v := 2) hx hb dX12_number_12 (by decide) ?_
  refine lv_icmp_ne (tgt := 32) hx hb dX12_number_13 (by decide) (fun hc => ?_) (fun hc => ?_)
  · replace hf := it_neg hc hf
    exact B32 x3 st _ _ ls hf (lv_sub hl [0] rfl) hP hS
  · replace hf := it_pos hc hf
    refine lv_aload_n hx hb dX12_number_16 rfl (lv_at hl 1 rfl) ?_
    refine mg_17 E hP dX12_number_17 ?_
    refine lv_lload_n hx hb dX12_number_20 rfl (lv_at hl 2 rfl) ?_
    refine lv_lload_n hx hb dX12_number_21 rfl (lv_at hl 3 rfl) ?_
    obtain ⟨r4, hc, hf⟩ := bs_some hf
    refine s_calli (n := 3) (rest := [.ref (ad 100)]) E.1 (tX12_in l _ (st.2.1 17) a0 a1 r4 hc) (gS k_1350 k_1351 k_14 k_1352) qX12_in ⟨Nat.le_of_ble_eq_true rfl, Nat.le_of_ble_eq_true rfl⟩ ⟨Nat.le_refl _, Nat.le_refl _⟩ rfl hl.1 rfl (Nat.le_of_ble_eq_true rfl) dX12_number_22 ?_
    refine lv_if_eq (tgt := 32) hx hb dX12_number_25 (by decide) (fun hc => ?_) (fun hc => ?_)
    · replace hf := it_pos hc hf
      exact B32 x3 st _ _ ls hf (lv_sub hl [0] rfl) hP hS
    · replace hf := it_neg hc hf
      refine lv_iconst (v := 1) hx hb dX12_number_28 (by decide) ?_
      refine lv_goto (tgt := 33) hx hb dX12_number_29 (by decide) ?_
      exact B33 x3 (1 : Int32) st _ _ ls hf (lv_sub hl [0] rfl) hP hS
theorem qX12_number : yX12_number.cls = RX12 ∧ yX12_number.cls ≠ "java/lang/invoke/MethodHandle" ∧ yX12_number.cls ≠ "java/lang/invoke/VarHandle" ∧ (parseMethodDescriptor yX12_number.desc).map (fun d => d.parameters.length) = some 2 := by decide +kernel
def fX12_fault (st : St) : Option (Int32 × St) := lt (sI st 0 (0 : Int32)) (fun st1 => some ((st1.1 18), st1))
set_option maxHeartbeats 4000000 in
set_option maxRecDepth 100000 in
theorem tX12_fault (l : Launch) (D : va_G) (cy : Nat → ClassId) (ad : Nat → Nat) (hJ : (mads ad).Nodup) (sz : Nat) (st : St) (rr : Int32) (st' : St) (hf : fX12_fault  st = some (rr, st')) : Met l yX12_fault (Cond.code yX12_fault cX12_fault 1 (some .int) :: TT) (rmD 0) (mPc D cy ad [] st sz) (mQi D cy ad rr st' sz) 0 0 (mA ad sz) := by
  refine m_meti (by decide) hJ (Nat.le_of_ble_eq_true rfl) (fun p e s m args below meth c ls E hx hb hr hlocks hown hT hD hl hP hS => ?_)
  replace hl : lv_has ls 1 [(0, .ref (ad 100))] := hl
  unfold fX12_fault at hf
  refine lv_aload_n hx hb dX12_fault_0 rfl (lv_at hl 0 rfl) ?_
  refine lv_iconst (v := 0) hx hb dX12_fault_1 (by decide) ?_
  refine mp_0 E hD hP hS dX12_fault_2 (fun st1 H locs ex hP hS => ?_)
  replace hf := lt_at ex hf; clear ex
  refine lv_aload_n hx hb dX12_fault_5 rfl (lv_at hl 0 rfl) ?_
  refine mg_18 E hP dX12_fault_6 ?_
  exact m_iret hx hb hr hlocks hf hP hS dX12_fault_9
theorem qX12_fault : yX12_fault.cls = RX12 ∧ yX12_fault.cls ≠ "java/lang/invoke/MethodHandle" ∧ yX12_fault.cls ≠ "java/lang/invoke/VarHandle" ∧ (parseMethodDescriptor yX12_fault.desc).map (fun d => d.parameters.length) = some 0 := by decide +kernel
def fX12_emit (a0 : Int32) (a1 : Int32) (st : St) : Option (Unit × St) := gi (st.1 23) 400 (lt (sA st 24 (upd (st.2.2.1 24) (st.1 23).toNatClampNeg a0)) (fun st1 => gi (st1.1 23) 400 (lt (sA st1 25 (upd (st1.2.2.1 25) (st1.1 23).toNatClampNeg a1)) (fun st2 => lt (sI st2 23 ((st2.1 23) + (1 : Int32))) (fun st3 => some ((), st3))))))
set_option maxHeartbeats 4000000 in
set_option maxRecDepth 100000 in
theorem tX12_emit (l : Launch) (D : va_G) (cy : Nat → ClassId) (ad : Nat → Nat) (hJ : (mads ad).Nodup) (sz : Nat) (a0 : Int32) (a1 : Int32) (st : St) (rr : Unit) (st' : St) (hf : fX12_emit a0 a1 st = some (rr, st')) : Met l yX12_emit (Cond.code yX12_emit cX12_emit 3 none :: TT) (rmD 0) (mPc D cy ad [.int a0, .int a1] st sz) (mQv D cy ad rr st' sz) 0 0 (mA ad sz) := by
  refine m_metv (by decide) hJ (Nat.le_of_ble_eq_true rfl) (fun p e s m args below meth c ls E hx hb hr hlocks hown hT hD hl hP hS => ?_)
  replace hl : lv_has ls 3 [(0, .ref (ad 100)), (1, .int a0), (2, .int a1)] := hl
  unfold fX12_emit at hf
  refine lv_aload_n hx hb dX12_emit_0 rfl (lv_at hl 0 rfl) ?_
  refine mg_24 E hP dX12_emit_1 ?_
  refine lv_aload_n hx hb dX12_emit_4 rfl (lv_at hl 0 rfl) ?_
  refine mg_23 E hP dX12_emit_5 ?_
  refine lv_iload_n hx hb dX12_emit_8 rfl (lv_at hl 1 rfl) ?_
  obtain ⟨hi, hf⟩ := gi_some hf
  refine ms_24 E hD hP hS hi dX12_emit_9 (fun st1 H locs ex hP hS => ?_)
  replace hf := lt_at ex hf; clear ex
  refine lv_aload_n hx hb dX12_emit_10 rfl (lv_at hl 0 rfl) ?_
  refine mg_25 E hP dX12_emit_11 ?_
  refine lv_aload_n hx hb dX12_emit_14 rfl (lv_at hl 0 rfl) ?_
  refine mg_23 E hP dX12_emit_15 ?_
  refine lv_iload_n hx hb dX12_emit_18 rfl (lv_at hl 2 rfl) ?_
  obtain ⟨hi, hf⟩ := gi_some hf
  refine ms_25 E hD hP hS hi dX12_emit_19 (fun st2 H locs ex hP hS => ?_)
  replace hf := lt_at ex hf; clear ex
  refine lv_aload_n hx hb dX12_emit_20 rfl (lv_at hl 0 rfl) ?_
  refine lv_dup hx hb dX12_emit_21 rfl ?_
  refine mg_23 E hP dX12_emit_22 ?_
  refine lv_iconst (v := 1) hx hb dX12_emit_25 (by decide) ?_
  refine lv_iadd hx hb dX12_emit_26 ?_
  refine mp_23 E hD hP hS dX12_emit_27 (fun st3 H locs ex hP hS => ?_)
  replace hf := lt_at ex hf; clear ex
  exact m_vret hx hb hr hlocks hf hP hS dX12_emit_30
theorem qX12_emit : yX12_emit.cls = RX12 ∧ yX12_emit.cls ≠ "java/lang/invoke/MethodHandle" ∧ yX12_emit.cls ≠ "java/lang/invoke/VarHandle" ∧ (parseMethodDescriptor yX12_emit.desc).map (fun d => d.parameters.length) = some 2 := by decide +kernel
def fX12_push (a0 : Int32) (a1 : Int32) (st : St) : Option (Unit × St) := gi (st.1 29) 400 (lt (sA st 27 (upd (st.2.2.1 27) (st.1 29).toNatClampNeg a0)) (fun st1 => gi (st1.1 29) 400 (lt (sA st1 28 (upd (st1.2.2.1 28) (st1.1 29).toNatClampNeg a1)) (fun st2 => lt (sI st2 29 ((st2.1 29) + (1 : Int32))) (fun st3 => some ((), st3))))))
set_option maxHeartbeats 4000000 in
set_option maxRecDepth 100000 in
theorem tX12_push (l : Launch) (D : va_G) (cy : Nat → ClassId) (ad : Nat → Nat) (hJ : (mads ad).Nodup) (sz : Nat) (a0 : Int32) (a1 : Int32) (st : St) (rr : Unit) (st' : St) (hf : fX12_push a0 a1 st = some (rr, st')) : Met l yX12_push (Cond.code yX12_push cX12_push 3 none :: TT) (rmD 0) (mPc D cy ad [.int a0, .int a1] st sz) (mQv D cy ad rr st' sz) 0 0 (mA ad sz) := by
  refine m_metv (by decide) hJ (Nat.le_of_ble_eq_true rfl) (fun p e s m args below meth c ls E hx hb hr hlocks hown hT hD hl hP hS => ?_)
  replace hl : lv_has ls 3 [(0, .ref (ad 100)), (1, .int a0), (2, .int a1)] := hl
  unfold fX12_push at hf
  refine lv_aload_n hx hb dX12_push_0 rfl (lv_at hl 0 rfl) ?_
  refine mg_27 E hP dX12_push_1 ?_
  refine lv_aload_n hx hb dX12_push_4 rfl (lv_at hl 0 rfl) ?_
  refine mg_29 E hP dX12_push_5 ?_
  refine lv_iload_n hx hb dX12_push_8 rfl (lv_at hl 1 rfl) ?_
  obtain ⟨hi, hf⟩ := gi_some hf
  refine ms_27 E hD hP hS hi dX12_push_9 (fun st1 H locs ex hP hS => ?_)
  replace hf := lt_at ex hf; clear ex
  refine lv_aload_n hx hb dX12_push_10 rfl (lv_at hl 0 rfl) ?_
  refine mg_28 E hP dX12_push_11 ?_
  refine lv_aload_n hx hb dX12_push_14 rfl (lv_at hl 0 rfl) ?_
  refine mg_29 E hP dX12_push_15 ?_
  refine lv_iload_n hx hb dX12_push_18 rfl (lv_at hl 2 rfl) ?_
  obtain ⟨hi, hf⟩ := gi_some hf
  refine ms_28 E hD hP hS hi dX12_push_19 (fun st2 H locs ex hP hS => ?_)
  replace hf := lt_at ex hf; clear ex
  refine lv_aload_n hx hb dX12_push_20 rfl (lv_at hl 0 rfl) ?_
  refine lv_dup hx hb dX12_push_21 rfl ?_
  refine mg_29 E hP dX12_push_22 ?_
  refine lv_iconst (v := 1) hx hb dX12_push_25 (by decide) ?_
  refine lv_iadd hx hb dX12_push_26 ?_
  refine mp_29 E hD hP hS dX12_push_27 (fun st3 H locs ex hP hS => ?_)
  replace hf := lt_at ex hf; clear ex
  exact m_vret hx hb hr hlocks hf hP hS dX12_push_30
theorem qX12_push : yX12_push.cls = RX12 ∧ yX12_push.cls ≠ "java/lang/invoke/MethodHandle" ∧ yX12_push.cls ≠ "java/lang/invoke/VarHandle" ∧ (parseMethodDescriptor yX12_push.desc).map (fun d => d.parameters.length) = some 2 := by decide +kernel
def fX12_binds_b62 (w0 : Int32) : Option Int32 := some w0
def fX12_binds (a0 : Int32) : Option Int32 := if a0 < (31 : Int32) then (if a0 = (30 : Int32) then (fX12_binds_b62 (1 : Int32)) else (if a0 = (29 : Int32) then (fX12_binds_b62 (2 : Int32)) else (if a0 = (28 : Int32) then (fX12_binds_b62 (3 : Int32)) else (if a0 < (25 : Int32) then (if a0 < (22 : Int32) then (fX12_binds_b62 (5 : Int32)) else (fX12_binds_b62 (6 : Int32))) else (fX12_binds_b62 (4 : Int32)))))) else (fX12_binds_b62 (0 : Int32))
set_option maxHeartbeats 4000000 in
set_option maxRecDepth 100000 in
theorem tX12_binds (l : Launch) (hh : Heap) (a0 : Int32) (rr : Int32) (hf : fX12_binds a0 = some rr) : Met l yX12_binds (Cond.code yX12_binds cX12_binds 1 (some .int) :: TT) (rmD 0) (sPc [.int a0] hh) (sQi rr hh) 0 0 (fun _ => False) := by
  refine s_meti (by decide) (Nat.le_of_ble_eq_true rfl) (fun p e s m args below meth c ls E hx hb hr hlocks hown hT hl => ?_)
  replace hl : lv_has ls 1 [(0, .int a0)] := hl
  unfold fX12_binds at hf
  have B62 : ∀ (w0 : Int32) (ls : Array Slot), fX12_binds_b62 w0 = some rr → lv_has ls 1 [] → sGi l 0 rr p e s m args below meth c (F0 m 62 ls [.int w0]) := by
    intro w0 ls hf hl
    unfold fX12_binds_b62 at hf
    exact s_iret hx hb hr hlocks hf dX12_binds_62
  refine lv_iload_n hx hb dX12_binds_0 rfl (lv_at hl 0 rfl) ?_
  refine lv_bipush (v := 31) hx hb dX12_binds_1 (by decide) ?_
  refine lv_icmp_lt (tgt := 10) hx hb dX12_binds_3 (by decide) (fun hc => ?_) (fun hc => ?_)
  · replace hf := it_pos hc hf
    refine lv_iload_n hx hb dX12_binds_10 rfl (lv_at hl 0 rfl) ?_
    refine lv_bipush (v := 30) hx hb dX12_binds_11 (by decide) ?_
    refine lv_icmp_ne (tgt := 20) hx hb dX12_binds_13 (by decide) (fun hc => ?_) (fun hc => ?_)
    · replace hf := it_neg hc hf
      refine lv_iload_n hx hb dX12_binds_20 rfl (lv_at hl 0 rfl) ?_
      refine lv_bipush (v := 29) hx hb dX12_binds_21 (by decide) ?_
      refine lv_icmp_ne (tgt := 30) hx hb dX12_binds_23 (by decide) (fun hc => ?_) (fun hc => ?_)
      · replace hf := it_neg hc hf
        refine lv_iload_n hx hb dX12_binds_30 rfl (lv_at hl 0 rfl) ?_
        refine lv_bipush (v := 28) hx hb dX12_binds_31 (by decide) ?_
        refine lv_icmp_ne (tgt := 40) hx hb dX12_binds_33 (by decide) (fun hc => ?_) (fun hc => ?_)
        · replace hf := it_neg hc hf
          refine lv_iload_n hx hb dX12_binds_40 rfl (lv_at hl 0 rfl) ?_
          refine lv_bipush (v := 25) hx hb dX12_binds_41 (by decide) ?_
          refine lv_icmp_lt (tgt := 50) hx hb dX12_binds_43 (by decide) (fun hc => ?_) (fun hc => ?_)
          · replace hf := it_pos hc hf
            refine lv_iload_n hx hb dX12_binds_50 rfl (lv_at hl 0 rfl) ?_
            refine lv_bipush (v := 22) hx hb dX12_binds_51 (by decide) ?_
            refine lv_icmp_lt (tgt := 61) hx hb dX12_binds_53 (by decide) (fun hc => ?_) (fun hc => ?_)
            · replace hf := it_pos hc hf
              refine lv_iconst (v := 5) hx hb dX12_binds_61 (by decide) ?_
              exact B62 (5 : Int32) ls hf (lv_sub hl [] rfl)
            · replace hf := it_neg hc hf
              refine lv_bipush (v := 6) hx hb dX12_binds_56 (by decide) ?_
              refine lv_goto (tgt := 62) hx hb dX12_binds_58 (by decide) ?_
              exact B62 (6 : Int32) ls hf (lv_sub hl [] rfl)
          · replace hf := it_neg hc hf
            refine lv_iconst (v := 4) hx hb dX12_binds_46 (by decide) ?_
            refine lv_goto (tgt := 62) hx hb dX12_binds_47 (by decide) ?_
            exact B62 (4 : Int32) ls hf (lv_sub hl [] rfl)
        · replace hf := it_pos hc hf
          refine lv_iconst (v := 3) hx hb dX12_binds_36 (by decide) ?_
          refine lv_goto (tgt := 62) hx hb dX12_binds_37 (by decide) ?_
          exact B62 (3 : Int32) ls hf (lv_sub hl [] rfl)
      · replace hf := it_pos hc hf
        refine lv_iconst (v := 2) hx hb dX12_binds_26 (by decide) ?_
        refine lv_goto (tgt := 62) hx hb dX12_binds_27 (by decide) ?_
        exact B62 (2 : Int32) ls hf (lv_sub hl [] rfl)
    · replace hf := it_pos hc hf
      refine lv_iconst (v := 1) hx hb dX12_binds_16 (by decide) ?_
      refine lv_goto (tgt := 62) hx hb dX12_binds_17 (by decide) ?_
      exact B62 (1 : Int32) ls hf (lv_sub hl [] rfl)
  · replace hf := it_neg hc hf
    refine lv_iconst (v := 0) hx hb dX12_binds_6 (by decide) ?_
    refine lv_goto (tgt := 62) hx hb dX12_binds_7 (by decide) ?_
    exact B62 (0 : Int32) ls hf (lv_sub hl [] rfl)
theorem qX12_binds : yX12_binds.cls = RX12 ∧ yX12_binds.cls ≠ "java/lang/invoke/MethodHandle" ∧ yX12_binds.cls ≠ "java/lang/invoke/VarHandle" ∧ (parseMethodDescriptor yX12_binds.desc).map (fun d => d.parameters.length) = some 1 := by decide +kernel
def fX12_settle_b101 (st : St) : Option (Unit × St) := some ((), st)
def fX12_settle_b63 (k0 : Int32 → St → Option (Unit × St)) (v1 : Int32) (st : St) : Option (Unit × St) := gi (st.1 29) 400 (gi (st.2.2.1 28 (st.1 29).toNatClampNeg) 400 (lt (sA st 25 (upd (st.2.2.1 25) (st.2.2.1 28 (st.1 29).toNatClampNeg).toNatClampNeg (st.1 23))) (fun st1 => k0 v1 st1)))
def fX12_settle_b0 (k0 : Int32 → St → Option (Unit × St)) (v1 : Int32) (st : St) : Option (Unit × St) := if (st.1 29) ≤ 0 then (fX12_settle_b101 st) else (gi ((st.1 29) - (1 : Int32)) 400 (bs (fX12_binds (st.2.2.1 27 ((st.1 29) - (1 : Int32)).toNatClampNeg)) (fun r2 => if r2 < v1 then (fX12_settle_b101 st) else (lt (sI st 29 ((st.1 29) - (1 : Int32))) (fun st3 => gi (st3.1 29) 400 (if (st3.2.2.1 27 (st3.1 29).toNatClampNeg) = (29 : Int32) then (fX12_settle_b63 k0 v1 st3) else (gi (st3.1 29) 400 (if (st3.2.2.1 27 (st3.1 29).toNatClampNeg) = (30 : Int32) then (fX12_settle_b63 k0 v1 st3) else (gi (st3.1 29) 400 (bd (fX12_emit (st3.2.2.1 27 (st3.1 29).toNatClampNeg) (0 : Int32) st3) (fun r4 st5 => k0 v1 st5)))))))))))
def fX12_settle (a0 : Int32) (st : St) : Option (Unit × St) := lp (fun _ _ => none) (fX12_settle_b0) 6000 a0 st
set_option maxHeartbeats 4000000 in
set_option maxRecDepth 100000 in
theorem tX12_settle (l : Launch) (D : va_G) (cy : Nat → ClassId) (ad : Nat → Nat) (hJ : (mads ad).Nodup) (sz : Nat) (a0 : Int32) (st : St) (rr : Unit) (st' : St) (hf : fX12_settle a0 st = some (rr, st')) : Met l yX12_settle (Cond.code yX12_settle cX12_settle 2 none :: TT) (rmD 1) (mPc D cy ad [.int a0] st sz) (mQv D cy ad rr st' sz) 0 0 (mA ad sz) := by
  refine m_metv (by decide) hJ (Nat.le_of_ble_eq_true rfl) (fun p e s m args below meth c ls E hx hb hr hlocks hown hT hD hl hP hS => ?_)
  replace hl : lv_has ls 2 [(0, .ref (ad 100)), (1, .int a0)] := hl
  unfold fX12_settle at hf
  have B101 : ∀ (st : St) (H : Heap) (locs : List Loc) (ls : Array Slot), fX12_settle_b101 st = some (rr, st') → lv_has ls 2 [] → va_P D classes (mw cy ad st) H → va_S (mA ad s.heap.size) s.heap H locs → mGv l 1 D cy ad rr st' p e s m args below meth c H locs (F0 m 101 ls []) := by
    intro st H locs ls hf hl hP hS
    unfold fX12_settle_b101 at hf
    exact m_vret hx hb hr hlocks hf hP hS dX12_settle_101
  have L0 : ∀ (n : Nat) (v1 : Int32) (st : St) (H : Heap) (locs : List Loc) (ls : Array Slot), lp (fun _ _ => none) (fX12_settle_b0) n v1 st = some (rr, st') → lv_has ls 2 [(0, .ref (ad 100)), (1, .int v1)] → va_P D classes (mw cy ad st) H → va_S (mA ad s.heap.size) s.heap H locs → mGv l 1 D cy ad rr st' p e s m args below meth c H locs (F0 m 0 ls []) := by
    intro n
    induction n with
    | zero => intro v1 st H locs ls hf; exact absurd hf (fun h => by cases h)
    | succ n K0 =>
      intro v1 st H locs ls hf hl hP hS
      replace hf : fX12_settle_b0 (lp (fun _ _ => none) (fX12_settle_b0) n) v1 st = some (rr, st') := hf
      generalize lp (fun _ _ => none) (fX12_settle_b0) n = k0 at hf K0
      have B63 : ∀ (v1 : Int32) (st : St) (H : Heap) (locs : List Loc) (ls : Array Slot), fX12_settle_b63 k0 v1 st = some (rr, st') → lv_has ls 2 [(0, .ref (ad 100)), (1, .int v1)] → va_P D classes (mw cy ad st) H → va_S (mA ad s.heap.size) s.heap H locs → mGv l 1 D cy ad rr st' p e s m args below meth c H locs (F0 m 63 ls []) := by
        intro v1 st H locs ls hf hl hP hS
        unfold fX12_settle_b63 at hf
        refine lv_aload_n hx hb dX12_settle_63 rfl (lv_at hl 0 rfl) ?_
        refine mg_25 E hP dX12_settle_64 ?_
        refine lv_aload_n hx hb dX12_settle_67 rfl (lv_at hl 0 rfl) ?_
        refine mg_28 E hP dX12_settle_68 ?_
        refine lv_aload_n hx hb dX12_settle_71 rfl (lv_at hl 0 rfl) ?_
        refine mg_29 E hP dX12_settle_72 ?_
        obtain ⟨hi, hf⟩ := gi_some hf
        refine ml_28 E hP hi dX12_settle_75 ?_
        refine lv_aload_n hx hb dX12_settle_76 rfl (lv_at hl 0 rfl) ?_
        refine mg_23 E hP dX12_settle_77 ?_
        obtain ⟨hi, hf⟩ := gi_some hf
        refine ms_25 E hD hP hS hi dX12_settle_80 (fun st1 H locs ex hP hS => ?_)
        replace hf := lt_at ex hf; clear ex
        refine lv_goto (tgt := 0) hx hb dX12_settle_81 (by decide) ?_
        exact K0 v1 st1 _ _ ls hf hl hP hS
      unfold fX12_settle_b0 at hf
      refine lv_aload_n hx hb dX12_settle_0 rfl (lv_at hl 0 rfl) ?_
      refine mg_29 E hP dX12_settle_1 ?_
      refine lv_if_le (tgt := 101) hx hb dX12_settle_4 (by decide) (fun hc => ?_) (fun hc => ?_)
      · replace hf := it_pos hc hf
        exact B101 st _ _ ls hf (lv_sub hl [] rfl) hP hS
      · replace hf := it_neg hc hf
        refine lv_aload_n hx hb dX12_settle_7 rfl (lv_at hl 0 rfl) ?_
        refine mg_27 E hP dX12_settle_8 ?_
        refine lv_aload_n hx hb dX12_settle_11 rfl (lv_at hl 0 rfl) ?_
        refine mg_29 E hP dX12_settle_12 ?_
        refine lv_iconst (v := 1) hx hb dX12_settle_15 (by decide) ?_
        refine lv_isub hx hb dX12_settle_16 ?_
        obtain ⟨hi, hf⟩ := gi_some hf
        refine ml_27 E hP hi dX12_settle_17 ?_
        obtain ⟨r2, hc, hf⟩ := bs_some hf
        refine s_calli (n := 1) (rest := []) E.1 (tX12_binds l _ (st.2.2.1 27 ((st.1 29) - (1 : Int32)).toNatClampNeg) r2 hc) (gS k_1528 k_1529 k_14 k_1530) qX12_binds ⟨Nat.le_of_ble_eq_true rfl, Nat.le_of_ble_eq_true rfl⟩ ⟨Nat.le_refl _, Nat.le_refl _⟩ rfl hl.1 rfl (Nat.le_of_ble_eq_true rfl) dX12_settle_18 ?_
        refine lv_iload_n hx hb dX12_settle_21 rfl (lv_at hl 1 rfl) ?_
        refine lv_icmp_lt (tgt := 101) hx hb dX12_settle_22 (by decide) (fun hc => ?_) (fun hc => ?_)
        · replace hf := it_pos hc hf
          exact B101 st _ _ ls hf (lv_sub hl [] rfl) hP hS
        · replace hf := it_neg hc hf
          refine lv_aload_n hx hb dX12_settle_25 rfl (lv_at hl 0 rfl) ?_
          refine lv_dup hx hb dX12_settle_26 rfl ?_
          refine mg_29 E hP dX12_settle_27 ?_
          refine lv_iconst (v := 1) hx hb dX12_settle_30 (by decide) ?_
          refine lv_isub hx hb dX12_settle_31 ?_
          refine mp_29 E hD hP hS dX12_settle_32 (fun st3 H locs ex hP hS => ?_)
          replace hf := lt_at ex hf; clear ex
          refine lv_aload_n hx hb dX12_settle_35 rfl (lv_at hl 0 rfl) ?_
          refine mg_27 E hP dX12_settle_36 ?_
          refine lv_aload_n hx hb dX12_settle_39 rfl (lv_at hl 0 rfl) ?_
          refine mg_29 E hP dX12_settle_40 ?_
          obtain ⟨hi, hf⟩ := gi_some hf
          refine ml_27 E hP hi dX12_settle_43 ?_
          refine lv_bipush (v := 29) hx hb dX12_settle_44 (by decide) ?_
          refine lv_icmp_eq (tgt := 63) hx hb dX12_settle_46 (by decide) (fun hc => ?_) (fun hc => ?_)
          · replace hf := it_pos hc hf
            exact B63 v1 st3 _ _ ls hf hl hP hS
          · replace hf := it_neg hc hf
            refine lv_aload_n hx hb dX12_settle_49 rfl (lv_at hl 0 rfl) ?_
            refine mg_27 E hP dX12_settle_50 ?_
            refine lv_aload_n hx hb dX12_settle_53 rfl (lv_at hl 0 rfl) ?_
            refine mg_29 E hP dX12_settle_54 ?_
            obtain ⟨hi, hf⟩ := gi_some hf
            refine ml_27 E hP hi dX12_settle_57 ?_
            refine lv_bipush (v := 30) hx hb dX12_settle_58 (by decide) ?_
            refine lv_icmp_ne (tgt := 84) hx hb dX12_settle_60 (by decide) (fun hc => ?_) (fun hc => ?_)
            · replace hf := it_neg hc hf
              refine lv_aload_n hx hb dX12_settle_84 rfl (lv_at hl 0 rfl) ?_
              refine lv_aload_n hx hb dX12_settle_85 rfl (lv_at hl 0 rfl) ?_
              refine mg_27 E hP dX12_settle_86 ?_
              refine lv_aload_n hx hb dX12_settle_89 rfl (lv_at hl 0 rfl) ?_
              refine mg_29 E hP dX12_settle_90 ?_
              obtain ⟨hi, hf⟩ := gi_some hf
              refine ml_27 E hP hi dX12_settle_93 ?_
              refine lv_iconst (v := 0) hx hb dX12_settle_94 (by decide) ?_
              obtain ⟨r4, st5, hc, hf⟩ := bd_some hf
              refine m_callv (n := 2) (rest := []) E hP hS (fun sz => tX12_emit l D cy ad hJ sz (st3.2.2.1 27 (st3.1 29).toNatClampNeg) (0 : Int32) st3 r4 st5 hc) (gV k_1516 k_1518 ks_60 k_14 k_1519) qX12_emit ⟨Nat.le_of_ble_eq_true rfl, Nat.le_of_ble_eq_true rfl⟩ ⟨Nat.le_refl _, Nat.le_refl _⟩ rfl hl.1 rfl (Nat.le_of_ble_eq_true rfl) dX12_settle_95 (fun H locs hP hS => ?_)
              refine lv_goto (tgt := 0) hx hb dX12_settle_98 (by decide) ?_
              exact K0 v1 st5 _ _ ls hf hl hP hS
            · replace hf := it_pos hc hf
              exact B63 v1 st3 _ _ ls hf hl hP hS
  exact L0 6000 a0 st _ _ ls hf hl hP hS
theorem qX12_settle : yX12_settle.cls = RX12 ∧ yX12_settle.cls ≠ "java/lang/invoke/MethodHandle" ∧ yX12_settle.cls ≠ "java/lang/invoke/VarHandle" ∧ (parseMethodDescriptor yX12_settle.desc).map (fun d => d.parameters.length) = some 1 := by decide +kernel
def fX12_inner_b33 (k4 : Int32 → Int32 → St → Option (Int32 × St)) (v2 : Int32) (w0 : Int32) (st : St) : Option (Int32 × St) := lt (v2 + (1 : Int32)) (fun x1 => k4 w0 x1 st)
def fX12_inner_b4 (k4 : Int32 → Int32 → St → Option (Int32 × St)) (v1 : Int32) (v2 : Int32) (st : St) : Option (Int32 × St) := if (st.1 29) ≤ v2 then (some (v1, st)) else (gi v2 400 (if (st.2.2.1 27 v2.toNatClampNeg) < (31 : Int32) then (fX12_inner_b33 k4 v2 v1 st) else (gi v2 400 (fX12_inner_b33 k4 v2 (st.2.2.1 27 v2.toNatClampNeg) st))))
def fX12_inner (st : St) : Option (Int32 × St) := lp (fun _ _ _ => none) (fX12_inner_b4) 6000 (-1 : Int32) (0 : Int32) st
set_option maxHeartbeats 4000000 in
set_option maxRecDepth 100000 in
theorem tX12_inner (l : Launch) (D : va_G) (cy : Nat → ClassId) (ad : Nat → Nat) (hJ : (mads ad).Nodup) (sz : Nat) (st : St) (rr : Int32) (st' : St) (hf : fX12_inner  st = some (rr, st')) : Met l yX12_inner (Cond.code yX12_inner cX12_inner 3 (some .int) :: TT) (rmD 0) (mPc D cy ad [] st sz) (mQi D cy ad rr st' sz) 0 0 (mA ad sz) := by
  refine m_meti (by decide) hJ (Nat.le_of_ble_eq_true rfl) (fun p e s m args below meth c ls E hx hb hr hlocks hown hT hD hl hP hS => ?_)
  replace hl : lv_has ls 3 [(0, .ref (ad 100))] := hl
  unfold fX12_inner at hf
  have L4 : ∀ (n : Nat) (v1 : Int32) (v2 : Int32) (st : St) (H : Heap) (locs : List Loc) (ls : Array Slot), lp (fun _ _ _ => none) (fX12_inner_b4) n v1 v2 st = some (rr, st') → lv_has ls 3 [(0, .ref (ad 100)), (1, .int v1), (2, .int v2)] → va_P D classes (mw cy ad st) H → va_S (mA ad s.heap.size) s.heap H locs → mGi l 0 D cy ad rr st' p e s m args below meth c H locs (F0 m 4 ls []) := by
    intro n
    induction n with
    | zero => intro v1 v2 st H locs ls hf; exact absurd hf (fun h => by cases h)
    | succ n K4 =>
      intro v1 v2 st H locs ls hf hl hP hS
      replace hf : fX12_inner_b4 (lp (fun _ _ _ => none) (fX12_inner_b4) n) v1 v2 st = some (rr, st') := hf
      generalize lp (fun _ _ _ => none) (fX12_inner_b4) n = k4 at hf K4
      have B33 : ∀ (v2 : Int32) (w0 : Int32) (st : St) (H : Heap) (locs : List Loc) (ls : Array Slot), fX12_inner_b33 k4 v2 w0 st = some (rr, st') → lv_has ls 3 [(0, .ref (ad 100)), (2, .int v2)] → va_P D classes (mw cy ad st) H → va_S (mA ad s.heap.size) s.heap H locs → mGi l 0 D cy ad rr st' p e s m args below meth c H locs (F0 m 33 ls [.int w0]) := by
        intro v2 w0 st H locs ls hf hl hP hS
        unfold fX12_inner_b33 at hf
        refine lv_istore_n (lv' := [(1, .int w0), (0, .ref (ad 100)), (2, .int v2)]) hx hb dX12_inner_33 rfl hl (by decide) rfl (fun ls hl => ?_)
        obtain ⟨x1, ex⟩ : ∃ y : Int32, y = v2 + (1 : Int32) := ⟨_, rfl⟩
        replace hf := lt_at ex hf
        refine lv_iinc (v := x1) (lv' := [(2, .int x1), (1, .int w0), (0, .ref (ad 100))]) hx hb dX12_inner_34 hl (k := 2) rfl (by rw [ex]; rfl) (by decide) rfl (fun ls hl => ?_)
        clear ex
        refine lv_goto (tgt := 4) hx hb dX12_inner_37 (by decide) ?_
        exact K4 w0 x1 st _ _ ls hf (lv_sub hl [2, 1, 0] rfl) hP hS
      unfold fX12_inner_b4 at hf
      refine lv_iload_n hx hb dX12_inner_4 rfl (lv_at hl 2 rfl) ?_
      refine lv_aload_n hx hb dX12_inner_5 rfl (lv_at hl 0 rfl) ?_
      refine mg_29 E hP dX12_inner_6 ?_
      refine lv_icmp_ge (tgt := 40) hx hb dX12_inner_9 (by decide) (fun hc => ?_) (fun hc => ?_)
      · replace hf := it_pos hc hf
        refine lv_iload_n hx hb dX12_inner_40 rfl (lv_at hl 1 rfl) ?_
        exact m_iret hx hb hr hlocks hf hP hS dX12_inner_41
      · replace hf := it_neg hc hf
        refine lv_aload_n hx hb dX12_inner_12 rfl (lv_at hl 0 rfl) ?_
        refine mg_27 E hP dX12_inner_13 ?_
        refine lv_iload_n hx hb dX12_inner_16 rfl (lv_at hl 2 rfl) ?_
        obtain ⟨hi, hf⟩ := gi_some hf
        refine ml_27 E hP hi dX12_inner_17 ?_
        refine lv_bipush (v := 31) hx hb dX12_inner_18 (by decide) ?_
        refine lv_icmp_lt (tgt := 32) hx hb dX12_inner_20 (by decide) (fun hc => ?_) (fun hc => ?_)
        · replace hf := it_pos hc hf
          refine lv_iload_n hx hb dX12_inner_32 rfl (lv_at hl 1 rfl) ?_
          exact B33 v2 v1 st _ _ ls hf (lv_sub hl [0, 2] rfl) hP hS
        · replace hf := it_neg hc hf
          refine lv_aload_n hx hb dX12_inner_23 rfl (lv_at hl 0 rfl) ?_
          refine mg_27 E hP dX12_inner_24 ?_
          refine lv_iload_n hx hb dX12_inner_27 rfl (lv_at hl 2 rfl) ?_
          obtain ⟨hi, hf⟩ := gi_some hf
          refine ml_27 E hP hi dX12_inner_28 ?_
          refine lv_goto (tgt := 33) hx hb dX12_inner_29 (by decide) ?_
          exact B33 v2 (st.2.2.1 27 v2.toNatClampNeg) st _ _ ls hf (lv_sub hl [0, 2] rfl) hP hS
  refine lv_iconst (v := -1) hx hb dX12_inner_0 (by decide) ?_
  refine lv_istore_n (lv' := [(1, .int (-1 : Int32)), (0, .ref (ad 100))]) hx hb dX12_inner_1 rfl hl (by decide) rfl (fun ls hl => ?_)
  refine lv_iconst (v := 0) hx hb dX12_inner_2 (by decide) ?_
  refine lv_istore_n (lv' := [(2, .int (0 : Int32)), (1, .int (-1 : Int32)), (0, .ref (ad 100))]) hx hb dX12_inner_3 rfl hl (by decide) rfl (fun ls hl => ?_)
  exact L4 6000 (-1 : Int32) (0 : Int32) st _ _ ls hf (lv_sub hl [2, 1, 0] rfl) hP hS
theorem qX12_inner : yX12_inner.cls = RX12 ∧ yX12_inner.cls ≠ "java/lang/invoke/MethodHandle" ∧ yX12_inner.cls ≠ "java/lang/invoke/VarHandle" ∧ (parseMethodDescriptor yX12_inner.desc).map (fun d => d.parameters.length) = some 0 := by decide +kernel
def fX12_isCompared_b64 (w0 : Int32) (st : St) : Option (Int32 × St) := gb w0 (some (w0, st))
def fX12_isCompared_b63 (st : St) : Option (Int32 × St) := fX12_isCompared_b64 (0 : Int32) st
def fX12_isCompared_b36 (v1 : Int32) (st : St) : Option (Int32 × St) := if v1 < 0 then (fX12_isCompared_b63 st) else (gi v1 400 (bs (fX12_in ((st.2.2.1 27 v1.toNatClampNeg).toInt64) (25 : Int64) (27 : Int64)) (fun r1 => if r1 = 0 then (fX12_isCompared_b63 st) else (fX12_isCompared_b64 (1 : Int32) st))))
def fX12_isCompared_b7 (k7 : Int32 → St → Option (Int32 × St)) (v1 : Int32) (st : St) : Option (Int32 × St) := if v1 < 0 then (fX12_isCompared_b36 v1 st) else (gi v1 400 (bs (fX12_in ((st.2.2.1 27 v1.toNatClampNeg).toInt64) (20 : Int64) (24 : Int64)) (fun r2 => if r2 = 0 then (fX12_isCompared_b36 v1 st) else (lt (v1 + (-1 : Int32)) (fun x3 => k7 x3 st)))))
def fX12_isCompared (st : St) : Option (Int32 × St) := lt ((st.1 29) - (1 : Int32)) (fun x4 => lp (fun _ _ => none) (fX12_isCompared_b7) 6000 x4 st)
set_option maxHeartbeats 4000000 in
set_option maxRecDepth 100000 in
theorem tX12_isCompared (l : Launch) (D : va_G) (cy : Nat → ClassId) (ad : Nat → Nat) (hJ : (mads ad).Nodup) (sz : Nat) (st : St) (rr : Int32) (st' : St) (hf : fX12_isCompared  st = some (rr, st')) : Met l yX12_isCompared (Cond.code yX12_isCompared cX12_isCompared 2 (some .boolean) :: TT) (rmD 1) (mPc D cy ad [] st sz) (mQi D cy ad rr st' sz) 0 0 (mA ad sz) := by
  refine m_meti (by decide) hJ (Nat.le_of_ble_eq_true rfl) (fun p e s m args below meth c ls E hx hb hr hlocks hown hT hD hl hP hS => ?_)
  replace hl : lv_has ls 2 [(0, .ref (ad 100))] := hl
  unfold fX12_isCompared at hf
  have B64 : ∀ (w0 : Int32) (st : St) (H : Heap) (locs : List Loc) (ls : Array Slot), fX12_isCompared_b64 w0 st = some (rr, st') → lv_has ls 2 [] → va_P D classes (mw cy ad st) H → va_S (mA ad s.heap.size) s.heap H locs → mGi l 1 D cy ad rr st' p e s m args below meth c H locs (F0 m 64 ls [.int w0]) := by
    intro w0 st H locs ls hf hl hP hS
    unfold fX12_isCompared_b64 at hf
    obtain ⟨hn, hf⟩ := gb_some hf
    exact m_zret hx hb hr hlocks hn hf hP hS dX12_isCompared_64
  have B63 : ∀ (st : St) (H : Heap) (locs : List Loc) (ls : Array Slot), fX12_isCompared_b63 st = some (rr, st') → lv_has ls 2 [] → va_P D classes (mw cy ad st) H → va_S (mA ad s.heap.size) s.heap H locs → mGi l 1 D cy ad rr st' p e s m args below meth c H locs (F0 m 63 ls []) := by
    intro st H locs ls hf hl hP hS
    unfold fX12_isCompared_b63 at hf
    refine lv_iconst (v := 0) hx hb dX12_isCompared_63 (by decide) ?_
    exact B64 (0 : Int32) st _ _ ls hf hl hP hS
  have B36 : ∀ (v1 : Int32) (st : St) (H : Heap) (locs : List Loc) (ls : Array Slot), fX12_isCompared_b36 v1 st = some (rr, st') → lv_has ls 2 [(0, .ref (ad 100)), (1, .int v1)] → va_P D classes (mw cy ad st) H → va_S (mA ad s.heap.size) s.heap H locs → mGi l 1 D cy ad rr st' p e s m args below meth c H locs (F0 m 36 ls []) := by
    intro v1 st H locs ls hf hl hP hS
    unfold fX12_isCompared_b36 at hf
    refine lv_iload_n hx hb dX12_isCompared_36 rfl (lv_at hl 1 rfl) ?_
    refine lv_if_lt (tgt := 63) hx hb dX12_isCompared_37 (by decide) (fun hc => ?_) (fun hc => ?_)
    · replace hf := it_pos hc hf
      exact B63 st _ _ ls hf (lv_sub hl [] rfl) hP hS
    · replace hf := it_neg hc hf
      refine lv_aload_n hx hb dX12_isCompared_40 rfl (lv_at hl 0 rfl) ?_
      refine mg_27 E hP dX12_isCompared_41 ?_
      refine lv_iload_n hx hb dX12_isCompared_44 rfl (lv_at hl 1 rfl) ?_
      obtain ⟨hi, hf⟩ := gi_some hf
      refine ml_27 E hP hi dX12_isCompared_45 ?_
      refine lv_i2l (v := (st.2.2.1 27 v1.toNatClampNeg).toInt64) hx hb dX12_isCompared_46 rfl ?_
      refine lv_ldc2 (v := 25) hx hb hown (hT _ k_1545) dX12_isCompared_47 ?_
      refine lv_ldc2 (v := 27) hx hb hown (hT _ k_1546) dX12_isCompared_50 ?_
      obtain ⟨r1, hc, hf⟩ := bs_some hf
      refine s_calli (n := 3) (rest := []) E.1 (tX12_in l _ ((st.2.2.1 27 v1.toNatClampNeg).toInt64) (25 : Int64) (27 : Int64) r1 hc) (gS k_1350 k_1351 k_14 k_1352) qX12_in ⟨Nat.le_of_ble_eq_true rfl, Nat.le_of_ble_eq_true rfl⟩ ⟨Nat.le_refl _, Nat.le_refl _⟩ rfl hl.1 rfl (Nat.le_of_ble_eq_true rfl) dX12_isCompared_53 ?_
      refine lv_if_eq (tgt := 63) hx hb dX12_isCompared_56 (by decide) (fun hc => ?_) (fun hc => ?_)
      · replace hf := it_pos hc hf
        exact B63 st _ _ ls hf (lv_sub hl [] rfl) hP hS
      · replace hf := it_neg hc hf
        refine lv_iconst (v := 1) hx hb dX12_isCompared_59 (by decide) ?_
        refine lv_goto (tgt := 64) hx hb dX12_isCompared_60 (by decide) ?_
        exact B64 (1 : Int32) st _ _ ls hf (lv_sub hl [] rfl) hP hS
  have L7 : ∀ (n : Nat) (v1 : Int32) (st : St) (H : Heap) (locs : List Loc) (ls : Array Slot), lp (fun _ _ => none) (fX12_isCompared_b7) n v1 st = some (rr, st') → lv_has ls 2 [(0, .ref (ad 100)), (1, .int v1)] → va_P D classes (mw cy ad st) H → va_S (mA ad s.heap.size) s.heap H locs → mGi l 1 D cy ad rr st' p e s m args below meth c H locs (F0 m 7 ls []) := by
    intro n
    induction n with
    | zero => intro v1 st H locs ls hf; exact absurd hf (fun h => by cases h)
    | succ n K7 =>
      intro v1 st H locs ls hf hl hP hS
      replace hf : fX12_isCompared_b7 (lp (fun _ _ => none) (fX12_isCompared_b7) n) v1 st = some (rr, st') := hf
      generalize lp (fun _ _ => none) (fX12_isCompared_b7) n = k7 at hf K7
      unfold fX12_isCompared_b7 at hf
      refine lv_iload_n hx hb dX12_isCompared_7 rfl (lv_at hl 1 rfl) ?_
      refine lv_if_lt (tgt := 36) hx hb dX12_isCompared_8 (by decide) (fun hc => ?_) (fun hc => ?_)
      · replace hf := it_pos hc hf
        exact B36 v1 st _ _ ls hf hl hP hS
      · replace hf := it_neg hc hf
        refine lv_aload_n hx hb dX12_isCompared_11 rfl (lv_at hl 0 rfl) ?_
        refine mg_27 E hP dX12_isCompared_12 ?_
        refine lv_iload_n hx hb dX12_isCompared_15 rfl (lv_at hl 1 rfl) ?_
        obtain ⟨hi, hf⟩ := gi_some hf
        refine ml_27 E hP hi dX12_isCompared_16 ?_
        refine lv_i2l (v := (st.2.2.1 27 v1.toNatClampNeg).toInt64) hx hb dX12_isCompared_17 rfl ?_
        refine lv_ldc2 (v := 20) hx hb hown (hT _ k_1543) dX12_isCompared_18 ?_
        refine lv_ldc2 (v := 24) hx hb hown (hT _ k_1544) dX12_isCompared_21 ?_
        obtain ⟨r2, hc, hf⟩ := bs_some hf
        refine s_calli (n := 3) (rest := []) E.1 (tX12_in l _ ((st.2.2.1 27 v1.toNatClampNeg).toInt64) (20 : Int64) (24 : Int64) r2 hc) (gS k_1350 k_1351 k_14 k_1352) qX12_in ⟨Nat.le_of_ble_eq_true rfl, Nat.le_of_ble_eq_true rfl⟩ ⟨Nat.le_refl _, Nat.le_refl _⟩ rfl hl.1 rfl (Nat.le_of_ble_eq_true rfl) dX12_isCompared_24 ?_
        refine lv_if_eq (tgt := 36) hx hb dX12_isCompared_27 (by decide) (fun hc => ?_) (fun hc => ?_)
        · replace hf := it_pos hc hf
          exact B36 v1 st _ _ ls hf hl hP hS
        · replace hf := it_neg hc hf
          obtain ⟨x3, ex⟩ : ∃ y : Int32, y = v1 + (-1 : Int32) := ⟨_, rfl⟩
          replace hf := lt_at ex hf
          refine lv_iinc (v := x3) (lv' := [(1, .int x3), (0, .ref (ad 100))]) hx hb dX12_isCompared_30 hl (k := 1) rfl (by rw [ex]; rfl) (by decide) rfl (fun ls hl => ?_)
          clear ex
          refine lv_goto (tgt := 7) hx hb dX12_isCompared_33 (by decide) ?_
          exact K7 x3 st _ _ ls hf (lv_sub hl [1, 0] rfl) hP hS
  refine lv_aload_n hx hb dX12_isCompared_0 rfl (lv_at hl 0 rfl) ?_
  refine mg_29 E hP dX12_isCompared_1 ?_
  refine lv_iconst (v := 1) hx hb dX12_isCompared_4 (by decide) ?_
  refine lv_isub hx hb dX12_isCompared_5 ?_
  refine lv_topi (fun x4 ex => ?_)
  replace hf := lt_at ex hf; clear ex
  refine lv_istore_n (lv' := [(1, .int x4), (0, .ref (ad 100))]) hx hb dX12_isCompared_6 rfl hl (by decide) rfl (fun ls hl => ?_)
  exact L7 6000 x4 st _ _ ls hf (lv_sub hl [1, 0] rfl) hP hS
theorem qX12_isCompared : yX12_isCompared.cls = RX12 ∧ yX12_isCompared.cls ≠ "java/lang/invoke/MethodHandle" ∧ yX12_isCompared.cls ≠ "java/lang/invoke/VarHandle" ∧ (parseMethodDescriptor yX12_isCompared.desc).map (fun d => d.parameters.length) = some 0 := by decide +kernel
def fX12_partAt_b30 (k4 : Int32 → Int32 → St → Option (Int32 × St)) (v2 : Int32) (w0 : Int32) (st : St) : Option (Int32 × St) := lt (v2 + (1 : Int32)) (fun x1 => k4 w0 x1 st)
def fX12_partAt_b4 (k4 : Int32 → Int32 → St → Option (Int32 × St)) (v1 : Int32) (v2 : Int32) (st : St) : Option (Int32 × St) := if (10 : Int32) ≤ v2 then (some (v1, st)) else (gi v2 10 (bd (fX12_isWord (st.2.2.2.1 31 v2.toNatClampNeg) st) (fun r2 st3 => if r2 = 0 then (fX12_partAt_b30 k4 v2 v1 st3) else (fX12_partAt_b30 k4 v2 (v2 + (1 : Int32)) st3))))
def fX12_partAt (st : St) : Option (Int32 × St) := lp (fun _ _ _ => none) (fX12_partAt_b4) 6000 (-1 : Int32) (0 : Int32) st
set_option maxHeartbeats 4000000 in
set_option maxRecDepth 100000 in
theorem tX12_partAt (l : Launch) (D : va_G) (cy : Nat → ClassId) (ad : Nat → Nat) (hJ : (mads ad).Nodup) (sz : Nat) (st : St) (rr : Int32) (st' : St) (hf : fX12_partAt  st = some (rr, st')) : Met l yX12_partAt (Cond.code yX12_partAt cX12_partAt 3 (some .int) :: TT) (rmD 1) (mPc D cy ad [] st sz) (mQi D cy ad rr st' sz) 0 0 (mA ad sz) := by
  refine m_meti (by decide) hJ (Nat.le_of_ble_eq_true rfl) (fun p e s m args below meth c ls E hx hb hr hlocks hown hT hD hl hP hS => ?_)
  replace hl : lv_has ls 3 [(0, .ref (ad 100))] := hl
  unfold fX12_partAt at hf
  have L4 : ∀ (n : Nat) (v1 : Int32) (v2 : Int32) (st : St) (H : Heap) (locs : List Loc) (ls : Array Slot), lp (fun _ _ _ => none) (fX12_partAt_b4) n v1 v2 st = some (rr, st') → lv_has ls 3 [(0, .ref (ad 100)), (1, .int v1), (2, .int v2)] → va_P D classes (mw cy ad st) H → va_S (mA ad s.heap.size) s.heap H locs → mGi l 1 D cy ad rr st' p e s m args below meth c H locs (F0 m 4 ls []) := by
    intro n
    induction n with
    | zero => intro v1 v2 st H locs ls hf; exact absurd hf (fun h => by cases h)
    | succ n K4 =>
      intro v1 v2 st H locs ls hf hl hP hS
      replace hf : fX12_partAt_b4 (lp (fun _ _ _ => none) (fX12_partAt_b4) n) v1 v2 st = some (rr, st') := hf
      generalize lp (fun _ _ _ => none) (fX12_partAt_b4) n = k4 at hf K4
      have B30 : ∀ (v2 : Int32) (w0 : Int32) (st : St) (H : Heap) (locs : List Loc) (ls : Array Slot), fX12_partAt_b30 k4 v2 w0 st = some (rr, st') → lv_has ls 3 [(0, .ref (ad 100)), (2, .int v2)] → va_P D classes (mw cy ad st) H → va_S (mA ad s.heap.size) s.heap H locs → mGi l 1 D cy ad rr st' p e s m args below meth c H locs (F0 m 30 ls [.int w0]) := by
        intro v2 w0 st H locs ls hf hl hP hS
        unfold fX12_partAt_b30 at hf
        refine lv_istore_n (lv' := [(1, .int w0), (0, .ref (ad 100)), (2, .int v2)]) hx hb dX12_partAt_30 rfl hl (by decide) rfl (fun ls hl => ?_)
        obtain ⟨x1, ex⟩ : ∃ y : Int32, y = v2 + (1 : Int32) := ⟨_, rfl⟩
        replace hf := lt_at ex hf
        refine lv_iinc (v := x1) (lv' := [(2, .int x1), (1, .int w0), (0, .ref (ad 100))]) hx hb dX12_partAt_31 hl (k := 2) rfl (by rw [ex]; rfl) (by decide) rfl (fun ls hl => ?_)
        clear ex
        refine lv_goto (tgt := 4) hx hb dX12_partAt_34 (by decide) ?_
        exact K4 w0 x1 st _ _ ls hf (lv_sub hl [2, 1, 0] rfl) hP hS
      unfold fX12_partAt_b4 at hf
      refine lv_iload_n hx hb dX12_partAt_4 rfl (lv_at hl 2 rfl) ?_
      refine lv_bipush (v := 10) hx hb dX12_partAt_5 (by decide) ?_
      refine lv_icmp_ge (tgt := 37) hx hb dX12_partAt_7 (by decide) (fun hc => ?_) (fun hc => ?_)
      · replace hf := it_pos hc hf
        refine lv_iload_n hx hb dX12_partAt_37 rfl (lv_at hl 1 rfl) ?_
        exact m_iret hx hb hr hlocks hf hP hS dX12_partAt_38
      · replace hf := it_neg hc hf
        refine lv_aload_n hx hb dX12_partAt_10 rfl (lv_at hl 0 rfl) ?_
        refine lv_aload_n hx hb dX12_partAt_11 rfl (lv_at hl 0 rfl) ?_
        refine mg_31 E hP dX12_partAt_12 ?_
        refine lv_iload_n hx hb dX12_partAt_15 rfl (lv_at hl 2 rfl) ?_
        obtain ⟨hi, hf⟩ := gi_some hf
        refine ml_31 E hP hi dX12_partAt_16 ?_
        obtain ⟨r2, st3, hc, hf⟩ := bd_some hf
        refine m_calli (n := 1) (rest := []) E hP hS (fun sz => tX12_isWord l D cy ad hJ sz (st.2.2.2.1 31 v2.toNatClampNeg) st r2 st3 hc) (gV k_1471 k_1473 ks_49 k_14 k_1474) qX12_isWord ⟨Nat.le_of_ble_eq_true rfl, Nat.le_of_ble_eq_true rfl⟩ ⟨Nat.le_refl _, Nat.le_refl _⟩ rfl hl.1 rfl (Nat.le_of_ble_eq_true rfl) dX12_partAt_17 (fun H locs hP hS => ?_)
        refine lv_if_eq (tgt := 29) hx hb dX12_partAt_20 (by decide) (fun hc => ?_) (fun hc => ?_)
        · replace hf := it_pos hc hf
          refine lv_iload_n hx hb dX12_partAt_29 rfl (lv_at hl 1 rfl) ?_
          exact B30 v2 v1 st3 _ _ ls hf (lv_sub hl [0, 2] rfl) hP hS
        · replace hf := it_neg hc hf
          refine lv_iload_n hx hb dX12_partAt_23 rfl (lv_at hl 2 rfl) ?_
          refine lv_iconst (v := 1) hx hb dX12_partAt_24 (by decide) ?_
          refine lv_iadd hx hb dX12_partAt_25 ?_
          refine lv_goto (tgt := 30) hx hb dX12_partAt_26 (by decide) ?_
          exact B30 v2 (v2 + (1 : Int32)) st3 _ _ ls hf (lv_sub hl [0, 2] rfl) hP hS
  refine lv_iconst (v := -1) hx hb dX12_partAt_0 (by decide) ?_
  refine lv_istore_n (lv' := [(1, .int (-1 : Int32)), (0, .ref (ad 100))]) hx hb dX12_partAt_1 rfl hl (by decide) rfl (fun ls hl => ?_)
  refine lv_iconst (v := 0) hx hb dX12_partAt_2 (by decide) ?_
  refine lv_istore_n (lv' := [(2, .int (0 : Int32)), (1, .int (-1 : Int32)), (0, .ref (ad 100))]) hx hb dX12_partAt_3 rfl hl (by decide) rfl (fun ls hl => ?_)
  exact L4 6000 (-1 : Int32) (0 : Int32) st _ _ ls hf (lv_sub hl [2, 1, 0] rfl) hP hS
theorem qX12_partAt : yX12_partAt.cls = RX12 ∧ yX12_partAt.cls ≠ "java/lang/invoke/MethodHandle" ∧ yX12_partAt.cls ≠ "java/lang/invoke/VarHandle" ∧ (parseMethodDescriptor yX12_partAt.desc).map (fun d => d.parameters.length) = some 0 := by decide +kernel
def fX12_orderPartAt_b30 (k4 : Int32 → Int32 → St → Option (Int32 × St)) (v2 : Int32) (w0 : Int32) (st : St) : Option (Int32 × St) := lt (v2 + (1 : Int32)) (fun x1 => k4 w0 x1 st)
def fX12_orderPartAt_b4 (k4 : Int32 → Int32 → St → Option (Int32 × St)) (v1 : Int32) (v2 : Int32) (st : St) : Option (Int32 × St) := if (6 : Int32) ≤ v2 then (some (v1, st)) else (gi v2 6 (bd (fX12_isWord (st.2.2.2.1 32 v2.toNatClampNeg) st) (fun r2 st3 => if r2 = 0 then (fX12_orderPartAt_b30 k4 v2 v1 st3) else (fX12_orderPartAt_b30 k4 v2 (v2 + (1 : Int32)) st3))))
def fX12_orderPartAt (st : St) : Option (Int32 × St) := lp (fun _ _ _ => none) (fX12_orderPartAt_b4) 6000 (-1 : Int32) (0 : Int32) st
set_option maxHeartbeats 4000000 in
set_option maxRecDepth 100000 in
theorem tX12_orderPartAt (l : Launch) (D : va_G) (cy : Nat → ClassId) (ad : Nat → Nat) (hJ : (mads ad).Nodup) (sz : Nat) (st : St) (rr : Int32) (st' : St) (hf : fX12_orderPartAt  st = some (rr, st')) : Met l yX12_orderPartAt (Cond.code yX12_orderPartAt cX12_orderPartAt 3 (some .int) :: TT) (rmD 1) (mPc D cy ad [] st sz) (mQi D cy ad rr st' sz) 0 0 (mA ad sz) := by
  refine m_meti (by decide) hJ (Nat.le_of_ble_eq_true rfl) (fun p e s m args below meth c ls E hx hb hr hlocks hown hT hD hl hP hS => ?_)
  replace hl : lv_has ls 3 [(0, .ref (ad 100))] := hl
  unfold fX12_orderPartAt at hf
  have L4 : ∀ (n : Nat) (v1 : Int32) (v2 : Int32) (st : St) (H : Heap) (locs : List Loc) (ls : Array Slot), lp (fun _ _ _ => none) (fX12_orderPartAt_b4) n v1 v2 st = some (rr, st') → lv_has ls 3 [(0, .ref (ad 100)), (1, .int v1), (2, .int v2)] → va_P D classes (mw cy ad st) H → va_S (mA ad s.heap.size) s.heap H locs → mGi l 1 D cy ad rr st' p e s m args below meth c H locs (F0 m 4 ls []) := by
    intro n
    induction n with
    | zero => intro v1 v2 st H locs ls hf; exact absurd hf (fun h => by cases h)
    | succ n K4 =>
      intro v1 v2 st H locs ls hf hl hP hS
      replace hf : fX12_orderPartAt_b4 (lp (fun _ _ _ => none) (fX12_orderPartAt_b4) n) v1 v2 st = some (rr, st') := hf
      generalize lp (fun _ _ _ => none) (fX12_orderPartAt_b4) n = k4 at hf K4
      have B30 : ∀ (v2 : Int32) (w0 : Int32) (st : St) (H : Heap) (locs : List Loc) (ls : Array Slot), fX12_orderPartAt_b30 k4 v2 w0 st = some (rr, st') → lv_has ls 3 [(0, .ref (ad 100)), (2, .int v2)] → va_P D classes (mw cy ad st) H → va_S (mA ad s.heap.size) s.heap H locs → mGi l 1 D cy ad rr st' p e s m args below meth c H locs (F0 m 30 ls [.int w0]) := by
        intro v2 w0 st H locs ls hf hl hP hS
        unfold fX12_orderPartAt_b30 at hf
        refine lv_istore_n (lv' := [(1, .int w0), (0, .ref (ad 100)), (2, .int v2)]) hx hb dX12_orderPartAt_30 rfl hl (by decide) rfl (fun ls hl => ?_)
        obtain ⟨x1, ex⟩ : ∃ y : Int32, y = v2 + (1 : Int32) := ⟨_, rfl⟩
        replace hf := lt_at ex hf
        refine lv_iinc (v := x1) (lv' := [(2, .int x1), (1, .int w0), (0, .ref (ad 100))]) hx hb dX12_orderPartAt_31 hl (k := 2) rfl (by rw [ex]; rfl) (by decide) rfl (fun ls hl => ?_)
        clear ex
        refine lv_goto (tgt := 4) hx hb dX12_orderPartAt_34 (by decide) ?_
        exact K4 w0 x1 st _ _ ls hf (lv_sub hl [2, 1, 0] rfl) hP hS
      unfold fX12_orderPartAt_b4 at hf
      refine lv_iload_n hx hb dX12_orderPartAt_4 rfl (lv_at hl 2 rfl) ?_
      refine lv_bipush (v := 6) hx hb dX12_orderPartAt_5 (by decide) ?_
      refine lv_icmp_ge (tgt := 37) hx hb dX12_orderPartAt_7 (by decide) (fun hc => ?_) (fun hc => ?_)
      · replace hf := it_pos hc hf
        refine lv_iload_n hx hb dX12_orderPartAt_37 rfl (lv_at hl 1 rfl) ?_
        exact m_iret hx hb hr hlocks hf hP hS dX12_orderPartAt_38
      · replace hf := it_neg hc hf
        refine lv_aload_n hx hb dX12_orderPartAt_10 rfl (lv_at hl 0 rfl) ?_
        refine lv_aload_n hx hb dX12_orderPartAt_11 rfl (lv_at hl 0 rfl) ?_
        refine mg_32 E hP dX12_orderPartAt_12 ?_
        refine lv_iload_n hx hb dX12_orderPartAt_15 rfl (lv_at hl 2 rfl) ?_
        obtain ⟨hi, hf⟩ := gi_some hf
        refine ml_32 E hP hi dX12_orderPartAt_16 ?_
        obtain ⟨r2, st3, hc, hf⟩ := bd_some hf
        refine m_calli (n := 1) (rest := []) E hP hS (fun sz => tX12_isWord l D cy ad hJ sz (st.2.2.2.1 32 v2.toNatClampNeg) st r2 st3 hc) (gV k_1471 k_1473 ks_49 k_14 k_1474) qX12_isWord ⟨Nat.le_of_ble_eq_true rfl, Nat.le_of_ble_eq_true rfl⟩ ⟨Nat.le_refl _, Nat.le_refl _⟩ rfl hl.1 rfl (Nat.le_of_ble_eq_true rfl) dX12_orderPartAt_17 (fun H locs hP hS => ?_)
        refine lv_if_eq (tgt := 29) hx hb dX12_orderPartAt_20 (by decide) (fun hc => ?_) (fun hc => ?_)
        · replace hf := it_pos hc hf
          refine lv_iload_n hx hb dX12_orderPartAt_29 rfl (lv_at hl 1 rfl) ?_
          exact B30 v2 v1 st3 _ _ ls hf (lv_sub hl [0, 2] rfl) hP hS
        · replace hf := it_neg hc hf
          refine lv_iload_n hx hb dX12_orderPartAt_23 rfl (lv_at hl 2 rfl) ?_
          refine lv_iconst (v := 1) hx hb dX12_orderPartAt_24 (by decide) ?_
          refine lv_iadd hx hb dX12_orderPartAt_25 ?_
          refine lv_goto (tgt := 30) hx hb dX12_orderPartAt_26 (by decide) ?_
          exact B30 v2 (v2 + (1 : Int32)) st3 _ _ ls hf (lv_sub hl [0, 2] rfl) hP hS
  refine lv_iconst (v := -1) hx hb dX12_orderPartAt_0 (by decide) ?_
  refine lv_istore_n (lv' := [(1, .int (-1 : Int32)), (0, .ref (ad 100))]) hx hb dX12_orderPartAt_1 rfl hl (by decide) rfl (fun ls hl => ?_)
  refine lv_iconst (v := 0) hx hb dX12_orderPartAt_2 (by decide) ?_
  refine lv_istore_n (lv' := [(2, .int (0 : Int32)), (1, .int (-1 : Int32)), (0, .ref (ad 100))]) hx hb dX12_orderPartAt_3 rfl hl (by decide) rfl (fun ls hl => ?_)
  exact L4 6000 (-1 : Int32) (0 : Int32) st _ _ ls hf (lv_sub hl [2, 1, 0] rfl) hP hS
theorem qX12_orderPartAt : yX12_orderPartAt.cls = RX12 ∧ yX12_orderPartAt.cls ≠ "java/lang/invoke/MethodHandle" ∧ yX12_orderPartAt.cls ≠ "java/lang/invoke/VarHandle" ∧ (parseMethodDescriptor yX12_orderPartAt.desc).map (fun d => d.parameters.length) = some 0 := by decide +kernel
def fX12_openBracket_b41 (st : St) : Option (Unit × St) := some ((), st)
def fX12_openBracket_b15 (v1 : Int32) (w0 : Int32) (st : St) : Option (Unit × St) := bd (fX12_must w0 st) (fun r1 st2 => if (st2.1 19) = 0 then (lt (sI st2 30 ((st2.1 30) + (1 : Int32))) (fun st3 => bd (fX12_push v1 (0 : Int32) st3) (fun r4 st5 => fX12_openBracket_b41 st5))) else (fX12_openBracket_b41 st2))
def fX12_openBracket (a0 : Int32) (st : St) : Option (Unit × St) := if (8 : Int32) ≤ (st.1 30) then (fX12_openBracket_b15 a0 (0 : Int32) st) else (fX12_openBracket_b15 a0 (1 : Int32) st)
set_option maxHeartbeats 4000000 in
set_option maxRecDepth 100000 in
theorem tX12_openBracket (l : Launch) (D : va_G) (cy : Nat → ClassId) (ad : Nat → Nat) (hJ : (mads ad).Nodup) (sz : Nat) (a0 : Int32) (st : St) (rr : Unit) (st' : St) (hf : fX12_openBracket a0 st = some (rr, st')) : Met l yX12_openBracket (Cond.code yX12_openBracket cX12_openBracket 2 none :: TT) (rmD 3) (mPc D cy ad [.int a0] st sz) (mQv D cy ad rr st' sz) 0 0 (mA ad sz) := by
  refine m_metv (by decide) hJ (Nat.le_of_ble_eq_true rfl) (fun p e s m args below meth c ls E hx hb hr hlocks hown hT hD hl hP hS => ?_)
  replace hl : lv_has ls 2 [(0, .ref (ad 100)), (1, .int a0)] := hl
  unfold fX12_openBracket at hf
  have B41 : ∀ (st : St) (H : Heap) (locs : List Loc) (ls : Array Slot), fX12_openBracket_b41 st = some (rr, st') → lv_has ls 2 [] → va_P D classes (mw cy ad st) H → va_S (mA ad s.heap.size) s.heap H locs → mGv l 3 D cy ad rr st' p e s m args below meth c H locs (F0 m 41 ls []) := by
    intro st H locs ls hf hl hP hS
    unfold fX12_openBracket_b41 at hf
    exact m_vret hx hb hr hlocks hf hP hS dX12_openBracket_41
  have B15 : ∀ (v1 : Int32) (w0 : Int32) (st : St) (H : Heap) (locs : List Loc) (ls : Array Slot), fX12_openBracket_b15 v1 w0 st = some (rr, st') → lv_has ls 2 [(0, .ref (ad 100)), (1, .int v1)] → va_P D classes (mw cy ad st) H → va_S (mA ad s.heap.size) s.heap H locs → mGv l 3 D cy ad rr st' p e s m args below meth c H locs (F0 m 15 ls [.int w0, .ref (ad 100)]) := by
    intro v1 w0 st H locs ls hf hl hP hS
    unfold fX12_openBracket_b15 at hf
    obtain ⟨r1, st2, hc, hf⟩ := bd_some hf
    refine m_callv (n := 1) (rest := []) E hP hS (fun sz => tX12_must l D cy ad hJ sz w0 st r1 st2 hc) (gV k_1475 k_1477 ks_50 k_14 k_1478) qX12_must ⟨Nat.le_of_ble_eq_true rfl, Nat.le_of_ble_eq_true rfl⟩ ⟨Nat.le_refl _, Nat.le_refl _⟩ rfl hl.1 rfl (Nat.le_of_ble_eq_true rfl) dX12_openBracket_15 (fun H locs hP hS => ?_)
    refine lv_aload_n hx hb dX12_openBracket_18 rfl (lv_at hl 0 rfl) ?_
    refine mg_19 E hP dX12_openBracket_19 ?_
    refine lv_if_ne (tgt := 41) hx hb dX12_openBracket_22 (by decide) (fun hc => ?_) (fun hc => ?_)
    · replace hf := it_neg hc hf
      exact B41 st2 _ _ ls hf (lv_sub hl [] rfl) hP hS
    · replace hf := it_pos hc hf
      refine lv_aload_n hx hb dX12_openBracket_25 rfl (lv_at hl 0 rfl) ?_
      refine lv_dup hx hb dX12_openBracket_26 rfl ?_
      refine mg_30 E hP dX12_openBracket_27 ?_
      refine lv_iconst (v := 1) hx hb dX12_openBracket_30 (by decide) ?_
      refine lv_iadd hx hb dX12_openBracket_31 ?_
      refine mp_30 E hD hP hS dX12_openBracket_32 (fun st3 H locs ex hP hS => ?_)
      replace hf := lt_at ex hf; clear ex
      refine lv_aload_n hx hb dX12_openBracket_35 rfl (lv_at hl 0 rfl) ?_
      refine lv_iload_n hx hb dX12_openBracket_36 rfl (lv_at hl 1 rfl) ?_
      refine lv_iconst (v := 0) hx hb dX12_openBracket_37 (by decide) ?_
      obtain ⟨r4, st5, hc, hf⟩ := bd_some hf
      refine m_callv (n := 2) (rest := []) E hP hS (fun sz => tX12_push l D cy ad hJ sz v1 (0 : Int32) st3 r4 st5 hc) (gV k_1488 k_1490 ks_53 k_14 k_1491) qX12_push ⟨Nat.le_of_ble_eq_true rfl, Nat.le_of_ble_eq_true rfl⟩ ⟨Nat.le_refl _, Nat.le_refl _⟩ rfl hl.1 rfl (Nat.le_of_ble_eq_true rfl) dX12_openBracket_38 (fun H locs hP hS => ?_)
      exact B41 st5 _ _ ls hf (lv_sub hl [] rfl) hP hS
  refine lv_aload_n hx hb dX12_openBracket_0 rfl (lv_at hl 0 rfl) ?_
  refine lv_aload_n hx hb dX12_openBracket_1 rfl (lv_at hl 0 rfl) ?_
  refine mg_30 E hP dX12_openBracket_2 ?_
  refine lv_bipush (v := 8) hx hb dX12_openBracket_5 (by decide) ?_
  refine lv_icmp_ge (tgt := 14) hx hb dX12_openBracket_7 (by decide) (fun hc => ?_) (fun hc => ?_)
  · replace hf := it_pos hc hf
    refine lv_iconst (v := 0) hx hb dX12_openBracket_14 (by decide) ?_
    exact B15 a0 (0 : Int32) st _ _ ls hf hl hP hS
  · replace hf := it_neg hc hf
    refine lv_iconst (v := 1) hx hb dX12_openBracket_10 (by decide) ?_
    refine lv_goto (tgt := 15) hx hb dX12_openBracket_11 (by decide) ?_
    exact B15 a0 (1 : Int32) st _ _ ls hf hl hP hS
theorem qX12_openBracket : yX12_openBracket.cls = RX12 ∧ yX12_openBracket.cls ≠ "java/lang/invoke/MethodHandle" ∧ yX12_openBracket.cls ≠ "java/lang/invoke/VarHandle" ∧ (parseMethodDescriptor yX12_openBracket.desc).map (fun d => d.parameters.length) = some 1 := by decide +kernel
def fX12_leaf_b45 (st : St) : Option (Unit × St) := some ((), st)
def fX12_leaf_b19 (v2 : Int32) (v3 : Int32) (w0 : Int32) (st : St) : Option (Unit × St) := bd (fX12_must w0 st) (fun r1 st2 => if (st2.1 19) = 0 then (bd (fX12_emit v2 v3 st2) (fun r3 st4 => lt (sI st4 26 ((st4.1 26) + (1 : Int32))) (fun st5 => fX12_leaf_b45 st5))) else (fX12_leaf_b45 st2))
def fX12_leaf_b18 (v2 : Int32) (v3 : Int32) (st : St) : Option (Unit × St) := fX12_leaf_b19 v2 v3 (0 : Int32) st
def fX12_leaf (a0 : Int32) (a1 : Int32) (a2 : Int32) (st : St) : Option (Unit × St) := if a0 = 0 then (fX12_leaf_b18 a1 a2 st) else (if (50 : Int32) ≤ (st.1 26) then (fX12_leaf_b18 a1 a2 st) else (fX12_leaf_b19 a1 a2 (1 : Int32) st))
set_option maxHeartbeats 4000000 in
set_option maxRecDepth 100000 in
theorem tX12_leaf (l : Launch) (D : va_G) (cy : Nat → ClassId) (ad : Nat → Nat) (hJ : (mads ad).Nodup) (sz : Nat) (a0 : Int32) (a1 : Int32) (a2 : Int32) (st : St) (rr : Unit) (st' : St) (hf : fX12_leaf a0 a1 a2 st = some (rr, st')) : Met l yX12_leaf (Cond.code yX12_leaf cX12_leaf 4 none :: TT) (rmD 3) (mPc D cy ad [.int a0, .int a1, .int a2] st sz) (mQv D cy ad rr st' sz) 0 0 (mA ad sz) := by
  refine m_metv (by decide) hJ (Nat.le_of_ble_eq_true rfl) (fun p e s m args below meth c ls E hx hb hr hlocks hown hT hD hl hP hS => ?_)
  replace hl : lv_has ls 4 [(0, .ref (ad 100)), (1, .int a0), (2, .int a1), (3, .int a2)] := hl
  unfold fX12_leaf at hf
  have B45 : ∀ (st : St) (H : Heap) (locs : List Loc) (ls : Array Slot), fX12_leaf_b45 st = some (rr, st') → lv_has ls 4 [] → va_P D classes (mw cy ad st) H → va_S (mA ad s.heap.size) s.heap H locs → mGv l 3 D cy ad rr st' p e s m args below meth c H locs (F0 m 45 ls []) := by
    intro st H locs ls hf hl hP hS
    unfold fX12_leaf_b45 at hf
    exact m_vret hx hb hr hlocks hf hP hS dX12_leaf_45
  have B19 : ∀ (v2 : Int32) (v3 : Int32) (w0 : Int32) (st : St) (H : Heap) (locs : List Loc) (ls : Array Slot), fX12_leaf_b19 v2 v3 w0 st = some (rr, st') → lv_has ls 4 [(0, .ref (ad 100)), (2, .int v2), (3, .int v3)] → va_P D classes (mw cy ad st) H → va_S (mA ad s.heap.size) s.heap H locs → mGv l 3 D cy ad rr st' p e s m args below meth c H locs (F0 m 19 ls [.int w0, .ref (ad 100)]) := by
    intro v2 v3 w0 st H locs ls hf hl hP hS
    unfold fX12_leaf_b19 at hf
    obtain ⟨r1, st2, hc, hf⟩ := bd_some hf
    refine m_callv (n := 1) (rest := []) E hP hS (fun sz => tX12_must l D cy ad hJ sz w0 st r1 st2 hc) (gV k_1475 k_1477 ks_50 k_14 k_1478) qX12_must ⟨Nat.le_of_ble_eq_true rfl, Nat.le_of_ble_eq_true rfl⟩ ⟨Nat.le_refl _, Nat.le_refl _⟩ rfl hl.1 rfl (Nat.le_of_ble_eq_true rfl) dX12_leaf_19 (fun H locs hP hS => ?_)
    refine lv_aload_n hx hb dX12_leaf_22 rfl (lv_at hl 0 rfl) ?_
    refine mg_19 E hP dX12_leaf_23 ?_
    refine lv_if_ne (tgt := 45) hx hb dX12_leaf_26 (by decide) (fun hc => ?_) (fun hc => ?_)
    · replace hf := it_neg hc hf
      exact B45 st2 _ _ ls hf (lv_sub hl [] rfl) hP hS
    · replace hf := it_pos hc hf
      refine lv_aload_n hx hb dX12_leaf_29 rfl (lv_at hl 0 rfl) ?_
      refine lv_iload_n hx hb dX12_leaf_30 rfl (lv_at hl 1 rfl) ?_
      refine lv_iload_n hx hb dX12_leaf_31 rfl (lv_at hl 2 rfl) ?_
      obtain ⟨r3, st4, hc, hf⟩ := bd_some hf
      refine m_callv (n := 2) (rest := []) E hP hS (fun sz => tX12_emit l D cy ad hJ sz v2 v3 st2 r3 st4 hc) (gV k_1516 k_1518 ks_60 k_14 k_1519) qX12_emit ⟨Nat.le_of_ble_eq_true rfl, Nat.le_of_ble_eq_true rfl⟩ ⟨Nat.le_refl _, Nat.le_refl _⟩ rfl hl.1 rfl (Nat.le_of_ble_eq_true rfl) dX12_leaf_32 (fun H locs hP hS => ?_)
      refine lv_aload_n hx hb dX12_leaf_35 rfl (lv_at hl 0 rfl) ?_
      refine lv_dup hx hb dX12_leaf_36 rfl ?_
      refine mg_26 E hP dX12_leaf_37 ?_
      refine lv_iconst (v := 1) hx hb dX12_leaf_40 (by decide) ?_
      refine lv_iadd hx hb dX12_leaf_41 ?_
      refine mp_26 E hD hP hS dX12_leaf_42 (fun st5 H locs ex hP hS => ?_)
      replace hf := lt_at ex hf; clear ex
      exact B45 st5 _ _ ls hf (lv_sub hl [] rfl) hP hS
  have B18 : ∀ (v2 : Int32) (v3 : Int32) (st : St) (H : Heap) (locs : List Loc) (ls : Array Slot), fX12_leaf_b18 v2 v3 st = some (rr, st') → lv_has ls 4 [(0, .ref (ad 100)), (2, .int v2), (3, .int v3)] → va_P D classes (mw cy ad st) H → va_S (mA ad s.heap.size) s.heap H locs → mGv l 3 D cy ad rr st' p e s m args below meth c H locs (F0 m 18 ls [.ref (ad 100)]) := by
    intro v2 v3 st H locs ls hf hl hP hS
    unfold fX12_leaf_b18 at hf
    refine lv_iconst (v := 0) hx hb dX12_leaf_18 (by decide) ?_
    exact B19 v2 v3 (0 : Int32) st _ _ ls hf hl hP hS
  refine lv_aload_n hx hb dX12_leaf_0 rfl (lv_at hl 0 rfl) ?_
  refine lv_iload_n hx hb dX12_leaf_1 rfl (lv_at hl 1 rfl) ?_
  refine lv_if_eq (tgt := 18) hx hb dX12_leaf_2 (by decide) (fun hc => ?_) (fun hc => ?_)
  · replace hf := it_pos hc hf
    exact B18 a1 a2 st _ _ ls hf (lv_sub hl [0, 2, 3] rfl) hP hS
  · replace hf := it_neg hc hf
    refine lv_aload_n hx hb dX12_leaf_5 rfl (lv_at hl 0 rfl) ?_
    refine mg_26 E hP dX12_leaf_6 ?_
    refine lv_bipush (v := 50) hx hb dX12_leaf_9 (by decide) ?_
    refine lv_icmp_ge (tgt := 18) hx hb dX12_leaf_11 (by decide) (fun hc => ?_) (fun hc => ?_)
    · replace hf := it_pos hc hf
      exact B18 a1 a2 st _ _ ls hf (lv_sub hl [0, 2, 3] rfl) hP hS
    · replace hf := it_neg hc hf
      refine lv_iconst (v := 1) hx hb dX12_leaf_14 (by decide) ?_
      refine lv_goto (tgt := 19) hx hb dX12_leaf_15 (by decide) ?_
      exact B19 a1 a2 (1 : Int32) st _ _ ls hf (lv_sub hl [0, 2, 3] rfl) hP hS
theorem qX12_leaf : yX12_leaf.cls = RX12 ∧ yX12_leaf.cls ≠ "java/lang/invoke/MethodHandle" ∧ yX12_leaf.cls ≠ "java/lang/invoke/VarHandle" ∧ (parseMethodDescriptor yX12_leaf.desc).map (fun d => d.parameters.length) = some 3 := by decide +kernel
def fX12_readPart_b154 (st : St) : Option (Int32 × St) := some ((3 : Int32), st)
def fX12_readPart_b150 (w0 : Int64) (w1 : Int64) (w3 : Int32) (st : St) : Option (Int32 × St) := bd (fX12_number w1 w0 st) (fun r1 st2 => gi w3 400 (lt (sA st2 25 (upd (st2.2.2.1 25) w3.toNatClampNeg r1)) (fun st3 => fX12_readPart_b154 st3)))
def fX12_readPart_b99 (v1 : Int32) (w0 : Int32) (w1 : Int32) (w2 : Int32) (st : St) : Option (Int32 × St) := bd (fX12_leaf w2 w1 w0 st) (fun r4 st5 => if (st5.1 20) = 0 then (fX12_readPart_b154 st5) else (if v1 < (4 : Int32) then (fX12_readPart_b154 st5) else (if (st5.1 19) = 0 then (lt ((st5.1 23) - (1 : Int32)) (fun x6 => if v1 = (6 : Int32) then (fX12_readPart_b150 (3 : Int64) (0 : Int64) x6 st5) else (fX12_readPart_b150 (5 : Int64) (0 : Int64) x6 st5))) else (fX12_readPart_b154 st5))))
def fX12_readPart_b86 (v1 : Int32) (v2 : Int32) (w0 : Int32) (w1 : Int32) (st : St) : Option (Int32 × St) := if v2 = 0 then (fX12_readPart_b99 v1 (0 : Int32) w0 w1 st) else (fX12_readPart_b99 v1 ((st.2.1 17).toInt32) w0 w1 st)
def fX12_readPart_b76 (v1 : Int32) (v2 : Int32) (w0 : Int32) (st : St) : Option (Int32 × St) := if v1 = (-1 : Int32) then (fX12_readPart_b86 v1 v2 (0 : Int32) w0 st) else (fX12_readPart_b86 v1 v2 v1 w0 st)
def fX12_readPart_b71 (v1 : Int32) (v2 : Int32) (st : St) : Option (Int32 × St) := fX12_readPart_b76 v1 v2 (1 : Int32) st
def fX12_readPart_b60 (v1 : Int32) (w0 : Int32) (st : St) : Option (Int32 × St) := if v1 = (-1 : Int32) then (if w0 = 0 then (fX12_readPart_b76 v1 w0 (0 : Int32) st) else (fX12_readPart_b71 v1 w0 st)) else (fX12_readPart_b71 v1 w0 st)
def fX12_readPart_b59 (v1 : Int32) (st : St) : Option (Int32 × St) := fX12_readPart_b60 v1 (0 : Int32) st
def fX12_readPart_b35 (w0 : Int32) (st : St) : Option (Int32 × St) := if (st.1 16) = (2 : Int32) then (if 0 < (lg_cmp (st.2.1 17) (1000 : Int64)) then (fX12_readPart_b59 w0 st) else (fX12_readPart_b60 w0 (1 : Int32) st)) else (fX12_readPart_b59 w0 st)
def fX12_readPart (st : St) : Option (Int32 × St) := bd (fX12_isSign (91 : Int32) st) (fun r7 st8 => if r7 = 0 then (if (st8.1 20) = 0 then (bd (fX12_partAt st8) (fun r9 st10 => fX12_readPart_b35 r9 st10)) else (bd (fX12_orderPartAt st8) (fun r11 st12 => fX12_readPart_b35 r11 st12))) else (bd (fX12_openBracket (32 : Int32) st8) (fun r13 st14 => some ((1 : Int32), st14))))
set_option maxHeartbeats 4000000 in
set_option maxRecDepth 100000 in
theorem tX12_readPart (l : Launch) (D : va_G) (cy : Nat → ClassId) (ad : Nat → Nat) (hJ : (mads ad).Nodup) (sz : Nat) (st : St) (rr : Int32) (st' : St) (hf : fX12_readPart  st = some (rr, st')) : Met l yX12_readPart (Cond.code yX12_readPart cX12_readPart 4 (some .int) :: TT) (rmD 4) (mPc D cy ad [] st sz) (mQi D cy ad rr st' sz) 0 0 (mA ad sz) := by
  refine m_meti (by decide) hJ (Nat.le_of_ble_eq_true rfl) (fun p e s m args below meth c ls E hx hb hr hlocks hown hT hD hl hP hS => ?_)
  replace hl : lv_has ls 4 [(0, .ref (ad 100))] := hl
  unfold fX12_readPart at hf
  have B154 : ∀ (st : St) (H : Heap) (locs : List Loc) (ls : Array Slot), fX12_readPart_b154 st = some (rr, st') → lv_has ls 4 [] → va_P D classes (mw cy ad st) H → va_S (mA ad s.heap.size) s.heap H locs → mGi l 4 D cy ad rr st' p e s m args below meth c H locs (F0 m 154 ls []) := by
    intro st H locs ls hf hl hP hS
    unfold fX12_readPart_b154 at hf
    refine lv_iconst (v := 3) hx hb dX12_readPart_154 (by decide) ?_
    exact m_iret hx hb hr hlocks hf hP hS dX12_readPart_155
  have B150 : ∀ (w0 : Int64) (w1 : Int64) (w3 : Int32) (st : St) (H : Heap) (locs : List Loc) (ls : Array Slot), fX12_readPart_b150 w0 w1 w3 st = some (rr, st') → lv_has ls 4 [] → va_P D classes (mw cy ad st) H → va_S (mA ad s.heap.size) s.heap H locs → mGi l 4 D cy ad rr st' p e s m args below meth c H locs (F0 m 150 ls [.long w0, .long w1, .ref (ad 100), .int w3, .ref (ad 25)]) := by
    intro w0 w1 w3 st H locs ls hf hl hP hS
    unfold fX12_readPart_b150 at hf
    obtain ⟨r1, st2, hc, hf⟩ := bd_some hf
    refine m_calli (n := 2) (rest := [.int w3, .ref (ad 25)]) E hP hS (fun sz => tX12_number l D cy ad hJ sz w1 w0 st r1 st2 hc) (gV k_1520 k_1522 ks_61 k_14 k_1523) qX12_number ⟨Nat.le_of_ble_eq_true rfl, Nat.le_of_ble_eq_true rfl⟩ ⟨Nat.le_refl _, Nat.le_refl _⟩ rfl hl.1 rfl (Nat.le_of_ble_eq_true rfl) dX12_readPart_150 (fun H locs hP hS => ?_)
    obtain ⟨hi, hf⟩ := gi_some hf
    refine ms_25 E hD hP hS hi dX12_readPart_153 (fun st3 H locs ex hP hS => ?_)
    replace hf := lt_at ex hf; clear ex
    exact B154 st3 _ _ ls hf hl hP hS
  have B99 : ∀ (v1 : Int32) (w0 : Int32) (w1 : Int32) (w2 : Int32) (st : St) (H : Heap) (locs : List Loc) (ls : Array Slot), fX12_readPart_b99 v1 w0 w1 w2 st = some (rr, st') → lv_has ls 4 [(0, .ref (ad 100)), (1, .int v1)] → va_P D classes (mw cy ad st) H → va_S (mA ad s.heap.size) s.heap H locs → mGi l 4 D cy ad rr st' p e s m args below meth c H locs (F0 m 99 ls [.int w0, .int w1, .int w2, .ref (ad 100)]) := by
    intro v1 w0 w1 w2 st H locs ls hf hl hP hS
    unfold fX12_readPart_b99 at hf
    obtain ⟨r4, st5, hc, hf⟩ := bd_some hf
    refine m_callv (n := 3) (rest := []) E hP hS (fun sz => tX12_leaf l D cy ad hJ sz w2 w1 w0 st r4 st5 hc) (gV k_1512 k_1514 ks_59 k_14 k_1515) qX12_leaf ⟨Nat.le_of_ble_eq_true rfl, Nat.le_of_ble_eq_true rfl⟩ ⟨Nat.le_refl _, Nat.le_refl _⟩ rfl hl.1 rfl (Nat.le_of_ble_eq_true rfl) dX12_readPart_99 (fun H locs hP hS => ?_)
    refine lv_aload_n hx hb dX12_readPart_102 rfl (lv_at hl 0 rfl) ?_
    refine mg_20 E hP dX12_readPart_103 ?_
    refine lv_if_eq (tgt := 154) hx hb dX12_readPart_106 (by decide) (fun hc => ?_) (fun hc => ?_)
    · replace hf := it_pos hc hf
      exact B154 st5 _ _ ls hf (lv_sub hl [] rfl) hP hS
    · replace hf := it_neg hc hf
      refine lv_iload_n hx hb dX12_readPart_109 rfl (lv_at hl 1 rfl) ?_
      refine lv_iconst (v := 4) hx hb dX12_readPart_110 (by decide) ?_
      refine lv_icmp_lt (tgt := 154) hx hb dX12_readPart_111 (by decide) (fun hc => ?_) (fun hc => ?_)
      · replace hf := it_pos hc hf
        exact B154 st5 _ _ ls hf (lv_sub hl [] rfl) hP hS
      · replace hf := it_neg hc hf
        refine lv_aload_n hx hb dX12_readPart_114 rfl (lv_at hl 0 rfl) ?_
        refine mg_19 E hP dX12_readPart_115 ?_
        refine lv_if_ne (tgt := 154) hx hb dX12_readPart_118 (by decide) (fun hc => ?_) (fun hc => ?_)
        · replace hf := it_neg hc hf
          exact B154 st5 _ _ ls hf (lv_sub hl [] rfl) hP hS
        · replace hf := it_pos hc hf
          refine lv_aload_n hx hb dX12_readPart_121 rfl (lv_at hl 0 rfl) ?_
          refine mg_23 E hP dX12_readPart_122 ?_
          refine lv_iconst (v := 1) hx hb dX12_readPart_125 (by decide) ?_
          refine lv_isub hx hb dX12_readPart_126 ?_
          refine lv_topi (fun x6 ex => ?_)
          replace hf := lt_at ex hf; clear ex
          refine lv_istore_n (lv' := [(3, .int x6), (0, .ref (ad 100)), (1, .int v1)]) hx hb dX12_readPart_127 rfl hl (by decide) rfl (fun ls hl => ?_)
          refine lv_aload_n hx hb dX12_readPart_128 rfl (lv_at hl 1 rfl) ?_
          refine mg_25 E hP dX12_readPart_129 ?_
          refine lv_iload_n hx hb dX12_readPart_132 rfl (lv_at hl 0 rfl) ?_
          refine lv_aload_n hx hb dX12_readPart_133 rfl (lv_at hl 1 rfl) ?_
          refine lv_lconst (v := 0) hx hb dX12_readPart_134 (by decide) ?_
          refine lv_iload_n hx hb dX12_readPart_135 rfl (lv_at hl 2 rfl) ?_
          refine lv_bipush (v := 6) hx hb dX12_readPart_136 (by decide) ?_
          refine lv_icmp_ne (tgt := 147) hx hb dX12_readPart_138 (by decide) (fun hc => ?_) (fun hc => ?_)
          · replace hf := it_neg hc hf
            refine lv_ldc2 (v := 5) hx hb hown (hT _ k_1396) dX12_readPart_147 ?_
            exact B150 (5 : Int64) (0 : Int64) x6 st5 _ _ ls hf (lv_sub hl [] rfl) hP hS
          · replace hf := it_pos hc hf
            refine lv_ldc2 (v := 3) hx hb hown (hT _ k_1366) dX12_readPart_141 ?_
            refine lv_goto (tgt := 150) hx hb dX12_readPart_144 (by decide) ?_
            exact B150 (3 : Int64) (0 : Int64) x6 st5 _ _ ls hf (lv_sub hl [] rfl) hP hS
  have B86 : ∀ (v1 : Int32) (v2 : Int32) (w0 : Int32) (w1 : Int32) (st : St) (H : Heap) (locs : List Loc) (ls : Array Slot), fX12_readPart_b86 v1 v2 w0 w1 st = some (rr, st') → lv_has ls 4 [(0, .ref (ad 100)), (1, .int v1), (2, .int v2)] → va_P D classes (mw cy ad st) H → va_S (mA ad s.heap.size) s.heap H locs → mGi l 4 D cy ad rr st' p e s m args below meth c H locs (F0 m 86 ls [.int w0, .int w1, .ref (ad 100)]) := by
    intro v1 v2 w0 w1 st H locs ls hf hl hP hS
    unfold fX12_readPart_b86 at hf
    refine lv_iload_n hx hb dX12_readPart_86 rfl (lv_at hl 2 rfl) ?_
    refine lv_if_eq (tgt := 98) hx hb dX12_readPart_87 (by decide) (fun hc => ?_) (fun hc => ?_)
    · replace hf := it_pos hc hf
      refine lv_iconst (v := 0) hx hb dX12_readPart_98 (by decide) ?_
      exact B99 v1 (0 : Int32) w0 w1 st _ _ ls hf (lv_sub hl [0, 1] rfl) hP hS
    · replace hf := it_neg hc hf
      refine lv_aload_n hx hb dX12_readPart_90 rfl (lv_at hl 0 rfl) ?_
      refine mg_17 E hP dX12_readPart_91 ?_
      refine lv_l2i (v := (st.2.1 17).toInt32) hx hb dX12_readPart_94 rfl ?_
      refine lv_goto (tgt := 99) hx hb dX12_readPart_95 (by decide) ?_
      exact B99 v1 ((st.2.1 17).toInt32) w0 w1 st _ _ ls hf (lv_sub hl [0, 1] rfl) hP hS
  have B76 : ∀ (v1 : Int32) (v2 : Int32) (w0 : Int32) (st : St) (H : Heap) (locs : List Loc) (ls : Array Slot), fX12_readPart_b76 v1 v2 w0 st = some (rr, st') → lv_has ls 4 [(0, .ref (ad 100)), (1, .int v1), (2, .int v2)] → va_P D classes (mw cy ad st) H → va_S (mA ad s.heap.size) s.heap H locs → mGi l 4 D cy ad rr st' p e s m args below meth c H locs (F0 m 76 ls [.int w0, .ref (ad 100)]) := by
    intro v1 v2 w0 st H locs ls hf hl hP hS
    unfold fX12_readPart_b76 at hf
    refine lv_iload_n hx hb dX12_readPart_76 rfl (lv_at hl 1 rfl) ?_
    refine lv_iconst (v := -1) hx hb dX12_readPart_77 (by decide) ?_
    refine lv_icmp_ne (tgt := 85) hx hb dX12_readPart_78 (by decide) (fun hc => ?_) (fun hc => ?_)
    · replace hf := it_neg hc hf
      refine lv_iload_n hx hb dX12_readPart_85 rfl (lv_at hl 1 rfl) ?_
      exact B86 v1 v2 v1 w0 st _ _ ls hf hl hP hS
    · replace hf := it_pos hc hf
      refine lv_iconst (v := 0) hx hb dX12_readPart_81 (by decide) ?_
      refine lv_goto (tgt := 86) hx hb dX12_readPart_82 (by decide) ?_
      exact B86 v1 v2 (0 : Int32) w0 st _ _ ls hf hl hP hS
  have B71 : ∀ (v1 : Int32) (v2 : Int32) (st : St) (H : Heap) (locs : List Loc) (ls : Array Slot), fX12_readPart_b71 v1 v2 st = some (rr, st') → lv_has ls 4 [(0, .ref (ad 100)), (1, .int v1), (2, .int v2)] → va_P D classes (mw cy ad st) H → va_S (mA ad s.heap.size) s.heap H locs → mGi l 4 D cy ad rr st' p e s m args below meth c H locs (F0 m 71 ls [.ref (ad 100)]) := by
    intro v1 v2 st H locs ls hf hl hP hS
    unfold fX12_readPart_b71 at hf
    refine lv_iconst (v := 1) hx hb dX12_readPart_71 (by decide) ?_
    refine lv_goto (tgt := 76) hx hb dX12_readPart_72 (by decide) ?_
    exact B76 v1 v2 (1 : Int32) st _ _ ls hf hl hP hS
  have B60 : ∀ (v1 : Int32) (w0 : Int32) (st : St) (H : Heap) (locs : List Loc) (ls : Array Slot), fX12_readPart_b60 v1 w0 st = some (rr, st') → lv_has ls 4 [(0, .ref (ad 100)), (1, .int v1)] → va_P D classes (mw cy ad st) H → va_S (mA ad s.heap.size) s.heap H locs → mGi l 4 D cy ad rr st' p e s m args below meth c H locs (F0 m 60 ls [.int w0]) := by
    intro v1 w0 st H locs ls hf hl hP hS
    unfold fX12_readPart_b60 at hf
    refine lv_istore_n (lv' := [(2, .int w0), (0, .ref (ad 100)), (1, .int v1)]) hx hb dX12_readPart_60 rfl hl (by decide) rfl (fun ls hl => ?_)
    refine lv_aload_n hx hb dX12_readPart_61 rfl (lv_at hl 1 rfl) ?_
    refine lv_iload_n hx hb dX12_readPart_62 rfl (lv_at hl 2 rfl) ?_
    refine lv_iconst (v := -1) hx hb dX12_readPart_63 (by decide) ?_
    refine lv_icmp_ne (tgt := 71) hx hb dX12_readPart_64 (by decide) (fun hc => ?_) (fun hc => ?_)
    · replace hf := it_neg hc hf
      exact B71 v1 w0 st _ _ ls hf (lv_sub hl [1, 2, 0] rfl) hP hS
    · replace hf := it_pos hc hf
      refine lv_iload_n hx hb dX12_readPart_67 rfl (lv_at hl 0 rfl) ?_
      refine lv_if_eq (tgt := 75) hx hb dX12_readPart_68 (by decide) (fun hc => ?_) (fun hc => ?_)
      · replace hf := it_pos hc hf
        refine lv_iconst (v := 0) hx hb dX12_readPart_75 (by decide) ?_
        exact B76 v1 w0 (0 : Int32) st _ _ ls hf (lv_sub hl [1, 2, 0] rfl) hP hS
      · replace hf := it_neg hc hf
        exact B71 v1 w0 st _ _ ls hf (lv_sub hl [1, 2, 0] rfl) hP hS
  have B59 : ∀ (v1 : Int32) (st : St) (H : Heap) (locs : List Loc) (ls : Array Slot), fX12_readPart_b59 v1 st = some (rr, st') → lv_has ls 4 [(0, .ref (ad 100)), (1, .int v1)] → va_P D classes (mw cy ad st) H → va_S (mA ad s.heap.size) s.heap H locs → mGi l 4 D cy ad rr st' p e s m args below meth c H locs (F0 m 59 ls []) := by
    intro v1 st H locs ls hf hl hP hS
    unfold fX12_readPart_b59 at hf
    refine lv_iconst (v := 0) hx hb dX12_readPart_59 (by decide) ?_
    exact B60 v1 (0 : Int32) st _ _ ls hf hl hP hS
  have B35 : ∀ (w0 : Int32) (st : St) (H : Heap) (locs : List Loc) (ls : Array Slot), fX12_readPart_b35 w0 st = some (rr, st') → lv_has ls 4 [(0, .ref (ad 100))] → va_P D classes (mw cy ad st) H → va_S (mA ad s.heap.size) s.heap H locs → mGi l 4 D cy ad rr st' p e s m args below meth c H locs (F0 m 35 ls [.int w0]) := by
    intro w0 st H locs ls hf hl hP hS
    unfold fX12_readPart_b35 at hf
    refine lv_istore_n (lv' := [(1, .int w0), (0, .ref (ad 100))]) hx hb dX12_readPart_35 rfl hl (by decide) rfl (fun ls hl => ?_)
    refine lv_aload_n hx hb dX12_readPart_36 rfl (lv_at hl 1 rfl) ?_
    refine mg_16 E hP dX12_readPart_37 ?_
    refine lv_iconst (v := 2) hx hb dX12_readPart_40 (by decide) ?_
    refine lv_icmp_ne (tgt := 59) hx hb dX12_readPart_41 (by decide) (fun hc => ?_) (fun hc => ?_)
    · replace hf := it_neg hc hf
      exact B59 w0 st _ _ ls hf (lv_sub hl [1, 0] rfl) hP hS
    · replace hf := it_pos hc hf
      refine lv_aload_n hx hb dX12_readPart_44 rfl (lv_at hl 1 rfl) ?_
      refine mg_17 E hP dX12_readPart_45 ?_
      refine lv_ldc2 (v := 1000) hx hb hown (hT _ k_1379) dX12_readPart_48 ?_
      refine W.lcmp hx hb dX12_readPart_51 ?_
      refine lv_if_gt (tgt := 59) hx hb dX12_readPart_52 (by decide) (fun hc => ?_) (fun hc => ?_)
      · replace hf := it_pos hc hf
        exact B59 w0 st _ _ ls hf (lv_sub hl [1, 0] rfl) hP hS
      · replace hf := it_neg hc hf
        refine lv_iconst (v := 1) hx hb dX12_readPart_55 (by decide) ?_
        refine lv_goto (tgt := 60) hx hb dX12_readPart_56 (by decide) ?_
        exact B60 w0 (1 : Int32) st _ _ ls hf (lv_sub hl [1, 0] rfl) hP hS
  refine lv_aload_n hx hb dX12_readPart_0 rfl (lv_at hl 0 rfl) ?_
  refine lv_bipush (v := 91) hx hb dX12_readPart_1 (by decide) ?_
  obtain ⟨r7, st8, hc, hf⟩ := bd_some hf
  refine m_calli (n := 1) (rest := []) E hP hS (fun sz => tX12_isSign l D cy ad hJ sz (91 : Int32) st r7 st8 hc) (gV k_1492 k_1494 ks_54 k_14 k_1495) qX12_isSign ⟨Nat.le_of_ble_eq_true rfl, Nat.le_of_ble_eq_true rfl⟩ ⟨Nat.le_refl _, Nat.le_refl _⟩ rfl hl.1 rfl (Nat.le_of_ble_eq_true rfl) dX12_readPart_3 (fun H locs hP hS => ?_)
  refine lv_if_eq (tgt := 17) hx hb dX12_readPart_6 (by decide) (fun hc => ?_) (fun hc => ?_)
  · replace hf := it_pos hc hf
    refine lv_aload_n hx hb dX12_readPart_17 rfl (lv_at hl 0 rfl) ?_
    refine mg_20 E hP dX12_readPart_18 ?_
    refine lv_if_eq (tgt := 31) hx hb dX12_readPart_21 (by decide) (fun hc => ?_) (fun hc => ?_)
    · replace hf := it_pos hc hf
      refine lv_aload_n hx hb dX12_readPart_31 rfl (lv_at hl 0 rfl) ?_
      obtain ⟨r9, st10, hc, hf⟩ := bd_some hf
      refine m_calli (n := 0) (rest := []) E hP hS (fun sz => tX12_partAt l D cy ad hJ sz st8 r9 st10 hc) (gV k_1508 k_1510 ks_58 k_14 k_1511) qX12_partAt ⟨Nat.le_of_ble_eq_true rfl, Nat.le_of_ble_eq_true rfl⟩ ⟨Nat.le_refl _, Nat.le_refl _⟩ rfl hl.1 rfl (Nat.le_of_ble_eq_true rfl) dX12_readPart_32 (fun H locs hP hS => ?_)
      exact B35 r9 st10 _ _ ls hf hl hP hS
    · replace hf := it_neg hc hf
      refine lv_aload_n hx hb dX12_readPart_24 rfl (lv_at hl 0 rfl) ?_
      obtain ⟨r11, st12, hc, hf⟩ := bd_some hf
      refine m_calli (n := 0) (rest := []) E hP hS (fun sz => tX12_orderPartAt l D cy ad hJ sz st8 r11 st12 hc) (gV k_1504 k_1506 ks_57 k_14 k_1507) qX12_orderPartAt ⟨Nat.le_of_ble_eq_true rfl, Nat.le_of_ble_eq_true rfl⟩ ⟨Nat.le_refl _, Nat.le_refl _⟩ rfl hl.1 rfl (Nat.le_of_ble_eq_true rfl) dX12_readPart_25 (fun H locs hP hS => ?_)
      refine lv_goto (tgt := 35) hx hb dX12_readPart_28 (by decide) ?_
      exact B35 r11 st12 _ _ ls hf hl hP hS
  · replace hf := it_neg hc hf
    refine lv_aload_n hx hb dX12_readPart_9 rfl (lv_at hl 0 rfl) ?_
    refine lv_bipush (v := 32) hx hb dX12_readPart_10 (by decide) ?_
    obtain ⟨r13, st14, hc, hf⟩ := bd_some hf
    refine m_callv (n := 1) (rest := []) E hP hS (fun sz => tX12_openBracket l D cy ad hJ sz (32 : Int32) st8 r13 st14 hc) (gV k_1496 k_1498 ks_55 k_14 k_1499) qX12_openBracket ⟨Nat.le_of_ble_eq_true rfl, Nat.le_of_ble_eq_true rfl⟩ ⟨Nat.le_refl _, Nat.le_refl _⟩ rfl hl.1 rfl (Nat.le_of_ble_eq_true rfl) dX12_readPart_12 (fun H locs hP hS => ?_)
    refine lv_iconst (v := 1) hx hb dX12_readPart_15 (by decide) ?_
    exact m_iret hx hb hr hlocks hf hP hS dX12_readPart_16
theorem qX12_readPart : yX12_readPart.cls = RX12 ∧ yX12_readPart.cls ≠ "java/lang/invoke/MethodHandle" ∧ yX12_readPart.cls ≠ "java/lang/invoke/VarHandle" ∧ (parseMethodDescriptor yX12_readPart.desc).map (fun d => d.parameters.length) = some 0 := by decide +kernel
def fX12_readPlain (st : St) : Option (Int32 × St) := bd (fX12_isWord (14836 : Int64) st) (fun r1 st2 => if r1 = 0 then (bd (fX12_isSign (40 : Int32) st2) (fun r3 st4 => if r3 = 0 then (bd (fX12_readPart st4) (fun r5 st6 => some (r5, st6))) else (bd (fX12_openBracket (31 : Int32) st4) (fun r7 st8 => some ((0 : Int32), st8))))) else (bd (fX12_push (28 : Int32) (0 : Int32) st2) (fun r9 st10 => bd (fX12_nextToken st10) (fun r11 st12 => some ((0 : Int32), st12)))))
set_option maxHeartbeats 4000000 in
set_option maxRecDepth 100000 in
theorem tX12_readPlain (l : Launch) (D : va_G) (cy : Nat → ClassId) (ad : Nat → Nat) (hJ : (mads ad).Nodup) (sz : Nat) (st : St) (rr : Int32) (st' : St) (hf : fX12_readPlain  st = some (rr, st')) : Met l yX12_readPlain (Cond.code yX12_readPlain cX12_readPlain 1 (some .int) :: TT) (rmD 5) (mPc D cy ad [] st sz) (mQi D cy ad rr st' sz) 0 0 (mA ad sz) := by
  refine m_meti (by decide) hJ (Nat.le_of_ble_eq_true rfl) (fun p e s m args below meth c ls E hx hb hr hlocks hown hT hD hl hP hS => ?_)
  replace hl : lv_has ls 1 [(0, .ref (ad 100))] := hl
  unfold fX12_readPlain at hf
  refine lv_aload_n hx hb dX12_readPlain_0 rfl (lv_at hl 0 rfl) ?_
  refine lv_ldc2 (v := 14836) hx hb hown (hT _ k_1487) dX12_readPlain_1 ?_
  obtain ⟨r1, st2, hc, hf⟩ := bd_some hf
  refine m_calli (n := 1) (rest := []) E hP hS (fun sz => tX12_isWord l D cy ad hJ sz (14836 : Int64) st r1 st2 hc) (gV k_1471 k_1473 ks_49 k_14 k_1474) qX12_isWord ⟨Nat.le_of_ble_eq_true rfl, Nat.le_of_ble_eq_true rfl⟩ ⟨Nat.le_refl _, Nat.le_refl _⟩ rfl hl.1 rfl (Nat.le_of_ble_eq_true rfl) dX12_readPlain_4 (fun H locs hP hS => ?_)
  refine lv_if_eq (tgt := 23) hx hb dX12_readPlain_7 (by decide) (fun hc => ?_) (fun hc => ?_)
  · replace hf := it_pos hc hf
    refine lv_aload_n hx hb dX12_readPlain_23 rfl (lv_at hl 0 rfl) ?_
    refine lv_bipush (v := 40) hx hb dX12_readPlain_24 (by decide) ?_
    obtain ⟨r3, st4, hc, hf⟩ := bd_some hf
    refine m_calli (n := 1) (rest := []) E hP hS (fun sz => tX12_isSign l D cy ad hJ sz (40 : Int32) st2 r3 st4 hc) (gV k_1492 k_1494 ks_54 k_14 k_1495) qX12_isSign ⟨Nat.le_of_ble_eq_true rfl, Nat.le_of_ble_eq_true rfl⟩ ⟨Nat.le_refl _, Nat.le_refl _⟩ rfl hl.1 rfl (Nat.le_of_ble_eq_true rfl) dX12_readPlain_26 (fun H locs hP hS => ?_)
    refine lv_if_eq (tgt := 40) hx hb dX12_readPlain_29 (by decide) (fun hc => ?_) (fun hc => ?_)
    · replace hf := it_pos hc hf
      refine lv_aload_n hx hb dX12_readPlain_40 rfl (lv_at hl 0 rfl) ?_
      obtain ⟨r5, st6, hc, hf⟩ := bd_some hf
      refine m_calli (n := 0) (rest := []) E hP hS (fun sz => tX12_readPart l D cy ad hJ sz st4 r5 st6 hc) (gV k_1500 k_1502 ks_56 k_14 k_1503) qX12_readPart ⟨Nat.le_of_ble_eq_true rfl, Nat.le_of_ble_eq_true rfl⟩ ⟨Nat.le_refl _, Nat.le_refl _⟩ rfl hl.1 rfl (Nat.le_of_ble_eq_true rfl) dX12_readPlain_41 (fun H locs hP hS => ?_)
      exact m_iret hx hb hr hlocks hf hP hS dX12_readPlain_44
    · replace hf := it_neg hc hf
      refine lv_aload_n hx hb dX12_readPlain_32 rfl (lv_at hl 0 rfl) ?_
      refine lv_bipush (v := 31) hx hb dX12_readPlain_33 (by decide) ?_
      obtain ⟨r7, st8, hc, hf⟩ := bd_some hf
      refine m_callv (n := 1) (rest := []) E hP hS (fun sz => tX12_openBracket l D cy ad hJ sz (31 : Int32) st4 r7 st8 hc) (gV k_1496 k_1498 ks_55 k_14 k_1499) qX12_openBracket ⟨Nat.le_of_ble_eq_true rfl, Nat.le_of_ble_eq_true rfl⟩ ⟨Nat.le_refl _, Nat.le_refl _⟩ rfl hl.1 rfl (Nat.le_of_ble_eq_true rfl) dX12_readPlain_35 (fun H locs hP hS => ?_)
      refine lv_iconst (v := 0) hx hb dX12_readPlain_38 (by decide) ?_
      exact m_iret hx hb hr hlocks hf hP hS dX12_readPlain_39
  · replace hf := it_neg hc hf
    refine lv_aload_n hx hb dX12_readPlain_10 rfl (lv_at hl 0 rfl) ?_
    refine lv_bipush (v := 28) hx hb dX12_readPlain_11 (by decide) ?_
    refine lv_iconst (v := 0) hx hb dX12_readPlain_13 (by decide) ?_
    obtain ⟨r9, st10, hc, hf⟩ := bd_some hf
    refine m_callv (n := 2) (rest := []) E hP hS (fun sz => tX12_push l D cy ad hJ sz (28 : Int32) (0 : Int32) st2 r9 st10 hc) (gV k_1488 k_1490 ks_53 k_14 k_1491) qX12_push ⟨Nat.le_of_ble_eq_true rfl, Nat.le_of_ble_eq_true rfl⟩ ⟨Nat.le_refl _, Nat.le_refl _⟩ rfl hl.1 rfl (Nat.le_of_ble_eq_true rfl) dX12_readPlain_14 (fun H locs hP hS => ?_)
    refine lv_aload_n hx hb dX12_readPlain_17 rfl (lv_at hl 0 rfl) ?_
    obtain ⟨r11, st12, hc, hf⟩ := bd_some hf
    refine m_callv (n := 0) (rest := []) E hP hS (fun sz => tX12_nextToken l D cy ad hJ sz st10 r11 st12 hc) (gV k_1453 k_1455 ks_47 k_14 k_1456) qX12_nextToken ⟨Nat.le_of_ble_eq_true rfl, Nat.le_of_ble_eq_true rfl⟩ ⟨Nat.le_refl _, Nat.le_refl _⟩ rfl hl.1 rfl (Nat.le_of_ble_eq_true rfl) dX12_readPlain_18 (fun H locs hP hS => ?_)
    refine lv_iconst (v := 0) hx hb dX12_readPlain_21 (by decide) ?_
    exact m_iret hx hb hr hlocks hf hP hS dX12_readPlain_22
theorem qX12_readPlain : yX12_readPlain.cls = RX12 ∧ yX12_readPlain.cls ≠ "java/lang/invoke/MethodHandle" ∧ yX12_readPlain.cls ≠ "java/lang/invoke/VarHandle" ∧ (parseMethodDescriptor yX12_readPlain.desc).map (fun d => d.parameters.length) = some 0 := by decide +kernel
def fX12_behindSum_b245 (st : St) : Option (Int32 × St) := some ((1 : Int32), st)
def fX12_behindSum_b224 (v2 : Int32) (w0 : Int32) (st : St) : Option (Int32 × St) := bd (fX12_must w0 st) (fun r1 st2 => if (st2.1 19) = 0 then (bd (fX12_settle (5 : Int32) st2) (fun r3 st4 => bd (fX12_push v2 (0 : Int32) st4) (fun r5 st6 => fX12_behindSum_b245 st6))) else (fX12_behindSum_b245 st2))
def fX12_behindSum_b219 (v2 : Int32) (st : St) : Option (Int32 × St) := fX12_behindSum_b224 v2 (1 : Int32) st
def fX12_behindSum_b202 (w0 : Int32) (st : St) : Option (Int32 × St) := if w0 = (27 : Int32) then (bd (fX12_isSign (61 : Int32) st) (fun r7 st8 => if r7 = 0 then (fX12_behindSum_b224 w0 (0 : Int32) st8) else (fX12_behindSum_b219 w0 st8))) else (fX12_behindSum_b219 w0 st)
def fX12_behindSum_b163 (st : St) : Option (Int32 × St) := bd (fX12_isCompared st) (fun r9 st10 => if r9 = 0 then (bd (fX12_isSign (60 : Int32) st10) (fun r11 st12 => if r11 = 0 then (bd (fX12_isSign (62 : Int32) st12) (fun r13 st14 => if r13 = 0 then (fX12_behindSum_b202 (27 : Int32) st14) else (fX12_behindSum_b202 (26 : Int32) st14))) else (fX12_behindSum_b202 (25 : Int32) st12))) else (some ((2 : Int32), st10)))
def fX12_behindSum_b150 (st : St) : Option (Int32 × St) := some ((3 : Int32), st)
def fX12_behindSum_b71 (v1 : Int32) (w0 : Int32) (st : St) : Option (Int32 × St) := if w0 = (-1 : Int32) then (bd (fX12_inner st) (fun r15 st16 => if r15 = (32 : Int32) then (bd (fX12_isSign (93 : Int32) st16) (fun r17 st18 => bd (fX12_must r17 st18) (fun r19 st20 => if (st20.1 19) = 0 then (bd (fX12_settle (5 : Int32) st20) (fun r21 st22 => lt (sI st22 29 ((st22.1 29) - (1 : Int32))) (fun st23 => lt (sI st23 30 ((st23.1 30) - (1 : Int32))) (fun st24 => fX12_behindSum_b150 st24)))) else (fX12_behindSum_b150 st20)))) else (if r15 = (-1 : Int32) then (if v1 = 0 then (some ((4 : Int32), st16)) else (fX12_behindSum_b163 st16)) else (fX12_behindSum_b163 st16)))) else (bs (fX12_binds w0) (fun r25 => bd (fX12_settle r25 st) (fun r26 st27 => bd (fX12_push w0 (0 : Int32) st27) (fun r28 st29 => bd (fX12_nextToken st29) (fun r30 st31 => some ((1 : Int32), st31))))))
def fX12_behindSum (a0 : Int32) (st : St) : Option (Int32 × St) := bd (fX12_isSign (43 : Int32) st) (fun r32 st33 => if r32 = 0 then (bd (fX12_isSign (45 : Int32) st33) (fun r34 st35 => if r34 = 0 then (bd (fX12_isSign (42 : Int32) st35) (fun r36 st37 => if r36 = 0 then (bd (fX12_isSign (47 : Int32) st37) (fun r38 st39 => if r38 = 0 then (bd (fX12_isSign (37 : Int32) st39) (fun r40 st41 => if r40 = 0 then (fX12_behindSum_b71 a0 (-1 : Int32) st41) else (fX12_behindSum_b71 a0 (24 : Int32) st41))) else (fX12_behindSum_b71 a0 (23 : Int32) st39))) else (fX12_behindSum_b71 a0 (22 : Int32) st37))) else (fX12_behindSum_b71 a0 (21 : Int32) st35))) else (fX12_behindSum_b71 a0 (20 : Int32) st33))
set_option maxHeartbeats 4000000 in
set_option maxRecDepth 100000 in
theorem tX12_behindSum (l : Launch) (D : va_G) (cy : Nat → ClassId) (ad : Nat → Nat) (hJ : (mads ad).Nodup) (sz : Nat) (a0 : Int32) (st : St) (rr : Int32) (st' : St) (hf : fX12_behindSum a0 st = some (rr, st')) : Met l yX12_behindSum (Cond.code yX12_behindSum cX12_behindSum 4 (some .int) :: TT) (rmD 3) (mPc D cy ad [.int a0] st sz) (mQi D cy ad rr st' sz) 0 0 (mA ad sz) := by
  refine m_meti (by decide) hJ (Nat.le_of_ble_eq_true rfl) (fun p e s m args below meth c ls E hx hb hr hlocks hown hT hD hl hP hS => ?_)
  replace hl : lv_has ls 4 [(0, .ref (ad 100)), (1, .int a0)] := hl
  unfold fX12_behindSum at hf
  have B245 : ∀ (st : St) (H : Heap) (locs : List Loc) (ls : Array Slot), fX12_behindSum_b245 st = some (rr, st') → lv_has ls 4 [] → va_P D classes (mw cy ad st) H → va_S (mA ad s.heap.size) s.heap H locs → mGi l 3 D cy ad rr st' p e s m args below meth c H locs (F0 m 245 ls []) := by
    intro st H locs ls hf hl hP hS
    unfold fX12_behindSum_b245 at hf
    refine lv_iconst (v := 1) hx hb dX12_behindSum_245 (by decide) ?_
    exact m_iret hx hb hr hlocks hf hP hS dX12_behindSum_246
  have B224 : ∀ (v2 : Int32) (w0 : Int32) (st : St) (H : Heap) (locs : List Loc) (ls : Array Slot), fX12_behindSum_b224 v2 w0 st = some (rr, st') → lv_has ls 4 [(0, .ref (ad 100)), (2, .int v2)] → va_P D classes (mw cy ad st) H → va_S (mA ad s.heap.size) s.heap H locs → mGi l 3 D cy ad rr st' p e s m args below meth c H locs (F0 m 224 ls [.int w0, .ref (ad 100)]) := by
    intro v2 w0 st H locs ls hf hl hP hS
    unfold fX12_behindSum_b224 at hf
    obtain ⟨r1, st2, hc, hf⟩ := bd_some hf
    refine m_callv (n := 1) (rest := []) E hP hS (fun sz => tX12_must l D cy ad hJ sz w0 st r1 st2 hc) (gV k_1475 k_1477 ks_50 k_14 k_1478) qX12_must ⟨Nat.le_of_ble_eq_true rfl, Nat.le_of_ble_eq_true rfl⟩ ⟨Nat.le_refl _, Nat.le_refl _⟩ rfl hl.1 rfl (Nat.le_of_ble_eq_true rfl) dX12_behindSum_224 (fun H locs hP hS => ?_)
    refine lv_aload_n hx hb dX12_behindSum_227 rfl (lv_at hl 0 rfl) ?_
    refine mg_19 E hP dX12_behindSum_228 ?_
    refine lv_if_ne (tgt := 245) hx hb dX12_behindSum_231 (by decide) (fun hc => ?_) (fun hc => ?_)
    · replace hf := it_neg hc hf
      exact B245 st2 _ _ ls hf (lv_sub hl [] rfl) hP hS
    · replace hf := it_pos hc hf
      refine lv_aload_n hx hb dX12_behindSum_234 rfl (lv_at hl 0 rfl) ?_
      refine lv_iconst (v := 5) hx hb dX12_behindSum_235 (by decide) ?_
      obtain ⟨r3, st4, hc, hf⟩ := bd_some hf
      refine m_callv (n := 1) (rest := []) E hP hS (fun sz => tX12_settle l D cy ad hJ sz (5 : Int32) st2 r3 st4 hc) (gV k_1531 k_1533 ks_63 k_14 k_1534) qX12_settle ⟨Nat.le_of_ble_eq_true rfl, Nat.le_of_ble_eq_true rfl⟩ ⟨Nat.le_refl _, Nat.le_refl _⟩ rfl hl.1 rfl (Nat.le_of_ble_eq_true rfl) dX12_behindSum_236 (fun H locs hP hS => ?_)
      refine lv_aload_n hx hb dX12_behindSum_239 rfl (lv_at hl 0 rfl) ?_
      refine lv_iload_n hx hb dX12_behindSum_240 rfl (lv_at hl 1 rfl) ?_
      refine lv_iconst (v := 0) hx hb dX12_behindSum_241 (by decide) ?_
      obtain ⟨r5, st6, hc, hf⟩ := bd_some hf
      refine m_callv (n := 2) (rest := []) E hP hS (fun sz => tX12_push l D cy ad hJ sz v2 (0 : Int32) st4 r5 st6 hc) (gV k_1488 k_1490 ks_53 k_14 k_1491) qX12_push ⟨Nat.le_of_ble_eq_true rfl, Nat.le_of_ble_eq_true rfl⟩ ⟨Nat.le_refl _, Nat.le_refl _⟩ rfl hl.1 rfl (Nat.le_of_ble_eq_true rfl) dX12_behindSum_242 (fun H locs hP hS => ?_)
      exact B245 st6 _ _ ls hf (lv_sub hl [] rfl) hP hS
  have B219 : ∀ (v2 : Int32) (st : St) (H : Heap) (locs : List Loc) (ls : Array Slot), fX12_behindSum_b219 v2 st = some (rr, st') → lv_has ls 4 [(0, .ref (ad 100)), (2, .int v2)] → va_P D classes (mw cy ad st) H → va_S (mA ad s.heap.size) s.heap H locs → mGi l 3 D cy ad rr st' p e s m args below meth c H locs (F0 m 219 ls [.ref (ad 100)]) := by
    intro v2 st H locs ls hf hl hP hS
    unfold fX12_behindSum_b219 at hf
    refine lv_iconst (v := 1) hx hb dX12_behindSum_219 (by decide) ?_
    refine lv_goto (tgt := 224) hx hb dX12_behindSum_220 (by decide) ?_
    exact B224 v2 (1 : Int32) st _ _ ls hf hl hP hS
  have B202 : ∀ (w0 : Int32) (st : St) (H : Heap) (locs : List Loc) (ls : Array Slot), fX12_behindSum_b202 w0 st = some (rr, st') → lv_has ls 4 [(0, .ref (ad 100))] → va_P D classes (mw cy ad st) H → va_S (mA ad s.heap.size) s.heap H locs → mGi l 3 D cy ad rr st' p e s m args below meth c H locs (F0 m 202 ls [.int w0]) := by
    intro w0 st H locs ls hf hl hP hS
    unfold fX12_behindSum_b202 at hf
    refine lv_istore_n (lv' := [(2, .int w0), (0, .ref (ad 100))]) hx hb dX12_behindSum_202 rfl hl (by decide) rfl (fun ls hl => ?_)
    refine lv_aload_n hx hb dX12_behindSum_203 rfl (lv_at hl 1 rfl) ?_
    refine lv_iload_n hx hb dX12_behindSum_204 rfl (lv_at hl 0 rfl) ?_
    refine lv_bipush (v := 27) hx hb dX12_behindSum_205 (by decide) ?_
    refine lv_icmp_ne (tgt := 219) hx hb dX12_behindSum_207 (by decide) (fun hc => ?_) (fun hc => ?_)
    · replace hf := it_neg hc hf
      exact B219 w0 st _ _ ls hf (lv_sub hl [1, 0] rfl) hP hS
    · replace hf := it_pos hc hf
      refine lv_aload_n hx hb dX12_behindSum_210 rfl (lv_at hl 1 rfl) ?_
      refine lv_bipush (v := 61) hx hb dX12_behindSum_211 (by decide) ?_
      obtain ⟨r7, st8, hc, hf⟩ := bd_some hf
      refine m_calli (n := 1) (rest := [.ref (ad 100)]) E hP hS (fun sz => tX12_isSign l D cy ad hJ sz (61 : Int32) st r7 st8 hc) (gV k_1492 k_1494 ks_54 k_14 k_1495) qX12_isSign ⟨Nat.le_of_ble_eq_true rfl, Nat.le_of_ble_eq_true rfl⟩ ⟨Nat.le_refl _, Nat.le_refl _⟩ rfl hl.1 rfl (Nat.le_of_ble_eq_true rfl) dX12_behindSum_213 (fun H locs hP hS => ?_)
      refine lv_if_eq (tgt := 223) hx hb dX12_behindSum_216 (by decide) (fun hc => ?_) (fun hc => ?_)
      · replace hf := it_pos hc hf
        refine lv_iconst (v := 0) hx hb dX12_behindSum_223 (by decide) ?_
        exact B224 w0 (0 : Int32) st8 _ _ ls hf (lv_sub hl [1, 0] rfl) hP hS
      · replace hf := it_neg hc hf
        exact B219 w0 st8 _ _ ls hf (lv_sub hl [1, 0] rfl) hP hS
  have B163 : ∀ (st : St) (H : Heap) (locs : List Loc) (ls : Array Slot), fX12_behindSum_b163 st = some (rr, st') → lv_has ls 4 [(0, .ref (ad 100))] → va_P D classes (mw cy ad st) H → va_S (mA ad s.heap.size) s.heap H locs → mGi l 3 D cy ad rr st' p e s m args below meth c H locs (F0 m 163 ls []) := by
    intro st H locs ls hf hl hP hS
    unfold fX12_behindSum_b163 at hf
    refine lv_aload_n hx hb dX12_behindSum_163 rfl (lv_at hl 0 rfl) ?_
    obtain ⟨r9, st10, hc, hf⟩ := bd_some hf
    refine m_calli (n := 0) (rest := []) E hP hS (fun sz => tX12_isCompared l D cy ad hJ sz st r9 st10 hc) (gV k_1539 k_1541 ks_65 k_14 k_1542) qX12_isCompared ⟨Nat.le_of_ble_eq_true rfl, Nat.le_of_ble_eq_true rfl⟩ ⟨Nat.le_refl _, Nat.le_refl _⟩ rfl hl.1 rfl (Nat.le_of_ble_eq_true rfl) dX12_behindSum_164 (fun H locs hP hS => ?_)
    refine lv_if_eq (tgt := 172) hx hb dX12_behindSum_167 (by decide) (fun hc => ?_) (fun hc => ?_)
    · replace hf := it_pos hc hf
      refine lv_aload_n hx hb dX12_behindSum_172 rfl (lv_at hl 0 rfl) ?_
      refine lv_bipush (v := 60) hx hb dX12_behindSum_173 (by decide) ?_
      obtain ⟨r11, st12, hc, hf⟩ := bd_some hf
      refine m_calli (n := 1) (rest := []) E hP hS (fun sz => tX12_isSign l D cy ad hJ sz (60 : Int32) st10 r11 st12 hc) (gV k_1492 k_1494 ks_54 k_14 k_1495) qX12_isSign ⟨Nat.le_of_ble_eq_true rfl, Nat.le_of_ble_eq_true rfl⟩ ⟨Nat.le_refl _, Nat.le_refl _⟩ rfl hl.1 rfl (Nat.le_of_ble_eq_true rfl) dX12_behindSum_175 (fun H locs hP hS => ?_)
      refine lv_if_eq (tgt := 186) hx hb dX12_behindSum_178 (by decide) (fun hc => ?_) (fun hc => ?_)
      · replace hf := it_pos hc hf
        refine lv_aload_n hx hb dX12_behindSum_186 rfl (lv_at hl 0 rfl) ?_
        refine lv_bipush (v := 62) hx hb dX12_behindSum_187 (by decide) ?_
        obtain ⟨r13, st14, hc, hf⟩ := bd_some hf
        refine m_calli (n := 1) (rest := []) E hP hS (fun sz => tX12_isSign l D cy ad hJ sz (62 : Int32) st12 r13 st14 hc) (gV k_1492 k_1494 ks_54 k_14 k_1495) qX12_isSign ⟨Nat.le_of_ble_eq_true rfl, Nat.le_of_ble_eq_true rfl⟩ ⟨Nat.le_refl _, Nat.le_refl _⟩ rfl hl.1 rfl (Nat.le_of_ble_eq_true rfl) dX12_behindSum_189 (fun H locs hP hS => ?_)
        refine lv_if_eq (tgt := 200) hx hb dX12_behindSum_192 (by decide) (fun hc => ?_) (fun hc => ?_)
        · replace hf := it_pos hc hf
          refine lv_bipush (v := 27) hx hb dX12_behindSum_200 (by decide) ?_
          exact B202 (27 : Int32) st14 _ _ ls hf hl hP hS
        · replace hf := it_neg hc hf
          refine lv_bipush (v := 26) hx hb dX12_behindSum_195 (by decide) ?_
          refine lv_goto (tgt := 202) hx hb dX12_behindSum_197 (by decide) ?_
          exact B202 (26 : Int32) st14 _ _ ls hf hl hP hS
      · replace hf := it_neg hc hf
        refine lv_bipush (v := 25) hx hb dX12_behindSum_181 (by decide) ?_
        refine lv_goto (tgt := 202) hx hb dX12_behindSum_183 (by decide) ?_
        exact B202 (25 : Int32) st12 _ _ ls hf hl hP hS
    · replace hf := it_neg hc hf
      refine lv_iconst (v := 2) hx hb dX12_behindSum_170 (by decide) ?_
      exact m_iret hx hb hr hlocks hf hP hS dX12_behindSum_171
  have B150 : ∀ (st : St) (H : Heap) (locs : List Loc) (ls : Array Slot), fX12_behindSum_b150 st = some (rr, st') → lv_has ls 4 [] → va_P D classes (mw cy ad st) H → va_S (mA ad s.heap.size) s.heap H locs → mGi l 3 D cy ad rr st' p e s m args below meth c H locs (F0 m 150 ls []) := by
    intro st H locs ls hf hl hP hS
    unfold fX12_behindSum_b150 at hf
    refine lv_iconst (v := 3) hx hb dX12_behindSum_150 (by decide) ?_
    exact m_iret hx hb hr hlocks hf hP hS dX12_behindSum_151
  have B71 : ∀ (v1 : Int32) (w0 : Int32) (st : St) (H : Heap) (locs : List Loc) (ls : Array Slot), fX12_behindSum_b71 v1 w0 st = some (rr, st') → lv_has ls 4 [(0, .ref (ad 100)), (1, .int v1)] → va_P D classes (mw cy ad st) H → va_S (mA ad s.heap.size) s.heap H locs → mGi l 3 D cy ad rr st' p e s m args below meth c H locs (F0 m 71 ls [.int w0]) := by
    intro v1 w0 st H locs ls hf hl hP hS
    unfold fX12_behindSum_b71 at hf
    refine lv_istore_n (lv' := [(2, .int w0), (0, .ref (ad 100)), (1, .int v1)]) hx hb dX12_behindSum_71 rfl hl (by decide) rfl (fun ls hl => ?_)
    refine lv_iload_n hx hb dX12_behindSum_72 rfl (lv_at hl 0 rfl) ?_
    refine lv_iconst (v := -1) hx hb dX12_behindSum_73 (by decide) ?_
    refine lv_icmp_eq (tgt := 97) hx hb dX12_behindSum_74 (by decide) (fun hc => ?_) (fun hc => ?_)
    · replace hf := it_pos hc hf
      refine lv_aload_n hx hb dX12_behindSum_97 rfl (lv_at hl 1 rfl) ?_
      obtain ⟨r15, st16, hc, hf⟩ := bd_some hf
      refine m_calli (n := 0) (rest := []) E hP hS (fun sz => tX12_inner l D cy ad hJ sz st r15 st16 hc) (gV k_1535 k_1537 ks_64 k_14 k_1538) qX12_inner ⟨Nat.le_of_ble_eq_true rfl, Nat.le_of_ble_eq_true rfl⟩ ⟨Nat.le_refl _, Nat.le_refl _⟩ rfl hl.1 rfl (Nat.le_of_ble_eq_true rfl) dX12_behindSum_98 (fun H locs hP hS => ?_)
      refine lv_istore_n (lv' := [(3, .int r15), (2, .int w0), (0, .ref (ad 100)), (1, .int v1)]) hx hb dX12_behindSum_101 rfl hl (by decide) rfl (fun ls hl => ?_)
      refine lv_iload_n hx hb dX12_behindSum_102 rfl (lv_at hl 0 rfl) ?_
      refine lv_bipush (v := 32) hx hb dX12_behindSum_103 (by decide) ?_
      refine lv_icmp_ne (tgt := 152) hx hb dX12_behindSum_105 (by decide) (fun hc => ?_) (fun hc => ?_)
      · replace hf := it_neg hc hf
        refine lv_iload_n hx hb dX12_behindSum_152 rfl (lv_at hl 0 rfl) ?_
        refine lv_iconst (v := -1) hx hb dX12_behindSum_153 (by decide) ?_
        refine lv_icmp_ne (tgt := 163) hx hb dX12_behindSum_154 (by decide) (fun hc => ?_) (fun hc => ?_)
        · replace hf := it_neg hc hf
          exact B163 st16 _ _ ls hf (lv_sub hl [2] rfl) hP hS
        · replace hf := it_pos hc hf
          refine lv_iload_n hx hb dX12_behindSum_157 rfl (lv_at hl 3 rfl) ?_
          refine lv_if_ne (tgt := 163) hx hb dX12_behindSum_158 (by decide) (fun hc => ?_) (fun hc => ?_)
          · replace hf := it_neg hc hf
            exact B163 st16 _ _ ls hf (lv_sub hl [2] rfl) hP hS
          · replace hf := it_pos hc hf
            refine lv_iconst (v := 4) hx hb dX12_behindSum_161 (by decide) ?_
            exact m_iret hx hb hr hlocks hf hP hS dX12_behindSum_162
      · replace hf := it_pos hc hf
        refine lv_aload_n hx hb dX12_behindSum_108 rfl (lv_at hl 2 rfl) ?_
        refine lv_aload_n hx hb dX12_behindSum_109 rfl (lv_at hl 2 rfl) ?_
        refine lv_bipush (v := 93) hx hb dX12_behindSum_110 (by decide) ?_
        obtain ⟨r17, st18, hc, hf⟩ := bd_some hf
        refine m_calli (n := 1) (rest := [.ref (ad 100)]) E hP hS (fun sz => tX12_isSign l D cy ad hJ sz (93 : Int32) st16 r17 st18 hc) (gV k_1492 k_1494 ks_54 k_14 k_1495) qX12_isSign ⟨Nat.le_of_ble_eq_true rfl, Nat.le_of_ble_eq_true rfl⟩ ⟨Nat.le_refl _, Nat.le_refl _⟩ rfl hl.1 rfl (Nat.le_of_ble_eq_true rfl) dX12_behindSum_112 (fun H locs hP hS => ?_)
        obtain ⟨r19, st20, hc, hf⟩ := bd_some hf
        refine m_callv (n := 1) (rest := []) E hP hS (fun sz => tX12_must l D cy ad hJ sz r17 st18 r19 st20 hc) (gV k_1475 k_1477 ks_50 k_14 k_1478) qX12_must ⟨Nat.le_of_ble_eq_true rfl, Nat.le_of_ble_eq_true rfl⟩ ⟨Nat.le_refl _, Nat.le_refl _⟩ rfl hl.1 rfl (Nat.le_of_ble_eq_true rfl) dX12_behindSum_115 (fun H locs hP hS => ?_)
        refine lv_aload_n hx hb dX12_behindSum_118 rfl (lv_at hl 2 rfl) ?_
        refine mg_19 E hP dX12_behindSum_119 ?_
        refine lv_if_ne (tgt := 150) hx hb dX12_behindSum_122 (by decide) (fun hc => ?_) (fun hc => ?_)
        · replace hf := it_neg hc hf
          exact B150 st20 _ _ ls hf (lv_sub hl [] rfl) hP hS
        · replace hf := it_pos hc hf
          refine lv_aload_n hx hb dX12_behindSum_125 rfl (lv_at hl 2 rfl) ?_
          refine lv_iconst (v := 5) hx hb dX12_behindSum_126 (by decide) ?_
          obtain ⟨r21, st22, hc, hf⟩ := bd_some hf
          refine m_callv (n := 1) (rest := []) E hP hS (fun sz => tX12_settle l D cy ad hJ sz (5 : Int32) st20 r21 st22 hc) (gV k_1531 k_1533 ks_63 k_14 k_1534) qX12_settle ⟨Nat.le_of_ble_eq_true rfl, Nat.le_of_ble_eq_true rfl⟩ ⟨Nat.le_refl _, Nat.le_refl _⟩ rfl hl.1 rfl (Nat.le_of_ble_eq_true rfl) dX12_behindSum_127 (fun H locs hP hS => ?_)
          refine lv_aload_n hx hb dX12_behindSum_130 rfl (lv_at hl 2 rfl) ?_
          refine lv_dup hx hb dX12_behindSum_131 rfl ?_
          refine mg_29 E hP dX12_behindSum_132 ?_
          refine lv_iconst (v := 1) hx hb dX12_behindSum_135 (by decide) ?_
          refine lv_isub hx hb dX12_behindSum_136 ?_
          refine mp_29 E hD hP hS dX12_behindSum_137 (fun st23 H locs ex hP hS => ?_)
          replace hf := lt_at ex hf; clear ex
          refine lv_aload_n hx hb dX12_behindSum_140 rfl (lv_at hl 2 rfl) ?_
          refine lv_dup hx hb dX12_behindSum_141 rfl ?_
          refine mg_30 E hP dX12_behindSum_142 ?_
          refine lv_iconst (v := 1) hx hb dX12_behindSum_145 (by decide) ?_
          refine lv_isub hx hb dX12_behindSum_146 ?_
          refine mp_30 E hD hP hS dX12_behindSum_147 (fun st24 H locs ex hP hS => ?_)
          replace hf := lt_at ex hf; clear ex
          exact B150 st24 _ _ ls hf (lv_sub hl [] rfl) hP hS
    · replace hf := it_neg hc hf
      refine lv_aload_n hx hb dX12_behindSum_77 rfl (lv_at hl 1 rfl) ?_
      refine lv_iload_n hx hb dX12_behindSum_78 rfl (lv_at hl 0 rfl) ?_
      obtain ⟨r25, hc, hf⟩ := bs_some hf
      refine s_calli (n := 1) (rest := [.ref (ad 100)]) E.1 (tX12_binds l _ w0 r25 hc) (gS k_1528 k_1529 k_14 k_1530) qX12_binds ⟨Nat.le_of_ble_eq_true rfl, Nat.le_of_ble_eq_true rfl⟩ ⟨Nat.le_refl _, Nat.le_refl _⟩ rfl hl.1 rfl (Nat.le_of_ble_eq_true rfl) dX12_behindSum_79 ?_
      obtain ⟨r26, st27, hc, hf⟩ := bd_some hf
      refine m_callv (n := 1) (rest := []) E hP hS (fun sz => tX12_settle l D cy ad hJ sz r25 st r26 st27 hc) (gV k_1531 k_1533 ks_63 k_14 k_1534) qX12_settle ⟨Nat.le_of_ble_eq_true rfl, Nat.le_of_ble_eq_true rfl⟩ ⟨Nat.le_refl _, Nat.le_refl _⟩ rfl hl.1 rfl (Nat.le_of_ble_eq_true rfl) dX12_behindSum_82 (fun H locs hP hS => ?_)
      refine lv_aload_n hx hb dX12_behindSum_85 rfl (lv_at hl 1 rfl) ?_
      refine lv_iload_n hx hb dX12_behindSum_86 rfl (lv_at hl 0 rfl) ?_
      refine lv_iconst (v := 0) hx hb dX12_behindSum_87 (by decide) ?_
      obtain ⟨r28, st29, hc, hf⟩ := bd_some hf
      refine m_callv (n := 2) (rest := []) E hP hS (fun sz => tX12_push l D cy ad hJ sz w0 (0 : Int32) st27 r28 st29 hc) (gV k_1488 k_1490 ks_53 k_14 k_1491) qX12_push ⟨Nat.le_of_ble_eq_true rfl, Nat.le_of_ble_eq_true rfl⟩ ⟨Nat.le_refl _, Nat.le_refl _⟩ rfl hl.1 rfl (Nat.le_of_ble_eq_true rfl) dX12_behindSum_88 (fun H locs hP hS => ?_)
      refine lv_aload_n hx hb dX12_behindSum_91 rfl (lv_at hl 1 rfl) ?_
      obtain ⟨r30, st31, hc, hf⟩ := bd_some hf
      refine m_callv (n := 0) (rest := []) E hP hS (fun sz => tX12_nextToken l D cy ad hJ sz st29 r30 st31 hc) (gV k_1453 k_1455 ks_47 k_14 k_1456) qX12_nextToken ⟨Nat.le_of_ble_eq_true rfl, Nat.le_of_ble_eq_true rfl⟩ ⟨Nat.le_refl _, Nat.le_refl _⟩ rfl hl.1 rfl (Nat.le_of_ble_eq_true rfl) dX12_behindSum_92 (fun H locs hP hS => ?_)
      refine lv_iconst (v := 1) hx hb dX12_behindSum_95 (by decide) ?_
      exact m_iret hx hb hr hlocks hf hP hS dX12_behindSum_96
  refine lv_aload_n hx hb dX12_behindSum_0 rfl (lv_at hl 0 rfl) ?_
  refine lv_bipush (v := 43) hx hb dX12_behindSum_1 (by decide) ?_
  obtain ⟨r32, st33, hc, hf⟩ := bd_some hf
  refine m_calli (n := 1) (rest := []) E hP hS (fun sz => tX12_isSign l D cy ad hJ sz (43 : Int32) st r32 st33 hc) (gV k_1492 k_1494 ks_54 k_14 k_1495) qX12_isSign ⟨Nat.le_of_ble_eq_true rfl, Nat.le_of_ble_eq_true rfl⟩ ⟨Nat.le_refl _, Nat.le_refl _⟩ rfl hl.1 rfl (Nat.le_of_ble_eq_true rfl) dX12_behindSum_3 (fun H locs hP hS => ?_)
  refine lv_if_eq (tgt := 14) hx hb dX12_behindSum_6 (by decide) (fun hc => ?_) (fun hc => ?_)
  · replace hf := it_pos hc hf
    refine lv_aload_n hx hb dX12_behindSum_14 rfl (lv_at hl 0 rfl) ?_
    refine lv_bipush (v := 45) hx hb dX12_behindSum_15 (by decide) ?_
    obtain ⟨r34, st35, hc, hf⟩ := bd_some hf
    refine m_calli (n := 1) (rest := []) E hP hS (fun sz => tX12_isSign l D cy ad hJ sz (45 : Int32) st33 r34 st35 hc) (gV k_1492 k_1494 ks_54 k_14 k_1495) qX12_isSign ⟨Nat.le_of_ble_eq_true rfl, Nat.le_of_ble_eq_true rfl⟩ ⟨Nat.le_refl _, Nat.le_refl _⟩ rfl hl.1 rfl (Nat.le_of_ble_eq_true rfl) dX12_behindSum_17 (fun H locs hP hS => ?_)
    refine lv_if_eq (tgt := 28) hx hb dX12_behindSum_20 (by decide) (fun hc => ?_) (fun hc => ?_)
    · replace hf := it_pos hc hf
      refine lv_aload_n hx hb dX12_behindSum_28 rfl (lv_at hl 0 rfl) ?_
      refine lv_bipush (v := 42) hx hb dX12_behindSum_29 (by decide) ?_
      obtain ⟨r36, st37, hc, hf⟩ := bd_some hf
      refine m_calli (n := 1) (rest := []) E hP hS (fun sz => tX12_isSign l D cy ad hJ sz (42 : Int32) st35 r36 st37 hc) (gV k_1492 k_1494 ks_54 k_14 k_1495) qX12_isSign ⟨Nat.le_of_ble_eq_true rfl, Nat.le_of_ble_eq_true rfl⟩ ⟨Nat.le_refl _, Nat.le_refl _⟩ rfl hl.1 rfl (Nat.le_of_ble_eq_true rfl) dX12_behindSum_31 (fun H locs hP hS => ?_)
      refine lv_if_eq (tgt := 42) hx hb dX12_behindSum_34 (by decide) (fun hc => ?_) (fun hc => ?_)
      · replace hf := it_pos hc hf
        refine lv_aload_n hx hb dX12_behindSum_42 rfl (lv_at hl 0 rfl) ?_
        refine lv_bipush (v := 47) hx hb dX12_behindSum_43 (by decide) ?_
        obtain ⟨r38, st39, hc, hf⟩ := bd_some hf
        refine m_calli (n := 1) (rest := []) E hP hS (fun sz => tX12_isSign l D cy ad hJ sz (47 : Int32) st37 r38 st39 hc) (gV k_1492 k_1494 ks_54 k_14 k_1495) qX12_isSign ⟨Nat.le_of_ble_eq_true rfl, Nat.le_of_ble_eq_true rfl⟩ ⟨Nat.le_refl _, Nat.le_refl _⟩ rfl hl.1 rfl (Nat.le_of_ble_eq_true rfl) dX12_behindSum_45 (fun H locs hP hS => ?_)
        refine lv_if_eq (tgt := 56) hx hb dX12_behindSum_48 (by decide) (fun hc => ?_) (fun hc => ?_)
        · replace hf := it_pos hc hf
          refine lv_aload_n hx hb dX12_behindSum_56 rfl (lv_at hl 0 rfl) ?_
          refine lv_bipush (v := 37) hx hb dX12_behindSum_57 (by decide) ?_
          obtain ⟨r40, st41, hc, hf⟩ := bd_some hf
          refine m_calli (n := 1) (rest := []) E hP hS (fun sz => tX12_isSign l D cy ad hJ sz (37 : Int32) st39 r40 st41 hc) (gV k_1492 k_1494 ks_54 k_14 k_1495) qX12_isSign ⟨Nat.le_of_ble_eq_true rfl, Nat.le_of_ble_eq_true rfl⟩ ⟨Nat.le_refl _, Nat.le_refl _⟩ rfl hl.1 rfl (Nat.le_of_ble_eq_true rfl) dX12_behindSum_59 (fun H locs hP hS => ?_)
          refine lv_if_eq (tgt := 70) hx hb dX12_behindSum_62 (by decide) (fun hc => ?_) (fun hc => ?_)
          · replace hf := it_pos hc hf
            refine lv_iconst (v := -1) hx hb dX12_behindSum_70 (by decide) ?_
            exact B71 a0 (-1 : Int32) st41 _ _ ls hf hl hP hS
          · replace hf := it_neg hc hf
            refine lv_bipush (v := 24) hx hb dX12_behindSum_65 (by decide) ?_
            refine lv_goto (tgt := 71) hx hb dX12_behindSum_67 (by decide) ?_
            exact B71 a0 (24 : Int32) st41 _ _ ls hf hl hP hS
        · replace hf := it_neg hc hf
          refine lv_bipush (v := 23) hx hb dX12_behindSum_51 (by decide) ?_
          refine lv_goto (tgt := 71) hx hb dX12_behindSum_53 (by decide) ?_
          exact B71 a0 (23 : Int32) st39 _ _ ls hf hl hP hS
      · replace hf := it_neg hc hf
        refine lv_bipush (v := 22) hx hb dX12_behindSum_37 (by decide) ?_
        refine lv_goto (tgt := 71) hx hb dX12_behindSum_39 (by decide) ?_
        exact B71 a0 (22 : Int32) st37 _ _ ls hf hl hP hS
    · replace hf := it_neg hc hf
      refine lv_bipush (v := 21) hx hb dX12_behindSum_23 (by decide) ?_
      refine lv_goto (tgt := 71) hx hb dX12_behindSum_25 (by decide) ?_
      exact B71 a0 (21 : Int32) st35 _ _ ls hf hl hP hS
  · replace hf := it_neg hc hf
    refine lv_bipush (v := 20) hx hb dX12_behindSum_9 (by decide) ?_
    refine lv_goto (tgt := 71) hx hb dX12_behindSum_11 (by decide) ?_
    exact B71 a0 (20 : Int32) st33 _ _ ls hf hl hP hS
theorem qX12_behindSum : yX12_behindSum.cls = RX12 ∧ yX12_behindSum.cls ≠ "java/lang/invoke/MethodHandle" ∧ yX12_behindSum.cls ≠ "java/lang/invoke/VarHandle" ∧ (parseMethodDescriptor yX12_behindSum.desc).map (fun d => d.parameters.length) = some 1 := by decide +kernel
def fX12_behindTest_b66 (w0 : Int32) (st : St) : Option (Int32 × St) := bd (fX12_emit w0 (0 : Int32) st) (fun r1 st2 => bd (fX12_nextToken st2) (fun r3 st4 => some ((0 : Int32), st4)))
def fX12_behindTest_b47 (v1 : Int32) (w0 : Int32) (st : St) : Option (Int32 × St) := bd (fX12_push w0 (st.1 23) st) (fun r5 st6 => if v1 = 0 then (fX12_behindTest_b66 (30 : Int32) st6) else (fX12_behindTest_b66 (29 : Int32) st6))
def fX12_behindTest_b32 (v1 : Int32) (w0 : Int32) (st : St) : Option (Int32 × St) := bd (fX12_settle w0 st) (fun r7 st8 => if v1 = 0 then (fX12_behindTest_b47 v1 (30 : Int32) st8) else (fX12_behindTest_b47 v1 (29 : Int32) st8))
def fX12_behindTest_b22 (v1 : Int32) (st : St) : Option (Int32 × St) := if v1 = 0 then (fX12_behindTest_b32 v1 (1 : Int32) st) else (fX12_behindTest_b32 v1 (2 : Int32) st)
def fX12_behindTest_b128 (st : St) : Option (Int32 × St) := some ((2 : Int32), st)
def fX12_behindTest (st : St) : Option (Int32 × St) := bd (fX12_isWord (1476 : Int64) st) (fun r9 st10 => if r9 = 0 then (bd (fX12_isWord (498 : Int64) st10) (fun r11 st12 => if r11 = 0 then (bd (fX12_inner st12) (fun r13 st14 => if r13 = (-1 : Int32) then (some ((4 : Int32), st14)) else (bd (fX12_isSign (41 : Int32) st14) (fun r15 st16 => bd (fX12_must r15 st16) (fun r17 st18 => if (st18.1 19) = 0 then (bd (fX12_settle (1 : Int32) st18) (fun r19 st20 => lt (sI st20 29 ((st20.1 29) - (1 : Int32))) (fun st21 => lt (sI st21 30 ((st21.1 30) - (1 : Int32))) (fun st22 => fX12_behindTest_b128 st22)))) else (fX12_behindTest_b128 st18)))))) else (fX12_behindTest_b22 r9 st12))) else (fX12_behindTest_b22 r9 st10))
set_option maxHeartbeats 4000000 in
set_option maxRecDepth 100000 in
theorem tX12_behindTest (l : Launch) (D : va_G) (cy : Nat → ClassId) (ad : Nat → Nat) (hJ : (mads ad).Nodup) (sz : Nat) (st : St) (rr : Int32) (st' : St) (hf : fX12_behindTest  st = some (rr, st')) : Met l yX12_behindTest (Cond.code yX12_behindTest cX12_behindTest 2 (some .int) :: TT) (rmD 3) (mPc D cy ad [] st sz) (mQi D cy ad rr st' sz) 0 0 (mA ad sz) := by
  refine m_meti (by decide) hJ (Nat.le_of_ble_eq_true rfl) (fun p e s m args below meth c ls E hx hb hr hlocks hown hT hD hl hP hS => ?_)
  replace hl : lv_has ls 2 [(0, .ref (ad 100))] := hl
  unfold fX12_behindTest at hf
  have B66 : ∀ (w0 : Int32) (st : St) (H : Heap) (locs : List Loc) (ls : Array Slot), fX12_behindTest_b66 w0 st = some (rr, st') → lv_has ls 2 [(0, .ref (ad 100))] → va_P D classes (mw cy ad st) H → va_S (mA ad s.heap.size) s.heap H locs → mGi l 3 D cy ad rr st' p e s m args below meth c H locs (F0 m 66 ls [.int w0, .ref (ad 100)]) := by
    intro w0 st H locs ls hf hl hP hS
    unfold fX12_behindTest_b66 at hf
    refine lv_iconst (v := 0) hx hb dX12_behindTest_66 (by decide) ?_
    obtain ⟨r1, st2, hc, hf⟩ := bd_some hf
    refine m_callv (n := 2) (rest := []) E hP hS (fun sz => tX12_emit l D cy ad hJ sz w0 (0 : Int32) st r1 st2 hc) (gV k_1516 k_1518 ks_60 k_14 k_1519) qX12_emit ⟨Nat.le_of_ble_eq_true rfl, Nat.le_of_ble_eq_true rfl⟩ ⟨Nat.le_refl _, Nat.le_refl _⟩ rfl hl.1 rfl (Nat.le_of_ble_eq_true rfl) dX12_behindTest_67 (fun H locs hP hS => ?_)
    refine lv_aload_n hx hb dX12_behindTest_70 rfl (lv_at hl 0 rfl) ?_
    obtain ⟨r3, st4, hc, hf⟩ := bd_some hf
    refine m_callv (n := 0) (rest := []) E hP hS (fun sz => tX12_nextToken l D cy ad hJ sz st2 r3 st4 hc) (gV k_1453 k_1455 ks_47 k_14 k_1456) qX12_nextToken ⟨Nat.le_of_ble_eq_true rfl, Nat.le_of_ble_eq_true rfl⟩ ⟨Nat.le_refl _, Nat.le_refl _⟩ rfl hl.1 rfl (Nat.le_of_ble_eq_true rfl) dX12_behindTest_71 (fun H locs hP hS => ?_)
    refine lv_iconst (v := 0) hx hb dX12_behindTest_74 (by decide) ?_
    exact m_iret hx hb hr hlocks hf hP hS dX12_behindTest_75
  have B47 : ∀ (v1 : Int32) (w0 : Int32) (st : St) (H : Heap) (locs : List Loc) (ls : Array Slot), fX12_behindTest_b47 v1 w0 st = some (rr, st') → lv_has ls 2 [(0, .ref (ad 100)), (1, .int v1)] → va_P D classes (mw cy ad st) H → va_S (mA ad s.heap.size) s.heap H locs → mGi l 3 D cy ad rr st' p e s m args below meth c H locs (F0 m 47 ls [.int w0, .ref (ad 100)]) := by
    intro v1 w0 st H locs ls hf hl hP hS
    unfold fX12_behindTest_b47 at hf
    refine lv_aload_n hx hb dX12_behindTest_47 rfl (lv_at hl 0 rfl) ?_
    refine mg_23 E hP dX12_behindTest_48 ?_
    obtain ⟨r5, st6, hc, hf⟩ := bd_some hf
    refine m_callv (n := 2) (rest := []) E hP hS (fun sz => tX12_push l D cy ad hJ sz w0 (st.1 23) st r5 st6 hc) (gV k_1488 k_1490 ks_53 k_14 k_1491) qX12_push ⟨Nat.le_of_ble_eq_true rfl, Nat.le_of_ble_eq_true rfl⟩ ⟨Nat.le_refl _, Nat.le_refl _⟩ rfl hl.1 rfl (Nat.le_of_ble_eq_true rfl) dX12_behindTest_51 (fun H locs hP hS => ?_)
    refine lv_aload_n hx hb dX12_behindTest_54 rfl (lv_at hl 0 rfl) ?_
    refine lv_iload_n hx hb dX12_behindTest_55 rfl (lv_at hl 1 rfl) ?_
    refine lv_if_eq (tgt := 64) hx hb dX12_behindTest_56 (by decide) (fun hc => ?_) (fun hc => ?_)
    · replace hf := it_pos hc hf
      refine lv_bipush (v := 30) hx hb dX12_behindTest_64 (by decide) ?_
      exact B66 (30 : Int32) st6 _ _ ls hf (lv_sub hl [0] rfl) hP hS
    · replace hf := it_neg hc hf
      refine lv_bipush (v := 29) hx hb dX12_behindTest_59 (by decide) ?_
      refine lv_goto (tgt := 66) hx hb dX12_behindTest_61 (by decide) ?_
      exact B66 (29 : Int32) st6 _ _ ls hf (lv_sub hl [0] rfl) hP hS
  have B32 : ∀ (v1 : Int32) (w0 : Int32) (st : St) (H : Heap) (locs : List Loc) (ls : Array Slot), fX12_behindTest_b32 v1 w0 st = some (rr, st') → lv_has ls 2 [(0, .ref (ad 100)), (1, .int v1)] → va_P D classes (mw cy ad st) H → va_S (mA ad s.heap.size) s.heap H locs → mGi l 3 D cy ad rr st' p e s m args below meth c H locs (F0 m 32 ls [.int w0, .ref (ad 100)]) := by
    intro v1 w0 st H locs ls hf hl hP hS
    unfold fX12_behindTest_b32 at hf
    obtain ⟨r7, st8, hc, hf⟩ := bd_some hf
    refine m_callv (n := 1) (rest := []) E hP hS (fun sz => tX12_settle l D cy ad hJ sz w0 st r7 st8 hc) (gV k_1531 k_1533 ks_63 k_14 k_1534) qX12_settle ⟨Nat.le_of_ble_eq_true rfl, Nat.le_of_ble_eq_true rfl⟩ ⟨Nat.le_refl _, Nat.le_refl _⟩ rfl hl.1 rfl (Nat.le_of_ble_eq_true rfl) dX12_behindTest_32 (fun H locs hP hS => ?_)
    refine lv_aload_n hx hb dX12_behindTest_35 rfl (lv_at hl 0 rfl) ?_
    refine lv_iload_n hx hb dX12_behindTest_36 rfl (lv_at hl 1 rfl) ?_
    refine lv_if_eq (tgt := 45) hx hb dX12_behindTest_37 (by decide) (fun hc => ?_) (fun hc => ?_)
    · replace hf := it_pos hc hf
      refine lv_bipush (v := 30) hx hb dX12_behindTest_45 (by decide) ?_
      exact B47 v1 (30 : Int32) st8 _ _ ls hf hl hP hS
    · replace hf := it_neg hc hf
      refine lv_bipush (v := 29) hx hb dX12_behindTest_40 (by decide) ?_
      refine lv_goto (tgt := 47) hx hb dX12_behindTest_42 (by decide) ?_
      exact B47 v1 (29 : Int32) st8 _ _ ls hf hl hP hS
  have B22 : ∀ (v1 : Int32) (st : St) (H : Heap) (locs : List Loc) (ls : Array Slot), fX12_behindTest_b22 v1 st = some (rr, st') → lv_has ls 2 [(0, .ref (ad 100)), (1, .int v1)] → va_P D classes (mw cy ad st) H → va_S (mA ad s.heap.size) s.heap H locs → mGi l 3 D cy ad rr st' p e s m args below meth c H locs (F0 m 22 ls []) := by
    intro v1 st H locs ls hf hl hP hS
    unfold fX12_behindTest_b22 at hf
    refine lv_aload_n hx hb dX12_behindTest_22 rfl (lv_at hl 0 rfl) ?_
    refine lv_iload_n hx hb dX12_behindTest_23 rfl (lv_at hl 1 rfl) ?_
    refine lv_if_eq (tgt := 31) hx hb dX12_behindTest_24 (by decide) (fun hc => ?_) (fun hc => ?_)
    · replace hf := it_pos hc hf
      refine lv_iconst (v := 1) hx hb dX12_behindTest_31 (by decide) ?_
      exact B32 v1 (1 : Int32) st _ _ ls hf hl hP hS
    · replace hf := it_neg hc hf
      refine lv_iconst (v := 2) hx hb dX12_behindTest_27 (by decide) ?_
      refine lv_goto (tgt := 32) hx hb dX12_behindTest_28 (by decide) ?_
      exact B32 v1 (2 : Int32) st _ _ ls hf hl hP hS
  have B128 : ∀ (st : St) (H : Heap) (locs : List Loc) (ls : Array Slot), fX12_behindTest_b128 st = some (rr, st') → lv_has ls 2 [] → va_P D classes (mw cy ad st) H → va_S (mA ad s.heap.size) s.heap H locs → mGi l 3 D cy ad rr st' p e s m args below meth c H locs (F0 m 128 ls []) := by
    intro st H locs ls hf hl hP hS
    unfold fX12_behindTest_b128 at hf
    refine lv_iconst (v := 2) hx hb dX12_behindTest_128 (by decide) ?_
    exact m_iret hx hb hr hlocks hf hP hS dX12_behindTest_129
  refine lv_aload_n hx hb dX12_behindTest_0 rfl (lv_at hl 0 rfl) ?_
  refine lv_ldc2 (v := 1476) hx hb hown (hT _ k_1551) dX12_behindTest_1 ?_
  obtain ⟨r9, st10, hc, hf⟩ := bd_some hf
  refine m_calli (n := 1) (rest := []) E hP hS (fun sz => tX12_isWord l D cy ad hJ sz (1476 : Int64) st r9 st10 hc) (gV k_1471 k_1473 ks_49 k_14 k_1474) qX12_isWord ⟨Nat.le_of_ble_eq_true rfl, Nat.le_of_ble_eq_true rfl⟩ ⟨Nat.le_refl _, Nat.le_refl _⟩ rfl hl.1 rfl (Nat.le_of_ble_eq_true rfl) dX12_behindTest_4 (fun H locs hP hS => ?_)
  refine lv_istore_n (lv' := [(1, .int r9), (0, .ref (ad 100))]) hx hb dX12_behindTest_7 rfl hl (by decide) rfl (fun ls hl => ?_)
  refine lv_iload_n hx hb dX12_behindTest_8 rfl (lv_at hl 0 rfl) ?_
  refine lv_if_ne (tgt := 22) hx hb dX12_behindTest_9 (by decide) (fun hc => ?_) (fun hc => ?_)
  · replace hf := it_neg hc hf
    exact B22 r9 st10 _ _ ls hf (lv_sub hl [1, 0] rfl) hP hS
  · replace hf := it_pos hc hf
    refine lv_aload_n hx hb dX12_behindTest_12 rfl (lv_at hl 1 rfl) ?_
    refine lv_ldc2 (v := 498) hx hb hown (hT _ k_1552) dX12_behindTest_13 ?_
    obtain ⟨r11, st12, hc, hf⟩ := bd_some hf
    refine m_calli (n := 1) (rest := []) E hP hS (fun sz => tX12_isWord l D cy ad hJ sz (498 : Int64) st10 r11 st12 hc) (gV k_1471 k_1473 ks_49 k_14 k_1474) qX12_isWord ⟨Nat.le_of_ble_eq_true rfl, Nat.le_of_ble_eq_true rfl⟩ ⟨Nat.le_refl _, Nat.le_refl _⟩ rfl hl.1 rfl (Nat.le_of_ble_eq_true rfl) dX12_behindTest_16 (fun H locs hP hS => ?_)
    refine lv_if_eq (tgt := 76) hx hb dX12_behindTest_19 (by decide) (fun hc => ?_) (fun hc => ?_)
    · replace hf := it_pos hc hf
      refine lv_aload_n hx hb dX12_behindTest_76 rfl (lv_at hl 1 rfl) ?_
      obtain ⟨r13, st14, hc, hf⟩ := bd_some hf
      refine m_calli (n := 0) (rest := []) E hP hS (fun sz => tX12_inner l D cy ad hJ sz st12 r13 st14 hc) (gV k_1535 k_1537 ks_64 k_14 k_1538) qX12_inner ⟨Nat.le_of_ble_eq_true rfl, Nat.le_of_ble_eq_true rfl⟩ ⟨Nat.le_refl _, Nat.le_refl _⟩ rfl hl.1 rfl (Nat.le_of_ble_eq_true rfl) dX12_behindTest_77 (fun H locs hP hS => ?_)
      refine lv_iconst (v := -1) hx hb dX12_behindTest_80 (by decide) ?_
      refine lv_icmp_ne (tgt := 86) hx hb dX12_behindTest_81 (by decide) (fun hc => ?_) (fun hc => ?_)
      · replace hf := it_neg hc hf
        refine lv_aload_n hx hb dX12_behindTest_86 rfl (lv_at hl 1 rfl) ?_
        refine lv_aload_n hx hb dX12_behindTest_87 rfl (lv_at hl 1 rfl) ?_
        refine lv_bipush (v := 41) hx hb dX12_behindTest_88 (by decide) ?_
        obtain ⟨r15, st16, hc, hf⟩ := bd_some hf
        refine m_calli (n := 1) (rest := [.ref (ad 100)]) E hP hS (fun sz => tX12_isSign l D cy ad hJ sz (41 : Int32) st14 r15 st16 hc) (gV k_1492 k_1494 ks_54 k_14 k_1495) qX12_isSign ⟨Nat.le_of_ble_eq_true rfl, Nat.le_of_ble_eq_true rfl⟩ ⟨Nat.le_refl _, Nat.le_refl _⟩ rfl hl.1 rfl (Nat.le_of_ble_eq_true rfl) dX12_behindTest_90 (fun H locs hP hS => ?_)
        obtain ⟨r17, st18, hc, hf⟩ := bd_some hf
        refine m_callv (n := 1) (rest := []) E hP hS (fun sz => tX12_must l D cy ad hJ sz r15 st16 r17 st18 hc) (gV k_1475 k_1477 ks_50 k_14 k_1478) qX12_must ⟨Nat.le_of_ble_eq_true rfl, Nat.le_of_ble_eq_true rfl⟩ ⟨Nat.le_refl _, Nat.le_refl _⟩ rfl hl.1 rfl (Nat.le_of_ble_eq_true rfl) dX12_behindTest_93 (fun H locs hP hS => ?_)
        refine lv_aload_n hx hb dX12_behindTest_96 rfl (lv_at hl 1 rfl) ?_
        refine mg_19 E hP dX12_behindTest_97 ?_
        refine lv_if_ne (tgt := 128) hx hb dX12_behindTest_100 (by decide) (fun hc => ?_) (fun hc => ?_)
        · replace hf := it_neg hc hf
          exact B128 st18 _ _ ls hf (lv_sub hl [] rfl) hP hS
        · replace hf := it_pos hc hf
          refine lv_aload_n hx hb dX12_behindTest_103 rfl (lv_at hl 1 rfl) ?_
          refine lv_iconst (v := 1) hx hb dX12_behindTest_104 (by decide) ?_
          obtain ⟨r19, st20, hc, hf⟩ := bd_some hf
          refine m_callv (n := 1) (rest := []) E hP hS (fun sz => tX12_settle l D cy ad hJ sz (1 : Int32) st18 r19 st20 hc) (gV k_1531 k_1533 ks_63 k_14 k_1534) qX12_settle ⟨Nat.le_of_ble_eq_true rfl, Nat.le_of_ble_eq_true rfl⟩ ⟨Nat.le_refl _, Nat.le_refl _⟩ rfl hl.1 rfl (Nat.le_of_ble_eq_true rfl) dX12_behindTest_105 (fun H locs hP hS => ?_)
          refine lv_aload_n hx hb dX12_behindTest_108 rfl (lv_at hl 1 rfl) ?_
          refine lv_dup hx hb dX12_behindTest_109 rfl ?_
          refine mg_29 E hP dX12_behindTest_110 ?_
          refine lv_iconst (v := 1) hx hb dX12_behindTest_113 (by decide) ?_
          refine lv_isub hx hb dX12_behindTest_114 ?_
          refine mp_29 E hD hP hS dX12_behindTest_115 (fun st21 H locs ex hP hS => ?_)
          replace hf := lt_at ex hf; clear ex
          refine lv_aload_n hx hb dX12_behindTest_118 rfl (lv_at hl 1 rfl) ?_
          refine lv_dup hx hb dX12_behindTest_119 rfl ?_
          refine mg_30 E hP dX12_behindTest_120 ?_
          refine lv_iconst (v := 1) hx hb dX12_behindTest_123 (by decide) ?_
          refine lv_isub hx hb dX12_behindTest_124 ?_
          refine mp_30 E hD hP hS dX12_behindTest_125 (fun st22 H locs ex hP hS => ?_)
          replace hf := lt_at ex hf; clear ex
          exact B128 st22 _ _ ls hf (lv_sub hl [] rfl) hP hS
      · replace hf := it_pos hc hf
        refine lv_iconst (v := 4) hx hb dX12_behindTest_84 (by decide) ?_
        exact m_iret hx hb hr hlocks hf hP hS dX12_behindTest_85
    · replace hf := it_neg hc hf
      exact B22 r9 st12 _ _ ls hf (lv_sub hl [1, 0] rfl) hP hS
theorem qX12_behindTest : yX12_behindTest.cls = RX12 ∧ yX12_behindTest.cls ≠ "java/lang/invoke/MethodHandle" ∧ yX12_behindTest.cls ≠ "java/lang/invoke/VarHandle" ∧ (parseMethodDescriptor yX12_behindTest.desc).map (fun d => d.parameters.length) = some 0 := by decide +kernel
def fX12_readExpression_b76 (st : St) : Option (Unit × St) := bd (fX12_settle (1 : Int32) st) (fun r1 st2 => some ((), st2))
def fX12_readExpression_b72 (k20 : Int32 → Int32 → St → Option (Unit × St)) (v1 : Int32) (w0 : Int32) (st : St) : Option (Unit × St) := k20 v1 w0 st
def fX12_readExpression_b20 (k20 : Int32 → Int32 → St → Option (Unit × St)) (v1 : Int32) (v2 : Int32) (st : St) : Option (Unit × St) := if (st.1 19) = 0 then (if v2 = (4 : Int32) then (fX12_readExpression_b76 st) else (if v2 = 0 then (bd (fX12_readPlain st) (fun r9 st10 => fX12_readExpression_b72 k20 v1 r9 st10)) else (if v2 = (1 : Int32) then (bd (fX12_readPart st) (fun r7 st8 => fX12_readExpression_b72 k20 v1 r7 st8)) else (if v2 = (3 : Int32) then (bd (fX12_behindSum v1 st) (fun r5 st6 => fX12_readExpression_b72 k20 v1 r5 st6)) else (bd (fX12_behindTest st) (fun r3 st4 => fX12_readExpression_b72 k20 v1 r3 st4)))))) else (fX12_readExpression_b76 st)
def fX12_readExpression_b19 (v1 : Int32) (w0 : Int32) (st : St) : Option (Unit × St) := lp (fun _ _ _ => none) (fX12_readExpression_b20) 6000 v1 w0 st
def fX12_readExpression (a0 : Int32) (st : St) : Option (Unit × St) := lt (sI st 29 (0 : Int32)) (fun st11 => lt (sI st11 30 (0 : Int32)) (fun st12 => if a0 = 0 then (fX12_readExpression_b19 a0 (1 : Int32) st12) else (fX12_readExpression_b19 a0 (0 : Int32) st12)))
set_option maxHeartbeats 4000000 in
set_option maxRecDepth 100000 in
theorem tX12_readExpression (l : Launch) (D : va_G) (cy : Nat → ClassId) (ad : Nat → Nat) (hJ : (mads ad).Nodup) (sz : Nat) (a0 : Int32) (st : St) (rr : Unit) (st' : St) (hf : fX12_readExpression a0 st = some (rr, st')) : Met l yX12_readExpression (Cond.code yX12_readExpression cX12_readExpression 3 none :: TT) (rmD 6) (mPc D cy ad [.int a0] st sz) (mQv D cy ad rr st' sz) 0 0 (mA ad sz) := by
  refine m_metv (by decide) hJ (Nat.le_of_ble_eq_true rfl) (fun p e s m args below meth c ls E hx hb hr hlocks hown hT hD hl hP hS => ?_)
  replace hl : lv_has ls 3 [(0, .ref (ad 100)), (1, .int a0)] := hl
  unfold fX12_readExpression at hf
  have B76 : ∀ (st : St) (H : Heap) (locs : List Loc) (ls : Array Slot), fX12_readExpression_b76 st = some (rr, st') → lv_has ls 3 [(0, .ref (ad 100))] → va_P D classes (mw cy ad st) H → va_S (mA ad s.heap.size) s.heap H locs → mGv l 6 D cy ad rr st' p e s m args below meth c H locs (F0 m 76 ls []) := by
    intro st H locs ls hf hl hP hS
    unfold fX12_readExpression_b76 at hf
    refine lv_aload_n hx hb dX12_readExpression_76 rfl (lv_at hl 0 rfl) ?_
    refine lv_iconst (v := 1) hx hb dX12_readExpression_77 (by decide) ?_
    obtain ⟨r1, st2, hc, hf⟩ := bd_some hf
    refine m_callv (n := 1) (rest := []) E hP hS (fun sz => tX12_settle l D cy ad hJ sz (1 : Int32) st r1 st2 hc) (gV k_1531 k_1533 ks_63 k_14 k_1534) qX12_settle ⟨Nat.le_of_ble_eq_true rfl, Nat.le_of_ble_eq_true rfl⟩ ⟨Nat.le_refl _, Nat.le_refl _⟩ rfl hl.1 rfl (Nat.le_of_ble_eq_true rfl) dX12_readExpression_78 (fun H locs hP hS => ?_)
    exact m_vret hx hb hr hlocks hf hP hS dX12_readExpression_81
  have L20 : ∀ (n : Nat) (v1 : Int32) (v2 : Int32) (st : St) (H : Heap) (locs : List Loc) (ls : Array Slot), lp (fun _ _ _ => none) (fX12_readExpression_b20) n v1 v2 st = some (rr, st') → lv_has ls 3 [(0, .ref (ad 100)), (1, .int v1), (2, .int v2)] → va_P D classes (mw cy ad st) H → va_S (mA ad s.heap.size) s.heap H locs → mGv l 6 D cy ad rr st' p e s m args below meth c H locs (F0 m 20 ls []) := by
    intro n
    induction n with
    | zero => intro v1 v2 st H locs ls hf; exact absurd hf (fun h => by cases h)
    | succ n K20 =>
      intro v1 v2 st H locs ls hf hl hP hS
      replace hf : fX12_readExpression_b20 (lp (fun _ _ _ => none) (fX12_readExpression_b20) n) v1 v2 st = some (rr, st') := hf
      generalize lp (fun _ _ _ => none) (fX12_readExpression_b20) n = k20 at hf K20
      have B72 : ∀ (v1 : Int32) (w0 : Int32) (st : St) (H : Heap) (locs : List Loc) (ls : Array Slot), fX12_readExpression_b72 k20 v1 w0 st = some (rr, st') → lv_has ls 3 [(0, .ref (ad 100)), (1, .int v1)] → va_P D classes (mw cy ad st) H → va_S (mA ad s.heap.size) s.heap H locs → mGv l 6 D cy ad rr st' p e s m args below meth c H locs (F0 m 72 ls [.int w0]) := by
        intro v1 w0 st H locs ls hf hl hP hS
        unfold fX12_readExpression_b72 at hf
        refine lv_istore_n (lv' := [(2, .int w0), (0, .ref (ad 100)), (1, .int v1)]) hx hb dX12_readExpression_72 rfl hl (by decide) rfl (fun ls hl => ?_)
        refine lv_goto (tgt := 20) hx hb dX12_readExpression_73 (by decide) ?_
        exact K20 v1 w0 st _ _ ls hf (lv_sub hl [1, 2, 0] rfl) hP hS
      unfold fX12_readExpression_b20 at hf
      refine lv_aload_n hx hb dX12_readExpression_20 rfl (lv_at hl 0 rfl) ?_
      refine mg_19 E hP dX12_readExpression_21 ?_
      refine lv_if_ne (tgt := 76) hx hb dX12_readExpression_24 (by decide) (fun hc => ?_) (fun hc => ?_)
      · replace hf := it_neg hc hf
        exact B76 st _ _ ls hf (lv_sub hl [0] rfl) hP hS
      · replace hf := it_pos hc hf
        refine lv_iload_n hx hb dX12_readExpression_27 rfl (lv_at hl 2 rfl) ?_
        refine lv_iconst (v := 4) hx hb dX12_readExpression_28 (by decide) ?_
        refine lv_icmp_eq (tgt := 76) hx hb dX12_readExpression_29 (by decide) (fun hc => ?_) (fun hc => ?_)
        · replace hf := it_pos hc hf
          exact B76 st _ _ ls hf (lv_sub hl [0] rfl) hP hS
        · replace hf := it_neg hc hf
          refine lv_iload_n hx hb dX12_readExpression_32 rfl (lv_at hl 2 rfl) ?_
          refine lv_if_ne (tgt := 43) hx hb dX12_readExpression_33 (by decide) (fun hc => ?_) (fun hc => ?_)
          · replace hf := it_neg hc hf
            refine lv_iload_n hx hb dX12_readExpression_43 rfl (lv_at hl 2 rfl) ?_
            refine lv_iconst (v := 1) hx hb dX12_readExpression_44 (by decide) ?_
            refine lv_icmp_ne (tgt := 55) hx hb dX12_readExpression_45 (by decide) (fun hc => ?_) (fun hc => ?_)
            · replace hf := it_neg hc hf
              refine lv_iload_n hx hb dX12_readExpression_55 rfl (lv_at hl 2 rfl) ?_
              refine lv_iconst (v := 3) hx hb dX12_readExpression_56 (by decide) ?_
              refine lv_icmp_ne (tgt := 68) hx hb dX12_readExpression_57 (by decide) (fun hc => ?_) (fun hc => ?_)
              · replace hf := it_neg hc hf
                refine lv_aload_n hx hb dX12_readExpression_68 rfl (lv_at hl 0 rfl) ?_
                obtain ⟨r3, st4, hc, hf⟩ := bd_some hf
                refine m_calli (n := 0) (rest := []) E hP hS (fun sz => tX12_behindTest l D cy ad hJ sz st r3 st4 hc) (gV k_1547 k_1549 ks_66 k_14 k_1550) qX12_behindTest ⟨Nat.le_of_ble_eq_true rfl, Nat.le_of_ble_eq_true rfl⟩ ⟨Nat.le_refl _, Nat.le_refl _⟩ rfl hl.1 rfl (Nat.le_of_ble_eq_true rfl) dX12_readExpression_69 (fun H locs hP hS => ?_)
                exact B72 v1 r3 st4 _ _ ls hf (lv_sub hl [0, 1] rfl) hP hS
              · replace hf := it_pos hc hf
                refine lv_aload_n hx hb dX12_readExpression_60 rfl (lv_at hl 0 rfl) ?_
                refine lv_iload_n hx hb dX12_readExpression_61 rfl (lv_at hl 1 rfl) ?_
                obtain ⟨r5, st6, hc, hf⟩ := bd_some hf
                refine m_calli (n := 1) (rest := []) E hP hS (fun sz => tX12_behindSum l D cy ad hJ sz v1 st r5 st6 hc) (gV k_1524 k_1526 ks_62 k_14 k_1527) qX12_behindSum ⟨Nat.le_of_ble_eq_true rfl, Nat.le_of_ble_eq_true rfl⟩ ⟨Nat.le_refl _, Nat.le_refl _⟩ rfl hl.1 rfl (Nat.le_of_ble_eq_true rfl) dX12_readExpression_62 (fun H locs hP hS => ?_)
                refine lv_goto (tgt := 72) hx hb dX12_readExpression_65 (by decide) ?_
                exact B72 v1 r5 st6 _ _ ls hf (lv_sub hl [0, 1] rfl) hP hS
            · replace hf := it_pos hc hf
              refine lv_aload_n hx hb dX12_readExpression_48 rfl (lv_at hl 0 rfl) ?_
              obtain ⟨r7, st8, hc, hf⟩ := bd_some hf
              refine m_calli (n := 0) (rest := []) E hP hS (fun sz => tX12_readPart l D cy ad hJ sz st r7 st8 hc) (gV k_1500 k_1502 ks_56 k_14 k_1503) qX12_readPart ⟨Nat.le_of_ble_eq_true rfl, Nat.le_of_ble_eq_true rfl⟩ ⟨Nat.le_refl _, Nat.le_refl _⟩ rfl hl.1 rfl (Nat.le_of_ble_eq_true rfl) dX12_readExpression_49 (fun H locs hP hS => ?_)
              refine lv_goto (tgt := 72) hx hb dX12_readExpression_52 (by decide) ?_
              exact B72 v1 r7 st8 _ _ ls hf (lv_sub hl [0, 1] rfl) hP hS
          · replace hf := it_pos hc hf
            refine lv_aload_n hx hb dX12_readExpression_36 rfl (lv_at hl 0 rfl) ?_
            obtain ⟨r9, st10, hc, hf⟩ := bd_some hf
            refine m_calli (n := 0) (rest := []) E hP hS (fun sz => tX12_readPlain l D cy ad hJ sz st r9 st10 hc) (gV k_1483 k_1485 ks_52 k_14 k_1486) qX12_readPlain ⟨Nat.le_of_ble_eq_true rfl, Nat.le_of_ble_eq_true rfl⟩ ⟨Nat.le_refl _, Nat.le_refl _⟩ rfl hl.1 rfl (Nat.le_of_ble_eq_true rfl) dX12_readExpression_37 (fun H locs hP hS => ?_)
            refine lv_goto (tgt := 72) hx hb dX12_readExpression_40 (by decide) ?_
            exact B72 v1 r9 st10 _ _ ls hf (lv_sub hl [0, 1] rfl) hP hS
  have B19 : ∀ (v1 : Int32) (w0 : Int32) (st : St) (H : Heap) (locs : List Loc) (ls : Array Slot), fX12_readExpression_b19 v1 w0 st = some (rr, st') → lv_has ls 3 [(0, .ref (ad 100)), (1, .int v1)] → va_P D classes (mw cy ad st) H → va_S (mA ad s.heap.size) s.heap H locs → mGv l 6 D cy ad rr st' p e s m args below meth c H locs (F0 m 19 ls [.int w0]) := by
    intro v1 w0 st H locs ls hf hl hP hS
    unfold fX12_readExpression_b19 at hf
    refine lv_istore_n (lv' := [(2, .int w0), (0, .ref (ad 100)), (1, .int v1)]) hx hb dX12_readExpression_19 rfl hl (by decide) rfl (fun ls hl => ?_)
    exact L20 6000 v1 w0 st _ _ ls hf (lv_sub hl [1, 2, 0] rfl) hP hS
  refine lv_aload_n hx hb dX12_readExpression_0 rfl (lv_at hl 0 rfl) ?_
  refine lv_iconst (v := 0) hx hb dX12_readExpression_1 (by decide) ?_
  refine mp_29 E hD hP hS dX12_readExpression_2 (fun st11 H locs ex hP hS => ?_)
  replace hf := lt_at ex hf; clear ex
  refine lv_aload_n hx hb dX12_readExpression_5 rfl (lv_at hl 0 rfl) ?_
  refine lv_iconst (v := 0) hx hb dX12_readExpression_6 (by decide) ?_
  refine mp_30 E hD hP hS dX12_readExpression_7 (fun st12 H locs ex hP hS => ?_)
  replace hf := lt_at ex hf; clear ex
  refine lv_iload_n hx hb dX12_readExpression_10 rfl (lv_at hl 1 rfl) ?_
  refine lv_if_eq (tgt := 18) hx hb dX12_readExpression_11 (by decide) (fun hc => ?_) (fun hc => ?_)
  · replace hf := it_pos hc hf
    refine lv_iconst (v := 1) hx hb dX12_readExpression_18 (by decide) ?_
    exact B19 a0 (1 : Int32) st12 _ _ ls hf hl hP hS
  · replace hf := it_neg hc hf
    refine lv_iconst (v := 0) hx hb dX12_readExpression_14 (by decide) ?_
    refine lv_goto (tgt := 19) hx hb dX12_readExpression_15 (by decide) ?_
    exact B19 a0 (0 : Int32) st12 _ _ ls hf hl hP hS
theorem qX12_readExpression : yX12_readExpression.cls = RX12 ∧ yX12_readExpression.cls ≠ "java/lang/invoke/MethodHandle" ∧ yX12_readExpression.cls ≠ "java/lang/invoke/VarHandle" ∧ (parseMethodDescriptor yX12_readExpression.desc).map (fun d => d.parameters.length) = some 1 := by decide +kernel
def fX12_beginText (a0 : Int32) (st : St) : Option (Unit × St) := gb a0 (lt (sI st 20 a0) (fun st1 => bd (fX12_begin st1) (fun r2 st3 => lt (sI st3 21 (0 : Int32)) (fun st4 => lt (sI st4 23 (0 : Int32)) (fun st5 => lt (sI st5 26 (0 : Int32)) (fun st6 => some ((), st6)))))))
set_option maxHeartbeats 4000000 in
set_option maxRecDepth 100000 in
theorem tX12_beginText (l : Launch) (D : va_G) (cy : Nat → ClassId) (ad : Nat → Nat) (hJ : (mads ad).Nodup) (sz : Nat) (a0 : Int32) (st : St) (rr : Unit) (st' : St) (hf : fX12_beginText a0 st = some (rr, st')) : Met l yX12_beginText (Cond.code yX12_beginText cX12_beginText 2 none :: TT) (rmD 3) (mPc D cy ad [.int a0] st sz) (mQv D cy ad rr st' sz) 0 0 (mA ad sz) := by
  refine m_metv (by decide) hJ (Nat.le_of_ble_eq_true rfl) (fun p e s m args below meth c ls E hx hb hr hlocks hown hT hD hl hP hS => ?_)
  replace hl : lv_has ls 2 [(0, .ref (ad 100)), (1, .int a0)] := hl
  unfold fX12_beginText at hf
  refine lv_aload_n hx hb dX12_beginText_0 rfl (lv_at hl 0 rfl) ?_
  refine lv_iload_n hx hb dX12_beginText_1 rfl (lv_at hl 1 rfl) ?_
  obtain ⟨hz, hf⟩ := gb_some hf
  refine mp_20 E hD hP hS hz dX12_beginText_2 (fun st1 H locs ex hP hS => ?_)
  replace hf := lt_at ex hf; clear ex
  refine lv_aload_n hx hb dX12_beginText_5 rfl (lv_at hl 0 rfl) ?_
  obtain ⟨r2, st3, hc, hf⟩ := bd_some hf
  refine m_callv (n := 0) (rest := []) E hP hS (fun sz => tX12_begin l D cy ad hJ sz st1 r2 st3 hc) (gV k_1449 k_1451 ks_46 k_14 k_1452) qX12_begin ⟨Nat.le_of_ble_eq_true rfl, Nat.le_of_ble_eq_true rfl⟩ ⟨Nat.le_refl _, Nat.le_refl _⟩ rfl hl.1 rfl (Nat.le_of_ble_eq_true rfl) dX12_beginText_6 (fun H locs hP hS => ?_)
  refine lv_aload_n hx hb dX12_beginText_9 rfl (lv_at hl 0 rfl) ?_
  refine lv_iconst (v := 0) hx hb dX12_beginText_10 (by decide) ?_
  refine mp_21 E hD hP hS dX12_beginText_11 (fun st4 H locs ex hP hS => ?_)
  replace hf := lt_at ex hf; clear ex
  refine lv_aload_n hx hb dX12_beginText_14 rfl (lv_at hl 0 rfl) ?_
  refine lv_iconst (v := 0) hx hb dX12_beginText_15 (by decide) ?_
  refine mp_23 E hD hP hS dX12_beginText_16 (fun st5 H locs ex hP hS => ?_)
  replace hf := lt_at ex hf; clear ex
  refine lv_aload_n hx hb dX12_beginText_19 rfl (lv_at hl 0 rfl) ?_
  refine lv_iconst (v := 0) hx hb dX12_beginText_20 (by decide) ?_
  refine mp_26 E hD hP hS dX12_beginText_21 (fun st6 H locs ex hP hS => ?_)
  replace hf := lt_at ex hf; clear ex
  exact m_vret hx hb hr hlocks hf hP hS dX12_beginText_24
theorem qX12_beginText : yX12_beginText.cls = RX12 ∧ yX12_beginText.cls ≠ "java/lang/invoke/MethodHandle" ∧ yX12_beginText.cls ≠ "java/lang/invoke/VarHandle" ∧ (parseMethodDescriptor yX12_beginText.desc).map (fun d => d.parameters.length) = some 1 := by decide +kernel
