def fX9_readSum_b86 (rT rS : Int32 → St → Option (Int32 × St)) (fz : List FP) (v2 : Int32) (st : St) : Option (Int32 × St) := gb v2 (some (v2, st))
def fX9_readSum_b51 (rT rS : Int32 → St → Option (Int32 × St)) (fz : List FP) (k8 : Int32 → Int32 → Int32 → St → Option (Int32 × St)) (v1 : Int32) (v3 : Int32) (w0 : Int32) (st : St) : Option (Int32 × St) := bd (fX9_lookAt ((st.1 704) + (1 : Int32)) fz st) (fun r1 st2 => bd (fX9_readTerm rT rS v1 fz st2) (fun r3 st4 => bd (fX8_add w0 (0 : Int32) fz st4) (fun r5 st6 => lt (v3 + (1 : Int32)) (fun x7 => k8 v1 r3 x7 st6))))
def fX9_readSum_b37 (rT rS : Int32 → St → Option (Int32 × St)) (fz : List FP) (k8 : Int32 → Int32 → Int32 → St → Option (Int32 × St)) (v1 : Int32) (v3 : Int32) (st : St) : Option (Int32 × St) := if (st.1 705) = (43 : Int32) then (fX9_readSum_b51 rT rS fz k8 v1 v3 (2 : Int32) st) else (fX9_readSum_b51 rT rS fz k8 v1 v3 (3 : Int32) st)
def fX9_readSum_b8 (rT rS : Int32 → St → Option (Int32 × St)) (fz : List FP) (k8 : Int32 → Int32 → Int32 → St → Option (Int32 × St)) (v1 : Int32) (v2 : Int32) (v3 : Int32) (st : St) : Option (Int32 × St) := if v2 = 0 then (fX9_readSum_b86 rT rS fz v2 st) else (if (400 : Int32) ≤ v3 then (fX9_readSum_b86 rT rS fz v2 st) else (if (st.1 705) = (43 : Int32) then (fX9_readSum_b37 rT rS fz k8 v1 v3 st) else (if (st.1 705) = (45 : Int32) then (fX9_readSum_b37 rT rS fz k8 v1 v3 st) else (fX9_readSum_b86 rT rS fz v2 st))))
def fX9_readSum (rT rS : Int32 → St → Option (Int32 × St)) (a0 : Int32) (fz : List FP) (st : St) : Option (Int32 × St) := bd (fX9_readTerm rT rS a0 fz st) (fun r8 st9 => lp (fun _ _ _ _ => none) (fX9_readSum_b8 rT rS fz) 6000 a0 r8 (0 : Int32) st9)
set_option maxHeartbeats 4000000 in
set_option maxRecDepth 100000 in
theorem tX9_readSum (l : Launch) (D : va_G) (cy : Nat → ClassId) (ad : Nat → Nat) (fz : List FP) (hJ : (cads ad fz).Nodup) (d0 dT dS : Nat) (h8 : 8 ≤ d0) (h8T : dT ≤ d0) (h8S : dS ≤ d0) (rT rS : Int32 → St → Option (Int32 × St)) (hrT : ∀ (sz : Nat) (a0 : Int32) (st : St) (rr : Int32) (st' : St), rT a0 st = some (rr, st') → Met l yX9_readTest (Cond.code yX9_readTest cX9_readTest 5 (some .boolean) :: TT) (rmD dT) (cPc D cy ad fz [.ref (ad 799), .int a0] st sz) (cQi D cy ad fz rr st' sz) 0 0 (cA ad fz sz)) (hrS : ∀ (sz : Nat) (a0 : Int32) (st : St) (rr : Int32) (st' : St), rS a0 st = some (rr, st') → Met l yX9_readSum (Cond.code yX9_readSum cX9_readSum 5 (some .boolean) :: TT) (rmD dS) (cPc D cy ad fz [.ref (ad 799), .int a0] st sz) (cQi D cy ad fz rr st' sz) 0 0 (cA ad fz sz)) (sz : Nat) (a0 : Int32) (st : St) (rr : Int32) (st' : St) (hf : fX9_readSum rT rS a0 fz st = some (rr, st')) : Met l yX9_readSum (Cond.code yX9_readSum cX9_readSum 5 (some .boolean) :: TT) (rmD (d0 + 4)) (cPc D cy ad fz [.ref (ad 799), .int a0] st sz) (cQi D cy ad fz rr st' sz) 0 0 (cA ad fz sz) := by
  refine c_meti (by decide) hJ (Nat.le_of_ble_eq_true rfl) (fun p e s m args below meth c ls E hx hb hr hlocks hown hT hD hN hl hP hS => ?_)
  replace hl : lv_has ls 5 [(0, .ref (ad 799)), (1, .int a0)] := hl
  unfold fX9_readSum at hf
  have B86 : ∀ (v2 : Int32) (st : St) (H : Heap) (locs : List Loc) (ls : Array Slot), fX9_readSum_b86 rT rS fz v2 st = some (rr, st') → lv_has ls 5 [(2, .int v2)] → va_P D classes (cx cy ad fz st) H → va_S (cA ad fz s.heap.size) s.heap H locs → cGi l (d0 + 4) D cy ad fz rr st' p e s m args below meth c H locs (F0 m 86 ls []) := by
    intro v2 st H locs ls hf hl hP hS
    unfold fX9_readSum_b86 at hf
    refine lv_iload_n hx hb dX9_readSum_86 rfl (lv_at hl 0 rfl) ?_
    obtain ⟨hn, hf⟩ := gb_some hf
    exact c_zret hx hb hr hlocks hn hf hP hS dX9_readSum_87
  have L8 : ∀ (n : Nat) (v1 : Int32) (v2 : Int32) (v3 : Int32) (st : St) (H : Heap) (locs : List Loc) (ls : Array Slot), lp (fun _ _ _ _ => none) (fX9_readSum_b8 rT rS fz) n v1 v2 v3 st = some (rr, st') → lv_has ls 5 [(0, .ref (ad 799)), (1, .int v1), (2, .int v2), (3, .int v3)] → va_P D classes (cx cy ad fz st) H → va_S (cA ad fz s.heap.size) s.heap H locs → cGi l (d0 + 4) D cy ad fz rr st' p e s m args below meth c H locs (F0 m 8 ls []) := by
    intro n
    induction n with
    | zero => intro v1 v2 v3 st H locs ls hf; exact absurd hf (fun h => by cases h)
    | succ n K8 =>
      intro v1 v2 v3 st H locs ls hf hl hP hS
      replace hf : fX9_readSum_b8 rT rS fz (lp (fun _ _ _ _ => none) (fX9_readSum_b8 rT rS fz) n) v1 v2 v3 st = some (rr, st') := hf
      generalize lp (fun _ _ _ _ => none) (fX9_readSum_b8 rT rS fz) n = k8 at hf K8
      have B51 : ∀ (v1 : Int32) (v3 : Int32) (w0 : Int32) (st : St) (H : Heap) (locs : List Loc) (ls : Array Slot), fX9_readSum_b51 rT rS fz k8 v1 v3 w0 st = some (rr, st') → lv_has ls 5 [(0, .ref (ad 799)), (1, .int v1), (3, .int v3)] → va_P D classes (cx cy ad fz st) H → va_S (cA ad fz s.heap.size) s.heap H locs → cGi l (d0 + 4) D cy ad fz rr st' p e s m args below meth c H locs (F0 m 51 ls [.int w0]) := by
        intro v1 v3 w0 st H locs ls hf hl hP hS
        unfold fX9_readSum_b51 at hf
        refine lv_istore (lv' := [(4, .int w0), (0, .ref (ad 799)), (1, .int v1), (3, .int v3)]) hx hb dX9_readSum_51 hl (by decide) rfl (fun ls hl => ?_)
        refine lv_aload_n hx hb dX9_readSum_53 rfl (lv_at hl 1 rfl) ?_
        refine lv_aload_n hx hb dX9_readSum_54 rfl (lv_at hl 1 rfl) ?_
        refine cg_9_55_7 E hP dX9_readSum_55 ?_
        refine lv_iconst (v := 1) hx hb dX9_readSum_58 (by decide) ?_
        refine lv_iadd hx hb dX9_readSum_59 ?_
        obtain ⟨r1, st2, hc, hf⟩ := bd_some hf
        refine c_callv (n := 1) (rest := []) E hN hP hS (fun sz => tX9_lookAt l D cy ad fz hJ sz ((st.1 704) + (1 : Int32)) st r1 st2 hc) (va_recv E.2 hP (ci := 9) (q0 := 35) rfl rfl) (gV k_675 k_677 ks_8 k_9 k_678) qX9_lookAt ⟨by dsimp only [rmD]; omega, by dsimp only [rmD]; omega⟩ ⟨Nat.le_refl _, Nat.le_refl _⟩ rfl hl.1 rfl (Nat.le_of_ble_eq_true rfl) dX9_readSum_60 (fun H locs hP hS => ?_)
        refine lv_aload_n hx hb dX9_readSum_63 rfl (lv_at hl 1 rfl) ?_
        refine lv_iload_n hx hb dX9_readSum_64 rfl (lv_at hl 2 rfl) ?_
        obtain ⟨r3, st4, hc, hf⟩ := bd_some hf
        refine c_calli (n := 1) (rest := []) E hN hP hS (fun sz => tX9_readTerm l D cy ad fz hJ d0 dT dS h8 h8T h8S rT rS hrT hrS sz v1 st2 r3 st4 hc) (va_recv E.2 hP (ci := 9) (q0 := 35) rfl rfl) (gV k_696 k_698 ks_11 k_9 k_699) qX9_readTerm ⟨by dsimp only [rmD]; omega, by dsimp only [rmD]; omega⟩ ⟨Nat.le_refl _, Nat.le_refl _⟩ rfl hl.1 rfl (Nat.le_of_ble_eq_true rfl) dX9_readSum_65 (fun H locs hP hS => ?_)
        refine lv_istore_n (lv' := [(2, .int r3), (4, .int w0), (0, .ref (ad 799)), (1, .int v1), (3, .int v3)]) hx hb dX9_readSum_68 rfl hl (by decide) rfl (fun ls hl => ?_)
        refine lv_aload_n hx hb dX9_readSum_69 rfl (lv_at hl 2 rfl) ?_
        refine cg_9_15_7 E hP dX9_readSum_70 ?_
        refine lv_iload hx hb dX9_readSum_73 (lv_at hl 1 rfl) ?_
        refine lv_iconst (v := 0) hx hb dX9_readSum_75 (by decide) ?_
        obtain ⟨r5, st6, hc, hf⟩ := bd_some hf
        refine c_calli (n := 2) (rest := []) E hN hP hS (fun sz => tX8_add l D cy ad fz hJ sz w0 (0 : Int32) st4 r5 st6 hc) (va_recv E.2 hP (ci := 8) (q0 := 30) rfl rfl) (gV k_728 k_729 k_730 k_8 k_731) qX8_add ⟨by dsimp only [rmD]; omega, by dsimp only [rmD]; omega⟩ ⟨Nat.le_refl _, Nat.le_refl _⟩ rfl hl.1 rfl (Nat.le_of_ble_eq_true rfl) dX9_readSum_76 (fun H locs hP hS => ?_)
        refine lv_pop hx hb dX9_readSum_79 rfl ?_
        obtain ⟨x7, ex⟩ : ∃ y : Int32, y = v3 + (1 : Int32) := ⟨_, rfl⟩
        replace hf := lt_at ex hf
        refine lv_iinc (v := x7) (lv' := [(3, .int x7), (2, .int r3), (4, .int w0), (0, .ref (ad 799)), (1, .int v1)]) hx hb dX9_readSum_80 hl (k := 4) rfl (by rw [ex]; rfl) (by decide) rfl (fun ls hl => ?_)
        clear ex
        refine lv_goto (tgt := 8) hx hb dX9_readSum_83 (by decide) ?_
        exact K8 v1 r3 x7 st6 _ _ ls hf (lv_sub hl [3, 4, 1, 0] rfl) hP hS
      have B37 : ∀ (v1 : Int32) (v3 : Int32) (st : St) (H : Heap) (locs : List Loc) (ls : Array Slot), fX9_readSum_b37 rT rS fz k8 v1 v3 st = some (rr, st') → lv_has ls 5 [(0, .ref (ad 799)), (1, .int v1), (3, .int v3)] → va_P D classes (cx cy ad fz st) H → va_S (cA ad fz s.heap.size) s.heap H locs → cGi l (d0 + 4) D cy ad fz rr st' p e s m args below meth c H locs (F0 m 37 ls []) := by
        intro v1 v3 st H locs ls hf hl hP hS
        unfold fX9_readSum_b37 at hf
        refine lv_aload_n hx hb dX9_readSum_37 rfl (lv_at hl 0 rfl) ?_
        refine cg_9_62_7 E hP dX9_readSum_38 ?_
        refine lv_bipush (v := 43) hx hb dX9_readSum_41 (by decide) ?_
        refine lv_icmp_ne (tgt := 50) hx hb dX9_readSum_43 (by decide) (fun hc => ?_) (fun hc => ?_)
        · replace hf := it_neg hc hf
          refine lv_iconst (v := 3) hx hb dX9_readSum_50 (by decide) ?_
          exact B51 v1 v3 (3 : Int32) st _ _ ls hf hl hP hS
        · replace hf := it_pos hc hf
          refine lv_iconst (v := 2) hx hb dX9_readSum_46 (by decide) ?_
          refine lv_goto (tgt := 51) hx hb dX9_readSum_47 (by decide) ?_
          exact B51 v1 v3 (2 : Int32) st _ _ ls hf hl hP hS
      unfold fX9_readSum_b8 at hf
      refine lv_iload_n hx hb dX9_readSum_8 rfl (lv_at hl 2 rfl) ?_
      refine lv_if_eq (tgt := 86) hx hb dX9_readSum_9 (by decide) (fun hc => ?_) (fun hc => ?_)
      · replace hf := it_pos hc hf
        exact B86 v2 st _ _ ls hf (lv_sub hl [2] rfl) hP hS
      · replace hf := it_neg hc hf
        refine lv_iload_n hx hb dX9_readSum_12 rfl (lv_at hl 3 rfl) ?_
        refine lv_sipush (v := 400) hx hb dX9_readSum_13 (by decide) ?_
        refine lv_icmp_ge (tgt := 86) hx hb dX9_readSum_16 (by decide) (fun hc => ?_) (fun hc => ?_)
        · replace hf := it_pos hc hf
          exact B86 v2 st _ _ ls hf (lv_sub hl [2] rfl) hP hS
        · replace hf := it_neg hc hf
          refine lv_aload_n hx hb dX9_readSum_19 rfl (lv_at hl 0 rfl) ?_
          refine cg_9_62_7 E hP dX9_readSum_20 ?_
          refine lv_bipush (v := 43) hx hb dX9_readSum_23 (by decide) ?_
          refine lv_icmp_eq (tgt := 37) hx hb dX9_readSum_25 (by decide) (fun hc => ?_) (fun hc => ?_)
          · replace hf := it_pos hc hf
            exact B37 v1 v3 st _ _ ls hf (lv_sub hl [0, 1, 3] rfl) hP hS
          · replace hf := it_neg hc hf
            refine lv_aload_n hx hb dX9_readSum_28 rfl (lv_at hl 0 rfl) ?_
            refine cg_9_62_7 E hP dX9_readSum_29 ?_
            refine lv_bipush (v := 45) hx hb dX9_readSum_32 (by decide) ?_
            refine lv_icmp_ne (tgt := 86) hx hb dX9_readSum_34 (by decide) (fun hc => ?_) (fun hc => ?_)
            · replace hf := it_neg hc hf
              exact B86 v2 st _ _ ls hf (lv_sub hl [2] rfl) hP hS
            · replace hf := it_pos hc hf
              exact B37 v1 v3 st _ _ ls hf (lv_sub hl [0, 1, 3] rfl) hP hS
  refine lv_aload_n hx hb dX9_readSum_0 rfl (lv_at hl 0 rfl) ?_
  refine lv_iload_n hx hb dX9_readSum_1 rfl (lv_at hl 1 rfl) ?_
  obtain ⟨r8, st9, hc, hf⟩ := bd_some hf
  refine c_calli (n := 1) (rest := []) E hN hP hS (fun sz => tX9_readTerm l D cy ad fz hJ d0 dT dS h8 h8T h8S rT rS hrT hrS sz a0 st r8 st9 hc) (va_recv E.2 hP (ci := 9) (q0 := 35) rfl rfl) (gV k_696 k_698 ks_11 k_9 k_699) qX9_readTerm ⟨by dsimp only [rmD]; omega, by dsimp only [rmD]; omega⟩ ⟨Nat.le_refl _, Nat.le_refl _⟩ rfl hl.1 rfl (Nat.le_of_ble_eq_true rfl) dX9_readSum_2 (fun H locs hP hS => ?_)
  refine lv_istore_n (lv' := [(2, .int r8), (0, .ref (ad 799)), (1, .int a0)]) hx hb dX9_readSum_5 rfl hl (by decide) rfl (fun ls hl => ?_)
  refine lv_iconst (v := 0) hx hb dX9_readSum_6 (by decide) ?_
  refine lv_istore_n (lv' := [(3, .int (0 : Int32)), (2, .int r8), (0, .ref (ad 799)), (1, .int a0)]) hx hb dX9_readSum_7 rfl hl (by decide) rfl (fun ls hl => ?_)
  exact L8 6000 a0 r8 (0 : Int32) st9 _ _ ls hf (lv_sub hl [2, 3, 1, 0] rfl) hP hS
def fX9_readComparison_b79 (rT rS : Int32 → St → Option (Int32 × St)) (fz : List FP) (v3 : Int32) (w0 : Int32) (st : St) : Option (Int32 × St) := bd (fX8_add w0 (0 : Int32) fz st) (fun r1 st2 => gb v3 (some (v3, st2)))
def fX9_readComparison_b35 (rT rS : Int32 → St → Option (Int32 × St)) (fz : List FP) (v1 : Int32) (v2 : Int32) (st : St) : Option (Int32 × St) := bd (fX9_lookAt ((st.1 704) + (1 : Int32)) fz st) (fun r3 st4 => bd (fX9_readSum rT rS v1 fz st4) (fun r5 st6 => if v2 = (60 : Int32) then (fX9_readComparison_b79 rT rS fz r5 (7 : Int32) st6) else (if v2 = (62 : Int32) then (fX9_readComparison_b79 rT rS fz r5 (8 : Int32) st6) else (fX9_readComparison_b79 rT rS fz r5 (9 : Int32) st6))))
def fX9_readComparison (rT rS : Int32 → St → Option (Int32 × St)) (a0 : Int32) (fz : List FP) (st : St) : Option (Int32 × St) := bd (fX9_readSum rT rS a0 fz st) (fun r7 st8 => if r7 = 0 then (some ((0 : Int32), st8)) else (lt (st8.1 705) (fun x9 => if x9 = (60 : Int32) then (fX9_readComparison_b35 rT rS fz a0 x9 st8) else (if x9 = (62 : Int32) then (fX9_readComparison_b35 rT rS fz a0 x9 st8) else (if x9 = (61 : Int32) then (fX9_readComparison_b35 rT rS fz a0 x9 st8) else (some ((0 : Int32), st8)))))))
set_option maxHeartbeats 4000000 in
set_option maxRecDepth 100000 in
theorem tX9_readComparison (l : Launch) (D : va_G) (cy : Nat → ClassId) (ad : Nat → Nat) (fz : List FP) (hJ : (cads ad fz).Nodup) (d0 dT dS : Nat) (h8 : 8 ≤ d0) (h8T : dT ≤ d0) (h8S : dS ≤ d0) (rT rS : Int32 → St → Option (Int32 × St)) (hrT : ∀ (sz : Nat) (a0 : Int32) (st : St) (rr : Int32) (st' : St), rT a0 st = some (rr, st') → Met l yX9_readTest (Cond.code yX9_readTest cX9_readTest 5 (some .boolean) :: TT) (rmD dT) (cPc D cy ad fz [.ref (ad 799), .int a0] st sz) (cQi D cy ad fz rr st' sz) 0 0 (cA ad fz sz)) (hrS : ∀ (sz : Nat) (a0 : Int32) (st : St) (rr : Int32) (st' : St), rS a0 st = some (rr, st') → Met l yX9_readSum (Cond.code yX9_readSum cX9_readSum 5 (some .boolean) :: TT) (rmD dS) (cPc D cy ad fz [.ref (ad 799), .int a0] st sz) (cQi D cy ad fz rr st' sz) 0 0 (cA ad fz sz)) (sz : Nat) (a0 : Int32) (st : St) (rr : Int32) (st' : St) (hf : fX9_readComparison rT rS a0 fz st = some (rr, st')) : Met l yX9_readComparison (Cond.code yX9_readComparison cX9_readComparison 4 (some .boolean) :: TT) (rmD (d0 + 5)) (cPc D cy ad fz [.ref (ad 799), .int a0] st sz) (cQi D cy ad fz rr st' sz) 0 0 (cA ad fz sz) := by
  refine c_meti (by decide) hJ (Nat.le_of_ble_eq_true rfl) (fun p e s m args below meth c ls E hx hb hr hlocks hown hT hD hN hl hP hS => ?_)
  replace hl : lv_has ls 4 [(0, .ref (ad 799)), (1, .int a0)] := hl
  unfold fX9_readComparison at hf
  have B79 : ∀ (v3 : Int32) (w0 : Int32) (st : St) (H : Heap) (locs : List Loc) (ls : Array Slot), fX9_readComparison_b79 rT rS fz v3 w0 st = some (rr, st') → lv_has ls 4 [(3, .int v3)] → va_P D classes (cx cy ad fz st) H → va_S (cA ad fz s.heap.size) s.heap H locs → cGi l (d0 + 5) D cy ad fz rr st' p e s m args below meth c H locs (F0 m 79 ls [.int w0, .ref (ad 699)]) := by
    intro v3 w0 st H locs ls hf hl hP hS
    unfold fX9_readComparison_b79 at hf
    refine lv_iconst (v := 0) hx hb dX9_readComparison_79 (by decide) ?_
    obtain ⟨r1, st2, hc, hf⟩ := bd_some hf
    refine c_calli (n := 2) (rest := []) E hN hP hS (fun sz => tX8_add l D cy ad fz hJ sz w0 (0 : Int32) st r1 st2 hc) (va_recv E.2 hP (ci := 8) (q0 := 30) rfl rfl) (gV k_728 k_729 k_730 k_8 k_731) qX8_add ⟨by dsimp only [rmD]; omega, by dsimp only [rmD]; omega⟩ ⟨Nat.le_refl _, Nat.le_refl _⟩ rfl hl.1 rfl (Nat.le_of_ble_eq_true rfl) dX9_readComparison_80 (fun H locs hP hS => ?_)
    refine lv_pop hx hb dX9_readComparison_83 rfl ?_
    refine lv_iload_n hx hb dX9_readComparison_84 rfl (lv_at hl 0 rfl) ?_
    obtain ⟨hn, hf⟩ := gb_some hf
    exact c_zret hx hb hr hlocks hn hf hP hS dX9_readComparison_85
  have B35 : ∀ (v1 : Int32) (v2 : Int32) (st : St) (H : Heap) (locs : List Loc) (ls : Array Slot), fX9_readComparison_b35 rT rS fz v1 v2 st = some (rr, st') → lv_has ls 4 [(0, .ref (ad 799)), (1, .int v1), (2, .int v2)] → va_P D classes (cx cy ad fz st) H → va_S (cA ad fz s.heap.size) s.heap H locs → cGi l (d0 + 5) D cy ad fz rr st' p e s m args below meth c H locs (F0 m 35 ls []) := by
    intro v1 v2 st H locs ls hf hl hP hS
    unfold fX9_readComparison_b35 at hf
    refine lv_aload_n hx hb dX9_readComparison_35 rfl (lv_at hl 0 rfl) ?_
    refine lv_aload_n hx hb dX9_readComparison_36 rfl (lv_at hl 0 rfl) ?_
    refine cg_9_55_7 E hP dX9_readComparison_37 ?_
    refine lv_iconst (v := 1) hx hb dX9_readComparison_40 (by decide) ?_
    refine lv_iadd hx hb dX9_readComparison_41 ?_
    obtain ⟨r3, st4, hc, hf⟩ := bd_some hf
    refine c_callv (n := 1) (rest := []) E hN hP hS (fun sz => tX9_lookAt l D cy ad fz hJ sz ((st.1 704) + (1 : Int32)) st r3 st4 hc) (va_recv E.2 hP (ci := 9) (q0 := 35) rfl rfl) (gV k_675 k_677 ks_8 k_9 k_678) qX9_lookAt ⟨by dsimp only [rmD]; omega, by dsimp only [rmD]; omega⟩ ⟨Nat.le_refl _, Nat.le_refl _⟩ rfl hl.1 rfl (Nat.le_of_ble_eq_true rfl) dX9_readComparison_42 (fun H locs hP hS => ?_)
    refine lv_aload_n hx hb dX9_readComparison_45 rfl (lv_at hl 0 rfl) ?_
    refine lv_iload_n hx hb dX9_readComparison_46 rfl (lv_at hl 1 rfl) ?_
    obtain ⟨r5, st6, hc, hf⟩ := bd_some hf
    refine c_calli (n := 1) (rest := []) E hN hP hS (fun sz => tX9_readSum l D cy ad fz hJ d0 dT dS h8 h8T h8S rT rS hrT hrS sz v1 st4 r5 st6 hc) (va_recv E.2 hP (ci := 9) (q0 := 35) rfl rfl) (gV k_692 k_694 ks_10 k_9 k_695) qX9_readSum ⟨by dsimp only [rmD]; omega, by dsimp only [rmD]; omega⟩ ⟨Nat.le_refl _, Nat.le_refl _⟩ rfl hl.1 rfl (Nat.le_of_ble_eq_true rfl) dX9_readComparison_47 (fun H locs hP hS => ?_)
    refine lv_istore_n (lv' := [(3, .int r5), (0, .ref (ad 799)), (1, .int v1), (2, .int v2)]) hx hb dX9_readComparison_50 rfl hl (by decide) rfl (fun ls hl => ?_)
    refine lv_aload_n hx hb dX9_readComparison_51 rfl (lv_at hl 1 rfl) ?_
    refine cg_9_15_7 E hP dX9_readComparison_52 ?_
    refine lv_iload_n hx hb dX9_readComparison_55 rfl (lv_at hl 3 rfl) ?_
    refine lv_bipush (v := 60) hx hb dX9_readComparison_56 (by decide) ?_
    refine lv_icmp_ne (tgt := 66) hx hb dX9_readComparison_58 (by decide) (fun hc => ?_) (fun hc => ?_)
    · replace hf := it_neg hc hf
      refine lv_iload_n hx hb dX9_readComparison_66 rfl (lv_at hl 3 rfl) ?_
      refine lv_bipush (v := 62) hx hb dX9_readComparison_67 (by decide) ?_
      refine lv_icmp_ne (tgt := 77) hx hb dX9_readComparison_69 (by decide) (fun hc => ?_) (fun hc => ?_)
      · replace hf := it_neg hc hf
        refine lv_bipush (v := 9) hx hb dX9_readComparison_77 (by decide) ?_
        exact B79 r5 (9 : Int32) st6 _ _ ls hf (lv_sub hl [0] rfl) hP hS
      · replace hf := it_pos hc hf
        refine lv_bipush (v := 8) hx hb dX9_readComparison_72 (by decide) ?_
        refine lv_goto (tgt := 79) hx hb dX9_readComparison_74 (by decide) ?_
        exact B79 r5 (8 : Int32) st6 _ _ ls hf (lv_sub hl [0] rfl) hP hS
    · replace hf := it_pos hc hf
      refine lv_bipush (v := 7) hx hb dX9_readComparison_61 (by decide) ?_
      refine lv_goto (tgt := 79) hx hb dX9_readComparison_63 (by decide) ?_
      exact B79 r5 (7 : Int32) st6 _ _ ls hf (lv_sub hl [0] rfl) hP hS
  refine lv_aload_n hx hb dX9_readComparison_0 rfl (lv_at hl 0 rfl) ?_
  refine lv_iload_n hx hb dX9_readComparison_1 rfl (lv_at hl 1 rfl) ?_
  obtain ⟨r7, st8, hc, hf⟩ := bd_some hf
  refine c_calli (n := 1) (rest := []) E hN hP hS (fun sz => tX9_readSum l D cy ad fz hJ d0 dT dS h8 h8T h8S rT rS hrT hrS sz a0 st r7 st8 hc) (va_recv E.2 hP (ci := 9) (q0 := 35) rfl rfl) (gV k_692 k_694 ks_10 k_9 k_695) qX9_readSum ⟨by dsimp only [rmD]; omega, by dsimp only [rmD]; omega⟩ ⟨Nat.le_refl _, Nat.le_refl _⟩ rfl hl.1 rfl (Nat.le_of_ble_eq_true rfl) dX9_readComparison_2 (fun H locs hP hS => ?_)
  refine lv_if_ne (tgt := 10) hx hb dX9_readComparison_5 (by decide) (fun hc => ?_) (fun hc => ?_)
  · replace hf := it_neg hc hf
    refine lv_aload_n hx hb dX9_readComparison_10 rfl (lv_at hl 0 rfl) ?_
    refine cg_9_62_7 E hP dX9_readComparison_11 ?_
    refine lv_topi (fun x9 ex => ?_)
    replace hf := lt_at ex hf; clear ex
    refine lv_istore_n (lv' := [(2, .int x9), (0, .ref (ad 799)), (1, .int a0)]) hx hb dX9_readComparison_14 rfl hl (by decide) rfl (fun ls hl => ?_)
    refine lv_iload_n hx hb dX9_readComparison_15 rfl (lv_at hl 0 rfl) ?_
    refine lv_bipush (v := 60) hx hb dX9_readComparison_16 (by decide) ?_
    refine lv_icmp_eq (tgt := 35) hx hb dX9_readComparison_18 (by decide) (fun hc => ?_) (fun hc => ?_)
    · replace hf := it_pos hc hf
      exact B35 a0 x9 st8 _ _ ls hf (lv_sub hl [1, 2, 0] rfl) hP hS
    · replace hf := it_neg hc hf
      refine lv_iload_n hx hb dX9_readComparison_21 rfl (lv_at hl 0 rfl) ?_
      refine lv_bipush (v := 62) hx hb dX9_readComparison_22 (by decide) ?_
      refine lv_icmp_eq (tgt := 35) hx hb dX9_readComparison_24 (by decide) (fun hc => ?_) (fun hc => ?_)
      · replace hf := it_pos hc hf
        exact B35 a0 x9 st8 _ _ ls hf (lv_sub hl [1, 2, 0] rfl) hP hS
      · replace hf := it_neg hc hf
        refine lv_iload_n hx hb dX9_readComparison_27 rfl (lv_at hl 0 rfl) ?_
        refine lv_bipush (v := 61) hx hb dX9_readComparison_28 (by decide) ?_
        refine lv_icmp_eq (tgt := 35) hx hb dX9_readComparison_30 (by decide) (fun hc => ?_) (fun hc => ?_)
        · replace hf := it_pos hc hf
          exact B35 a0 x9 st8 _ _ ls hf (lv_sub hl [1, 2, 0] rfl) hP hS
        · replace hf := it_neg hc hf
          refine lv_iconst (v := 0) hx hb dX9_readComparison_33 (by decide) ?_
          exact c_zret hx hb hr hlocks (by decide) hf hP hS dX9_readComparison_34
  · replace hf := it_pos hc hf
    refine lv_iconst (v := 0) hx hb dX9_readComparison_8 (by decide) ?_
    exact c_zret hx hb hr hlocks (by decide) hf hP hS dX9_readComparison_9
def fX9_readPlain_b77 (rT rS : Int32 → St → Option (Int32 × St)) (fz : List FP) (v3 : Int32) (st : St) : Option (Int32 × St) := gb v3 (some (v3, st))
def fX9_readPlain_b61 (rT rS : Int32 → St → Option (Int32 × St)) (fz : List FP) (v2 : Int32) (w0 : Int32) (st : St) : Option (Int32 × St) := if v2 = 0 then (fX9_readPlain_b77 rT rS fz w0 st) else (bd (fX8_add (10 : Int32) (0 : Int32) fz st) (fun r1 st2 => fX9_readPlain_b77 rT rS fz w0 st2))
def fX9_readPlain_b37 (rT rS : Int32 → St → Option (Int32 × St)) (fz : List FP) (v1 : Int32) (v2 : Int32) (st : St) : Option (Int32 × St) := if (st.1 705) = (40 : Int32) then (bd (fX9_readInBrackets rT rS (40 : Int32) v1 fz st) (fun r5 st6 => fX9_readPlain_b61 rT rS fz v2 r5 st6)) else (bd (fX9_readComparison rT rS v1 fz st) (fun r3 st4 => fX9_readPlain_b61 rT rS fz v2 r3 st4))
def fX9_readPlain_b30 (rT rS : Int32 → St → Option (Int32 × St)) (fz : List FP) (k4 : Int32 → Int32 → Int32 → St → Option (Int32 × St)) (v1 : Int32) (v3 : Int32) (w0 : Int32) (st : St) : Option (Int32 × St) := lt (v3 + (1 : Int32)) (fun x7 => k4 v1 w0 x7 st)
def fX9_readPlain_b4 (rT rS : Int32 → St → Option (Int32 × St)) (fz : List FP) (k4 : Int32 → Int32 → Int32 → St → Option (Int32 × St)) (v1 : Int32) (v2 : Int32) (v3 : Int32) (st : St) : Option (Int32 × St) := if (400 : Int32) ≤ v3 then (fX9_readPlain_b37 rT rS fz v1 v2 st) else (bd (fX9_passes (315 : Int32) fz st) (fun r8 st9 => if r8 = 0 then (fX9_readPlain_b37 rT rS fz v1 v2 st9) else (if v2 = 0 then (fX9_readPlain_b30 rT rS fz k4 v1 v3 (1 : Int32) st9) else (fX9_readPlain_b30 rT rS fz k4 v1 v3 (0 : Int32) st9))))
def fX9_readPlain (rT rS : Int32 → St → Option (Int32 × St)) (a0 : Int32) (fz : List FP) (st : St) : Option (Int32 × St) := lp (fun _ _ _ _ => none) (fX9_readPlain_b4 rT rS fz) 6000 a0 (0 : Int32) (0 : Int32) st
set_option maxHeartbeats 4000000 in
set_option maxRecDepth 100000 in
theorem tX9_readPlain (l : Launch) (D : va_G) (cy : Nat → ClassId) (ad : Nat → Nat) (fz : List FP) (hJ : (cads ad fz).Nodup) (d0 dT dS : Nat) (h8 : 8 ≤ d0) (h8T : dT ≤ d0) (h8S : dS ≤ d0) (rT rS : Int32 → St → Option (Int32 × St)) (hrT : ∀ (sz : Nat) (a0 : Int32) (st : St) (rr : Int32) (st' : St), rT a0 st = some (rr, st') → Met l yX9_readTest (Cond.code yX9_readTest cX9_readTest 5 (some .boolean) :: TT) (rmD dT) (cPc D cy ad fz [.ref (ad 799), .int a0] st sz) (cQi D cy ad fz rr st' sz) 0 0 (cA ad fz sz)) (hrS : ∀ (sz : Nat) (a0 : Int32) (st : St) (rr : Int32) (st' : St), rS a0 st = some (rr, st') → Met l yX9_readSum (Cond.code yX9_readSum cX9_readSum 5 (some .boolean) :: TT) (rmD dS) (cPc D cy ad fz [.ref (ad 799), .int a0] st sz) (cQi D cy ad fz rr st' sz) 0 0 (cA ad fz sz)) (sz : Nat) (a0 : Int32) (st : St) (rr : Int32) (st' : St) (hf : fX9_readPlain rT rS a0 fz st = some (rr, st')) : Met l yX9_readPlain (Cond.code yX9_readPlain cX9_readPlain 4 (some .boolean) :: TT) (rmD (d0 + 6)) (cPc D cy ad fz [.ref (ad 799), .int a0] st sz) (cQi D cy ad fz rr st' sz) 0 0 (cA ad fz sz) := by
  refine c_meti (by decide) hJ (Nat.le_of_ble_eq_true rfl) (fun p e s m args below meth c ls E hx hb hr hlocks hown hT hD hN hl hP hS => ?_)
  replace hl : lv_has ls 4 [(0, .ref (ad 799)), (1, .int a0)] := hl
  unfold fX9_readPlain at hf
  have B77 : ∀ (v3 : Int32) (st : St) (H : Heap) (locs : List Loc) (ls : Array Slot), fX9_readPlain_b77 rT rS fz v3 st = some (rr, st') → lv_has ls 4 [(3, .int v3)] → va_P D classes (cx cy ad fz st) H → va_S (cA ad fz s.heap.size) s.heap H locs → cGi l (d0 + 6) D cy ad fz rr st' p e s m args below meth c H locs (F0 m 77 ls []) := by
    intro v3 st H locs ls hf hl hP hS
    unfold fX9_readPlain_b77 at hf
    refine lv_iload_n hx hb dX9_readPlain_77 rfl (lv_at hl 0 rfl) ?_
    obtain ⟨hn, hf⟩ := gb_some hf
    exact c_zret hx hb hr hlocks hn hf hP hS dX9_readPlain_78
  have B61 : ∀ (v2 : Int32) (w0 : Int32) (st : St) (H : Heap) (locs : List Loc) (ls : Array Slot), fX9_readPlain_b61 rT rS fz v2 w0 st = some (rr, st') → lv_has ls 4 [(0, .ref (ad 799)), (2, .int v2)] → va_P D classes (cx cy ad fz st) H → va_S (cA ad fz s.heap.size) s.heap H locs → cGi l (d0 + 6) D cy ad fz rr st' p e s m args below meth c H locs (F0 m 61 ls [.int w0]) := by
    intro v2 w0 st H locs ls hf hl hP hS
    unfold fX9_readPlain_b61 at hf
    refine lv_istore_n (lv' := [(3, .int w0), (0, .ref (ad 799)), (2, .int v2)]) hx hb dX9_readPlain_61 rfl hl (by decide) rfl (fun ls hl => ?_)
    refine lv_iload_n hx hb dX9_readPlain_62 rfl (lv_at hl 2 rfl) ?_
    refine lv_if_eq (tgt := 77) hx hb dX9_readPlain_63 (by decide) (fun hc => ?_) (fun hc => ?_)
    · replace hf := it_pos hc hf
      exact B77 w0 st _ _ ls hf (lv_sub hl [0] rfl) hP hS
    · replace hf := it_neg hc hf
      refine lv_aload_n hx hb dX9_readPlain_66 rfl (lv_at hl 1 rfl) ?_
      refine cg_9_15_7 E hP dX9_readPlain_67 ?_
      refine lv_bipush (v := 10) hx hb dX9_readPlain_70 (by decide) ?_
      refine lv_iconst (v := 0) hx hb dX9_readPlain_72 (by decide) ?_
      obtain ⟨r1, st2, hc, hf⟩ := bd_some hf
      refine c_calli (n := 2) (rest := []) E hN hP hS (fun sz => tX8_add l D cy ad fz hJ sz (10 : Int32) (0 : Int32) st r1 st2 hc) (va_recv E.2 hP (ci := 8) (q0 := 30) rfl rfl) (gV k_728 k_729 k_730 k_8 k_731) qX8_add ⟨by dsimp only [rmD]; omega, by dsimp only [rmD]; omega⟩ ⟨Nat.le_refl _, Nat.le_refl _⟩ rfl hl.1 rfl (Nat.le_of_ble_eq_true rfl) dX9_readPlain_73 (fun H locs hP hS => ?_)
      refine lv_pop hx hb dX9_readPlain_76 rfl ?_
      exact B77 w0 st2 _ _ ls hf (lv_sub hl [0] rfl) hP hS
  have B37 : ∀ (v1 : Int32) (v2 : Int32) (st : St) (H : Heap) (locs : List Loc) (ls : Array Slot), fX9_readPlain_b37 rT rS fz v1 v2 st = some (rr, st') → lv_has ls 4 [(0, .ref (ad 799)), (1, .int v1), (2, .int v2)] → va_P D classes (cx cy ad fz st) H → va_S (cA ad fz s.heap.size) s.heap H locs → cGi l (d0 + 6) D cy ad fz rr st' p e s m args below meth c H locs (F0 m 37 ls []) := by
    intro v1 v2 st H locs ls hf hl hP hS
    unfold fX9_readPlain_b37 at hf
    refine lv_aload_n hx hb dX9_readPlain_37 rfl (lv_at hl 0 rfl) ?_
    refine cg_9_62_7 E hP dX9_readPlain_38 ?_
    refine lv_bipush (v := 40) hx hb dX9_readPlain_41 (by decide) ?_
    refine lv_icmp_ne (tgt := 56) hx hb dX9_readPlain_43 (by decide) (fun hc => ?_) (fun hc => ?_)
    · replace hf := it_neg hc hf
      refine lv_aload_n hx hb dX9_readPlain_56 rfl (lv_at hl 0 rfl) ?_
      refine lv_iload_n hx hb dX9_readPlain_57 rfl (lv_at hl 1 rfl) ?_
      obtain ⟨r3, st4, hc, hf⟩ := bd_some hf
      refine c_calli (n := 1) (rest := []) E hN hP hS (fun sz => tX9_readComparison l D cy ad fz hJ d0 dT dS h8 h8T h8S rT rS hrT hrS sz v1 st r3 st4 hc) (va_recv E.2 hP (ci := 9) (q0 := 35) rfl rfl) (gV k_724 k_726 ks_18 k_9 k_727) qX9_readComparison ⟨by dsimp only [rmD]; omega, by dsimp only [rmD]; omega⟩ ⟨Nat.le_refl _, Nat.le_refl _⟩ rfl hl.1 rfl (Nat.le_of_ble_eq_true rfl) dX9_readPlain_58 (fun H locs hP hS => ?_)
      exact B61 v2 r3 st4 _ _ ls hf (lv_sub hl [0, 2] rfl) hP hS
    · replace hf := it_pos hc hf
      refine lv_aload_n hx hb dX9_readPlain_46 rfl (lv_at hl 0 rfl) ?_
      refine lv_bipush (v := 40) hx hb dX9_readPlain_47 (by decide) ?_
      refine lv_iload_n hx hb dX9_readPlain_49 rfl (lv_at hl 1 rfl) ?_
      obtain ⟨r5, st6, hc, hf⟩ := bd_some hf
      refine c_calli (n := 2) (rest := []) E hN hP hS (fun sz => tX9_readInBrackets l D cy ad fz hJ d0 dT dS h8 h8T h8S rT rS hrT hrS sz (40 : Int32) v1 st r5 st6 hc) (va_recv E.2 hP (ci := 9) (q0 := 35) rfl rfl) (gV k_704 k_706 ks_13 k_9 k_707) qX9_readInBrackets ⟨by dsimp only [rmD]; omega, by dsimp only [rmD]; omega⟩ ⟨Nat.le_refl _, Nat.le_refl _⟩ rfl hl.1 rfl (Nat.le_of_ble_eq_true rfl) dX9_readPlain_50 (fun H locs hP hS => ?_)
      refine lv_goto (tgt := 61) hx hb dX9_readPlain_53 (by decide) ?_
      exact B61 v2 r5 st6 _ _ ls hf (lv_sub hl [0, 2] rfl) hP hS
  have L4 : ∀ (n : Nat) (v1 : Int32) (v2 : Int32) (v3 : Int32) (st : St) (H : Heap) (locs : List Loc) (ls : Array Slot), lp (fun _ _ _ _ => none) (fX9_readPlain_b4 rT rS fz) n v1 v2 v3 st = some (rr, st') → lv_has ls 4 [(0, .ref (ad 799)), (1, .int v1), (2, .int v2), (3, .int v3)] → va_P D classes (cx cy ad fz st) H → va_S (cA ad fz s.heap.size) s.heap H locs → cGi l (d0 + 6) D cy ad fz rr st' p e s m args below meth c H locs (F0 m 4 ls []) := by
    intro n
    induction n with
    | zero => intro v1 v2 v3 st H locs ls hf; exact absurd hf (fun h => by cases h)
    | succ n K4 =>
      intro v1 v2 v3 st H locs ls hf hl hP hS
      replace hf : fX9_readPlain_b4 rT rS fz (lp (fun _ _ _ _ => none) (fX9_readPlain_b4 rT rS fz) n) v1 v2 v3 st = some (rr, st') := hf
      generalize lp (fun _ _ _ _ => none) (fX9_readPlain_b4 rT rS fz) n = k4 at hf K4
      have B30 : ∀ (v1 : Int32) (v3 : Int32) (w0 : Int32) (st : St) (H : Heap) (locs : List Loc) (ls : Array Slot), fX9_readPlain_b30 rT rS fz k4 v1 v3 w0 st = some (rr, st') → lv_has ls 4 [(0, .ref (ad 799)), (1, .int v1), (3, .int v3)] → va_P D classes (cx cy ad fz st) H → va_S (cA ad fz s.heap.size) s.heap H locs → cGi l (d0 + 6) D cy ad fz rr st' p e s m args below meth c H locs (F0 m 30 ls [.int w0]) := by
        intro v1 v3 w0 st H locs ls hf hl hP hS
        unfold fX9_readPlain_b30 at hf
        refine lv_istore_n (lv' := [(2, .int w0), (0, .ref (ad 799)), (1, .int v1), (3, .int v3)]) hx hb dX9_readPlain_30 rfl hl (by decide) rfl (fun ls hl => ?_)
        obtain ⟨x7, ex⟩ : ∃ y : Int32, y = v3 + (1 : Int32) := ⟨_, rfl⟩
        replace hf := lt_at ex hf
        refine lv_iinc (v := x7) (lv' := [(3, .int x7), (2, .int w0), (0, .ref (ad 799)), (1, .int v1)]) hx hb dX9_readPlain_31 hl (k := 3) rfl (by rw [ex]; rfl) (by decide) rfl (fun ls hl => ?_)
        clear ex
        refine lv_goto (tgt := 4) hx hb dX9_readPlain_34 (by decide) ?_
        exact K4 v1 w0 x7 st _ _ ls hf (lv_sub hl [2, 3, 1, 0] rfl) hP hS
      unfold fX9_readPlain_b4 at hf
      refine lv_iload_n hx hb dX9_readPlain_4 rfl (lv_at hl 3 rfl) ?_
      refine lv_sipush (v := 400) hx hb dX9_readPlain_5 (by decide) ?_
      refine lv_icmp_ge (tgt := 37) hx hb dX9_readPlain_8 (by decide) (fun hc => ?_) (fun hc => ?_)
      · replace hf := it_pos hc hf
        exact B37 v1 v2 st _ _ ls hf (lv_sub hl [0, 1, 2] rfl) hP hS
      · replace hf := it_neg hc hf
        refine lv_aload_n hx hb dX9_readPlain_11 rfl (lv_at hl 0 rfl) ?_
        refine lv_sipush (v := 315) hx hb dX9_readPlain_12 (by decide) ?_
        obtain ⟨r8, st9, hc, hf⟩ := bd_some hf
        refine c_calli (n := 1) (rest := []) E hN hP hS (fun sz => tX9_passes l D cy ad fz hJ sz (315 : Int32) st r8 st9 hc) (va_recv E.2 hP (ci := 9) (q0 := 35) rfl rfl) (gV k_720 k_722 ks_17 k_9 k_723) qX9_passes ⟨by dsimp only [rmD]; omega, by dsimp only [rmD]; omega⟩ ⟨Nat.le_refl _, Nat.le_refl _⟩ rfl hl.1 rfl (Nat.le_of_ble_eq_true rfl) dX9_readPlain_15 (fun H locs hP hS => ?_)
        refine lv_if_eq (tgt := 37) hx hb dX9_readPlain_18 (by decide) (fun hc => ?_) (fun hc => ?_)
        · replace hf := it_pos hc hf
          exact B37 v1 v2 st9 _ _ ls hf (lv_sub hl [0, 1, 2] rfl) hP hS
        · replace hf := it_neg hc hf
          refine lv_iload_n hx hb dX9_readPlain_21 rfl (lv_at hl 2 rfl) ?_
          refine lv_if_ne (tgt := 29) hx hb dX9_readPlain_22 (by decide) (fun hc => ?_) (fun hc => ?_)
          · replace hf := it_neg hc hf
            refine lv_iconst (v := 0) hx hb dX9_readPlain_29 (by decide) ?_
            exact B30 v1 v3 (0 : Int32) st9 _ _ ls hf (lv_sub hl [0, 1, 3] rfl) hP hS
          · replace hf := it_pos hc hf
            refine lv_iconst (v := 1) hx hb dX9_readPlain_25 (by decide) ?_
            refine lv_goto (tgt := 30) hx hb dX9_readPlain_26 (by decide) ?_
            exact B30 v1 v3 (1 : Int32) st9 _ _ ls hf (lv_sub hl [0, 1, 3] rfl) hP hS
  refine lv_iconst (v := 0) hx hb dX9_readPlain_0 (by decide) ?_
  refine lv_istore_n (lv' := [(2, .int (0 : Int32)), (0, .ref (ad 799)), (1, .int a0)]) hx hb dX9_readPlain_1 rfl hl (by decide) rfl (fun ls hl => ?_)
  refine lv_iconst (v := 0) hx hb dX9_readPlain_2 (by decide) ?_
  refine lv_istore_n (lv' := [(3, .int (0 : Int32)), (2, .int (0 : Int32)), (0, .ref (ad 799)), (1, .int a0)]) hx hb dX9_readPlain_3 rfl hl (by decide) rfl (fun ls hl => ?_)
  exact L4 6000 a0 (0 : Int32) (0 : Int32) st _ _ ls hf (lv_sub hl [2, 3, 1, 0] rfl) hP hS
def fX8_aim_b34 (fz : List FP) (st : St) : Option (Unit × St) := some ((), st)
def fX8_aim (a0 : Int32) (fz : List FP) (st : St) : Option (Unit × St) := if a0 < 0 then (fX8_aim_b34 fz st) else (if (st.1 604) ≤ a0 then (fX8_aim_b34 fz st) else (gi a0 400 (gi a0 400 (lt (sA st 603 (upd (st.2.2.1 603) a0.toNatClampNeg (((st.1 604) <<< ((4 : Int32) &&& 31)) ||| ((st.2.2.1 603 a0.toNatClampNeg) &&& (15 : Int32))))) (fun st1 => fX8_aim_b34 fz st1)))))
set_option maxHeartbeats 4000000 in
set_option maxRecDepth 100000 in
theorem tX8_aim (l : Launch) (D : va_G) (cy : Nat → ClassId) (ad : Nat → Nat) (fz : List FP) (hJ : (cads ad fz).Nodup) (sz : Nat) (a0 : Int32) (st : St) (rr : Unit) (st' : St) (hf : fX8_aim a0 fz st = some (rr, st')) : Met l yX8_aim (Cond.code yX8_aim cX8_aim 2 none :: TT) (rmD 0) (cPc D cy ad fz [.ref (ad 699), .int a0] st sz) (cQv D cy ad fz rr st' sz) 0 0 (cA ad fz sz) := by
  refine c_metv (by decide) hJ (Nat.le_of_ble_eq_true rfl) (fun p e s m args below meth c ls E hx hb hr hlocks hown hT hD hN hl hP hS => ?_)
  replace hl : lv_has ls 2 [(0, .ref (ad 699)), (1, .int a0)] := hl
  unfold fX8_aim at hf
  have B34 : ∀ (st : St) (H : Heap) (locs : List Loc) (ls : Array Slot), fX8_aim_b34 fz st = some (rr, st') → lv_has ls 2 [] → va_P D classes (cx cy ad fz st) H → va_S (cA ad fz s.heap.size) s.heap H locs → cGv l 0 D cy ad fz rr st' p e s m args below meth c H locs (F0 m 34 ls []) := by
    intro st H locs ls hf hl hP hS
    unfold fX8_aim_b34 at hf
    exact c_vret hx hb hr hlocks hf hP hS dX8_aim_34
  refine lv_iload_n hx hb dX8_aim_0 rfl (lv_at hl 1 rfl) ?_
  refine lv_if_lt (tgt := 34) hx hb dX8_aim_1 (by decide) (fun hc => ?_) (fun hc => ?_)
  · replace hf := it_pos hc hf
    exact B34 st _ _ ls hf (lv_sub hl [] rfl) hP hS
  · replace hf := it_neg hc hf
    refine lv_iload_n hx hb dX8_aim_4 rfl (lv_at hl 1 rfl) ?_
    refine lv_aload_n hx hb dX8_aim_5 rfl (lv_at hl 0 rfl) ?_
    refine cg_8_34_6 E hP dX8_aim_6 ?_
    refine lv_icmp_ge (tgt := 34) hx hb dX8_aim_9 (by decide) (fun hc => ?_) (fun hc => ?_)
    · replace hf := it_pos hc hf
      exact B34 st _ _ ls hf (lv_sub hl [] rfl) hP hS
    · replace hf := it_neg hc hf
      refine lv_aload_n hx hb dX8_aim_12 rfl (lv_at hl 0 rfl) ?_
      refine cg_8_21_6 E hP dX8_aim_13 ?_
      refine lv_iload_n hx hb dX8_aim_16 rfl (lv_at hl 1 rfl) ?_
      refine lv_aload_n hx hb dX8_aim_17 rfl (lv_at hl 0 rfl) ?_
      refine cg_8_34_6 E hP dX8_aim_18 ?_
      refine lv_iconst (v := 4) hx hb dX8_aim_21 (by decide) ?_
      refine lv_ishl hx hb dX8_aim_22 ?_
      refine lv_aload_n hx hb dX8_aim_23 rfl (lv_at hl 0 rfl) ?_
      refine cg_8_21_6 E hP dX8_aim_24 ?_
      refine lv_iload_n hx hb dX8_aim_27 rfl (lv_at hl 1 rfl) ?_
      obtain ⟨hi, hf⟩ := gi_some hf
      refine cl_603 E hP hi dX8_aim_28 ?_
      refine lv_bipush (v := 15) hx hb dX8_aim_29 (by decide) ?_
      refine lv_iand hx hb dX8_aim_31 ?_
      refine lv_ior hx hb dX8_aim_32 ?_
      obtain ⟨hi, hf⟩ := gi_some hf
      refine cs_603 E hD hP hS hi dX8_aim_33 (fun st1 H locs ex hP hS => ?_)
      replace hf := lt_at ex hf; clear ex
      exact B34 st1 _ _ ls hf (lv_sub hl [] rfl) hP hS
def fX9_readBoth_b62 (rT rS : Int32 → St → Option (Int32 × St)) (fz : List FP) (v2 : Int32) (st : St) : Option (Int32 × St) := gb v2 (some (v2, st))
def fX9_readBoth_b8 (rT rS : Int32 → St → Option (Int32 × St)) (fz : List FP) (k8 : Int32 → Int32 → Int32 → St → Option (Int32 × St)) (v1 : Int32) (v2 : Int32) (v3 : Int32) (st : St) : Option (Int32 × St) := if v2 = 0 then (fX9_readBoth_b62 rT rS fz v2 st) else (if (400 : Int32) ≤ v3 then (fX9_readBoth_b62 rT rS fz v2 st) else (bd (fX9_passes (314 : Int32) fz st) (fun r1 st2 => if r1 = 0 then (fX9_readBoth_b62 rT rS fz v2 st2) else (bd (fX8_add (12 : Int32) (0 : Int32) fz st2) (fun r3 st4 => bd (fX9_readPlain rT rS v1 fz st4) (fun r5 st6 => bd (fX8_aim r3 fz st6) (fun r7 st8 => lt (v3 + (1 : Int32)) (fun x9 => k8 v1 r5 x9 st8))))))))
def fX9_readBoth (rT rS : Int32 → St → Option (Int32 × St)) (a0 : Int32) (fz : List FP) (st : St) : Option (Int32 × St) := bd (fX9_readPlain rT rS a0 fz st) (fun r10 st11 => lp (fun _ _ _ _ => none) (fX9_readBoth_b8 rT rS fz) 6000 a0 r10 (0 : Int32) st11)
set_option maxHeartbeats 4000000 in
set_option maxRecDepth 100000 in
theorem tX9_readBoth (l : Launch) (D : va_G) (cy : Nat → ClassId) (ad : Nat → Nat) (fz : List FP) (hJ : (cads ad fz).Nodup) (d0 dT dS : Nat) (h8 : 8 ≤ d0) (h8T : dT ≤ d0) (h8S : dS ≤ d0) (rT rS : Int32 → St → Option (Int32 × St)) (hrT : ∀ (sz : Nat) (a0 : Int32) (st : St) (rr : Int32) (st' : St), rT a0 st = some (rr, st') → Met l yX9_readTest (Cond.code yX9_readTest cX9_readTest 5 (some .boolean) :: TT) (rmD dT) (cPc D cy ad fz [.ref (ad 799), .int a0] st sz) (cQi D cy ad fz rr st' sz) 0 0 (cA ad fz sz)) (hrS : ∀ (sz : Nat) (a0 : Int32) (st : St) (rr : Int32) (st' : St), rS a0 st = some (rr, st') → Met l yX9_readSum (Cond.code yX9_readSum cX9_readSum 5 (some .boolean) :: TT) (rmD dS) (cPc D cy ad fz [.ref (ad 799), .int a0] st sz) (cQi D cy ad fz rr st' sz) 0 0 (cA ad fz sz)) (sz : Nat) (a0 : Int32) (st : St) (rr : Int32) (st' : St) (hf : fX9_readBoth rT rS a0 fz st = some (rr, st')) : Met l yX9_readBoth (Cond.code yX9_readBoth cX9_readBoth 5 (some .boolean) :: TT) (rmD (d0 + 7)) (cPc D cy ad fz [.ref (ad 799), .int a0] st sz) (cQi D cy ad fz rr st' sz) 0 0 (cA ad fz sz) := by
  refine c_meti (by decide) hJ (Nat.le_of_ble_eq_true rfl) (fun p e s m args below meth c ls E hx hb hr hlocks hown hT hD hN hl hP hS => ?_)
  replace hl : lv_has ls 5 [(0, .ref (ad 799)), (1, .int a0)] := hl
  unfold fX9_readBoth at hf
  have B62 : ∀ (v2 : Int32) (st : St) (H : Heap) (locs : List Loc) (ls : Array Slot), fX9_readBoth_b62 rT rS fz v2 st = some (rr, st') → lv_has ls 5 [(2, .int v2)] → va_P D classes (cx cy ad fz st) H → va_S (cA ad fz s.heap.size) s.heap H locs → cGi l (d0 + 7) D cy ad fz rr st' p e s m args below meth c H locs (F0 m 62 ls []) := by
    intro v2 st H locs ls hf hl hP hS
    unfold fX9_readBoth_b62 at hf
    refine lv_iload_n hx hb dX9_readBoth_62 rfl (lv_at hl 0 rfl) ?_
    obtain ⟨hn, hf⟩ := gb_some hf
    exact c_zret hx hb hr hlocks hn hf hP hS dX9_readBoth_63
  have L8 : ∀ (n : Nat) (v1 : Int32) (v2 : Int32) (v3 : Int32) (st : St) (H : Heap) (locs : List Loc) (ls : Array Slot), lp (fun _ _ _ _ => none) (fX9_readBoth_b8 rT rS fz) n v1 v2 v3 st = some (rr, st') → lv_has ls 5 [(0, .ref (ad 799)), (1, .int v1), (2, .int v2), (3, .int v3)] → va_P D classes (cx cy ad fz st) H → va_S (cA ad fz s.heap.size) s.heap H locs → cGi l (d0 + 7) D cy ad fz rr st' p e s m args below meth c H locs (F0 m 8 ls []) := by
    intro n
    induction n with
    | zero => intro v1 v2 v3 st H locs ls hf; exact absurd hf (fun h => by cases h)
    | succ n K8 =>
      intro v1 v2 v3 st H locs ls hf hl hP hS
      replace hf : fX9_readBoth_b8 rT rS fz (lp (fun _ _ _ _ => none) (fX9_readBoth_b8 rT rS fz) n) v1 v2 v3 st = some (rr, st') := hf
      generalize lp (fun _ _ _ _ => none) (fX9_readBoth_b8 rT rS fz) n = k8 at hf K8
      unfold fX9_readBoth_b8 at hf
      refine lv_iload_n hx hb dX9_readBoth_8 rfl (lv_at hl 2 rfl) ?_
      refine lv_if_eq (tgt := 62) hx hb dX9_readBoth_9 (by decide) (fun hc => ?_) (fun hc => ?_)
      · replace hf := it_pos hc hf
        exact B62 v2 st _ _ ls hf (lv_sub hl [2] rfl) hP hS
      · replace hf := it_neg hc hf
        refine lv_iload_n hx hb dX9_readBoth_12 rfl (lv_at hl 3 rfl) ?_
        refine lv_sipush (v := 400) hx hb dX9_readBoth_13 (by decide) ?_
        refine lv_icmp_ge (tgt := 62) hx hb dX9_readBoth_16 (by decide) (fun hc => ?_) (fun hc => ?_)
        · replace hf := it_pos hc hf
          exact B62 v2 st _ _ ls hf (lv_sub hl [2] rfl) hP hS
        · replace hf := it_neg hc hf
          refine lv_aload_n hx hb dX9_readBoth_19 rfl (lv_at hl 0 rfl) ?_
          refine lv_sipush (v := 314) hx hb dX9_readBoth_20 (by decide) ?_
          obtain ⟨r1, st2, hc, hf⟩ := bd_some hf
          refine c_calli (n := 1) (rest := []) E hN hP hS (fun sz => tX9_passes l D cy ad fz hJ sz (314 : Int32) st r1 st2 hc) (va_recv E.2 hP (ci := 9) (q0 := 35) rfl rfl) (gV k_720 k_722 ks_17 k_9 k_723) qX9_passes ⟨by dsimp only [rmD]; omega, by dsimp only [rmD]; omega⟩ ⟨Nat.le_refl _, Nat.le_refl _⟩ rfl hl.1 rfl (Nat.le_of_ble_eq_true rfl) dX9_readBoth_23 (fun H locs hP hS => ?_)
          refine lv_if_eq (tgt := 62) hx hb dX9_readBoth_26 (by decide) (fun hc => ?_) (fun hc => ?_)
          · replace hf := it_pos hc hf
            exact B62 v2 st2 _ _ ls hf (lv_sub hl [2] rfl) hP hS
          · replace hf := it_neg hc hf
            refine lv_aload_n hx hb dX9_readBoth_29 rfl (lv_at hl 0 rfl) ?_
            refine cg_9_15_7 E hP dX9_readBoth_30 ?_
            refine lv_bipush (v := 12) hx hb dX9_readBoth_33 (by decide) ?_
            refine lv_iconst (v := 0) hx hb dX9_readBoth_35 (by decide) ?_
            obtain ⟨r3, st4, hc, hf⟩ := bd_some hf
            refine c_calli (n := 2) (rest := []) E hN hP hS (fun sz => tX8_add l D cy ad fz hJ sz (12 : Int32) (0 : Int32) st2 r3 st4 hc) (va_recv E.2 hP (ci := 8) (q0 := 30) rfl rfl) (gV k_728 k_729 k_730 k_8 k_731) qX8_add ⟨by dsimp only [rmD]; omega, by dsimp only [rmD]; omega⟩ ⟨Nat.le_refl _, Nat.le_refl _⟩ rfl hl.1 rfl (Nat.le_of_ble_eq_true rfl) dX9_readBoth_36 (fun H locs hP hS => ?_)
            refine lv_istore (lv' := [(4, .int r3), (0, .ref (ad 799)), (1, .int v1), (2, .int v2), (3, .int v3)]) hx hb dX9_readBoth_39 hl (by decide) rfl (fun ls hl => ?_)
            refine lv_aload_n hx hb dX9_readBoth_41 rfl (lv_at hl 1 rfl) ?_
            refine lv_iload_n hx hb dX9_readBoth_42 rfl (lv_at hl 2 rfl) ?_
            obtain ⟨r5, st6, hc, hf⟩ := bd_some hf
            refine c_calli (n := 1) (rest := []) E hN hP hS (fun sz => tX9_readPlain l D cy ad fz hJ d0 dT dS h8 h8T h8S rT rS hrT hrS sz v1 st4 r5 st6 hc) (va_recv E.2 hP (ci := 9) (q0 := 35) rfl rfl) (gV k_716 k_718 ks_16 k_9 k_719) qX9_readPlain ⟨by dsimp only [rmD]; omega, by dsimp only [rmD]; omega⟩ ⟨Nat.le_refl _, Nat.le_refl _⟩ rfl hl.1 rfl (Nat.le_of_ble_eq_true rfl) dX9_readBoth_43 (fun H locs hP hS => ?_)
            refine lv_istore_n (lv' := [(2, .int r5), (4, .int r3), (0, .ref (ad 799)), (1, .int v1), (3, .int v3)]) hx hb dX9_readBoth_46 rfl hl (by decide) rfl (fun ls hl => ?_)
            refine lv_aload_n hx hb dX9_readBoth_47 rfl (lv_at hl 2 rfl) ?_
            refine cg_9_15_7 E hP dX9_readBoth_48 ?_
            refine lv_iload hx hb dX9_readBoth_51 (lv_at hl 1 rfl) ?_
            obtain ⟨r7, st8, hc, hf⟩ := bd_some hf
            refine c_callv (n := 1) (rest := []) E hN hP hS (fun sz => tX8_aim l D cy ad fz hJ sz r3 st6 r7 st8 hc) (va_recv E.2 hP (ci := 8) (q0 := 30) rfl rfl) (gV k_732 k_733 k_734 k_8 k_735) qX8_aim ⟨by dsimp only [rmD]; omega, by dsimp only [rmD]; omega⟩ ⟨Nat.le_refl _, Nat.le_refl _⟩ rfl hl.1 rfl (Nat.le_of_ble_eq_true rfl) dX9_readBoth_53 (fun H locs hP hS => ?_)
            obtain ⟨x9, ex⟩ : ∃ y : Int32, y = v3 + (1 : Int32) := ⟨_, rfl⟩
            replace hf := lt_at ex hf
            refine lv_iinc (v := x9) (lv' := [(3, .int x9), (2, .int r5), (4, .int r3), (0, .ref (ad 799)), (1, .int v1)]) hx hb dX9_readBoth_56 hl (k := 4) rfl (by rw [ex]; rfl) (by decide) rfl (fun ls hl => ?_)
            clear ex
            refine lv_goto (tgt := 8) hx hb dX9_readBoth_59 (by decide) ?_
            exact K8 v1 r5 x9 st8 _ _ ls hf (lv_sub hl [3, 4, 1, 0] rfl) hP hS
  refine lv_aload_n hx hb dX9_readBoth_0 rfl (lv_at hl 0 rfl) ?_
  refine lv_iload_n hx hb dX9_readBoth_1 rfl (lv_at hl 1 rfl) ?_
  obtain ⟨r10, st11, hc, hf⟩ := bd_some hf
  refine c_calli (n := 1) (rest := []) E hN hP hS (fun sz => tX9_readPlain l D cy ad fz hJ d0 dT dS h8 h8T h8S rT rS hrT hrS sz a0 st r10 st11 hc) (va_recv E.2 hP (ci := 9) (q0 := 35) rfl rfl) (gV k_716 k_718 ks_16 k_9 k_719) qX9_readPlain ⟨by dsimp only [rmD]; omega, by dsimp only [rmD]; omega⟩ ⟨Nat.le_refl _, Nat.le_refl _⟩ rfl hl.1 rfl (Nat.le_of_ble_eq_true rfl) dX9_readBoth_2 (fun H locs hP hS => ?_)
  refine lv_istore_n (lv' := [(2, .int r10), (0, .ref (ad 799)), (1, .int a0)]) hx hb dX9_readBoth_5 rfl hl (by decide) rfl (fun ls hl => ?_)
  refine lv_iconst (v := 0) hx hb dX9_readBoth_6 (by decide) ?_
  refine lv_istore_n (lv' := [(3, .int (0 : Int32)), (2, .int r10), (0, .ref (ad 799)), (1, .int a0)]) hx hb dX9_readBoth_7 rfl hl (by decide) rfl (fun ls hl => ?_)
  exact L8 6000 a0 r10 (0 : Int32) st11 _ _ ls hf (lv_sub hl [2, 3, 1, 0] rfl) hP hS
def fX9_readTest_b62 (rT rS : Int32 → St → Option (Int32 × St)) (fz : List FP) (v2 : Int32) (st : St) : Option (Int32 × St) := gb v2 (some (v2, st))
def fX9_readTest_b8 (rT rS : Int32 → St → Option (Int32 × St)) (fz : List FP) (k8 : Int32 → Int32 → Int32 → St → Option (Int32 × St)) (v1 : Int32) (v2 : Int32) (v3 : Int32) (st : St) : Option (Int32 × St) := if v2 = 0 then (fX9_readTest_b62 rT rS fz v2 st) else (if (400 : Int32) ≤ v3 then (fX9_readTest_b62 rT rS fz v2 st) else (bd (fX9_passes (313 : Int32) fz st) (fun r1 st2 => if r1 = 0 then (fX9_readTest_b62 rT rS fz v2 st2) else (bd (fX8_add (11 : Int32) (0 : Int32) fz st2) (fun r3 st4 => bd (fX9_readBoth rT rS v1 fz st4) (fun r5 st6 => bd (fX8_aim r3 fz st6) (fun r7 st8 => lt (v3 + (1 : Int32)) (fun x9 => k8 v1 r5 x9 st8))))))))
def fX9_readTest (rT rS : Int32 → St → Option (Int32 × St)) (a0 : Int32) (fz : List FP) (st : St) : Option (Int32 × St) := bd (fX9_readBoth rT rS a0 fz st) (fun r10 st11 => lp (fun _ _ _ _ => none) (fX9_readTest_b8 rT rS fz) 6000 a0 r10 (0 : Int32) st11)
set_option maxHeartbeats 4000000 in
set_option maxRecDepth 100000 in
theorem tX9_readTest (l : Launch) (D : va_G) (cy : Nat → ClassId) (ad : Nat → Nat) (fz : List FP) (hJ : (cads ad fz).Nodup) (d0 dT dS : Nat) (h8 : 8 ≤ d0) (h8T : dT ≤ d0) (h8S : dS ≤ d0) (rT rS : Int32 → St → Option (Int32 × St)) (hrT : ∀ (sz : Nat) (a0 : Int32) (st : St) (rr : Int32) (st' : St), rT a0 st = some (rr, st') → Met l yX9_readTest (Cond.code yX9_readTest cX9_readTest 5 (some .boolean) :: TT) (rmD dT) (cPc D cy ad fz [.ref (ad 799), .int a0] st sz) (cQi D cy ad fz rr st' sz) 0 0 (cA ad fz sz)) (hrS : ∀ (sz : Nat) (a0 : Int32) (st : St) (rr : Int32) (st' : St), rS a0 st = some (rr, st') → Met l yX9_readSum (Cond.code yX9_readSum cX9_readSum 5 (some .boolean) :: TT) (rmD dS) (cPc D cy ad fz [.ref (ad 799), .int a0] st sz) (cQi D cy ad fz rr st' sz) 0 0 (cA ad fz sz)) (sz : Nat) (a0 : Int32) (st : St) (rr : Int32) (st' : St) (hf : fX9_readTest rT rS a0 fz st = some (rr, st')) : Met l yX9_readTest (Cond.code yX9_readTest cX9_readTest 5 (some .boolean) :: TT) (rmD (d0 + 8)) (cPc D cy ad fz [.ref (ad 799), .int a0] st sz) (cQi D cy ad fz rr st' sz) 0 0 (cA ad fz sz) := by
  refine c_meti (by decide) hJ (Nat.le_of_ble_eq_true rfl) (fun p e s m args below meth c ls E hx hb hr hlocks hown hT hD hN hl hP hS => ?_)
  replace hl : lv_has ls 5 [(0, .ref (ad 799)), (1, .int a0)] := hl
  unfold fX9_readTest at hf
  have B62 : ∀ (v2 : Int32) (st : St) (H : Heap) (locs : List Loc) (ls : Array Slot), fX9_readTest_b62 rT rS fz v2 st = some (rr, st') → lv_has ls 5 [(2, .int v2)] → va_P D classes (cx cy ad fz st) H → va_S (cA ad fz s.heap.size) s.heap H locs → cGi l (d0 + 8) D cy ad fz rr st' p e s m args below meth c H locs (F0 m 62 ls []) := by
    intro v2 st H locs ls hf hl hP hS
    unfold fX9_readTest_b62 at hf
    refine lv_iload_n hx hb dX9_readTest_62 rfl (lv_at hl 0 rfl) ?_
    obtain ⟨hn, hf⟩ := gb_some hf
    exact c_zret hx hb hr hlocks hn hf hP hS dX9_readTest_63
  have L8 : ∀ (n : Nat) (v1 : Int32) (v2 : Int32) (v3 : Int32) (st : St) (H : Heap) (locs : List Loc) (ls : Array Slot), lp (fun _ _ _ _ => none) (fX9_readTest_b8 rT rS fz) n v1 v2 v3 st = some (rr, st') → lv_has ls 5 [(0, .ref (ad 799)), (1, .int v1), (2, .int v2), (3, .int v3)] → va_P D classes (cx cy ad fz st) H → va_S (cA ad fz s.heap.size) s.heap H locs → cGi l (d0 + 8) D cy ad fz rr st' p e s m args below meth c H locs (F0 m 8 ls []) := by
    intro n
    induction n with
    | zero => intro v1 v2 v3 st H locs ls hf; exact absurd hf (fun h => by cases h)
    | succ n K8 =>
      intro v1 v2 v3 st H locs ls hf hl hP hS
      replace hf : fX9_readTest_b8 rT rS fz (lp (fun _ _ _ _ => none) (fX9_readTest_b8 rT rS fz) n) v1 v2 v3 st = some (rr, st') := hf
      generalize lp (fun _ _ _ _ => none) (fX9_readTest_b8 rT rS fz) n = k8 at hf K8
      unfold fX9_readTest_b8 at hf
      refine lv_iload_n hx hb dX9_readTest_8 rfl (lv_at hl 2 rfl) ?_
      refine lv_if_eq (tgt := 62) hx hb dX9_readTest_9 (by decide) (fun hc => ?_) (fun hc => ?_)
      · replace hf := it_pos hc hf
        exact B62 v2 st _ _ ls hf (lv_sub hl [2] rfl) hP hS
      · replace hf := it_neg hc hf
        refine lv_iload_n hx hb dX9_readTest_12 rfl (lv_at hl 3 rfl) ?_
        refine lv_sipush (v := 400) hx hb dX9_readTest_13 (by decide) ?_
        refine lv_icmp_ge (tgt := 62) hx hb dX9_readTest_16 (by decide) (fun hc => ?_) (fun hc => ?_)
        · replace hf := it_pos hc hf
          exact B62 v2 st _ _ ls hf (lv_sub hl [2] rfl) hP hS
        · replace hf := it_neg hc hf
          refine lv_aload_n hx hb dX9_readTest_19 rfl (lv_at hl 0 rfl) ?_
          refine lv_sipush (v := 313) hx hb dX9_readTest_20 (by decide) ?_
          obtain ⟨r1, st2, hc, hf⟩ := bd_some hf
          refine c_calli (n := 1) (rest := []) E hN hP hS (fun sz => tX9_passes l D cy ad fz hJ sz (313 : Int32) st r1 st2 hc) (va_recv E.2 hP (ci := 9) (q0 := 35) rfl rfl) (gV k_720 k_722 ks_17 k_9 k_723) qX9_passes ⟨by dsimp only [rmD]; omega, by dsimp only [rmD]; omega⟩ ⟨Nat.le_refl _, Nat.le_refl _⟩ rfl hl.1 rfl (Nat.le_of_ble_eq_true rfl) dX9_readTest_23 (fun H locs hP hS => ?_)
          refine lv_if_eq (tgt := 62) hx hb dX9_readTest_26 (by decide) (fun hc => ?_) (fun hc => ?_)
          · replace hf := it_pos hc hf
            exact B62 v2 st2 _ _ ls hf (lv_sub hl [2] rfl) hP hS
          · replace hf := it_neg hc hf
            refine lv_aload_n hx hb dX9_readTest_29 rfl (lv_at hl 0 rfl) ?_
            refine cg_9_15_7 E hP dX9_readTest_30 ?_
            refine lv_bipush (v := 11) hx hb dX9_readTest_33 (by decide) ?_
            refine lv_iconst (v := 0) hx hb dX9_readTest_35 (by decide) ?_
            obtain ⟨r3, st4, hc, hf⟩ := bd_some hf
            refine c_calli (n := 2) (rest := []) E hN hP hS (fun sz => tX8_add l D cy ad fz hJ sz (11 : Int32) (0 : Int32) st2 r3 st4 hc) (va_recv E.2 hP (ci := 8) (q0 := 30) rfl rfl) (gV k_728 k_729 k_730 k_8 k_731) qX8_add ⟨by dsimp only [rmD]; omega, by dsimp only [rmD]; omega⟩ ⟨Nat.le_refl _, Nat.le_refl _⟩ rfl hl.1 rfl (Nat.le_of_ble_eq_true rfl) dX9_readTest_36 (fun H locs hP hS => ?_)
            refine lv_istore (lv' := [(4, .int r3), (0, .ref (ad 799)), (1, .int v1), (2, .int v2), (3, .int v3)]) hx hb dX9_readTest_39 hl (by decide) rfl (fun ls hl => ?_)
            refine lv_aload_n hx hb dX9_readTest_41 rfl (lv_at hl 1 rfl) ?_
            refine lv_iload_n hx hb dX9_readTest_42 rfl (lv_at hl 2 rfl) ?_
            obtain ⟨r5, st6, hc, hf⟩ := bd_some hf
            refine c_calli (n := 1) (rest := []) E hN hP hS (fun sz => tX9_readBoth l D cy ad fz hJ d0 dT dS h8 h8T h8S rT rS hrT hrS sz v1 st4 r5 st6 hc) (va_recv E.2 hP (ci := 9) (q0 := 35) rfl rfl) (gV k_712 k_714 ks_15 k_9 k_715) qX9_readBoth ⟨by dsimp only [rmD]; omega, by dsimp only [rmD]; omega⟩ ⟨Nat.le_refl _, Nat.le_refl _⟩ rfl hl.1 rfl (Nat.le_of_ble_eq_true rfl) dX9_readTest_43 (fun H locs hP hS => ?_)
            refine lv_istore_n (lv' := [(2, .int r5), (4, .int r3), (0, .ref (ad 799)), (1, .int v1), (3, .int v3)]) hx hb dX9_readTest_46 rfl hl (by decide) rfl (fun ls hl => ?_)
            refine lv_aload_n hx hb dX9_readTest_47 rfl (lv_at hl 2 rfl) ?_
            refine cg_9_15_7 E hP dX9_readTest_48 ?_
            refine lv_iload hx hb dX9_readTest_51 (lv_at hl 1 rfl) ?_
            obtain ⟨r7, st8, hc, hf⟩ := bd_some hf
            refine c_callv (n := 1) (rest := []) E hN hP hS (fun sz => tX8_aim l D cy ad fz hJ sz r3 st6 r7 st8 hc) (va_recv E.2 hP (ci := 8) (q0 := 30) rfl rfl) (gV k_732 k_733 k_734 k_8 k_735) qX8_aim ⟨by dsimp only [rmD]; omega, by dsimp only [rmD]; omega⟩ ⟨Nat.le_refl _, Nat.le_refl _⟩ rfl hl.1 rfl (Nat.le_of_ble_eq_true rfl) dX9_readTest_53 (fun H locs hP hS => ?_)
            obtain ⟨x9, ex⟩ : ∃ y : Int32, y = v3 + (1 : Int32) := ⟨_, rfl⟩
            replace hf := lt_at ex hf
            refine lv_iinc (v := x9) (lv' := [(3, .int x9), (2, .int r5), (4, .int r3), (0, .ref (ad 799)), (1, .int v1)]) hx hb dX9_readTest_56 hl (k := 4) rfl (by rw [ex]; rfl) (by decide) rfl (fun ls hl => ?_)
            clear ex
            refine lv_goto (tgt := 8) hx hb dX9_readTest_59 (by decide) ?_
            exact K8 v1 r5 x9 st8 _ _ ls hf (lv_sub hl [3, 4, 1, 0] rfl) hP hS
  refine lv_aload_n hx hb dX9_readTest_0 rfl (lv_at hl 0 rfl) ?_
  refine lv_iload_n hx hb dX9_readTest_1 rfl (lv_at hl 1 rfl) ?_
  obtain ⟨r10, st11, hc, hf⟩ := bd_some hf
  refine c_calli (n := 1) (rest := []) E hN hP hS (fun sz => tX9_readBoth l D cy ad fz hJ d0 dT dS h8 h8T h8S rT rS hrT hrS sz a0 st r10 st11 hc) (va_recv E.2 hP (ci := 9) (q0 := 35) rfl rfl) (gV k_712 k_714 ks_15 k_9 k_715) qX9_readBoth ⟨by dsimp only [rmD]; omega, by dsimp only [rmD]; omega⟩ ⟨Nat.le_refl _, Nat.le_refl _⟩ rfl hl.1 rfl (Nat.le_of_ble_eq_true rfl) dX9_readTest_2 (fun H locs hP hS => ?_)
  refine lv_istore_n (lv' := [(2, .int r10), (0, .ref (ad 799)), (1, .int a0)]) hx hb dX9_readTest_5 rfl hl (by decide) rfl (fun ls hl => ?_)
  refine lv_iconst (v := 0) hx hb dX9_readTest_6 (by decide) ?_
  refine lv_istore_n (lv' := [(3, .int (0 : Int32)), (2, .int r10), (0, .ref (ad 799)), (1, .int a0)]) hx hb dX9_readTest_7 rfl hl (by decide) rfl (fun ls hl => ?_)
  exact L8 6000 a0 r10 (0 : Int32) st11 _ _ ls hf (lv_sub hl [2, 3, 1, 0] rfl) hP hS
def rdP (fz : List FP) : Nat → (Int32 → St → Option (Int32 × St)) × (Int32 → St → Option (Int32 × St))
  | 0 => (fun _ _ => none, fun _ _ => none)
  | n + 1 => (fun a st => fX9_readTest (rdP fz n).1 (rdP fz n).2 a fz st, fun a st => fX9_readSum (rdP fz n).1 (rdP fz n).2 a fz st)
def rdT (fz : List FP) (n : Nat) : Int32 → St → Option (Int32 × St) := (rdP fz n).1
def rdS (fz : List FP) (n : Nat) : Int32 → St → Option (Int32 × St) := (rdP fz n).2
def rdDT (n : Nat) : Nat := 8 + 8 * (n - 1) + 8
def rdDS (n : Nat) : Nat := 8 + 8 * (n - 1) + 4
theorem tRd (l : Launch) (D : va_G) (cy : Nat → ClassId) (ad : Nat → Nat) (fz : List FP) (hJ : (cads ad fz).Nodup) : ∀ n, (∀ (sz : Nat) (a0 : Int32) (st : St) (rr : Int32) (st' : St), rdT fz n a0 st = some (rr, st') → Met l yX9_readTest (Cond.code yX9_readTest cX9_readTest 5 (some .boolean) :: TT) (rmD (rdDT n)) (cPc D cy ad fz [.ref (ad 799), .int a0] st sz) (cQi D cy ad fz rr st' sz) 0 0 (cA ad fz sz)) ∧ (∀ (sz : Nat) (a0 : Int32) (st : St) (rr : Int32) (st' : St), rdS fz n a0 st = some (rr, st') → Met l yX9_readSum (Cond.code yX9_readSum cX9_readSum 5 (some .boolean) :: TT) (rmD (rdDS n)) (cPc D cy ad fz [.ref (ad 799), .int a0] st sz) (cQi D cy ad fz rr st' sz) 0 0 (cA ad fz sz)) := by
  intro n
  induction n with
  | zero => exact ⟨fun sz a0 st rr st' h => (by cases h), fun sz a0 st rr st' h => (by cases h)⟩
  | succ n ih =>
    cases n with
    | zero => exact ⟨fun sz a0 st rr st' h => tX9_readTest l D cy ad fz hJ 8 0 0 (Nat.le_refl _) (Nat.zero_le _) (Nat.zero_le _) _ _ (fun _ _ _ _ _ h => (by cases h)) (fun _ _ _ _ _ h => (by cases h)) sz a0 st rr st' h, fun sz a0 st rr st' h => tX9_readSum l D cy ad fz hJ 8 0 0 (Nat.le_refl _) (Nat.zero_le _) (Nat.zero_le _) _ _ (fun _ _ _ _ _ h => (by cases h)) (fun _ _ _ _ _ h => (by cases h)) sz a0 st rr st' h⟩
    | succ n =>
      have e : 8 + 8 * (n + 1 + 1 - 1) = 8 + 8 * n + 8 := by omega
      unfold rdDT rdDS at ih ⊢
      rw [e]
      exact ⟨fun sz a0 st rr st' h => tX9_readTest l D cy ad fz hJ (8 + 8 * n + 8) _ _ (by omega) (by omega) (by omega) _ _ ih.1 ih.2 sz a0 st rr st' h, fun sz a0 st rr st' h => tX9_readSum l D cy ad fz hJ (8 + 8 * n + 8) _ _ (by omega) (by omega) (by omega) _ _ ih.1 ih.2 sz a0 st rr st' h⟩
def fX8_repeat_b19 (fz : List FP) (st : St) : Option (Unit × St) := some ((), st)
def fX8_repeat (a0 : Int32) (fz : List FP) (st : St) : Option (Unit × St) := if (st.1 605) ≤ 0 then (fX8_repeat_b19 fz st) else (gi ((st.1 605) - (1 : Int32)) 12 (lt (sA st 601 (upd (st.2.2.1 601) ((st.1 605) - (1 : Int32)).toNatClampNeg a0)) (fun st1 => fX8_repeat_b19 fz st1)))
set_option maxHeartbeats 4000000 in
set_option maxRecDepth 100000 in
theorem tX8_repeat (l : Launch) (D : va_G) (cy : Nat → ClassId) (ad : Nat → Nat) (fz : List FP) (hJ : (cads ad fz).Nodup) (sz : Nat) (a0 : Int32) (st : St) (rr : Unit) (st' : St) (hf : fX8_repeat a0 fz st = some (rr, st')) : Met l yX8_repeat (Cond.code yX8_repeat cX8_repeat 2 none :: TT) (rmD 0) (cPc D cy ad fz [.ref (ad 699), .int a0] st sz) (cQv D cy ad fz rr st' sz) 0 0 (cA ad fz sz) := by
  refine c_metv (by decide) hJ (Nat.le_of_ble_eq_true rfl) (fun p e s m args below meth c ls E hx hb hr hlocks hown hT hD hN hl hP hS => ?_)
  replace hl : lv_has ls 2 [(0, .ref (ad 699)), (1, .int a0)] := hl
  unfold fX8_repeat at hf
  have B19 : ∀ (st : St) (H : Heap) (locs : List Loc) (ls : Array Slot), fX8_repeat_b19 fz st = some (rr, st') → lv_has ls 2 [] → va_P D classes (cx cy ad fz st) H → va_S (cA ad fz s.heap.size) s.heap H locs → cGv l 0 D cy ad fz rr st' p e s m args below meth c H locs (F0 m 19 ls []) := by
    intro st H locs ls hf hl hP hS
    unfold fX8_repeat_b19 at hf
    exact c_vret hx hb hr hlocks hf hP hS dX8_repeat_19
  refine lv_aload_n hx hb dX8_repeat_0 rfl (lv_at hl 0 rfl) ?_
  refine cg_8_24_6 E hP dX8_repeat_1 ?_
  refine lv_if_le (tgt := 19) hx hb dX8_repeat_4 (by decide) (fun hc => ?_) (fun hc => ?_)
  · replace hf := it_pos hc hf
    exact B19 st _ _ ls hf (lv_sub hl [] rfl) hP hS
  · replace hf := it_neg hc hf
    refine lv_aload_n hx hb dX8_repeat_7 rfl (lv_at hl 0 rfl) ?_
    refine cg_8_13_6 E hP dX8_repeat_8 ?_
    refine lv_aload_n hx hb dX8_repeat_11 rfl (lv_at hl 0 rfl) ?_
    refine cg_8_24_6 E hP dX8_repeat_12 ?_
    refine lv_iconst (v := 1) hx hb dX8_repeat_15 (by decide) ?_
    refine lv_isub hx hb dX8_repeat_16 ?_
    refine lv_iload_n hx hb dX8_repeat_17 rfl (lv_at hl 1 rfl) ?_
    obtain ⟨hi, hf⟩ := gi_some hf
    refine cs_601 E hD hP hS hi dX8_repeat_18 (fun st1 H locs ex hP hS => ?_)
    replace hf := lt_at ex hf; clear ex
    exact B19 st1 _ _ ls hf (lv_sub hl [] rfl) hP hS
def fX9_readOrderHead_b84 (fz : List FP) (st : St) : Option (Int32 × St) := some ((0 : Int32), st)
def fX9_readOrderHead_b49 (fz : List FP) (v1 : Int32) (w0 : Int32) (st : St) : Option (Int32 × St) := bd (fX8_open v1 fz st) (fun r1 st2 => bd (fX9_lookAt ((st2.1 704) + (1 : Int32)) fz st2) (fun r3 st4 => bd (rdS fz 10 (0 : Int32) st4) (fun r5 st6 => if r5 = 0 then (fX9_readOrderHead_b84 fz st6) else (bd (fX9_passes w0 fz st6) (fun r7 st8 => if r7 = 0 then (fX9_readOrderHead_b84 fz st8) else (bd (fX8_begin (1 : Int32) fz st8) (fun r9 st10 => bd (rdS fz 10 (0 : Int32) st10) (fun r11 st12 => if r11 = 0 then (some ((0 : Int32), st12)) else (bd (fX9_passes (311 : Int32) fz st12) (fun r13 st14 => if r13 = 0 then (some ((1 : Int32), st14)) else (bd (fX9_isNumber (1 : Int32) (20 : Int32) fz st14) (fun r15 st16 => if r15 = 0 then (some ((0 : Int32), st16)) else (bd (fX8_repeat (st16.1 706) fz st16) (fun r17 st18 => bd (fX9_lookAt ((st18.1 704) + (1 : Int32)) fz st18) (fun r19 st20 => some ((1 : Int32), st20))))))))))))))))
def fX9_readOrderHead (fz : List FP) (st : St) : Option (Int32 × St) := lt (st.1 705) (fun x21 => bs (fX11_within x21 (304 : Int32) (307 : Int32)) (fun r22 => if r22 = 0 then (some ((0 : Int32), st)) else (if x21 = (307 : Int32) then (fX9_readOrderHead_b49 fz x21 (309 : Int32) st) else (if x21 = (306 : Int32) then (fX9_readOrderHead_b49 fz x21 (310 : Int32) st) else (fX9_readOrderHead_b49 fz x21 (308 : Int32) st)))))
set_option maxHeartbeats 4000000 in
set_option maxRecDepth 100000 in
theorem tX9_readOrderHead (l : Launch) (D : va_G) (cy : Nat → ClassId) (ad : Nat → Nat) (fz : List FP) (hJ : (cads ad fz).Nodup) (sz : Nat) (st : St) (rr : Int32) (st' : St) (hf : fX9_readOrderHead fz st = some (rr, st')) : Met l yX9_readOrderHead (Cond.code yX9_readOrderHead cX9_readOrderHead 3 (some .boolean) :: TT) (rmD 85) (cPc D cy ad fz [.ref (ad 799)] st sz) (cQi D cy ad fz rr st' sz) 0 0 (cA ad fz sz) := by
  refine c_meti (by decide) hJ (Nat.le_of_ble_eq_true rfl) (fun p e s m args below meth c ls E hx hb hr hlocks hown hT hD hN hl hP hS => ?_)
  replace hl : lv_has ls 3 [(0, .ref (ad 799))] := hl
  unfold fX9_readOrderHead at hf
  have B84 : ∀ (st : St) (H : Heap) (locs : List Loc) (ls : Array Slot), fX9_readOrderHead_b84 fz st = some (rr, st') → lv_has ls 3 [] → va_P D classes (cx cy ad fz st) H → va_S (cA ad fz s.heap.size) s.heap H locs → cGi l 85 D cy ad fz rr st' p e s m args below meth c H locs (F0 m 84 ls []) := by
    intro st H locs ls hf hl hP hS
    unfold fX9_readOrderHead_b84 at hf
    refine lv_iconst (v := 0) hx hb dX9_readOrderHead_84 (by decide) ?_
    exact c_zret hx hb hr hlocks (by decide) hf hP hS dX9_readOrderHead_85
  have B49 : ∀ (v1 : Int32) (w0 : Int32) (st : St) (H : Heap) (locs : List Loc) (ls : Array Slot), fX9_readOrderHead_b49 fz v1 w0 st = some (rr, st') → lv_has ls 3 [(0, .ref (ad 799)), (1, .int v1)] → va_P D classes (cx cy ad fz st) H → va_S (cA ad fz s.heap.size) s.heap H locs → cGi l 85 D cy ad fz rr st' p e s m args below meth c H locs (F0 m 49 ls [.int w0]) := by
    intro v1 w0 st H locs ls hf hl hP hS
    unfold fX9_readOrderHead_b49 at hf
    refine lv_istore_n (lv' := [(2, .int w0), (0, .ref (ad 799)), (1, .int v1)]) hx hb dX9_readOrderHead_49 rfl hl (by decide) rfl (fun ls hl => ?_)
    refine lv_aload_n hx hb dX9_readOrderHead_50 rfl (lv_at hl 1 rfl) ?_
    refine cg_9_15_7 E hP dX9_readOrderHead_51 ?_
    refine lv_iload_n hx hb dX9_readOrderHead_54 rfl (lv_at hl 2 rfl) ?_
    obtain ⟨r1, st2, hc, hf⟩ := bd_some hf
    refine c_callv (n := 1) (rest := []) E hN hP hS (fun sz => tX8_open l D cy ad fz hJ sz v1 st r1 st2 hc) (va_recv E.2 hP (ci := 8) (q0 := 30) rfl rfl) (gV k_684 k_685 k_686 k_8 k_687) qX8_open ⟨Nat.le_of_ble_eq_true rfl, Nat.le_of_ble_eq_true rfl⟩ ⟨Nat.le_refl _, Nat.le_refl _⟩ rfl hl.1 rfl (Nat.le_of_ble_eq_true rfl) dX9_readOrderHead_55 (fun H locs hP hS => ?_)
    refine lv_aload_n hx hb dX9_readOrderHead_58 rfl (lv_at hl 1 rfl) ?_
    refine lv_aload_n hx hb dX9_readOrderHead_59 rfl (lv_at hl 1 rfl) ?_
    refine cg_9_55_7 E hP dX9_readOrderHead_60 ?_
    refine lv_iconst (v := 1) hx hb dX9_readOrderHead_63 (by decide) ?_
    refine lv_iadd hx hb dX9_readOrderHead_64 ?_
    obtain ⟨r3, st4, hc, hf⟩ := bd_some hf
    refine c_callv (n := 1) (rest := []) E hN hP hS (fun sz => tX9_lookAt l D cy ad fz hJ sz ((st2.1 704) + (1 : Int32)) st2 r3 st4 hc) (va_recv E.2 hP (ci := 9) (q0 := 35) rfl rfl) (gV k_675 k_677 ks_8 k_9 k_678) qX9_lookAt ⟨Nat.le_of_ble_eq_true rfl, Nat.le_of_ble_eq_true rfl⟩ ⟨Nat.le_refl _, Nat.le_refl _⟩ rfl hl.1 rfl (Nat.le_of_ble_eq_true rfl) dX9_readOrderHead_65 (fun H locs hP hS => ?_)
    refine lv_aload_n hx hb dX9_readOrderHead_68 rfl (lv_at hl 1 rfl) ?_
    refine lv_iconst (v := 0) hx hb dX9_readOrderHead_69 (by decide) ?_
    obtain ⟨r5, st6, hc, hf⟩ := bd_some hf
    refine c_calli (n := 1) (rest := []) E hN hP hS (fun sz => (tRd l D cy ad fz hJ 10).2 sz (0 : Int32) st4 r5 st6 hc) (va_recv E.2 hP (ci := 9) (q0 := 35) rfl rfl) (gV k_692 k_694 ks_10 k_9 k_695) qX9_readSum ⟨Nat.le_of_ble_eq_true rfl, Nat.le_of_ble_eq_true rfl⟩ ⟨Nat.le_refl _, Nat.le_refl _⟩ rfl hl.1 rfl (Nat.le_of_ble_eq_true rfl) dX9_readOrderHead_70 (fun H locs hP hS => ?_)
    refine lv_if_eq (tgt := 84) hx hb dX9_readOrderHead_73 (by decide) (fun hc => ?_) (fun hc => ?_)
    · replace hf := it_pos hc hf
      exact B84 st6 _ _ ls hf (lv_sub hl [] rfl) hP hS
    · replace hf := it_neg hc hf
      refine lv_aload_n hx hb dX9_readOrderHead_76 rfl (lv_at hl 1 rfl) ?_
      refine lv_iload_n hx hb dX9_readOrderHead_77 rfl (lv_at hl 0 rfl) ?_
      obtain ⟨r7, st8, hc, hf⟩ := bd_some hf
      refine c_calli (n := 1) (rest := []) E hN hP hS (fun sz => tX9_passes l D cy ad fz hJ sz w0 st6 r7 st8 hc) (va_recv E.2 hP (ci := 9) (q0 := 35) rfl rfl) (gV k_720 k_722 ks_17 k_9 k_723) qX9_passes ⟨Nat.le_of_ble_eq_true rfl, Nat.le_of_ble_eq_true rfl⟩ ⟨Nat.le_refl _, Nat.le_refl _⟩ rfl hl.1 rfl (Nat.le_of_ble_eq_true rfl) dX9_readOrderHead_78 (fun H locs hP hS => ?_)
      refine lv_if_ne (tgt := 86) hx hb dX9_readOrderHead_81 (by decide) (fun hc => ?_) (fun hc => ?_)
      · replace hf := it_neg hc hf
        refine lv_aload_n hx hb dX9_readOrderHead_86 rfl (lv_at hl 1 rfl) ?_
        refine cg_9_15_7 E hP dX9_readOrderHead_87 ?_
        refine lv_iconst (v := 1) hx hb dX9_readOrderHead_90 (by decide) ?_
        obtain ⟨r9, st10, hc, hf⟩ := bd_some hf
        refine c_callv (n := 1) (rest := []) E hN hP hS (fun sz => tX8_begin l D cy ad fz hJ sz (1 : Int32) st8 r9 st10 hc) (va_recv E.2 hP (ci := 8) (q0 := 30) rfl rfl) (gV k_752 k_689 k_690 k_8 k_691) qX8_begin ⟨Nat.le_of_ble_eq_true rfl, Nat.le_of_ble_eq_true rfl⟩ ⟨Nat.le_refl _, Nat.le_refl _⟩ rfl hl.1 rfl (Nat.le_of_ble_eq_true rfl) dX9_readOrderHead_91 (fun H locs hP hS => ?_)
        refine lv_aload_n hx hb dX9_readOrderHead_94 rfl (lv_at hl 1 rfl) ?_
        refine lv_iconst (v := 0) hx hb dX9_readOrderHead_95 (by decide) ?_
        obtain ⟨r11, st12, hc, hf⟩ := bd_some hf
        refine c_calli (n := 1) (rest := []) E hN hP hS (fun sz => (tRd l D cy ad fz hJ 10).2 sz (0 : Int32) st10 r11 st12 hc) (va_recv E.2 hP (ci := 9) (q0 := 35) rfl rfl) (gV k_692 k_694 ks_10 k_9 k_695) qX9_readSum ⟨Nat.le_of_ble_eq_true rfl, Nat.le_of_ble_eq_true rfl⟩ ⟨Nat.le_refl _, Nat.le_refl _⟩ rfl hl.1 rfl (Nat.le_of_ble_eq_true rfl) dX9_readOrderHead_96 (fun H locs hP hS => ?_)
        refine lv_if_ne (tgt := 104) hx hb dX9_readOrderHead_99 (by decide) (fun hc => ?_) (fun hc => ?_)
        · replace hf := it_neg hc hf
          refine lv_aload_n hx hb dX9_readOrderHead_104 rfl (lv_at hl 1 rfl) ?_
          refine lv_sipush (v := 311) hx hb dX9_readOrderHead_105 (by decide) ?_
          obtain ⟨r13, st14, hc, hf⟩ := bd_some hf
          refine c_calli (n := 1) (rest := []) E hN hP hS (fun sz => tX9_passes l D cy ad fz hJ sz (311 : Int32) st12 r13 st14 hc) (va_recv E.2 hP (ci := 9) (q0 := 35) rfl rfl) (gV k_720 k_722 ks_17 k_9 k_723) qX9_passes ⟨Nat.le_of_ble_eq_true rfl, Nat.le_of_ble_eq_true rfl⟩ ⟨Nat.le_refl _, Nat.le_refl _⟩ rfl hl.1 rfl (Nat.le_of_ble_eq_true rfl) dX9_readOrderHead_108 (fun H locs hP hS => ?_)
          refine lv_if_ne (tgt := 116) hx hb dX9_readOrderHead_111 (by decide) (fun hc => ?_) (fun hc => ?_)
          · replace hf := it_neg hc hf
            refine lv_aload_n hx hb dX9_readOrderHead_116 rfl (lv_at hl 1 rfl) ?_
            refine lv_iconst (v := 1) hx hb dX9_readOrderHead_117 (by decide) ?_
            refine lv_bipush (v := 20) hx hb dX9_readOrderHead_118 (by decide) ?_
            obtain ⟨r15, st16, hc, hf⟩ := bd_some hf
            refine c_calli (n := 2) (rest := []) E hN hP hS (fun sz => tX9_isNumber l D cy ad fz hJ sz (1 : Int32) (20 : Int32) st14 r15 st16 hc) (va_recv E.2 hP (ci := 9) (q0 := 35) rfl rfl) (gV k_736 k_738 ks_19 k_9 k_739) qX9_isNumber ⟨Nat.le_of_ble_eq_true rfl, Nat.le_of_ble_eq_true rfl⟩ ⟨Nat.le_refl _, Nat.le_refl _⟩ rfl hl.1 rfl (Nat.le_of_ble_eq_true rfl) dX9_readOrderHead_120 (fun H locs hP hS => ?_)
            refine lv_if_ne (tgt := 128) hx hb dX9_readOrderHead_123 (by decide) (fun hc => ?_) (fun hc => ?_)
            · replace hf := it_neg hc hf
              refine lv_aload_n hx hb dX9_readOrderHead_128 rfl (lv_at hl 1 rfl) ?_
              refine cg_9_15_7 E hP dX9_readOrderHead_129 ?_
              refine lv_aload_n hx hb dX9_readOrderHead_132 rfl (lv_at hl 1 rfl) ?_
              refine cg_9_74_7 E hP dX9_readOrderHead_133 ?_
              obtain ⟨r17, st18, hc, hf⟩ := bd_some hf
              refine c_callv (n := 1) (rest := []) E hN hP hS (fun sz => tX8_repeat l D cy ad fz hJ sz (st16.1 706) st16 r17 st18 hc) (va_recv E.2 hP (ci := 8) (q0 := 30) rfl rfl) (gV k_757 k_758 k_759 k_8 k_760) qX8_repeat ⟨Nat.le_of_ble_eq_true rfl, Nat.le_of_ble_eq_true rfl⟩ ⟨Nat.le_refl _, Nat.le_refl _⟩ rfl hl.1 rfl (Nat.le_of_ble_eq_true rfl) dX9_readOrderHead_136 (fun H locs hP hS => ?_)
              refine lv_aload_n hx hb dX9_readOrderHead_139 rfl (lv_at hl 1 rfl) ?_
              refine lv_aload_n hx hb dX9_readOrderHead_140 rfl (lv_at hl 1 rfl) ?_
              refine cg_9_55_7 E hP dX9_readOrderHead_141 ?_
              refine lv_iconst (v := 1) hx hb dX9_readOrderHead_144 (by decide) ?_
              refine lv_iadd hx hb dX9_readOrderHead_145 ?_
              obtain ⟨r19, st20, hc, hf⟩ := bd_some hf
              refine c_callv (n := 1) (rest := []) E hN hP hS (fun sz => tX9_lookAt l D cy ad fz hJ sz ((st18.1 704) + (1 : Int32)) st18 r19 st20 hc) (va_recv E.2 hP (ci := 9) (q0 := 35) rfl rfl) (gV k_675 k_677 ks_8 k_9 k_678) qX9_lookAt ⟨Nat.le_of_ble_eq_true rfl, Nat.le_of_ble_eq_true rfl⟩ ⟨Nat.le_refl _, Nat.le_refl _⟩ rfl hl.1 rfl (Nat.le_of_ble_eq_true rfl) dX9_readOrderHead_146 (fun H locs hP hS => ?_)
              refine lv_iconst (v := 1) hx hb dX9_readOrderHead_149 (by decide) ?_
              exact c_zret hx hb hr hlocks (by decide) hf hP hS dX9_readOrderHead_150
            · replace hf := it_pos hc hf
              refine lv_iconst (v := 0) hx hb dX9_readOrderHead_126 (by decide) ?_
              exact c_zret hx hb hr hlocks (by decide) hf hP hS dX9_readOrderHead_127
          · replace hf := it_pos hc hf
            refine lv_iconst (v := 1) hx hb dX9_readOrderHead_114 (by decide) ?_
            exact c_zret hx hb hr hlocks (by decide) hf hP hS dX9_readOrderHead_115
        · replace hf := it_pos hc hf
          refine lv_iconst (v := 0) hx hb dX9_readOrderHead_102 (by decide) ?_
          exact c_zret hx hb hr hlocks (by decide) hf hP hS dX9_readOrderHead_103
      · replace hf := it_pos hc hf
        exact B84 st8 _ _ ls hf (lv_sub hl [] rfl) hP hS
  refine lv_aload_n hx hb dX9_readOrderHead_0 rfl (lv_at hl 0 rfl) ?_
  refine cg_9_62_7 E hP dX9_readOrderHead_1 ?_
  refine lv_topi (fun x21 ex => ?_)
  replace hf := lt_at ex hf; clear ex
  refine lv_istore_n (lv' := [(1, .int x21), (0, .ref (ad 799))]) hx hb dX9_readOrderHead_4 rfl hl (by decide) rfl (fun ls hl => ?_)
  refine lv_iload_n hx hb dX9_readOrderHead_5 rfl (lv_at hl 0 rfl) ?_
  refine lv_sipush (v := 304) hx hb dX9_readOrderHead_6 (by decide) ?_
  refine lv_sipush (v := 307) hx hb dX9_readOrderHead_9 (by decide) ?_
  obtain ⟨r22, hc, hf⟩ := bs_some hf
  refine s_calliN (n := 3) (rest := []) E.1 (tX11_within l _ x21 (304 : Int32) (307 : Int32) r22 hc) (hN.1 (Cond.methodLinkNest "OpenGates$Reader" 77 ⟨"OpenGates", "within", "(III)Z"⟩ "OpenGates") (List.mem_of_getElem? (i := 7) rfl)) k_458 k_1 k_459 qX11_within.2 ⟨Nat.le_of_ble_eq_true rfl, Nat.le_of_ble_eq_true rfl⟩ ⟨Nat.le_refl _, Nat.le_refl _⟩ rfl hl.1 rfl (Nat.le_of_ble_eq_true rfl) dX9_readOrderHead_12 ?_
  refine lv_if_ne (tgt := 20) hx hb dX9_readOrderHead_15 (by decide) (fun hc => ?_) (fun hc => ?_)
  · replace hf := it_neg hc hf
    refine lv_iload_n hx hb dX9_readOrderHead_20 rfl (lv_at hl 0 rfl) ?_
    refine lv_sipush (v := 307) hx hb dX9_readOrderHead_21 (by decide) ?_
    refine lv_icmp_ne (tgt := 33) hx hb dX9_readOrderHead_24 (by decide) (fun hc => ?_) (fun hc => ?_)
    · replace hf := it_neg hc hf
      refine lv_iload_n hx hb dX9_readOrderHead_33 rfl (lv_at hl 0 rfl) ?_
      refine lv_sipush (v := 306) hx hb dX9_readOrderHead_34 (by decide) ?_
      refine lv_icmp_ne (tgt := 46) hx hb dX9_readOrderHead_37 (by decide) (fun hc => ?_) (fun hc => ?_)
      · replace hf := it_neg hc hf
        refine lv_sipush (v := 308) hx hb dX9_readOrderHead_46 (by decide) ?_
        exact B49 x21 (308 : Int32) st _ _ ls hf (lv_sub hl [1, 0] rfl) hP hS
      · replace hf := it_pos hc hf
        refine lv_sipush (v := 310) hx hb dX9_readOrderHead_40 (by decide) ?_
        refine lv_goto (tgt := 49) hx hb dX9_readOrderHead_43 (by decide) ?_
        exact B49 x21 (310 : Int32) st _ _ ls hf (lv_sub hl [1, 0] rfl) hP hS
    · replace hf := it_pos hc hf
      refine lv_sipush (v := 309) hx hb dX9_readOrderHead_27 (by decide) ?_
      refine lv_goto (tgt := 49) hx hb dX9_readOrderHead_30 (by decide) ?_
      exact B49 x21 (309 : Int32) st _ _ ls hf (lv_sub hl [1, 0] rfl) hP hS
  · replace hf := it_pos hc hf
    refine lv_iconst (v := 0) hx hb dX9_readOrderHead_18 (by decide) ?_
    exact c_zret hx hb hr hlocks (by decide) hf hP hS dX9_readOrderHead_19
def fX9_readLawHead_b58 (fz : List FP) (w0 : Int32) (st : St) : Option (Int32 × St) := bd (fX8_begin (1 : Int32) fz st) (fun r1 st2 => gb w0 (some (w0, st2)))
def fX9_readLawHead_b53 (fz : List FP) (st : St) : Option (Int32 × St) := fX9_readLawHead_b58 fz (1 : Int32) st
def fX9_readLawHead (fz : List FP) (st : St) : Option (Int32 × St) := lt (st.1 705) (fun x3 => bs (fX11_within x3 (300 : Int32) (303 : Int32)) (fun r4 => if r4 = 0 then (some ((0 : Int32), st)) else (bd (fX8_open x3 fz st) (fun r5 st6 => bd (fX9_lookAt ((st6.1 704) + (1 : Int32)) fz st6) (fun r7 st8 => if x3 = (303 : Int32) then (fX9_readLawHead_b53 fz st8) else (bd (rdS fz 10 (0 : Int32) st8) (fun r9 st10 => if r9 = 0 then (fX9_readLawHead_b58 fz (0 : Int32) st10) else (fX9_readLawHead_b53 fz st10))))))))
set_option maxHeartbeats 4000000 in
set_option maxRecDepth 100000 in
theorem tX9_readLawHead (l : Launch) (D : va_G) (cy : Nat → ClassId) (ad : Nat → Nat) (fz : List FP) (hJ : (cads ad fz).Nodup) (sz : Nat) (st : St) (rr : Int32) (st' : St) (hf : fX9_readLawHead fz st = some (rr, st')) : Met l yX9_readLawHead (Cond.code yX9_readLawHead cX9_readLawHead 3 (some .boolean) :: TT) (rmD 85) (cPc D cy ad fz [.ref (ad 799)] st sz) (cQi D cy ad fz rr st' sz) 0 0 (cA ad fz sz) := by
  refine c_meti (by decide) hJ (Nat.le_of_ble_eq_true rfl) (fun p e s m args below meth c ls E hx hb hr hlocks hown hT hD hN hl hP hS => ?_)
  replace hl : lv_has ls 3 [(0, .ref (ad 799))] := hl
  unfold fX9_readLawHead at hf
  have B58 : ∀ (w0 : Int32) (st : St) (H : Heap) (locs : List Loc) (ls : Array Slot), fX9_readLawHead_b58 fz w0 st = some (rr, st') → lv_has ls 3 [(0, .ref (ad 799))] → va_P D classes (cx cy ad fz st) H → va_S (cA ad fz s.heap.size) s.heap H locs → cGi l 85 D cy ad fz rr st' p e s m args below meth c H locs (F0 m 58 ls [.int w0]) := by
    intro w0 st H locs ls hf hl hP hS
    unfold fX9_readLawHead_b58 at hf
    refine lv_istore_n (lv' := [(2, .int w0), (0, .ref (ad 799))]) hx hb dX9_readLawHead_58 rfl hl (by decide) rfl (fun ls hl => ?_)
    refine lv_aload_n hx hb dX9_readLawHead_59 rfl (lv_at hl 1 rfl) ?_
    refine cg_9_15_7 E hP dX9_readLawHead_60 ?_
    refine lv_iconst (v := 1) hx hb dX9_readLawHead_63 (by decide) ?_
    obtain ⟨r1, st2, hc, hf⟩ := bd_some hf
    refine c_callv (n := 1) (rest := []) E hN hP hS (fun sz => tX8_begin l D cy ad fz hJ sz (1 : Int32) st r1 st2 hc) (va_recv E.2 hP (ci := 8) (q0 := 30) rfl rfl) (gV k_752 k_689 k_690 k_8 k_691) qX8_begin ⟨Nat.le_of_ble_eq_true rfl, Nat.le_of_ble_eq_true rfl⟩ ⟨Nat.le_refl _, Nat.le_refl _⟩ rfl hl.1 rfl (Nat.le_of_ble_eq_true rfl) dX9_readLawHead_64 (fun H locs hP hS => ?_)
    refine lv_iload_n hx hb dX9_readLawHead_67 rfl (lv_at hl 0 rfl) ?_
    obtain ⟨hn, hf⟩ := gb_some hf
    exact c_zret hx hb hr hlocks hn hf hP hS dX9_readLawHead_68
  have B53 : ∀ (st : St) (H : Heap) (locs : List Loc) (ls : Array Slot), fX9_readLawHead_b53 fz st = some (rr, st') → lv_has ls 3 [(0, .ref (ad 799))] → va_P D classes (cx cy ad fz st) H → va_S (cA ad fz s.heap.size) s.heap H locs → cGi l 85 D cy ad fz rr st' p e s m args below meth c H locs (F0 m 53 ls []) := by
    intro st H locs ls hf hl hP hS
    unfold fX9_readLawHead_b53 at hf
    refine lv_iconst (v := 1) hx hb dX9_readLawHead_53 (by decide) ?_
    refine lv_goto (tgt := 58) hx hb dX9_readLawHead_54 (by decide) ?_
    exact B58 (1 : Int32) st _ _ ls hf hl hP hS
  refine lv_aload_n hx hb dX9_readLawHead_0 rfl (lv_at hl 0 rfl) ?_
  refine cg_9_62_7 E hP dX9_readLawHead_1 ?_
  refine lv_topi (fun x3 ex => ?_)
  replace hf := lt_at ex hf; clear ex
  refine lv_istore_n (lv' := [(1, .int x3), (0, .ref (ad 799))]) hx hb dX9_readLawHead_4 rfl hl (by decide) rfl (fun ls hl => ?_)
  refine lv_iload_n hx hb dX9_readLawHead_5 rfl (lv_at hl 0 rfl) ?_
  refine lv_sipush (v := 300) hx hb dX9_readLawHead_6 (by decide) ?_
  refine lv_sipush (v := 303) hx hb dX9_readLawHead_9 (by decide) ?_
  obtain ⟨r4, hc, hf⟩ := bs_some hf
  refine s_calliN (n := 3) (rest := []) E.1 (tX11_within l _ x3 (300 : Int32) (303 : Int32) r4 hc) (hN.1 (Cond.methodLinkNest "OpenGates$Reader" 77 ⟨"OpenGates", "within", "(III)Z"⟩ "OpenGates") (List.mem_of_getElem? (i := 7) rfl)) k_458 k_1 k_459 qX11_within.2 ⟨Nat.le_of_ble_eq_true rfl, Nat.le_of_ble_eq_true rfl⟩ ⟨Nat.le_refl _, Nat.le_refl _⟩ rfl hl.1 rfl (Nat.le_of_ble_eq_true rfl) dX9_readLawHead_12 ?_
  refine lv_if_ne (tgt := 20) hx hb dX9_readLawHead_15 (by decide) (fun hc => ?_) (fun hc => ?_)
  · replace hf := it_neg hc hf
    refine lv_aload_n hx hb dX9_readLawHead_20 rfl (lv_at hl 1 rfl) ?_
    refine cg_9_15_7 E hP dX9_readLawHead_21 ?_
    refine lv_iload_n hx hb dX9_readLawHead_24 rfl (lv_at hl 0 rfl) ?_
    obtain ⟨r5, st6, hc, hf⟩ := bd_some hf
    refine c_callv (n := 1) (rest := []) E hN hP hS (fun sz => tX8_open l D cy ad fz hJ sz x3 st r5 st6 hc) (va_recv E.2 hP (ci := 8) (q0 := 30) rfl rfl) (gV k_684 k_685 k_686 k_8 k_687) qX8_open ⟨Nat.le_of_ble_eq_true rfl, Nat.le_of_ble_eq_true rfl⟩ ⟨Nat.le_refl _, Nat.le_refl _⟩ rfl hl.1 rfl (Nat.le_of_ble_eq_true rfl) dX9_readLawHead_25 (fun H locs hP hS => ?_)
    refine lv_aload_n hx hb dX9_readLawHead_28 rfl (lv_at hl 1 rfl) ?_
    refine lv_aload_n hx hb dX9_readLawHead_29 rfl (lv_at hl 1 rfl) ?_
    refine cg_9_55_7 E hP dX9_readLawHead_30 ?_
    refine lv_iconst (v := 1) hx hb dX9_readLawHead_33 (by decide) ?_
    refine lv_iadd hx hb dX9_readLawHead_34 ?_
    obtain ⟨r7, st8, hc, hf⟩ := bd_some hf
    refine c_callv (n := 1) (rest := []) E hN hP hS (fun sz => tX9_lookAt l D cy ad fz hJ sz ((st6.1 704) + (1 : Int32)) st6 r7 st8 hc) (va_recv E.2 hP (ci := 9) (q0 := 35) rfl rfl) (gV k_675 k_677 ks_8 k_9 k_678) qX9_lookAt ⟨Nat.le_of_ble_eq_true rfl, Nat.le_of_ble_eq_true rfl⟩ ⟨Nat.le_refl _, Nat.le_refl _⟩ rfl hl.1 rfl (Nat.le_of_ble_eq_true rfl) dX9_readLawHead_35 (fun H locs hP hS => ?_)
    refine lv_iload_n hx hb dX9_readLawHead_38 rfl (lv_at hl 0 rfl) ?_
    refine lv_sipush (v := 303) hx hb dX9_readLawHead_39 (by decide) ?_
    refine lv_icmp_eq (tgt := 53) hx hb dX9_readLawHead_42 (by decide) (fun hc => ?_) (fun hc => ?_)
    · replace hf := it_pos hc hf
      exact B53 st8 _ _ ls hf (lv_sub hl [1] rfl) hP hS
    · replace hf := it_neg hc hf
      refine lv_aload_n hx hb dX9_readLawHead_45 rfl (lv_at hl 1 rfl) ?_
      refine lv_iconst (v := 0) hx hb dX9_readLawHead_46 (by decide) ?_
      obtain ⟨r9, st10, hc, hf⟩ := bd_some hf
      refine c_calli (n := 1) (rest := []) E hN hP hS (fun sz => (tRd l D cy ad fz hJ 10).2 sz (0 : Int32) st8 r9 st10 hc) (va_recv E.2 hP (ci := 9) (q0 := 35) rfl rfl) (gV k_692 k_694 ks_10 k_9 k_695) qX9_readSum ⟨Nat.le_of_ble_eq_true rfl, Nat.le_of_ble_eq_true rfl⟩ ⟨Nat.le_refl _, Nat.le_refl _⟩ rfl hl.1 rfl (Nat.le_of_ble_eq_true rfl) dX9_readLawHead_47 (fun H locs hP hS => ?_)
      refine lv_if_eq (tgt := 57) hx hb dX9_readLawHead_50 (by decide) (fun hc => ?_) (fun hc => ?_)
      · replace hf := it_pos hc hf
        refine lv_iconst (v := 0) hx hb dX9_readLawHead_57 (by decide) ?_
        exact B58 (0 : Int32) st10 _ _ ls hf (lv_sub hl [1] rfl) hP hS
      · replace hf := it_neg hc hf
        exact B53 st10 _ _ ls hf (lv_sub hl [1] rfl) hP hS
  · replace hf := it_pos hc hf
    refine lv_iconst (v := 0) hx hb dX9_readLawHead_18 (by decide) ?_
    exact c_zret hx hb hr hlocks (by decide) hf hP hS dX9_readLawHead_19
def fX9_readIf_b28 (fz : List FP) (st : St) : Option (Int32 × St) := bd (fX8_begin (3 : Int32) fz st) (fun r1 st2 => some ((1 : Int32), st2))
def fX9_readIf (fz : List FP) (st : St) : Option (Int32 × St) := bd (fX8_begin (2 : Int32) fz st) (fun r3 st4 => bd (fX9_passes (312 : Int32) fz st4) (fun r5 st6 => if r5 = 0 then (fX9_readIf_b28 fz st6) else (bd (rdT fz 10 (0 : Int32) st6) (fun r7 st8 => if r7 = 0 then (some ((0 : Int32), st8)) else (fX9_readIf_b28 fz st8)))))
set_option maxHeartbeats 4000000 in
set_option maxRecDepth 100000 in
theorem tX9_readIf (l : Launch) (D : va_G) (cy : Nat → ClassId) (ad : Nat → Nat) (fz : List FP) (hJ : (cads ad fz).Nodup) (sz : Nat) (st : St) (rr : Int32) (st' : St) (hf : fX9_readIf fz st = some (rr, st')) : Met l yX9_readIf (Cond.code yX9_readIf cX9_readIf 1 (some .boolean) :: TT) (rmD 89) (cPc D cy ad fz [.ref (ad 799)] st sz) (cQi D cy ad fz rr st' sz) 0 0 (cA ad fz sz) := by
  refine c_meti (by decide) hJ (Nat.le_of_ble_eq_true rfl) (fun p e s m args below meth c ls E hx hb hr hlocks hown hT hD hN hl hP hS => ?_)
  replace hl : lv_has ls 1 [(0, .ref (ad 799))] := hl
  unfold fX9_readIf at hf
  have B28 : ∀ (st : St) (H : Heap) (locs : List Loc) (ls : Array Slot), fX9_readIf_b28 fz st = some (rr, st') → lv_has ls 1 [(0, .ref (ad 799))] → va_P D classes (cx cy ad fz st) H → va_S (cA ad fz s.heap.size) s.heap H locs → cGi l 89 D cy ad fz rr st' p e s m args below meth c H locs (F0 m 28 ls []) := by
    intro st H locs ls hf hl hP hS
    unfold fX9_readIf_b28 at hf
    refine lv_aload_n hx hb dX9_readIf_28 rfl (lv_at hl 0 rfl) ?_
    refine cg_9_15_7 E hP dX9_readIf_29 ?_
    refine lv_iconst (v := 3) hx hb dX9_readIf_32 (by decide) ?_
    obtain ⟨r1, st2, hc, hf⟩ := bd_some hf
    refine c_callv (n := 1) (rest := []) E hN hP hS (fun sz => tX8_begin l D cy ad fz hJ sz (3 : Int32) st r1 st2 hc) (va_recv E.2 hP (ci := 8) (q0 := 30) rfl rfl) (gV k_752 k_689 k_690 k_8 k_691) qX8_begin ⟨Nat.le_of_ble_eq_true rfl, Nat.le_of_ble_eq_true rfl⟩ ⟨Nat.le_refl _, Nat.le_refl _⟩ rfl hl.1 rfl (Nat.le_of_ble_eq_true rfl) dX9_readIf_33 (fun H locs hP hS => ?_)
    refine lv_iconst (v := 1) hx hb dX9_readIf_36 (by decide) ?_
    exact c_zret hx hb hr hlocks (by decide) hf hP hS dX9_readIf_37
  refine lv_aload_n hx hb dX9_readIf_0 rfl (lv_at hl 0 rfl) ?_
  refine cg_9_15_7 E hP dX9_readIf_1 ?_
  refine lv_iconst (v := 2) hx hb dX9_readIf_4 (by decide) ?_
  obtain ⟨r3, st4, hc, hf⟩ := bd_some hf
  refine c_callv (n := 1) (rest := []) E hN hP hS (fun sz => tX8_begin l D cy ad fz hJ sz (2 : Int32) st r3 st4 hc) (va_recv E.2 hP (ci := 8) (q0 := 30) rfl rfl) (gV k_752 k_689 k_690 k_8 k_691) qX8_begin ⟨Nat.le_of_ble_eq_true rfl, Nat.le_of_ble_eq_true rfl⟩ ⟨Nat.le_refl _, Nat.le_refl _⟩ rfl hl.1 rfl (Nat.le_of_ble_eq_true rfl) dX9_readIf_5 (fun H locs hP hS => ?_)
  refine lv_aload_n hx hb dX9_readIf_8 rfl (lv_at hl 0 rfl) ?_
  refine lv_sipush (v := 312) hx hb dX9_readIf_9 (by decide) ?_
  obtain ⟨r5, st6, hc, hf⟩ := bd_some hf
  refine c_calli (n := 1) (rest := []) E hN hP hS (fun sz => tX9_passes l D cy ad fz hJ sz (312 : Int32) st4 r5 st6 hc) (va_recv E.2 hP (ci := 9) (q0 := 35) rfl rfl) (gV k_720 k_722 ks_17 k_9 k_723) qX9_passes ⟨Nat.le_of_ble_eq_true rfl, Nat.le_of_ble_eq_true rfl⟩ ⟨Nat.le_refl _, Nat.le_refl _⟩ rfl hl.1 rfl (Nat.le_of_ble_eq_true rfl) dX9_readIf_12 (fun H locs hP hS => ?_)
  refine lv_if_eq (tgt := 28) hx hb dX9_readIf_15 (by decide) (fun hc => ?_) (fun hc => ?_)
  · replace hf := it_pos hc hf
    exact B28 st6 _ _ ls hf hl hP hS
  · replace hf := it_neg hc hf
    refine lv_aload_n hx hb dX9_readIf_18 rfl (lv_at hl 0 rfl) ?_
    refine lv_iconst (v := 0) hx hb dX9_readIf_19 (by decide) ?_
    obtain ⟨r7, st8, hc, hf⟩ := bd_some hf
    refine c_calli (n := 1) (rest := []) E hN hP hS (fun sz => (tRd l D cy ad fz hJ 10).1 sz (0 : Int32) st6 r7 st8 hc) (va_recv E.2 hP (ci := 9) (q0 := 35) rfl rfl) (gV k_708 k_710 ks_14 k_9 k_711) qX9_readTest ⟨Nat.le_of_ble_eq_true rfl, Nat.le_of_ble_eq_true rfl⟩ ⟨Nat.le_refl _, Nat.le_refl _⟩ rfl hl.1 rfl (Nat.le_of_ble_eq_true rfl) dX9_readIf_20 (fun H locs hP hS => ?_)
    refine lv_if_ne (tgt := 28) hx hb dX9_readIf_23 (by decide) (fun hc => ?_) (fun hc => ?_)
    · replace hf := it_neg hc hf
      exact B28 st8 _ _ ls hf hl hP hS
    · replace hf := it_pos hc hf
      refine lv_iconst (v := 0) hx hb dX9_readIf_26 (by decide) ?_
      exact c_zret hx hb hr hlocks (by decide) hf hP hS dX9_readIf_27
def fX9_read_b128 (fz : List FP) (w0 : Int32) (st : St) : Option (Int32 × St) := some (w0, st)
def fX9_read_b112 (fz : List FP) (st : St) : Option (Int32 × St) := gi (st.1 704) 401 (fX9_read_b128 fz (st.2.2.1 502 (st.1 704).toNatClampNeg) st)
def fX9_read_b98 (fz : List FP) (v2 : Int32) (st : St) : Option (Int32 × St) := if v2 = 0 then (if (st.1 705) = (257 : Int32) then (fX9_read_b128 fz (-1 : Int32) st) else (fX9_read_b112 fz st)) else (fX9_read_b112 fz st)
def fX9_read_b72 (fz : List FP) (st : St) : Option (Int32 × St) := gi (st.1 704) 401 (some ((st.2.2.1 502 (st.1 704).toNatClampNeg), st))
def fX9_read_b58 (fz : List FP) (k33 : Int32 → Int32 → Int32 → St → Option (Int32 × St)) (v1 : Int32) (v3 : Int32) (w0 : Int32) (st : St) : Option (Int32 × St) := if w0 = 0 then (fX9_read_b72 fz st) else (bd (fX9_readIf fz st) (fun r1 st2 => if r1 = 0 then (fX9_read_b72 fz st2) else (bd (fX9_passes (59 : Int32) fz st2) (fun r3 st4 => lt (v3 + (1 : Int32)) (fun x5 => k33 v1 r3 x5 st4)))))
def fX9_read_b33 (fz : List FP) (k33 : Int32 → Int32 → Int32 → St → Option (Int32 × St)) (v1 : Int32) (v2 : Int32) (v3 : Int32) (st : St) : Option (Int32 × St) := if v2 = 0 then (fX9_read_b98 fz v2 st) else (if (12 : Int32) ≤ v3 then (fX9_read_b98 fz v2 st) else (if v1 = 0 then (bd (fX9_readOrderHead fz st) (fun r6 st7 => fX9_read_b58 fz k33 v1 v3 r6 st7)) else (bd (fX9_readLawHead fz st) (fun r8 st9 => fX9_read_b58 fz k33 v1 v3 r8 st9))))
def fX9_read (a0 : Int32) (fz : List FP) (st : St) : Option (Int32 × St) := bd (fX10_split fz st) (fun r10 st11 => bd (fX8_clear fz st11) (fun r12 st13 => gb a0 (lt (sI st13 702 a0) (fun st14 => lt (sI st14 703 (0 : Int32)) (fun st15 => bd (fX9_lookAt (0 : Int32) fz st15) (fun r16 st17 => lp (fun _ _ _ _ => none) (fX9_read_b33 fz) 6000 a0 (1 : Int32) (0 : Int32) st17))))))
set_option maxHeartbeats 4000000 in
set_option maxRecDepth 100000 in
theorem tX9_read (l : Launch) (D : va_G) (cy : Nat → ClassId) (ad : Nat → Nat) (fz : List FP) (hJ : (cads ad fz).Nodup) (sz : Nat) (a0 : Int32) (st : St) (rr : Int32) (st' : St) (hf : fX9_read a0 fz st = some (rr, st')) : Met l yX9_read (Cond.code yX9_read cX9_read 5 (some .int) :: TT) (rmD 90) (cPc D cy ad fz [.ref (ad 799), .int a0] st sz) (cQi D cy ad fz rr st' sz) 0 0 (cA ad fz sz) := by
  refine c_meti (by decide) hJ (Nat.le_of_ble_eq_true rfl) (fun p e s m args below meth c ls E hx hb hr hlocks hown hT hD hN hl hP hS => ?_)
  replace hl : lv_has ls 5 [(0, .ref (ad 799)), (1, .int a0)] := hl
  unfold fX9_read at hf
  have B128 : ∀ (w0 : Int32) (st : St) (H : Heap) (locs : List Loc) (ls : Array Slot), fX9_read_b128 fz w0 st = some (rr, st') → lv_has ls 5 [] → va_P D classes (cx cy ad fz st) H → va_S (cA ad fz s.heap.size) s.heap H locs → cGi l 90 D cy ad fz rr st' p e s m args below meth c H locs (F0 m 128 ls [.int w0]) := by
    intro w0 st H locs ls hf hl hP hS
    unfold fX9_read_b128 at hf
    exact c_iret hx hb hr hlocks hf hP hS dX9_read_128
  have B112 : ∀ (st : St) (H : Heap) (locs : List Loc) (ls : Array Slot), fX9_read_b112 fz st = some (rr, st') → lv_has ls 5 [(0, .ref (ad 799))] → va_P D classes (cx cy ad fz st) H → va_S (cA ad fz s.heap.size) s.heap H locs → cGi l 90 D cy ad fz rr st' p e s m args below meth c H locs (F0 m 112 ls []) := by
    intro st H locs ls hf hl hP hS
    unfold fX9_read_b112 at hf
    refine lv_aload_n hx hb dX9_read_112 rfl (lv_at hl 0 rfl) ?_
    refine cg_9_9_7 E hP dX9_read_113 ?_
    refine cg_9_51_5 E hP dX9_read_116 ?_
    refine lv_aload_n hx hb dX9_read_119 rfl (lv_at hl 0 rfl) ?_
    refine cg_9_55_7 E hP dX9_read_120 ?_
    obtain ⟨hi, hf⟩ := gi_some hf
    refine cl_502 E hP hi dX9_read_123 ?_
    refine lv_goto (tgt := 128) hx hb dX9_read_124 (by decide) ?_
    exact B128 (st.2.2.1 502 (st.1 704).toNatClampNeg) st _ _ ls hf (lv_sub hl [] rfl) hP hS
  have B98 : ∀ (v2 : Int32) (st : St) (H : Heap) (locs : List Loc) (ls : Array Slot), fX9_read_b98 fz v2 st = some (rr, st') → lv_has ls 5 [(0, .ref (ad 799)), (2, .int v2)] → va_P D classes (cx cy ad fz st) H → va_S (cA ad fz s.heap.size) s.heap H locs → cGi l 90 D cy ad fz rr st' p e s m args below meth c H locs (F0 m 98 ls []) := by
    intro v2 st H locs ls hf hl hP hS
    unfold fX9_read_b98 at hf
    refine lv_iload_n hx hb dX9_read_98 rfl (lv_at hl 1 rfl) ?_
    refine lv_if_ne (tgt := 112) hx hb dX9_read_99 (by decide) (fun hc => ?_) (fun hc => ?_)
    · replace hf := it_neg hc hf
      exact B112 st _ _ ls hf (lv_sub hl [0] rfl) hP hS
    · replace hf := it_pos hc hf
      refine lv_aload_n hx hb dX9_read_102 rfl (lv_at hl 0 rfl) ?_
      refine cg_9_62_7 E hP dX9_read_103 ?_
      refine lv_sipush (v := 257) hx hb dX9_read_106 (by decide) ?_
      refine lv_icmp_eq (tgt := 127) hx hb dX9_read_109 (by decide) (fun hc => ?_) (fun hc => ?_)
      · replace hf := it_pos hc hf
        refine lv_iconst (v := -1) hx hb dX9_read_127 (by decide) ?_
        exact B128 (-1 : Int32) st _ _ ls hf (lv_sub hl [] rfl) hP hS
      · replace hf := it_neg hc hf
        exact B112 st _ _ ls hf (lv_sub hl [0] rfl) hP hS
  have B72 : ∀ (st : St) (H : Heap) (locs : List Loc) (ls : Array Slot), fX9_read_b72 fz st = some (rr, st') → lv_has ls 5 [(0, .ref (ad 799))] → va_P D classes (cx cy ad fz st) H → va_S (cA ad fz s.heap.size) s.heap H locs → cGi l 90 D cy ad fz rr st' p e s m args below meth c H locs (F0 m 72 ls []) := by
    intro st H locs ls hf hl hP hS
    unfold fX9_read_b72 at hf
    refine lv_aload_n hx hb dX9_read_72 rfl (lv_at hl 0 rfl) ?_
    refine cg_9_9_7 E hP dX9_read_73 ?_
    refine cg_9_51_5 E hP dX9_read_76 ?_
    refine lv_aload_n hx hb dX9_read_79 rfl (lv_at hl 0 rfl) ?_
    refine cg_9_55_7 E hP dX9_read_80 ?_
    obtain ⟨hi, hf⟩ := gi_some hf
    refine cl_502 E hP hi dX9_read_83 ?_
    exact c_iret hx hb hr hlocks hf hP hS dX9_read_84
  have L33 : ∀ (n : Nat) (v1 : Int32) (v2 : Int32) (v3 : Int32) (st : St) (H : Heap) (locs : List Loc) (ls : Array Slot), lp (fun _ _ _ _ => none) (fX9_read_b33 fz) n v1 v2 v3 st = some (rr, st') → lv_has ls 5 [(0, .ref (ad 799)), (1, .int v1), (2, .int v2), (3, .int v3)] → va_P D classes (cx cy ad fz st) H → va_S (cA ad fz s.heap.size) s.heap H locs → cGi l 90 D cy ad fz rr st' p e s m args below meth c H locs (F0 m 33 ls []) := by
    intro n
    induction n with
    | zero => intro v1 v2 v3 st H locs ls hf; exact absurd hf (fun h => by cases h)
    | succ n K33 =>
      intro v1 v2 v3 st H locs ls hf hl hP hS
      replace hf : fX9_read_b33 fz (lp (fun _ _ _ _ => none) (fX9_read_b33 fz) n) v1 v2 v3 st = some (rr, st') := hf
      generalize lp (fun _ _ _ _ => none) (fX9_read_b33 fz) n = k33 at hf K33
      have B58 : ∀ (v1 : Int32) (v3 : Int32) (w0 : Int32) (st : St) (H : Heap) (locs : List Loc) (ls : Array Slot), fX9_read_b58 fz k33 v1 v3 w0 st = some (rr, st') → lv_has ls 5 [(0, .ref (ad 799)), (1, .int v1), (3, .int v3)] → va_P D classes (cx cy ad fz st) H → va_S (cA ad fz s.heap.size) s.heap H locs → cGi l 90 D cy ad fz rr st' p e s m args below meth c H locs (F0 m 58 ls [.int w0]) := by
        intro v1 v3 w0 st H locs ls hf hl hP hS
        unfold fX9_read_b58 at hf
        refine lv_istore (lv' := [(4, .int w0), (0, .ref (ad 799)), (1, .int v1), (3, .int v3)]) hx hb dX9_read_58 hl (by decide) rfl (fun ls hl => ?_)
        refine lv_iload hx hb dX9_read_60 (lv_at hl 0 rfl) ?_
        refine lv_if_eq (tgt := 72) hx hb dX9_read_62 (by decide) (fun hc => ?_) (fun hc => ?_)
        · replace hf := it_pos hc hf
          exact B72 st _ _ ls hf (lv_sub hl [1] rfl) hP hS
        · replace hf := it_neg hc hf
          refine lv_aload_n hx hb dX9_read_65 rfl (lv_at hl 1 rfl) ?_
          obtain ⟨r1, st2, hc, hf⟩ := bd_some hf
          refine c_calli (n := 0) (rest := []) E hN hP hS (fun sz => tX9_readIf l D cy ad fz hJ sz st r1 st2 hc) (va_recv E.2 hP (ci := 9) (q0 := 35) rfl rfl) (gV k_761 k_763 ks_24 k_9 k_764) qX9_readIf ⟨Nat.le_of_ble_eq_true rfl, Nat.le_of_ble_eq_true rfl⟩ ⟨Nat.le_refl _, Nat.le_refl _⟩ rfl hl.1 rfl (Nat.le_of_ble_eq_true rfl) dX9_read_66 (fun H locs hP hS => ?_)
          refine lv_if_ne (tgt := 85) hx hb dX9_read_69 (by decide) (fun hc => ?_) (fun hc => ?_)
          · replace hf := it_neg hc hf
            refine lv_aload_n hx hb dX9_read_85 rfl (lv_at hl 1 rfl) ?_
            refine lv_bipush (v := 59) hx hb dX9_read_86 (by decide) ?_
            obtain ⟨r3, st4, hc, hf⟩ := bd_some hf
            refine c_calli (n := 1) (rest := []) E hN hP hS (fun sz => tX9_passes l D cy ad fz hJ sz (59 : Int32) st2 r3 st4 hc) (va_recv E.2 hP (ci := 9) (q0 := 35) rfl rfl) (gV k_720 k_722 ks_17 k_9 k_723) qX9_passes ⟨Nat.le_of_ble_eq_true rfl, Nat.le_of_ble_eq_true rfl⟩ ⟨Nat.le_refl _, Nat.le_refl _⟩ rfl hl.1 rfl (Nat.le_of_ble_eq_true rfl) dX9_read_88 (fun H locs hP hS => ?_)
            refine lv_istore_n (lv' := [(2, .int r3), (4, .int w0), (0, .ref (ad 799)), (1, .int v1), (3, .int v3)]) hx hb dX9_read_91 rfl hl (by decide) rfl (fun ls hl => ?_)
            obtain ⟨x5, ex⟩ : ∃ y : Int32, y = v3 + (1 : Int32) := ⟨_, rfl⟩
            replace hf := lt_at ex hf
            refine lv_iinc (v := x5) (lv' := [(3, .int x5), (2, .int r3), (4, .int w0), (0, .ref (ad 799)), (1, .int v1)]) hx hb dX9_read_92 hl (k := 4) rfl (by rw [ex]; rfl) (by decide) rfl (fun ls hl => ?_)
            clear ex
            refine lv_goto (tgt := 33) hx hb dX9_read_95 (by decide) ?_
            exact K33 v1 r3 x5 st4 _ _ ls hf (lv_sub hl [3, 4, 1, 0] rfl) hP hS
          · replace hf := it_pos hc hf
            exact B72 st2 _ _ ls hf (lv_sub hl [1] rfl) hP hS
      unfold fX9_read_b33 at hf
      refine lv_iload_n hx hb dX9_read_33 rfl (lv_at hl 2 rfl) ?_
      refine lv_if_eq (tgt := 98) hx hb dX9_read_34 (by decide) (fun hc => ?_) (fun hc => ?_)
      · replace hf := it_pos hc hf
        exact B98 v2 st _ _ ls hf (lv_sub hl [0, 2] rfl) hP hS
      · replace hf := it_neg hc hf
        refine lv_iload_n hx hb dX9_read_37 rfl (lv_at hl 3 rfl) ?_
        refine lv_bipush (v := 12) hx hb dX9_read_38 (by decide) ?_
        refine lv_icmp_ge (tgt := 98) hx hb dX9_read_40 (by decide) (fun hc => ?_) (fun hc => ?_)
        · replace hf := it_pos hc hf
          exact B98 v2 st _ _ ls hf (lv_sub hl [0, 2] rfl) hP hS
        · replace hf := it_neg hc hf
          refine lv_iload_n hx hb dX9_read_43 rfl (lv_at hl 1 rfl) ?_
          refine lv_if_eq (tgt := 54) hx hb dX9_read_44 (by decide) (fun hc => ?_) (fun hc => ?_)
          · replace hf := it_pos hc hf
            refine lv_aload_n hx hb dX9_read_54 rfl (lv_at hl 0 rfl) ?_
            obtain ⟨r6, st7, hc, hf⟩ := bd_some hf
            refine c_calli (n := 0) (rest := []) E hN hP hS (fun sz => tX9_readOrderHead l D cy ad fz hJ sz st r6 st7 hc) (va_recv E.2 hP (ci := 9) (q0 := 35) rfl rfl) (gV k_753 k_755 ks_23 k_9 k_756) qX9_readOrderHead ⟨Nat.le_of_ble_eq_true rfl, Nat.le_of_ble_eq_true rfl⟩ ⟨Nat.le_refl _, Nat.le_refl _⟩ rfl hl.1 rfl (Nat.le_of_ble_eq_true rfl) dX9_read_55 (fun H locs hP hS => ?_)
            exact B58 v1 v3 r6 st7 _ _ ls hf (lv_sub hl [0, 1, 3] rfl) hP hS
          · replace hf := it_neg hc hf
            refine lv_aload_n hx hb dX9_read_47 rfl (lv_at hl 0 rfl) ?_
            obtain ⟨r8, st9, hc, hf⟩ := bd_some hf
            refine c_calli (n := 0) (rest := []) E hN hP hS (fun sz => tX9_readLawHead l D cy ad fz hJ sz st r8 st9 hc) (va_recv E.2 hP (ci := 9) (q0 := 35) rfl rfl) (gV k_679 k_681 ks_9 k_9 k_682) qX9_readLawHead ⟨Nat.le_of_ble_eq_true rfl, Nat.le_of_ble_eq_true rfl⟩ ⟨Nat.le_refl _, Nat.le_refl _⟩ rfl hl.1 rfl (Nat.le_of_ble_eq_true rfl) dX9_read_48 (fun H locs hP hS => ?_)
            refine lv_goto (tgt := 58) hx hb dX9_read_51 (by decide) ?_
            exact B58 v1 v3 r8 st9 _ _ ls hf (lv_sub hl [0, 1, 3] rfl) hP hS
  refine lv_aload_n hx hb dX9_read_0 rfl (lv_at hl 0 rfl) ?_
  refine cg_9_9_7 E hP dX9_read_1 ?_
  obtain ⟨r10, st11, hc, hf⟩ := bd_some hf
  refine c_callv (n := 0) (rest := []) E hN hP hS (fun sz => tX10_split l D cy ad fz hJ sz st r10 st11 hc) (va_recv E.2 hP (ci := 10) (q0 := 25) rfl rfl) (gV k_595 k_596 k_597 k_7 k_598) qX10_split ⟨Nat.le_of_ble_eq_true rfl, Nat.le_of_ble_eq_true rfl⟩ ⟨Nat.le_refl _, Nat.le_refl _⟩ rfl hl.1 rfl (Nat.le_of_ble_eq_true rfl) dX9_read_4 (fun H locs hP hS => ?_)
  refine lv_aload_n hx hb dX9_read_7 rfl (lv_at hl 0 rfl) ?_
  refine cg_9_15_7 E hP dX9_read_8 ?_
  obtain ⟨r12, st13, hc, hf⟩ := bd_some hf
  refine c_callv (n := 0) (rest := []) E hN hP hS (fun sz => tX8_clear l D cy ad fz hJ sz st11 r12 st13 hc) (va_recv E.2 hP (ci := 8) (q0 := 30) rfl rfl) (gV k_671 k_672 k_673 k_8 k_674) qX8_clear ⟨Nat.le_of_ble_eq_true rfl, Nat.le_of_ble_eq_true rfl⟩ ⟨Nat.le_refl _, Nat.le_refl _⟩ rfl hl.1 rfl (Nat.le_of_ble_eq_true rfl) dX9_read_11 (fun H locs hP hS => ?_)
  refine lv_aload_n hx hb dX9_read_14 rfl (lv_at hl 0 rfl) ?_
  refine lv_iload_n hx hb dX9_read_15 rfl (lv_at hl 1 rfl) ?_
  obtain ⟨hz, hf⟩ := gb_some hf
  refine cp_9_29_7 E hD hP hS hz dX9_read_16 (fun st14 H locs ex hP hS => ?_)
  replace hf := lt_at ex hf; clear ex
  refine lv_aload_n hx hb dX9_read_19 rfl (lv_at hl 0 rfl) ?_
  refine lv_iconst (v := 0) hx hb dX9_read_20 (by decide) ?_
  refine cp_9_33_7 E hD hP hS dX9_read_21 (fun st15 H locs ex hP hS => ?_)
  replace hf := lt_at ex hf; clear ex
  refine lv_aload_n hx hb dX9_read_24 rfl (lv_at hl 0 rfl) ?_
  refine lv_iconst (v := 0) hx hb dX9_read_25 (by decide) ?_
  obtain ⟨r16, st17, hc, hf⟩ := bd_some hf
  refine c_callv (n := 1) (rest := []) E hN hP hS (fun sz => tX9_lookAt l D cy ad fz hJ sz (0 : Int32) st15 r16 st17 hc) (va_recv E.2 hP (ci := 9) (q0 := 35) rfl rfl) (gV k_675 k_677 ks_8 k_9 k_678) qX9_lookAt ⟨Nat.le_of_ble_eq_true rfl, Nat.le_of_ble_eq_true rfl⟩ ⟨Nat.le_refl _, Nat.le_refl _⟩ rfl hl.1 rfl (Nat.le_of_ble_eq_true rfl) dX9_read_26 (fun H locs hP hS => ?_)
  refine lv_iconst (v := 1) hx hb dX9_read_29 (by decide) ?_
  refine lv_istore_n (lv' := [(2, .int (1 : Int32)), (0, .ref (ad 799)), (1, .int a0)]) hx hb dX9_read_30 rfl hl (by decide) rfl (fun ls hl => ?_)
  refine lv_iconst (v := 0) hx hb dX9_read_31 (by decide) ?_
  refine lv_istore_n (lv' := [(3, .int (0 : Int32)), (2, .int (1 : Int32)), (0, .ref (ad 799)), (1, .int a0)]) hx hb dX9_read_32 rfl hl (by decide) rfl (fun ls hl => ?_)
  exact L33 6000 a0 (1 : Int32) (0 : Int32) st17 _ _ ls hf (lv_sub hl [2, 3, 1, 0] rfl) hP hS
def fX0_take__12_2 (fz : List FP) (st : St) : Option (Unit × St) := lt (sA st 1200 (va_cpy (st.2.2.1 200) (st.2.2.1 1200) (0 : Int32).toNatClampNeg (0 : Int32).toNatClampNeg (6 : Int32).toNatClampNeg)) (fun st1 => lt (sA st1 1201 (va_cpy (st1.2.2.1 201) (st1.2.2.1 1201) (0 : Int32).toNatClampNeg (0 : Int32).toNatClampNeg (6 : Int32).toNatClampNeg)) (fun st2 => lt (sA st2 1202 (va_cpy (st2.2.2.1 202) (st2.2.2.1 1202) (0 : Int32).toNatClampNeg (0 : Int32).toNatClampNeg (6 : Int32).toNatClampNeg)) (fun st3 => lt (sA st3 1203 (va_cpy (st3.2.2.1 203) (st3.2.2.1 1203) (0 : Int32).toNatClampNeg (0 : Int32).toNatClampNeg (4 : Int32).toNatClampNeg)) (fun st4 => lt (sI st4 1204 (st4.1 204)) (fun st5 => some ((), st5))))))
set_option maxHeartbeats 4000000 in
set_option maxRecDepth 100000 in
theorem tX0_take__12_2 (l : Launch) (D : va_G) (cy : Nat → ClassId) (ad : Nat → Nat) (fz : List FP) (hJ : (cads ad fz).Nodup) (sz : Nat) (st : St) (rr : Unit) (st' : St) (hf : fX0_take__12_2 fz st = some (rr, st')) : Met l yX0_take (Cond.code yX0_take cX0_take 2 none :: TT) (rmD 1) (cPc D cy ad fz [.ref (ad 1299), .ref (ad 299)] st sz) (cQv D cy ad fz rr st' sz) 0 0 (cA ad fz sz) := by
  refine c_metv (by decide) hJ (Nat.le_of_ble_eq_true rfl) (fun p e s m args below meth c ls E hx hb hr hlocks hown hT hD hN hl hP hS => ?_)
  replace hl : lv_has ls 2 [(0, .ref (ad 1299)), (1, .ref (ad 299))] := hl
  unfold fX0_take__12_2 at hf
  refine lv_aload_n hx hb dX0_take_0 rfl (lv_at hl 1 rfl) ?_
  refine cg_0_9_2 E hP dX0_take_1 ?_
  refine lv_iconst (v := 0) hx hb dX0_take_4 (by decide) ?_
  refine lv_aload_n hx hb dX0_take_5 rfl (lv_at hl 0 rfl) ?_
  refine cg_0_9_12 E hP dX0_take_6 ?_
  refine lv_iconst (v := 0) hx hb dX0_take_9 (by decide) ?_
  refine lv_bipush (v := 6) hx hb dX0_take_10 (by decide) ?_
  refine ccp_200_1200 E k_800 hD hP hS (by decide) hl.1 (Nat.le_of_ble_eq_true rfl) (Nat.le_of_ble_eq_true rfl) dX0_take_12 (fun st1 H locs ex hP hS => ?_)
  replace hf := lt_at ex hf; clear ex
  refine lv_aload_n hx hb dX0_take_15 rfl (lv_at hl 1 rfl) ?_
  refine cg_0_15_2 E hP dX0_take_16 ?_
  refine lv_iconst (v := 0) hx hb dX0_take_19 (by decide) ?_
  refine lv_aload_n hx hb dX0_take_20 rfl (lv_at hl 0 rfl) ?_
  refine cg_0_15_12 E hP dX0_take_21 ?_
  refine lv_iconst (v := 0) hx hb dX0_take_24 (by decide) ?_
  refine lv_bipush (v := 6) hx hb dX0_take_25 (by decide) ?_
  refine ccp_201_1201 E k_800 hD hP hS (by decide) hl.1 (Nat.le_of_ble_eq_true rfl) (Nat.le_of_ble_eq_true rfl) dX0_take_27 (fun st2 H locs ex hP hS => ?_)
  replace hf := lt_at ex hf; clear ex
  refine lv_aload_n hx hb dX0_take_30 rfl (lv_at hl 1 rfl) ?_
  refine cg_0_18_2 E hP dX0_take_31 ?_
  refine lv_iconst (v := 0) hx hb dX0_take_34 (by decide) ?_
  refine lv_aload_n hx hb dX0_take_35 rfl (lv_at hl 0 rfl) ?_
  refine cg_0_18_12 E hP dX0_take_36 ?_
  refine lv_iconst (v := 0) hx hb dX0_take_39 (by decide) ?_
  refine lv_bipush (v := 6) hx hb dX0_take_40 (by decide) ?_
  refine ccp_202_1202 E k_800 hD hP hS (by decide) hl.1 (Nat.le_of_ble_eq_true rfl) (Nat.le_of_ble_eq_true rfl) dX0_take_42 (fun st3 H locs ex hP hS => ?_)
  replace hf := lt_at ex hf; clear ex
  refine lv_aload_n hx hb dX0_take_45 rfl (lv_at hl 1 rfl) ?_
  refine cg_0_21_2 E hP dX0_take_46 ?_
  refine lv_iconst (v := 0) hx hb dX0_take_49 (by decide) ?_
  refine lv_aload_n hx hb dX0_take_50 rfl (lv_at hl 0 rfl) ?_
  refine cg_0_21_12 E hP dX0_take_51 ?_
  refine lv_iconst (v := 0) hx hb dX0_take_54 (by decide) ?_
  refine lv_iconst (v := 4) hx hb dX0_take_55 (by decide) ?_
  refine ccp_203_1203 E k_800 hD hP hS (by decide) hl.1 (Nat.le_of_ble_eq_true rfl) (Nat.le_of_ble_eq_true rfl) dX0_take_56 (fun st4 H locs ex hP hS => ?_)
  replace hf := lt_at ex hf; clear ex
  refine lv_aload_n hx hb dX0_take_59 rfl (lv_at hl 0 rfl) ?_
  refine lv_aload_n hx hb dX0_take_60 rfl (lv_at hl 1 rfl) ?_
  refine cg_0_30_2 E hP dX0_take_61 ?_
  refine cp_0_30_12 E hD hP hS dX0_take_64 (fun st5 H locs ex hP hS => ?_)
  replace hf := lt_at ex hf; clear ex
  exact c_vret hx hb hr hlocks hf hP hS dX0_take_67
def fX2_markLog (fz : List FP) (st : St) : Option (Unit × St) := gcp (0 : Int32) (0 : Int32) ((st.1 905) * (7 : Int32)) 112 112 (lt (sA st 903 (va_cpy (st.2.2.1 902) (st.2.2.1 903) (0 : Int32).toNatClampNeg (0 : Int32).toNatClampNeg ((st.1 905) * (7 : Int32)).toNatClampNeg)) (fun st1 => lt (sI st1 904 (st1.1 905)) (fun st2 => some ((), st2))))
set_option maxHeartbeats 4000000 in
set_option maxRecDepth 100000 in
theorem tX2_markLog (l : Launch) (D : va_G) (cy : Nat → ClassId) (ad : Nat → Nat) (fz : List FP) (hJ : (cads ad fz).Nodup) (sz : Nat) (st : St) (rr : Unit) (st' : St) (hf : fX2_markLog fz st = some (rr, st')) : Met l yX2_markLog (Cond.code yX2_markLog cX2_markLog 1 none :: TT) (rmD 1) (cPc D cy ad fz [.ref (ad 999)] st sz) (cQv D cy ad fz rr st' sz) 0 0 (cA ad fz sz) := by
  refine c_metv (by decide) hJ (Nat.le_of_ble_eq_true rfl) (fun p e s m args below meth c ls E hx hb hr hlocks hown hT hD hN hl hP hS => ?_)
  replace hl : lv_has ls 1 [(0, .ref (ad 999))] := hl
  unfold fX2_markLog at hf
  refine lv_aload_n hx hb dX2_markLog_0 rfl (lv_at hl 0 rfl) ?_
  refine cg_2_11_9 E hP dX2_markLog_1 ?_
  refine lv_iconst (v := 0) hx hb dX2_markLog_4 (by decide) ?_
  refine lv_aload_n hx hb dX2_markLog_5 rfl (lv_at hl 0 rfl) ?_
  refine cg_2_15_9 E hP dX2_markLog_6 ?_
  refine lv_iconst (v := 0) hx hb dX2_markLog_9 (by decide) ?_
  refine lv_aload_n hx hb dX2_markLog_10 rfl (lv_at hl 0 rfl) ?_
  refine cg_2_105_9 E hP dX2_markLog_11 ?_
  refine lv_bipush (v := 7) hx hb dX2_markLog_14 (by decide) ?_
  refine lv_imul hx hb dX2_markLog_16 ?_
  obtain ⟨hg, hf⟩ := gcp_some hf
  refine ccp_902_903 E k_805 hD hP hS hg hl.1 (Nat.le_of_ble_eq_true rfl) (Nat.le_of_ble_eq_true rfl) dX2_markLog_17 (fun st1 H locs ex hP hS => ?_)
  replace hf := lt_at ex hf; clear ex
  refine lv_aload_n hx hb dX2_markLog_20 rfl (lv_at hl 0 rfl) ?_
  refine lv_aload_n hx hb dX2_markLog_21 rfl (lv_at hl 0 rfl) ?_
  refine cg_2_105_9 E hP dX2_markLog_22 ?_
  refine cp_2_114_9 E hD hP hS dX2_markLog_25 (fun st2 H locs ex hP hS => ?_)
  replace hf := lt_at ex hf; clear ex
  exact c_vret hx hb hr hlocks hf hP hS dX2_markLog_28
def fX7_lookAround_b123 (fz : List FP) (k123 : Int32 → St → Option (Unit × St)) (v1 : Int32) (st : St) : Option (Unit × St) := if (4 : Int32) ≤ v1 then (some ((), st)) else (gi v1 4 (gi ((15 : Int32) + v1) 19 (lt (sA st 1004 (upd (st.2.2.1 1004) ((15 : Int32) + v1).toNatClampNeg (st.2.2.1 203 v1.toNatClampNeg))) (fun st1 => lt (v1 + (1 : Int32)) (fun x2 => k123 x2 st1)))))
def fX7_lookAround_b114 (fz : List FP) (k38 : Int32 → St → Option (Unit × St)) (v1 : Int32) (w0 : Int32) (w1 : Int32) (st : St) : Option (Unit × St) := gi w1 19 (lt (sA st 1004 (upd (st.2.2.1 1004) w1.toNatClampNeg w0)) (fun st3 => lt (v1 + (1 : Int32)) (fun x4 => k38 x4 st3)))
def fX7_lookAround_b78 (fz : List FP) (k38 : Int32 → St → Option (Unit × St)) (v1 : Int32) (w0 : Int32) (w1 : Int32) (st : St) : Option (Unit × St) := gi w1 19 (lt (sA st 1004 (upd (st.2.2.1 1004) w1.toNatClampNeg w0)) (fun st5 => bd (fX6_has v1 fz st5) (fun r6 st7 => if r6 = 0 then (fX7_lookAround_b114 fz k38 v1 (-1 : Int32) ((9 : Int32) + v1) st7) else (gi v1 6 (fX7_lookAround_b114 fz k38 v1 (st7.2.2.1 201 v1.toNatClampNeg) ((9 : Int32) + v1) st7)))))
def fX7_lookAround_b38 (fz : List FP) (k38 : Int32 → St → Option (Unit × St)) (v1 : Int32) (st : St) : Option (Unit × St) := if (6 : Int32) ≤ v1 then (lp (fun _ _ => none) (fX7_lookAround_b123 fz) 6000 (0 : Int32) st) else (bd (fX6_has v1 fz st) (fun r8 st9 => if r8 = 0 then (fX7_lookAround_b78 fz k38 v1 (-1 : Int32) ((3 : Int32) + v1) st9) else (gi v1 6 (fX7_lookAround_b78 fz k38 v1 (st9.2.2.1 200 v1.toNatClampNeg) ((3 : Int32) + v1) st9))))
def fX7_lookAround (fz : List FP) (st : St) : Option (Unit × St) := lt (sA st 1004 (upd (st.2.2.1 1004) (0 : Int32).toNatClampNeg (st.1 204))) (fun st10 => lt (sA st10 1004 (upd (st10.2.2.1 1004) (1 : Int32).toNatClampNeg (st10.1 1007))) (fun st11 => lt (sA st11 1004 (upd (st11.2.2.1 1004) (2 : Int32).toNatClampNeg (st11.1 1006))) (fun st12 => lp (fun _ _ => none) (fX7_lookAround_b38 fz) 6000 (0 : Int32) st12)))
set_option maxHeartbeats 4000000 in
set_option maxRecDepth 100000 in
theorem tX7_lookAround (l : Launch) (D : va_G) (cy : Nat → ClassId) (ad : Nat → Nat) (fz : List FP) (hJ : (cads ad fz).Nodup) (sz : Nat) (st : St) (rr : Unit) (st' : St) (hf : fX7_lookAround fz st = some (rr, st')) : Met l yX7_lookAround (Cond.code yX7_lookAround cX7_lookAround 2 none :: TT) (rmD 2) (cPc D cy ad fz [.ref (ad 1099)] st sz) (cQv D cy ad fz rr st' sz) 0 0 (cA ad fz sz) := by
  refine c_metv (by decide) hJ (Nat.le_of_ble_eq_true rfl) (fun p e s m args below meth c ls E hx hb hr hlocks hown hT hD hN hl hP hS => ?_)
  replace hl : lv_has ls 2 [(0, .ref (ad 1099))] := hl
  unfold fX7_lookAround at hf
  have L123 : ∀ (n : Nat) (v1 : Int32) (st : St) (H : Heap) (locs : List Loc) (ls : Array Slot), lp (fun _ _ => none) (fX7_lookAround_b123 fz) n v1 st = some (rr, st') → lv_has ls 2 [(0, .ref (ad 1099)), (1, .int v1)] → va_P D classes (cx cy ad fz st) H → va_S (cA ad fz s.heap.size) s.heap H locs → cGv l 2 D cy ad fz rr st' p e s m args below meth c H locs (F0 m 123 ls []) := by
    intro n
    induction n with
    | zero => intro v1 st H locs ls hf; exact absurd hf (fun h => by cases h)
    | succ n K123 =>
      intro v1 st H locs ls hf hl hP hS
      replace hf : fX7_lookAround_b123 fz (lp (fun _ _ => none) (fX7_lookAround_b123 fz) n) v1 st = some (rr, st') := hf
      generalize lp (fun _ _ => none) (fX7_lookAround_b123 fz) n = k123 at hf K123
      unfold fX7_lookAround_b123 at hf
      refine lv_iload_n hx hb dX7_lookAround_123 rfl (lv_at hl 1 rfl) ?_
      refine lv_iconst (v := 4) hx hb dX7_lookAround_124 (by decide) ?_
      refine lv_icmp_ge (tgt := 155) hx hb dX7_lookAround_125 (by decide) (fun hc => ?_) (fun hc => ?_)
      · replace hf := it_pos hc hf
        exact c_vret hx hb hr hlocks hf hP hS dX7_lookAround_155
      · replace hf := it_neg hc hf
        refine lv_aload_n hx hb dX7_lookAround_128 rfl (lv_at hl 0 rfl) ?_
        refine cg_7_20_10 E hP dX7_lookAround_129 ?_
        refine lv_bipush (v := 15) hx hb dX7_lookAround_132 (by decide) ?_
        refine lv_iload_n hx hb dX7_lookAround_134 rfl (lv_at hl 1 rfl) ?_
        refine lv_iadd hx hb dX7_lookAround_135 ?_
        refine lv_aload_n hx hb dX7_lookAround_136 rfl (lv_at hl 0 rfl) ?_
        refine cg_7_30_10 E hP dX7_lookAround_137 ?_
        refine cg_7_42_1 E hP dX7_lookAround_140 ?_
        refine cg_7_102_2 E hP dX7_lookAround_143 ?_
        refine lv_iload_n hx hb dX7_lookAround_146 rfl (lv_at hl 1 rfl) ?_
        obtain ⟨hi, hf⟩ := gi_some hf
        refine cl_203 E hP hi dX7_lookAround_147 ?_
        obtain ⟨hi, hf⟩ := gi_some hf
        refine cs_1004 E hD hP hS hi dX7_lookAround_148 (fun st1 H locs ex hP hS => ?_)
        replace hf := lt_at ex hf; clear ex
        obtain ⟨x2, ex⟩ : ∃ y : Int32, y = v1 + (1 : Int32) := ⟨_, rfl⟩
        replace hf := lt_at ex hf
        refine lv_iinc (v := x2) (lv' := [(1, .int x2), (0, .ref (ad 1099))]) hx hb dX7_lookAround_149 hl (k := 1) rfl (by rw [ex]; rfl) (by decide) rfl (fun ls hl => ?_)
        clear ex
        refine lv_goto (tgt := 123) hx hb dX7_lookAround_152 (by decide) ?_
        exact K123 x2 st1 _ _ ls hf (lv_sub hl [1, 0] rfl) hP hS
  have L38 : ∀ (n : Nat) (v1 : Int32) (st : St) (H : Heap) (locs : List Loc) (ls : Array Slot), lp (fun _ _ => none) (fX7_lookAround_b38 fz) n v1 st = some (rr, st') → lv_has ls 2 [(0, .ref (ad 1099)), (1, .int v1)] → va_P D classes (cx cy ad fz st) H → va_S (cA ad fz s.heap.size) s.heap H locs → cGv l 2 D cy ad fz rr st' p e s m args below meth c H locs (F0 m 38 ls []) := by
    intro n
    induction n with
    | zero => intro v1 st H locs ls hf; exact absurd hf (fun h => by cases h)
    | succ n K38 =>
      intro v1 st H locs ls hf hl hP hS
      replace hf : fX7_lookAround_b38 fz (lp (fun _ _ => none) (fX7_lookAround_b38 fz) n) v1 st = some (rr, st') := hf
      generalize lp (fun _ _ => none) (fX7_lookAround_b38 fz) n = k38 at hf K38
      have B114 : ∀ (v1 : Int32) (w0 : Int32) (w1 : Int32) (st : St) (H : Heap) (locs : List Loc) (ls : Array Slot), fX7_lookAround_b114 fz k38 v1 w0 w1 st = some (rr, st') → lv_has ls 2 [(0, .ref (ad 1099)), (1, .int v1)] → va_P D classes (cx cy ad fz st) H → va_S (cA ad fz s.heap.size) s.heap H locs → cGv l 2 D cy ad fz rr st' p e s m args below meth c H locs (F0 m 114 ls [.int w0, .int w1, .ref (ad 1004)]) := by
        intro v1 w0 w1 st H locs ls hf hl hP hS
        unfold fX7_lookAround_b114 at hf
        obtain ⟨hi, hf⟩ := gi_some hf
        refine cs_1004 E hD hP hS hi dX7_lookAround_114 (fun st3 H locs ex hP hS => ?_)
        replace hf := lt_at ex hf; clear ex
        obtain ⟨x4, ex⟩ : ∃ y : Int32, y = v1 + (1 : Int32) := ⟨_, rfl⟩
        replace hf := lt_at ex hf
        refine lv_iinc (v := x4) (lv' := [(1, .int x4), (0, .ref (ad 1099))]) hx hb dX7_lookAround_115 hl (k := 1) rfl (by rw [ex]; rfl) (by decide) rfl (fun ls hl => ?_)
        clear ex
        refine lv_goto (tgt := 38) hx hb dX7_lookAround_118 (by decide) ?_
        exact K38 x4 st3 _ _ ls hf (lv_sub hl [1, 0] rfl) hP hS
      have B78 : ∀ (v1 : Int32) (w0 : Int32) (w1 : Int32) (st : St) (H : Heap) (locs : List Loc) (ls : Array Slot), fX7_lookAround_b78 fz k38 v1 w0 w1 st = some (rr, st') → lv_has ls 2 [(0, .ref (ad 1099)), (1, .int v1)] → va_P D classes (cx cy ad fz st) H → va_S (cA ad fz s.heap.size) s.heap H locs → cGv l 2 D cy ad fz rr st' p e s m args below meth c H locs (F0 m 78 ls [.int w0, .int w1, .ref (ad 1004)]) := by
        intro v1 w0 w1 st H locs ls hf hl hP hS
        unfold fX7_lookAround_b78 at hf
        obtain ⟨hi, hf⟩ := gi_some hf
        refine cs_1004 E hD hP hS hi dX7_lookAround_78 (fun st5 H locs ex hP hS => ?_)
        replace hf := lt_at ex hf; clear ex
        refine lv_aload_n hx hb dX7_lookAround_79 rfl (lv_at hl 0 rfl) ?_
        refine cg_7_20_10 E hP dX7_lookAround_80 ?_
        refine lv_bipush (v := 9) hx hb dX7_lookAround_83 (by decide) ?_
        refine lv_iload_n hx hb dX7_lookAround_85 rfl (lv_at hl 1 rfl) ?_
        refine lv_iadd hx hb dX7_lookAround_86 ?_
        refine lv_aload_n hx hb dX7_lookAround_87 rfl (lv_at hl 0 rfl) ?_
        refine cg_7_30_10 E hP dX7_lookAround_88 ?_
        refine lv_iload_n hx hb dX7_lookAround_91 rfl (lv_at hl 1 rfl) ?_
        obtain ⟨r6, st7, hc, hf⟩ := bd_some hf
        refine c_calli (n := 1) (rest := [.int ((9 : Int32) + v1), .ref (ad 1004)]) E hN hP hS (fun sz => tX6_has l D cy ad fz hJ sz v1 st5 r6 st7 hc) (va_recv E.2 hP (ci := 6) (q0 := 3) rfl rfl) (gV k_810 k_478 k_479 k_2 k_480) qX6_has ⟨Nat.le_of_ble_eq_true rfl, Nat.le_of_ble_eq_true rfl⟩ ⟨Nat.le_refl _, Nat.le_refl _⟩ rfl hl.1 rfl (Nat.le_of_ble_eq_true rfl) dX7_lookAround_92 (fun H locs hP hS => ?_)
        refine lv_if_eq (tgt := 113) hx hb dX7_lookAround_95 (by decide) (fun hc => ?_) (fun hc => ?_)
        · replace hf := it_pos hc hf
          refine lv_iconst (v := -1) hx hb dX7_lookAround_113 (by decide) ?_
          exact B114 v1 (-1 : Int32) ((9 : Int32) + v1) st7 _ _ ls hf hl hP hS
        · replace hf := it_neg hc hf
          refine lv_aload_n hx hb dX7_lookAround_98 rfl (lv_at hl 0 rfl) ?_
          refine cg_7_30_10 E hP dX7_lookAround_99 ?_
          refine cg_7_42_1 E hP dX7_lookAround_102 ?_
          refine cg_7_99_2 E hP dX7_lookAround_105 ?_
          refine lv_iload_n hx hb dX7_lookAround_108 rfl (lv_at hl 1 rfl) ?_
          obtain ⟨hi, hf⟩ := gi_some hf
          refine cl_201 E hP hi dX7_lookAround_109 ?_
          refine lv_goto (tgt := 114) hx hb dX7_lookAround_110 (by decide) ?_
          exact B114 v1 (st7.2.2.1 201 v1.toNatClampNeg) ((9 : Int32) + v1) st7 _ _ ls hf hl hP hS
      unfold fX7_lookAround_b38 at hf
      refine lv_iload_n hx hb dX7_lookAround_38 rfl (lv_at hl 1 rfl) ?_
      refine lv_bipush (v := 6) hx hb dX7_lookAround_39 (by decide) ?_
      refine lv_icmp_ge (tgt := 121) hx hb dX7_lookAround_41 (by decide) (fun hc => ?_) (fun hc => ?_)
      · replace hf := it_pos hc hf
        refine lv_iconst (v := 0) hx hb dX7_lookAround_121 (by decide) ?_
        refine lv_istore_n (lv' := [(1, .int (0 : Int32)), (0, .ref (ad 1099))]) hx hb dX7_lookAround_122 rfl hl (by decide) rfl (fun ls hl => ?_)
        exact L123 6000 (0 : Int32) st _ _ ls hf (lv_sub hl [1, 0] rfl) hP hS
      · replace hf := it_neg hc hf
        refine lv_aload_n hx hb dX7_lookAround_44 rfl (lv_at hl 0 rfl) ?_
        refine cg_7_20_10 E hP dX7_lookAround_45 ?_
        refine lv_iconst (v := 3) hx hb dX7_lookAround_48 (by decide) ?_
        refine lv_iload_n hx hb dX7_lookAround_49 rfl (lv_at hl 1 rfl) ?_
        refine lv_iadd hx hb dX7_lookAround_50 ?_
        refine lv_aload_n hx hb dX7_lookAround_51 rfl (lv_at hl 0 rfl) ?_
        refine cg_7_30_10 E hP dX7_lookAround_52 ?_
        refine lv_iload_n hx hb dX7_lookAround_55 rfl (lv_at hl 1 rfl) ?_
        obtain ⟨r8, st9, hc, hf⟩ := bd_some hf
        refine c_calli (n := 1) (rest := [.int ((3 : Int32) + v1), .ref (ad 1004)]) E hN hP hS (fun sz => tX6_has l D cy ad fz hJ sz v1 st r8 st9 hc) (va_recv E.2 hP (ci := 6) (q0 := 3) rfl rfl) (gV k_810 k_478 k_479 k_2 k_480) qX6_has ⟨Nat.le_of_ble_eq_true rfl, Nat.le_of_ble_eq_true rfl⟩ ⟨Nat.le_refl _, Nat.le_refl _⟩ rfl hl.1 rfl (Nat.le_of_ble_eq_true rfl) dX7_lookAround_56 (fun H locs hP hS => ?_)
        refine lv_if_eq (tgt := 77) hx hb dX7_lookAround_59 (by decide) (fun hc => ?_) (fun hc => ?_)
        · replace hf := it_pos hc hf
          refine lv_iconst (v := -1) hx hb dX7_lookAround_77 (by decide) ?_
          exact B78 v1 (-1 : Int32) ((3 : Int32) + v1) st9 _ _ ls hf hl hP hS
        · replace hf := it_neg hc hf
          refine lv_aload_n hx hb dX7_lookAround_62 rfl (lv_at hl 0 rfl) ?_
          refine cg_7_30_10 E hP dX7_lookAround_63 ?_
          refine cg_7_42_1 E hP dX7_lookAround_66 ?_
          refine cg_7_96_2 E hP dX7_lookAround_69 ?_
          refine lv_iload_n hx hb dX7_lookAround_72 rfl (lv_at hl 1 rfl) ?_
          obtain ⟨hi, hf⟩ := gi_some hf
          refine cl_200 E hP hi dX7_lookAround_73 ?_
          refine lv_goto (tgt := 78) hx hb dX7_lookAround_74 (by decide) ?_
          exact B78 v1 (st9.2.2.1 200 v1.toNatClampNeg) ((3 : Int32) + v1) st9 _ _ ls hf hl hP hS
  refine lv_aload_n hx hb dX7_lookAround_0 rfl (lv_at hl 0 rfl) ?_
  refine cg_7_20_10 E hP dX7_lookAround_1 ?_
  refine lv_iconst (v := 0) hx hb dX7_lookAround_4 (by decide) ?_
  refine lv_aload_n hx hb dX7_lookAround_5 rfl (lv_at hl 0 rfl) ?_
  refine cg_7_30_10 E hP dX7_lookAround_6 ?_
  refine cg_7_42_1 E hP dX7_lookAround_9 ?_
  refine cg_7_89_2 E hP dX7_lookAround_12 ?_
  refine cs_1004 E hD hP hS (vi rfl) dX7_lookAround_15 (fun st10 H locs ex hP hS => ?_)
  replace hf := lt_at ex hf; clear ex
  refine lv_aload_n hx hb dX7_lookAround_16 rfl (lv_at hl 0 rfl) ?_
  refine cg_7_20_10 E hP dX7_lookAround_17 ?_
  refine lv_iconst (v := 1) hx hb dX7_lookAround_20 (by decide) ?_
  refine lv_aload_n hx hb dX7_lookAround_21 rfl (lv_at hl 0 rfl) ?_
  refine cg_7_56_10 E hP dX7_lookAround_22 ?_
  refine cs_1004 E hD hP hS (vi rfl) dX7_lookAround_25 (fun st11 H locs ex hP hS => ?_)
  replace hf := lt_at ex hf; clear ex
  refine lv_aload_n hx hb dX7_lookAround_26 rfl (lv_at hl 0 rfl) ?_
  refine cg_7_20_10 E hP dX7_lookAround_27 ?_
  refine lv_iconst (v := 2) hx hb dX7_lookAround_30 (by decide) ?_
  refine lv_aload_n hx hb dX7_lookAround_31 rfl (lv_at hl 0 rfl) ?_
  refine cg_7_60_10 E hP dX7_lookAround_32 ?_
  refine cs_1004 E hD hP hS (vi rfl) dX7_lookAround_35 (fun st12 H locs ex hP hS => ?_)
  replace hf := lt_at ex hf; clear ex
  refine lv_iconst (v := 0) hx hb dX7_lookAround_36 (by decide) ?_
  refine lv_istore_n (lv' := [(1, .int (0 : Int32)), (0, .ref (ad 1099))]) hx hb dX7_lookAround_37 rfl hl (by decide) rfl (fun ls hl => ?_)
  exact L38 6000 (0 : Int32) st12 _ _ ls hf (lv_sub hl [1, 0] rfl) hP hS
def fX8_worth__6_1004_1005_b38 (fz : List FP) (st : St) : Option (Int32 × St) := some ((-2147483648 : Int32), st)
def fX8_worth__6_1004_1005_b353 (fz : List FP) (w0 : Int32) (st : St) : Option (Int32 × St) := some (w0, st)
def fX8_worth__6_1004_1005_b259 (fz : List FP) (st : St) : Option (Int32 × St) := some ((-2147483648 : Int32), st)
def fX8_worth__6_1004_1005_b146 (fz : List FP) (st : St) : Option (Int32 × St) := some ((-2147483648 : Int32), st)
def fX8_worth__6_1004_1005_b330 (fz : List FP) (k74 : Int32 → Int32 → Int32 → Int32 → St → Option (Int32 × St)) (v6 : Int32) (v7 : Int32) (v8 : Int32) (v9 : Int32) (st : St) : Option (Int32 × St) := lt (v9 + (1 : Int32)) (fun x1 => k74 v6 v7 v8 x1 st)
def fX8_worth__6_1004_1005_b317 (fz : List FP) (k74 : Int32 → Int32 → Int32 → Int32 → St → Option (Int32 × St)) (v6 : Int32) (v7 : Int32) (v8 : Int32) (v9 : Int32) (v11 : Int32) (w0 : Int32) (w1 : Int32) (st : St) : Option (Int32 × St) := if w1 = w0 then (fX8_worth__6_1004_1005_b330 fz k74 v6 v7 v11 v9 st) else (lt (v7 + (-1 : Int32)) (fun x2 => fX8_worth__6_1004_1005_b330 fz k74 v6 x2 v8 v9 st))
def fX8_worth__6_1004_1005_b305 (fz : List FP) (k74 : Int32 → Int32 → Int32 → Int32 → St → Option (Int32 × St)) (v6 : Int32) (v7 : Int32) (v8 : Int32) (v9 : Int32) (v10 : Int32) (v11 : Int32) (w0 : Int32) (st : St) : Option (Int32 × St) := if v10 = (11 : Int32) then (fX8_worth__6_1004_1005_b317 fz k74 v6 v7 v8 v9 v11 (1 : Int32) w0 st) else (fX8_worth__6_1004_1005_b317 fz k74 v6 v7 v8 v9 v11 (0 : Int32) w0 st)
def fX8_worth__6_1004_1005_b191 (fz : List FP) (k74 : Int32 → Int32 → Int32 → Int32 → St → Option (Int32 × St)) (v6 : Int32) (v7 : Int32) (v8 : Int32) (v9 : Int32) (v10 : Int32) (v11 : Int32) (w0 : Int32) (w1 : Int32) (st : St) : Option (Int32 × St) := if w0 ≤ w1 then (if (10 : Int32) ≤ v10 then (if v10 = (10 : Int32) then (gi (v7 - (1 : Int32)) 64 (gi (v7 - (1 : Int32)) 64 (lt (sB st 1005 (vp_updL (st.2.2.2.1 1005) (v7 - (1 : Int32)).toNatClampNeg ((1 : Int64) - (st.2.2.2.1 1005 (v7 - (1 : Int32)).toNatClampNeg)))) (fun st3 => fX8_worth__6_1004_1005_b330 fz k74 v6 v7 v8 v9 st3)))) else (gi (v7 - (1 : Int32)) 64 (if (lg_cmp (st.2.2.2.1 1005 (v7 - (1 : Int32)).toNatClampNeg) (0 : Int64)) = 0 then (fX8_worth__6_1004_1005_b305 fz k74 v6 v7 v8 v9 v10 v11 (0 : Int32) st) else (fX8_worth__6_1004_1005_b305 fz k74 v6 v7 v8 v9 v10 v11 (1 : Int32) st)))) else (lt (v7 + (-1 : Int32)) (fun x4 => gi (x4 - (1 : Int32)) 64 (gi x4 64 (bs (fX8_joined v10 (st.2.2.2.1 1005 (x4 - (1 : Int32)).toNatClampNeg) (st.2.2.2.1 1005 x4.toNatClampNeg)) (fun r5 => gi (x4 - (1 : Int32)) 64 (lt (sB st 1005 (vp_updL (st.2.2.2.1 1005) (x4 - (1 : Int32)).toNatClampNeg r5)) (fun st6 => gi (x4 - (1 : Int32)) 64 (if 0 < (lg_cmp (st6.2.2.2.1 1005 (x4 - (1 : Int32)).toNatClampNeg) (1000000000 : Int64)) then (fX8_worth__6_1004_1005_b259 fz st6) else (gi (x4 - (1 : Int32)) 64 (if 0 ≤ (lg_cmp (st6.2.2.2.1 1005 (x4 - (1 : Int32)).toNatClampNeg) (-1000000000 : Int64)) then (fX8_worth__6_1004_1005_b330 fz k74 v6 x4 v8 v9 st6) else (fX8_worth__6_1004_1005_b259 fz st6)))))))))))) else (some ((-2147483648 : Int32), st))
def fX8_worth__6_1004_1005_b170 (fz : List FP) (k74 : Int32 → Int32 → Int32 → Int32 → St → Option (Int32 × St)) (v6 : Int32) (v7 : Int32) (v8 : Int32) (v9 : Int32) (w0 : Int64) (w1 : Int32) (st : St) : Option (Int32 × St) := gi w1 64 (lt (sB st 1005 (vp_updL (st.2.2.2.1 1005) w1.toNatClampNeg w0)) (fun st7 => lt (v7 + (1 : Int32)) (fun x8 => fX8_worth__6_1004_1005_b330 fz k74 v6 x8 v8 v9 st7)))
def fX8_worth__6_1004_1005_b149 (fz : List FP) (k74 : Int32 → Int32 → Int32 → Int32 → St → Option (Int32 × St)) (v6 : Int32) (v7 : Int32) (v8 : Int32) (v9 : Int32) (v10 : Int32) (v11 : Int32) (st : St) : Option (Int32 × St) := if v10 = (1 : Int32) then (gi v11 19 (fX8_worth__6_1004_1005_b170 fz k74 v6 v7 v8 v9 ((st.2.2.1 1004 v11.toNatClampNeg).toInt64) v7 st)) else (fX8_worth__6_1004_1005_b170 fz k74 v6 v7 v8 v9 (v11.toInt64) v7 st)
def fX8_worth__6_1004_1005_b74 (fz : List FP) (k74 : Int32 → Int32 → Int32 → Int32 → St → Option (Int32 × St)) (v6 : Int32) (v7 : Int32) (v8 : Int32) (v9 : Int32) (st : St) : Option (Int32 × St) := if v6 ≤ v9 then (if v7 = 0 then (fX8_worth__6_1004_1005_b353 fz (1 : Int32) st) else (gi (v7 - (1 : Int32)) 64 (fX8_worth__6_1004_1005_b353 fz ((st.2.2.2.1 1005 (v7 - (1 : Int32)).toNatClampNeg).toInt32) st))) else (gi v9 400 (lt ((st.2.2.1 603 v9.toNatClampNeg) &&& (15 : Int32)) (fun x9 => gi v9 400 (lt ((st.2.2.1 603 v9.toNatClampNeg) >>> ((4 : Int32) &&& 31)) (fun x10 => if v8 ≤ v9 then (if (1 : Int32) < x9 then (if (10 : Int32) ≤ x9 then (fX8_worth__6_1004_1005_b191 fz k74 v6 v7 v8 v9 x9 x10 (1 : Int32) v7 st) else (fX8_worth__6_1004_1005_b191 fz k74 v6 v7 v8 v9 x9 x10 (2 : Int32) v7 st)) else (if (64 : Int32) ≤ v7 then (fX8_worth__6_1004_1005_b146 fz st) else (if x10 < 0 then (fX8_worth__6_1004_1005_b146 fz st) else (if x9 = (1 : Int32) then (if x10 < (19 : Int32) then (fX8_worth__6_1004_1005_b149 fz k74 v6 v7 v8 v9 x9 x10 st) else (fX8_worth__6_1004_1005_b146 fz st)) else (fX8_worth__6_1004_1005_b149 fz k74 v6 v7 v8 v9 x9 x10 st))))) else (fX8_worth__6_1004_1005_b330 fz k74 v6 v7 v8 v9 st))))))
def fX8_worth__6_1004_1005 (a0 : Int32) (a1 : Int32) (fz : List FP) (st : St) : Option (Int32 × St) := lt ((a0 * (4 : Int32)) + a1) (fun x11 => if a0 < 0 then (fX8_worth__6_1004_1005_b38 fz st) else (if (st.1 605) ≤ a0 then (fX8_worth__6_1004_1005_b38 fz st) else (if a1 < 0 then (fX8_worth__6_1004_1005_b38 fz st) else (if (2 : Int32) < a1 then (fX8_worth__6_1004_1005_b38 fz st) else (gi x11 48 (if 0 ≤ (st.2.2.1 602 x11.toNatClampNeg) then (gi (x11 + (1 : Int32)) 48 (lt (if (st.1 604) < (st.2.2.1 602 (x11 + (1 : Int32)).toNatClampNeg) then (st.1 604) else (st.2.2.1 602 (x11 + (1 : Int32)).toNatClampNeg)) (fun x12 => gi x11 48 (lt (st.2.2.1 602 x11.toNatClampNeg) (fun x13 => lp (fun _ _ _ _ _ => none) (fX8_worth__6_1004_1005_b74 fz) 6000 x12 (0 : Int32) (0 : Int32) x13 st))))) else (fX8_worth__6_1004_1005_b38 fz st)))))))
set_option maxHeartbeats 4000000 in
set_option maxRecDepth 100000 in
theorem tX8_worth__6_1004_1005 (l : Launch) (D : va_G) (cy : Nat → ClassId) (ad : Nat → Nat) (fz : List FP) (hJ : (cads ad fz).Nodup) (sz : Nat) (a0 : Int32) (a1 : Int32) (st : St) (rr : Int32) (st' : St) (hf : fX8_worth__6_1004_1005 a0 a1 fz st = some (rr, st')) : Met l yX8_worth (Cond.code yX8_worth cX8_worth 12 (some .int) :: TT) (rmD 1) (cPc D cy ad fz [.ref (ad 699), .int a0, .int a1, .ref (ad 1004), .ref (ad 1005)] st sz) (cQi D cy ad fz rr st' sz) 0 0 (cA ad fz sz) := by
  refine c_meti (by decide) hJ (Nat.le_of_ble_eq_true rfl) (fun p e s m args below meth c ls E hx hb hr hlocks hown hT hD hN hl hP hS => ?_)
  replace hl : lv_has ls 12 [(0, .ref (ad 699)), (1, .int a0), (2, .int a1), (3, .ref (ad 1004)), (4, .ref (ad 1005))] := hl
  unfold fX8_worth__6_1004_1005 at hf
  have B38 : ∀ (st : St) (H : Heap) (locs : List Loc) (ls : Array Slot), fX8_worth__6_1004_1005_b38 fz st = some (rr, st') → lv_has ls 12 [] → va_P D classes (cx cy ad fz st) H → va_S (cA ad fz s.heap.size) s.heap H locs → cGi l 1 D cy ad fz rr st' p e s m args below meth c H locs (F0 m 38 ls []) := by
    intro st H locs ls hf hl hP hS
    unfold fX8_worth__6_1004_1005_b38 at hf
    refine lv_ldc (v := -2147483648) hx hb hown (hT _ k_524) dX8_worth_38 ?_
    exact c_iret hx hb hr hlocks hf hP hS dX8_worth_40
  have B353 : ∀ (w0 : Int32) (st : St) (H : Heap) (locs : List Loc) (ls : Array Slot), fX8_worth__6_1004_1005_b353 fz w0 st = some (rr, st') → lv_has ls 12 [] → va_P D classes (cx cy ad fz st) H → va_S (cA ad fz s.heap.size) s.heap H locs → cGi l 1 D cy ad fz rr st' p e s m args below meth c H locs (F0 m 353 ls [.int w0]) := by
    intro w0 st H locs ls hf hl hP hS
    unfold fX8_worth__6_1004_1005_b353 at hf
    exact c_iret hx hb hr hlocks hf hP hS dX8_worth_353
  have B259 : ∀ (st : St) (H : Heap) (locs : List Loc) (ls : Array Slot), fX8_worth__6_1004_1005_b259 fz st = some (rr, st') → lv_has ls 12 [] → va_P D classes (cx cy ad fz st) H → va_S (cA ad fz s.heap.size) s.heap H locs → cGi l 1 D cy ad fz rr st' p e s m args below meth c H locs (F0 m 259 ls []) := by
    intro st H locs ls hf hl hP hS
    unfold fX8_worth__6_1004_1005_b259 at hf
    refine lv_ldc (v := -2147483648) hx hb hown (hT _ k_524) dX8_worth_259 ?_
    exact c_iret hx hb hr hlocks hf hP hS dX8_worth_261
  have B146 : ∀ (st : St) (H : Heap) (locs : List Loc) (ls : Array Slot), fX8_worth__6_1004_1005_b146 fz st = some (rr, st') → lv_has ls 12 [] → va_P D classes (cx cy ad fz st) H → va_S (cA ad fz s.heap.size) s.heap H locs → cGi l 1 D cy ad fz rr st' p e s m args below meth c H locs (F0 m 146 ls []) := by
    intro st H locs ls hf hl hP hS
    unfold fX8_worth__6_1004_1005_b146 at hf
    refine lv_ldc (v := -2147483648) hx hb hown (hT _ k_524) dX8_worth_146 ?_
    exact c_iret hx hb hr hlocks hf hP hS dX8_worth_148
  have L74 : ∀ (n : Nat) (v6 : Int32) (v7 : Int32) (v8 : Int32) (v9 : Int32) (st : St) (H : Heap) (locs : List Loc) (ls : Array Slot), lp (fun _ _ _ _ _ => none) (fX8_worth__6_1004_1005_b74 fz) n v6 v7 v8 v9 st = some (rr, st') → lv_has ls 12 [(0, .ref (ad 699)), (3, .ref (ad 1004)), (4, .ref (ad 1005)), (6, .int v6), (7, .int v7), (8, .int v8), (9, .int v9)] → va_P D classes (cx cy ad fz st) H → va_S (cA ad fz s.heap.size) s.heap H locs → cGi l 1 D cy ad fz rr st' p e s m args below meth c H locs (F0 m 74 ls []) := by
    intro n
    induction n with
    | zero => intro v6 v7 v8 v9 st H locs ls hf; exact absurd hf (fun h => by cases h)
    | succ n K74 =>
      intro v6 v7 v8 v9 st H locs ls hf hl hP hS
      replace hf : fX8_worth__6_1004_1005_b74 fz (lp (fun _ _ _ _ _ => none) (fX8_worth__6_1004_1005_b74 fz) n) v6 v7 v8 v9 st = some (rr, st') := hf
      generalize lp (fun _ _ _ _ _ => none) (fX8_worth__6_1004_1005_b74 fz) n = k74 at hf K74
      have B330 : ∀ (v6 : Int32) (v7 : Int32) (v8 : Int32) (v9 : Int32) (st : St) (H : Heap) (locs : List Loc) (ls : Array Slot), fX8_worth__6_1004_1005_b330 fz k74 v6 v7 v8 v9 st = some (rr, st') → lv_has ls 12 [(0, .ref (ad 699)), (3, .ref (ad 1004)), (4, .ref (ad 1005)), (6, .int v6), (7, .int v7), (8, .int v8), (9, .int v9)] → va_P D classes (cx cy ad fz st) H → va_S (cA ad fz s.heap.size) s.heap H locs → cGi l 1 D cy ad fz rr st' p e s m args below meth c H locs (F0 m 330 ls []) := by
        intro v6 v7 v8 v9 st H locs ls hf hl hP hS
        unfold fX8_worth__6_1004_1005_b330 at hf
        obtain ⟨x1, ex⟩ : ∃ y : Int32, y = v9 + (1 : Int32) := ⟨_, rfl⟩
        replace hf := lt_at ex hf
        refine lv_iinc (v := x1) (lv' := [(9, .int x1), (0, .ref (ad 699)), (3, .ref (ad 1004)), (4, .ref (ad 1005)), (6, .int v6), (7, .int v7), (8, .int v8)]) hx hb dX8_worth_330 hl (k := 6) rfl (by rw [ex]; rfl) (by decide) rfl (fun ls hl => ?_)
        clear ex
        refine lv_goto (tgt := 74) hx hb dX8_worth_333 (by decide) ?_
        exact K74 v6 v7 v8 x1 st _ _ ls hf (lv_sub hl [1, 2, 3, 4, 5, 6, 0] rfl) hP hS
      have B317 : ∀ (v6 : Int32) (v7 : Int32) (v8 : Int32) (v9 : Int32) (v11 : Int32) (w0 : Int32) (w1 : Int32) (st : St) (H : Heap) (locs : List Loc) (ls : Array Slot), fX8_worth__6_1004_1005_b317 fz k74 v6 v7 v8 v9 v11 w0 w1 st = some (rr, st') → lv_has ls 12 [(0, .ref (ad 699)), (3, .ref (ad 1004)), (4, .ref (ad 1005)), (6, .int v6), (7, .int v7), (8, .int v8), (9, .int v9), (11, .int v11)] → va_P D classes (cx cy ad fz st) H → va_S (cA ad fz s.heap.size) s.heap H locs → cGi l 1 D cy ad fz rr st' p e s m args below meth c H locs (F0 m 317 ls [.int w0, .int w1]) := by
        intro v6 v7 v8 v9 v11 w0 w1 st H locs ls hf hl hP hS
        unfold fX8_worth__6_1004_1005_b317 at hf
        refine lv_icmp_ne (tgt := 327) hx hb dX8_worth_317 (by decide) (fun hc => ?_) (fun hc => ?_)
        · replace hf := it_neg hc hf
          obtain ⟨x2, ex⟩ : ∃ y : Int32, y = v7 + (-1 : Int32) := ⟨_, rfl⟩
          replace hf := lt_at ex hf
          refine lv_iinc (v := x2) (lv' := [(7, .int x2), (0, .ref (ad 699)), (3, .ref (ad 1004)), (4, .ref (ad 1005)), (6, .int v6), (8, .int v8), (9, .int v9), (11, .int v11)]) hx hb dX8_worth_327 hl (k := 4) rfl (by rw [ex]; rfl) (by decide) rfl (fun ls hl => ?_)
          clear ex
          exact B330 v6 x2 v8 v9 st _ _ ls hf (lv_sub hl [1, 2, 3, 4, 0, 5, 6] rfl) hP hS
        · replace hf := it_pos hc hf
          refine lv_iload hx hb dX8_worth_320 (lv_at hl 7 rfl) ?_
          refine lv_istore (lv' := [(8, .int v11), (0, .ref (ad 699)), (3, .ref (ad 1004)), (4, .ref (ad 1005)), (6, .int v6), (7, .int v7), (9, .int v9), (11, .int v11)]) hx hb dX8_worth_322 hl (by decide) rfl (fun ls hl => ?_)
          refine lv_goto (tgt := 330) hx hb dX8_worth_324 (by decide) ?_
          exact B330 v6 v7 v11 v9 st _ _ ls hf (lv_sub hl [1, 2, 3, 4, 5, 0, 6] rfl) hP hS
      have B305 : ∀ (v6 : Int32) (v7 : Int32) (v8 : Int32) (v9 : Int32) (v10 : Int32) (v11 : Int32) (w0 : Int32) (st : St) (H : Heap) (locs : List Loc) (ls : Array Slot), fX8_worth__6_1004_1005_b305 fz k74 v6 v7 v8 v9 v10 v11 w0 st = some (rr, st') → lv_has ls 12 [(0, .ref (ad 699)), (3, .ref (ad 1004)), (4, .ref (ad 1005)), (6, .int v6), (7, .int v7), (8, .int v8), (9, .int v9), (10, .int v10), (11, .int v11)] → va_P D classes (cx cy ad fz st) H → va_S (cA ad fz s.heap.size) s.heap H locs → cGi l 1 D cy ad fz rr st' p e s m args below meth c H locs (F0 m 305 ls [.int w0]) := by
        intro v6 v7 v8 v9 v10 v11 w0 st H locs ls hf hl hP hS
        unfold fX8_worth__6_1004_1005_b305 at hf
        refine lv_iload hx hb dX8_worth_305 (lv_at hl 7 rfl) ?_
        refine lv_bipush (v := 11) hx hb dX8_worth_307 (by decide) ?_
        refine lv_icmp_ne (tgt := 316) hx hb dX8_worth_309 (by decide) (fun hc => ?_) (fun hc => ?_)
        · replace hf := it_neg hc hf
          refine lv_iconst (v := 0) hx hb dX8_worth_316 (by decide) ?_
          exact B317 v6 v7 v8 v9 v11 (0 : Int32) w0 st _ _ ls hf (lv_sub hl [0, 1, 2, 3, 4, 5, 6, 8] rfl) hP hS
        · replace hf := it_pos hc hf
          refine lv_iconst (v := 1) hx hb dX8_worth_312 (by decide) ?_
          refine lv_goto (tgt := 317) hx hb dX8_worth_313 (by decide) ?_
          exact B317 v6 v7 v8 v9 v11 (1 : Int32) w0 st _ _ ls hf (lv_sub hl [0, 1, 2, 3, 4, 5, 6, 8] rfl) hP hS
      have B191 : ∀ (v6 : Int32) (v7 : Int32) (v8 : Int32) (v9 : Int32) (v10 : Int32) (v11 : Int32) (w0 : Int32) (w1 : Int32) (st : St) (H : Heap) (locs : List Loc) (ls : Array Slot), fX8_worth__6_1004_1005_b191 fz k74 v6 v7 v8 v9 v10 v11 w0 w1 st = some (rr, st') → lv_has ls 12 [(0, .ref (ad 699)), (3, .ref (ad 1004)), (4, .ref (ad 1005)), (6, .int v6), (7, .int v7), (8, .int v8), (9, .int v9), (10, .int v10), (11, .int v11)] → va_P D classes (cx cy ad fz st) H → va_S (cA ad fz s.heap.size) s.heap H locs → cGi l 1 D cy ad fz rr st' p e s m args below meth c H locs (F0 m 191 ls [.int w0, .int w1]) := by
        intro v6 v7 v8 v9 v10 v11 w0 w1 st H locs ls hf hl hP hS
        unfold fX8_worth__6_1004_1005_b191 at hf
        refine lv_icmp_ge (tgt := 197) hx hb dX8_worth_191 (by decide) (fun hc => ?_) (fun hc => ?_)
        · replace hf := it_pos hc hf
          refine lv_iload hx hb dX8_worth_197 (lv_at hl 7 rfl) ?_
          refine lv_bipush (v := 10) hx hb dX8_worth_199 (by decide) ?_
          refine lv_icmp_ge (tgt := 262) hx hb dX8_worth_201 (by decide) (fun hc => ?_) (fun hc => ?_)
          · replace hf := it_pos hc hf
            refine lv_iload hx hb dX8_worth_262 (lv_at hl 7 rfl) ?_
            refine lv_bipush (v := 10) hx hb dX8_worth_264 (by decide) ?_
            refine lv_icmp_ne (tgt := 288) hx hb dX8_worth_266 (by decide) (fun hc => ?_) (fun hc => ?_)
            · replace hf := it_neg hc hf
              refine lv_aload hx hb dX8_worth_288 (lv_at hl 2 rfl) ?_
              refine lv_iload hx hb dX8_worth_290 (lv_at hl 4 rfl) ?_
              refine lv_iconst (v := 1) hx hb dX8_worth_292 (by decide) ?_
              refine lv_isub hx hb dX8_worth_293 ?_
              obtain ⟨hi, hf⟩ := gi_some hf
              refine cl_1005 E hP hi dX8_worth_294 ?_
              refine lv_lconst (v := 0) hx hb dX8_worth_295 (by decide) ?_
              refine W.lcmp hx hb dX8_worth_296 ?_
              refine lv_if_eq (tgt := 304) hx hb dX8_worth_297 (by decide) (fun hc => ?_) (fun hc => ?_)
              · replace hf := it_pos hc hf
                refine lv_iconst (v := 0) hx hb dX8_worth_304 (by decide) ?_
                exact B305 v6 v7 v8 v9 v10 v11 (0 : Int32) st _ _ ls hf hl hP hS
              · replace hf := it_neg hc hf
                refine lv_iconst (v := 1) hx hb dX8_worth_300 (by decide) ?_
                refine lv_goto (tgt := 305) hx hb dX8_worth_301 (by decide) ?_
                exact B305 v6 v7 v8 v9 v10 v11 (1 : Int32) st _ _ ls hf hl hP hS
            · replace hf := it_pos hc hf
              refine lv_aload hx hb dX8_worth_269 (lv_at hl 2 rfl) ?_
              refine lv_iload hx hb dX8_worth_271 (lv_at hl 4 rfl) ?_
              refine lv_iconst (v := 1) hx hb dX8_worth_273 (by decide) ?_
              refine lv_isub hx hb dX8_worth_274 ?_
              refine lv_lconst (v := 1) hx hb dX8_worth_275 (by decide) ?_
              refine lv_aload hx hb dX8_worth_276 (lv_at hl 2 rfl) ?_
              refine lv_iload hx hb dX8_worth_278 (lv_at hl 4 rfl) ?_
              refine lv_iconst (v := 1) hx hb dX8_worth_280 (by decide) ?_
              refine lv_isub hx hb dX8_worth_281 ?_
              obtain ⟨hi, hf⟩ := gi_some hf
              refine cl_1005 E hP hi dX8_worth_282 ?_
              refine lv_lsub hx hb dX8_worth_283 ?_
              obtain ⟨hi, hf⟩ := gi_some hf
              refine cs_1005 E hD hP hS hi dX8_worth_284 (fun st3 H locs ex hP hS => ?_)
              replace hf := lt_at ex hf; clear ex
              refine lv_goto (tgt := 330) hx hb dX8_worth_285 (by decide) ?_
              exact B330 v6 v7 v8 v9 st3 _ _ ls hf (lv_sub hl [0, 1, 2, 3, 4, 5, 6] rfl) hP hS
          · replace hf := it_neg hc hf
            obtain ⟨x4, ex⟩ : ∃ y : Int32, y = v7 + (-1 : Int32) := ⟨_, rfl⟩
            replace hf := lt_at ex hf
            refine lv_iinc (v := x4) (lv' := [(7, .int x4), (0, .ref (ad 699)), (3, .ref (ad 1004)), (4, .ref (ad 1005)), (6, .int v6), (8, .int v8), (9, .int v9), (10, .int v10), (11, .int v11)]) hx hb dX8_worth_204 hl (k := 4) rfl (by rw [ex]; rfl) (by decide) rfl (fun ls hl => ?_)
            clear ex
            refine lv_aload hx hb dX8_worth_207 (lv_at hl 3 rfl) ?_
            refine lv_iload hx hb dX8_worth_209 (lv_at hl 0 rfl) ?_
            refine lv_iconst (v := 1) hx hb dX8_worth_211 (by decide) ?_
            refine lv_isub hx hb dX8_worth_212 ?_
            refine lv_iload hx hb dX8_worth_213 (lv_at hl 7 rfl) ?_
            refine lv_aload hx hb dX8_worth_215 (lv_at hl 3 rfl) ?_
            refine lv_iload hx hb dX8_worth_217 (lv_at hl 0 rfl) ?_
            refine lv_iconst (v := 1) hx hb dX8_worth_219 (by decide) ?_
            refine lv_isub hx hb dX8_worth_220 ?_
            obtain ⟨hi, hf⟩ := gi_some hf
            refine cl_1005 E hP hi dX8_worth_221 ?_
            refine lv_aload hx hb dX8_worth_222 (lv_at hl 3 rfl) ?_
            refine lv_iload hx hb dX8_worth_224 (lv_at hl 0 rfl) ?_
            obtain ⟨hi, hf⟩ := gi_some hf
            refine cl_1005 E hP hi dX8_worth_226 ?_
            obtain ⟨r5, hc, hf⟩ := bs_some hf
            refine s_calll (n := 3) (rest := [.int (x4 - (1 : Int32)), .ref (ad 1005)]) E.1 (tX8_joined l _ v10 (st.2.2.2.1 1005 (x4 - (1 : Int32)).toNatClampNeg) (st.2.2.2.1 1005 x4.toNatClampNeg) r5 hc) (gS k_528 k_529 k_8 k_530) qX8_joined ⟨Nat.le_of_ble_eq_true rfl, Nat.le_of_ble_eq_true rfl⟩ ⟨Nat.le_refl _, Nat.le_refl _⟩ rfl hl.1 rfl (Nat.le_of_ble_eq_true rfl) dX8_worth_227 ?_
            obtain ⟨hi, hf⟩ := gi_some hf
            refine cs_1005 E hD hP hS hi dX8_worth_230 (fun st6 H locs ex hP hS => ?_)
            replace hf := lt_at ex hf; clear ex
            refine lv_aload hx hb dX8_worth_231 (lv_at hl 3 rfl) ?_
            refine lv_iload hx hb dX8_worth_233 (lv_at hl 0 rfl) ?_
            refine lv_iconst (v := 1) hx hb dX8_worth_235 (by decide) ?_
            refine lv_isub hx hb dX8_worth_236 ?_
            obtain ⟨hi, hf⟩ := gi_some hf
            refine cl_1005 E hP hi dX8_worth_237 ?_
            refine lv_ldc2 (v := 1000000000) hx hb hown (hT _ k_532) dX8_worth_238 ?_
            refine W.lcmp hx hb dX8_worth_241 ?_
            refine lv_if_gt (tgt := 259) hx hb dX8_worth_242 (by decide) (fun hc => ?_) (fun hc => ?_)
            · replace hf := it_pos hc hf
              exact B259 st6 _ _ ls hf (lv_sub hl [] rfl) hP hS
            · replace hf := it_neg hc hf
              refine lv_aload hx hb dX8_worth_245 (lv_at hl 3 rfl) ?_
              refine lv_iload hx hb dX8_worth_247 (lv_at hl 0 rfl) ?_
              refine lv_iconst (v := 1) hx hb dX8_worth_249 (by decide) ?_
              refine lv_isub hx hb dX8_worth_250 ?_
              obtain ⟨hi, hf⟩ := gi_some hf
              refine cl_1005 E hP hi dX8_worth_251 ?_
              refine lv_ldc2 (v := -1000000000) hx hb hown (hT _ k_533) dX8_worth_252 ?_
              refine W.lcmp hx hb dX8_worth_255 ?_
              refine lv_if_ge (tgt := 330) hx hb dX8_worth_256 (by decide) (fun hc => ?_) (fun hc => ?_)
              · replace hf := it_pos hc hf
                exact B330 v6 x4 v8 v9 st6 _ _ ls hf (lv_sub hl [1, 2, 3, 4, 0, 5, 6] rfl) hP hS
              · replace hf := it_neg hc hf
                exact B259 st6 _ _ ls hf (lv_sub hl [] rfl) hP hS
        · replace hf := it_neg hc hf
          refine lv_ldc (v := -2147483648) hx hb hown (hT _ k_524) dX8_worth_194 ?_
          exact c_iret hx hb hr hlocks hf hP hS dX8_worth_196
      have B170 : ∀ (v6 : Int32) (v7 : Int32) (v8 : Int32) (v9 : Int32) (w0 : Int64) (w1 : Int32) (st : St) (H : Heap) (locs : List Loc) (ls : Array Slot), fX8_worth__6_1004_1005_b170 fz k74 v6 v7 v8 v9 w0 w1 st = some (rr, st') → lv_has ls 12 [(0, .ref (ad 699)), (3, .ref (ad 1004)), (4, .ref (ad 1005)), (6, .int v6), (7, .int v7), (8, .int v8), (9, .int v9)] → va_P D classes (cx cy ad fz st) H → va_S (cA ad fz s.heap.size) s.heap H locs → cGi l 1 D cy ad fz rr st' p e s m args below meth c H locs (F0 m 170 ls [.long w0, .int w1, .ref (ad 1005)]) := by
        intro v6 v7 v8 v9 w0 w1 st H locs ls hf hl hP hS
        unfold fX8_worth__6_1004_1005_b170 at hf
        obtain ⟨hi, hf⟩ := gi_some hf
        refine cs_1005 E hD hP hS hi dX8_worth_170 (fun st7 H locs ex hP hS => ?_)
        replace hf := lt_at ex hf; clear ex
        obtain ⟨x8, ex⟩ : ∃ y : Int32, y = v7 + (1 : Int32) := ⟨_, rfl⟩
        replace hf := lt_at ex hf
        refine lv_iinc (v := x8) (lv' := [(7, .int x8), (0, .ref (ad 699)), (3, .ref (ad 1004)), (4, .ref (ad 1005)), (6, .int v6), (8, .int v8), (9, .int v9)]) hx hb dX8_worth_171 hl (k := 4) rfl (by rw [ex]; rfl) (by decide) rfl (fun ls hl => ?_)
        clear ex
        refine lv_goto (tgt := 330) hx hb dX8_worth_174 (by decide) ?_
        exact B330 v6 x8 v8 v9 st7 _ _ ls hf (lv_sub hl [1, 2, 3, 4, 0, 5, 6] rfl) hP hS
      have B149 : ∀ (v6 : Int32) (v7 : Int32) (v8 : Int32) (v9 : Int32) (v10 : Int32) (v11 : Int32) (st : St) (H : Heap) (locs : List Loc) (ls : Array Slot), fX8_worth__6_1004_1005_b149 fz k74 v6 v7 v8 v9 v10 v11 st = some (rr, st') → lv_has ls 12 [(0, .ref (ad 699)), (3, .ref (ad 1004)), (4, .ref (ad 1005)), (6, .int v6), (7, .int v7), (8, .int v8), (9, .int v9), (10, .int v10), (11, .int v11)] → va_P D classes (cx cy ad fz st) H → va_S (cA ad fz s.heap.size) s.heap H locs → cGi l 1 D cy ad fz rr st' p e s m args below meth c H locs (F0 m 149 ls []) := by
        intro v6 v7 v8 v9 v10 v11 st H locs ls hf hl hP hS
        unfold fX8_worth__6_1004_1005_b149 at hf
        refine lv_aload hx hb dX8_worth_149 (lv_at hl 2 rfl) ?_
        refine lv_iload hx hb dX8_worth_151 (lv_at hl 4 rfl) ?_
        refine lv_iload hx hb dX8_worth_153 (lv_at hl 7 rfl) ?_
        refine lv_iconst (v := 1) hx hb dX8_worth_155 (by decide) ?_
        refine lv_icmp_ne (tgt := 167) hx hb dX8_worth_156 (by decide) (fun hc => ?_) (fun hc => ?_)
        · replace hf := it_neg hc hf
          refine lv_iload hx hb dX8_worth_167 (lv_at hl 8 rfl) ?_
          refine lv_i2l (v := v11.toInt64) hx hb dX8_worth_169 rfl ?_
          exact B170 v6 v7 v8 v9 (v11.toInt64) v7 st _ _ ls hf (lv_sub hl [0, 1, 2, 3, 4, 5, 6] rfl) hP hS
        · replace hf := it_pos hc hf
          refine lv_aload_n hx hb dX8_worth_159 rfl (lv_at hl 1 rfl) ?_
          refine lv_iload hx hb dX8_worth_160 (lv_at hl 8 rfl) ?_
          obtain ⟨hi, hf⟩ := gi_some hf
          refine cl_1004 E hP hi dX8_worth_162 ?_
          refine lv_i2l (v := (st.2.2.1 1004 v11.toNatClampNeg).toInt64) hx hb dX8_worth_163 rfl ?_
          refine lv_goto (tgt := 170) hx hb dX8_worth_164 (by decide) ?_
          exact B170 v6 v7 v8 v9 ((st.2.2.1 1004 v11.toNatClampNeg).toInt64) v7 st _ _ ls hf (lv_sub hl [0, 1, 2, 3, 4, 5, 6] rfl) hP hS
      unfold fX8_worth__6_1004_1005_b74 at hf
      refine lv_iload hx hb dX8_worth_74 (lv_at hl 6 rfl) ?_
      refine lv_iload hx hb dX8_worth_76 (lv_at hl 3 rfl) ?_
      refine lv_icmp_ge (tgt := 336) hx hb dX8_worth_78 (by decide) (fun hc => ?_) (fun hc => ?_)
      · replace hf := it_pos hc hf
        refine lv_iload hx hb dX8_worth_336 (lv_at hl 4 rfl) ?_
        refine lv_if_ne (tgt := 345) hx hb dX8_worth_338 (by decide) (fun hc => ?_) (fun hc => ?_)
        · replace hf := it_neg hc hf
          refine lv_aload hx hb dX8_worth_345 (lv_at hl 2 rfl) ?_
          refine lv_iload hx hb dX8_worth_347 (lv_at hl 4 rfl) ?_
          refine lv_iconst (v := 1) hx hb dX8_worth_349 (by decide) ?_
          refine lv_isub hx hb dX8_worth_350 ?_
          obtain ⟨hi, hf⟩ := gi_some hf
          refine cl_1005 E hP hi dX8_worth_351 ?_
          refine lv_l2i (v := (st.2.2.2.1 1005 (v7 - (1 : Int32)).toNatClampNeg).toInt32) hx hb dX8_worth_352 rfl ?_
          exact B353 ((st.2.2.2.1 1005 (v7 - (1 : Int32)).toNatClampNeg).toInt32) st _ _ ls hf (lv_sub hl [] rfl) hP hS
        · replace hf := it_pos hc hf
          refine lv_iconst (v := 1) hx hb dX8_worth_341 (by decide) ?_
          refine lv_goto (tgt := 353) hx hb dX8_worth_342 (by decide) ?_
          exact B353 (1 : Int32) st _ _ ls hf (lv_sub hl [] rfl) hP hS
      · replace hf := it_neg hc hf
        refine lv_aload_n hx hb dX8_worth_81 rfl (lv_at hl 0 rfl) ?_
        refine cg_8_21_6 E hP dX8_worth_82 ?_
        refine lv_iload hx hb dX8_worth_85 (lv_at hl 6 rfl) ?_
        obtain ⟨hi, hf⟩ := gi_some hf
        refine cl_603 E hP hi dX8_worth_87 ?_
        refine lv_bipush (v := 15) hx hb dX8_worth_88 (by decide) ?_
        refine lv_iand hx hb dX8_worth_90 ?_
        refine lv_topi (fun x9 ex => ?_)
        replace hf := lt_at ex hf; clear ex
        refine lv_istore (lv' := [(10, .int x9), (0, .ref (ad 699)), (3, .ref (ad 1004)), (4, .ref (ad 1005)), (6, .int v6), (7, .int v7), (8, .int v8), (9, .int v9)]) hx hb dX8_worth_91 hl (by decide) rfl (fun ls hl => ?_)
        refine lv_aload_n hx hb dX8_worth_93 rfl (lv_at hl 1 rfl) ?_
        refine cg_8_21_6 E hP dX8_worth_94 ?_
        refine lv_iload hx hb dX8_worth_97 (lv_at hl 7 rfl) ?_
        obtain ⟨hi, hf⟩ := gi_some hf
        refine cl_603 E hP hi dX8_worth_99 ?_
        refine lv_iconst (v := 4) hx hb dX8_worth_100 (by decide) ?_
        refine lv_ishr hx hb dX8_worth_101 ?_
        refine lv_topi (fun x10 ex => ?_)
        replace hf := lt_at ex hf; clear ex
        refine lv_istore (lv' := [(11, .int x10), (10, .int x9), (0, .ref (ad 699)), (3, .ref (ad 1004)), (4, .ref (ad 1005)), (6, .int v6), (7, .int v7), (8, .int v8), (9, .int v9)]) hx hb dX8_worth_102 hl (by decide) rfl (fun ls hl => ?_)
        refine lv_iload hx hb dX8_worth_104 (lv_at hl 8 rfl) ?_
        refine lv_iload hx hb dX8_worth_106 (lv_at hl 7 rfl) ?_
        refine lv_icmp_ge (tgt := 114) hx hb dX8_worth_108 (by decide) (fun hc => ?_) (fun hc => ?_)
        · replace hf := it_pos hc hf
          refine lv_iload hx hb dX8_worth_114 (lv_at hl 1 rfl) ?_
          refine lv_iconst (v := 1) hx hb dX8_worth_116 (by decide) ?_
          refine lv_icmp_gt (tgt := 177) hx hb dX8_worth_117 (by decide) (fun hc => ?_) (fun hc => ?_)
          · replace hf := it_pos hc hf
            refine lv_iload hx hb dX8_worth_177 (lv_at hl 6 rfl) ?_
            refine lv_iload hx hb dX8_worth_179 (lv_at hl 1 rfl) ?_
            refine lv_bipush (v := 10) hx hb dX8_worth_181 (by decide) ?_
            refine lv_icmp_ge (tgt := 190) hx hb dX8_worth_183 (by decide) (fun hc => ?_) (fun hc => ?_)
            · replace hf := it_pos hc hf
              refine lv_iconst (v := 1) hx hb dX8_worth_190 (by decide) ?_
              exact B191 v6 v7 v8 v9 x9 x10 (1 : Int32) v7 st _ _ ls hf (lv_sub hl [2, 3, 4, 5, 6, 7, 8, 1, 0] rfl) hP hS
            · replace hf := it_neg hc hf
              refine lv_iconst (v := 2) hx hb dX8_worth_186 (by decide) ?_
              refine lv_goto (tgt := 191) hx hb dX8_worth_187 (by decide) ?_
              exact B191 v6 v7 v8 v9 x9 x10 (2 : Int32) v7 st _ _ ls hf (lv_sub hl [2, 3, 4, 5, 6, 7, 8, 1, 0] rfl) hP hS
          · replace hf := it_neg hc hf
            refine lv_iload hx hb dX8_worth_120 (lv_at hl 6 rfl) ?_
            refine lv_aload hx hb dX8_worth_122 (lv_at hl 4 rfl) ?_
            refine cn_1005 E hP dX8_worth_124 ?_
            refine lv_icmp_ge (tgt := 146) hx hb dX8_worth_125 (by decide) (fun hc => ?_) (fun hc => ?_)
            · replace hf := it_pos hc hf
              exact B146 st _ _ ls hf (lv_sub hl [] rfl) hP hS
            · replace hf := it_neg hc hf
              refine lv_iload hx hb dX8_worth_128 (lv_at hl 0 rfl) ?_
              refine lv_if_lt (tgt := 146) hx hb dX8_worth_130 (by decide) (fun hc => ?_) (fun hc => ?_)
              · replace hf := it_pos hc hf
                exact B146 st _ _ ls hf (lv_sub hl [] rfl) hP hS
              · replace hf := it_neg hc hf
                refine lv_iload hx hb dX8_worth_133 (lv_at hl 1 rfl) ?_
                refine lv_iconst (v := 1) hx hb dX8_worth_135 (by decide) ?_
                refine lv_icmp_ne (tgt := 149) hx hb dX8_worth_136 (by decide) (fun hc => ?_) (fun hc => ?_)
                · replace hf := it_neg hc hf
                  exact B149 v6 v7 v8 v9 x9 x10 st _ _ ls hf (lv_sub hl [2, 3, 4, 5, 6, 7, 8, 1, 0] rfl) hP hS
                · replace hf := it_pos hc hf
                  refine lv_iload hx hb dX8_worth_139 (lv_at hl 0 rfl) ?_
                  refine lv_aload_n hx hb dX8_worth_141 rfl (lv_at hl 3 rfl) ?_
                  refine cn_1004 E hP dX8_worth_142 ?_
                  refine lv_icmp_lt (tgt := 149) hx hb dX8_worth_143 (by decide) (fun hc => ?_) (fun hc => ?_)
                  · replace hf := it_pos hc hf
                    exact B149 v6 v7 v8 v9 x9 x10 st _ _ ls hf (lv_sub hl [2, 3, 4, 5, 6, 7, 8, 1, 0] rfl) hP hS
                  · replace hf := it_neg hc hf
                    exact B146 st _ _ ls hf (lv_sub hl [] rfl) hP hS
        · replace hf := it_neg hc hf
          refine lv_goto (tgt := 330) hx hb dX8_worth_111 (by decide) ?_
          exact B330 v6 v7 v8 v9 st _ _ ls hf (lv_sub hl [2, 3, 4, 5, 6, 7, 8] rfl) hP hS
  refine lv_iload_n hx hb dX8_worth_0 rfl (lv_at hl 1 rfl) ?_
  refine lv_iconst (v := 4) hx hb dX8_worth_1 (by decide) ?_
  refine lv_imul hx hb dX8_worth_2 ?_
  refine lv_iload_n hx hb dX8_worth_3 rfl (lv_at hl 2 rfl) ?_
  refine lv_iadd hx hb dX8_worth_4 ?_
  refine lv_topi (fun x11 ex => ?_)
  replace hf := lt_at ex hf; clear ex
  refine lv_istore (lv' := [(5, .int x11), (0, .ref (ad 699)), (1, .int a0), (2, .int a1), (3, .ref (ad 1004)), (4, .ref (ad 1005))]) hx hb dX8_worth_5 hl (by decide) rfl (fun ls hl => ?_)
  refine lv_iload_n hx hb dX8_worth_7 rfl (lv_at hl 2 rfl) ?_
  refine lv_if_lt (tgt := 38) hx hb dX8_worth_8 (by decide) (fun hc => ?_) (fun hc => ?_)
  · replace hf := it_pos hc hf
    exact B38 st _ _ ls hf (lv_sub hl [] rfl) hP hS
  · replace hf := it_neg hc hf
    refine lv_iload_n hx hb dX8_worth_11 rfl (lv_at hl 2 rfl) ?_
    refine lv_aload_n hx hb dX8_worth_12 rfl (lv_at hl 1 rfl) ?_
    refine cg_8_24_6 E hP dX8_worth_13 ?_
    refine lv_icmp_ge (tgt := 38) hx hb dX8_worth_16 (by decide) (fun hc => ?_) (fun hc => ?_)
    · replace hf := it_pos hc hf
      exact B38 st _ _ ls hf (lv_sub hl [] rfl) hP hS
    · replace hf := it_neg hc hf
      refine lv_iload_n hx hb dX8_worth_19 rfl (lv_at hl 3 rfl) ?_
      refine lv_if_lt (tgt := 38) hx hb dX8_worth_20 (by decide) (fun hc => ?_) (fun hc => ?_)
      · replace hf := it_pos hc hf
        exact B38 st _ _ ls hf (lv_sub hl [] rfl) hP hS
      · replace hf := it_neg hc hf
        refine lv_iload_n hx hb dX8_worth_23 rfl (lv_at hl 3 rfl) ?_
        refine lv_iconst (v := 2) hx hb dX8_worth_24 (by decide) ?_
        refine lv_icmp_gt (tgt := 38) hx hb dX8_worth_25 (by decide) (fun hc => ?_) (fun hc => ?_)
        · replace hf := it_pos hc hf
          exact B38 st _ _ ls hf (lv_sub hl [] rfl) hP hS
        · replace hf := it_neg hc hf
          refine lv_aload_n hx hb dX8_worth_28 rfl (lv_at hl 1 rfl) ?_
          refine cg_8_16_6 E hP dX8_worth_29 ?_
          refine lv_iload hx hb dX8_worth_32 (lv_at hl 0 rfl) ?_
          obtain ⟨hi, hf⟩ := gi_some hf
          refine cl_602 E hP hi dX8_worth_34 ?_
          refine lv_if_ge (tgt := 41) hx hb dX8_worth_35 (by decide) (fun hc => ?_) (fun hc => ?_)
          · replace hf := it_pos hc hf
            refine lv_aload_n hx hb dX8_worth_41 rfl (lv_at hl 1 rfl) ?_
            refine cg_8_16_6 E hP dX8_worth_42 ?_
            refine lv_iload hx hb dX8_worth_45 (lv_at hl 0 rfl) ?_
            refine lv_iconst (v := 1) hx hb dX8_worth_47 (by decide) ?_
            refine lv_iadd hx hb dX8_worth_48 ?_
            obtain ⟨hi, hf⟩ := gi_some hf
            refine cl_602 E hP hi dX8_worth_49 ?_
            refine lv_aload_n hx hb dX8_worth_50 rfl (lv_at hl 1 rfl) ?_
            refine cg_8_34_6 E hP dX8_worth_51 ?_
            refine va_mmin hx hb (E.1.2.2.1.trans hl.1.symm) hown (hT _ k_525) (hT _ k_526) (hT _ k_15) (hT _ k_527) (Nat.le_of_ble_eq_true rfl) (Nat.le_of_ble_eq_true rfl) (Nat.zero_le _) (Nat.zero_le _) dX8_worth_54 ?_
            refine lv_topi (fun x12 ex => ?_)
            replace hf := lt_at ex hf; clear ex
            refine lv_istore (lv' := [(6, .int x12), (5, .int x11), (0, .ref (ad 699)), (1, .int a0), (2, .int a1), (3, .ref (ad 1004)), (4, .ref (ad 1005))]) hx hb dX8_worth_57 hl (by decide) rfl (fun ls hl => ?_)
            refine lv_iconst (v := 0) hx hb dX8_worth_59 (by decide) ?_
            refine lv_istore (lv' := [(7, .int (0 : Int32)), (6, .int x12), (5, .int x11), (0, .ref (ad 699)), (1, .int a0), (2, .int a1), (3, .ref (ad 1004)), (4, .ref (ad 1005))]) hx hb dX8_worth_60 hl (by decide) rfl (fun ls hl => ?_)
            refine lv_iconst (v := 0) hx hb dX8_worth_62 (by decide) ?_
            refine lv_istore (lv' := [(8, .int (0 : Int32)), (7, .int (0 : Int32)), (6, .int x12), (5, .int x11), (0, .ref (ad 699)), (1, .int a0), (2, .int a1), (3, .ref (ad 1004)), (4, .ref (ad 1005))]) hx hb dX8_worth_63 hl (by decide) rfl (fun ls hl => ?_)
            refine lv_aload_n hx hb dX8_worth_65 rfl (lv_at hl 4 rfl) ?_
            refine cg_8_16_6 E hP dX8_worth_66 ?_
            refine lv_iload hx hb dX8_worth_69 (lv_at hl 3 rfl) ?_
            obtain ⟨hi, hf⟩ := gi_some hf
            refine cl_602 E hP hi dX8_worth_71 ?_
            refine lv_topi (fun x13 ex => ?_)
            replace hf := lt_at ex hf; clear ex
            refine lv_istore (lv' := [(9, .int x13), (8, .int (0 : Int32)), (7, .int (0 : Int32)), (6, .int x12), (5, .int x11), (0, .ref (ad 699)), (1, .int a0), (2, .int a1), (3, .ref (ad 1004)), (4, .ref (ad 1005))]) hx hb dX8_worth_72 hl (by decide) rfl (fun ls hl => ?_)
            exact L74 6000 x12 (0 : Int32) (0 : Int32) x13 st _ _ ls hf (lv_sub hl [5, 8, 9, 3, 2, 1, 0] rfl) hP hS
          · replace hf := it_neg hc hf
            exact B38 st _ _ ls hf (lv_sub hl [] rfl) hP hS
def fX2_refusalOf_b26 (fz : List FP) (st : St) : Option (Int32 × St) := some ((-1 : Int32), st)
def fX2_refusalOf_b193 (fz : List FP) (w0 : Int32) (st : St) : Option (Int32 × St) := some (w0, st)
def fX2_refusalOf_b182 (fz : List FP) (v4 : Int32) (st : St) : Option (Int32 × St) := if v4 = 0 then (fX2_refusalOf_b193 fz (-3 : Int32) st) else (fX2_refusalOf_b193 fz (0 : Int32) st)
def fX2_refusalOf_b180 (fz : List FP) (w0 : Int32) (st : St) : Option (Int32 × St) := fX2_refusalOf_b182 fz w0 st
def fX2_refusalOf_b179 (fz : List FP) (st : St) : Option (Int32 × St) := fX2_refusalOf_b180 fz (0 : Int32) st
def fX2_refusalOf_b146 (fz : List FP) (v1 : Int32) (v2 : Int32) (v3 : Int32) (w0 : Int32) (st : St) : Option (Int32 × St) := if v1 = (1 : Int32) then (fX2_refusalOf_b180 fz w0 st) else (if w0 = 0 then (bd (fX5_bars v2 v3 fz st) (fun r1 st2 => if r1 = 0 then (fX2_refusalOf_b180 fz (1 : Int32) st2) else (fX2_refusalOf_b179 fz st2))) else (fX2_refusalOf_b179 fz st))
def fX2_refusalOf_b86 (fz : List FP) (w0 : Int32) (st : St) : Option (Int32 × St) := fX2_refusalOf_b182 fz w0 st
def fX2_refusalOf (a0 : Int32) (a1 : Int32) (a2 : Int32) (fz : List FP) (st : St) : Option (Int32 × St) := bs (fX11_within a0 (0 : Int32) (3 : Int32)) (fun r3 => if r3 = 0 then (fX2_refusalOf_b26 fz st) else (gi a0 4 (gi a0 4 (bs (fX11_within a2 (leastF a0.toNatClampNeg) (mostF a0.toNatClampNeg)) (fun r4 => if r4 = 0 then (fX2_refusalOf_b26 fz st) else (bd (fX6_has a1 fz st) (fun r5 st6 => if r5 = 0 then (some ((-2 : Int32), st6)) else (gi a1 6 (if (st6.2.2.1 202 a1.toNatClampNeg) = 0 then (if a0 = (3 : Int32) then (if (999 : Int32) ≤ (st6.1 204) then (fX2_refusalOf_b86 fz (0 : Int32) st6) else (fX2_refusalOf_b86 fz (1 : Int32) st6)) else (if a0 = (2 : Int32) then (gi a1 6 (bs (fX11_within ((st6.2.2.1 200 a1.toNatClampNeg) + a2) (0 : Int32) (99 : Int32)) (fun r7 => fX2_refusalOf_b182 fz r7 st6))) else (gi a1 6 (if (((st6.2.2.1 201 a1.toNatClampNeg) >>> (a2 &&& 31)) &&& (1 : Int32)) = (1 : Int32) then (fX2_refusalOf_b146 fz a0 a1 a2 (1 : Int32) st6) else (fX2_refusalOf_b146 fz a0 a1 a2 (0 : Int32) st6))))) else (some ((-3 : Int32), st6)))))))))))
set_option maxHeartbeats 4000000 in
set_option maxRecDepth 100000 in
theorem tX2_refusalOf (l : Launch) (D : va_G) (cy : Nat → ClassId) (ad : Nat → Nat) (fz : List FP) (hJ : (cads ad fz).Nodup) (sz : Nat) (a0 : Int32) (a1 : Int32) (a2 : Int32) (st : St) (rr : Int32) (st' : St) (hf : fX2_refusalOf a0 a1 a2 fz st = some (rr, st')) : Met l yX2_refusalOf (Cond.code yX2_refusalOf cX2_refusalOf 6 (some .int) :: TT) (rmD 4) (cPc D cy ad fz [.ref (ad 999), .int a0, .int a1, .int a2] st sz) (cQi D cy ad fz rr st' sz) 0 0 (cA ad fz sz) := by
  refine c_meti (by decide) hJ (Nat.le_of_ble_eq_true rfl) (fun p e s m args below meth c ls E hx hb hr hlocks hown hT hD hN hl hP hS => ?_)
  replace hl : lv_has ls 6 [(0, .ref (ad 999)), (1, .int a0), (2, .int a1), (3, .int a2)] := hl
  unfold fX2_refusalOf at hf
  have B26 : ∀ (st : St) (H : Heap) (locs : List Loc) (ls : Array Slot), fX2_refusalOf_b26 fz st = some (rr, st') → lv_has ls 6 [] → va_P D classes (cx cy ad fz st) H → va_S (cA ad fz s.heap.size) s.heap H locs → cGi l 4 D cy ad fz rr st' p e s m args below meth c H locs (F0 m 26 ls []) := by
    intro st H locs ls hf hl hP hS
    unfold fX2_refusalOf_b26 at hf
    refine lv_iconst (v := -1) hx hb dX2_refusalOf_26 (by decide) ?_
    exact c_iret hx hb hr hlocks hf hP hS dX2_refusalOf_27
  have B193 : ∀ (w0 : Int32) (st : St) (H : Heap) (locs : List Loc) (ls : Array Slot), fX2_refusalOf_b193 fz w0 st = some (rr, st') → lv_has ls 6 [] → va_P D classes (cx cy ad fz st) H → va_S (cA ad fz s.heap.size) s.heap H locs → cGi l 4 D cy ad fz rr st' p e s m args below meth c H locs (F0 m 193 ls [.int w0]) := by
    intro w0 st H locs ls hf hl hP hS
    unfold fX2_refusalOf_b193 at hf
    exact c_iret hx hb hr hlocks hf hP hS dX2_refusalOf_193
  have B182 : ∀ (v4 : Int32) (st : St) (H : Heap) (locs : List Loc) (ls : Array Slot), fX2_refusalOf_b182 fz v4 st = some (rr, st') → lv_has ls 6 [(4, .int v4)] → va_P D classes (cx cy ad fz st) H → va_S (cA ad fz s.heap.size) s.heap H locs → cGi l 4 D cy ad fz rr st' p e s m args below meth c H locs (F0 m 182 ls []) := by
    intro v4 st H locs ls hf hl hP hS
    unfold fX2_refusalOf_b182 at hf
    refine lv_iload hx hb dX2_refusalOf_182 (lv_at hl 0 rfl) ?_
    refine lv_if_eq (tgt := 191) hx hb dX2_refusalOf_184 (by decide) (fun hc => ?_) (fun hc => ?_)
    · replace hf := it_pos hc hf
      refine lv_bipush (v := -3) hx hb dX2_refusalOf_191 (by decide) ?_
      exact B193 (-3 : Int32) st _ _ ls hf (lv_sub hl [] rfl) hP hS
    · replace hf := it_neg hc hf
      refine lv_iconst (v := 0) hx hb dX2_refusalOf_187 (by decide) ?_
      refine lv_goto (tgt := 193) hx hb dX2_refusalOf_188 (by decide) ?_
      exact B193 (0 : Int32) st _ _ ls hf (lv_sub hl [] rfl) hP hS
  have B180 : ∀ (w0 : Int32) (st : St) (H : Heap) (locs : List Loc) (ls : Array Slot), fX2_refusalOf_b180 fz w0 st = some (rr, st') → lv_has ls 6 [] → va_P D classes (cx cy ad fz st) H → va_S (cA ad fz s.heap.size) s.heap H locs → cGi l 4 D cy ad fz rr st' p e s m args below meth c H locs (F0 m 180 ls [.int w0]) := by
    intro w0 st H locs ls hf hl hP hS
    unfold fX2_refusalOf_b180 at hf
    refine lv_istore (lv' := [(4, .int w0)]) hx hb dX2_refusalOf_180 hl (by decide) rfl (fun ls hl => ?_)
    exact B182 w0 st _ _ ls hf hl hP hS
  have B179 : ∀ (st : St) (H : Heap) (locs : List Loc) (ls : Array Slot), fX2_refusalOf_b179 fz st = some (rr, st') → lv_has ls 6 [] → va_P D classes (cx cy ad fz st) H → va_S (cA ad fz s.heap.size) s.heap H locs → cGi l 4 D cy ad fz rr st' p e s m args below meth c H locs (F0 m 179 ls []) := by
    intro st H locs ls hf hl hP hS
    unfold fX2_refusalOf_b179 at hf
    refine lv_iconst (v := 0) hx hb dX2_refusalOf_179 (by decide) ?_
    exact B180 (0 : Int32) st _ _ ls hf hl hP hS
  have B146 : ∀ (v1 : Int32) (v2 : Int32) (v3 : Int32) (w0 : Int32) (st : St) (H : Heap) (locs : List Loc) (ls : Array Slot), fX2_refusalOf_b146 fz v1 v2 v3 w0 st = some (rr, st') → lv_has ls 6 [(0, .ref (ad 999)), (1, .int v1), (2, .int v2), (3, .int v3)] → va_P D classes (cx cy ad fz st) H → va_S (cA ad fz s.heap.size) s.heap H locs → cGi l 4 D cy ad fz rr st' p e s m args below meth c H locs (F0 m 146 ls [.int w0]) := by
    intro v1 v2 v3 w0 st H locs ls hf hl hP hS
    unfold fX2_refusalOf_b146 at hf
    refine lv_istore (lv' := [(5, .int w0), (0, .ref (ad 999)), (1, .int v1), (2, .int v2), (3, .int v3)]) hx hb dX2_refusalOf_146 hl (by decide) rfl (fun ls hl => ?_)
    refine lv_iload_n hx hb dX2_refusalOf_148 rfl (lv_at hl 2 rfl) ?_
    refine lv_iconst (v := 1) hx hb dX2_refusalOf_149 (by decide) ?_
    refine lv_icmp_ne (tgt := 158) hx hb dX2_refusalOf_150 (by decide) (fun hc => ?_) (fun hc => ?_)
    · replace hf := it_neg hc hf
      refine lv_iload hx hb dX2_refusalOf_158 (lv_at hl 0 rfl) ?_
      refine lv_if_ne (tgt := 179) hx hb dX2_refusalOf_160 (by decide) (fun hc => ?_) (fun hc => ?_)
      · replace hf := it_neg hc hf
        exact B179 st _ _ ls hf (lv_sub hl [] rfl) hP hS
      · replace hf := it_pos hc hf
        refine lv_aload_n hx hb dX2_refusalOf_163 rfl (lv_at hl 1 rfl) ?_
        refine cg_2_22_9 E hP dX2_refusalOf_164 ?_
        refine lv_iload_n hx hb dX2_refusalOf_167 rfl (lv_at hl 3 rfl) ?_
        refine lv_iload_n hx hb dX2_refusalOf_168 rfl (lv_at hl 4 rfl) ?_
        obtain ⟨r1, st2, hc, hf⟩ := bd_some hf
        refine c_calli (n := 2) (rest := []) E hN hP hS (fun sz => tX5_bars l D cy ad fz hJ sz v2 v3 st r1 st2 hc) (va_recv E.2 hP (ci := 5) (q0 := 36) rfl rfl) (gV k_827 k_540 k_541 k_10 k_542) qX5_bars ⟨Nat.le_of_ble_eq_true rfl, Nat.le_of_ble_eq_true rfl⟩ ⟨Nat.le_refl _, Nat.le_refl _⟩ rfl hl.1 rfl (Nat.le_of_ble_eq_true rfl) dX2_refusalOf_169 (fun H locs hP hS => ?_)
        refine lv_if_ne (tgt := 179) hx hb dX2_refusalOf_172 (by decide) (fun hc => ?_) (fun hc => ?_)
        · replace hf := it_neg hc hf
          exact B179 st2 _ _ ls hf (lv_sub hl [] rfl) hP hS
        · replace hf := it_pos hc hf
          refine lv_iconst (v := 1) hx hb dX2_refusalOf_175 (by decide) ?_
          refine lv_goto (tgt := 180) hx hb dX2_refusalOf_176 (by decide) ?_
          exact B180 (1 : Int32) st2 _ _ ls hf (lv_sub hl [] rfl) hP hS
    · replace hf := it_pos hc hf
      refine lv_iload hx hb dX2_refusalOf_153 (lv_at hl 0 rfl) ?_
      refine lv_goto (tgt := 180) hx hb dX2_refusalOf_155 (by decide) ?_
      exact B180 w0 st _ _ ls hf (lv_sub hl [] rfl) hP hS
  have B86 : ∀ (w0 : Int32) (st : St) (H : Heap) (locs : List Loc) (ls : Array Slot), fX2_refusalOf_b86 fz w0 st = some (rr, st') → lv_has ls 6 [] → va_P D classes (cx cy ad fz st) H → va_S (cA ad fz s.heap.size) s.heap H locs → cGi l 4 D cy ad fz rr st' p e s m args below meth c H locs (F0 m 86 ls [.int w0]) := by
    intro w0 st H locs ls hf hl hP hS
    unfold fX2_refusalOf_b86 at hf
    refine lv_istore (lv' := [(4, .int w0)]) hx hb dX2_refusalOf_86 hl (by decide) rfl (fun ls hl => ?_)
    refine lv_goto (tgt := 182) hx hb dX2_refusalOf_88 (by decide) ?_
    exact B182 w0 st _ _ ls hf hl hP hS
  refine lv_iload_n hx hb dX2_refusalOf_0 rfl (lv_at hl 1 rfl) ?_
  refine lv_iconst (v := 0) hx hb dX2_refusalOf_1 (by decide) ?_
  refine lv_iconst (v := 3) hx hb dX2_refusalOf_2 (by decide) ?_
  obtain ⟨r3, hc, hf⟩ := bs_some hf
  refine s_calliN (n := 3) (rest := []) E.1 (tX11_within l _ a0 (0 : Int32) (3 : Int32) r3 hc) (hN.1 (Cond.methodLinkNest "OpenGates$Deeds" 41 ⟨"OpenGates", "within", "(III)Z"⟩ "OpenGates") (List.mem_of_getElem? (i := 8) rfl)) k_458 k_1 k_459 qX11_within.2 ⟨Nat.le_of_ble_eq_true rfl, Nat.le_of_ble_eq_true rfl⟩ ⟨Nat.le_refl _, Nat.le_refl _⟩ rfl hl.1 rfl (Nat.le_of_ble_eq_true rfl) dX2_refusalOf_3 ?_
  refine lv_if_eq (tgt := 26) hx hb dX2_refusalOf_6 (by decide) (fun hc => ?_) (fun hc => ?_)
  · replace hf := it_pos hc hf
    exact B26 st _ _ ls hf (lv_sub hl [] rfl) hP hS
  · replace hf := it_neg hc hf
    refine lv_iload_n hx hb dX2_refusalOf_9 rfl (lv_at hl 3 rfl) ?_
    obtain ⟨tLEAST, hZLEAST, hTLEAST⟩ := hN.2.1
    refine va_gets hx hb hZLEAST hS hown (hT _ k_822) (fun _ h => h) dX2_refusalOf_10 ?_
    refine lv_iload_n hx hb dX2_refusalOf_13 rfl (lv_at hl 1 rfl) ?_
    obtain ⟨hi, hf⟩ := gi_some hf
    refine va_ti hx hb hTLEAST hS hi rfl dX2_refusalOf_14 ?_
    obtain ⟨tMOST, hZMOST, hTMOST⟩ := hN.2.2.1
    refine va_gets hx hb hZMOST hS hown (hT _ k_824) (fun _ h => h) dX2_refusalOf_15 ?_
    refine lv_iload_n hx hb dX2_refusalOf_18 rfl (lv_at hl 1 rfl) ?_
    obtain ⟨hi, hf⟩ := gi_some hf
    refine va_ti hx hb hTMOST hS hi rfl dX2_refusalOf_19 ?_
    obtain ⟨r4, hc, hf⟩ := bs_some hf
    refine s_calliN (n := 3) (rest := []) E.1 (tX11_within l _ a2 (leastF a0.toNatClampNeg) (mostF a0.toNatClampNeg) r4 hc) (hN.1 (Cond.methodLinkNest "OpenGates$Deeds" 41 ⟨"OpenGates", "within", "(III)Z"⟩ "OpenGates") (List.mem_of_getElem? (i := 8) rfl)) k_458 k_1 k_459 qX11_within.2 ⟨Nat.le_of_ble_eq_true rfl, Nat.le_of_ble_eq_true rfl⟩ ⟨Nat.le_refl _, Nat.le_refl _⟩ rfl hl.1 rfl (Nat.le_of_ble_eq_true rfl) dX2_refusalOf_20 ?_
    refine lv_if_ne (tgt := 28) hx hb dX2_refusalOf_23 (by decide) (fun hc => ?_) (fun hc => ?_)
    · replace hf := it_neg hc hf
      refine lv_aload_n hx hb dX2_refusalOf_28 rfl (lv_at hl 0 rfl) ?_
      refine cg_2_18_9 E hP dX2_refusalOf_29 ?_
      refine lv_iload_n hx hb dX2_refusalOf_32 rfl (lv_at hl 2 rfl) ?_
      obtain ⟨r5, st6, hc, hf⟩ := bd_some hf
      refine c_calli (n := 1) (rest := []) E hN hP hS (fun sz => tX6_has l D cy ad fz hJ sz a1 st r5 st6 hc) (va_recv E.2 hP (ci := 6) (q0 := 3) rfl rfl) (gV k_826 k_478 k_479 k_2 k_480) qX6_has ⟨Nat.le_of_ble_eq_true rfl, Nat.le_of_ble_eq_true rfl⟩ ⟨Nat.le_refl _, Nat.le_refl _⟩ rfl hl.1 rfl (Nat.le_of_ble_eq_true rfl) dX2_refusalOf_33 (fun H locs hP hS => ?_)
      refine lv_if_ne (tgt := 42) hx hb dX2_refusalOf_36 (by decide) (fun hc => ?_) (fun hc => ?_)
      · replace hf := it_neg hc hf
        refine lv_aload_n hx hb dX2_refusalOf_42 rfl (lv_at hl 0 rfl) ?_
        refine cg_2_18_9 E hP dX2_refusalOf_43 ?_
        refine cg_2_57_1 E hP dX2_refusalOf_46 ?_
        refine cg_2_61_2 E hP dX2_refusalOf_49 ?_
        refine lv_iload_n hx hb dX2_refusalOf_52 rfl (lv_at hl 2 rfl) ?_
        obtain ⟨hi, hf⟩ := gi_some hf
        refine cl_202 E hP hi dX2_refusalOf_53 ?_
        refine lv_if_eq (tgt := 60) hx hb dX2_refusalOf_54 (by decide) (fun hc => ?_) (fun hc => ?_)
        · replace hf := it_pos hc hf
          refine lv_iload_n hx hb dX2_refusalOf_60 rfl (lv_at hl 1 rfl) ?_
          refine lv_iconst (v := 3) hx hb dX2_refusalOf_61 (by decide) ?_
          refine lv_icmp_ne (tgt := 91) hx hb dX2_refusalOf_62 (by decide) (fun hc => ?_) (fun hc => ?_)
          · replace hf := it_neg hc hf
            refine lv_iload_n hx hb dX2_refusalOf_91 rfl (lv_at hl 1 rfl) ?_
            refine lv_iconst (v := 2) hx hb dX2_refusalOf_92 (by decide) ?_
            refine lv_icmp_ne (tgt := 121) hx hb dX2_refusalOf_93 (by decide) (fun hc => ?_) (fun hc => ?_)
            · replace hf := it_neg hc hf
              refine lv_aload_n hx hb dX2_refusalOf_121 rfl (lv_at hl 0 rfl) ?_
              refine cg_2_18_9 E hP dX2_refusalOf_122 ?_
              refine cg_2_57_1 E hP dX2_refusalOf_125 ?_
              refine cg_2_73_2 E hP dX2_refusalOf_128 ?_
              refine lv_iload_n hx hb dX2_refusalOf_131 rfl (lv_at hl 2 rfl) ?_
              obtain ⟨hi, hf⟩ := gi_some hf
              refine cl_201 E hP hi dX2_refusalOf_132 ?_
              refine lv_iload_n hx hb dX2_refusalOf_133 rfl (lv_at hl 3 rfl) ?_
              refine lv_ishr hx hb dX2_refusalOf_134 ?_
              refine lv_iconst (v := 1) hx hb dX2_refusalOf_135 (by decide) ?_
              refine lv_iand hx hb dX2_refusalOf_136 ?_
              refine lv_iconst (v := 1) hx hb dX2_refusalOf_137 (by decide) ?_
              refine lv_icmp_ne (tgt := 145) hx hb dX2_refusalOf_138 (by decide) (fun hc => ?_) (fun hc => ?_)
              · replace hf := it_neg hc hf
                refine lv_iconst (v := 0) hx hb dX2_refusalOf_145 (by decide) ?_
                exact B146 a0 a1 a2 (0 : Int32) st6 _ _ ls hf hl hP hS
              · replace hf := it_pos hc hf
                refine lv_iconst (v := 1) hx hb dX2_refusalOf_141 (by decide) ?_
                refine lv_goto (tgt := 146) hx hb dX2_refusalOf_142 (by decide) ?_
                exact B146 a0 a1 a2 (1 : Int32) st6 _ _ ls hf hl hP hS
            · replace hf := it_pos hc hf
              refine lv_aload_n hx hb dX2_refusalOf_96 rfl (lv_at hl 0 rfl) ?_
              refine cg_2_18_9 E hP dX2_refusalOf_97 ?_
              refine cg_2_57_1 E hP dX2_refusalOf_100 ?_
              refine cg_2_70_2 E hP dX2_refusalOf_103 ?_
              refine lv_iload_n hx hb dX2_refusalOf_106 rfl (lv_at hl 2 rfl) ?_
              obtain ⟨hi, hf⟩ := gi_some hf
              refine cl_200 E hP hi dX2_refusalOf_107 ?_
              refine lv_iload_n hx hb dX2_refusalOf_108 rfl (lv_at hl 3 rfl) ?_
              refine lv_iadd hx hb dX2_refusalOf_109 ?_
              refine lv_iconst (v := 0) hx hb dX2_refusalOf_110 (by decide) ?_
              refine lv_bipush (v := 99) hx hb dX2_refusalOf_111 (by decide) ?_
              obtain ⟨r7, hc, hf⟩ := bs_some hf
              refine s_calliN (n := 3) (rest := []) E.1 (tX11_within l _ ((st6.2.2.1 200 a1.toNatClampNeg) + a2) (0 : Int32) (99 : Int32) r7 hc) (hN.1 (Cond.methodLinkNest "OpenGates$Deeds" 41 ⟨"OpenGates", "within", "(III)Z"⟩ "OpenGates") (List.mem_of_getElem? (i := 8) rfl)) k_458 k_1 k_459 qX11_within.2 ⟨Nat.le_of_ble_eq_true rfl, Nat.le_of_ble_eq_true rfl⟩ ⟨Nat.le_refl _, Nat.le_refl _⟩ rfl hl.1 rfl (Nat.le_of_ble_eq_true rfl) dX2_refusalOf_113 ?_
              refine lv_istore (lv' := [(4, .int r7), (0, .ref (ad 999)), (1, .int a0), (2, .int a1), (3, .int a2)]) hx hb dX2_refusalOf_116 hl (by decide) rfl (fun ls hl => ?_)
              refine lv_goto (tgt := 182) hx hb dX2_refusalOf_118 (by decide) ?_
              exact B182 r7 st6 _ _ ls hf (lv_sub hl [0] rfl) hP hS
          · replace hf := it_pos hc hf
            refine lv_aload_n hx hb dX2_refusalOf_65 rfl (lv_at hl 0 rfl) ?_
            refine cg_2_18_9 E hP dX2_refusalOf_66 ?_
            refine cg_2_57_1 E hP dX2_refusalOf_69 ?_
            refine cg_2_66_2 E hP dX2_refusalOf_72 ?_
            refine lv_sipush (v := 999) hx hb dX2_refusalOf_75 (by decide) ?_
            refine lv_icmp_ge (tgt := 85) hx hb dX2_refusalOf_78 (by decide) (fun hc => ?_) (fun hc => ?_)
            · replace hf := it_pos hc hf
              refine lv_iconst (v := 0) hx hb dX2_refusalOf_85 (by decide) ?_
              exact B86 (0 : Int32) st6 _ _ ls hf (lv_sub hl [] rfl) hP hS
            · replace hf := it_neg hc hf
              refine lv_iconst (v := 1) hx hb dX2_refusalOf_81 (by decide) ?_
              refine lv_goto (tgt := 86) hx hb dX2_refusalOf_82 (by decide) ?_
              exact B86 (1 : Int32) st6 _ _ ls hf (lv_sub hl [] rfl) hP hS
        · replace hf := it_neg hc hf
          refine lv_bipush (v := -3) hx hb dX2_refusalOf_57 (by decide) ?_
          exact c_iret hx hb hr hlocks hf hP hS dX2_refusalOf_59
      · replace hf := it_pos hc hf
        refine lv_bipush (v := -2) hx hb dX2_refusalOf_39 (by decide) ?_
        exact c_iret hx hb hr hlocks hf hP hS dX2_refusalOf_41
    · replace hf := it_pos hc hf
      exact B26 st _ _ ls hf (lv_sub hl [] rfl) hP hS
def fX2_remember_b36 (fz : List FP) (v1 : Int32) (v2 : Int32) (st : St) : Option (Unit × St) := lt ((st.1 905) * (7 : Int32)) (fun x1 => gi x1 112 (lt (sA st 902 (upd (st.2.2.1 902) x1.toNatClampNeg v1)) (fun st2 => gi (x1 + (1 : Int32)) 112 (lt (sA st2 902 (upd (st2.2.2.1 902) (x1 + (1 : Int32)).toNatClampNeg v2)) (fun st3 => gi v2 6 (gi (x1 + (2 : Int32)) 112 (lt (sA st3 902 (upd (st3.2.2.1 902) (x1 + (2 : Int32)).toNatClampNeg (st3.2.2.1 200 v2.toNatClampNeg))) (fun st4 => gi v2 6 (gi (x1 + (3 : Int32)) 112 (lt (sA st4 902 (upd (st4.2.2.1 902) (x1 + (3 : Int32)).toNatClampNeg (st4.2.2.1 201 v2.toNatClampNeg))) (fun st5 => gi v2 6 (gi (x1 + (4 : Int32)) 112 (lt (sA st5 902 (upd (st5.2.2.1 902) (x1 + (4 : Int32)).toNatClampNeg (st5.2.2.1 202 v2.toNatClampNeg))) (fun st6 => gi v2 6 (gi (st6.2.2.1 103 v2.toNatClampNeg) 4 (gi (x1 + (5 : Int32)) 112 (lt (sA st6 902 (upd (st6.2.2.1 902) (x1 + (5 : Int32)).toNatClampNeg (st6.2.2.1 203 (st6.2.2.1 103 v2.toNatClampNeg).toNatClampNeg))) (fun st7 => gi (x1 + (6 : Int32)) 112 (lt (sA st7 902 (upd (st7.2.2.1 902) (x1 + (6 : Int32)).toNatClampNeg (st7.1 204))) (fun st8 => lt (sI st8 905 ((st8.1 905) + (1 : Int32))) (fun st9 => some ((), st9))))))))))))))))))))))
def fX2_remember (a0 : Int32) (a1 : Int32) (fz : List FP) (st : St) : Option (Unit × St) := if (st.1 905) < (16 : Int32) then (fX2_remember_b36 fz a0 a1 st) else (lt (sI st 905 (15 : Int32)) (fun st10 => gcp (7 : Int32) (0 : Int32) ((st10.1 905) * (7 : Int32)) 112 112 (lt (sA st10 902 (va_cpy (st10.2.2.1 902) (st10.2.2.1 902) (7 : Int32).toNatClampNeg (0 : Int32).toNatClampNeg ((st10.1 905) * (7 : Int32)).toNatClampNeg)) (fun st11 => fX2_remember_b36 fz a0 a1 st11))))
set_option maxHeartbeats 4000000 in
set_option maxRecDepth 100000 in
theorem tX2_remember (l : Launch) (D : va_G) (cy : Nat → ClassId) (ad : Nat → Nat) (fz : List FP) (hJ : (cads ad fz).Nodup) (sz : Nat) (a0 : Int32) (a1 : Int32) (st : St) (rr : Unit) (st' : St) (hf : fX2_remember a0 a1 fz st = some (rr, st')) : Met l yX2_remember (Cond.code yX2_remember cX2_remember 4 none :: TT) (rmD 1) (cPc D cy ad fz [.ref (ad 999), .int a0, .int a1] st sz) (cQv D cy ad fz rr st' sz) 0 0 (cA ad fz sz) := by
  refine c_metv (by decide) hJ (Nat.le_of_ble_eq_true rfl) (fun p e s m args below meth c ls E hx hb hr hlocks hown hT hD hN hl hP hS => ?_)
  replace hl : lv_has ls 4 [(0, .ref (ad 999)), (1, .int a0), (2, .int a1)] := hl
  unfold fX2_remember at hf
  have B36 : ∀ (v1 : Int32) (v2 : Int32) (st : St) (H : Heap) (locs : List Loc) (ls : Array Slot), fX2_remember_b36 fz v1 v2 st = some (rr, st') → lv_has ls 4 [(0, .ref (ad 999)), (1, .int v1), (2, .int v2)] → va_P D classes (cx cy ad fz st) H → va_S (cA ad fz s.heap.size) s.heap H locs → cGv l 1 D cy ad fz rr st' p e s m args below meth c H locs (F0 m 36 ls []) := by
    intro v1 v2 st H locs ls hf hl hP hS
    unfold fX2_remember_b36 at hf
    refine lv_aload_n hx hb dX2_remember_36 rfl (lv_at hl 0 rfl) ?_
    refine cg_2_105_9 E hP dX2_remember_37 ?_
    refine lv_bipush (v := 7) hx hb dX2_remember_40 (by decide) ?_
    refine lv_imul hx hb dX2_remember_42 ?_
    refine lv_topi (fun x1 ex => ?_)
    replace hf := lt_at ex hf; clear ex
    refine lv_istore_n (lv' := [(3, .int x1), (0, .ref (ad 999)), (1, .int v1), (2, .int v2)]) hx hb dX2_remember_43 rfl hl (by decide) rfl (fun ls hl => ?_)
    refine lv_aload_n hx hb dX2_remember_44 rfl (lv_at hl 1 rfl) ?_
    refine cg_2_11_9 E hP dX2_remember_45 ?_
    refine lv_iload_n hx hb dX2_remember_48 rfl (lv_at hl 0 rfl) ?_
    refine lv_iload_n hx hb dX2_remember_49 rfl (lv_at hl 2 rfl) ?_
    obtain ⟨hi, hf⟩ := gi_some hf
    refine cs_902 E hD hP hS hi dX2_remember_50 (fun st2 H locs ex hP hS => ?_)
    replace hf := lt_at ex hf; clear ex
    refine lv_aload_n hx hb dX2_remember_51 rfl (lv_at hl 1 rfl) ?_
    refine cg_2_11_9 E hP dX2_remember_52 ?_
    refine lv_iload_n hx hb dX2_remember_55 rfl (lv_at hl 0 rfl) ?_
    refine lv_iconst (v := 1) hx hb dX2_remember_56 (by decide) ?_
    refine lv_iadd hx hb dX2_remember_57 ?_
    refine lv_iload_n hx hb dX2_remember_58 rfl (lv_at hl 3 rfl) ?_
    obtain ⟨hi, hf⟩ := gi_some hf
    refine cs_902 E hD hP hS hi dX2_remember_59 (fun st3 H locs ex hP hS => ?_)
    replace hf := lt_at ex hf; clear ex
    refine lv_aload_n hx hb dX2_remember_60 rfl (lv_at hl 1 rfl) ?_
    refine cg_2_11_9 E hP dX2_remember_61 ?_
    refine lv_iload_n hx hb dX2_remember_64 rfl (lv_at hl 0 rfl) ?_
    refine lv_iconst (v := 2) hx hb dX2_remember_65 (by decide) ?_
    refine lv_iadd hx hb dX2_remember_66 ?_
    refine lv_aload_n hx hb dX2_remember_67 rfl (lv_at hl 1 rfl) ?_
    refine cg_2_18_9 E hP dX2_remember_68 ?_
    refine cg_2_57_1 E hP dX2_remember_71 ?_
    refine cg_2_70_2 E hP dX2_remember_74 ?_
    refine lv_iload_n hx hb dX2_remember_77 rfl (lv_at hl 3 rfl) ?_
    obtain ⟨hi, hf⟩ := gi_some hf
    refine cl_200 E hP hi dX2_remember_78 ?_
    obtain ⟨hi, hf⟩ := gi_some hf
    refine cs_902 E hD hP hS hi dX2_remember_79 (fun st4 H locs ex hP hS => ?_)
    replace hf := lt_at ex hf; clear ex
    refine lv_aload_n hx hb dX2_remember_80 rfl (lv_at hl 1 rfl) ?_
    refine cg_2_11_9 E hP dX2_remember_81 ?_
    refine lv_iload_n hx hb dX2_remember_84 rfl (lv_at hl 0 rfl) ?_
    refine lv_iconst (v := 3) hx hb dX2_remember_85 (by decide) ?_
    refine lv_iadd hx hb dX2_remember_86 ?_
    refine lv_aload_n hx hb dX2_remember_87 rfl (lv_at hl 1 rfl) ?_
    refine cg_2_18_9 E hP dX2_remember_88 ?_
    refine cg_2_57_1 E hP dX2_remember_91 ?_
    refine cg_2_73_2 E hP dX2_remember_94 ?_
    refine lv_iload_n hx hb dX2_remember_97 rfl (lv_at hl 3 rfl) ?_
    obtain ⟨hi, hf⟩ := gi_some hf
    refine cl_201 E hP hi dX2_remember_98 ?_
    obtain ⟨hi, hf⟩ := gi_some hf
    refine cs_902 E hD hP hS hi dX2_remember_99 (fun st5 H locs ex hP hS => ?_)
    replace hf := lt_at ex hf; clear ex
    refine lv_aload_n hx hb dX2_remember_100 rfl (lv_at hl 1 rfl) ?_
    refine cg_2_11_9 E hP dX2_remember_101 ?_
    refine lv_iload_n hx hb dX2_remember_104 rfl (lv_at hl 0 rfl) ?_
    refine lv_iconst (v := 4) hx hb dX2_remember_105 (by decide) ?_
    refine lv_iadd hx hb dX2_remember_106 ?_
    refine lv_aload_n hx hb dX2_remember_107 rfl (lv_at hl 1 rfl) ?_
    refine cg_2_18_9 E hP dX2_remember_108 ?_
    refine cg_2_57_1 E hP dX2_remember_111 ?_
    refine cg_2_61_2 E hP dX2_remember_114 ?_
    refine lv_iload_n hx hb dX2_remember_117 rfl (lv_at hl 3 rfl) ?_
    obtain ⟨hi, hf⟩ := gi_some hf
    refine cl_202 E hP hi dX2_remember_118 ?_
    obtain ⟨hi, hf⟩ := gi_some hf
    refine cs_902 E hD hP hS hi dX2_remember_119 (fun st6 H locs ex hP hS => ?_)
    replace hf := lt_at ex hf; clear ex
    refine lv_aload_n hx hb dX2_remember_120 rfl (lv_at hl 1 rfl) ?_
    refine cg_2_11_9 E hP dX2_remember_121 ?_
    refine lv_iload_n hx hb dX2_remember_124 rfl (lv_at hl 0 rfl) ?_
    refine lv_iconst (v := 5) hx hb dX2_remember_125 (by decide) ?_
    refine lv_iadd hx hb dX2_remember_126 ?_
    refine lv_aload_n hx hb dX2_remember_127 rfl (lv_at hl 1 rfl) ?_
    refine cg_2_18_9 E hP dX2_remember_128 ?_
    refine cg_2_57_1 E hP dX2_remember_131 ?_
    refine cg_2_91_2 E hP dX2_remember_134 ?_
    refine lv_aload_n hx hb dX2_remember_137 rfl (lv_at hl 1 rfl) ?_
    refine cg_2_18_9 E hP dX2_remember_138 ?_
    refine cg_2_88_1 E hP dX2_remember_141 ?_
    refine lv_iload_n hx hb dX2_remember_144 rfl (lv_at hl 3 rfl) ?_
    obtain ⟨hi, hf⟩ := gi_some hf
    refine cl_103 E hP hi dX2_remember_145 ?_
    obtain ⟨hi, hf⟩ := gi_some hf
    refine cl_203 E hP hi dX2_remember_146 ?_
    obtain ⟨hi, hf⟩ := gi_some hf
    refine cs_902 E hD hP hS hi dX2_remember_147 (fun st7 H locs ex hP hS => ?_)
    replace hf := lt_at ex hf; clear ex
    refine lv_aload_n hx hb dX2_remember_148 rfl (lv_at hl 1 rfl) ?_
    refine cg_2_11_9 E hP dX2_remember_149 ?_
    refine lv_iload_n hx hb dX2_remember_152 rfl (lv_at hl 0 rfl) ?_
    refine lv_bipush (v := 6) hx hb dX2_remember_153 (by decide) ?_
    refine lv_iadd hx hb dX2_remember_155 ?_
    refine lv_aload_n hx hb dX2_remember_156 rfl (lv_at hl 1 rfl) ?_
    refine cg_2_18_9 E hP dX2_remember_157 ?_
    refine cg_2_57_1 E hP dX2_remember_160 ?_
    refine cg_2_66_2 E hP dX2_remember_163 ?_
    obtain ⟨hi, hf⟩ := gi_some hf
    refine cs_902 E hD hP hS hi dX2_remember_166 (fun st8 H locs ex hP hS => ?_)
    replace hf := lt_at ex hf; clear ex
    refine lv_aload_n hx hb dX2_remember_167 rfl (lv_at hl 1 rfl) ?_
    refine lv_dup hx hb dX2_remember_168 rfl ?_
    refine cg_2_105_9 E hP dX2_remember_169 ?_
    refine lv_iconst (v := 1) hx hb dX2_remember_172 (by decide) ?_
    refine lv_iadd hx hb dX2_remember_173 ?_
    refine cp_2_105_9 E hD hP hS dX2_remember_174 (fun st9 H locs ex hP hS => ?_)
    replace hf := lt_at ex hf; clear ex
    exact c_vret hx hb hr hlocks hf hP hS dX2_remember_177
  refine lv_aload_n hx hb dX2_remember_0 rfl (lv_at hl 0 rfl) ?_
  refine cg_2_105_9 E hP dX2_remember_1 ?_
  refine lv_bipush (v := 16) hx hb dX2_remember_4 (by decide) ?_
  refine lv_icmp_lt (tgt := 36) hx hb dX2_remember_6 (by decide) (fun hc => ?_) (fun hc => ?_)
  · replace hf := it_pos hc hf
    exact B36 a0 a1 st _ _ ls hf hl hP hS
  · replace hf := it_neg hc hf
    refine lv_aload_n hx hb dX2_remember_9 rfl (lv_at hl 0 rfl) ?_
    refine lv_bipush (v := 15) hx hb dX2_remember_10 (by decide) ?_
    refine cp_2_105_9 E hD hP hS dX2_remember_12 (fun st10 H locs ex hP hS => ?_)
    replace hf := lt_at ex hf; clear ex
    refine lv_aload_n hx hb dX2_remember_15 rfl (lv_at hl 0 rfl) ?_
    refine cg_2_11_9 E hP dX2_remember_16 ?_
    refine lv_bipush (v := 7) hx hb dX2_remember_19 (by decide) ?_
    refine lv_aload_n hx hb dX2_remember_21 rfl (lv_at hl 0 rfl) ?_
    refine cg_2_11_9 E hP dX2_remember_22 ?_
    refine lv_iconst (v := 0) hx hb dX2_remember_25 (by decide) ?_
    refine lv_aload_n hx hb dX2_remember_26 rfl (lv_at hl 0 rfl) ?_
    refine cg_2_105_9 E hP dX2_remember_27 ?_
    refine lv_bipush (v := 7) hx hb dX2_remember_30 (by decide) ?_
    refine lv_imul hx hb dX2_remember_32 ?_
    obtain ⟨hg, hf⟩ := gcp_some hf
    refine ccp_902_902 E k_805 hD hP hS hg hl.1 (Nat.le_of_ble_eq_true rfl) (Nat.le_of_ble_eq_true rfl) dX2_remember_33 (fun st11 H locs ex hP hS => ?_)
    replace hf := lt_at ex hf; clear ex
    exact B36 a0 a1 st11 _ _ ls hf hl hP hS
