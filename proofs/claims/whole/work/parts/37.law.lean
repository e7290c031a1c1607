theorem dX11_law_0 : decode cX11_law 0 = .ok (.aload_n 0, 1) := by decide +kernel
theorem dX11_law_1 : decode cX11_law 1 = .ok (.getfield 10, 3) := by decide +kernel
theorem dX11_law_4 : decode cX11_law 4 = .ok (.getfield 175, 3) := by decide +kernel
theorem dX11_law_7 : decode cX11_law 7 = .ok (.bipush 6, 2) := by decide +kernel
theorem dX11_law_9 : decode cX11_law 9 = .ok (.if_icmp .lt 18, 3) := by decide +kernel
theorem dX11_law_12 : decode cX11_law 12 = .ok (.aload_n 0, 1) := by decide +kernel
theorem dX11_law_13 : decode cX11_law 13 = .ok (.getfield 23, 3) := by decide +kernel
theorem dX11_law_16 : decode cX11_law 16 = .ok (.iconst 0, 1) := by decide +kernel
theorem dX11_law_17 : decode cX11_law 17 = .ok (.putfield 162, 3) := by decide +kernel
theorem dX11_law_20 : decode cX11_law 20 = .ok (.aload_n 0, 1) := by decide +kernel
theorem dX11_law_21 : decode cX11_law 21 = .ok (.bipush (-5), 2) := by decide +kernel
theorem dX11_law_23 : decode cX11_law 23 = .ok (.invokevirtual 126, 3) := by decide +kernel
theorem dX11_law_26 : decode cX11_law 26 = .ok (.ireturn, 1) := by decide +kernel
theorem dX11_law_27 : decode cX11_law 27 = .ok (.aload_n 0, 1) := by decide +kernel
theorem dX11_law_28 : decode cX11_law 28 = .ok (.aload_n 0, 1) := by decide +kernel
theorem dX11_law_29 : decode cX11_law 29 = .ok (.getfield 35, 3) := by decide +kernel
theorem dX11_law_32 : decode cX11_law 32 = .ok (.iconst 1, 1) := by decide +kernel
theorem dX11_law_33 : decode cX11_law 33 = .ok (.invokevirtual 178, 3) := by decide +kernel
theorem dX11_law_36 : decode cX11_law 36 = .ok (.putfield 79, 3) := by decide +kernel
theorem dX11_law_39 : decode cX11_law 39 = .ok (.aload_n 0, 1) := by decide +kernel
theorem dX11_law_40 : decode cX11_law 40 = .ok (.getfield 23, 3) := by decide +kernel
theorem dX11_law_43 : decode cX11_law 43 = .ok (.iconst 0, 1) := by decide +kernel
theorem dX11_law_44 : decode cX11_law 44 = .ok (.putfield 162, 3) := by decide +kernel
theorem dX11_law_47 : decode cX11_law 47 = .ok (.aload_n 0, 1) := by decide +kernel
theorem dX11_law_48 : decode cX11_law 48 = .ok (.getfield 79, 3) := by decide +kernel
theorem dX11_law_51 : decode cX11_law 51 = .ok (.iconst (-1), 1) := by decide +kernel
theorem dX11_law_52 : decode cX11_law 52 = .ok (.if_icmp .eq 10, 3) := by decide +kernel
theorem dX11_law_55 : decode cX11_law 55 = .ok (.aload_n 0, 1) := by decide +kernel
theorem dX11_law_56 : decode cX11_law 56 = .ok (.bipush (-6), 2) := by decide +kernel
theorem dX11_law_58 : decode cX11_law 58 = .ok (.invokevirtual 126, 3) := by decide +kernel
theorem dX11_law_61 : decode cX11_law 61 = .ok (.ireturn, 1) := by decide +kernel
theorem dX11_law_62 : decode cX11_law 62 = .ok (.aload_n 0, 1) := by decide +kernel
theorem dX11_law_63 : decode cX11_law 63 = .ok (.getfield 10, 3) := by decide +kernel
theorem dX11_law_66 : decode cX11_law 66 = .ok (.getfield 181, 3) := by decide +kernel
theorem dX11_law_69 : decode cX11_law 69 = .ok (.aload_n 0, 1) := by decide +kernel
theorem dX11_law_70 : decode cX11_law 70 = .ok (.getfield 10, 3) := by decide +kernel
theorem dX11_law_73 : decode cX11_law 73 = .ok (.getfield 175, 3) := by decide +kernel
theorem dX11_law_76 : decode cX11_law 76 = .ok (.aload_n 0, 1) := by decide +kernel
theorem dX11_law_77 : decode cX11_law 77 = .ok (.getfield 35, 3) := by decide +kernel
theorem dX11_law_80 : decode cX11_law 80 = .ok (.getfield 185, 3) := by decide +kernel
theorem dX11_law_83 : decode cX11_law 83 = .ok (.invokevirtual 189, 3) := by decide +kernel
theorem dX11_law_86 : decode cX11_law 86 = .ok (.aastore, 1) := by decide +kernel
theorem dX11_law_87 : decode cX11_law 87 = .ok (.aload_n 0, 1) := by decide +kernel
theorem dX11_law_88 : decode cX11_law 88 = .ok (.getfield 10, 3) := by decide +kernel
theorem dX11_law_91 : decode cX11_law 91 = .ok (.dup, 1) := by decide +kernel
theorem dX11_law_92 : decode cX11_law 92 = .ok (.getfield 175, 3) := by decide +kernel
theorem dX11_law_95 : decode cX11_law 95 = .ok (.iconst 1, 1) := by decide +kernel
theorem dX11_law_96 : decode cX11_law 96 = .ok (.iadd, 1) := by decide +kernel
theorem dX11_law_97 : decode cX11_law 97 = .ok (.putfield 175, 3) := by decide +kernel
theorem dX11_law_100 : decode cX11_law 100 = .ok (.aload_n 0, 1) := by decide +kernel
theorem dX11_law_101 : decode cX11_law 101 = .ok (.aload_n 0, 1) := by decide +kernel
theorem dX11_law_102 : decode cX11_law 102 = .ok (.getfield 10, 3) := by decide +kernel
theorem dX11_law_105 : decode cX11_law 105 = .ok (.getfield 175, 3) := by decide +kernel
theorem dX11_law_108 : decode cX11_law 108 = .ok (.iconst 1, 1) := by decide +kernel
theorem dX11_law_109 : decode cX11_law 109 = .ok (.isub, 1) := by decide +kernel
theorem dX11_law_110 : decode cX11_law 110 = .ok (.invokevirtual 93, 3) := by decide +kernel
theorem dX11_law_113 : decode cX11_law 113 = .ok (.ireturn, 1) := by decide +kernel

section LawRows
variable {p : Program} {l : Launch} {e : Env} {R : Room} {s : State} {m : MethodId} {args : Array Value} {below : List Frame} {meth : Method} {c : Code} {H H0 : Heap} {locs : List Loc} {cells slots : Nat} {Q : State → Prop} {D : va_G} {cy : Nat → ClassId} {ad : Nat → Nat} {fz : List FP} {st st' : St} {A : Nat → Prop} {cc : ByteArray} {nL pc d : Nat} {ls : Array Slot} {rest st0 : List Value}
theorem cg_11_181_1 (E : Ev p s m args c D cy cc nL RX11) (hP : va_P D classes (cx cy ad fz st) H) (hdg : decode cc pc = .ok (.getfield 181, 3)) (kk : W p l e R s m args below meth c H locs cells slots Q (F0 m (pc + 3) ls (.ref (ad 107) :: rest))) : W p l e R s m args below meth c H locs cells slots Q (F0 m pc ls (.ref (ad 199) :: rest)) :=
  va_get (D := D) (cl := classes) (ci := 6) (C := RX6) (T := TX6) (N := 13) E.1.1 E.1.2.1 E.1.2.2.2.2 hin_6 E.1.2.2.2.1 E.2 hP 3 rfl rfl 7 (by decide) (E.1.2.2.2.2 _ k_170) (fun _ h => h) rfl hdg kk
theorem cg_11_185_7 (E : Ev p s m args c D cy cc nL RX11) (hP : va_P D classes (cx cy ad fz st) H) (hdg : decode cc pc = .ok (.getfield 185, 3)) (kk : W p l e R s m args below meth c H locs cells slots Q (F0 m (pc + 3) ls (.ref (ad 699) :: rest))) : W p l e R s m args below meth c H locs cells slots Q (F0 m pc ls (.ref (ad 799) :: rest)) :=
  va_get (D := D) (cl := classes) (ci := 9) (C := RX9) (T := TX9) (N := 7) E.1.1 E.1.2.1 E.1.2.2.2.2 hin_9 E.1.2.2.2.1 E.2 hP 35 rfl rfl 1 (by decide) (E.1.2.2.2.2 _ k_279) (fun _ h => h) rfl hdg kk
theorem cr_107L {own : String} {i : Int32} {P : FP} (E : Ev p s m args c D cy cc nL own) (hD : ∀ st, va_D A (cx cy ad fz st)) (hP : va_P D classes (cx cy ad fz st) H) (hS : va_S A H0 H locs) (hPm : P ∈ fz) (hi : vp_in i 6) (hdg : decode cc pc = .ok (.aastore, 1)) (kk : ∀ (st1 : St) (H1 : Heap) (locs1 : List Loc), st1 = sR st 107 (va_up (st.2.2.2.2 107) i.toNatClampNeg (some (P.1 99))) → va_P D classes (cx cy ad fz st1) H1 → va_S A H0 H1 locs1 → W p l e R s m args below meth c H1 locs1 cells slots Q (F0 m (pc + 1) ls rest)) : W p l e R s m args below meth c H locs cells slots Q (F0 m pc ls (.ref (P.1 99) :: .int i :: .ref (ad 107) :: rest)) := by
  obtain ⟨q, hq⟩ := c_law (cy := cy) (ad := ad) (st := st) hPm (e := (P.1 99, .inr (8, [.ref (P.1 0), .ref (P.1 1), .ref (P.1 2), .ref (P.1 3), .int (P.2.2.1 4), .int (P.2.2.1 5)]))) (List.mem_cons_self)
  exact va_astq (D := D) (cl := classes) (tys := tys cy) (r := (RX8, TX8, 6)) E.1.1 E.1.2.1 E.2 hP (hD st) hS 8 4 q 8 rfl rfl hq rfl hi hdg (fun H1 l1 h1 _ h3 => kk _ H1 l1 rfl h1 h3)
theorem cp_11_175_1 {xv : Int32} (E : Ev p s m args c D cy cc nL RX11) (hD : ∀ st, va_D A (cx cy ad fz st)) (hP : va_P D classes (cx cy ad fz st) H) (hS : va_S A H0 H locs) (hdg : decode cc pc = .ok (.putfield 175, 3)) (kk : ∀ (st1 : St) (H1 : Heap) (locs1 : List Loc), st1 = sI st 111 xv → va_P D classes (cx cy ad fz st1) H1 → va_S A H0 H1 locs1 → W p l e R s m args below meth c H1 locs1 cells slots Q (F0 m (pc + 3) ls rest)) : W p l e R s m args below meth c H locs cells slots Q (F0 m pc ls (.int xv :: .ref (ad 199) :: rest)) :=
  va_put (D := D) (cl := classes) (ci := 6) (v := .int xv) (ty := .int) (C := RX6) (T := TX6) (N := 13) E.1.1 E.1.2.1 E.1.2.2.2.2 hin_6 tyX6 tyX6_ok nmX6 E.1.2.2.2.1 E.2 hP (hD st) hS 3 rfl rfl 11 (by decide) (E.1.2.2.2.2 _ k_179) (fun _ h => h) rfl (by decide +kernel) rfl rfl (Nat.le_of_ble_eq_true rfl) hdg (fun H1 l1 h1 _ h3 => kk _ H1 l1 rfl h1 h3)
end LawRows
def fX11_lawA (fz : List FP) (st : St) : Option (Option Int32 × St) := if (st.1 111) < (6 : Int32) then (bd (fX9_read (1 : Int32) fz st) (fun r1 st2 => lt (sI st2 11 r1) (fun st3 => lt (sI st3 504 (0 : Int32)) (fun st4 => if (st4.1 11) = (-1 : Int32) then (some (none, st4)) else (bd (fX11_refuse (-6 : Int32) fz st4) (fun r5 st6 => some (some r5, st6))))))) else (lt (sI st 504 (0 : Int32)) (fun st7 => bd (fX11_refuse (-5 : Int32) fz st7) (fun r8 st9 => some (some r8, st9))))
def fX11_lawB (P : FP) (w1 : Int32) (fz : List FP) (st : St) : Option (Int32 × St) := gi w1 6 (lt (sR st 107 (va_up (st.2.2.2.2 107) w1.toNatClampNeg (some (P.1 99)))) (fun st1 => lt (sI st1 111 ((st1.1 111) + (1 : Int32))) (fun st2 => bd (fX11_settle ((st2.1 111) - (1 : Int32)) fz st2) (fun r3 st4 => some (r3, st4)))))
set_option maxHeartbeats 4000000 in
set_option maxRecDepth 100000 in
theorem c_lawA {p : Program} {l : Launch} {e : Env} {s : State} {m : MethodId} {args : Array Value} {below : List Frame} {meth : Method} {c : Code} {Q : State → Prop} {D : va_G} {cy : Nat → ClassId} {ad : Nat → Nat} {fz : List FP} (hJ : (cads ad fz).Nodup) (E : Ev p s m args c D cy cX11_law 1 RX11) (hx : p.tables.exec = Jvm.exec) (hb : c.code = cX11_law) (hown : s.vm.findClass RX11 = some m.cls) (hT : ∀ w ∈ TT, w.before args s = true) (hD : ∀ st, va_D (cA ad fz s.heap.size) (cx cy ad fz st)) (hN : cN (cA ad fz s.heap.size) s s.heap) (st : St) (rr : Option Int32) (st' : St) (hf : fX11_lawA fz st = some (rr, st')) (kr : ∀ (r : Int32) (H : Heap) (locs : List Loc) (pc : Nat) (ls : Array Slot), rr = some r → decode cX11_law pc = .ok (.ireturn, 1) → va_P D classes (cx cy ad fz st') H → va_S (cA ad fz s.heap.size) s.heap H locs → W p l e (rmX 91 5 478) s m args below meth c H locs 0 0 Q (F0 m pc ls [.int r])) (kc : ∀ (H : Heap) (locs : List Loc) (ls : Array Slot), rr = none → lv_has ls 1 [(0, .ref (ad 99))] → va_P D classes (cx cy ad fz st') H → va_S (cA ad fz s.heap.size) s.heap H locs → W p l e (rmX 91 5 478) s m args below meth c H locs 0 0 Q (F0 m 83 ls [.ref (ad 699), .int (st'.1 111), .ref (ad 107)])) (H : Heap) (locs : List Loc) (ls : Array Slot) (hl : lv_has ls 1 [(0, .ref (ad 99))]) (hP : va_P D classes (cx cy ad fz st) H) (hS : va_S (cA ad fz s.heap.size) s.heap H locs) : W p l e (rmX 91 5 478) s m args below meth c H locs 0 0 Q (F0 m 0 ls []) := by
  unfold fX11_lawA at hf
  refine lv_aload_n hx hb dX11_law_0 rfl (lv_at hl 0 rfl) ?_
  refine cg_11_10_0 E hP dX11_law_1 ?_
  refine cg_11_175_1 E hP dX11_law_4 ?_
  refine lv_bipush (v := 6) hx hb dX11_law_7 (by decide) ?_
  refine lv_icmp_lt (tgt := 27) hx hb dX11_law_9 (by decide) (fun hc => ?_) (fun hc => ?_)
  · replace hf := it_pos hc hf
    refine lv_aload_n hx hb dX11_law_27 rfl (lv_at hl 0 rfl) ?_
    refine lv_aload_n hx hb dX11_law_28 rfl (lv_at hl 0 rfl) ?_
    refine cg_11_35_0 E hP dX11_law_29 ?_
    refine lv_iconst (v := 1) hx hb dX11_law_32 (by decide) ?_
    obtain ⟨r1, st2, hc, hf⟩ := bd_some hf
    refine c_calli (n := 1) (rest := [.ref (ad 99)]) E hN hP hS (fun sz => tX9_read l D cy ad fz hJ sz (1 : Int32) st r1 st2 hc) (va_recv E.2 hP (ci := 9) (q0 := 35) rfl rfl) (gV k_591 k_592 k_593 k_9 k_594) qX9_read ⟨Nat.le_of_ble_eq_true rfl, Nat.le_of_ble_eq_true rfl⟩ ⟨Nat.le_of_ble_eq_true rfl, Nat.le_of_ble_eq_true rfl⟩ rfl hl.1 rfl (Nat.le_of_ble_eq_true rfl) dX11_law_33 (fun H locs hP hS => ?_)
    refine cp_11_79_0 E hD hP hS dX11_law_36 (fun st3 H locs ex hP hS => ?_)
    replace hf := lt_at ex hf; clear ex
    refine lv_aload_n hx hb dX11_law_39 rfl (lv_at hl 0 rfl) ?_
    refine cg_11_23_0 E hP dX11_law_40 ?_
    refine lv_iconst (v := 0) hx hb dX11_law_43 (by decide) ?_
    refine cp_11_162_5 E hD hP hS dX11_law_44 (fun st4 H locs ex hP hS => ?_)
    replace hf := lt_at ex hf; clear ex
    refine lv_aload_n hx hb dX11_law_47 rfl (lv_at hl 0 rfl) ?_
    refine cg_11_79_0 E hP dX11_law_48 ?_
    refine lv_iconst (v := -1) hx hb dX11_law_51 (by decide) ?_
    refine lv_icmp_eq (tgt := 62) hx hb dX11_law_52 (by decide) (fun hc => ?_) (fun hc => ?_)
    · replace hf := it_pos hc hf
      refine lv_aload_n hx hb dX11_law_62 rfl (lv_at hl 0 rfl) ?_
      refine cg_11_10_0 E hP dX11_law_63 ?_
      refine cg_11_181_1 E hP dX11_law_66 ?_
      refine lv_aload_n hx hb dX11_law_69 rfl (lv_at hl 0 rfl) ?_
      refine cg_11_10_0 E hP dX11_law_70 ?_
      refine cg_11_175_1 E hP dX11_law_73 ?_
      refine lv_aload_n hx hb dX11_law_76 rfl (lv_at hl 0 rfl) ?_
      refine cg_11_35_0 E hP dX11_law_77 ?_
      refine cg_11_185_7 E hP dX11_law_80 ?_
      cases hf; exact kc _ _ _ rfl hl hP hS
    · replace hf := it_neg hc hf
      refine lv_aload_n hx hb dX11_law_55 rfl (lv_at hl 0 rfl) ?_
      refine lv_bipush (v := -6) hx hb dX11_law_56 (by decide) ?_
      obtain ⟨r5, st6, hc, hf⟩ := bd_some hf
      refine c_calli (n := 1) (rest := []) E hN hP hS (fun sz => tX11_refuse l D cy ad fz hJ sz (-6 : Int32) st4 r5 st6 hc) (va_recv E.2 hP (ci := 11) (q0 := 0) rfl rfl) (gV k_468 k_470 ks_1 k_1 k_471) qX11_refuse ⟨Nat.le_of_ble_eq_true rfl, Nat.le_of_ble_eq_true rfl⟩ ⟨Nat.le_of_ble_eq_true rfl, Nat.le_of_ble_eq_true rfl⟩ rfl hl.1 rfl (Nat.le_of_ble_eq_true rfl) dX11_law_58 (fun H locs hP hS => ?_)
      cases hf; exact kr _ _ _ _ _ rfl dX11_law_26 hP hS
  · replace hf := it_neg hc hf
    refine lv_aload_n hx hb dX11_law_12 rfl (lv_at hl 0 rfl) ?_
    refine cg_11_23_0 E hP dX11_law_13 ?_
    refine lv_iconst (v := 0) hx hb dX11_law_16 (by decide) ?_
    refine cp_11_162_5 E hD hP hS dX11_law_17 (fun st7 H locs ex hP hS => ?_)
    replace hf := lt_at ex hf; clear ex
    refine lv_aload_n hx hb dX11_law_20 rfl (lv_at hl 0 rfl) ?_
    refine lv_bipush (v := -5) hx hb dX11_law_21 (by decide) ?_
    obtain ⟨r8, st9, hc, hf⟩ := bd_some hf
    refine c_calli (n := 1) (rest := []) E hN hP hS (fun sz => tX11_refuse l D cy ad fz hJ sz (-5 : Int32) st7 r8 st9 hc) (va_recv E.2 hP (ci := 11) (q0 := 0) rfl rfl) (gV k_468 k_470 ks_1 k_1 k_471) qX11_refuse ⟨Nat.le_of_ble_eq_true rfl, Nat.le_of_ble_eq_true rfl⟩ ⟨Nat.le_of_ble_eq_true rfl, Nat.le_of_ble_eq_true rfl⟩ rfl hl.1 rfl (Nat.le_of_ble_eq_true rfl) dX11_law_23 (fun H locs hP hS => ?_)
    cases hf; exact kr _ _ _ _ _ rfl dX11_law_61 hP hS
set_option maxHeartbeats 4000000 in
set_option maxRecDepth 100000 in
theorem c_lawB {p : Program} {l : Launch} {e : Env} {s : State} {m : MethodId} {args : Array Value} {below : List Frame} {meth : Method} {c : Code} {Q : State → Prop} {D : va_G} {cy : Nat → ClassId} {ad : Nat → Nat} {fz : List FP} (hJ : (cads ad fz).Nodup) (E : Ev p s m args c D cy cX11_law 1 RX11) (hx : p.tables.exec = Jvm.exec) (hb : c.code = cX11_law) (hown : s.vm.findClass RX11 = some m.cls) (hT : ∀ w ∈ TT, w.before args s = true) (hD : ∀ st, va_D (cA ad fz s.heap.size) (cx cy ad fz st)) (hN : cN (cA ad fz s.heap.size) s s.heap) (P : FP) (hPm : P ∈ fz) (w1 : Int32) (st : St) (rr : Int32) (st' : St) (hf : fX11_lawB P w1 fz st = some (rr, st')) (kk : ∀ (H : Heap) (locs : List Loc) (ls : Array Slot), ls.size = 1 → va_P D classes (cx cy ad fz st') H → va_S (cA ad fz s.heap.size) s.heap H locs → W p l e (rmX 91 5 478) s m args below meth c H locs 5 478 Q (F0 m 113 ls [.int rr])) (H : Heap) (locs : List Loc) (ls : Array Slot) (hl : lv_has ls 1 [(0, .ref (ad 99))]) (hP : va_P D classes (cx cy ad fz st) H) (hS : va_S (cA ad fz s.heap.size) s.heap H locs) : W p l e (rmX 91 5 478) s m args below meth c H locs 5 478 Q (F0 m 86 ls [.ref (P.1 99), .int w1, .ref (ad 107)]) := by
  unfold fX11_lawB at hf
  obtain ⟨hi, hf⟩ := gi_some hf
  refine cr_107L E hD hP hS hPm hi dX11_law_86 (fun st1 H locs ex hP hS => ?_)
  replace hf := lt_at ex hf; clear ex
  refine lv_aload_n hx hb dX11_law_87 rfl (lv_at hl 0 rfl) ?_
  refine cg_11_10_0 E hP dX11_law_88 ?_
  refine lv_dup hx hb dX11_law_91 rfl ?_
  refine cg_11_175_1 E hP dX11_law_92 ?_
  refine lv_iconst (v := 1) hx hb dX11_law_95 (by decide) ?_
  refine lv_iadd hx hb dX11_law_96 ?_
  refine cp_11_175_1 E hD hP hS dX11_law_97 (fun st2 H locs ex hP hS => ?_)
  replace hf := lt_at ex hf; clear ex
  refine lv_aload_n hx hb dX11_law_100 rfl (lv_at hl 0 rfl) ?_
  refine lv_aload_n hx hb dX11_law_101 rfl (lv_at hl 0 rfl) ?_
  refine cg_11_10_0 E hP dX11_law_102 ?_
  refine cg_11_175_1 E hP dX11_law_105 ?_
  refine lv_iconst (v := 1) hx hb dX11_law_108 (by decide) ?_
  refine lv_isub hx hb dX11_law_109 ?_
  obtain ⟨r3, st4, hc, hf⟩ := bd_some hf
  refine c_calli (n := 1) (rest := []) E hN hP hS (fun sz => tX11_settle l D cy ad fz hJ sz ((st2.1 111) - (1 : Int32)) st2 r3 st4 hc) (va_recv E.2 hP (ci := 11) (q0 := 0) rfl rfl) (gV k_464 k_466 ks_0 k_1 k_467) qX11_settle ⟨Nat.le_of_ble_eq_true rfl, Nat.le_of_ble_eq_true rfl⟩ ⟨Nat.le_of_ble_eq_true rfl, Nat.le_of_ble_eq_true rfl⟩ rfl hl.1 rfl (Nat.le_of_ble_eq_true rfl) dX11_law_110 (fun H locs hP hS => ?_)
  cases hf; exact kk _ _ _ hl.1 hP hS
