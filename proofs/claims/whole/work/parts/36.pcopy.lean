theorem dX8_init__0 : decode cX8_init_ 0 = .ok (.aload_n 0, 1) := by decide +kernel
theorem dX8_init__1 : decode cX8_init_ 1 = .ok (.invokespecial 3, 3) := by decide +kernel
theorem dX8_init__4 : decode cX8_init_ 4 = .ok (.aload_n 0, 1) := by decide +kernel
theorem dX8_init__5 : decode cX8_init_ 5 = .ok (.aload_n 1, 1) := by decide +kernel
theorem dX8_init__6 : decode cX8_init_ 6 = .ok (.getfield 9, 3) := by decide +kernel
theorem dX8_init__9 : decode cX8_init_ 9 = .ok (.aload_n 1, 1) := by decide +kernel
theorem dX8_init__10 : decode cX8_init_ 10 = .ok (.getfield 24, 3) := by decide +kernel
theorem dX8_init__13 : decode cX8_init_ 13 = .ok (.invokestatic 28, 3) := by decide +kernel
theorem dX8_init__16 : decode cX8_init_ 16 = .ok (.putfield 9, 3) := by decide +kernel
theorem dX8_init__19 : decode cX8_init_ 19 = .ok (.aload_n 0, 1) := by decide +kernel
theorem dX8_init__20 : decode cX8_init_ 20 = .ok (.aload_n 1, 1) := by decide +kernel
theorem dX8_init__21 : decode cX8_init_ 21 = .ok (.getfield 13, 3) := by decide +kernel
theorem dX8_init__24 : decode cX8_init_ 24 = .ok (.aload_n 1, 1) := by decide +kernel
theorem dX8_init__25 : decode cX8_init_ 25 = .ok (.getfield 24, 3) := by decide +kernel
theorem dX8_init__28 : decode cX8_init_ 28 = .ok (.invokestatic 28, 3) := by decide +kernel
theorem dX8_init__31 : decode cX8_init_ 31 = .ok (.putfield 13, 3) := by decide +kernel
theorem dX8_init__34 : decode cX8_init_ 34 = .ok (.aload_n 0, 1) := by decide +kernel
theorem dX8_init__35 : decode cX8_init_ 35 = .ok (.aload_n 1, 1) := by decide +kernel
theorem dX8_init__36 : decode cX8_init_ 36 = .ok (.getfield 16, 3) := by decide +kernel
theorem dX8_init__39 : decode cX8_init_ 39 = .ok (.aload_n 1, 1) := by decide +kernel
theorem dX8_init__40 : decode cX8_init_ 40 = .ok (.getfield 24, 3) := by decide +kernel
theorem dX8_init__43 : decode cX8_init_ 43 = .ok (.iconst 4, 1) := by decide +kernel
theorem dX8_init__44 : decode cX8_init_ 44 = .ok (.imul, 1) := by decide +kernel
theorem dX8_init__45 : decode cX8_init_ 45 = .ok (.invokestatic 28, 3) := by decide +kernel
theorem dX8_init__48 : decode cX8_init_ 48 = .ok (.putfield 16, 3) := by decide +kernel
theorem dX8_init__51 : decode cX8_init_ 51 = .ok (.aload_n 0, 1) := by decide +kernel
theorem dX8_init__52 : decode cX8_init_ 52 = .ok (.aload_n 1, 1) := by decide +kernel
theorem dX8_init__53 : decode cX8_init_ 53 = .ok (.getfield 21, 3) := by decide +kernel
theorem dX8_init__56 : decode cX8_init_ 56 = .ok (.aload_n 1, 1) := by decide +kernel
theorem dX8_init__57 : decode cX8_init_ 57 = .ok (.getfield 34, 3) := by decide +kernel
theorem dX8_init__60 : decode cX8_init_ 60 = .ok (.invokestatic 28, 3) := by decide +kernel
theorem dX8_init__63 : decode cX8_init_ 63 = .ok (.putfield 21, 3) := by decide +kernel
theorem dX8_init__66 : decode cX8_init_ 66 = .ok (.aload_n 0, 1) := by decide +kernel
theorem dX8_init__67 : decode cX8_init_ 67 = .ok (.aload_n 1, 1) := by decide +kernel
theorem dX8_init__68 : decode cX8_init_ 68 = .ok (.getfield 34, 3) := by decide +kernel
theorem dX8_init__71 : decode cX8_init_ 71 = .ok (.putfield 34, 3) := by decide +kernel
theorem dX8_init__74 : decode cX8_init_ 74 = .ok (.aload_n 0, 1) := by decide +kernel
theorem dX8_init__75 : decode cX8_init_ 75 = .ok (.aload_n 1, 1) := by decide +kernel
theorem dX8_init__76 : decode cX8_init_ 76 = .ok (.getfield 24, 3) := by decide +kernel
theorem dX8_init__79 : decode cX8_init_ 79 = .ok (.putfield 24, 3) := by decide +kernel
theorem dX8_init__82 : decode cX8_init_ 82 = .ok (.return_, 1) := by decide +kernel
theorem dX8_copy_0 : decode cX8_copy 0 = .ok (.new 1, 3) := by decide +kernel
theorem dX8_copy_3 : decode cX8_copy 3 = .ok (.dup, 1) := by decide +kernel
theorem dX8_copy_4 : decode cX8_copy 4 = .ok (.aload_n 0, 1) := by decide +kernel
theorem dX8_copy_5 : decode cX8_copy 5 = .ok (.invokespecial 37, 3) := by decide +kernel
theorem dX8_copy_8 : decode cX8_copy 8 = .ok (.areturn, 1) := by decide +kernel

def pA (h0 r0 k0 k1 k2 k3 sz : Nat) : Nat → Prop := fun z => z ∈ [h0, r0, k0, k1, k2, k3] ∨ sz ≤ z
def roW (cy : Nat → ClassId) (r0 k0 k1 k2 k3 L C : Nat) (f0 f1 f2 f3 : Nat → Int32) : va_W := [(r0, .inr (8, [.ref k0, .ref k1, .ref k2, .ref k3, .int (nI L), .int (nI C)])), (k0, .inl (cy 0, 12, .inl f0)), (k1, .inl (cy 0, 12, .inl f1)), (k2, .inl (cy 0, 48, .inl f2)), (k3, .inl (cy 0, 400, .inl f3))]
def isCp (L C : Nat) (f0 f1 f2 f3 : Nat → Int32) (P : FP) : Prop := P.2.1 0 = C ∧ P.2.1 1 = C ∧ P.2.1 2 = C * 4 ∧ P.2.1 3 = L ∧ P.2.2.1 4 = nI L ∧ P.2.2.1 5 = nI C ∧ (∀ j, j < C → P.2.2.2.2.1 0 j = f0 j) ∧ (∀ j, j < C → P.2.2.2.2.1 1 j = f1 j) ∧ (∀ j, j < C * 4 → P.2.2.2.2.1 2 j = f2 j) ∧ (∀ j, j < L → P.2.2.2.2.1 3 j = f3 j)
def mkP (h0 q0 q1 q2 q3 L C : Nat) (g0 g1 g2 g3 : Nat → Int32) : FP := ((fun i => match i with | 0 => q0 | 1 => q1 | 2 => q2 | 3 => q3 | _ => h0), (fun i => match i with | 0 => C | 1 => C | 2 => C * 4 | _ => L), (fun i => match i with | 4 => nI L | _ => nI C), fun _ => 0, (fun i => match i with | 0 => g0 | 1 => g1 | 2 => g2 | _ => g3), fun _ _ => 0, fun _ _ => none)
set_option maxHeartbeats 4000000 in
set_option maxRecDepth 100000 in
theorem nX8_init_ (l : Launch) (D : va_G) (cy : Nat → ClassId) (h0 r0 k0 k1 k2 k3 L C : Nat) (f0 f1 f2 f3 : Nat → Int32) (hL : L ≤ 400) (hC : C ≤ 12) (hnd : [h0, r0, k0, k1, k2, k3].Nodup) (sz : Nat) : Met l yX8_init_ (Cond.code yX8_init_ cX8_init_ 2 none :: TT) (rmX 2 4 472) (va_Pc [.ref h0, .ref r0] (fun U => U.heap.size = sz ∧ va_P D classes ((h0, .inr (8, [.null, .null, .null, .null, .int 0, .int 0])) :: roW cy r0 k0 k1 k2 k3 L C f0 f1 f2 f3) U.heap ∧ va_K D classes (tys cy) U ∧ zN U)) (va_Qv (fun P : FP => P.1 99 = h0 ∧ isCp L C f0 f1 f2 f3 P) (fun P t => va_P D classes (roW cy r0 k0 k1 k2 k3 L C f0 f1 f2 f3 ++ pw cy P) t.heap ∧ va_D (pA h0 r0 k0 k1 k2 k3 sz) (roW cy r0 k0 k1 k2 k3 L C f0 f1 f2 f3 ++ pw cy P)) (pA h0 r0 k0 k1 k2 k3 sz)) 4 472 (pA h0 r0 k0 k1 k2 k3 sz) := by
  refine Met.ofW (cc := cX8_init_) (maxL := 2) (ret := none) (by decide) rfl ?_
  intro p e s m args below meth c s₁ B hml hv
  obtain ⟨hargs, hU, hP, hK, hZ⟩ := hv
  have hts := atoms_spec (ws := Cond.code yX8_init_ cX8_init_ 2 none :: TT) B.pre
  have hT : ∀ w ∈ TT, w.before args s = true := fun w h => hts w (List.mem_cons_of_mem _ h)
  have hown : s.vm.findClass RX8 = some m.cls := findClass_of_methodNamed B.named
  have hin : meth.name = "<init>" := (name_of_methodNamed B.named B.method).1.trans rfl
  have hx := B.exec
  have hb := B.bytes
  have hr := B.returns
  have hlocks := B.notSynchronized
  have hl := lv_entry [.ref h0, .ref r0] (n := 2) (Nat.le_of_ble_eq_true rfl)
  have he : entryFrame m args 2 = F0 m 0 ((lg_sl [.ref h0, .ref r0] ++ List.replicate (2 - (lg_sl [.ref h0, .ref r0]).length) Slot.unset).toArray) [] := by rw [hargs]; exact lg_entry_eq m [.ref h0, .ref r0] 2
  rw [he]
  generalize (lg_sl [.ref h0, .ref r0] ++ List.replicate (2 - (lg_sl [.ref h0, .ref r0]).length) Slot.unset).toArray = ls at hl ⊢
  replace hl : lv_has ls 2 [(0, .ref h0), (1, .ref r0)] := hl
  subst hU
  have E : Ev p s m args c D cy cX8_init_ 2 RX8 := ⟨⟨hx, hb, hml, hown, hT⟩, hK⟩
  have hD : va_D (pA h0 r0 k0 k1 k2 k3 s.heap.size) [(h0, .inr (8, [.null, .null, .null, .null, .int 0, .int 0])), (r0, .inr (8, [.ref k0, .ref k1, .ref k2, .ref k3, .int (nI L), .int (nI C)])), (k0, .inl (cy 0, 12, .inl f0)), (k1, .inl (cy 0, 12, .inl f1)), (k2, .inl (cy 0, 48, .inl f2)), (k3, .inl (cy 0, 400, .inl f3))] := va_D_nodup (l := [h0, r0, k0, k1, k2, k3]) rfl hnd (fun q h => Or.inl h)
  have hS : va_S (pA h0 r0 k0 k1 k2 k3 s.heap.size) s.heap s.heap [] := va_S.rf
  have hA : ∀ q : Nat, s.heap.size ≤ q → pA h0 r0 k0 k1 k2 k3 s.heap.size q := fun q h => Or.inr h
  replace hP : va_P D classes [(h0, .inr (8, [.null, .null, .null, .null, .int 0, .int 0])), (r0, .inr (8, [.ref k0, .ref k1, .ref k2, .ref k3, .int (nI L), .int (nI C)])), (k0, .inl (cy 0, 12, .inl f0)), (k1, .inl (cy 0, 12, .inl f1)), (k2, .inl (cy 0, 48, .inl f2)), (k3, .inl (cy 0, 400, .inl f3))] s.heap := hP
  refine lv_aload_n hx hb dX8_init__0 rfl (lv_at hl 0 rfl) ?_
  refine W.objInit hx hb hown (hT _ k_246) (hT _ k_28) (hT _ k_29) rfl (hl.1.trans hml.symm) rfl dX8_init__1 (Nat.le_of_ble_eq_true rfl) (Nat.le_of_ble_eq_true rfl) ?_
  refine W.eq (g2 := F0 m 4 ls []) rfl ?_
  refine lv_aload_n hx hb dX8_init__4 rfl (lv_at hl 0 rfl) ?_
  refine lv_aload_n hx hb dX8_init__5 rfl (lv_at hl 1 rfl) ?_
  refine va_get (D := D) (ci := 8) (v := .ref k0) (C := RX8) (T := TX8) (N := 6) hx hb hT hin_8 hown E.2 hP 1 rfl rfl 0 (by decide) (hT _ k_247) (fun _ h9 => h9) rfl dX8_init__6 ?_
  refine lv_aload_n hx hb dX8_init__9 rfl (lv_at hl 1 rfl) ?_
  refine va_get (D := D) (ci := 8) (v := .int (nI C)) (C := RX8) (T := TX8) (N := 6) hx hb hT hin_8 hown E.2 hP 1 rfl rfl 5 (by decide) (hT _ k_255) (fun _ h9 => h9) rfl dX8_init__10 ?_
  refine b_call (rest := [.ref h0]) (N := C) (j := 2) (nn := 12) (by decide) (by omega) E hZ hP hD hS hA rfl k_773 ⟨Nat.le_of_ble_eq_true rfl, Nat.le_of_ble_eq_true rfl⟩ ⟨Nat.le_of_ble_eq_true rfl, Nat.le_of_ble_eq_true rfl⟩ hl.1 (Nat.le_of_ble_eq_true rfl) dX8_init__13 (fun q0 g0 H locs hg0 hP hD hS => ?_)
  replace hP : va_P D classes [(h0, .inr (8, [.null, .null, .null, .null, .int 0, .int 0])), (r0, .inr (8, [.ref k0, .ref k1, .ref k2, .ref k3, .int (nI L), .int (nI C)])), (k0, .inl (cy 0, 12, .inl f0)), (k1, .inl (cy 0, 12, .inl f1)), (k2, .inl (cy 0, 48, .inl f2)), (k3, .inl (cy 0, 400, .inl f3)), (q0, .inl (cy 0, C, .inl g0))] H := hP
  replace hD : va_D (pA h0 r0 k0 k1 k2 k3 s.heap.size) [(h0, .inr (8, [.null, .null, .null, .null, .int 0, .int 0])), (r0, .inr (8, [.ref k0, .ref k1, .ref k2, .ref k3, .int (nI L), .int (nI C)])), (k0, .inl (cy 0, 12, .inl f0)), (k1, .inl (cy 0, 12, .inl f1)), (k2, .inl (cy 0, 48, .inl f2)), (k3, .inl (cy 0, 400, .inl f3)), (q0, .inl (cy 0, C, .inl g0))] := hD
  refine va_putF (D := D) (ci := 8) (v := .ref q0) (ty := (.array .int)) (C := RX8) (T := TX8) (N := 6) hx hb hT hin_8 tyX8 tyX8_ok nmX8 hown E.2 hP hD hS 0 rfl rfl 0 (by decide) (hT _ k_247) (fun _ h9 => h9) rfl hin rfl (by decide +kernel) rfl rfl (Nat.le_of_ble_eq_true rfl) dX8_init__16 (fun H locs hP hD hS => ?_)
  replace hP : va_P D classes [(h0, .inr (8, [.ref q0, .null, .null, .null, .int 0, .int 0])), (r0, .inr (8, [.ref k0, .ref k1, .ref k2, .ref k3, .int (nI L), .int (nI C)])), (k0, .inl (cy 0, 12, .inl f0)), (k1, .inl (cy 0, 12, .inl f1)), (k2, .inl (cy 0, 48, .inl f2)), (k3, .inl (cy 0, 400, .inl f3)), (q0, .inl (cy 0, C, .inl g0))] H := hP
  replace hD : va_D (pA h0 r0 k0 k1 k2 k3 s.heap.size) [(h0, .inr (8, [.ref q0, .null, .null, .null, .int 0, .int 0])), (r0, .inr (8, [.ref k0, .ref k1, .ref k2, .ref k3, .int (nI L), .int (nI C)])), (k0, .inl (cy 0, 12, .inl f0)), (k1, .inl (cy 0, 12, .inl f1)), (k2, .inl (cy 0, 48, .inl f2)), (k3, .inl (cy 0, 400, .inl f3)), (q0, .inl (cy 0, C, .inl g0))] := hD
  refine lv_aload_n hx hb dX8_init__19 rfl (lv_at hl 0 rfl) ?_
  refine lv_aload_n hx hb dX8_init__20 rfl (lv_at hl 1 rfl) ?_
  refine va_get (D := D) (ci := 8) (v := .ref k1) (C := RX8) (T := TX8) (N := 6) hx hb hT hin_8 hown E.2 hP 1 rfl rfl 1 (by decide) (hT _ k_250) (fun _ h9 => h9) rfl dX8_init__21 ?_
  refine lv_aload_n hx hb dX8_init__24 rfl (lv_at hl 1 rfl) ?_
  refine va_get (D := D) (ci := 8) (v := .int (nI C)) (C := RX8) (T := TX8) (N := 6) hx hb hT hin_8 hown E.2 hP 1 rfl rfl 5 (by decide) (hT _ k_255) (fun _ h9 => h9) rfl dX8_init__25 ?_
  refine b_call (rest := [.ref h0]) (N := C) (j := 3) (nn := 12) (by decide) (by omega) E hZ hP hD hS hA rfl k_773 ⟨Nat.le_of_ble_eq_true rfl, Nat.le_of_ble_eq_true rfl⟩ ⟨Nat.le_of_ble_eq_true rfl, Nat.le_of_ble_eq_true rfl⟩ hl.1 (Nat.le_of_ble_eq_true rfl) dX8_init__28 (fun q1 g1 H locs hg1 hP hD hS => ?_)
  replace hP : va_P D classes [(h0, .inr (8, [.ref q0, .null, .null, .null, .int 0, .int 0])), (r0, .inr (8, [.ref k0, .ref k1, .ref k2, .ref k3, .int (nI L), .int (nI C)])), (k0, .inl (cy 0, 12, .inl f0)), (k1, .inl (cy 0, 12, .inl f1)), (k2, .inl (cy 0, 48, .inl f2)), (k3, .inl (cy 0, 400, .inl f3)), (q0, .inl (cy 0, C, .inl g0)), (q1, .inl (cy 0, C, .inl g1))] H := hP
  replace hD : va_D (pA h0 r0 k0 k1 k2 k3 s.heap.size) [(h0, .inr (8, [.ref q0, .null, .null, .null, .int 0, .int 0])), (r0, .inr (8, [.ref k0, .ref k1, .ref k2, .ref k3, .int (nI L), .int (nI C)])), (k0, .inl (cy 0, 12, .inl f0)), (k1, .inl (cy 0, 12, .inl f1)), (k2, .inl (cy 0, 48, .inl f2)), (k3, .inl (cy 0, 400, .inl f3)), (q0, .inl (cy 0, C, .inl g0)), (q1, .inl (cy 0, C, .inl g1))] := hD
  refine va_putF (D := D) (ci := 8) (v := .ref q1) (ty := (.array .int)) (C := RX8) (T := TX8) (N := 6) hx hb hT hin_8 tyX8 tyX8_ok nmX8 hown E.2 hP hD hS 0 rfl rfl 1 (by decide) (hT _ k_250) (fun _ h9 => h9) rfl hin rfl (by decide +kernel) rfl rfl (Nat.le_of_ble_eq_true rfl) dX8_init__31 (fun H locs hP hD hS => ?_)
  replace hP : va_P D classes [(h0, .inr (8, [.ref q0, .ref q1, .null, .null, .int 0, .int 0])), (r0, .inr (8, [.ref k0, .ref k1, .ref k2, .ref k3, .int (nI L), .int (nI C)])), (k0, .inl (cy 0, 12, .inl f0)), (k1, .inl (cy 0, 12, .inl f1)), (k2, .inl (cy 0, 48, .inl f2)), (k3, .inl (cy 0, 400, .inl f3)), (q0, .inl (cy 0, C, .inl g0)), (q1, .inl (cy 0, C, .inl g1))] H := hP
  replace hD : va_D (pA h0 r0 k0 k1 k2 k3 s.heap.size) [(h0, .inr (8, [.ref q0, .ref q1, .null, .null, .int 0, .int 0])), (r0, .inr (8, [.ref k0, .ref k1, .ref k2, .ref k3, .int (nI L), .int (nI C)])), (k0, .inl (cy 0, 12, .inl f0)), (k1, .inl (cy 0, 12, .inl f1)), (k2, .inl (cy 0, 48, .inl f2)), (k3, .inl (cy 0, 400, .inl f3)), (q0, .inl (cy 0, C, .inl g0)), (q1, .inl (cy 0, C, .inl g1))] := hD
  refine lv_aload_n hx hb dX8_init__34 rfl (lv_at hl 0 rfl) ?_
  refine lv_aload_n hx hb dX8_init__35 rfl (lv_at hl 1 rfl) ?_
  refine va_get (D := D) (ci := 8) (v := .ref k2) (C := RX8) (T := TX8) (N := 6) hx hb hT hin_8 hown E.2 hP 1 rfl rfl 2 (by decide) (hT _ k_252) (fun _ h9 => h9) rfl dX8_init__36 ?_
  refine lv_aload_n hx hb dX8_init__39 rfl (lv_at hl 1 rfl) ?_
  refine va_get (D := D) (ci := 8) (v := .int (nI C)) (C := RX8) (T := TX8) (N := 6) hx hb hT hin_8 hown E.2 hP 1 rfl rfl 5 (by decide) (hT _ k_255) (fun _ h9 => h9) rfl dX8_init__40 ?_
  refine lv_iconst (v := 4) hx hb dX8_init__43 (by decide) ?_
  refine lv_imul hx hb dX8_init__44 ?_
  rw [show nI C * 4 = nI (C * 4) from pk_mul C 4]
  refine b_call (rest := [.ref h0]) (N := (C * 4)) (j := 4) (nn := 48) (by decide) (by omega) E hZ hP hD hS hA rfl k_773 ⟨Nat.le_of_ble_eq_true rfl, Nat.le_of_ble_eq_true rfl⟩ ⟨Nat.le_of_ble_eq_true rfl, Nat.le_of_ble_eq_true rfl⟩ hl.1 (Nat.le_of_ble_eq_true rfl) dX8_init__45 (fun q2 g2 H locs hg2 hP hD hS => ?_)
  replace hP : va_P D classes [(h0, .inr (8, [.ref q0, .ref q1, .null, .null, .int 0, .int 0])), (r0, .inr (8, [.ref k0, .ref k1, .ref k2, .ref k3, .int (nI L), .int (nI C)])), (k0, .inl (cy 0, 12, .inl f0)), (k1, .inl (cy 0, 12, .inl f1)), (k2, .inl (cy 0, 48, .inl f2)), (k3, .inl (cy 0, 400, .inl f3)), (q0, .inl (cy 0, C, .inl g0)), (q1, .inl (cy 0, C, .inl g1)), (q2, .inl (cy 0, (C * 4), .inl g2))] H := hP
  replace hD : va_D (pA h0 r0 k0 k1 k2 k3 s.heap.size) [(h0, .inr (8, [.ref q0, .ref q1, .null, .null, .int 0, .int 0])), (r0, .inr (8, [.ref k0, .ref k1, .ref k2, .ref k3, .int (nI L), .int (nI C)])), (k0, .inl (cy 0, 12, .inl f0)), (k1, .inl (cy 0, 12, .inl f1)), (k2, .inl (cy 0, 48, .inl f2)), (k3, .inl (cy 0, 400, .inl f3)), (q0, .inl (cy 0, C, .inl g0)), (q1, .inl (cy 0, C, .inl g1)), (q2, .inl (cy 0, (C * 4), .inl g2))] := hD
  refine va_putF (D := D) (ci := 8) (v := .ref q2) (ty := (.array .int)) (C := RX8) (T := TX8) (N := 6) hx hb hT hin_8 tyX8 tyX8_ok nmX8 hown E.2 hP hD hS 0 rfl rfl 2 (by decide) (hT _ k_252) (fun _ h9 => h9) rfl hin rfl (by decide +kernel) rfl rfl (Nat.le_of_ble_eq_true rfl) dX8_init__48 (fun H locs hP hD hS => ?_)
  replace hP : va_P D classes [(h0, .inr (8, [.ref q0, .ref q1, .ref q2, .null, .int 0, .int 0])), (r0, .inr (8, [.ref k0, .ref k1, .ref k2, .ref k3, .int (nI L), .int (nI C)])), (k0, .inl (cy 0, 12, .inl f0)), (k1, .inl (cy 0, 12, .inl f1)), (k2, .inl (cy 0, 48, .inl f2)), (k3, .inl (cy 0, 400, .inl f3)), (q0, .inl (cy 0, C, .inl g0)), (q1, .inl (cy 0, C, .inl g1)), (q2, .inl (cy 0, (C * 4), .inl g2))] H := hP
  replace hD : va_D (pA h0 r0 k0 k1 k2 k3 s.heap.size) [(h0, .inr (8, [.ref q0, .ref q1, .ref q2, .null, .int 0, .int 0])), (r0, .inr (8, [.ref k0, .ref k1, .ref k2, .ref k3, .int (nI L), .int (nI C)])), (k0, .inl (cy 0, 12, .inl f0)), (k1, .inl (cy 0, 12, .inl f1)), (k2, .inl (cy 0, 48, .inl f2)), (k3, .inl (cy 0, 400, .inl f3)), (q0, .inl (cy 0, C, .inl g0)), (q1, .inl (cy 0, C, .inl g1)), (q2, .inl (cy 0, (C * 4), .inl g2))] := hD
  refine lv_aload_n hx hb dX8_init__51 rfl (lv_at hl 0 rfl) ?_
  refine lv_aload_n hx hb dX8_init__52 rfl (lv_at hl 1 rfl) ?_
  refine va_get (D := D) (ci := 8) (v := .ref k3) (C := RX8) (T := TX8) (N := 6) hx hb hT hin_8 hown E.2 hP 1 rfl rfl 3 (by decide) (hT _ k_253) (fun _ h9 => h9) rfl dX8_init__53 ?_
  refine lv_aload_n hx hb dX8_init__56 rfl (lv_at hl 1 rfl) ?_
  refine va_get (D := D) (ci := 8) (v := .int (nI L)) (C := RX8) (T := TX8) (N := 6) hx hb hT hin_8 hown E.2 hP 1 rfl rfl 4 (by decide) (hT _ k_254) (fun _ h9 => h9) rfl dX8_init__57 ?_
  refine b_call (rest := [.ref h0]) (N := L) (j := 5) (nn := 400) (by decide) (by omega) E hZ hP hD hS hA rfl k_773 ⟨Nat.le_of_ble_eq_true rfl, Nat.le_of_ble_eq_true rfl⟩ ⟨Nat.le_of_ble_eq_true rfl, Nat.le_of_ble_eq_true rfl⟩ hl.1 (Nat.le_of_ble_eq_true rfl) dX8_init__60 (fun q3 g3 H locs hg3 hP hD hS => ?_)
  replace hP : va_P D classes [(h0, .inr (8, [.ref q0, .ref q1, .ref q2, .null, .int 0, .int 0])), (r0, .inr (8, [.ref k0, .ref k1, .ref k2, .ref k3, .int (nI L), .int (nI C)])), (k0, .inl (cy 0, 12, .inl f0)), (k1, .inl (cy 0, 12, .inl f1)), (k2, .inl (cy 0, 48, .inl f2)), (k3, .inl (cy 0, 400, .inl f3)), (q0, .inl (cy 0, C, .inl g0)), (q1, .inl (cy 0, C, .inl g1)), (q2, .inl (cy 0, (C * 4), .inl g2)), (q3, .inl (cy 0, L, .inl g3))] H := hP
  replace hD : va_D (pA h0 r0 k0 k1 k2 k3 s.heap.size) [(h0, .inr (8, [.ref q0, .ref q1, .ref q2, .null, .int 0, .int 0])), (r0, .inr (8, [.ref k0, .ref k1, .ref k2, .ref k3, .int (nI L), .int (nI C)])), (k0, .inl (cy 0, 12, .inl f0)), (k1, .inl (cy 0, 12, .inl f1)), (k2, .inl (cy 0, 48, .inl f2)), (k3, .inl (cy 0, 400, .inl f3)), (q0, .inl (cy 0, C, .inl g0)), (q1, .inl (cy 0, C, .inl g1)), (q2, .inl (cy 0, (C * 4), .inl g2)), (q3, .inl (cy 0, L, .inl g3))] := hD
  refine va_putF (D := D) (ci := 8) (v := .ref q3) (ty := (.array .int)) (C := RX8) (T := TX8) (N := 6) hx hb hT hin_8 tyX8 tyX8_ok nmX8 hown E.2 hP hD hS 0 rfl rfl 3 (by decide) (hT _ k_253) (fun _ h9 => h9) rfl hin rfl (by decide +kernel) rfl rfl (Nat.le_of_ble_eq_true rfl) dX8_init__63 (fun H locs hP hD hS => ?_)
  replace hP : va_P D classes [(h0, .inr (8, [.ref q0, .ref q1, .ref q2, .ref q3, .int 0, .int 0])), (r0, .inr (8, [.ref k0, .ref k1, .ref k2, .ref k3, .int (nI L), .int (nI C)])), (k0, .inl (cy 0, 12, .inl f0)), (k1, .inl (cy 0, 12, .inl f1)), (k2, .inl (cy 0, 48, .inl f2)), (k3, .inl (cy 0, 400, .inl f3)), (q0, .inl (cy 0, C, .inl g0)), (q1, .inl (cy 0, C, .inl g1)), (q2, .inl (cy 0, (C * 4), .inl g2)), (q3, .inl (cy 0, L, .inl g3))] H := hP
  replace hD : va_D (pA h0 r0 k0 k1 k2 k3 s.heap.size) [(h0, .inr (8, [.ref q0, .ref q1, .ref q2, .ref q3, .int 0, .int 0])), (r0, .inr (8, [.ref k0, .ref k1, .ref k2, .ref k3, .int (nI L), .int (nI C)])), (k0, .inl (cy 0, 12, .inl f0)), (k1, .inl (cy 0, 12, .inl f1)), (k2, .inl (cy 0, 48, .inl f2)), (k3, .inl (cy 0, 400, .inl f3)), (q0, .inl (cy 0, C, .inl g0)), (q1, .inl (cy 0, C, .inl g1)), (q2, .inl (cy 0, (C * 4), .inl g2)), (q3, .inl (cy 0, L, .inl g3))] := hD
  refine lv_aload_n hx hb dX8_init__66 rfl (lv_at hl 0 rfl) ?_
  refine lv_aload_n hx hb dX8_init__67 rfl (lv_at hl 1 rfl) ?_
  refine va_get (D := D) (ci := 8) (v := .int (nI L)) (C := RX8) (T := TX8) (N := 6) hx hb hT hin_8 hown E.2 hP 1 rfl rfl 4 (by decide) (hT _ k_254) (fun _ h9 => h9) rfl dX8_init__68 ?_
  refine va_put (D := D) (ci := 8) (v := .int (nI L)) (ty := .int) (C := RX8) (T := TX8) (N := 6) hx hb hT hin_8 tyX8 tyX8_ok nmX8 hown E.2 hP hD hS 0 rfl rfl 4 (by decide) (hT _ k_254) (fun _ h9 => h9) rfl (by decide +kernel) rfl rfl (Nat.le_of_ble_eq_true rfl) dX8_init__71 (fun H locs hP hD hS => ?_)
  replace hP : va_P D classes [(h0, .inr (8, [.ref q0, .ref q1, .ref q2, .ref q3, .int (nI L), .int 0])), (r0, .inr (8, [.ref k0, .ref k1, .ref k2, .ref k3, .int (nI L), .int (nI C)])), (k0, .inl (cy 0, 12, .inl f0)), (k1, .inl (cy 0, 12, .inl f1)), (k2, .inl (cy 0, 48, .inl f2)), (k3, .inl (cy 0, 400, .inl f3)), (q0, .inl (cy 0, C, .inl g0)), (q1, .inl (cy 0, C, .inl g1)), (q2, .inl (cy 0, (C * 4), .inl g2)), (q3, .inl (cy 0, L, .inl g3))] H := hP
  replace hD : va_D (pA h0 r0 k0 k1 k2 k3 s.heap.size) [(h0, .inr (8, [.ref q0, .ref q1, .ref q2, .ref q3, .int (nI L), .int 0])), (r0, .inr (8, [.ref k0, .ref k1, .ref k2, .ref k3, .int (nI L), .int (nI C)])), (k0, .inl (cy 0, 12, .inl f0)), (k1, .inl (cy 0, 12, .inl f1)), (k2, .inl (cy 0, 48, .inl f2)), (k3, .inl (cy 0, 400, .inl f3)), (q0, .inl (cy 0, C, .inl g0)), (q1, .inl (cy 0, C, .inl g1)), (q2, .inl (cy 0, (C * 4), .inl g2)), (q3, .inl (cy 0, L, .inl g3))] := hD
  refine lv_aload_n hx hb dX8_init__74 rfl (lv_at hl 0 rfl) ?_
  refine lv_aload_n hx hb dX8_init__75 rfl (lv_at hl 1 rfl) ?_
  refine va_get (D := D) (ci := 8) (v := .int (nI C)) (C := RX8) (T := TX8) (N := 6) hx hb hT hin_8 hown E.2 hP 1 rfl rfl 5 (by decide) (hT _ k_255) (fun _ h9 => h9) rfl dX8_init__76 ?_
  refine va_put (D := D) (ci := 8) (v := .int (nI C)) (ty := .int) (C := RX8) (T := TX8) (N := 6) hx hb hT hin_8 tyX8 tyX8_ok nmX8 hown E.2 hP hD hS 0 rfl rfl 5 (by decide) (hT _ k_255) (fun _ h9 => h9) rfl (by decide +kernel) rfl rfl (Nat.le_of_ble_eq_true rfl) dX8_init__79 (fun H locs hP hD hS => ?_)
  replace hP : va_P D classes [(h0, .inr (8, [.ref q0, .ref q1, .ref q2, .ref q3, .int (nI L), .int (nI C)])), (r0, .inr (8, [.ref k0, .ref k1, .ref k2, .ref k3, .int (nI L), .int (nI C)])), (k0, .inl (cy 0, 12, .inl f0)), (k1, .inl (cy 0, 12, .inl f1)), (k2, .inl (cy 0, 48, .inl f2)), (k3, .inl (cy 0, 400, .inl f3)), (q0, .inl (cy 0, C, .inl g0)), (q1, .inl (cy 0, C, .inl g1)), (q2, .inl (cy 0, (C * 4), .inl g2)), (q3, .inl (cy 0, L, .inl g3))] H := hP
  replace hD : va_D (pA h0 r0 k0 k1 k2 k3 s.heap.size) [(h0, .inr (8, [.ref q0, .ref q1, .ref q2, .ref q3, .int (nI L), .int (nI C)])), (r0, .inr (8, [.ref k0, .ref k1, .ref k2, .ref k3, .int (nI L), .int (nI C)])), (k0, .inl (cy 0, 12, .inl f0)), (k1, .inl (cy 0, 12, .inl f1)), (k2, .inl (cy 0, 48, .inl f2)), (k3, .inl (cy 0, 400, .inl f3)), (q0, .inl (cy 0, C, .inl g0)), (q1, .inl (cy 0, C, .inl g1)), (q2, .inl (cy 0, (C * 4), .inl g2)), (q3, .inl (cy 0, L, .inl g3))] := hD
  obtain ⟨P, hPe⟩ : ∃ P : FP, P = mkP h0 q0 q1 q2 q3 L C g0 g1 g2 g3 := ⟨_, rfl⟩
  have hP9 : va_P D classes (roW cy r0 k0 k1 k2 k3 L C f0 f1 f2 f3 ++ pw cy P) H := by rw [hPe]; exact hP.sub [1, 2, 3, 4, 5, 0, 6, 7, 8, 9] rfl
  have hD9 : va_D (pA h0 r0 k0 k1 k2 k3 s.heap.size) (roW cy r0 k0 k1 k2 k3 L C f0 f1 f2 f3 ++ pw cy P) := by rw [hPe]; exact hD.sub [1, 2, 3, 4, 5, 0, 6, 7, 8, 9] (by decide) rfl
  refine W.widen (k := 4) (n := 472) (Nat.le_of_ble_eq_true rfl) (Nat.le_of_ble_eq_true rfl) ?_
  exact W.vret hx hb hr (fun t ht hW => ⟨⟨P, rfl, ⟨by rw [hPe]; rfl, by rw [hPe]; exact ⟨rfl, rfl, rfl, rfl, rfl, rfl, hg0, hg1, hg2, hg3⟩⟩, (by show va_P _ _ _ t.heap; rw [ht]; exact hP9), hD9⟩, hS.F ht⟩) hS.2.2 dX8_init__82 hlocks
def pB (r0 k0 k1 k2 k3 sz : Nat) : Nat → Prop := fun z => z ∈ [r0, k0, k1, k2, k3] ∨ sz ≤ z
set_option maxHeartbeats 4000000 in
set_option maxRecDepth 100000 in
theorem tX8_copy (l : Launch) (D : va_G) (cy : Nat → ClassId) (r0 k0 k1 k2 k3 L C : Nat) (f0 f1 f2 f3 : Nat → Int32) (hL : L ≤ 400) (hC : C ≤ 12) (hnd : [r0, k0, k1, k2, k3].Nodup) (sz : Nat) : Met l yX8_copy (Cond.code yX8_copy cX8_copy 1 (some (.object RX8)) :: TT) (rmX 3 5 478) (va_Pc [.ref r0] (fun U => U.heap.size = sz ∧ va_P D classes (roW cy r0 k0 k1 k2 k3 L C f0 f1 f2 f3) U.heap ∧ va_K D classes (tys cy) U ∧ zN U)) (va_Qr (fun P : FP => isCp L C f0 f1 f2 f3 P) (fun P q t => P.1 99 = q ∧ va_P D classes (roW cy r0 k0 k1 k2 k3 L C f0 f1 f2 f3 ++ pw cy P) t.heap ∧ va_D (pB r0 k0 k1 k2 k3 sz) (roW cy r0 k0 k1 k2 k3 L C f0 f1 f2 f3 ++ pw cy P)) (pB r0 k0 k1 k2 k3 sz)) 5 478 (pB r0 k0 k1 k2 k3 sz) := by
  refine Met.ofW (cc := cX8_copy) (maxL := 1) (ret := some (.object RX8)) (by decide) rfl ?_
  intro p e s m args below meth c s₁ B hml hv
  obtain ⟨hargs, hU, hP, hK, hZ⟩ := hv
  have hts := atoms_spec (ws := Cond.code yX8_copy cX8_copy 1 (some (.object RX8)) :: TT) B.pre
  have hT : ∀ w ∈ TT, w.before args s = true := fun w h => hts w (List.mem_cons_of_mem _ h)
  have hown : s.vm.findClass RX8 = some m.cls := findClass_of_methodNamed B.named
  have hx := B.exec
  have hb := B.bytes
  have hr := B.returns
  have hlocks := B.notSynchronized
  have hl := lv_entry [.ref r0] (n := 1) (Nat.le_of_ble_eq_true rfl)
  have he : entryFrame m args 1 = F0 m 0 ((lg_sl [.ref r0] ++ List.replicate (1 - (lg_sl [.ref r0]).length) Slot.unset).toArray) [] := by rw [hargs]; exact lg_entry_eq m [.ref r0] 1
  rw [he]
  generalize (lg_sl [.ref r0] ++ List.replicate (1 - (lg_sl [.ref r0]).length) Slot.unset).toArray = ls at hl ⊢
  replace hl : lv_has ls 1 [(0, .ref r0)] := hl
  subst hU
  have E : Ev p s m args c D cy cX8_copy 1 RX8 := ⟨⟨hx, hb, hml, hown, hT⟩, hK⟩
  have hD : va_D (pB r0 k0 k1 k2 k3 s.heap.size) (roW cy r0 k0 k1 k2 k3 L C f0 f1 f2 f3) := va_D_nodup (l := [r0, k0, k1, k2, k3]) rfl hnd (fun q h => Or.inl h)
  have hS : va_S (pB r0 k0 k1 k2 k3 s.heap.size) s.heap s.heap [] := va_S.rf
  have hA : ∀ q : Nat, s.heap.size ≤ q → pB r0 k0 k1 k2 k3 s.heap.size q := fun q h => Or.inr h
  have hlt0 : ∀ z ∈ [r0, k0, k1, k2, k3], z < s.heap.size := by
    intro z hz
    obtain ⟨i, hi⟩ := List.getElem?_of_mem hz
    have h1 : ((roW cy r0 k0 k1 k2 k3 L C f0 f1 f2 f3).map Prod.fst)[i]? = some z := hi
    rw [List.getElem?_map] at h1
    obtain ⟨x, hx2, rfl⟩ := Option.map_eq_some_iff.mp h1
    exact (hP i x hx2).lt
  refine va_new (ci := 8) (fs := [.null, .null, .null, .null, .int 0, .int 0]) (C := RX8) (T := TX8) (N := 6) hx hb hT hin_8 tyX8 tyX8_ok hown (hT _ k_769) (hT _ k_242) (hT _ k_8) hK hP hD hS hA rfl dfl_8 (Nat.le_of_ble_eq_true rfl) (Nat.le_of_ble_eq_true rfl) dX8_copy_0 (fun q H hP hD hS => ?_)
  refine lv_dup hx hb dX8_copy_3 rfl ?_
  refine lv_aload_n hx hb dX8_copy_4 rfl (lv_at hl 0 rfl) ?_
  have hP2 : va_P D classes ((q, .inr (8, [.null, .null, .null, .null, .int 0, .int 0])) :: roW cy r0 k0 k1 k2 k3 L C f0 f1 f2 f3) H := P_of hP (fun z hz => by
    rcases List.mem_cons.mp hz with h | h
    · rw [h]; exact List.mem_append_right _ (List.mem_singleton.mpr rfl)
    · exact List.mem_append_left _ h)
  have hn0 := (D_nodup hD).1
  rw [List.map_append] at hn0
  have hn1 : ([r0, k0, k1, k2, k3] ++ [q]).Nodup := hn0
  have hq : s.heap.size ≤ q := by
    rcases (D_nodup hD).2 q (by rw [List.map_append]; exact List.mem_append_right _ (List.mem_singleton.mpr rfl)) with h | h
    · exact absurd rfl ((List.nodup_append.mp hn1).2.2 q h q (List.mem_singleton.mpr rfl))
    · exact h
  have hnd6 : [q, r0, k0, k1, k2, k3].Nodup := List.nodup_cons.mpr ⟨fun h => absurd (hlt0 q h) (Nat.not_lt.mpr hq), hnd⟩
  have hFc : ∀ z, pA q r0 k0 k1 k2 k3 H.size z → pB r0 k0 k1 k2 k3 s.heap.size z := by
    intro z hz
    rcases hz with h | h
    · rcases List.mem_cons.mp h with h | h
      · rw [h]; exact Or.inr hq
      · exact Or.inl h
    · exact Or.inr (Nat.le_trans hS.1 h)
  refine va_callv (va_runI (As := [.ref r0]) (rest := [.ref q]) E.1 (nX8_init_ l D cy q r0 k0 k1 k2 k3 L C f0 f1 f2 f3 hL hC hnd6 H.size) ⟨callB_of 1 hT (tt_cons k_772) rfl rfl rfl (hT _ k_8) (hT _ k_770) qX8_init_.2 ⟨Nat.le_of_ble_eq_true rfl, Nat.le_of_ble_eq_true rfl⟩, rfl, hT _ k_771⟩ ⟨fun a U g mk z => ⟨z.1, z.2.1, z.2.2.1, va_K.moved (u := U) (U := U.calling g mk a) (Vm.Alike.refl U.vm) z.2.2.2.1, va_Nw.same rfl rfl z.2.2.2.2⟩, fun U hU hW => ⟨rfl, by rw [hU], by rw [hU]; exact hP2, va_K.moved hW.alike hK, va_Nw.warmC hW hZ⟩⟩ rfl rfl hl.1 rfl (lv_room (Nat.le_of_ble_eq_true rfl)) dX8_copy_5 ⟨Nat.le_of_ble_eq_true rfl, Nat.le_of_ble_eq_true rfl⟩) hS (fun q _ h => hFc q h) hFc (fun P t H1 locs ht hvm hw hB hz1 hk1 hS => ?_)
  obtain ⟨hP1, hD1⟩ := hB
  rw [ht] at hP1
  refine W.widen (k := 5) (n := 478) (Nat.le_of_ble_eq_true rfl) (Nat.le_of_ble_eq_true rfl) ?_
  exact W.aret hx hb hr (Or.inl ⟨_, rfl⟩) (Or.inr ⟨_, rfl⟩) (fun t ht hW => ⟨⟨P, q, rfl, hw.2, hw.1, (by rw [ht]; exact hP1), hD1.weaken (fun _ _ _ h => hFc _ h)⟩, hS.F ht⟩) hS.2.2 dX8_copy_8 hlocks
