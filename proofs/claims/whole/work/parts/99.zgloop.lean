/-! T1, the law's loop: the worlds side by side -/
/-- an image: its land's rows, by the addresses iad -/
def igw (cy : Nat → ClassId) (ad : Nat → Nat) (st : St) : va_W := ((ad 1599), .inr (6, cf_15 ad st)) :: (ad 1503, .inl (cy 0, 6, .inl (st.2.2.1 1503))) :: (ad 1504, .inl (cy 0, 18, .inl (st.2.2.1 1504))) :: (ad 1505, .inl (cy 0, 36, .inl (st.2.2.1 1505))) :: (ad 1506, .inl (cy 0, 6, .inl (st.2.2.1 1506))) :: (ad 1507, .inl (cy 4, 6, .inr (.inr (.inr (.inr (st.2.2.2.2 1507)))))) :: ((ad 1699), .inr (0, cf_16 ad st)) :: (ad 1600, .inl (cy 0, 6, .inl (st.2.2.1 1600))) :: (ad 1601, .inl (cy 0, 6, .inl (st.2.2.1 1601))) :: (ad 1602, .inl (cy 0, 6, .inl (st.2.2.1 1602))) :: (ad 1603, .inl (cy 0, 4, .inl (st.2.2.1 1603))) :: ((ad 1799), .inr (4, cf_17 ad st)) :: (ad 1700, .inl (cy 0, 6, .inl (st.2.2.1 1700))) :: (ad 1701, .inl (cy 0, 6, .inl (st.2.2.1 1701))) :: (ad 1702, .inl (cy 0, 8, .inl (st.2.2.1 1702))) :: (ad 1703, .inl (cy 0, 8, .inl (st.2.2.1 1703))) :: (ad 1704, .inl (cy 0, 66, .inl (st.2.2.1 1704))) :: ((ad 1899), .inr (1, cf_18 ad st)) :: (ad 1800, .inl (cy 0, 8, .inl (st.2.2.1 1800))) :: (ad 1801, .inl (cy 0, 8, .inl (st.2.2.1 1801))) :: (ad 1802, .inl (cy 0, 8, .inl (st.2.2.1 1802))) :: (ad 1803, .inl (cy 0, 99, .inl (st.2.2.1 1803))) :: []
def igads (ad : Nat → Nat) : List Nat := (ad 1599) :: ad 1503 :: ad 1504 :: ad 1505 :: ad 1506 :: ad 1507 :: (ad 1699) :: ad 1600 :: ad 1601 :: ad 1602 :: ad 1603 :: (ad 1799) :: ad 1700 :: ad 1701 :: ad 1702 :: ad 1703 :: ad 1704 :: (ad 1899) :: ad 1800 :: ad 1801 :: ad 1802 :: ad 1803 :: []
abbrev IM : Type := Option ((Nat → Nat) × St)
def imW (cy : Nat → ClassId) (o : IM) : va_W := match o with
  | none => []
  | some x => igw cy x.1 x.2
def imA (o : IM) : List Nat := match o with
  | none => []
  | some x => igads x.1
theorem imW_fst (cy : Nat → ClassId) (o : IM) : (imW cy o).map Prod.fst = imA o := by
  cases o with
  | none => rfl
  | some x => rfl
theorem P_lts {D : va_G} {cl : List vw_C} {ws : va_W} {H : Heap} (hP : va_P D cl ws H) : ∀ a ∈ ws.map Prod.fst, a < H.size := by
  intro a ha
  obtain ⟨z, hz, rfl⟩ := List.mem_map.mp ha
  obtain ⟨i, hi⟩ := List.getElem?_of_mem hz
  exact (hP i z hi).lt
/-- all worlds in the heap -/
def WW (D : va_G) (cy : Nat → ClassId) (fz : List FP) (ad : Nat → Nat) (c : St) (mad : Nat → Nat) (mm : St) (i0 i1 : IM) (H : Heap) : Prop := va_P D classes (cx cy ad fz c) H ∧ va_P D classes (mw cy mad mm) H ∧ va_P D classes (imW cy i0) H ∧ va_P D classes (imW cy i1) H
def NN (fz : List FP) (ad mad : Nat → Nat) (i0 i1 : IM) : Prop := (cads ad fz ++ (mads mad ++ (imA i0 ++ imA i1))).Nodup
def AA (sz : Nat) (fz : List FP) (ad mad : Nat → Nat) (i0 i1 : IM) : Prop := ∀ a ∈ cads ad fz ++ (mads mad ++ (imA i0 ++ imA i1)), sz ≤ a
theorem nd_no {a b : List Nat} {x : Nat} (h : (a ++ b).Nodup) (h1 : x ∈ a) (h2 : x ∈ b) : False := (List.nodup_append.mp h).2.2 x h1 x h2 rfl
theorem NN.c {fz : List FP} {ad mad : Nat → Nat} {i0 i1 : IM} (h : NN fz ad mad i0 i1) : (cads ad fz).Nodup := (List.nodup_append.mp h).1
theorem NN.m {fz : List FP} {ad mad : Nat → Nat} {i0 i1 : IM} (h : NN fz ad mad i0 i1) : (mads mad).Nodup := (List.nodup_append.mp (List.nodup_append.mp h).2.1).1
/-- how an image of both sides goes together -/
def IRk (fz : List FP) (k : Nat) (o : IM) (c mm : St) : Prop := match o with
  | none => c.2.2.2.2 1 k = none ∧ mm.2.2.1 5 k = 0
  | some x => c.2.2.2.2 1 k = some (x.1 1599) ∧ (¬ mm.2.2.1 5 k = 0) ∧ Im 1400 fz x.2 (fun j => mm.2.2.1 4 (5550 * k + j))
theorem IRk.f {fz : List FP} {k : Nat} {o : IM} {c mm c' mm' : St} (h : IRk fz k o c mm) (f : Fx c mm c' mm') : IRk fz k o c' mm' := by
  unfold IRk at h ⊢
  cases o with
  | none => dsimp only at h ⊢; rw [f.1, f.2.2]; exact h
  | some x => dsimp only at h ⊢; rw [f.1, f.2.1, f.2.2]; exact h
section LoopW
variable {D : va_G} {cy : Nat → ClassId} {fz : List FP} {ad mad : Nat → Nat} {c c' mm mm' : St} {i0 i1 : IM} {H H1 : Heap}
theorem WW.cc (hw : WW D cy fz ad c mad mm i0 i1 H) (hn : NN fz ad mad i0 i1) (hk : ∀ x : Nat, x < H.size → ¬ cA ad fz H.size x → H1[x]? = H[x]?) (h1 : va_P D classes (cx cy ad fz c') H1) : WW D cy fz ad c' mad mm i0 i1 H1 := by
  obtain ⟨-, w2, w3, w4⟩ := hw
  refine ⟨h1, P_keep w2 hk (fun q hq hb => ?_), P_keep w3 hk (fun q hq hb => ?_), P_keep w4 hk (fun q hq hb => ?_)⟩
  · rcases hb with hb | hb
    · exact nd_no hn hb (List.mem_append_left _ hq)
    · exact absurd (P_lts w2 q hq) (Nat.not_lt.mpr hb)
  · rcases hb with hb | hb
    · rw [imW_fst] at hq
      exact nd_no hn hb (List.mem_append_right _ (List.mem_append_left _ hq))
    · exact absurd (P_lts w3 q hq) (Nat.not_lt.mpr hb)
  · rcases hb with hb | hb
    · rw [imW_fst] at hq
      exact nd_no hn hb (List.mem_append_right _ (List.mem_append_right _ hq))
    · exact absurd (P_lts w4 q hq) (Nat.not_lt.mpr hb)
theorem WW.rf2 (hw : WW D cy fz ad c mad mm i0 i1 H) (hn : NN fz ad mad i0 i1) (hk : ∀ x : Nat, x < H.size → ¬ mA mad H.size x → H1[x]? = H[x]?) (h1 : va_P D classes (mw cy mad mm') H1) : WW D cy fz ad c mad mm' i0 i1 H1 := by
  obtain ⟨w1, -, w3, w4⟩ := hw
  have hn2 := (List.nodup_append.mp hn).2.1
  refine ⟨P_keep w1 hk (fun q hq hb => ?_), h1, P_keep w3 hk (fun q hq hb => ?_), P_keep w4 hk (fun q hq hb => ?_)⟩
  · rcases hb with hb | hb
    · rw [cx_fst] at hq
      exact nd_no hn hq (List.mem_append_left _ hb)
    · exact absurd (P_lts w1 q hq) (Nat.not_lt.mpr hb)
  · rcases hb with hb | hb
    · rw [imW_fst] at hq
      exact nd_no hn2 hb (List.mem_append_left _ hq)
    · exact absurd (P_lts w3 q hq) (Nat.not_lt.mpr hb)
  · rcases hb with hb | hb
    · rw [imW_fst] at hq
      exact nd_no hn2 hb (List.mem_append_right _ hq)
    · exact absurd (P_lts w4 q hq) (Nat.not_lt.mpr hb)
end LoopW
/-- the machine at the law, as it is all the way -/
def LC (p : Program) (s : State) (m : MethodId) (meth : Method) (cd : Code) (D : va_G) (cy : Nat → ClassId) (b L : Nat) (xs : Nat → Int32) : Prop := Ev p s m #[Value.ref b] cd D cy code 4 "OpenGatesLaw" ∧ va_X b L xs s s.heap ∧ b < s.heap.size ∧ L ≤ 3072 ∧ cN (fun q : Nat => s.heap.size ≤ q) s s.heap ∧ zN s ∧ xN s ∧ meth.sig.returnType = ret ∧ meth.locks = false
/-- at the loop -/
def LI (D : va_G) (cy : Nat → ClassId) (s : State) (fz : List FP) (ad : Nat → Nat) (c : St) (mad : Nat → Nat) (mm : St) (i0 i1 : IM) (H : Heap) (locs : List Loc) : Prop := WW D cy fz ad c mad mm i0 i1 H ∧ NN fz ad mad i0 i1 ∧ AA s.heap.size fz ad mad i0 i1 ∧ va_S (fun q : Nat => s.heap.size ≤ q) s.heap H locs ∧ RR fz c mm ∧ IRk fz 0 i0 c mm ∧ IRk fz 1 i1 c mm
section LoopR
variable {p : Program} {l : Launch} {e : Env} {s : State} {m : MethodId} {below : List Frame} {meth : Method} {cd : Code} {H : Heap} {locs : List Loc} {cells slots : Nat} {Q : State → Prop} {D : va_G} {cy : Nat → ClassId} {b L : Nat} {xs : Nat → Int32} {pc t : Nat} {ls : Array Slot} {rest st0 : List Value} {fz : List FP} {ad mad : Nat → Nat} {c c' mm mm' : St} {i0 i1 : IM}
theorem cA_A (ha : AA s.heap.size fz ad mad i0 i1) (hS : va_S (fun q : Nat => s.heap.size ≤ q) s.heap H locs) : ∀ q, cA ad fz H.size q → s.heap.size ≤ q := fun q h => h.elim (fun h => ha q (List.mem_append_left _ h)) (fun h => Nat.le_trans hS.1 h)
theorem mA_A (ha : AA s.heap.size fz ad mad i0 i1) (hS : va_S (fun q : Nat => s.heap.size ≤ q) s.heap H locs) : ∀ q, mA mad H.size q → s.heap.size ≤ q := fun q h => h.elim (fun h => ha q (List.mem_append_right _ (List.mem_append_left _ h))) (fun h => Nat.le_trans hS.1 h)
/-- a script's int onto the stack -/
theorem g_arg {k : Nat} {v : Int} (C0 : LC p s m meth cd D cy b L xs) (hS : va_S (fun q : Nat => s.heap.size ≤ q) s.heap H locs) (hl : lv_has ls 4 [(0, .ref b), (1, .ref (ad 99)), (2, .ref (mad 100)), (3, .int (nI (6 * t)))]) (hk : 6 * t + k < L) (hv : Int32.ofInt v = nI k) (d0 : decode code pc = .ok (.aload_n 0, 1)) (d1 : decode code (pc + 1) = .ok (.iload_n 3, 1)) (d2 : decode code (pc + 2) = .ok (.iconst v, 1)) (d3 : decode code (pc + 3) = .ok (.iadd, 1)) (d4 : decode code (pc + 4) = .ok (.iaload, 1)) (kk : W p l e room_1 s m #[Value.ref b] below meth cd H locs cells slots Q (F0 m (pc + 5) ls (.int (xs (6 * t + k)) :: rest))) : W p l e room_1 s m #[Value.ref b] below meth cd H locs cells slots Q (F0 m pc ls rest) := by
  obtain ⟨E, hX, hbl, hL, -⟩ := C0
  have hx := E.1.1
  have hb := E.1.2.1
  have hbA : ¬ (fun q : Nat => s.heap.size ≤ q) b := Nat.not_le.mpr hbl
  refine lv_aload_n hx hb d0 rfl (lv_at hl 0 rfl) ?_
  refine lv_iload_n hx hb d1 rfl (lv_at hl 3 rfl) ?_
  refine lv_iconst (v := nI k) hx hb d2 hv ?_
  refine lv_iadd hx hb d3 ?_
  have e1 : nI (6 * t) + nI k = nI (6 * t + k) := oN_add _ _
  rw [e1]
  refine va_sld hx hb hX hbl hbA hS (vp_in_nI hk (by omega)) d4 ?_
  rw [show (nI (6 * t + k)).toNatClampNeg = 6 * t + k from oN_tn (by omega)]
  exact kk
/-- a call of the class -/
theorem w_ci {idx n maxL d : Nat} {y : MethodName} {bytes : ByteArray} {ret : Option FieldType} {As : List Value} {r : Int32} (C0 : LC p s m meth cd D cy b L xs) (hw : WW D cy fz ad c mad mm i0 i1 H) (hn : NN fz ad mad i0 i1) (ha : AA s.heap.size fz ad mad i0 i1) (hS : va_S (fun q : Nat => s.heap.size ≤ q) s.heap H locs) (hM : ∀ sz, Met l y (Cond.code y bytes maxL ret :: TT) (rmD d) (cPc D cy ad fz (.ref (ad 99) :: As) c sz) (cQi D cy ad fz r c' sz) 0 0 (cA ad fz sz)) (hG : GoodIn TT (wsV "OpenGatesLaw" idx RX11 y (Cond.code y bytes maxL ret :: TT))) (hd : y.cls = RX11 ∧ y.cls ≠ "java/lang/invoke/MethodHandle" ∧ y.cls ≠ "java/lang/invoke/VarHandle" ∧ (parseMethodDescriptor y.desc).map (fun d => d.parameters.length) = some n) (hR : d + 1 ≤ 2048 ∧ 8 + (maxL + 11) + 64 * d ≤ 84000) (hc : cells ≤ 500000 ∧ slots ≤ 7000000) (hna : As.length = n) (hsize : ls.size = 4) (hst : st0 = As.reverse ++ .ref (ad 99) :: rest) (hW : (rest.map fun v => v.category).sum ≤ 8) (hdg : decode code pc = .ok (.invokevirtual idx, 3)) (kk : ∀ (H1 : Heap) (locs1 : List Loc), WW D cy fz ad c' mad mm i0 i1 H1 → va_S (fun q : Nat => s.heap.size ≤ q) s.heap H1 locs1 → W p l e room_1 s m #[Value.ref b] below meth cd H1 locs1 cells slots Q (F0 m (pc + 3) ls (.int r :: rest))) : W p l e room_1 s m #[Value.ref b] below meth cd H locs cells slots Q (F0 m pc ls st0) := by
  obtain ⟨E, -, -, -, hN, -⟩ := C0
  refine va_calli (va_runV (As := As) (rest := rest) (g := F0 m pc ls st0) E.1 (hM H.size) (cwV n E.1.2.2.2.2 hG rfl rfl rfl hd hR) ⟨c_blind, va_recv E.2 hw.1 (ci := 11) (q0 := 0) rfl rfl, fun U hU hW => ⟨rfl, by rw [hU], by rw [hU]; exact hw.1, va_K.moved hW.alike E.2, by rw [hU]; exact hN.step hS hW (cA_A ha hS)⟩⟩ rfl hna hsize hst (lv_room hW) hdg ⟨show cells + 0 ≤ 600000 by omega, show slots + 0 ≤ 7302250 by omega⟩) hS (fun q _ h => cA_A ha hS q h) (cA_A ha hS) (fun r u t H1 locs1 ht hvm hw1 hB hz hk hS => ?_)
  subst hw1
  replace hB : va_P D classes (cx cy ad fz c') t.heap := hB
  rw [ht] at hB
  exact kk H1 locs1 (hw.cc hn hk hB) hS
theorem w_cl {idx n maxL d : Nat} {y : MethodName} {bytes : ByteArray} {ret : Option FieldType} {As : List Value} {r : Int64} (C0 : LC p s m meth cd D cy b L xs) (hw : WW D cy fz ad c mad mm i0 i1 H) (hn : NN fz ad mad i0 i1) (ha : AA s.heap.size fz ad mad i0 i1) (hS : va_S (fun q : Nat => s.heap.size ≤ q) s.heap H locs) (hM : ∀ sz, Met l y (Cond.code y bytes maxL ret :: TT) (rmD d) (cPc D cy ad fz (.ref (ad 99) :: As) c sz) (cQl D cy ad fz r c' sz) 0 0 (cA ad fz sz)) (hG : GoodIn TT (wsV "OpenGatesLaw" idx RX11 y (Cond.code y bytes maxL ret :: TT))) (hd : y.cls = RX11 ∧ y.cls ≠ "java/lang/invoke/MethodHandle" ∧ y.cls ≠ "java/lang/invoke/VarHandle" ∧ (parseMethodDescriptor y.desc).map (fun d => d.parameters.length) = some n) (hR : d + 1 ≤ 2048 ∧ 8 + (maxL + 11) + 64 * d ≤ 84000) (hc : cells ≤ 500000 ∧ slots ≤ 7000000) (hna : As.length = n) (hsize : ls.size = 4) (hst : st0 = As.reverse ++ .ref (ad 99) :: rest) (hW : (rest.map fun v => v.category).sum ≤ 8) (hdg : decode code pc = .ok (.invokevirtual idx, 3)) (kk : ∀ (H1 : Heap) (locs1 : List Loc), WW D cy fz ad c' mad mm i0 i1 H1 → va_S (fun q : Nat => s.heap.size ≤ q) s.heap H1 locs1 → W p l e room_1 s m #[Value.ref b] below meth cd H1 locs1 cells slots Q (F0 m (pc + 3) ls (.long r :: rest))) : W p l e room_1 s m #[Value.ref b] below meth cd H locs cells slots Q (F0 m pc ls st0) := by
  obtain ⟨E, -, -, -, hN, -⟩ := C0
  refine va_calll (va_runV (As := As) (rest := rest) (g := F0 m pc ls st0) E.1 (hM H.size) (cwV n E.1.2.2.2.2 hG rfl rfl rfl hd hR) ⟨c_blind, va_recv E.2 hw.1 (ci := 11) (q0 := 0) rfl rfl, fun U hU hW => ⟨rfl, by rw [hU], by rw [hU]; exact hw.1, va_K.moved hW.alike E.2, by rw [hU]; exact hN.step hS hW (cA_A ha hS)⟩⟩ rfl hna hsize hst (lv_room hW) hdg ⟨show cells + 0 ≤ 600000 by omega, show slots + 0 ≤ 7302250 by omega⟩) hS (fun q _ h => cA_A ha hS q h) (cA_A ha hS) (fun r u t H1 locs1 ht hvm hw1 hB hz hk hS => ?_)
  subst hw1
  replace hB : va_P D classes (cx cy ad fz c') t.heap := hB
  rw [ht] at hB
  exact kk H1 locs1 (hw.cc hn hk hB) hS
/-- a call of the reference -/
theorem w_mi {idx n maxL d : Nat} {y : MethodName} {bytes : ByteArray} {ret : Option FieldType} {As : List Value} {r : Int32} (C0 : LC p s m meth cd D cy b L xs) (hw : WW D cy fz ad c mad mm i0 i1 H) (hn : NN fz ad mad i0 i1) (ha : AA s.heap.size fz ad mad i0 i1) (hS : va_S (fun q : Nat => s.heap.size ≤ q) s.heap H locs) (hM : ∀ sz, Met l y (Cond.code y bytes maxL ret :: TT) (rmD d) (mPc D cy mad As mm sz) (mQi D cy mad r mm' sz) 0 0 (mA mad sz)) (hG : GoodIn TT (wsV "OpenGatesLaw" idx RX12 y (Cond.code y bytes maxL ret :: TT))) (hd : y.cls = RX12 ∧ y.cls ≠ "java/lang/invoke/MethodHandle" ∧ y.cls ≠ "java/lang/invoke/VarHandle" ∧ (parseMethodDescriptor y.desc).map (fun d => d.parameters.length) = some n) (hR : d + 1 ≤ 2048 ∧ 8 + (maxL + 11) + 64 * d ≤ 84000) (hc : cells ≤ 500000 ∧ slots ≤ 7000000) (hna : As.length = n) (hsize : ls.size = 4) (hst : st0 = As.reverse ++ .ref (mad 100) :: rest) (hW : (rest.map fun v => v.category).sum ≤ 8) (hdg : decode code pc = .ok (.invokevirtual idx, 3)) (kk : ∀ (H1 : Heap) (locs1 : List Loc), WW D cy fz ad c mad mm' i0 i1 H1 → va_S (fun q : Nat => s.heap.size ≤ q) s.heap H1 locs1 → W p l e room_1 s m #[Value.ref b] below meth cd H1 locs1 cells slots Q (F0 m (pc + 3) ls (.int r :: rest))) : W p l e room_1 s m #[Value.ref b] below meth cd H locs cells slots Q (F0 m pc ls st0) := by
  obtain ⟨E, -⟩ := C0
  refine va_calli (va_runV (As := As) (rest := rest) (g := F0 m pc ls st0) E.1 (hM H.size) (cwV n E.1.2.2.2.2 hG rfl rfl rfl hd hR) ⟨m_blind, va_recv E.2 hw.2.1 (ci := 12) (q0 := 0) rfl rfl, fun U hU hW => ⟨rfl, by rw [hU], by rw [hU]; exact hw.2.1, va_K.moved hW.alike E.2⟩⟩ rfl hna hsize hst (lv_room hW) hdg ⟨show cells + 0 ≤ 600000 by omega, show slots + 0 ≤ 7302250 by omega⟩) hS (fun q _ h => mA_A ha hS q h) (mA_A ha hS) (fun r u t H1 locs1 ht hvm hw1 hB hz hk hS => ?_)
  subst hw1
  replace hB : va_P D classes (mw cy mad mm') t.heap := hB
  rw [ht] at hB
  exact kk H1 locs1 (hw.rf2 hn hk hB) hS
theorem w_ml {idx n maxL d : Nat} {y : MethodName} {bytes : ByteArray} {ret : Option FieldType} {As : List Value} {r : Int64} (C0 : LC p s m meth cd D cy b L xs) (hw : WW D cy fz ad c mad mm i0 i1 H) (hn : NN fz ad mad i0 i1) (ha : AA s.heap.size fz ad mad i0 i1) (hS : va_S (fun q : Nat => s.heap.size ≤ q) s.heap H locs) (hM : ∀ sz, Met l y (Cond.code y bytes maxL ret :: TT) (rmD d) (mPc D cy mad As mm sz) (mQl D cy mad r mm' sz) 0 0 (mA mad sz)) (hG : GoodIn TT (wsV "OpenGatesLaw" idx RX12 y (Cond.code y bytes maxL ret :: TT))) (hd : y.cls = RX12 ∧ y.cls ≠ "java/lang/invoke/MethodHandle" ∧ y.cls ≠ "java/lang/invoke/VarHandle" ∧ (parseMethodDescriptor y.desc).map (fun d => d.parameters.length) = some n) (hR : d + 1 ≤ 2048 ∧ 8 + (maxL + 11) + 64 * d ≤ 84000) (hc : cells ≤ 500000 ∧ slots ≤ 7000000) (hna : As.length = n) (hsize : ls.size = 4) (hst : st0 = As.reverse ++ .ref (mad 100) :: rest) (hW : (rest.map fun v => v.category).sum ≤ 8) (hdg : decode code pc = .ok (.invokevirtual idx, 3)) (kk : ∀ (H1 : Heap) (locs1 : List Loc), WW D cy fz ad c mad mm' i0 i1 H1 → va_S (fun q : Nat => s.heap.size ≤ q) s.heap H1 locs1 → W p l e room_1 s m #[Value.ref b] below meth cd H1 locs1 cells slots Q (F0 m (pc + 3) ls (.long r :: rest))) : W p l e room_1 s m #[Value.ref b] below meth cd H locs cells slots Q (F0 m pc ls st0) := by
  obtain ⟨E, -⟩ := C0
  refine va_calll (va_runV (As := As) (rest := rest) (g := F0 m pc ls st0) E.1 (hM H.size) (cwV n E.1.2.2.2.2 hG rfl rfl rfl hd hR) ⟨m_blind, va_recv E.2 hw.2.1 (ci := 12) (q0 := 0) rfl rfl, fun U hU hW => ⟨rfl, by rw [hU], by rw [hU]; exact hw.2.1, va_K.moved hW.alike E.2⟩⟩ rfl hna hsize hst (lv_room hW) hdg ⟨show cells + 0 ≤ 600000 by omega, show slots + 0 ≤ 7302250 by omega⟩) hS (fun q _ h => mA_A ha hS q h) (mA_A ha hS) (fun r u t H1 locs1 ht hvm hw1 hB hz hk hS => ?_)
  subst hw1
  replace hB : va_P D classes (mw cy mad mm') t.heap := hB
  rw [ht] at hB
  exact kk H1 locs1 (hw.rf2 hn hk hB) hS
end LoopR
/-- what a case must come to -/
abbrev LK (p : Program) (l : Launch) (e : Env) (s : State) (m : MethodId) (below : List Frame) (meth : Method) (cd : Code) (cells slots : Nat) (Q : State → Prop) (D : va_G) (cy : Nat → ClassId) (b : Nat) (ls : Array Slot) (ad mad : Nat → Nat) : Prop := ∀ (fz' : List FP) (ad' : Nat → Nat) (c' mm' : St) (i0' i1' : IM) (H' : Heap) (locs' : List Loc), ad' 99 = ad 99 → LI D cy s fz' ad' c' mad mm' i0' i1' H' locs' → W p l e room_1 s m #[Value.ref b] below meth cd H' locs' (cells + 30) (slots + 500) Q (F0 m 1416 ls [])
