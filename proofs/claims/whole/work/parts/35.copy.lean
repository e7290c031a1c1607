theorem dJ7_copyOf_59c91_0 : decode cJ7_copyOf_59c91 0 = .ok (.iload_n 1, 1) := by decide +kernel
theorem dJ7_copyOf_59c91_1 : decode cJ7_copyOf_59c91 1 = .ok (.aload_n 0, 1) := by decide +kernel
theorem dJ7_copyOf_59c91_2 : decode cJ7_copyOf_59c91 2 = .ok (.arraylength, 1) := by decide +kernel
theorem dJ7_copyOf_59c91_3 : decode cJ7_copyOf_59c91 3 = .ok (.if_icmp .ne 11, 3) := by decide +kernel
theorem dJ7_copyOf_59c91_6 : decode cJ7_copyOf_59c91 6 = .ok (.aload_n 0, 1) := by decide +kernel
theorem dJ7_copyOf_59c91_7 : decode cJ7_copyOf_59c91 7 = .ok (.invokevirtual 316, 3) := by decide +kernel
theorem dJ7_copyOf_59c91_10 : decode cJ7_copyOf_59c91 10 = .ok (.checkcast 317, 3) := by decide +kernel
theorem dJ7_copyOf_59c91_13 : decode cJ7_copyOf_59c91 13 = .ok (.areturn, 1) := by decide +kernel
theorem dJ7_copyOf_59c91_14 : decode cJ7_copyOf_59c91 14 = .ok (.iload_n 1, 1) := by decide +kernel
theorem dJ7_copyOf_59c91_15 : decode cJ7_copyOf_59c91 15 = .ok (.newarray .int, 2) := by decide +kernel
theorem dJ7_copyOf_59c91_17 : decode cJ7_copyOf_59c91 17 = .ok (.astore_n 2, 1) := by decide +kernel
theorem dJ7_copyOf_59c91_18 : decode cJ7_copyOf_59c91 18 = .ok (.aload_n 0, 1) := by decide +kernel
theorem dJ7_copyOf_59c91_19 : decode cJ7_copyOf_59c91 19 = .ok (.iconst 0, 1) := by decide +kernel
theorem dJ7_copyOf_59c91_20 : decode cJ7_copyOf_59c91 20 = .ok (.aload_n 2, 1) := by decide +kernel
theorem dJ7_copyOf_59c91_21 : decode cJ7_copyOf_59c91 21 = .ok (.iconst 0, 1) := by decide +kernel
theorem dJ7_copyOf_59c91_22 : decode cJ7_copyOf_59c91 22 = .ok (.aload_n 0, 1) := by decide +kernel
theorem dJ7_copyOf_59c91_23 : decode cJ7_copyOf_59c91 23 = .ok (.arraylength, 1) := by decide +kernel
theorem dJ7_copyOf_59c91_24 : decode cJ7_copyOf_59c91 24 = .ok (.iload_n 1, 1) := by decide +kernel
theorem dJ7_copyOf_59c91_25 : decode cJ7_copyOf_59c91 25 = .ok (.invokestatic 304, 3) := by decide +kernel
theorem dJ7_copyOf_59c91_28 : decode cJ7_copyOf_59c91 28 = .ok (.invokestatic 150, 3) := by decide +kernel
theorem dJ7_copyOf_59c91_31 : decode cJ7_copyOf_59c91 31 = .ok (.aload_n 2, 1) := by decide +kernel
theorem dJ7_copyOf_59c91_32 : decode cJ7_copyOf_59c91 32 = .ok (.areturn, 1) := by decide +kernel
/-! Arrays.copyOf over one row -/
theorem kx_777 : Cond.sameMethod "[I" "java/lang/Object" "clone" "()Ljava/lang/Object;" ∈ TT := tc_4 57 rfl rfl
theorem kx_778 : Cond.native ⟨"java/lang/Object", "clone", "()Ljava/lang/Object;"⟩ ∈ TT := tc_4 58 rfl rfl
theorem qJ7_copyOf_59c91 : yJ7_copyOf_59c91.cls = RJ7 ∧ yJ7_copyOf_59c91.cls ≠ "java/lang/invoke/MethodHandle" ∧ yJ7_copyOf_59c91.cls ≠ "java/lang/invoke/VarHandle" ∧ (parseMethodDescriptor yJ7_copyOf_59c91.desc).map (fun d => d.parameters.length) = some 2 := by decide +kernel
def zN (U : State) : Prop := va_Nw (.castable "[I" "java/lang/Cloneable") U
abbrev bPc (D : va_G) (cy : Nat → ClassId) (As : List Value) (a n : Nat) (f : Nat → Int32) (sz : Nat) : Array Value → State → Prop := va_Pc As (fun U => U.heap.size = sz ∧ va_P D classes [(a, .inl (cy 0, n, .inl f))] U.heap ∧ va_K D classes (tys cy) U ∧ zN U)
abbrev bQr (D : va_G) (cy : Nat → ClassId) (a n N : Nat) (f : Nat → Int32) (sz : Nat) : Array Value → State → Outcome → State → Prop := va_Qr (fun (g : Nat → Int32) => ∀ j, j < N → g j = f j) (fun g q t => va_P D classes [(a, .inl (cy 0, n, .inl f)), (q, .inl (cy 0, N, .inl g))] t.heap ∧ sz ≤ q) (xA a sz)
theorem b_blind {D : va_G} {cy : Nat → ClassId} {As : List Value} {a n : Nat} {f : Nat → Int32} {sz : Nat} : FrameBlind (bPc D cy As a n f sz) := fun a U g mk q => ⟨q.1, q.2.1, q.2.2.1, va_K.moved (u := U) (U := U.calling g mk a) (Vm.Alike.refl U.vm) q.2.2.2.1, va_Nw.same rfl rfl q.2.2.2.2⟩
set_option maxHeartbeats 4000000 in
theorem tcopyOf (l : Launch) (D : va_G) (cy : Nat → ClassId) (a n N : Nat) (hn : n ≤ 1000) (hN : N ≤ n) (f : Nat → Int32) (sz : Nat) : Met l yJ7_copyOf_59c91 (Cond.code yJ7_copyOf_59c91 cJ7_copyOf_59c91 3 (some (.array .int)) :: TT) (rmX 1 1 n) (bPc D cy [.ref a, .int (nI N)] a n f sz) (bQr D cy a n N f sz) 1 n (xA a sz) := by
  refine Met.ofW (cc := cJ7_copyOf_59c91) (maxL := 3) (ret := some (.array .int)) (by decide) rfl ?_
  intro p e s m args below meth c s₁ B hml hv
  obtain ⟨hargs, hU, hP, hK, hZ⟩ := hv
  have hts := atoms_spec (ws := Cond.code yJ7_copyOf_59c91 cJ7_copyOf_59c91 3 (some (.array .int)) :: TT) B.pre
  have hT : ∀ w ∈ TT, w.before args s = true := fun w h => hts w (List.mem_cons_of_mem _ h)
  have hown : s.vm.findClass RJ7 = some m.cls := findClass_of_methodNamed B.named
  have hx := B.exec
  have hb := B.bytes
  have hr := B.returns
  have hlocks := B.notSynchronized
  have hl := lv_entry [.ref a, .int (nI N)] (n := 3) (Nat.le_of_ble_eq_true rfl)
  have he : entryFrame m args 3 = F0 m 0 ((lg_sl [.ref a, .int (nI N)] ++ List.replicate (3 - (lg_sl [.ref a, .int (nI N)]).length) Slot.unset).toArray) [] := by rw [hargs]; exact lg_entry_eq m [.ref a, .int (nI N)] 3
  rw [he]
  generalize (lg_sl [.ref a, .int (nI N)] ++ List.replicate (3 - (lg_sl [.ref a, .int (nI N)]).length) Slot.unset).toArray = ls at hl ⊢
  replace hl : lv_has ls 3 [(0, .ref a), (1, .int (nI N))] := hl
  subst hU
  have E : Ev p s m args c D cy cJ7_copyOf_59c91 3 RJ7 := ⟨⟨hx, hb, hml, hown, hT⟩, hK⟩
  have hD : va_D (xA a s.heap.size) [(a, .inl (cy 0, n, .inl f))] := va_D_nodup (l := [a]) rfl (by simp) (fun q h => Or.inl (by simpa using h))
  have hS : va_S (xA a s.heap.size) s.heap s.heap [] := va_S.rf
  have hA : ∀ q : Nat, s.heap.size ≤ q → xA a s.heap.size q := fun q h => Or.inr h
  have fresh : ∀ {q : Nat} {x y : va_E}, va_D (xA a s.heap.size) [(a, x), (q, y)] → s.heap.size ≤ q := by
    intro q x y h
    rcases h.2 1 _ rfl with h1 | h1
    · exact absurd (h.1 0 1 _ _ rfl rfl h1.symm) (by decide)
    · exact h1
  refine lv_iload_n hx hb dJ7_copyOf_59c91_0 rfl (lv_at hl 1 rfl) ?_
  refine lv_aload_n hx hb dJ7_copyOf_59c91_1 rfl (lv_at hl 0 rfl) ?_
  refine va_alen (D := D) (cl := classes) (tys := tys cy) E.1.1 E.1.2.1 E.2 hP 0 0 rfl rfl (show Int32.ofNat n = nI n from rfl) dJ7_copyOf_59c91_2 ?_
  refine lv_icmp_ne (tgt := 14) hx hb dJ7_copyOf_59c91_3 (by decide) (fun hc => ?_) (fun hc => ?_)
  · refine lv_iload_n hx hb dJ7_copyOf_59c91_14 rfl (lv_at hl 1 rfl) ?_
    refine x_newI N E hP hD hS hA (nI_pos (by omega)) (nI_clamp (by omega)) (by simp only [componentBytes]; omega) (Nat.le_refl 1) (by show 0 + N ≤ n; omega) dJ7_copyOf_59c91_15 (fun q H hP hD hS => ?_)
    replace hP : va_P D classes [(a, .inl (cy 0, n, .inl f)), (q, .inl (cy 0, N, .inl (fun _ => 0)))] H := hP
    replace hD : va_D (xA a s.heap.size) [(a, .inl (cy 0, n, .inl f)), (q, .inl (cy 0, N, .inl (fun _ => 0)))] := hD
    refine lv_astore_n (lv' := [(2, .ref q), (0, .ref a), (1, .int (nI N))]) hx hb dJ7_copyOf_59c91_17 rfl hl (by decide) rfl (fun ls hl => ?_)
    refine lv_aload_n hx hb dJ7_copyOf_59c91_18 rfl (lv_at hl 1 rfl) ?_
    refine lv_iconst (v := 0) hx hb dJ7_copyOf_59c91_19 (by decide) ?_
    refine lv_aload_n hx hb dJ7_copyOf_59c91_20 rfl (lv_at hl 0 rfl) ?_
    refine lv_iconst (v := 0) hx hb dJ7_copyOf_59c91_21 (by decide) ?_
    refine lv_aload_n hx hb dJ7_copyOf_59c91_22 rfl (lv_at hl 1 rfl) ?_
    refine va_alen (D := D) (cl := classes) (tys := tys cy) E.1.1 E.1.2.1 E.2 hP 0 0 rfl rfl (show Int32.ofNat n = nI n from rfl) dJ7_copyOf_59c91_23 ?_
    refine lv_iload_n hx hb dJ7_copyOf_59c91_24 rfl (lv_at hl 2 rfl) ?_
    refine va_mmin hx hb (hml.trans hl.1.symm) hown (hT _ k_783) (hT _ k_526) (hT _ k_15) (hT _ k_527) (Nat.le_of_ble_eq_true rfl) (Nat.le_of_ble_eq_true rfl) (by show 0 + 1 ≤ 1; omega) (by show 0 + N ≤ n; omega) dJ7_copyOf_59c91_25 ?_
    have hm : (if nI N < nI n then nI N else nI n) = nI N := by
      by_cases h : N < n
      · rw [if_pos ((nI_ltI (by omega) (by omega)).mpr h)]
      · rw [if_neg (fun q => h ((nI_ltI (by omega) (by omega)).mp q)), show n = N by omega]
    rw [hm]
    refine va_copyi (D := D) (cl := classes) (tys := tys cy) hx hb (hml.trans hl.1.symm) hown (hT _ k_784) (hT _ k_786) (hT _ k_785) (hT _ k_20) E.2 hP hD hS 0 1 0 0 rfl rfl rfl rfl rfl (by decide) (by decide) (nI_pos (by omega)) (by rw [nI_clamp (by omega)]; show 0 + N ≤ n; omega) (by rw [nI_clamp (by omega)]; show 0 + N ≤ N; omega) (fun _ _ => rfl) (Nat.le_of_ble_eq_true rfl) (Nat.le_of_ble_eq_true rfl) dJ7_copyOf_59c91_28 (fun H locs hP hD hS => ?_)
    refine lv_aload_n hx hb dJ7_copyOf_59c91_31 rfl (lv_at hl 0 rfl) ?_
    refine W.widen (k := 1) (n := n) (by omega) (by omega) ?_
    refine W.aret hx hb hr (Or.inr ⟨_, rfl⟩) (Or.inr ⟨_, rfl⟩) (fun t ht hW => ⟨⟨_, q, rfl, ?_, (by rw [ht]; exact hP), fresh hD⟩, hS.F ht⟩) hS.2.2 dJ7_copyOf_59c91_32 hlocks
    intro j hj
    rw [nI_clamp (by omega)]
    show va_cpy f (fun _ => 0) 0 0 N j = f j
    unfold va_cpy
    rw [if_pos (by omega)]
    congr 1
    omega
  · have hnn : N = n := (nI_eq (by omega) (by omega)).mp hc
    subst hnn
    refine lv_aload_n hx hb dJ7_copyOf_59c91_6 rfl (lv_at hl 0 rfl) ?_
    have hnm : s.vm.findClass "[I" = some (cy 0) := va_nm_int (E.2.2 0 (cy 0, .int) rfl).2
    refine va_clone (D := D) (cl := classes) (tys := tys cy) hx hb (hml.trans hl.1.symm) hown (hT _ k_776) (hT _ kx_777) (hT _ kx_778) (hT _ k_779) (hT _ k_780) hZ E.2 hP hD hS hA 0 0 rfl rfl hnm (fun i v h => ?_) (Nat.le_of_ble_eq_true rfl) (Nat.le_of_ble_eq_true rfl) (Nat.le_refl 1) (by show 0 + N ≤ N; omega) dJ7_copyOf_59c91_7 (fun q H hK2 hP hD hS => ?_)
    · have h2 : (arrV (cy 0) N (fun j => Value.int (f j))).slots[i]? = some v := h
      have hlt : i < N := by
        have := (Array.getElem?_eq_some_iff.mp h2).1
        rwa [arrV_size] at this
      have h3 : v = .int (f i) := by
        have h4 := h2
        simp [arrV, hlt] at h4
        exact h4.symm
      rw [h3]; rfl
    replace hP : va_P D classes [(a, .inl (cy 0, N, .inl f)), (q, .inl (cy 0, N, .inl f))] H := hP
    replace hD : va_D (xA a s.heap.size) [(a, .inl (cy 0, N, .inl f)), (q, .inl (cy 0, N, .inl f))] := hD
    refine va_castA (D := D) (cl := classes) hx hb hown (hT _ k_782) hP 1 rfl hnm dJ7_copyOf_59c91_10 ?_
    refine W.widen (k := 1) (n := N) (by omega) (by show 0 + N ≤ N; omega) ?_
    exact W.aret hx hb hr (Or.inr ⟨_, rfl⟩) (Or.inr ⟨_, rfl⟩) (fun t ht hW => ⟨⟨f, q, rfl, fun _ _ => rfl, (by rw [ht]; exact hP), fresh hD⟩, hS.F ht⟩) hS.2.2 dJ7_copyOf_59c91_13 hlocks
section BRows
variable {p : Program} {l : Launch} {e : Env} {R : Room} {s : State} {m : MethodId} {args : Array Value} {below : List Frame} {meth : Method} {c : Code} {H H0 : Heap} {locs : List Loc} {cells slots : Nat} {Q : State → Prop} {D : va_G} {cy : Nat → ClassId} {A : Nat → Prop} {cc : ByteArray} {nL pc d : Nat} {ls : Array Slot} {rest st0 : List Value} {ws : va_W} {own : String}
/-- copyOf called in any world that holds the row -/
theorem b_call {idx a nn N j : Nat} {f : Nat → Int32} (hnn : nn ≤ 1000) (hN : N ≤ nn) (E : Ev p s m args c D cy cc nL own) (hZ : zN s) (hP : va_P D classes ws H) (hD : va_D A ws) (hS : va_S A s.heap H locs) (hA : ∀ q, s.heap.size ≤ q → A q) (hj : ws[j]? = some (a, .inl (cy 0, nn, .inl f))) (h1 : Cond.methodLink own idx yJ7_copyOf_59c91 ∈ TT) (hR : 2 ≤ R.frames ∧ 86 ≤ R.locals) (hc : cells + 1 ≤ R.cells ∧ slots + nn ≤ R.slots) (hsize : ls.size = nL) (hW : (rest.map fun v => v.category).sum ≤ 8) (hdg : decode cc pc = .ok (.invokestatic idx, 3)) (kk : ∀ (q : Nat) (g : Nat → Int32) (H1 : Heap) (locs1 : List Loc), (∀ j, j < N → g j = f j) → va_P D classes (ws ++ [(q, .inl (cy 0, N, .inl g))]) H1 → va_D A (ws ++ [(q, .inl (cy 0, N, .inl g))]) → va_S A s.heap H1 locs1 → W p l e R s m args below meth c H1 locs1 (cells + 1) (slots + nn) Q (F0 m (pc + 3) ls (.ref q :: rest))) : W p l e R s m args below meth c H locs cells slots Q (F0 m pc ls (.int (nI N) :: .ref a :: rest)) := by
  have hPc : va_P D classes [(a, .inl (cy 0, nn, .inl f))] H := P_of hP (fun z hz => by simp only [List.mem_singleton] at hz; subst hz; exact List.mem_of_getElem? hj)
  have hFc : ∀ z, xA a H.size z → A z := fun z hz => hz.elim (fun hh => hh ▸ hD.2 j _ hj) (fun hh => hA z (Nat.le_trans hS.1 hh))
  refine va_callr (va_runS (As := [.ref a, .int (nI N)]) (rest := rest) (g := F0 m pc ls (.int (nI N) :: .ref a :: rest)) E.1 (tcopyOf l D cy a nn N hnn hN f H.size) ⟨callB_of 2 E.1.2.2.2.2 (tt_cons k_775) rfl rfl rfl (E.1.2.2.2.2 _ k_6) (E.1.2.2.2.2 _ h1) qJ7_copyOf_59c91.2 ⟨hR.1, hR.2⟩, E.1.2.2.2.2 _ k_774⟩ ⟨b_blind, fun U hU hW => ⟨rfl, by rw [hU], by rw [hU]; exact hPc, va_K.moved hW.alike E.2, va_Nw.warmC hW hZ⟩⟩ rfl rfl hsize rfl (lv_room hW) hdg hc) hS (fun q _ h => hFc q h) (fun q h => hFc q h) (fun g q t H1 locs1 ht hvm hw hB hz hk hS1 => ?_)
  obtain ⟨hP1, hq⟩ := hB
  rw [ht] at hP1
  have hlt : ∀ z ∈ ws.map Prod.fst, z < H.size := by
    intro z hz
    obtain ⟨x, hx, rfl⟩ := List.mem_map.mp hz
    obtain ⟨i, hi⟩ := List.getElem?_of_mem hx
    exact (hP i x hi).lt
  have hPw : va_P D classes ws H1 := by
    intro k x hx
    by_cases hkj : k = j
    · subst hkj
      have e := hx.symm.trans hj
      cases e
      exact hP1 0 _ rfl
    · refine (hP k x hx).kept (hk x.1 (hP k x hx).lt (fun hxx => ?_))
      rcases hxx with hxx | hxx
      · exact hkj (hD.1 k j x (a, _) hx hj hxx)
      · exact absurd (hP k x hx).lt (Nat.not_lt.mpr hxx)
  refine kk q g H1 locs1 hw (P_app hPw (P_of hP1 (fun z hz => by simp only [List.mem_singleton] at hz; subst hz; simp))) ?_ hS1
  obtain ⟨n0, a0⟩ := D_nodup hD
  refine va_D_nodup (l := ws.map Prod.fst ++ [q]) (by rw [List.map_append]; rfl) ?_ ?_
  · rw [List.nodup_append]
    refine ⟨n0, by simp, fun x hx y hy hxy => ?_⟩
    simp only [List.mem_singleton] at hy
    subst hxy; subst hy
    exact absurd (hlt _ hx) (Nat.not_lt.mpr hq)
  · intro x hx
    rcases List.mem_append.mp hx with h | h
    · exact a0 x h
    · simp only [List.mem_singleton] at h
      subst h
      exact hA _ (Nat.le_trans hS.1 hq)
end BRows
