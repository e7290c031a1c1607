/-! T1, THE LAW, from its entry -/
set_option maxHeartbeats 4000000 in
set_option maxRecDepth 100000 in
theorem whole_start {p : Program} {e : Env} {s : State} {m : MethodId} {below : List Frame} {meth : Method} {c : Code} (l : Launch) {b L : Nat} {xs : Nat → Int32} (hL : L ≤ 3072) (C0 : lw_At p s m meth c b L xs) : W p l e room_1 s m #[Value.ref b] below meth c s.heap [] 0 0 (lw_Z below #[Value.ref b] s) (entryFrame m ([Value.ref b] : List Value).toArray 4) := by
  obtain ⟨hx, hb, hr, hml, hown, hts, hX, hbl, hlocks, hgv⟩ := id C0
  have hT : ∀ w ∈ TT, w.before #[Value.ref b] s = true := fun w h => hts w (List.mem_filter.mp h).1
  have hA : ∀ q : Nat, s.heap.size ≤ q → (fun q : Nat => s.heap.size ≤ q) q := fun _ h => h
  obtain ⟨D, cy, hK⟩ := st_K hts
  have hXN : xN s := st_xN hts
  have E : Ev p s m #[Value.ref b] c D cy code 4 "OpenGatesLaw" := ⟨⟨hx, hb, hml, hown, hT⟩, hK⟩
  have C1 : LC p s m meth c D cy b L xs := ⟨E, hX, hbl, hL, st_cN hts hgv, st_zN hts, hXN, hr, hlocks⟩
  have hS : va_S (fun q : Nat => s.heap.size ≤ q) s.heap s.heap [] := va_S.rf
  have hP : va_P D classes [] s.heap := fun k q h => by simp at h
  have hD : va_D (fun q : Nat => s.heap.size ≤ q) [] := ⟨fun i j p q h => by simp at h, fun k q h => by simp at h⟩
  have hl := lv_entry ([.ref b]) (n := 4) (Nat.le_of_ble_eq_true rfl)
  rw [lg_entry_eq]
  generalize (lg_sl ([.ref b]) ++ List.replicate (4 - (lg_sl ([.ref b])).length) Slot.unset).toArray = ls at hl ⊢
  replace hl : lv_has ls 4 [(0, .ref b)] := hl
  refine va_new (ci := 11) (fs := [.null, .null, .null, .null, .null, .null, .null, .null, .null, .int 0, .int 0, .int 0, .int 0]) (C := RX11) (T := TX11) (N := 13) hx hb hT hin_11 tyX11 tyX11_ok hown (hT _ k_22) (hT _ k_23) (hT _ k_1) hK hP hD hS hA rfl dfl_11 (Nat.le_of_ble_eq_true rfl) (Nat.le_of_ble_eq_true rfl) dL_0 (fun q0 H hP hD hS => ?_)
  replace hP : va_P D classes [(q0, .inr (11, [.null, .null, .null, .null, .null, .null, .null, .null, .null, .int 0, .int 0, .int 0, .int 0]))] H := hP
  replace hD : va_D (fun q : Nat => s.heap.size ≤ q) [(q0, .inr (11, [.null, .null, .null, .null, .null, .null, .null, .null, .null, .int 0, .int 0, .int 0, .int 0]))] := hD
  refine lv_dup hx hb dL_3 rfl ?_
  have hq0 : s.heap.size ≤ q0 := hD.2 0 _ rfl
  have hFc : ∀ z, xA q0 H.size z → s.heap.size ≤ z := fun z hz => hz.elim (fun hh => hh ▸ hq0) (fun hh => Nat.le_trans hS.1 hh)
  refine va_callv (va_runI (As := []) (rest := [.ref q0]) E.1 (nX11_init l D cy q0 H.size) ⟨callB_of 0 hT (tt_cons k_26) rfl rfl rfl (hT _ k_1) (hT _ k_24) (show yX11_init.cls ≠ "java/lang/invoke/MethodHandle" ∧ yX11_init.cls ≠ "java/lang/invoke/VarHandle" ∧ (parseMethodDescriptor yX11_init.desc).map (fun d => d.parameters.length) = some 0 by decide +kernel) ⟨Nat.le_of_ble_eq_true rfl, Nat.le_of_ble_eq_true rfl⟩, rfl, hT _ k_25⟩ ⟨x_blind, fun U hU hW => ⟨rfl, by rw [hU], by rw [hU]; exact hP, va_K.moved hW.alike hK, hXN.warm hW⟩⟩ rfl rfl hl.1 rfl (lv_room (Nat.le_of_ble_eq_true rfl)) dL_4 ⟨Nat.le_of_ble_eq_true rfl, Nat.le_of_ble_eq_true rfl⟩) hS (fun q _ h => hFc q h) hFc (fun u t H1 locs ht hvm hw hB hz1 hk1 hS1 => ?_)
  obtain ⟨hP1, hD1⟩ := hB
  rw [ht] at hP1
  have hPx : va_P D classes (cx cy (adI q0 u) [] cSt) H1 := hP1.sub cPl (cx_I cy q0 u)
  have hDx : va_D (xA q0 H.size) (cx cy (adI q0 u) [] cSt) := hD1.sub cPl (by decide) (cx_I2 cy q0 u)
  obtain ⟨nd1, aa1⟩ := D_nodup hDx
  rw [cx_fst] at nd1 aa1
  have hDA : va_D (fun q : Nat => s.heap.size ≤ q) (cx cy (adI q0 u) [] cSt) := va_D_nodup (cx_fst cy (adI q0 u) [] cSt) nd1 (fun q h => hFc q (aa1 q h))
  clear hP hD hFc hk1 hP1 hD1 hS
  refine W.widen (k := 62) (n := 2949) (Nat.le_of_ble_eq_true rfl) (Nat.le_of_ble_eq_true rfl) ?_
  refine lv_astore_n (lv' := [(1, .ref q0), (0, .ref b)]) hx hb dL_7 rfl hl (by decide) rfl (fun ls hl => ?_)
  refine va_new (ci := 12) (fs := [.int 0, .int 0, .null, .null, .null, .null, .null, .null, .int 0, .null, .null, .int 0, .null, .int 0, .int 0, .int 0, .int 0, .long 0, .int 0, .int 0, .int 0, .int 0, .null, .int 0, .null, .null, .int 0, .null, .null, .int 0, .int 0, .null, .null, .null, .int 0, .null, .null, .null, .int 0, .long 0, .long 0, .null, .null, .null, .null, .null, .int 0, .int 0, .int 0, .int 0, .long 0, .null, .int 0]) (C := RX12) (T := TX12) (N := 53) hx hb hT hin_12 tyX12 tyX12_ok hown (hT _ k_1146) (hT _ k_1147) (hT _ k_14) hK hPx hDA hS1 hA rfl dfl_12 (Nat.le_of_ble_eq_true rfl) (Nat.le_of_ble_eq_true rfl) dL_8 (fun q1 H2 hP2 hD2 hS2 => ?_)
  refine lv_dup hx hb dL_11 rfl ?_
  have hPc : va_P D classes [(q1, .inr (12, [.int 0, .int 0, .null, .null, .null, .null, .null, .null, .int 0, .null, .null, .int 0, .null, .int 0, .int 0, .int 0, .int 0, .long 0, .int 0, .int 0, .int 0, .int 0, .null, .int 0, .null, .null, .int 0, .null, .null, .int 0, .int 0, .null, .null, .null, .int 0, .null, .null, .null, .int 0, .long 0, .long 0, .null, .null, .null, .null, .null, .int 0, .int 0, .int 0, .int 0, .long 0, .null, .int 0]))] H2 := P_of hP2 (fun z hz => List.mem_append_right _ hz)
  have hq1 : s.heap.size ≤ q1 := (D_nodup hD2).2 q1 (by rw [List.map_append]; exact List.mem_append_right _ (List.mem_singleton.mpr rfl))
  have hFc : ∀ z, xA q1 H2.size z → s.heap.size ≤ z := fun z hz => hz.elim (fun hh => hh ▸ hq1) (fun hh => Nat.le_trans hS2.1 hh)
  refine va_callv (va_runI (As := []) (rest := [.ref q1]) E.1 (nX12_init l D cy q1 H2.size) ⟨callB_of 0 hT (tt_cons k_1150) rfl rfl rfl (hT _ k_14) (hT _ k_1148) (show yX12_init.cls ≠ "java/lang/invoke/MethodHandle" ∧ yX12_init.cls ≠ "java/lang/invoke/VarHandle" ∧ (parseMethodDescriptor yX12_init.desc).map (fun d => d.parameters.length) = some 0 by decide +kernel) ⟨Nat.le_of_ble_eq_true rfl, Nat.le_of_ble_eq_true rfl⟩, rfl, hT _ k_1149⟩ ⟨x_blind, fun U hU hW => ⟨rfl, by rw [hU], by rw [hU]; exact hPc, va_K.moved hW.alike hK, hXN.warm hW⟩⟩ rfl rfl hl.1 rfl (lv_room (Nat.le_of_ble_eq_true rfl)) dL_12 ⟨Nat.le_of_ble_eq_true rfl, Nat.le_of_ble_eq_true rfl⟩) hS2 (fun q _ h => hFc q h) hFc (fun um t H3 locs3 ht hvm hw hB hz1 hk1 hS3 => ?_)
  obtain ⟨hP1, hD1⟩ := hB
  rw [ht] at hP1
  obtain ⟨hP3, hD3⟩ := x_join (rest := cx cy (adI q0 u) [] cSt) hP2 hD2 hk1 hP1 hD1 hFc
  replace hP3 : va_P D classes (cx cy (adI q0 u) [] cSt ++ mw cy (va_up um 100 q1) mSt1) H3 := hP3
  replace hD3 : va_D (fun q : Nat => s.heap.size ≤ q) (cx cy (adI q0 u) [] cSt ++ mw cy (va_up um 100 q1) mSt1) := hD3
  obtain ⟨nd3, aa3⟩ := D_nodup hD3
  rw [List.map_append, cx_fst, mw_fst] at nd3 aa3
  refine W.widen (k := 100 + 30 * 0) (n := 24000 + 500 * 0) (Nat.le_of_ble_eq_true rfl) (Nat.le_of_ble_eq_true rfl) ?_
  refine lv_astore_n (lv' := [(2, .ref q1), (1, .ref q0), (0, .ref b)]) hx hb dL_15 rfl hl (by decide) rfl (fun ls hl => ?_)
  refine lv_iconst (v := 0) hx hb dL_16 (by decide) ?_
  refine lv_istore_n (lv' := [(3, .int 0), (2, .ref q1), (1, .ref q0), (0, .ref b)]) hx hb dL_17 rfl hl (by decide) rfl (fun ls hl => ?_)
  have hPn : va_P D classes (imW cy none) H3 := fun k q h => (by simp [imW] at h)
  refine w_loop C1 (L + 6) 0 (by omega) (Or.inl rfl) [] (adI q0 u) (va_up um 100 q1) cSt mSt1 none none H3 locs3 ls ⟨⟨P_of hP3 (fun z hz => List.mem_append_left _ hz), P_of hP3 (fun z hz => List.mem_append_right _ hz), hPn, hPn⟩, ?_, ?_, hS3, i_RR, i_I0, i_I1⟩ (lv_sub hl [3, 2, 1, 0] rfl)
  · show (cads (adI q0 u) [] ++ (mads (va_up um 100 q1) ++ ([] ++ []))).Nodup
    rw [List.append_nil, List.append_nil]; exact nd3
  · show ∀ a ∈ cads (adI q0 u) [] ++ (mads (va_up um 100 q1) ++ ([] ++ [])), s.heap.size ≤ a
    rw [List.append_nil, List.append_nil]; exact aa3
