set_option maxHeartbeats 4000000 in
set_option maxRecDepth 100000 in
theorem tX11_imageN (l : Launch) (D : va_G) (cy : Nat → ClassId) (ad : Nat → Nat) (fz : List FP) (hJ : (cads ad fz).Nodup) (sz : Nat) (k : Nat) (hk : k ≤ 1) (st : St) (hq : st.2.2.2.2 1 k = none) (hB : ∀ h0, ∃ st2, fX11_imagei (Int32.ofNat k) fz (stI st k h0) = some (0, st2)) : Met l yX11_image (Cond.code yX11_image cX11_image 2 (some .int) :: TT) (rmX 5 22 341) (nPc D cy ad fz k st sz) (va_Qi (fun (x : Int32) (u : (Nat × (Nat → Nat)) × St) => x = 0 ∧ fX11_imagei (Int32.ofNat k) fz (stI st k u.1.1) = some (0, u.2)) (fun u t => va_P D classes (cxi cy (adN ad u.1.1 u.1.2) fz u.2) t.heap ∧ (iads (adN ad u.1.1 u.1.2) fz).Nodup ∧ ∀ a ∈ igads (adN ad u.1.1 u.1.2), sz ≤ a) (cA ad fz sz)) 22 341 (cA ad fz sz) := by
  refine Met.ofW (cc := cX11_image) (maxL := 2) (ret := some .int) (by decide) rfl ?_
  intro p e s m args below meth c s₁ B hml hv
  obtain ⟨hargs, hU, hP, hK, hN, hXN⟩ := hv
  have hts := atoms_spec (ws := Cond.code yX11_image cX11_image 2 (some .int) :: TT) B.pre
  have hT : ∀ w ∈ TT, w.before args s = true := fun w h => hts w (List.mem_cons_of_mem _ h)
  have hown : s.vm.findClass RX11 = some m.cls := findClass_of_methodNamed B.named
  have hl := lv_entry [.ref (ad 99), .int (Int32.ofNat k)] (n := 2) (Nat.le_of_ble_eq_true rfl)
  have he : entryFrame m args 2 = F0 m 0 ((lg_sl [.ref (ad 99), .int (Int32.ofNat k)] ++ List.replicate (2 - (lg_sl [.ref (ad 99), .int (Int32.ofNat k)]).length) Slot.unset).toArray) [] := by rw [hargs]; exact lg_entry_eq m [.ref (ad 99), .int (Int32.ofNat k)] 2
  rw [he]
  subst hU
  have E : Ev p s m args c D cy cX11_image 2 RX11 := ⟨⟨B.exec, B.bytes, hml, hown, hT⟩, hK⟩
  have hlt : ∀ a ∈ cads ad fz, a < s.heap.size := fun a ha => P_lts hP a (by rw [cx_fst]; exact ha)
  have hx := B.exec
  have hb := B.bytes
  have hS : va_S (cA ad fz s.heap.size) s.heap s.heap [] := va_S.rf
  generalize (lg_sl [.ref (ad 99), .int (Int32.ofNat k)] ++ List.replicate (2 - (lg_sl [.ref (ad 99), .int (Int32.ofNat k)]).length) Slot.unset).toArray = ls at hl ⊢
  replace hl : lv_has ls 2 [(0, .ref (ad 99)), (1, .int (Int32.ofNat k))] := hl
  refine lv_iload_n hx hb dX11_image_0 rfl (lv_at hl 1 rfl) ?_
  refine lv_iconst (v := 0) hx hb dX11_image_1 (by decide) ?_
  refine lv_iconst (v := 1) hx hb dX11_image_2 (by decide) ?_
  refine s_calli (n := 3) (rest := []) E.1 (tX11_within l _ (Int32.ofNat k) (0 : Int32) (1 : Int32) 1 (in01 hk)) (gS k_472 k_458 k_1 k_459) qX11_within ⟨Nat.le_of_ble_eq_true rfl, Nat.le_of_ble_eq_true rfl⟩ ⟨Nat.le_of_ble_eq_true rfl, Nat.le_of_ble_eq_true rfl⟩ rfl hl.1 rfl (Nat.le_of_ble_eq_true rfl) dX11_image_3 ?_
  refine lv_if_ne (tgt := 15) hx hb dX11_image_6 (by decide) (fun hc => ?_) (fun hc => absurd hc (by decide))
  refine lv_aload_n hx hb dX11_image_15 rfl (lv_at hl 0 rfl) ?_
  refine cg_11_16_0 E hP dX11_image_16 ?_
  refine lv_iload_n hx hb dX11_image_19 rfl (lv_at hl 1 rfl) ?_
  refine cl_1 E hP (vin2 hk) dX11_image_20 ?_
  rw [oN_tn (show k < 2147483648 by omega), hq]
  refine lv_ifnonnullN hx hb dX11_image_21 ?_
  refine lv_aload_n hx hb dX11_image_24 rfl (lv_at hl 0 rfl) ?_
  refine cg_11_16_0 E hP dX11_image_25 ?_
  refine lv_iload_n hx hb dX11_image_28 rfl (lv_at hl 1 rfl) ?_
  have hA : ∀ q : Nat, s.heap.size ≤ q → cA ad fz s.heap.size q := fun q h => Or.inr h
  refine va_new (ci := 6) (fs := [.null, .null, .null, .null, .null, .null, .null, .null, .int 0, .int 0, .int 0, .int 0, .int 0]) (C := RX6) (T := TX6) (N := 13) hx hb hT hin_6 tyX6 tyX6_ok hown (hT _ k_30) (hT _ k_31) (hT _ k_2) E.2 hP (c_D hJ st) hS hA rfl dfl_6 (Nat.le_of_ble_eq_true rfl) (Nat.le_of_ble_eq_true rfl) dX11_image_29 (fun h0 H hP hD hS => ?_)
  refine lv_dup hx hb dX11_image_32 rfl ?_
  have hPc : va_P D classes [(h0, .inr (6, [.null, .null, .null, .null, .null, .null, .null, .null, .int 0, .int 0, .int 0, .int 0, .int 0]))] H := P_of hP (fun z hz => List.mem_append_right _ hz)
  obtain ⟨nd0, aa0⟩ := D_nodup hD
  rw [List.map_append, cx_fst] at nd0 aa0
  have h0A : cA ad fz s.heap.size h0 := aa0 h0 (List.mem_append_right _ (List.mem_singleton.mpr rfl))
  have h0sz : s.heap.size ≤ h0 := h0A.elim (fun h => absurd h (fun h => nd_no nd0 h (List.mem_singleton.mpr rfl))) id
  have hFc : ∀ z, xA h0 H.size z → cA ad fz s.heap.size z := fun z hz => hz.elim (fun hh => hh ▸ h0A) (fun hh => Or.inr (Nat.le_trans hS.1 hh))
  have hsz := hS.1
  refine va_callv (va_runI (As := []) (rest := [.ref h0, .int (Int32.ofNat k), .ref (ad 1)]) E.1 (nX6_init l D cy h0 H.size) ⟨callB_of 0 hT (tt_cons k_34) rfl rfl rfl (hT _ k_2) (hT _ k_32) qX6_init.2 ⟨Nat.le_of_ble_eq_true rfl, Nat.le_of_ble_eq_true rfl⟩, rfl, hT _ k_33⟩ ⟨x_blind, fun U hU hW => ⟨rfl, by rw [hU], by rw [hU]; exact hPc, va_K.moved hW.alike E.2, hXN.warm hW⟩⟩ rfl rfl hl.1 rfl (lv_room (Nat.le_of_ble_eq_true rfl)) dX11_image_33 ⟨Nat.le_of_ble_eq_true rfl, Nat.le_of_ble_eq_true rfl⟩) hS (fun q _ h => hFc q h) hFc (fun u t H1 locs ht hvm hw hB1 hz1 hk1 hS => ?_)
  obtain ⟨hP1, hD1⟩ := hB1
  rw [ht] at hP1
  obtain ⟨hP, hD⟩ := x_join (rest := cx cy ad fz st) hP hD hk1 hP1 hD1 hFc
  refine W.widen (k := 22) (n := 341) (Nat.le_of_ble_eq_true rfl) (Nat.le_of_ble_eq_true rfl) ?_
  have hPg : va_P D classes (igw cy (adN ad h0 u) (stN st)) H1 := hP1.sub igPl (igw_N cy ad st h0 u)
  have hDg : va_D (xA h0 H.size) (igw cy (adN ad h0 u) (stN st)) := hD1.sub igPl (by decide) (igw_N2 cy ad st h0 u)
  obtain ⟨ndg, aag⟩ := D_nodup hDg
  rw [igw_fst] at ndg aag
  have hge : ∀ a ∈ igads (adN ad h0 u), s.heap.size ≤ a := fun a ha => (aag a ha).elim (fun h => h ▸ h0sz) (fun h => Nat.le_trans hsz h)
  have hPx : va_P D classes (cx cy (adN ad h0 u) fz (stN st)) H1 := by
    rw [cx_N]
    exact P_of hP (fun z hz => List.mem_append_left _ hz)
  have hPi : va_P D classes (cxi cy (adN ad h0 u) fz (stN st)) H1 := cxi_P hPx hPg
  have hJi : (iads (adN ad h0 u) fz).Nodup := by
    apply iads_nd
    rw [cads_N, List.nodup_append]
    refine ⟨hJ, ndg, fun x hx y hy hxy => ?_⟩
    subst hxy
    exact absurd (hlt x hx) (Nat.not_lt.mpr (hge x hy))
  have hAeq : iA (adN ad h0 u) fz s.heap.size = cA ad fz s.heap.size := by
    funext x
    apply propext
    unfold iA cA
    rw [iads_mem, cads_N]
    constructor
    · rintro ((h | h) | h)
      · exact Or.inl h
      · exact Or.inr (hge x h)
      · exact Or.inr h
    · rintro (h | h)
      · exact Or.inl (Or.inl h)
      · exact Or.inr h
  have hSi : va_S (iA (adN ad h0 u) fz s.heap.size) s.heap H1 locs := by rw [hAeq]; exact hS
  have hNi : cN (iA (adN ad h0 u) fz s.heap.size) s s.heap := by rw [hAeq]; exact hN
  refine va_astq (D := D) (cl := classes) (tys := tys cy) (r := (RX6, TX6, 13)) E.1.1 E.1.2.1 E.2 hPi (i_D hJi (stN st)) hSi 1 3 62 6 rfl rfl rfl rfl (vin2 hk) dX11_image_36 (fun H2 locs2 hP2 _ hS2 => ?_)
  obtain ⟨st2, hf⟩ := hB h0
  have hf0 := hf
  have hst : sR (stN st) 1 (va_up ((stN st).2.2.2.2 1) (Int32.ofNat k).toNatClampNeg (some h0)) = stI st k h0 := by
    unfold stI
    rw [oN_tn (show k < 2147483648 by omega)]
    rfl
  replace hP2 : va_P D classes (cxi cy (adN ad h0 u) fz (sR (stN st) 1 (va_up ((stN st).2.2.2.2 1) (Int32.ofNat k).toNatClampNeg (some h0)))) H2 := hP2
  rw [hst] at hP2
  have hq2 : (stI st k h0).2.2.2.2 1 (Int32.ofNat k).toNatClampNeg = some h0 := by
    rw [oN_tn (show k < 2147483648 by omega)]
    show va_up (st.2.2.2.2 1) k (some h0) k = _
    rw [vup_v, if_pos rfl]
  generalize hgs : stI st k h0 = st1 at hP2 hq2 hf
  unfold fX11_imagei at hf
  rw [in01 hk, bs_v, i10, gi_N (show k < 2 by omega) (by decide), gi_N (show k < 2 by omega) (by decide)] at hf
  refine lv_aload_n hx hb dX11_image_37 rfl (lv_at hl 0 rfl) ?_
  refine ig_11_16_0 (ad := adN ad h0 u) E hP2 dX11_image_38 ?_
  refine lv_iload_n hx hb dX11_image_41 rfl (lv_at hl 1 rfl) ?_
  refine il_1 (ad := adN ad h0 u) E hP2 (vin2 hk) dX11_image_42 ?_
  rw [hq2, va_rf_some]
  refine lv_aload_n hx hb dX11_image_43 rfl (lv_at hl 0 rfl) ?_
  refine ig_11_10_0 (ad := adN ad h0 u) E hP2 dX11_image_44 ?_
  obtain ⟨r2, st3, hc2, hf⟩ := bd_some hf
  refine i_callv (ad := adN ad h0 u) (b := h0) (n := 1) (rest := []) E hNi hP2 hS2 (fun sz => tX6_takei__15_1 l D cy (adN ad h0 u) fz hJi sz st1 r2 st3 hc2) (va_recv E.2 hP2 (ci := 6) (q0 := 62) rfl rfl) (gV k_1114 k_1115 k_1116 k_2 k_1117) qX6_take ⟨Nat.le_of_ble_eq_true rfl, Nat.le_of_ble_eq_true rfl⟩ ⟨Nat.le_of_ble_eq_true rfl, Nat.le_of_ble_eq_true rfl⟩ rfl hl.1 rfl (Nat.le_of_ble_eq_true rfl) dX11_image_47 (fun H locs hP hS => ?_)
  refine lv_aload_n hx hb dX11_image_50 rfl (lv_at hl 0 rfl) ?_
  refine lv_iconst (v := 0) hx hb dX11_image_51 (by decide) ?_
  obtain ⟨r4, st5, hc4, hf⟩ := bd_some hf
  refine i_calli (ad := adN ad h0 u) (b := ad 99) (n := 1) (rest := []) E hNi hP hS (fun sz => tX11_settlei l D cy (adN ad h0 u) fz hJi sz (0 : Int32) st3 r4 st5 hc4) (va_recv E.2 hP (ci := 11) (q0 := 0) rfl rfl) (gV k_464 k_466 ks_0 k_1 k_467) qX11_settle ⟨Nat.le_of_ble_eq_true rfl, Nat.le_of_ble_eq_true rfl⟩ ⟨Nat.le_of_ble_eq_true rfl, Nat.le_of_ble_eq_true rfl⟩ rfl hl.1 rfl (Nat.le_of_ble_eq_true rfl) dX11_image_52 (fun H locs hP hS => ?_)
  cases hf
  rw [hAeq] at hS
  exact W.iret B.exec B.bytes B.returns (fun t ht hW => ⟨⟨_, ((h0, u), st2), rfl, ⟨rfl, hf0⟩, (by show va_P _ _ _ t.heap; rw [ht]; exact hP), hJi, hge⟩, hS.F ht⟩) hS.2.2 dX11_image_55 B.notSynchronized
