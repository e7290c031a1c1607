set_option maxHeartbeats 1000000 in
theorem lc_37 {p : Program} {l : Launch} {e : Env} {s : State} {m : MethodId} {below : List Frame} {meth : Method} {cd : Code} {H : Heap} {locs : List Loc} {cells slots : Nat} {Q : State → Prop} {D : va_G} {cy : Nat → ClassId} {b L : Nat} {xs : Nat → Int32} {t : Nat} {ls : Array Slot} {fz : List FP} {ad mad : Nat → Nat} {c mm : St} {i0 i1 : IM} (C0 : LC p s m meth cd D cy b L xs) (I : LI D cy s fz ad c mad mm i0 i1 H locs) (ht : 6 * t + 6 ≤ L) (hl : lv_has ls 4 [(0, .ref b), (1, .ref (ad 99)), (2, .ref (mad 100)), (3, .int (nI (6 * t)))]) (hcs : cells ≤ 400000 ∧ slots ≤ 6000000) (kk : LK p l e s m below meth cd cells slots Q D cy b ls ad mad) : W p l e room_1 s m #[Value.ref b] below meth cd H locs cells slots Q (F0 m 1334 ls []) := by
  have hx := C0.1.1.1
  have hb := C0.1.1.2.1
  obtain ⟨hw, hn, ha, hS, hRR, hi0, hi1⟩ := I
  have hcs' : cells ≤ 500000 ∧ slots ≤ 7000000 := ⟨by omega, by omega⟩
  by_cases hin : (0 : Int32) ≤ xs (6 * t + 1) ∧ xs (6 * t + 1) ≤ 1
  · obtain ⟨k, hk, ek⟩ := oN_exb (b := 1) hin.1 (by decide) hin.2
    have fin : ∀ (v : Int32) (ad' : Nat → Nat) (c' m' : St) (j0 j1 : IM) (H1 : Heap) (locs1 : List Loc), ad' 99 = ad 99 → WW D cy fz ad' c' mad mm j0 j1 H1 → NN fz ad' mad j0 j1 → AA s.heap.size fz ad' mad j0 j1 → va_S (fun q : Nat => s.heap.size ≤ q) s.heap H1 locs1 → fX12_image (Int32.ofNat k) mm = some (v, m') → RR fz c' m' → IRk fz 0 j0 c' m' → IRk fz 1 j1 c' m' → W p l e room_1 s m #[Value.ref b] below meth cd H1 locs1 (cells + 22) (slots + 341) Q (F0 m 1343 ls [.int v]) := by
      intro v ad' c' m' j0 j1 H1 locs1 h99 hw1 hn1 ha1 hS1 e2 hR1 hI0 hI1
      refine lv_aload_n hx hb dL_1343 rfl (lv_at hl 2 rfl) ?_
      refine g_arg (k := 1) C0 hS1 hl (by omega) (by decide) dL_1344 dL_1345 dL_1346 dL_1347 dL_1348 ?_
      rw [ek]
      refine w_mi (n := 1) (As := [.int (Int32.ofNat k)]) (rest := [.int v]) C0 hw1 hn1 ha1 hS1 (fun sz => tX12_image l D cy mad hn1.m sz (Int32.ofNat k) mm v m' e2) (gV k_1346 k_1347 k_1348 k_14 k_1349) qX12_image ⟨Nat.le_of_ble_eq_true rfl, Nat.le_of_ble_eq_true rfl⟩ ⟨by omega, by omega⟩ rfl hl.1 rfl (Nat.le_of_ble_eq_true rfl) dL_1349 (fun H locs hw hS => ?_)
      refine lv_icmp_eq (tgt := 1416) hx hb dL_1352 (by decide) (fun _ => ?_) (fun hc => absurd rfl hc)
      refine W.widen (k := cells + 30) (n := slots + 500) (by omega) (by omega) ?_
      exact kk fz ad' c' m' j0 j1 H locs h99 ⟨hw, hn1, ha1, hS, hR1, hI0, hI1⟩
    refine lv_aload_n hx hb dL_1334 rfl (lv_at hl 1 rfl) ?_
    refine g_arg (k := 1) C0 hS hl (by omega) (by decide) dL_1335 dL_1336 dL_1337 dL_1338 dL_1339 ?_
    rw [ek]
    have hk01 : k = 0 ∨ k = 1 := by omega
    rcases hk01 with rfl | rfl
    · exact w_im (k := 0) (by decide) C0 hw hn ha hS hRR hi0 hcs hl.1 (Nat.le_of_ble_eq_true rfl) dL_1340 (fun v ad' c' m' ik' H1 locs1 h99 hw1 hn1 ha1 hS1 e2 hR1 hI1 hoth => fin v ad' c' m' ik' i1 H1 locs1 h99 hw1 hn1 ha1 hS1 e2 hR1 hI1 (hoth 1 (by decide) (by decide) i1 hi1))
    · exact w_im (k := 1) (by decide) C0 hw.sw hn.sw ha.sw hS hRR hi1 hcs hl.1 (Nat.le_of_ble_eq_true rfl) dL_1340 (fun v ad' c' m' ik' H1 locs1 h99 hw1 hn1 ha1 hS1 e2 hR1 hI1 hoth => fin v ad' c' m' i0 ik' H1 locs1 h99 hw1.sw hn1.sw ha1.sw hS1 e2 hR1 (hoth 0 (by decide) (by decide) i0 hi0) hI1)
  · obtain ⟨v, c', mm', e1, e2, hR, hF⟩ := (image_bad hin hRR).1
    refine lv_aload_n hx hb dL_1334 rfl (lv_at hl 1 rfl) ?_
    refine g_arg (k := 1) C0 hS hl (by omega) (by decide) dL_1335 dL_1336 dL_1337 dL_1338 dL_1339 ?_
    refine w_ci (n := 1) (As := [.int (xs (6 * t + 1))]) (rest := []) C0 hw hn ha hS (fun sz => tX11_image l D cy ad fz hn.c sz (xs (6 * t + 1)) c v c' e1) (gV k_1110 k_1111 k_1112 k_1 k_1113) qX11_image ⟨Nat.le_of_ble_eq_true rfl, Nat.le_of_ble_eq_true rfl⟩ hcs' rfl hl.1 rfl (Nat.le_of_ble_eq_true rfl) dL_1340 (fun H locs hw hS => ?_)
    refine lv_aload_n hx hb dL_1343 rfl (lv_at hl 2 rfl) ?_
    refine g_arg (k := 1) C0 hS hl (by omega) (by decide) dL_1344 dL_1345 dL_1346 dL_1347 dL_1348 ?_
    refine w_mi (n := 1) (As := [.int (xs (6 * t + 1))]) (rest := [.int v]) C0 hw hn ha hS (fun sz => tX12_image l D cy mad hn.m sz (xs (6 * t + 1)) mm v mm' e2) (gV k_1346 k_1347 k_1348 k_14 k_1349) qX12_image ⟨Nat.le_of_ble_eq_true rfl, Nat.le_of_ble_eq_true rfl⟩ hcs' rfl hl.1 rfl (Nat.le_of_ble_eq_true rfl) dL_1349 (fun H locs hw hS => ?_)
    refine lv_icmp_eq (tgt := 1416) hx hb dL_1352 (by decide) (fun _ => ?_) (fun hc => absurd rfl hc)
    refine W.widen (k := cells + 30) (n := slots + 500) (by omega) (by omega) ?_
    exact kk fz ad c' mm' i0 i1 H locs rfl ⟨hw, hn, ha, hS, hR, hi0.f hF, hi1.f hF⟩
set_option maxHeartbeats 1000000 in
theorem lc_38 {p : Program} {l : Launch} {e : Env} {s : State} {m : MethodId} {below : List Frame} {meth : Method} {cd : Code} {H : Heap} {locs : List Loc} {cells slots : Nat} {Q : State → Prop} {D : va_G} {cy : Nat → ClassId} {b L : Nat} {xs : Nat → Int32} {t : Nat} {ls : Array Slot} {fz : List FP} {ad mad : Nat → Nat} {c mm : St} {i0 i1 : IM} (C0 : LC p s m meth cd D cy b L xs) (I : LI D cy s fz ad c mad mm i0 i1 H locs) (ht : 6 * t + 6 ≤ L) (hl : lv_has ls 4 [(0, .ref b), (1, .ref (ad 99)), (2, .ref (mad 100)), (3, .int (nI (6 * t)))]) (hcs : cells ≤ 400000 ∧ slots ≤ 6000000) (kk : LK p l e s m below meth cd cells slots Q D cy b ls ad mad) : W p l e room_1 s m #[Value.ref b] below meth cd H locs cells slots Q (F0 m 1357 ls []) := by
  have hx := C0.1.1.1
  have hb := C0.1.1.2.1
  obtain ⟨hw, hn, ha, hS, hRR, hi0, hi1⟩ := I
  have hcs' : cells ≤ 500000 ∧ slots ≤ 7000000 := ⟨by omega, by omega⟩
  by_cases hin : (0 : Int32) ≤ xs (6 * t + 1) ∧ xs (6 * t + 1) ≤ 1
  · obtain ⟨k, hk, ek⟩ := oN_exb (b := 1) hin.1 (by decide) hin.2
    have fin : ∀ (v : Int32) (ad' : Nat → Nat) (c' m' : St) (j0 j1 : IM) (H1 : Heap) (locs1 : List Loc), ad' 99 = ad 99 → WW D cy fz ad' c' mad mm j0 j1 H1 → NN fz ad' mad j0 j1 → AA s.heap.size fz ad' mad j0 j1 → va_S (fun q : Nat => s.heap.size ≤ q) s.heap H1 locs1 → fX12_back (Int32.ofNat k) mm = some (v, m') → RR fz c' m' → IRk fz 0 j0 c' m' → IRk fz 1 j1 c' m' → W p l e room_1 s m #[Value.ref b] below meth cd H1 locs1 (cells + 22) (slots + 341) Q (F0 m 1366 ls [.int v]) := by
      intro v ad' c' m' j0 j1 H1 locs1 h99 hw1 hn1 ha1 hS1 e2 hR1 hI0 hI1
      refine lv_aload_n hx hb dL_1366 rfl (lv_at hl 2 rfl) ?_
      refine g_arg (k := 1) C0 hS1 hl (by omega) (by decide) dL_1367 dL_1368 dL_1369 dL_1370 dL_1371 ?_
      rw [ek]
      refine w_mi (n := 1) (As := [.int (Int32.ofNat k)]) (rest := [.int v]) C0 hw1 hn1 ha1 hS1 (fun sz => tX12_back l D cy mad hn1.m sz (Int32.ofNat k) mm v m' e2) (gV k_1353 k_1354 k_1355 k_14 k_1356) qX12_back ⟨Nat.le_of_ble_eq_true rfl, Nat.le_of_ble_eq_true rfl⟩ ⟨by omega, by omega⟩ rfl hl.1 rfl (Nat.le_of_ble_eq_true rfl) dL_1372 (fun H locs hw hS => ?_)
      refine lv_icmp_eq (tgt := 1416) hx hb dL_1375 (by decide) (fun _ => ?_) (fun hc => absurd rfl hc)
      refine W.widen (k := cells + 30) (n := slots + 500) (by omega) (by omega) ?_
      exact kk fz ad' c' m' j0 j1 H locs h99 ⟨hw, hn1, ha1, hS, hR1, hI0, hI1⟩
    refine lv_aload_n hx hb dL_1357 rfl (lv_at hl 1 rfl) ?_
    refine g_arg (k := 1) C0 hS hl (by omega) (by decide) dL_1358 dL_1359 dL_1360 dL_1361 dL_1362 ?_
    rw [ek]
    have hk01 : k = 0 ∨ k = 1 := by omega
    rcases hk01 with rfl | rfl
    · exact w_bk (k := 0) (by decide) C0 hw hn ha hS hRR hi0 hcs hl.1 (Nat.le_of_ble_eq_true rfl) dL_1363 (fun v ad' c' m' ik' H1 locs1 h99 hw1 hn1 ha1 hS1 e2 hR1 hI1 hoth => fin v ad' c' m' ik' i1 H1 locs1 h99 hw1 hn1 ha1 hS1 e2 hR1 hI1 (hoth 1 (by decide) (by decide) i1 hi1))
    · exact w_bk (k := 1) (by decide) C0 hw.sw hn.sw ha.sw hS hRR hi1 hcs hl.1 (Nat.le_of_ble_eq_true rfl) dL_1363 (fun v ad' c' m' ik' H1 locs1 h99 hw1 hn1 ha1 hS1 e2 hR1 hI1 hoth => fin v ad' c' m' i0 ik' H1 locs1 h99 hw1.sw hn1.sw ha1.sw hS1 e2 hR1 (hoth 0 (by decide) (by decide) i0 hi0) hI1)
  · obtain ⟨v, c', mm', e1, e2, hR, hF⟩ := (image_bad hin hRR).2
    refine lv_aload_n hx hb dL_1357 rfl (lv_at hl 1 rfl) ?_
    refine g_arg (k := 1) C0 hS hl (by omega) (by decide) dL_1358 dL_1359 dL_1360 dL_1361 dL_1362 ?_
    refine w_ci (n := 1) (As := [.int (xs (6 * t + 1))]) (rest := []) C0 hw hn ha hS (fun sz => tX11_back l D cy ad fz hn.c sz (xs (6 * t + 1)) c v c' e1) (gV k_1130 k_1131 k_1132 k_1 k_1133) qX11_back ⟨Nat.le_of_ble_eq_true rfl, Nat.le_of_ble_eq_true rfl⟩ hcs' rfl hl.1 rfl (Nat.le_of_ble_eq_true rfl) dL_1363 (fun H locs hw hS => ?_)
    refine lv_aload_n hx hb dL_1366 rfl (lv_at hl 2 rfl) ?_
    refine g_arg (k := 1) C0 hS hl (by omega) (by decide) dL_1367 dL_1368 dL_1369 dL_1370 dL_1371 ?_
    refine w_mi (n := 1) (As := [.int (xs (6 * t + 1))]) (rest := [.int v]) C0 hw hn ha hS (fun sz => tX12_back l D cy mad hn.m sz (xs (6 * t + 1)) mm v mm' e2) (gV k_1353 k_1354 k_1355 k_14 k_1356) qX12_back ⟨Nat.le_of_ble_eq_true rfl, Nat.le_of_ble_eq_true rfl⟩ hcs' rfl hl.1 rfl (Nat.le_of_ble_eq_true rfl) dL_1372 (fun H locs hw hS => ?_)
    refine lv_icmp_eq (tgt := 1416) hx hb dL_1375 (by decide) (fun _ => ?_) (fun hc => absurd rfl hc)
    refine W.widen (k := cells + 30) (n := slots + 500) (by omega) (by omega) ?_
    exact kk fz ad c' mm' i0 i1 H locs rfl ⟨hw, hn, ha, hS, hR, hi0.f hF, hi1.f hF⟩
set_option maxHeartbeats 1000000 in
theorem lc_11 {p : Program} {l : Launch} {e : Env} {s : State} {m : MethodId} {below : List Frame} {meth : Method} {cd : Code} {H : Heap} {locs : List Loc} {cells slots : Nat} {Q : State → Prop} {D : va_G} {cy : Nat → ClassId} {b L : Nat} {xs : Nat → Int32} {t : Nat} {ls : Array Slot} {fz : List FP} {ad mad : Nat → Nat} {c mm : St} {i0 i1 : IM} (C0 : LC p s m meth cd D cy b L xs) (I : LI D cy s fz ad c mad mm i0 i1 H locs) (ht : 6 * t + 6 ≤ L) (hl : lv_has ls 4 [(0, .ref b), (1, .ref (ad 99)), (2, .ref (mad 100)), (3, .int (nI (6 * t)))]) (hcs : cells ≤ 400000 ∧ slots ≤ 6000000) (kk : LK p l e s m below meth cd cells slots Q D cy b ls ad mad) : W p l e room_1 s m #[Value.ref b] below meth cd H locs cells slots Q (F0 m 585 ls []) := by
  have hx := C0.1.1.1
  have hb := C0.1.1.2.1
  obtain ⟨hw, hn, ha, hS, hRR, hi0, hi1⟩ := I
  have hcs' : cells ≤ 500000 ∧ slots ≤ 7000000 := ⟨by omega, by omega⟩
  have C1 := C0
  obtain ⟨E, -, -, -, hN, hZ, -⟩ := C1
  have fin : ∀ (v : Int32) (fz' : List FP) (c' m' : St) (H1 : Heap) (locs1 : List Loc), WW D cy fz' ad c' mad mm i0 i1 H1 → NN fz' ad mad i0 i1 → AA s.heap.size fz' ad mad i0 i1 → va_S (fun q : Nat => s.heap.size ≤ q) s.heap H1 locs1 → fX12_law mm = some (v, m') → RR fz' c' m' → IRk fz' 0 i0 c' m' → IRk fz' 1 i1 c' m' → W p l e room_1 s m #[Value.ref b] below meth cd H1 locs1 (cells + 5) (slots + 478) Q (F0 m 589 ls [.int v]) := by
    intro v fz' c' m' H1 locs1 hw1 hn1 ha1 hS1 e2 hR1 hI0 hI1
    refine lv_aload_n hx hb dL_589 rfl (lv_at hl 2 rfl) ?_
    refine w_mi (n := 0) (As := []) (rest := [.int v]) C0 hw1 hn1 ha1 hS1 (fun sz => tX12_law l D cy mad hn1.m sz mm v m' e2) (gV k_1441 k_1442 k_1443 k_14 k_1444) qX12_law ⟨Nat.le_of_ble_eq_true rfl, Nat.le_of_ble_eq_true rfl⟩ ⟨by omega, by omega⟩ rfl hl.1 rfl (Nat.le_of_ble_eq_true rfl) dL_590 (fun H locs hw hS => ?_)
    refine lv_icmp_eq (tgt := 1416) hx hb dL_593 (by decide) (fun _ => ?_) (fun hc => absurd rfl hc)
    refine W.widen (k := cells + 30) (n := slots + 500) (by omega) (by omega) ?_
    exact kk fz' ad c' m' i0 i1 H locs rfl ⟨hw, hn1, ha1, hS, hR1, hI0, hI1⟩
  refine lv_aload_n hx hb dL_585 rfl (lv_at hl 1 rfl) ?_
  obtain ⟨rr, c1, eA, hcase⟩ := law_call hRR
  rcases hcase with ⟨v, m', hrr, e2, hR, hF⟩ | ⟨hrr, L', C', h604, h605, hL4, hC12, v, m', e2, hall⟩
  · subst hrr
    refine va_calli (va_runV (As := []) (rest := []) (g := F0 m 586 ls [.ref (ad 99)]) E.1 (tX11_law_r l D cy ad fz hn.c H.size c v c1 eA) (cwV 0 E.1.2.2.2.2 (gV k_587 k_588 k_589 k_1 k_590) rfl rfl rfl qX11_law ⟨Nat.le_of_ble_eq_true rfl, Nat.le_of_ble_eq_true rfl⟩) ⟨l_blind, va_recv E.2 hw.1 (ci := 11) (q0 := 0) rfl rfl, fun U hU hW => ⟨rfl, by rw [hU], by rw [hU]; exact hw.1, va_K.moved hW.alike E.2, by rw [hU]; exact hN.step hS hW (cA_A ha hS), va_Nw.warmC hW hZ⟩⟩ rfl rfl hl.1 rfl (lv_room (Nat.le_of_ble_eq_true rfl)) dL_586 ⟨show cells + 5 ≤ 600000 by omega, show slots + 478 ≤ 7302250 by omega⟩) hS (fun q _ h => cA_A ha hS q h) (cA_A ha hS) (fun r u tt H1 locs1 httt hvm hw1 hB hz hk hS1 => ?_)
    subst hw1
    replace hB : va_P D classes (cx cy ad fz c1) tt.heap := hB
    rw [httt] at hB
    exact fin r fz c1 m' H1 locs1 (hw.cc hn hk hB) hn ha hS1 e2 hR (hi0.f hF) (hi1.f hF)
  · subst hrr
    have hBx : ∀ P : FP, isCp L' C' (c1.2.2.1 600) (c1.2.2.1 601) (c1.2.2.1 602) (c1.2.2.1 603) P → ∃ r st2, fX11_lawB P (c1.1 111) (fz ++ [P]) c1 = some (r, st2) := fun P hP => by
      obtain ⟨c', h, -⟩ := hall P hP
      exact ⟨v, c', h⟩
    refine va_calli (va_runV (As := []) (rest := []) (g := F0 m 586 ls [.ref (ad 99)]) E.1 (tX11_law_c l D cy ad fz hn.c H.size c c1 L' C' eA h604 h605 hL4 hC12 hBx) (cwV 0 E.1.2.2.2.2 (gV k_587 k_588 k_589 k_1 k_590) rfl rfl rfl qX11_law ⟨Nat.le_of_ble_eq_true rfl, Nat.le_of_ble_eq_true rfl⟩) ⟨l_blind, va_recv E.2 hw.1 (ci := 11) (q0 := 0) rfl rfl, fun U hU hW => ⟨rfl, by rw [hU], by rw [hU]; exact hw.1, va_K.moved hW.alike E.2, by rw [hU]; exact hN.step hS hW (cA_A ha hS), va_Nw.warmC hW hZ⟩⟩ rfl rfl hl.1 rfl (lv_room (Nat.le_of_ble_eq_true rfl)) dL_586 ⟨show cells + 5 ≤ 600000 by omega, show slots + 478 ≤ 7302250 by omega⟩) hS (fun q _ h => cA_A ha hS q h) (cA_A ha hS) (fun r u tt H1 locs1 httt hvm hw1 hB hz hk hS1 => ?_)
    obtain ⟨P, st2⟩ := u
    obtain ⟨hcp, hlb⟩ := hw1
    replace hcp : isCp L' C' (c1.2.2.1 600) (c1.2.2.1 601) (c1.2.2.1 602) (c1.2.2.1 603) P := hcp
    replace hlb : fX11_lawB P (c1.1 111) (fz ++ [P]) c1 = some (r, st2) := hlb
    obtain ⟨hPx, hJx, hge⟩ := hB
    replace hPx : va_P D classes (cx cy ad (fz ++ [P]) st2) tt.heap := hPx
    replace hJx : (cads ad (fz ++ [P])).Nodup := hJx
    replace hge : ∀ a ∈ [P.1 99, P.1 0, P.1 1, P.1 2, P.1 3], H.size ≤ a := hge
    rw [httt] at hPx
    obtain ⟨c', hlb', hnew⟩ := hall P hcp
    rw [hlb] at hlb'
    cases hlb'
    have hlt1 : ∀ a ∈ cads ad fz, a < H.size := fun a h => P_lts hw.1 a (by rw [cx_fst]; exact h)
    have hltR : ∀ a ∈ mads mad ++ (imA i0 ++ imA i1), a < H.size := by
      intro a h
      rcases List.mem_append.mp h with h | h
      · exact P_lts hw.2.1 a h
      · rcases List.mem_append.mp h with h | h
        · exact P_lts hw.2.2.1 a (by rw [imW_fst]; exact h)
        · exact P_lts hw.2.2.2 a (by rw [imW_fst]; exact h)
    have hfz : fzGet fz (P.1 99) = none := by
      cases hg : fzGet fz (P.1 99) with
      | none => rfl
      | some P' =>
        obtain ⟨g1, g2⟩ := fzGet_some hg
        have h1 : P'.1 99 ∈ fzA fz := List.mem_flatMap.mpr ⟨P', g1, by simp⟩
        have h2 : P'.1 99 ∈ cads ad fz := by rw [cads_app]; exact List.mem_append_right _ h1
        have h3 := hlt1 _ h2
        have h4 := hge (P.1 99) (by simp)
        rw [g2] at h3
        omega
    obtain ⟨hR, hF⟩ := hnew hfz
    have hw2 := hw.cc hn hk (P_of hPx (fun q hq => by rw [cx_snoc]; exact List.mem_append_left _ hq))
    refine fin v (fz ++ [P]) st2 m' H1 locs1 ⟨hPx, hw2.2⟩ ?_ ?_ hS1 e2 hR (IRk.f hi0.app hF) (IRk.f hi1.app hF)
    · show (cads ad (fz ++ [P]) ++ (mads mad ++ (imA i0 ++ imA i1))).Nodup
      rw [List.nodup_append]
      refine ⟨hJx, (List.nodup_append.mp hn).2.1, fun x hx y hy hxy => ?_⟩
      subst hxy
      rw [cads_snoc] at hx
      rcases List.mem_append.mp hx with h | h
      · exact nd_no hn h hy
      · exact absurd (hltR x hy) (Nat.not_lt.mpr (hge x h))
    · show ∀ a ∈ cads ad (fz ++ [P]) ++ (mads mad ++ (imA i0 ++ imA i1)), s.heap.size ≤ a
      intro a h
      rcases List.mem_append.mp h with h | h
      · rw [cads_snoc] at h
        rcases List.mem_append.mp h with h | h
        · exact ha a (List.mem_append_left _ h)
        · exact Nat.le_trans hS.1 (hge a h)
      · exact ha a (List.mem_append_right _ h)
