set_option maxHeartbeats 1000000 in
theorem lc_10 {p : Program} {l : Launch} {e : Env} {s : State} {m : MethodId} {below : List Frame} {meth : Method} {cd : Code} {H : Heap} {locs : List Loc} {cells slots : Nat} {Q : State → Prop} {D : va_G} {cy : Nat → ClassId} {b L : Nat} {xs : Nat → Int32} {t : Nat} {ls : Array Slot} {fz : List FP} {ad mad : Nat → Nat} {c mm : St} {i0 i1 : IM} (C0 : LC p s m meth cd D cy b L xs) (I : LI D cy s fz ad c mad mm i0 i1 H locs) (ht : 6 * t + 6 ≤ L) (hl : lv_has ls 4 [(0, .ref b), (1, .ref (ad 99)), (2, .ref (mad 100)), (3, .int (nI (6 * t)))]) (hcs : cells ≤ 500000 ∧ slots ≤ 7000000) (kk : LK p l e s m below meth cd cells slots Q D cy b ls ad mad) : W p l e room_1 s m #[Value.ref b] below meth cd H locs cells slots Q (F0 m 572 ls []) := by
  have hx := C0.1.1.1
  have hb := C0.1.1.2.1
  obtain ⟨hw, hn, ha, hS, hRR, hi0, hi1⟩ := I
  obtain ⟨v, c', mm', e1, e2, hR, hF⟩ := brooms_call hRR
  refine lv_aload_n hx hb dL_572 rfl (lv_at hl 1 rfl) ?_
  refine w_ci (n := 0) (As := []) (rest := []) C0 hw hn ha hS (fun sz => tX11_brooms l D cy ad fz hn.c sz c v c' e1) (gV k_583 k_584 k_585 k_1 k_586) qX11_brooms ⟨Nat.le_of_ble_eq_true rfl, Nat.le_of_ble_eq_true rfl⟩ hcs rfl hl.1 rfl (Nat.le_of_ble_eq_true rfl) dL_573 (fun H locs hw hS => ?_)
  refine lv_aload_n hx hb dL_576 rfl (lv_at hl 2 rfl) ?_
  refine w_mi (n := 0) (As := []) (rest := [.int v]) C0 hw hn ha hS (fun sz => tX12_brooms l D cy mad hn.m sz mm v mm' e2) (gV k_1421 k_1422 k_1423 k_14 k_1424) qX12_brooms ⟨Nat.le_of_ble_eq_true rfl, Nat.le_of_ble_eq_true rfl⟩ hcs rfl hl.1 rfl (Nat.le_of_ble_eq_true rfl) dL_577 (fun H locs hw hS => ?_)
  refine lv_icmp_eq (tgt := 1416) hx hb dL_580 (by decide) (fun _ => ?_) (fun hc => absurd rfl hc)
  refine W.widen (k := cells + 30) (n := slots + 500) (by omega) (by omega) ?_
  exact kk fz ad c' mm' i0 i1 H locs rfl ⟨hw, hn, ha, hS, hR, hi0.f hF, hi1.f hF⟩
set_option maxHeartbeats 1000000 in
theorem lc_12 {p : Program} {l : Launch} {e : Env} {s : State} {m : MethodId} {below : List Frame} {meth : Method} {cd : Code} {H : Heap} {locs : List Loc} {cells slots : Nat} {Q : State → Prop} {D : va_G} {cy : Nat → ClassId} {b L : Nat} {xs : Nat → Int32} {t : Nat} {ls : Array Slot} {fz : List FP} {ad mad : Nat → Nat} {c mm : St} {i0 i1 : IM} (C0 : LC p s m meth cd D cy b L xs) (I : LI D cy s fz ad c mad mm i0 i1 H locs) (ht : 6 * t + 6 ≤ L) (hl : lv_has ls 4 [(0, .ref b), (1, .ref (ad 99)), (2, .ref (mad 100)), (3, .int (nI (6 * t)))]) (hcs : cells ≤ 500000 ∧ slots ≤ 7000000) (kk : LK p l e s m below meth cd cells slots Q D cy b ls ad mad) : W p l e room_1 s m #[Value.ref b] below meth cd H locs cells slots Q (F0 m 598 ls []) := by
  have hx := C0.1.1.1
  have hb := C0.1.1.2.1
  obtain ⟨hw, hn, ha, hS, hRR, hi0, hi1⟩ := I
  obtain ⟨v, c', mm', e1, e2, hR, hF⟩ := orders_call hRR
  refine lv_aload_n hx hb dL_598 rfl (lv_at hl 1 rfl) ?_
  refine w_ci (n := 0) (As := []) (rest := []) C0 hw hn ha hS (fun sz => tX11_orders l D cy ad fz hn.c sz c v c' e1) (gV k_788 k_789 k_790 k_1 k_791) qX11_orders ⟨Nat.le_of_ble_eq_true rfl, Nat.le_of_ble_eq_true rfl⟩ hcs rfl hl.1 rfl (Nat.le_of_ble_eq_true rfl) dL_599 (fun H locs hw hS => ?_)
  refine lv_aload_n hx hb dL_602 rfl (lv_at hl 2 rfl) ?_
  refine w_mi (n := 0) (As := []) (rest := [.int v]) C0 hw hn ha hS (fun sz => tX12_orders l D cy mad hn.m sz mm v mm' e2) (gV k_1756 k_1757 k_1758 k_14 k_1759) qX12_orders ⟨Nat.le_of_ble_eq_true rfl, Nat.le_of_ble_eq_true rfl⟩ hcs rfl hl.1 rfl (Nat.le_of_ble_eq_true rfl) dL_603 (fun H locs hw hS => ?_)
  refine lv_icmp_eq (tgt := 1416) hx hb dL_606 (by decide) (fun _ => ?_) (fun hc => absurd rfl hc)
  refine W.widen (k := cells + 30) (n := slots + 500) (by omega) (by omega) ?_
  exact kk fz ad c' mm' i0 i1 H locs rfl ⟨hw, hn, ha, hS, hR, hi0.f hF, hi1.f hF⟩
set_option maxHeartbeats 1000000 in
theorem lc_13 {p : Program} {l : Launch} {e : Env} {s : State} {m : MethodId} {below : List Frame} {meth : Method} {cd : Code} {H : Heap} {locs : List Loc} {cells slots : Nat} {Q : State → Prop} {D : va_G} {cy : Nat → ClassId} {b L : Nat} {xs : Nat → Int32} {t : Nat} {ls : Array Slot} {fz : List FP} {ad mad : Nat → Nat} {c mm : St} {i0 i1 : IM} (C0 : LC p s m meth cd D cy b L xs) (I : LI D cy s fz ad c mad mm i0 i1 H locs) (ht : 6 * t + 6 ≤ L) (hl : lv_has ls 4 [(0, .ref b), (1, .ref (ad 99)), (2, .ref (mad 100)), (3, .int (nI (6 * t)))]) (hcs : cells ≤ 500000 ∧ slots ≤ 7000000) (kk : LK p l e s m below meth cd cells slots Q D cy b ls ad mad) : W p l e room_1 s m #[Value.ref b] below meth cd H locs cells slots Q (F0 m 611 ls []) := by
  have hx := C0.1.1.1
  have hb := C0.1.1.2.1
  obtain ⟨hw, hn, ha, hS, hRR, hi0, hi1⟩ := I
  obtain ⟨v, c', mm', e1, e2, hR, hF⟩ := fault_call hRR
  refine lv_aload_n hx hb dL_611 rfl (lv_at hl 1 rfl) ?_
  refine w_ci (n := 0) (As := []) (rest := []) C0 hw hn ha hS (fun sz => tX11_fault l D cy ad fz hn.c sz c v c' e1) (gV k_852 k_853 k_854 k_1 k_855) qX11_fault ⟨Nat.le_of_ble_eq_true rfl, Nat.le_of_ble_eq_true rfl⟩ hcs rfl hl.1 rfl (Nat.le_of_ble_eq_true rfl) dL_612 (fun H locs hw hS => ?_)
  refine lv_aload_n hx hb dL_615 rfl (lv_at hl 2 rfl) ?_
  refine w_mi (n := 0) (As := []) (rest := [.int v]) C0 hw hn ha hS (fun sz => tX12_fault l D cy mad hn.m sz mm v mm' e2) (gV k_1437 k_1438 k_1439 k_14 k_1440) qX12_fault ⟨Nat.le_of_ble_eq_true rfl, Nat.le_of_ble_eq_true rfl⟩ hcs rfl hl.1 rfl (Nat.le_of_ble_eq_true rfl) dL_616 (fun H locs hw hS => ?_)
  refine lv_icmp_eq (tgt := 1416) hx hb dL_619 (by decide) (fun _ => ?_) (fun hc => absurd rfl hc)
  refine W.widen (k := cells + 30) (n := slots + 500) (by omega) (by omega) ?_
  exact kk fz ad c' mm' i0 i1 H locs rfl ⟨hw, hn, ha, hS, hR, hi0.f hF, hi1.f hF⟩
set_option maxHeartbeats 1000000 in
theorem lc_14 {p : Program} {l : Launch} {e : Env} {s : State} {m : MethodId} {below : List Frame} {meth : Method} {cd : Code} {H : Heap} {locs : List Loc} {cells slots : Nat} {Q : State → Prop} {D : va_G} {cy : Nat → ClassId} {b L : Nat} {xs : Nat → Int32} {t : Nat} {ls : Array Slot} {fz : List FP} {ad mad : Nat → Nat} {c mm : St} {i0 i1 : IM} (C0 : LC p s m meth cd D cy b L xs) (I : LI D cy s fz ad c mad mm i0 i1 H locs) (ht : 6 * t + 6 ≤ L) (hl : lv_has ls 4 [(0, .ref b), (1, .ref (ad 99)), (2, .ref (mad 100)), (3, .int (nI (6 * t)))]) (hcs : cells ≤ 500000 ∧ slots ≤ 7000000) (kk : LK p l e s m below meth cd cells slots Q D cy b ls ad mad) : W p l e room_1 s m #[Value.ref b] below meth cd H locs cells slots Q (F0 m 624 ls []) := by
  have hx := C0.1.1.1
  have hb := C0.1.1.2.1
  obtain ⟨hw, hn, ha, hS, hRR, hi0, hi1⟩ := I
  obtain ⟨v, c', mm', e1, e2, hR, hF⟩ := stopped_call hRR
  refine lv_aload_n hx hb dL_624 rfl (lv_at hl 1 rfl) ?_
  refine w_ci (n := 0) (As := []) (rest := []) C0 hw hn ha hS (fun sz => tX11_stopped l D cy ad fz hn.c sz c v c' e1) (gV k_856 k_857 k_858 k_1 k_859) qX11_stopped ⟨Nat.le_of_ble_eq_true rfl, Nat.le_of_ble_eq_true rfl⟩ hcs rfl hl.1 rfl (Nat.le_of_ble_eq_true rfl) dL_625 (fun H locs hw hS => ?_)
  refine lv_aload_n hx hb dL_628 rfl (lv_at hl 2 rfl) ?_
  refine w_mi (n := 0) (As := []) (rest := [.int v]) C0 hw hn ha hS (fun sz => tX12_stopped l D cy mad hn.m sz mm v mm' e2) (gV k_1788 k_1789 k_1790 k_14 k_1791) qX12_stopped ⟨Nat.le_of_ble_eq_true rfl, Nat.le_of_ble_eq_true rfl⟩ hcs rfl hl.1 rfl (Nat.le_of_ble_eq_true rfl) dL_629 (fun H locs hw hS => ?_)
  refine lv_icmp_eq (tgt := 1416) hx hb dL_632 (by decide) (fun _ => ?_) (fun hc => absurd rfl hc)
  refine W.widen (k := cells + 30) (n := slots + 500) (by omega) (by omega) ?_
  exact kk fz ad c' mm' i0 i1 H locs rfl ⟨hw, hn, ha, hS, hR, hi0.f hF, hi1.f hF⟩
set_option maxHeartbeats 1000000 in
theorem lc_15 {p : Program} {l : Launch} {e : Env} {s : State} {m : MethodId} {below : List Frame} {meth : Method} {cd : Code} {H : Heap} {locs : List Loc} {cells slots : Nat} {Q : State → Prop} {D : va_G} {cy : Nat → ClassId} {b L : Nat} {xs : Nat → Int32} {t : Nat} {ls : Array Slot} {fz : List FP} {ad mad : Nat → Nat} {c mm : St} {i0 i1 : IM} (C0 : LC p s m meth cd D cy b L xs) (I : LI D cy s fz ad c mad mm i0 i1 H locs) (ht : 6 * t + 6 ≤ L) (hl : lv_has ls 4 [(0, .ref b), (1, .ref (ad 99)), (2, .ref (mad 100)), (3, .int (nI (6 * t)))]) (hcs : cells ≤ 500000 ∧ slots ≤ 7000000) (kk : LK p l e s m below meth cd cells slots Q D cy b ls ad mad) : W p l e room_1 s m #[Value.ref b] below meth cd H locs cells slots Q (F0 m 637 ls []) := by
  have hx := C0.1.1.1
  have hb := C0.1.1.2.1
  obtain ⟨hw, hn, ha, hS, hRR, hi0, hi1⟩ := I
  obtain ⟨v, c', mm', e1, e2, hR, hF⟩ := Cl.f hRR (force_call (xs (6 * t + 1)) hRR.1 hRR.2.1)
  refine lv_aload_n hx hb dL_637 rfl (lv_at hl 1 rfl) ?_
  refine g_arg (k := 1) C0 hS hl (by omega) (by decide) dL_638 dL_639 dL_640 dL_641 dL_642 ?_
  refine w_ci (n := 1) (As := [.int (xs (6 * t + 1))]) (rest := []) C0 hw hn ha hS (fun sz => tX11_force l D cy ad fz hn.c sz (xs (6 * t + 1)) c v c' e1) (gV k_860 k_861 k_862 k_1 k_863) qX11_force ⟨Nat.le_of_ble_eq_true rfl, Nat.le_of_ble_eq_true rfl⟩ hcs rfl hl.1 rfl (Nat.le_of_ble_eq_true rfl) dL_643 (fun H locs hw hS => ?_)
  refine lv_aload_n hx hb dL_646 rfl (lv_at hl 2 rfl) ?_
  refine g_arg (k := 1) C0 hS hl (by omega) (by decide) dL_647 dL_648 dL_649 dL_650 dL_651 ?_
  refine w_mi (n := 1) (As := [.int (xs (6 * t + 1))]) (rest := [.int v]) C0 hw hn ha hS (fun sz => tX12_force l D cy mad hn.m sz (xs (6 * t + 1)) mm v mm' e2) (gV k_1558 k_1559 k_1560 k_14 k_1561) qX12_force ⟨Nat.le_of_ble_eq_true rfl, Nat.le_of_ble_eq_true rfl⟩ hcs rfl hl.1 rfl (Nat.le_of_ble_eq_true rfl) dL_652 (fun H locs hw hS => ?_)
  refine lv_icmp_eq (tgt := 1416) hx hb dL_655 (by decide) (fun _ => ?_) (fun hc => absurd rfl hc)
  refine W.widen (k := cells + 30) (n := slots + 500) (by omega) (by omega) ?_
  exact kk fz ad c' mm' i0 i1 H locs rfl ⟨hw, hn, ha, hS, hR, hi0.f hF, hi1.f hF⟩
set_option maxHeartbeats 1000000 in
theorem lc_16 {p : Program} {l : Launch} {e : Env} {s : State} {m : MethodId} {below : List Frame} {meth : Method} {cd : Code} {H : Heap} {locs : List Loc} {cells slots : Nat} {Q : State → Prop} {D : va_G} {cy : Nat → ClassId} {b L : Nat} {xs : Nat → Int32} {t : Nat} {ls : Array Slot} {fz : List FP} {ad mad : Nat → Nat} {c mm : St} {i0 i1 : IM} (C0 : LC p s m meth cd D cy b L xs) (I : LI D cy s fz ad c mad mm i0 i1 H locs) (ht : 6 * t + 6 ≤ L) (hl : lv_has ls 4 [(0, .ref b), (1, .ref (ad 99)), (2, .ref (mad 100)), (3, .int (nI (6 * t)))]) (hcs : cells ≤ 500000 ∧ slots ≤ 7000000) (kk : LK p l e s m below meth cd cells slots Q D cy b ls ad mad) : W p l e room_1 s m #[Value.ref b] below meth cd H locs cells slots Q (F0 m 660 ls []) := by
  have hx := C0.1.1.1
  have hb := C0.1.1.2.1
  obtain ⟨hw, hn, ha, hS, hRR, hi0, hi1⟩ := I
  obtain ⟨v, c', mm', e1, e2, hR, hF⟩ := show_call (xs (6 * t + 1)) (xs (6 * t + 2)) hRR
  refine lv_aload_n hx hb dL_660 rfl (lv_at hl 1 rfl) ?_
  refine g_arg (k := 1) C0 hS hl (by omega) (by decide) dL_661 dL_662 dL_663 dL_664 dL_665 ?_
  refine g_arg (k := 2) C0 hS hl (by omega) (by decide) dL_666 dL_667 dL_668 dL_669 dL_670 ?_
  refine w_ci (n := 2) (As := [.int (xs (6 * t + 1)), .int (xs (6 * t + 2))]) (rest := []) C0 hw hn ha hS (fun sz => tX11_show l D cy ad fz hn.c sz (xs (6 * t + 1)) (xs (6 * t + 2)) c v c' e1) (gV k_864 k_865 k_866 k_1 k_867) qX11_show ⟨Nat.le_of_ble_eq_true rfl, Nat.le_of_ble_eq_true rfl⟩ hcs rfl hl.1 rfl (Nat.le_of_ble_eq_true rfl) dL_671 (fun H locs hw hS => ?_)
  refine lv_aload_n hx hb dL_674 rfl (lv_at hl 2 rfl) ?_
  refine g_arg (k := 1) C0 hS hl (by omega) (by decide) dL_675 dL_676 dL_677 dL_678 dL_679 ?_
  refine g_arg (k := 2) C0 hS hl (by omega) (by decide) dL_680 dL_681 dL_682 dL_683 dL_684 ?_
  refine w_mi (n := 2) (As := [.int (xs (6 * t + 1)), .int (xs (6 * t + 2))]) (rest := [.int v]) C0 hw hn ha hS (fun sz => tX12_show l D cy mad hn.m sz (xs (6 * t + 1)) (xs (6 * t + 2)) mm v mm' e2) (gV k_1609 k_1610 k_1611 k_14 k_1612) qX12_show ⟨Nat.le_of_ble_eq_true rfl, Nat.le_of_ble_eq_true rfl⟩ hcs rfl hl.1 rfl (Nat.le_of_ble_eq_true rfl) dL_685 (fun H locs hw hS => ?_)
  refine lv_icmp_eq (tgt := 1416) hx hb dL_688 (by decide) (fun _ => ?_) (fun hc => absurd rfl hc)
  refine W.widen (k := cells + 30) (n := slots + 500) (by omega) (by omega) ?_
  exact kk fz ad c' mm' i0 i1 H locs rfl ⟨hw, hn, ha, hS, hR, hi0.f hF, hi1.f hF⟩
set_option maxHeartbeats 1000000 in
theorem lc_17 {p : Program} {l : Launch} {e : Env} {s : State} {m : MethodId} {below : List Frame} {meth : Method} {cd : Code} {H : Heap} {locs : List Loc} {cells slots : Nat} {Q : State → Prop} {D : va_G} {cy : Nat → ClassId} {b L : Nat} {xs : Nat → Int32} {t : Nat} {ls : Array Slot} {fz : List FP} {ad mad : Nat → Nat} {c mm : St} {i0 i1 : IM} (C0 : LC p s m meth cd D cy b L xs) (I : LI D cy s fz ad c mad mm i0 i1 H locs) (ht : 6 * t + 6 ≤ L) (hl : lv_has ls 4 [(0, .ref b), (1, .ref (ad 99)), (2, .ref (mad 100)), (3, .int (nI (6 * t)))]) (hcs : cells ≤ 500000 ∧ slots ≤ 7000000) (kk : LK p l e s m below meth cd cells slots Q D cy b ls ad mad) : W p l e room_1 s m #[Value.ref b] below meth cd H locs cells slots Q (F0 m 693 ls []) := by
  have hx := C0.1.1.1
  have hb := C0.1.1.2.1
  obtain ⟨hw, hn, ha, hS, hRR, hi0, hi1⟩ := I
  obtain ⟨v, c', mm', e1, e2, hR, hF⟩ := hide_call (xs (6 * t + 1)) (xs (6 * t + 2)) hRR
  refine lv_aload_n hx hb dL_693 rfl (lv_at hl 1 rfl) ?_
  refine g_arg (k := 1) C0 hS hl (by omega) (by decide) dL_694 dL_695 dL_696 dL_697 dL_698 ?_
  refine g_arg (k := 2) C0 hS hl (by omega) (by decide) dL_699 dL_700 dL_701 dL_702 dL_703 ?_
  refine w_ci (n := 2) (As := [.int (xs (6 * t + 1)), .int (xs (6 * t + 2))]) (rest := []) C0 hw hn ha hS (fun sz => tX11_hide l D cy ad fz hn.c sz (xs (6 * t + 1)) (xs (6 * t + 2)) c v c' e1) (gV k_869 k_870 k_871 k_1 k_872) qX11_hide ⟨Nat.le_of_ble_eq_true rfl, Nat.le_of_ble_eq_true rfl⟩ hcs rfl hl.1 rfl (Nat.le_of_ble_eq_true rfl) dL_704 (fun H locs hw hS => ?_)
  refine lv_aload_n hx hb dL_707 rfl (lv_at hl 2 rfl) ?_
  refine g_arg (k := 1) C0 hS hl (by omega) (by decide) dL_708 dL_709 dL_710 dL_711 dL_712 ?_
  refine g_arg (k := 2) C0 hS hl (by omega) (by decide) dL_713 dL_714 dL_715 dL_716 dL_717 ?_
  refine w_mi (n := 2) (As := [.int (xs (6 * t + 1)), .int (xs (6 * t + 2))]) (rest := [.int v]) C0 hw hn ha hS (fun sz => tX12_hide l D cy mad hn.m sz (xs (6 * t + 1)) (xs (6 * t + 2)) mm v mm' e2) (gV k_1629 k_1630 k_1631 k_14 k_1632) qX12_hide ⟨Nat.le_of_ble_eq_true rfl, Nat.le_of_ble_eq_true rfl⟩ hcs rfl hl.1 rfl (Nat.le_of_ble_eq_true rfl) dL_718 (fun H locs hw hS => ?_)
  refine lv_icmp_eq (tgt := 1416) hx hb dL_721 (by decide) (fun _ => ?_) (fun hc => absurd rfl hc)
  refine W.widen (k := cells + 30) (n := slots + 500) (by omega) (by omega) ?_
  exact kk fz ad c' mm' i0 i1 H locs rfl ⟨hw, hn, ha, hS, hR, hi0.f hF, hi1.f hF⟩
set_option maxHeartbeats 1000000 in
theorem lc_18 {p : Program} {l : Launch} {e : Env} {s : State} {m : MethodId} {below : List Frame} {meth : Method} {cd : Code} {H : Heap} {locs : List Loc} {cells slots : Nat} {Q : State → Prop} {D : va_G} {cy : Nat → ClassId} {b L : Nat} {xs : Nat → Int32} {t : Nat} {ls : Array Slot} {fz : List FP} {ad mad : Nat → Nat} {c mm : St} {i0 i1 : IM} (C0 : LC p s m meth cd D cy b L xs) (I : LI D cy s fz ad c mad mm i0 i1 H locs) (ht : 6 * t + 6 ≤ L) (hl : lv_has ls 4 [(0, .ref b), (1, .ref (ad 99)), (2, .ref (mad 100)), (3, .int (nI (6 * t)))]) (hcs : cells ≤ 500000 ∧ slots ≤ 7000000) (kk : LK p l e s m below meth cd cells slots Q D cy b ls ad mad) : W p l e room_1 s m #[Value.ref b] below meth cd H locs cells slots Q (F0 m 726 ls []) := by
  have hx := C0.1.1.1
  have hb := C0.1.1.2.1
  obtain ⟨hw, hn, ha, hS, hRR, hi0, hi1⟩ := I
  obtain ⟨v, c', mm', e1, e2, hR, hF⟩ := man_call (xs (6 * t + 1)) (xs (6 * t + 2)) hRR
  refine lv_aload_n hx hb dL_726 rfl (lv_at hl 1 rfl) ?_
  refine g_arg (k := 1) C0 hS hl (by omega) (by decide) dL_727 dL_728 dL_729 dL_730 dL_731 ?_
  refine g_arg (k := 2) C0 hS hl (by omega) (by decide) dL_732 dL_733 dL_734 dL_735 dL_736 ?_
  refine w_ci (n := 2) (As := [.int (xs (6 * t + 1)), .int (xs (6 * t + 2))]) (rest := []) C0 hw hn ha hS (fun sz => tX11_man l D cy ad fz hn.c sz (xs (6 * t + 1)) (xs (6 * t + 2)) c v c' e1) (gV k_873 k_874 k_875 k_1 k_876) qX11_man ⟨Nat.le_of_ble_eq_true rfl, Nat.le_of_ble_eq_true rfl⟩ hcs rfl hl.1 rfl (Nat.le_of_ble_eq_true rfl) dL_737 (fun H locs hw hS => ?_)
  refine lv_aload_n hx hb dL_740 rfl (lv_at hl 2 rfl) ?_
  refine g_arg (k := 1) C0 hS hl (by omega) (by decide) dL_741 dL_742 dL_743 dL_744 dL_745 ?_
  refine g_arg (k := 2) C0 hS hl (by omega) (by decide) dL_746 dL_747 dL_748 dL_749 dL_750 ?_
  refine w_mi (n := 2) (As := [.int (xs (6 * t + 1)), .int (xs (6 * t + 2))]) (rest := [.int v]) C0 hw hn ha hS (fun sz => tX12_man l D cy mad hn.m sz (xs (6 * t + 1)) (xs (6 * t + 2)) mm v mm' e2) (gV k_1637 k_1638 k_1639 k_14 k_1640) qX12_man ⟨Nat.le_of_ble_eq_true rfl, Nat.le_of_ble_eq_true rfl⟩ hcs rfl hl.1 rfl (Nat.le_of_ble_eq_true rfl) dL_751 (fun H locs hw hS => ?_)
  refine lv_icmp_eq (tgt := 1416) hx hb dL_754 (by decide) (fun _ => ?_) (fun hc => absurd rfl hc)
  refine W.widen (k := cells + 30) (n := slots + 500) (by omega) (by omega) ?_
  exact kk fz ad c' mm' i0 i1 H locs rfl ⟨hw, hn, ha, hS, hR, hi0.f hF, hi1.f hF⟩
set_option maxHeartbeats 1000000 in
theorem lc_19 {p : Program} {l : Launch} {e : Env} {s : State} {m : MethodId} {below : List Frame} {meth : Method} {cd : Code} {H : Heap} {locs : List Loc} {cells slots : Nat} {Q : State → Prop} {D : va_G} {cy : Nat → ClassId} {b L : Nat} {xs : Nat → Int32} {t : Nat} {ls : Array Slot} {fz : List FP} {ad mad : Nat → Nat} {c mm : St} {i0 i1 : IM} (C0 : LC p s m meth cd D cy b L xs) (I : LI D cy s fz ad c mad mm i0 i1 H locs) (ht : 6 * t + 6 ≤ L) (hl : lv_has ls 4 [(0, .ref b), (1, .ref (ad 99)), (2, .ref (mad 100)), (3, .int (nI (6 * t)))]) (hcs : cells ≤ 500000 ∧ slots ≤ 7000000) (kk : LK p l e s m below meth cd cells slots Q D cy b ls ad mad) : W p l e room_1 s m #[Value.ref b] below meth cd H locs cells slots Q (F0 m 759 ls []) := by
  have hx := C0.1.1.1
  have hb := C0.1.1.2.1
  obtain ⟨hw, hn, ha, hS, hRR, hi0, hi1⟩ := I
  obtain ⟨v, c', mm', e1, e2, hR, hF⟩ := march_call (xs (6 * t + 1)) (xs (6 * t + 2)) hRR
  refine lv_aload_n hx hb dL_759 rfl (lv_at hl 1 rfl) ?_
  refine g_arg (k := 1) C0 hS hl (by omega) (by decide) dL_760 dL_761 dL_762 dL_763 dL_764 ?_
  refine g_arg (k := 2) C0 hS hl (by omega) (by decide) dL_765 dL_766 dL_767 dL_768 dL_769 ?_
  refine w_ci (n := 2) (As := [.int (xs (6 * t + 1)), .int (xs (6 * t + 2))]) (rest := []) C0 hw hn ha hS (fun sz => tX11_march l D cy ad fz hn.c sz (xs (6 * t + 1)) (xs (6 * t + 2)) c v c' e1) (gV k_877 k_878 k_879 k_1 k_880) qX11_march ⟨Nat.le_of_ble_eq_true rfl, Nat.le_of_ble_eq_true rfl⟩ hcs rfl hl.1 rfl (Nat.le_of_ble_eq_true rfl) dL_770 (fun H locs hw hS => ?_)
  refine lv_aload_n hx hb dL_773 rfl (lv_at hl 2 rfl) ?_
  refine g_arg (k := 1) C0 hS hl (by omega) (by decide) dL_774 dL_775 dL_776 dL_777 dL_778 ?_
  refine g_arg (k := 2) C0 hS hl (by omega) (by decide) dL_779 dL_780 dL_781 dL_782 dL_783 ?_
  refine w_mi (n := 2) (As := [.int (xs (6 * t + 1)), .int (xs (6 * t + 2))]) (rest := [.int v]) C0 hw hn ha hS (fun sz => tX12_march l D cy mad hn.m sz (xs (6 * t + 1)) (xs (6 * t + 2)) mm v mm' e2) (gV k_1646 k_1647 k_1648 k_14 k_1649) qX12_march ⟨Nat.le_of_ble_eq_true rfl, Nat.le_of_ble_eq_true rfl⟩ hcs rfl hl.1 rfl (Nat.le_of_ble_eq_true rfl) dL_784 (fun H locs hw hS => ?_)
  refine lv_icmp_eq (tgt := 1416) hx hb dL_787 (by decide) (fun _ => ?_) (fun hc => absurd rfl hc)
  refine W.widen (k := cells + 30) (n := slots + 500) (by omega) (by omega) ?_
  exact kk fz ad c' mm' i0 i1 H locs rfl ⟨hw, hn, ha, hS, hR, hi0.f hF, hi1.f hF⟩
