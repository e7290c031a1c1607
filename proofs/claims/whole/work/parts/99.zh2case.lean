set_option maxHeartbeats 1000000 in
theorem lc_20 {p : Program} {l : Launch} {e : Env} {s : State} {m : MethodId} {below : List Frame} {meth : Method} {cd : Code} {H : Heap} {locs : List Loc} {cells slots : Nat} {Q : State → Prop} {D : va_G} {cy : Nat → ClassId} {b L : Nat} {xs : Nat → Int32} {t : Nat} {ls : Array Slot} {fz : List FP} {ad mad : Nat → Nat} {c mm : St} {i0 i1 : IM} (C0 : LC p s m meth cd D cy b L xs) (I : LI D cy s fz ad c mad mm i0 i1 H locs) (ht : 6 * t + 6 ≤ L) (hl : lv_has ls 4 [(0, .ref b), (1, .ref (ad 99)), (2, .ref (mad 100)), (3, .int (nI (6 * t)))]) (hcs : cells ≤ 500000 ∧ slots ≤ 7000000) (kk : LK p l e s m below meth cd cells slots Q D cy b ls ad mad) : W p l e room_1 s m #[Value.ref b] below meth cd H locs cells slots Q (F0 m 792 ls []) := by
  have hx := C0.1.1.1
  have hb := C0.1.1.2.1
  obtain ⟨hw, hn, ha, hS, hRR, hi0, hi1⟩ := I
  obtain ⟨v, c', mm', e1, e2, hR, hF⟩ := undo_call hRR
  refine lv_aload_n hx hb dL_792 rfl (lv_at hl 1 rfl) ?_
  refine w_ci (n := 0) (As := []) (rest := []) C0 hw hn ha hS (fun sz => tX11_undo l D cy ad fz hn.c sz c v c' e1) (gV k_881 k_882 k_883 k_1 k_884) qX11_undo ⟨Nat.le_of_ble_eq_true rfl, Nat.le_of_ble_eq_true rfl⟩ hcs rfl hl.1 rfl (Nat.le_of_ble_eq_true rfl) dL_793 (fun H locs hw hS => ?_)
  refine lv_aload_n hx hb dL_796 rfl (lv_at hl 2 rfl) ?_
  refine w_mi (n := 0) (As := []) (rest := [.int v]) C0 hw hn ha hS (fun sz => tX12_undo l D cy mad hn.m sz mm v mm' e2) (gV k_1334 k_1335 k_1336 k_14 k_1337) qX12_undo ⟨Nat.le_of_ble_eq_true rfl, Nat.le_of_ble_eq_true rfl⟩ hcs rfl hl.1 rfl (Nat.le_of_ble_eq_true rfl) dL_797 (fun H locs hw hS => ?_)
  refine lv_icmp_eq (tgt := 1416) hx hb dL_800 (by decide) (fun _ => ?_) (fun hc => absurd rfl hc)
  refine W.widen (k := cells + 30) (n := slots + 500) (by omega) (by omega) ?_
  exact kk fz ad c' mm' i0 i1 H locs rfl ⟨hw, hn, ha, hS, hR, hi0.f hF, hi1.f hF⟩
set_option maxHeartbeats 1000000 in
theorem lc_21 {p : Program} {l : Launch} {e : Env} {s : State} {m : MethodId} {below : List Frame} {meth : Method} {cd : Code} {H : Heap} {locs : List Loc} {cells slots : Nat} {Q : State → Prop} {D : va_G} {cy : Nat → ClassId} {b L : Nat} {xs : Nat → Int32} {t : Nat} {ls : Array Slot} {fz : List FP} {ad mad : Nat → Nat} {c mm : St} {i0 i1 : IM} (C0 : LC p s m meth cd D cy b L xs) (I : LI D cy s fz ad c mad mm i0 i1 H locs) (ht : 6 * t + 6 ≤ L) (hl : lv_has ls 4 [(0, .ref b), (1, .ref (ad 99)), (2, .ref (mad 100)), (3, .int (nI (6 * t)))]) (hcs : cells ≤ 500000 ∧ slots ≤ 7000000) (kk : LK p l e s m below meth cd cells slots Q D cy b ls ad mad) : W p l e room_1 s m #[Value.ref b] below meth cd H locs cells slots Q (F0 m 805 ls []) := by
  have hx := C0.1.1.1
  have hb := C0.1.1.2.1
  obtain ⟨hw, hn, ha, hS, hRR, hi0, hi1⟩ := I
  obtain ⟨v, c', mm', e1, e2, hR, hF⟩ := Cl.q2 hRR (bluff_both (xs (6 * t + 1)) (xs (6 * t + 2)) (xs (6 * t + 3)) hRR.1)
  refine lv_aload_n hx hb dL_805 rfl (lv_at hl 1 rfl) ?_
  refine g_arg (k := 1) C0 hS hl (by omega) (by decide) dL_806 dL_807 dL_808 dL_809 dL_810 ?_
  refine g_arg (k := 2) C0 hS hl (by omega) (by decide) dL_811 dL_812 dL_813 dL_814 dL_815 ?_
  refine g_arg (k := 3) C0 hS hl (by omega) (by decide) dL_816 dL_817 dL_818 dL_819 dL_820 ?_
  refine w_ci (n := 3) (As := [.int (xs (6 * t + 1)), .int (xs (6 * t + 2)), .int (xs (6 * t + 3))]) (rest := []) C0 hw hn ha hS (fun sz => tX11_bluff l D cy ad fz hn.c sz (xs (6 * t + 1)) (xs (6 * t + 2)) (xs (6 * t + 3)) c v c' e1) (gV k_889 k_890 k_891 k_1 k_892) qX11_bluff ⟨Nat.le_of_ble_eq_true rfl, Nat.le_of_ble_eq_true rfl⟩ hcs rfl hl.1 rfl (Nat.le_of_ble_eq_true rfl) dL_821 (fun H locs hw hS => ?_)
  refine lv_aload_n hx hb dL_824 rfl (lv_at hl 2 rfl) ?_
  refine g_arg (k := 1) C0 hS hl (by omega) (by decide) dL_825 dL_826 dL_827 dL_828 dL_829 ?_
  refine g_arg (k := 2) C0 hS hl (by omega) (by decide) dL_830 dL_831 dL_832 dL_833 dL_834 ?_
  refine g_arg (k := 3) C0 hS hl (by omega) (by decide) dL_835 dL_836 dL_837 dL_838 dL_839 ?_
  refine w_mi (n := 3) (As := [.int (xs (6 * t + 1)), .int (xs (6 * t + 2)), .int (xs (6 * t + 3))]) (rest := [.int v]) C0 hw hn ha hS (fun sz => tX12_bluff l D cy mad hn.m sz (xs (6 * t + 1)) (xs (6 * t + 2)) (xs (6 * t + 3)) mm v mm' e2) (gV k_1662 k_1663 k_1664 k_14 k_1665) qX12_bluff ⟨Nat.le_of_ble_eq_true rfl, Nat.le_of_ble_eq_true rfl⟩ hcs rfl hl.1 rfl (Nat.le_of_ble_eq_true rfl) dL_840 (fun H locs hw hS => ?_)
  refine lv_icmp_eq (tgt := 1416) hx hb dL_843 (by decide) (fun _ => ?_) (fun hc => absurd rfl hc)
  refine W.widen (k := cells + 30) (n := slots + 500) (by omega) (by omega) ?_
  exact kk fz ad c' mm' i0 i1 H locs rfl ⟨hw, hn, ha, hS, hR, hi0.f hF, hi1.f hF⟩
set_option maxHeartbeats 1000000 in
theorem lc_22 {p : Program} {l : Launch} {e : Env} {s : State} {m : MethodId} {below : List Frame} {meth : Method} {cd : Code} {H : Heap} {locs : List Loc} {cells slots : Nat} {Q : State → Prop} {D : va_G} {cy : Nat → ClassId} {b L : Nat} {xs : Nat → Int32} {t : Nat} {ls : Array Slot} {fz : List FP} {ad mad : Nat → Nat} {c mm : St} {i0 i1 : IM} (C0 : LC p s m meth cd D cy b L xs) (I : LI D cy s fz ad c mad mm i0 i1 H locs) (ht : 6 * t + 6 ≤ L) (hl : lv_has ls 4 [(0, .ref b), (1, .ref (ad 99)), (2, .ref (mad 100)), (3, .int (nI (6 * t)))]) (hcs : cells ≤ 500000 ∧ slots ≤ 7000000) (kk : LK p l e s m below meth cd cells slots Q D cy b ls ad mad) : W p l e room_1 s m #[Value.ref b] below meth cd H locs cells slots Q (F0 m 848 ls []) := by
  have hx := C0.1.1.1
  have hb := C0.1.1.2.1
  obtain ⟨hw, hn, ha, hS, hRR, hi0, hi1⟩ := I
  obtain ⟨v, c', mm', e1, e2, hR, hF⟩ := Cl.q hRR (scout_both (xs (6 * t + 1)) (xs (6 * t + 2)) hRR.1)
  refine lv_aload_n hx hb dL_848 rfl (lv_at hl 1 rfl) ?_
  refine g_arg (k := 1) C0 hS hl (by omega) (by decide) dL_849 dL_850 dL_851 dL_852 dL_853 ?_
  refine g_arg (k := 2) C0 hS hl (by omega) (by decide) dL_854 dL_855 dL_856 dL_857 dL_858 ?_
  refine w_ci (n := 2) (As := [.int (xs (6 * t + 1)), .int (xs (6 * t + 2))]) (rest := []) C0 hw hn ha hS (fun sz => tX11_scout l D cy ad fz hn.c sz (xs (6 * t + 1)) (xs (6 * t + 2)) c v c' e1) (gV k_908 k_909 k_910 k_1 k_911) qX11_scout ⟨Nat.le_of_ble_eq_true rfl, Nat.le_of_ble_eq_true rfl⟩ hcs rfl hl.1 rfl (Nat.le_of_ble_eq_true rfl) dL_859 (fun H locs hw hS => ?_)
  refine lv_aload_n hx hb dL_862 rfl (lv_at hl 2 rfl) ?_
  refine g_arg (k := 1) C0 hS hl (by omega) (by decide) dL_863 dL_864 dL_865 dL_866 dL_867 ?_
  refine g_arg (k := 2) C0 hS hl (by omega) (by decide) dL_868 dL_869 dL_870 dL_871 dL_872 ?_
  refine w_mi (n := 2) (As := [.int (xs (6 * t + 1)), .int (xs (6 * t + 2))]) (rest := [.int v]) C0 hw hn ha hS (fun sz => tX12_scout l D cy mad hn.m sz (xs (6 * t + 1)) (xs (6 * t + 2)) mm v mm' e2) (gV k_1667 k_1668 k_1669 k_14 k_1670) qX12_scout ⟨Nat.le_of_ble_eq_true rfl, Nat.le_of_ble_eq_true rfl⟩ hcs rfl hl.1 rfl (Nat.le_of_ble_eq_true rfl) dL_873 (fun H locs hw hS => ?_)
  refine lv_icmp_eq (tgt := 1416) hx hb dL_876 (by decide) (fun _ => ?_) (fun hc => absurd rfl hc)
  refine W.widen (k := cells + 30) (n := slots + 500) (by omega) (by omega) ?_
  exact kk fz ad c' mm' i0 i1 H locs rfl ⟨hw, hn, ha, hS, hR, hi0.f hF, hi1.f hF⟩
set_option maxHeartbeats 1000000 in
theorem lc_23 {p : Program} {l : Launch} {e : Env} {s : State} {m : MethodId} {below : List Frame} {meth : Method} {cd : Code} {H : Heap} {locs : List Loc} {cells slots : Nat} {Q : State → Prop} {D : va_G} {cy : Nat → ClassId} {b L : Nat} {xs : Nat → Int32} {t : Nat} {ls : Array Slot} {fz : List FP} {ad mad : Nat → Nat} {c mm : St} {i0 i1 : IM} (C0 : LC p s m meth cd D cy b L xs) (I : LI D cy s fz ad c mad mm i0 i1 H locs) (ht : 6 * t + 6 ≤ L) (hl : lv_has ls 4 [(0, .ref b), (1, .ref (ad 99)), (2, .ref (mad 100)), (3, .int (nI (6 * t)))]) (hcs : cells ≤ 500000 ∧ slots ≤ 7000000) (kk : LK p l e s m below meth cd cells slots Q D cy b ls ad mad) : W p l e room_1 s m #[Value.ref b] below meth cd H locs cells slots Q (F0 m 881 ls []) := by
  have hx := C0.1.1.1
  have hb := C0.1.1.2.1
  obtain ⟨hw, hn, ha, hS, hRR, hi0, hi1⟩ := I
  obtain ⟨v, c', mm', e1, e2, hR, hF⟩ := Cl.q hRR (holds_both (xs (6 * t + 1)) (xs (6 * t + 2)) hRR.1)
  refine lv_aload_n hx hb dL_881 rfl (lv_at hl 1 rfl) ?_
  refine g_arg (k := 1) C0 hS hl (by omega) (by decide) dL_882 dL_883 dL_884 dL_885 dL_886 ?_
  refine g_arg (k := 2) C0 hS hl (by omega) (by decide) dL_887 dL_888 dL_889 dL_890 dL_891 ?_
  refine w_cl (n := 2) (As := [.int (xs (6 * t + 1)), .int (xs (6 * t + 2))]) (rest := []) C0 hw hn ha hS (fun sz => tX11_holds l D cy ad fz hn.c sz (xs (6 * t + 1)) (xs (6 * t + 2)) c v c' e1) (gV k_919 k_920 k_921 k_1 k_922) qX11_holds ⟨Nat.le_of_ble_eq_true rfl, Nat.le_of_ble_eq_true rfl⟩ hcs rfl hl.1 rfl (Nat.le_of_ble_eq_true rfl) dL_892 (fun H locs hw hS => ?_)
  refine lv_aload_n hx hb dL_895 rfl (lv_at hl 2 rfl) ?_
  refine g_arg (k := 1) C0 hS hl (by omega) (by decide) dL_896 dL_897 dL_898 dL_899 dL_900 ?_
  refine g_arg (k := 2) C0 hS hl (by omega) (by decide) dL_901 dL_902 dL_903 dL_904 dL_905 ?_
  refine w_ml (n := 2) (As := [.int (xs (6 * t + 1)), .int (xs (6 * t + 2))]) (rest := [.long v]) C0 hw hn ha hS (fun sz => tX12_holds l D cy mad hn.m sz (xs (6 * t + 1)) (xs (6 * t + 2)) mm v mm' e2) (gV k_1671 k_1672 k_1673 k_14 k_1674) qX12_holds ⟨Nat.le_of_ble_eq_true rfl, Nat.le_of_ble_eq_true rfl⟩ hcs rfl hl.1 rfl (Nat.le_of_ble_eq_true rfl) dL_906 (fun H locs hw hS => ?_)
  refine W.lcmp hx hb dL_909 ?_
  refine lv_if_eq (tgt := 1416) hx hb dL_910 (by decide) (fun _ => ?_) (fun hc => absurd ((cmp_eq v v).mpr rfl) hc)
  refine W.widen (k := cells + 30) (n := slots + 500) (by omega) (by omega) ?_
  exact kk fz ad c' mm' i0 i1 H locs rfl ⟨hw, hn, ha, hS, hR, hi0.f hF, hi1.f hF⟩
set_option maxHeartbeats 1000000 in
theorem lc_24 {p : Program} {l : Launch} {e : Env} {s : State} {m : MethodId} {below : List Frame} {meth : Method} {cd : Code} {H : Heap} {locs : List Loc} {cells slots : Nat} {Q : State → Prop} {D : va_G} {cy : Nat → ClassId} {b L : Nat} {xs : Nat → Int32} {t : Nat} {ls : Array Slot} {fz : List FP} {ad mad : Nat → Nat} {c mm : St} {i0 i1 : IM} (C0 : LC p s m meth cd D cy b L xs) (I : LI D cy s fz ad c mad mm i0 i1 H locs) (ht : 6 * t + 6 ≤ L) (hl : lv_has ls 4 [(0, .ref b), (1, .ref (ad 99)), (2, .ref (mad 100)), (3, .int (nI (6 * t)))]) (hcs : cells ≤ 500000 ∧ slots ≤ 7000000) (kk : LK p l e s m below meth cd cells slots Q D cy b ls ad mad) : W p l e room_1 s m #[Value.ref b] below meth cd H locs cells slots Q (F0 m 915 ls []) := by
  have hx := C0.1.1.1
  have hb := C0.1.1.2.1
  obtain ⟨hw, hn, ha, hS, hRR, hi0, hi1⟩ := I
  obtain ⟨v, c', mm', e1, e2, hR, hF⟩ := retreat_call (xs (6 * t + 1)) (xs (6 * t + 2)) (xs (6 * t + 3)) hRR
  refine lv_aload_n hx hb dL_915 rfl (lv_at hl 1 rfl) ?_
  refine g_arg (k := 1) C0 hS hl (by omega) (by decide) dL_916 dL_917 dL_918 dL_919 dL_920 ?_
  refine g_arg (k := 2) C0 hS hl (by omega) (by decide) dL_921 dL_922 dL_923 dL_924 dL_925 ?_
  refine g_arg (k := 3) C0 hS hl (by omega) (by decide) dL_926 dL_927 dL_928 dL_929 dL_930 ?_
  refine w_ci (n := 3) (As := [.int (xs (6 * t + 1)), .int (xs (6 * t + 2)), .int (xs (6 * t + 3))]) (rest := []) C0 hw hn ha hS (fun sz => tX11_retreat l D cy ad fz hn.c sz (xs (6 * t + 1)) (xs (6 * t + 2)) (xs (6 * t + 3)) c v c' e1) (gV k_926 k_927 k_928 k_1 k_929) qX11_retreat ⟨Nat.le_of_ble_eq_true rfl, Nat.le_of_ble_eq_true rfl⟩ hcs rfl hl.1 rfl (Nat.le_of_ble_eq_true rfl) dL_931 (fun H locs hw hS => ?_)
  refine lv_aload_n hx hb dL_934 rfl (lv_at hl 2 rfl) ?_
  refine g_arg (k := 1) C0 hS hl (by omega) (by decide) dL_935 dL_936 dL_937 dL_938 dL_939 ?_
  refine g_arg (k := 2) C0 hS hl (by omega) (by decide) dL_940 dL_941 dL_942 dL_943 dL_944 ?_
  refine g_arg (k := 3) C0 hS hl (by omega) (by decide) dL_945 dL_946 dL_947 dL_948 dL_949 ?_
  refine w_mi (n := 3) (As := [.int (xs (6 * t + 1)), .int (xs (6 * t + 2)), .int (xs (6 * t + 3))]) (rest := [.int v]) C0 hw hn ha hS (fun sz => tX12_retreat l D cy mad hn.m sz (xs (6 * t + 1)) (xs (6 * t + 2)) (xs (6 * t + 3)) mm v mm' e2) (gV k_1677 k_1678 k_1679 k_14 k_1680) qX12_retreat ⟨Nat.le_of_ble_eq_true rfl, Nat.le_of_ble_eq_true rfl⟩ hcs rfl hl.1 rfl (Nat.le_of_ble_eq_true rfl) dL_950 (fun H locs hw hS => ?_)
  refine lv_icmp_eq (tgt := 1416) hx hb dL_953 (by decide) (fun _ => ?_) (fun hc => absurd rfl hc)
  refine W.widen (k := cells + 30) (n := slots + 500) (by omega) (by omega) ?_
  exact kk fz ad c' mm' i0 i1 H locs rfl ⟨hw, hn, ha, hS, hR, hi0.f hF, hi1.f hF⟩
set_option maxHeartbeats 1000000 in
theorem lc_25 {p : Program} {l : Launch} {e : Env} {s : State} {m : MethodId} {below : List Frame} {meth : Method} {cd : Code} {H : Heap} {locs : List Loc} {cells slots : Nat} {Q : State → Prop} {D : va_G} {cy : Nat → ClassId} {b L : Nat} {xs : Nat → Int32} {t : Nat} {ls : Array Slot} {fz : List FP} {ad mad : Nat → Nat} {c mm : St} {i0 i1 : IM} (C0 : LC p s m meth cd D cy b L xs) (I : LI D cy s fz ad c mad mm i0 i1 H locs) (ht : 6 * t + 6 ≤ L) (hl : lv_has ls 4 [(0, .ref b), (1, .ref (ad 99)), (2, .ref (mad 100)), (3, .int (nI (6 * t)))]) (hcs : cells ≤ 500000 ∧ slots ≤ 7000000) (kk : LK p l e s m below meth cd cells slots Q D cy b ls ad mad) : W p l e room_1 s m #[Value.ref b] below meth cd H locs cells slots Q (F0 m 958 ls []) := by
  have hx := C0.1.1.1
  have hb := C0.1.1.2.1
  obtain ⟨hw, hn, ha, hS, hRR, hi0, hi1⟩ := I
  obtain ⟨v, c', mm', e1, e2, hR, hF⟩ := Cl.q hRR (game_both (xs (6 * t + 1)) (xs (6 * t + 2)) (xs (6 * t + 3)) (xs (6 * t + 4)) (xs (6 * t + 5)))
  refine lv_aload_n hx hb dL_958 rfl (lv_at hl 1 rfl) ?_
  refine g_arg (k := 1) C0 hS hl (by omega) (by decide) dL_959 dL_960 dL_961 dL_962 dL_963 ?_
  refine g_arg (k := 2) C0 hS hl (by omega) (by decide) dL_964 dL_965 dL_966 dL_967 dL_968 ?_
  refine g_arg (k := 3) C0 hS hl (by omega) (by decide) dL_969 dL_970 dL_971 dL_972 dL_973 ?_
  refine g_arg (k := 4) C0 hS hl (by omega) (by decide) dL_974 dL_975 dL_976 dL_977 dL_978 ?_
  refine g_arg (k := 5) C0 hS hl (by omega) (by decide) dL_979 dL_980 dL_981 dL_982 dL_983 ?_
  refine w_ci (n := 5) (As := [.int (xs (6 * t + 1)), .int (xs (6 * t + 2)), .int (xs (6 * t + 3)), .int (xs (6 * t + 4)), .int (xs (6 * t + 5))]) (rest := []) C0 hw hn ha hS (fun sz => tX11_game l D cy ad fz hn.c sz (xs (6 * t + 1)) (xs (6 * t + 2)) (xs (6 * t + 3)) (xs (6 * t + 4)) (xs (6 * t + 5)) c v c' e1) (gV k_953 k_954 k_955 k_1 k_956) qX11_game ⟨Nat.le_of_ble_eq_true rfl, Nat.le_of_ble_eq_true rfl⟩ hcs rfl hl.1 rfl (Nat.le_of_ble_eq_true rfl) dL_984 (fun H locs hw hS => ?_)
  refine lv_aload_n hx hb dL_987 rfl (lv_at hl 2 rfl) ?_
  refine g_arg (k := 1) C0 hS hl (by omega) (by decide) dL_988 dL_989 dL_990 dL_991 dL_992 ?_
  refine g_arg (k := 2) C0 hS hl (by omega) (by decide) dL_993 dL_994 dL_995 dL_996 dL_997 ?_
  refine g_arg (k := 3) C0 hS hl (by omega) (by decide) dL_998 dL_999 dL_1000 dL_1001 dL_1002 ?_
  refine g_arg (k := 4) C0 hS hl (by omega) (by decide) dL_1003 dL_1004 dL_1005 dL_1006 dL_1007 ?_
  refine g_arg (k := 5) C0 hS hl (by omega) (by decide) dL_1008 dL_1009 dL_1010 dL_1011 dL_1012 ?_
  refine w_mi (n := 5) (As := [.int (xs (6 * t + 1)), .int (xs (6 * t + 2)), .int (xs (6 * t + 3)), .int (xs (6 * t + 4)), .int (xs (6 * t + 5))]) (rest := [.int v]) C0 hw hn ha hS (fun sz => tX12_game l D cy mad hn.m sz (xs (6 * t + 1)) (xs (6 * t + 2)) (xs (6 * t + 3)) (xs (6 * t + 4)) (xs (6 * t + 5)) mm v mm' e2) (gV k_1689 k_1690 k_1691 k_14 k_1692) qX12_game ⟨Nat.le_of_ble_eq_true rfl, Nat.le_of_ble_eq_true rfl⟩ hcs rfl hl.1 rfl (Nat.le_of_ble_eq_true rfl) dL_1013 (fun H locs hw hS => ?_)
  refine lv_icmp_eq (tgt := 1416) hx hb dL_1016 (by decide) (fun _ => ?_) (fun hc => absurd rfl hc)
  refine W.widen (k := cells + 30) (n := slots + 500) (by omega) (by omega) ?_
  exact kk fz ad c' mm' i0 i1 H locs rfl ⟨hw, hn, ha, hS, hR, hi0.f hF, hi1.f hF⟩
set_option maxHeartbeats 1000000 in
theorem lc_26 {p : Program} {l : Launch} {e : Env} {s : State} {m : MethodId} {below : List Frame} {meth : Method} {cd : Code} {H : Heap} {locs : List Loc} {cells slots : Nat} {Q : State → Prop} {D : va_G} {cy : Nat → ClassId} {b L : Nat} {xs : Nat → Int32} {t : Nat} {ls : Array Slot} {fz : List FP} {ad mad : Nat → Nat} {c mm : St} {i0 i1 : IM} (C0 : LC p s m meth cd D cy b L xs) (I : LI D cy s fz ad c mad mm i0 i1 H locs) (ht : 6 * t + 6 ≤ L) (hl : lv_has ls 4 [(0, .ref b), (1, .ref (ad 99)), (2, .ref (mad 100)), (3, .int (nI (6 * t)))]) (hcs : cells ≤ 500000 ∧ slots ≤ 7000000) (kk : LK p l e s m below meth cd cells slots Q D cy b ls ad mad) : W p l e room_1 s m #[Value.ref b] below meth cd H locs cells slots Q (F0 m 1021 ls []) := by
  have hx := C0.1.1.1
  have hb := C0.1.1.2.1
  obtain ⟨hw, hn, ha, hS, hRR, hi0, hi1⟩ := I
  obtain ⟨v, c', mm', e1, e2, hR, hF⟩ := siege_call (xs (6 * t + 1)) (xs (6 * t + 2)) (xs (6 * t + 3)) hRR
  refine lv_aload_n hx hb dL_1021 rfl (lv_at hl 1 rfl) ?_
  refine g_arg (k := 1) C0 hS hl (by omega) (by decide) dL_1022 dL_1023 dL_1024 dL_1025 dL_1026 ?_
  refine g_arg (k := 2) C0 hS hl (by omega) (by decide) dL_1027 dL_1028 dL_1029 dL_1030 dL_1031 ?_
  refine g_arg (k := 3) C0 hS hl (by omega) (by decide) dL_1032 dL_1033 dL_1034 dL_1035 dL_1036 ?_
  refine w_ci (n := 3) (As := [.int (xs (6 * t + 1)), .int (xs (6 * t + 2)), .int (xs (6 * t + 3))]) (rest := []) C0 hw hn ha hS (fun sz => tX11_siege l D cy ad fz hn.c sz (xs (6 * t + 1)) (xs (6 * t + 2)) (xs (6 * t + 3)) c v c' e1) (gV k_971 k_972 k_973 k_1 k_974) qX11_siege ⟨Nat.le_of_ble_eq_true rfl, Nat.le_of_ble_eq_true rfl⟩ hcs rfl hl.1 rfl (Nat.le_of_ble_eq_true rfl) dL_1037 (fun H locs hw hS => ?_)
  refine lv_aload_n hx hb dL_1040 rfl (lv_at hl 2 rfl) ?_
  refine g_arg (k := 1) C0 hS hl (by omega) (by decide) dL_1041 dL_1042 dL_1043 dL_1044 dL_1045 ?_
  refine g_arg (k := 2) C0 hS hl (by omega) (by decide) dL_1046 dL_1047 dL_1048 dL_1049 dL_1050 ?_
  refine g_arg (k := 3) C0 hS hl (by omega) (by decide) dL_1051 dL_1052 dL_1053 dL_1054 dL_1055 ?_
  refine w_mi (n := 3) (As := [.int (xs (6 * t + 1)), .int (xs (6 * t + 2)), .int (xs (6 * t + 3))]) (rest := [.int v]) C0 hw hn ha hS (fun sz => tX12_siege l D cy mad hn.m sz (xs (6 * t + 1)) (xs (6 * t + 2)) (xs (6 * t + 3)) mm v mm' e2) (gV k_1700 k_1701 k_1702 k_14 k_1703) qX12_siege ⟨Nat.le_of_ble_eq_true rfl, Nat.le_of_ble_eq_true rfl⟩ hcs rfl hl.1 rfl (Nat.le_of_ble_eq_true rfl) dL_1056 (fun H locs hw hS => ?_)
  refine lv_icmp_eq (tgt := 1416) hx hb dL_1059 (by decide) (fun _ => ?_) (fun hc => absurd rfl hc)
  refine W.widen (k := cells + 30) (n := slots + 500) (by omega) (by omega) ?_
  exact kk fz ad c' mm' i0 i1 H locs rfl ⟨hw, hn, ha, hS, hR, hi0.f hF, hi1.f hF⟩
set_option maxHeartbeats 1000000 in
theorem lc_27 {p : Program} {l : Launch} {e : Env} {s : State} {m : MethodId} {below : List Frame} {meth : Method} {cd : Code} {H : Heap} {locs : List Loc} {cells slots : Nat} {Q : State → Prop} {D : va_G} {cy : Nat → ClassId} {b L : Nat} {xs : Nat → Int32} {t : Nat} {ls : Array Slot} {fz : List FP} {ad mad : Nat → Nat} {c mm : St} {i0 i1 : IM} (C0 : LC p s m meth cd D cy b L xs) (I : LI D cy s fz ad c mad mm i0 i1 H locs) (ht : 6 * t + 6 ≤ L) (hl : lv_has ls 4 [(0, .ref b), (1, .ref (ad 99)), (2, .ref (mad 100)), (3, .int (nI (6 * t)))]) (hcs : cells ≤ 500000 ∧ slots ≤ 7000000) (kk : LK p l e s m below meth cd cells slots Q D cy b ls ad mad) : W p l e room_1 s m #[Value.ref b] below meth cd H locs cells slots Q (F0 m 1064 ls []) := by
  have hx := C0.1.1.1
  have hb := C0.1.1.2.1
  obtain ⟨hw, hn, ha, hS, hRR, hi0, hi1⟩ := I
  obtain ⟨v, c', mm', e1, e2, hR, hF⟩ := career_call (xs (6 * t + 1)) (xs (6 * t + 2)) hRR
  refine lv_aload_n hx hb dL_1064 rfl (lv_at hl 1 rfl) ?_
  refine g_arg (k := 1) C0 hS hl (by omega) (by decide) dL_1065 dL_1066 dL_1067 dL_1068 dL_1069 ?_
  refine g_arg (k := 2) C0 hS hl (by omega) (by decide) dL_1070 dL_1071 dL_1072 dL_1073 dL_1074 ?_
  refine w_ci (n := 2) (As := [.int (xs (6 * t + 1)), .int (xs (6 * t + 2))]) (rest := []) C0 hw hn ha hS (fun sz => tX11_career l D cy ad fz hn.c sz (xs (6 * t + 1)) (xs (6 * t + 2)) c v c' e1) (gV k_979 k_980 k_981 k_1 k_982) qX11_career ⟨Nat.le_of_ble_eq_true rfl, Nat.le_of_ble_eq_true rfl⟩ hcs rfl hl.1 rfl (Nat.le_of_ble_eq_true rfl) dL_1075 (fun H locs hw hS => ?_)
  refine lv_aload_n hx hb dL_1078 rfl (lv_at hl 2 rfl) ?_
  refine g_arg (k := 1) C0 hS hl (by omega) (by decide) dL_1079 dL_1080 dL_1081 dL_1082 dL_1083 ?_
  refine g_arg (k := 2) C0 hS hl (by omega) (by decide) dL_1084 dL_1085 dL_1086 dL_1087 dL_1088 ?_
  refine w_mi (n := 2) (As := [.int (xs (6 * t + 1)), .int (xs (6 * t + 2))]) (rest := [.int v]) C0 hw hn ha hS (fun sz => tX12_career l D cy mad hn.m sz (xs (6 * t + 1)) (xs (6 * t + 2)) mm v mm' e2) (gV k_1704 k_1705 k_1706 k_14 k_1707) qX12_career ⟨Nat.le_of_ble_eq_true rfl, Nat.le_of_ble_eq_true rfl⟩ hcs rfl hl.1 rfl (Nat.le_of_ble_eq_true rfl) dL_1089 (fun H locs hw hS => ?_)
  refine lv_icmp_eq (tgt := 1416) hx hb dL_1092 (by decide) (fun _ => ?_) (fun hc => absurd rfl hc)
  refine W.widen (k := cells + 30) (n := slots + 500) (by omega) (by omega) ?_
  exact kk fz ad c' mm' i0 i1 H locs rfl ⟨hw, hn, ha, hS, hR, hi0.f hF, hi1.f hF⟩
set_option maxHeartbeats 1000000 in
theorem lc_28 {p : Program} {l : Launch} {e : Env} {s : State} {m : MethodId} {below : List Frame} {meth : Method} {cd : Code} {H : Heap} {locs : List Loc} {cells slots : Nat} {Q : State → Prop} {D : va_G} {cy : Nat → ClassId} {b L : Nat} {xs : Nat → Int32} {t : Nat} {ls : Array Slot} {fz : List FP} {ad mad : Nat → Nat} {c mm : St} {i0 i1 : IM} (C0 : LC p s m meth cd D cy b L xs) (I : LI D cy s fz ad c mad mm i0 i1 H locs) (ht : 6 * t + 6 ≤ L) (hl : lv_has ls 4 [(0, .ref b), (1, .ref (ad 99)), (2, .ref (mad 100)), (3, .int (nI (6 * t)))]) (hcs : cells ≤ 500000 ∧ slots ≤ 7000000) (kk : LK p l e s m below meth cd cells slots Q D cy b ls ad mad) : W p l e room_1 s m #[Value.ref b] below meth cd H locs cells slots Q (F0 m 1097 ls []) := by
  have hx := C0.1.1.1
  have hb := C0.1.1.2.1
  obtain ⟨hw, hn, ha, hS, hRR, hi0, hi1⟩ := I
  obtain ⟨v, c', mm', e1, e2, hR, hF⟩ := fire_call (xs (6 * t + 1)) hRR
  refine lv_aload_n hx hb dL_1097 rfl (lv_at hl 1 rfl) ?_
  refine g_arg (k := 1) C0 hS hl (by omega) (by decide) dL_1098 dL_1099 dL_1100 dL_1101 dL_1102 ?_
  refine w_ci (n := 1) (As := [.int (xs (6 * t + 1))]) (rest := []) C0 hw hn ha hS (fun sz => tX11_fire l D cy ad fz hn.c sz (xs (6 * t + 1)) c v c' e1) (gV k_1003 k_1004 k_1005 k_1 k_1006) qX11_fire ⟨Nat.le_of_ble_eq_true rfl, Nat.le_of_ble_eq_true rfl⟩ hcs rfl hl.1 rfl (Nat.le_of_ble_eq_true rfl) dL_1103 (fun H locs hw hS => ?_)
  refine lv_aload_n hx hb dL_1106 rfl (lv_at hl 2 rfl) ?_
  refine g_arg (k := 1) C0 hS hl (by omega) (by decide) dL_1107 dL_1108 dL_1109 dL_1110 dL_1111 ?_
  refine w_mi (n := 1) (As := [.int (xs (6 * t + 1))]) (rest := [.int v]) C0 hw hn ha hS (fun sz => tX12_fire l D cy mad hn.m sz (xs (6 * t + 1)) mm v mm' e2) (gV k_1716 k_1717 k_1718 k_14 k_1719) qX12_fire ⟨Nat.le_of_ble_eq_true rfl, Nat.le_of_ble_eq_true rfl⟩ hcs rfl hl.1 rfl (Nat.le_of_ble_eq_true rfl) dL_1112 (fun H locs hw hS => ?_)
  refine lv_icmp_eq (tgt := 1416) hx hb dL_1115 (by decide) (fun _ => ?_) (fun hc => absurd rfl hc)
  refine W.widen (k := cells + 30) (n := slots + 500) (by omega) (by omega) ?_
  exact kk fz ad c' mm' i0 i1 H locs rfl ⟨hw, hn, ha, hS, hR, hi0.f hF, hi1.f hF⟩
set_option maxHeartbeats 1000000 in
theorem lc_29 {p : Program} {l : Launch} {e : Env} {s : State} {m : MethodId} {below : List Frame} {meth : Method} {cd : Code} {H : Heap} {locs : List Loc} {cells slots : Nat} {Q : State → Prop} {D : va_G} {cy : Nat → ClassId} {b L : Nat} {xs : Nat → Int32} {t : Nat} {ls : Array Slot} {fz : List FP} {ad mad : Nat → Nat} {c mm : St} {i0 i1 : IM} (C0 : LC p s m meth cd D cy b L xs) (I : LI D cy s fz ad c mad mm i0 i1 H locs) (ht : 6 * t + 6 ≤ L) (hl : lv_has ls 4 [(0, .ref b), (1, .ref (ad 99)), (2, .ref (mad 100)), (3, .int (nI (6 * t)))]) (hcs : cells ≤ 500000 ∧ slots ≤ 7000000) (kk : LK p l e s m below meth cd cells slots Q D cy b ls ad mad) : W p l e room_1 s m #[Value.ref b] below meth cd H locs cells slots Q (F0 m 1120 ls []) := by
  have hx := C0.1.1.1
  have hb := C0.1.1.2.1
  obtain ⟨hw, hn, ha, hS, hRR, hi0, hi1⟩ := I
  obtain ⟨v, c', mm', e1, e2, hR, hF⟩ := needs_call (xs (6 * t + 1)) (xs (6 * t + 2)) hRR
  refine lv_aload_n hx hb dL_1120 rfl (lv_at hl 1 rfl) ?_
  refine g_arg (k := 1) C0 hS hl (by omega) (by decide) dL_1121 dL_1122 dL_1123 dL_1124 dL_1125 ?_
  refine g_arg (k := 2) C0 hS hl (by omega) (by decide) dL_1126 dL_1127 dL_1128 dL_1129 dL_1130 ?_
  refine w_ci (n := 2) (As := [.int (xs (6 * t + 1)), .int (xs (6 * t + 2))]) (rest := []) C0 hw hn ha hS (fun sz => tX11_needs l D cy ad fz hn.c sz (xs (6 * t + 1)) (xs (6 * t + 2)) c v c' e1) (gV k_1011 k_1012 k_1013 k_1 k_1014) qX11_needs ⟨Nat.le_of_ble_eq_true rfl, Nat.le_of_ble_eq_true rfl⟩ hcs rfl hl.1 rfl (Nat.le_of_ble_eq_true rfl) dL_1131 (fun H locs hw hS => ?_)
  refine lv_aload_n hx hb dL_1134 rfl (lv_at hl 2 rfl) ?_
  refine g_arg (k := 1) C0 hS hl (by omega) (by decide) dL_1135 dL_1136 dL_1137 dL_1138 dL_1139 ?_
  refine g_arg (k := 2) C0 hS hl (by omega) (by decide) dL_1140 dL_1141 dL_1142 dL_1143 dL_1144 ?_
  refine w_mi (n := 2) (As := [.int (xs (6 * t + 1)), .int (xs (6 * t + 2))]) (rest := [.int v]) C0 hw hn ha hS (fun sz => tX12_needs l D cy mad hn.m sz (xs (6 * t + 1)) (xs (6 * t + 2)) mm v mm' e2) (gV k_1721 k_1722 k_1723 k_14 k_1724) qX12_needs ⟨Nat.le_of_ble_eq_true rfl, Nat.le_of_ble_eq_true rfl⟩ hcs rfl hl.1 rfl (Nat.le_of_ble_eq_true rfl) dL_1145 (fun H locs hw hS => ?_)
  refine lv_icmp_eq (tgt := 1416) hx hb dL_1148 (by decide) (fun _ => ?_) (fun hc => absurd rfl hc)
  refine W.widen (k := cells + 30) (n := slots + 500) (by omega) (by omega) ?_
  exact kk fz ad c' mm' i0 i1 H locs rfl ⟨hw, hn, ha, hS, hR, hi0.f hF, hi1.f hF⟩
