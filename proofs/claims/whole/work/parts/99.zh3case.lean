set_option maxHeartbeats 1000000 in
theorem lc_30 {p : Program} {l : Launch} {e : Env} {s : State} {m : MethodId} {below : List Frame} {meth : Method} {cd : Code} {H : Heap} {locs : List Loc} {cells slots : Nat} {Q : State → Prop} {D : va_G} {cy : Nat → ClassId} {b L : Nat} {xs : Nat → Int32} {t : Nat} {ls : Array Slot} {fz : List FP} {ad mad : Nat → Nat} {c mm : St} {i0 i1 : IM} (C0 : LC p s m meth cd D cy b L xs) (I : LI D cy s fz ad c mad mm i0 i1 H locs) (ht : 6 * t + 6 ≤ L) (hl : lv_has ls 4 [(0, .ref b), (1, .ref (ad 99)), (2, .ref (mad 100)), (3, .int (nI (6 * t)))]) (hcs : cells ≤ 500000 ∧ slots ≤ 7000000) (kk : LK p l e s m below meth cd cells slots Q D cy b ls ad mad) : W p l e room_1 s m #[Value.ref b] below meth cd H locs cells slots Q (F0 m 1153 ls []) := by
  have hx := C0.1.1.1
  have hb := C0.1.1.2.1
  obtain ⟨hw, hn, ha, hS, hRR, hi0, hi1⟩ := I
  obtain ⟨v, c', mm', e1, e2, hR, hF⟩ := enough_call (xs (6 * t + 1)) hRR
  refine lv_aload_n hx hb dL_1153 rfl (lv_at hl 1 rfl) ?_
  refine g_arg (k := 1) C0 hS hl (by omega) (by decide) dL_1154 dL_1155 dL_1156 dL_1157 dL_1158 ?_
  refine w_ci (n := 1) (As := [.int (xs (6 * t + 1))]) (rest := []) C0 hw hn ha hS (fun sz => tX11_enough l D cy ad fz hn.c sz (xs (6 * t + 1)) c v c' e1) (gV k_1015 k_1016 k_1017 k_1 k_1018) qX11_enough ⟨Nat.le_of_ble_eq_true rfl, Nat.le_of_ble_eq_true rfl⟩ hcs rfl hl.1 rfl (Nat.le_of_ble_eq_true rfl) dL_1159 (fun H locs hw hS => ?_)
  refine lv_aload_n hx hb dL_1162 rfl (lv_at hl 2 rfl) ?_
  refine g_arg (k := 1) C0 hS hl (by omega) (by decide) dL_1163 dL_1164 dL_1165 dL_1166 dL_1167 ?_
  refine w_mi (n := 1) (As := [.int (xs (6 * t + 1))]) (rest := [.int v]) C0 hw hn ha hS (fun sz => tX12_enough l D cy mad hn.m sz (xs (6 * t + 1)) mm v mm' e2) (gV k_1725 k_1726 k_1727 k_14 k_1728) qX12_enough ⟨Nat.le_of_ble_eq_true rfl, Nat.le_of_ble_eq_true rfl⟩ hcs rfl hl.1 rfl (Nat.le_of_ble_eq_true rfl) dL_1168 (fun H locs hw hS => ?_)
  refine lv_icmp_eq (tgt := 1416) hx hb dL_1171 (by decide) (fun _ => ?_) (fun hc => absurd rfl hc)
  refine W.widen (k := cells + 30) (n := slots + 500) (by omega) (by omega) ?_
  exact kk fz ad c' mm' i0 i1 H locs rfl ⟨hw, hn, ha, hS, hR, hi0.f hF, hi1.f hF⟩
set_option maxHeartbeats 1000000 in
theorem lc_31 {p : Program} {l : Launch} {e : Env} {s : State} {m : MethodId} {below : List Frame} {meth : Method} {cd : Code} {H : Heap} {locs : List Loc} {cells slots : Nat} {Q : State → Prop} {D : va_G} {cy : Nat → ClassId} {b L : Nat} {xs : Nat → Int32} {t : Nat} {ls : Array Slot} {fz : List FP} {ad mad : Nat → Nat} {c mm : St} {i0 i1 : IM} (C0 : LC p s m meth cd D cy b L xs) (I : LI D cy s fz ad c mad mm i0 i1 H locs) (ht : 6 * t + 6 ≤ L) (hl : lv_has ls 4 [(0, .ref b), (1, .ref (ad 99)), (2, .ref (mad 100)), (3, .int (nI (6 * t)))]) (hcs : cells ≤ 500000 ∧ slots ≤ 7000000) (kk : LK p l e s m below meth cd cells slots Q D cy b ls ad mad) : W p l e room_1 s m #[Value.ref b] below meth cd H locs cells slots Q (F0 m 1176 ls []) := by
  have hx := C0.1.1.1
  have hb := C0.1.1.2.1
  obtain ⟨hw, hn, ha, hS, hRR, hi0, hi1⟩ := I
  obtain ⟨v, c', mm', e1, e2, hR, hF⟩ := counted_call (xs (6 * t + 1)) (xs (6 * t + 2)) hRR
  refine lv_aload_n hx hb dL_1176 rfl (lv_at hl 1 rfl) ?_
  refine g_arg (k := 1) C0 hS hl (by omega) (by decide) dL_1177 dL_1178 dL_1179 dL_1180 dL_1181 ?_
  refine g_arg (k := 2) C0 hS hl (by omega) (by decide) dL_1182 dL_1183 dL_1184 dL_1185 dL_1186 ?_
  refine w_ci (n := 2) (As := [.int (xs (6 * t + 1)), .int (xs (6 * t + 2))]) (rest := []) C0 hw hn ha hS (fun sz => tX11_counted l D cy ad fz hn.c sz (xs (6 * t + 1)) (xs (6 * t + 2)) c v c' e1) (gV k_1034 k_1035 k_1036 k_1 k_1037) qX11_counted ⟨Nat.le_of_ble_eq_true rfl, Nat.le_of_ble_eq_true rfl⟩ hcs rfl hl.1 rfl (Nat.le_of_ble_eq_true rfl) dL_1187 (fun H locs hw hS => ?_)
  refine lv_aload_n hx hb dL_1190 rfl (lv_at hl 2 rfl) ?_
  refine g_arg (k := 1) C0 hS hl (by omega) (by decide) dL_1191 dL_1192 dL_1193 dL_1194 dL_1195 ?_
  refine g_arg (k := 2) C0 hS hl (by omega) (by decide) dL_1196 dL_1197 dL_1198 dL_1199 dL_1200 ?_
  refine w_mi (n := 2) (As := [.int (xs (6 * t + 1)), .int (xs (6 * t + 2))]) (rest := [.int v]) C0 hw hn ha hS (fun sz => tX12_counted l D cy mad hn.m sz (xs (6 * t + 1)) (xs (6 * t + 2)) mm v mm' e2) (gV k_1736 k_1737 k_1738 k_14 k_1739) qX12_counted ⟨Nat.le_of_ble_eq_true rfl, Nat.le_of_ble_eq_true rfl⟩ hcs rfl hl.1 rfl (Nat.le_of_ble_eq_true rfl) dL_1201 (fun H locs hw hS => ?_)
  refine lv_icmp_eq (tgt := 1416) hx hb dL_1204 (by decide) (fun _ => ?_) (fun hc => absurd rfl hc)
  refine W.widen (k := cells + 30) (n := slots + 500) (by omega) (by omega) ?_
  exact kk fz ad c' mm' i0 i1 H locs rfl ⟨hw, hn, ha, hS, hR, hi0.f hF, hi1.f hF⟩
set_option maxHeartbeats 1000000 in
theorem lc_32 {p : Program} {l : Launch} {e : Env} {s : State} {m : MethodId} {below : List Frame} {meth : Method} {cd : Code} {H : Heap} {locs : List Loc} {cells slots : Nat} {Q : State → Prop} {D : va_G} {cy : Nat → ClassId} {b L : Nat} {xs : Nat → Int32} {t : Nat} {ls : Array Slot} {fz : List FP} {ad mad : Nat → Nat} {c mm : St} {i0 i1 : IM} (C0 : LC p s m meth cd D cy b L xs) (I : LI D cy s fz ad c mad mm i0 i1 H locs) (ht : 6 * t + 6 ≤ L) (hl : lv_has ls 4 [(0, .ref b), (1, .ref (ad 99)), (2, .ref (mad 100)), (3, .int (nI (6 * t)))]) (hcs : cells ≤ 500000 ∧ slots ≤ 7000000) (kk : LK p l e s m below meth cd cells slots Q D cy b ls ad mad) : W p l e room_1 s m #[Value.ref b] below meth cd H locs cells slots Q (F0 m 1209 ls []) := by
  have hx := C0.1.1.1
  have hb := C0.1.1.2.1
  obtain ⟨hw, hn, ha, hS, hRR, hi0, hi1⟩ := I
  obtain ⟨v, c', mm', e1, e2, hR, hF⟩ := forget_call hRR
  refine lv_aload_n hx hb dL_1209 rfl (lv_at hl 1 rfl) ?_
  refine w_ci (n := 0) (As := []) (rest := []) C0 hw hn ha hS (fun sz => tX11_forget l D cy ad fz hn.c sz c v c' e1) (gV k_1042 k_1043 k_1044 k_1 k_1045) qX11_forget ⟨Nat.le_of_ble_eq_true rfl, Nat.le_of_ble_eq_true rfl⟩ hcs rfl hl.1 rfl (Nat.le_of_ble_eq_true rfl) dL_1210 (fun H locs hw hS => ?_)
  refine lv_aload_n hx hb dL_1213 rfl (lv_at hl 2 rfl) ?_
  refine w_mi (n := 0) (As := []) (rest := [.int v]) C0 hw hn ha hS (fun sz => tX12_forget l D cy mad hn.m sz mm v mm' e2) (gV k_1740 k_1741 k_1742 k_14 k_1743) qX12_forget ⟨Nat.le_of_ble_eq_true rfl, Nat.le_of_ble_eq_true rfl⟩ hcs rfl hl.1 rfl (Nat.le_of_ble_eq_true rfl) dL_1214 (fun H locs hw hS => ?_)
  refine lv_icmp_eq (tgt := 1416) hx hb dL_1217 (by decide) (fun _ => ?_) (fun hc => absurd rfl hc)
  refine W.widen (k := cells + 30) (n := slots + 500) (by omega) (by omega) ?_
  exact kk fz ad c' mm' i0 i1 H locs rfl ⟨hw, hn, ha, hS, hR, hi0.f hF, hi1.f hF⟩
set_option maxHeartbeats 1000000 in
theorem lc_33 {p : Program} {l : Launch} {e : Env} {s : State} {m : MethodId} {below : List Frame} {meth : Method} {cd : Code} {H : Heap} {locs : List Loc} {cells slots : Nat} {Q : State → Prop} {D : va_G} {cy : Nat → ClassId} {b L : Nat} {xs : Nat → Int32} {t : Nat} {ls : Array Slot} {fz : List FP} {ad mad : Nat → Nat} {c mm : St} {i0 i1 : IM} (C0 : LC p s m meth cd D cy b L xs) (I : LI D cy s fz ad c mad mm i0 i1 H locs) (ht : 6 * t + 6 ≤ L) (hl : lv_has ls 4 [(0, .ref b), (1, .ref (ad 99)), (2, .ref (mad 100)), (3, .int (nI (6 * t)))]) (hcs : cells ≤ 500000 ∧ slots ≤ 7000000) (kk : LK p l e s m below meth cd cells slots Q D cy b ls ad mad) : W p l e room_1 s m #[Value.ref b] below meth cd H locs cells slots Q (F0 m 1222 ls []) := by
  have hx := C0.1.1.1
  have hb := C0.1.1.2.1
  obtain ⟨hw, hn, ha, hS, hRR, hi0, hi1⟩ := I
  obtain ⟨v, c', mm', e1, e2, hR, hF⟩ := fits_call (xs (6 * t + 1)) hRR
  refine lv_aload_n hx hb dL_1222 rfl (lv_at hl 1 rfl) ?_
  refine g_arg (k := 1) C0 hS hl (by omega) (by decide) dL_1223 dL_1224 dL_1225 dL_1226 dL_1227 ?_
  refine w_ci (n := 1) (As := [.int (xs (6 * t + 1))]) (rest := []) C0 hw hn ha hS (fun sz => tX11_fits l D cy ad fz hn.c sz (xs (6 * t + 1)) c v c' e1) (gV k_1051 k_1052 k_1053 k_1 k_1054) qX11_fits ⟨Nat.le_of_ble_eq_true rfl, Nat.le_of_ble_eq_true rfl⟩ hcs rfl hl.1 rfl (Nat.le_of_ble_eq_true rfl) dL_1228 (fun H locs hw hS => ?_)
  refine lv_aload_n hx hb dL_1231 rfl (lv_at hl 2 rfl) ?_
  refine g_arg (k := 1) C0 hS hl (by omega) (by decide) dL_1232 dL_1233 dL_1234 dL_1235 dL_1236 ?_
  refine w_mi (n := 1) (As := [.int (xs (6 * t + 1))]) (rest := [.int v]) C0 hw hn ha hS (fun sz => tX12_fits l D cy mad hn.m sz (xs (6 * t + 1)) mm v mm' e2) (gV k_1744 k_1745 k_1746 k_14 k_1747) qX12_fits ⟨Nat.le_of_ble_eq_true rfl, Nat.le_of_ble_eq_true rfl⟩ hcs rfl hl.1 rfl (Nat.le_of_ble_eq_true rfl) dL_1237 (fun H locs hw hS => ?_)
  refine lv_icmp_eq (tgt := 1416) hx hb dL_1240 (by decide) (fun _ => ?_) (fun hc => absurd rfl hc)
  refine W.widen (k := cells + 30) (n := slots + 500) (by omega) (by omega) ?_
  exact kk fz ad c' mm' i0 i1 H locs rfl ⟨hw, hn, ha, hS, hR, hi0.f hF, hi1.f hF⟩
set_option maxHeartbeats 1000000 in
theorem lc_34 {p : Program} {l : Launch} {e : Env} {s : State} {m : MethodId} {below : List Frame} {meth : Method} {cd : Code} {H : Heap} {locs : List Loc} {cells slots : Nat} {Q : State → Prop} {D : va_G} {cy : Nat → ClassId} {b L : Nat} {xs : Nat → Int32} {t : Nat} {ls : Array Slot} {fz : List FP} {ad mad : Nat → Nat} {c mm : St} {i0 i1 : IM} (C0 : LC p s m meth cd D cy b L xs) (I : LI D cy s fz ad c mad mm i0 i1 H locs) (ht : 6 * t + 6 ≤ L) (hl : lv_has ls 4 [(0, .ref b), (1, .ref (ad 99)), (2, .ref (mad 100)), (3, .int (nI (6 * t)))]) (hcs : cells ≤ 500000 ∧ slots ≤ 7000000) (kk : LK p l e s m below meth cd cells slots Q D cy b ls ad mad) : W p l e room_1 s m #[Value.ref b] below meth cd H locs cells slots Q (F0 m 1245 ls []) := by
  have hx := C0.1.1.1
  have hb := C0.1.1.2.1
  obtain ⟨hw, hn, ha, hS, hRR, hi0, hi1⟩ := I
  obtain ⟨v, c', mm', e1, e2, hR, hF⟩ := next_call (xs (6 * t + 1)) hRR
  refine lv_aload_n hx hb dL_1245 rfl (lv_at hl 1 rfl) ?_
  refine g_arg (k := 1) C0 hS hl (by omega) (by decide) dL_1246 dL_1247 dL_1248 dL_1249 dL_1250 ?_
  refine w_ci (n := 1) (As := [.int (xs (6 * t + 1))]) (rest := []) C0 hw hn ha hS (fun sz => tX11_next l D cy ad fz hn.c sz (xs (6 * t + 1)) c v c' e1) (gV k_1068 k_1069 k_1070 k_1 k_1071) qX11_next ⟨Nat.le_of_ble_eq_true rfl, Nat.le_of_ble_eq_true rfl⟩ hcs rfl hl.1 rfl (Nat.le_of_ble_eq_true rfl) dL_1251 (fun H locs hw hS => ?_)
  refine lv_aload_n hx hb dL_1254 rfl (lv_at hl 2 rfl) ?_
  refine g_arg (k := 1) C0 hS hl (by omega) (by decide) dL_1255 dL_1256 dL_1257 dL_1258 dL_1259 ?_
  refine w_mi (n := 1) (As := [.int (xs (6 * t + 1))]) (rest := [.int v]) C0 hw hn ha hS (fun sz => tX12_next l D cy mad hn.m sz (xs (6 * t + 1)) mm v mm' e2) (gV k_1752 k_1753 k_1754 k_14 k_1755) qX12_next ⟨Nat.le_of_ble_eq_true rfl, Nat.le_of_ble_eq_true rfl⟩ hcs rfl hl.1 rfl (Nat.le_of_ble_eq_true rfl) dL_1260 (fun H locs hw hS => ?_)
  refine lv_icmp_eq (tgt := 1416) hx hb dL_1263 (by decide) (fun _ => ?_) (fun hc => absurd rfl hc)
  refine W.widen (k := cells + 30) (n := slots + 500) (by omega) (by omega) ?_
  exact kk fz ad c' mm' i0 i1 H locs rfl ⟨hw, hn, ha, hS, hR, hi0.f hF, hi1.f hF⟩
set_option maxHeartbeats 1000000 in
theorem lc_35 {p : Program} {l : Launch} {e : Env} {s : State} {m : MethodId} {below : List Frame} {meth : Method} {cd : Code} {H : Heap} {locs : List Loc} {cells slots : Nat} {Q : State → Prop} {D : va_G} {cy : Nat → ClassId} {b L : Nat} {xs : Nat → Int32} {t : Nat} {ls : Array Slot} {fz : List FP} {ad mad : Nat → Nat} {c mm : St} {i0 i1 : IM} (C0 : LC p s m meth cd D cy b L xs) (I : LI D cy s fz ad c mad mm i0 i1 H locs) (ht : 6 * t + 6 ≤ L) (hl : lv_has ls 4 [(0, .ref b), (1, .ref (ad 99)), (2, .ref (mad 100)), (3, .int (nI (6 * t)))]) (hcs : cells ≤ 500000 ∧ slots ≤ 7000000) (kk : LK p l e s m below meth cd cells slots Q D cy b ls ad mad) : W p l e room_1 s m #[Value.ref b] below meth cd H locs cells slots Q (F0 m 1268 ls []) := by
  have hx := C0.1.1.1
  have hb := C0.1.1.2.1
  obtain ⟨hw, hn, ha, hS, hRR, hi0, hi1⟩ := I
  obtain ⟨v, c', mm', e1, e2, hR, hF⟩ := sieges_call (xs (6 * t + 1)) (xs (6 * t + 2)) hRR
  refine lv_aload_n hx hb dL_1268 rfl (lv_at hl 1 rfl) ?_
  refine g_arg (k := 1) C0 hS hl (by omega) (by decide) dL_1269 dL_1270 dL_1271 dL_1272 dL_1273 ?_
  refine g_arg (k := 2) C0 hS hl (by omega) (by decide) dL_1274 dL_1275 dL_1276 dL_1277 dL_1278 ?_
  refine w_ci (n := 2) (As := [.int (xs (6 * t + 1)), .int (xs (6 * t + 2))]) (rest := []) C0 hw hn ha hS (fun sz => tX11_sieges l D cy ad fz hn.c sz (xs (6 * t + 1)) (xs (6 * t + 2)) c v c' e1) (gV k_1081 k_1082 k_1083 k_1 k_1084) qX11_sieges ⟨Nat.le_of_ble_eq_true rfl, Nat.le_of_ble_eq_true rfl⟩ hcs rfl hl.1 rfl (Nat.le_of_ble_eq_true rfl) dL_1279 (fun H locs hw hS => ?_)
  refine lv_aload_n hx hb dL_1282 rfl (lv_at hl 2 rfl) ?_
  refine g_arg (k := 1) C0 hS hl (by omega) (by decide) dL_1283 dL_1284 dL_1285 dL_1286 dL_1287 ?_
  refine g_arg (k := 2) C0 hS hl (by omega) (by decide) dL_1288 dL_1289 dL_1290 dL_1291 dL_1292 ?_
  refine w_mi (n := 2) (As := [.int (xs (6 * t + 1)), .int (xs (6 * t + 2))]) (rest := [.int v]) C0 hw hn ha hS (fun sz => tX12_sieges l D cy mad hn.m sz (xs (6 * t + 1)) (xs (6 * t + 2)) mm v mm' e2) (gV k_1792 k_1793 k_1794 k_14 k_1795) qX12_sieges ⟨Nat.le_of_ble_eq_true rfl, Nat.le_of_ble_eq_true rfl⟩ hcs rfl hl.1 rfl (Nat.le_of_ble_eq_true rfl) dL_1293 (fun H locs hw hS => ?_)
  refine lv_icmp_eq (tgt := 1416) hx hb dL_1296 (by decide) (fun _ => ?_) (fun hc => absurd rfl hc)
  refine W.widen (k := cells + 30) (n := slots + 500) (by omega) (by omega) ?_
  exact kk fz ad c' mm' i0 i1 H locs rfl ⟨hw, hn, ha, hS, hR, hi0.f hF, hi1.f hF⟩
set_option maxHeartbeats 1000000 in
theorem lc_36 {p : Program} {l : Launch} {e : Env} {s : State} {m : MethodId} {below : List Frame} {meth : Method} {cd : Code} {H : Heap} {locs : List Loc} {cells slots : Nat} {Q : State → Prop} {D : va_G} {cy : Nat → ClassId} {b L : Nat} {xs : Nat → Int32} {t : Nat} {ls : Array Slot} {fz : List FP} {ad mad : Nat → Nat} {c mm : St} {i0 i1 : IM} (C0 : LC p s m meth cd D cy b L xs) (I : LI D cy s fz ad c mad mm i0 i1 H locs) (ht : 6 * t + 6 ≤ L) (hl : lv_has ls 4 [(0, .ref b), (1, .ref (ad 99)), (2, .ref (mad 100)), (3, .int (nI (6 * t)))]) (hcs : cells ≤ 500000 ∧ slots ≤ 7000000) (kk : LK p l e s m below meth cd cells slots Q D cy b ls ad mad) : W p l e room_1 s m #[Value.ref b] below meth cd H locs cells slots Q (F0 m 1301 ls []) := by
  have hx := C0.1.1.1
  have hb := C0.1.1.2.1
  obtain ⟨hw, hn, ha, hS, hRR, hi0, hi1⟩ := I
  obtain ⟨v, c', mm', e1, e2, hR, hF⟩ := drawn_call (xs (6 * t + 1)) (xs (6 * t + 2)) hRR
  refine lv_aload_n hx hb dL_1301 rfl (lv_at hl 1 rfl) ?_
  refine g_arg (k := 1) C0 hS hl (by omega) (by decide) dL_1302 dL_1303 dL_1304 dL_1305 dL_1306 ?_
  refine g_arg (k := 2) C0 hS hl (by omega) (by decide) dL_1307 dL_1308 dL_1309 dL_1310 dL_1311 ?_
  refine w_ci (n := 2) (As := [.int (xs (6 * t + 1)), .int (xs (6 * t + 2))]) (rest := []) C0 hw hn ha hS (fun sz => tX11_drawn l D cy ad fz hn.c sz (xs (6 * t + 1)) (xs (6 * t + 2)) c v c' e1) (gV k_1106 k_1107 k_1108 k_1 k_1109) qX11_drawn ⟨Nat.le_of_ble_eq_true rfl, Nat.le_of_ble_eq_true rfl⟩ hcs rfl hl.1 rfl (Nat.le_of_ble_eq_true rfl) dL_1312 (fun H locs hw hS => ?_)
  refine lv_aload_n hx hb dL_1315 rfl (lv_at hl 2 rfl) ?_
  refine g_arg (k := 1) C0 hS hl (by omega) (by decide) dL_1316 dL_1317 dL_1318 dL_1319 dL_1320 ?_
  refine g_arg (k := 2) C0 hS hl (by omega) (by decide) dL_1321 dL_1322 dL_1323 dL_1324 dL_1325 ?_
  refine w_mi (n := 2) (As := [.int (xs (6 * t + 1)), .int (xs (6 * t + 2))]) (rest := [.int v]) C0 hw hn ha hS (fun sz => tX12_drawn l D cy mad hn.m sz (xs (6 * t + 1)) (xs (6 * t + 2)) mm v mm' e2) (gV k_1804 k_1805 k_1806 k_14 k_1807) qX12_drawn ⟨Nat.le_of_ble_eq_true rfl, Nat.le_of_ble_eq_true rfl⟩ hcs rfl hl.1 rfl (Nat.le_of_ble_eq_true rfl) dL_1326 (fun H locs hw hS => ?_)
  refine lv_icmp_eq (tgt := 1416) hx hb dL_1329 (by decide) (fun _ => ?_) (fun hc => absurd rfl hc)
  refine W.widen (k := cells + 30) (n := slots + 500) (by omega) (by omega) ?_
  exact kk fz ad c' mm' i0 i1 H locs rfl ⟨hw, hn, ha, hS, hR, hi0.f hF, hi1.f hF⟩
set_option maxHeartbeats 1000000 in
theorem lc_39 {p : Program} {l : Launch} {e : Env} {s : State} {m : MethodId} {below : List Frame} {meth : Method} {cd : Code} {H : Heap} {locs : List Loc} {cells slots : Nat} {Q : State → Prop} {D : va_G} {cy : Nat → ClassId} {b L : Nat} {xs : Nat → Int32} {t : Nat} {ls : Array Slot} {fz : List FP} {ad mad : Nat → Nat} {c mm : St} {i0 i1 : IM} (C0 : LC p s m meth cd D cy b L xs) (I : LI D cy s fz ad c mad mm i0 i1 H locs) (ht : 6 * t + 6 ≤ L) (hl : lv_has ls 4 [(0, .ref b), (1, .ref (ad 99)), (2, .ref (mad 100)), (3, .int (nI (6 * t)))]) (hcs : cells ≤ 500000 ∧ slots ≤ 7000000) (kk : LK p l e s m below meth cd cells slots Q D cy b ls ad mad) : W p l e room_1 s m #[Value.ref b] below meth cd H locs cells slots Q (F0 m 1380 ls []) := by
  have hx := C0.1.1.1
  have hb := C0.1.1.2.1
  obtain ⟨hw, hn, ha, hS, hRR, hi0, hi1⟩ := I
  obtain ⟨v, c', mm', e1, e2, hR, hF⟩ := count_call (xs (6 * t + 1)) hRR
  refine lv_aload_n hx hb dL_1380 rfl (lv_at hl 1 rfl) ?_
  refine g_arg (k := 1) C0 hS hl (by omega) (by decide) dL_1381 dL_1382 dL_1383 dL_1384 dL_1385 ?_
  refine w_ci (n := 1) (As := [.int (xs (6 * t + 1))]) (rest := []) C0 hw hn ha hS (fun sz => tX11_count l D cy ad fz hn.c sz (xs (6 * t + 1)) c v c' e1) (gV k_1134 k_1135 k_1136 k_1 k_1137) qX11_count ⟨Nat.le_of_ble_eq_true rfl, Nat.le_of_ble_eq_true rfl⟩ hcs rfl hl.1 rfl (Nat.le_of_ble_eq_true rfl) dL_1386 (fun H locs hw hS => ?_)
  refine lv_aload_n hx hb dL_1389 rfl (lv_at hl 2 rfl) ?_
  refine g_arg (k := 1) C0 hS hl (by omega) (by decide) dL_1390 dL_1391 dL_1392 dL_1393 dL_1394 ?_
  refine w_mi (n := 1) (As := [.int (xs (6 * t + 1))]) (rest := [.int v]) C0 hw hn ha hS (fun sz => tX12_count l D cy mad hn.m sz (xs (6 * t + 1)) mm v mm' e2) (gV k_1808 k_1809 k_1810 k_14 k_1811) qX12_count ⟨Nat.le_of_ble_eq_true rfl, Nat.le_of_ble_eq_true rfl⟩ hcs rfl hl.1 rfl (Nat.le_of_ble_eq_true rfl) dL_1395 (fun H locs hw hS => ?_)
  refine lv_icmp_eq (tgt := 1416) hx hb dL_1398 (by decide) (fun _ => ?_) (fun hc => absurd rfl hc)
  refine W.widen (k := cells + 30) (n := slots + 500) (by omega) (by omega) ?_
  exact kk fz ad c' mm' i0 i1 H locs rfl ⟨hw, hn, ha, hS, hR, hi0.f hF, hi1.f hF⟩
set_option maxHeartbeats 1000000 in
theorem lc_40 {p : Program} {l : Launch} {e : Env} {s : State} {m : MethodId} {below : List Frame} {meth : Method} {cd : Code} {H : Heap} {locs : List Loc} {cells slots : Nat} {Q : State → Prop} {D : va_G} {cy : Nat → ClassId} {b L : Nat} {xs : Nat → Int32} {t : Nat} {ls : Array Slot} {fz : List FP} {ad mad : Nat → Nat} {c mm : St} {i0 i1 : IM} (C0 : LC p s m meth cd D cy b L xs) (I : LI D cy s fz ad c mad mm i0 i1 H locs) (ht : 6 * t + 6 ≤ L) (hl : lv_has ls 4 [(0, .ref b), (1, .ref (ad 99)), (2, .ref (mad 100)), (3, .int (nI (6 * t)))]) (hcs : cells ≤ 500000 ∧ slots ≤ 7000000) (kk : LK p l e s m below meth cd cells slots Q D cy b ls ad mad) : W p l e room_1 s m #[Value.ref b] below meth cd H locs cells slots Q (F0 m 1403 ls []) := by
  have hx := C0.1.1.1
  have hb := C0.1.1.2.1
  obtain ⟨hw, hn, ha, hS, hRR, hi0, hi1⟩ := I
  obtain ⟨v, c', mm', e1, e2, hR, hF⟩ := status_call hRR
  refine lv_aload_n hx hb dL_1403 rfl (lv_at hl 1 rfl) ?_
  refine w_ci (n := 0) (As := []) (rest := []) C0 hw hn ha hS (fun sz => tX11_status l D cy ad fz hn.c sz c v c' e1) (gV k_1142 k_1143 k_1144 k_1 k_1145) qX11_status ⟨Nat.le_of_ble_eq_true rfl, Nat.le_of_ble_eq_true rfl⟩ hcs rfl hl.1 rfl (Nat.le_of_ble_eq_true rfl) dL_1404 (fun H locs hw hS => ?_)
  refine lv_aload_n hx hb dL_1407 rfl (lv_at hl 2 rfl) ?_
  refine w_mi (n := 0) (As := []) (rest := [.int v]) C0 hw hn ha hS (fun sz => tX12_status l D cy mad hn.m sz mm v mm' e2) (gV k_1819 k_1820 k_1821 k_14 k_1822) qX12_status ⟨Nat.le_of_ble_eq_true rfl, Nat.le_of_ble_eq_true rfl⟩ hcs rfl hl.1 rfl (Nat.le_of_ble_eq_true rfl) dL_1408 (fun H locs hw hS => ?_)
  refine lv_icmp_eq (tgt := 1416) hx hb dL_1411 (by decide) (fun _ => ?_) (fun hc => absurd rfl hc)
  refine W.widen (k := cells + 30) (n := slots + 500) (by omega) (by omega) ?_
  exact kk fz ad c' mm' i0 i1 H locs rfl ⟨hw, hn, ha, hS, hR, hi0.f hF, hi1.f hF⟩
