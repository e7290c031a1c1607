/-! T1, image and back where there is no image yet -/
theorem in01 {k : Nat} (hk : k ≤ 1) : fX11_within (Int32.ofNat k) 0 1 = some 1 := by
  rw [c_within, if_pos ⟨oN_nn (by omega), (oN_le (b := 1) (by omega) (by decide)).mpr hk⟩]
theorem vin2 {k : Nat} (hk : k ≤ 1) : vp_in (Int32.ofNat k) 2 := vp_in_nI (by omega) (by decide)
set_option maxHeartbeats 4000000 in
set_option maxRecDepth 100000 in
theorem tX11_backN (l : Launch) (D : va_G) (cy : Nat → ClassId) (ad : Nat → Nat) (fz : List FP) (hJ : (cads ad fz).Nodup) (sz : Nat) (k : Nat) (hk : k ≤ 1) (st : St) (hq : st.2.2.2.2 1 k = none) (rr : Int32) (st' : St) (hf : bd (fX11_refuse (-2 : Int32) fz st) (fun r2 st3 => some (r2, st3)) = some (rr, st')) : Met l yX11_back (Cond.code yX11_back cX11_back 2 (some .int) :: TT) (rmD 2) (cPc D cy ad fz [.ref (ad 99), .int (Int32.ofNat k)] st sz) (cQi D cy ad fz rr st' sz) 0 0 (cA ad fz sz) := by
  refine c_meti (by decide) hJ (Nat.le_of_ble_eq_true rfl) (fun p e s m args below meth c ls E hx hb hr hlocks hown hT hD hN hl hP hS => ?_)
  replace hl : lv_has ls 2 [(0, .ref (ad 99)), (1, .int (Int32.ofNat k))] := hl
  refine lv_iload_n hx hb dX11_back_0 rfl (lv_at hl 1 rfl) ?_
  refine lv_iconst (v := 0) hx hb dX11_back_1 (by decide) ?_
  refine lv_iconst (v := 1) hx hb dX11_back_2 (by decide) ?_
  refine s_calli (n := 3) (rest := []) E.1 (tX11_within l _ (Int32.ofNat k) (0 : Int32) (1 : Int32) 1 (in01 hk)) (gS k_472 k_458 k_1 k_459) qX11_within ⟨Nat.le_of_ble_eq_true rfl, Nat.le_of_ble_eq_true rfl⟩ ⟨Nat.le_refl _, Nat.le_refl _⟩ rfl hl.1 rfl (Nat.le_of_ble_eq_true rfl) dX11_back_3 ?_
  refine lv_if_ne (tgt := 15) hx hb dX11_back_6 (by decide) (fun hc => ?_) (fun hc => absurd hc (by decide))
  refine lv_aload_n hx hb dX11_back_15 rfl (lv_at hl 0 rfl) ?_
  refine cg_11_16_0 E hP dX11_back_16 ?_
  refine lv_iload_n hx hb dX11_back_19 rfl (lv_at hl 1 rfl) ?_
  refine cl_1 E hP (vin2 hk) dX11_back_20 ?_
  rw [oN_tn (show k < 2147483648 by omega), hq]
  refine lv_ifnonnullN hx hb dX11_back_21 ?_
  refine lv_aload_n hx hb dX11_back_24 rfl (lv_at hl 0 rfl) ?_
  refine lv_bipush (v := -2) hx hb dX11_back_25 (by decide) ?_
  obtain ⟨r2, st3, hc, hf⟩ := bd_some hf
  refine c_calli (n := 1) (rest := []) E hN hP hS (fun sz => tX11_refuse l D cy ad fz hJ sz (-2 : Int32) st r2 st3 hc) (va_recv E.2 hP (ci := 11) (q0 := 0) rfl rfl) (gV k_468 k_470 ks_1 k_1 k_471) qX11_refuse ⟨Nat.le_of_ble_eq_true rfl, Nat.le_of_ble_eq_true rfl⟩ ⟨Nat.le_refl _, Nat.le_refl _⟩ rfl hl.1 rfl (Nat.le_of_ble_eq_true rfl) dX11_back_27 (fun H locs hP hS => ?_)
  exact c_iret hx hb hr hlocks hf hP hS dX11_back_30
theorem cx_app (cy : Nat → ClassId) (ad : Nat → Nat) (fz : List FP) (st : St) : cx cy ad fz st = cx cy ad [] st ++ fzW cy fz := rfl
theorem cxi_app (cy : Nat → ClassId) (ad : Nat → Nat) (fz : List FP) (st : St) : cxi cy ad fz st = cx cy ad [] st ++ (igw cy ad st ++ fzW cy fz) := rfl
theorem cads_app (ad : Nat → Nat) (fz : List FP) : cads ad fz = cads ad [] ++ fzA fz := rfl
theorem iads_app (ad : Nat → Nat) (fz : List FP) : iads ad fz = cads ad [] ++ (igads ad ++ fzA fz) := rfl
theorem igw_fst (cy : Nat → ClassId) (ad : Nat → Nat) (st : St) : (igw cy ad st).map Prod.fst = igads ad := rfl
theorem iads_mem {ad : Nat → Nat} {fz : List FP} {q : Nat} : q ∈ iads ad fz ↔ q ∈ cads ad fz ∨ q ∈ igads ad := by
  rw [iads_app, cads_app ad fz]
  simp only [List.mem_append]
  constructor
  · rintro (h | h | h)
    · exact Or.inl (Or.inl h)
    · exact Or.inr h
    · exact Or.inl (Or.inr h)
  · rintro ((h | h) | h)
    · exact Or.inl h
    · exact Or.inr (Or.inr h)
    · exact Or.inr (Or.inl h)
theorem iads_nd {ad : Nat → Nat} {fz : List FP} (h : (cads ad fz ++ igads ad).Nodup) : (iads ad fz).Nodup := by
  rw [iads_app]
  rw [cads_app ad fz, List.append_assoc] at h
  exact ((List.Perm.append_left (cads ad []) List.perm_append_comm).nodup_iff).mp h
theorem cxi_P {D : va_G} {cy : Nat → ClassId} {ad : Nat → Nat} {fz : List FP} {st : St} {H : Heap} (h1 : va_P D classes (cx cy ad fz st) H) (h2 : va_P D classes (igw cy ad st) H) : va_P D classes (cxi cy ad fz st) H := by
  refine P_of (P_app h1 h2) (fun q hq => ?_)
  rw [cxi_app] at hq
  rw [cx_app cy ad fz st]
  simp only [List.mem_append] at hq ⊢
  rcases hq with h | h | h
  · exact Or.inl (Or.inl h)
  · exact Or.inr h
  · exact Or.inl (Or.inr h)
theorem cxi_c {D : va_G} {cy : Nat → ClassId} {ad : Nat → Nat} {fz : List FP} {st : St} {H : Heap} (h : va_P D classes (cxi cy ad fz st) H) : va_P D classes (cx cy ad fz st) H ∧ va_P D classes (igw cy ad st) H := by
  rw [cxi_app] at h
  refine ⟨P_of h (fun q hq => ?_), P_of h (fun q hq => ?_)⟩
  · rw [cx_app] at hq
    simp only [List.mem_append] at hq ⊢
    rcases hq with h | h
    · exact Or.inl h
    · exact Or.inr (Or.inr h)
  · simp only [List.mem_append]
    exact Or.inr (Or.inl hq)
/-- a new land's addresses and state, beside the class's -/
def adN (ad : Nat → Nat) (h0 : Nat) (u : Nat → Nat) : Nat → Nat := fun q => if q < 1500 then ad q else if q = 1599 then h0 else if q = 1503 then u 16 else if q = 1504 then u 17 else if q = 1505 then u 18 else if q = 1506 then u 19 else if q = 1507 then u 20 else if q = 1699 then u 0 else if q = 1600 then u 1 else if q = 1601 then u 2 else if q = 1602 then u 3 else if q = 1603 then u 4 else if q = 1799 then u 5 else if q = 1700 then u 6 else if q = 1701 then u 7 else if q = 1702 then u 8 else if q = 1703 then u 9 else if q = 1704 then u 10 else if q = 1899 then u 11 else if q = 1800 then u 12 else if q = 1801 then u 13 else if q = 1802 then u 14 else u 15
def stN (st : St) : St := (fun q => if q < 1500 then st.1 q else if q = 1509 then 500 else if q = 1512 then -1 else 0, st.2.1, fun q => if q < 1500 then st.2.2.1 q else if q = 1603 then filled 0 4 50 (fun _ => 0) else if q = 1504 then filled 12 18 1 (filled 0 12 5 (fun _ => 0)) else fun _ => 0, st.2.2.2.1, fun q => if q < 1500 then st.2.2.2.2 q else fun _ => none)
theorem cx_N (cy : Nat → ClassId) (ad : Nat → Nat) (fz : List FP) (st : St) (h0 : Nat) (u : Nat → Nat) : cx cy (adN ad h0 u) fz (stN st) = cx cy ad fz st := rfl
theorem cads_N (ad : Nat → Nat) (fz : List FP) (h0 : Nat) (u : Nat → Nat) : cads (adN ad h0 u) fz = cads ad fz := rfl
abbrev igPl : List Nat := [0, 17, 18, 19, 20, 21, 1, 2, 3, 4, 5, 6, 7, 8, 9, 10, 11, 12, 13, 14, 15, 16]
theorem igw_N (cy : Nat → ClassId) (ad : Nat → Nat) (st : St) (h0 : Nat) (u : Nat → Nat) : igPl.filterMap (fun i => (wX6_init cy h0 u)[i]?) = igw cy (adN ad h0 u) (stN st) := rfl
theorem igw_N2 (cy : Nat → ClassId) (ad : Nat → Nat) (st : St) (h0 : Nat) (u : Nat → Nat) : igPl.map (fun i => (wX6_init cy h0 u)[i]?) = (igw cy (adN ad h0 u) (stN st)).map some := rfl
/-- what the call without an image makes of the state, ahead of the copying -/
def stI (st : St) (k h0 : Nat) : St := sR (stN st) 1 (va_up (st.2.2.2.2 1) k (some h0))
abbrev nPc (D : va_G) (cy : Nat → ClassId) (ad : Nat → Nat) (fz : List FP) (k : Nat) (st : St) (sz : Nat) : Array Value → State → Prop := va_Pc [.ref (ad 99), .int (Int32.ofNat k)] (fun U => U.heap.size = sz ∧ va_P D classes (cx cy ad fz st) U.heap ∧ va_K D classes (tys cy) U ∧ cN (cA ad fz sz) U U.heap ∧ xN U)
theorem n_blind {D : va_G} {cy : Nat → ClassId} {ad : Nat → Nat} {fz : List FP} {k : Nat} {st : St} {sz : Nat} : FrameBlind (nPc D cy ad fz k st sz) := fun a U g mk q => by
  refine ⟨q.1, q.2.1, q.2.2.1, va_K.moved (u := U) (U := U.calling g mk a) (Vm.Alike.refl U.vm) q.2.2.2.1, q.2.2.2.2.1.blind, fun w hw => ?_, q.2.2.2.2.2.2.1.moved (Vm.Alike.refl U.vm), q.2.2.2.2.2.2.2.moved (Vm.Alike.refl U.vm)⟩
  obtain ⟨a', i, x, h, rfl⟩ := nest_form w hw
  exact va_Nw.same rfl rfl (q.2.2.2.2.2.1 _ hw)
