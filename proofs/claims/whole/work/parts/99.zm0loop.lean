/-! T1, the loop of the law -/
set_option maxHeartbeats 4000000 in
set_option maxRecDepth 100000 in
theorem w_loop {p : Program} {l : Launch} {e : Env} {s : State} {m : MethodId} {below : List Frame} {meth : Method} {cd : Code} {D : va_G} {cy : Nat → ClassId} {b L : Nat} {xs : Nat → Int32} (C0 : LC p s m meth cd D cy b L xs) : ∀ (n t : Nat), L + 6 ≤ 6 * (t + n) → (t = 0 ∨ 6 * t ≤ L) → ∀ (fz : List FP) (ad mad : Nat → Nat) (c mm : St) (i0 i1 : IM) (H : Heap) (locs : List Loc) (ls : Array Slot), LI D cy s fz ad c mad mm i0 i1 H locs → lv_has ls 4 [(0, .ref b), (1, .ref (ad 99)), (2, .ref (mad 100)), (3, .int (nI (6 * t)))] → W p l e room_1 s m #[Value.ref b] below meth cd H locs (100 + 30 * t) (24000 + 500 * t) (lw_Z below #[Value.ref b] s) (F0 m 18 ls []) := by
  have C1 := C0
  obtain ⟨E, hX, hbl, hL, -, -, -, hr, hlocks⟩ := C1
  have hx := E.1.1
  have hb := E.1.2.1
  have hbA : ¬ (fun q : Nat => s.heap.size ≤ q) b := Nat.not_le.mpr hbl
  intro n
  induction n with
  | zero =>
    intro t h1 h2
    exact absurd h1 (by omega)
  | succ n ih =>
    intro t h1 h2 fz ad mad c mm i0 i1 H locs ls I hl
    have hS := I.2.2.2.1
    refine lv_iload_n hx hb dL_18 rfl (lv_at hl 3 rfl) ?_
    refine lv_aload_n hx hb dL_19 rfl (lv_at hl 0 rfl) ?_
    refine va_slen hx hb hX hbl hbA hS dL_20 ?_
    refine lv_bipush (v := 6) hx hb dL_21 (by decide) ?_
    refine lv_isub hx hb dL_23 ?_
    have hcmp : (Int32.ofNat L - 6 < nI (6 * t)) ↔ L < 6 * t + 6 := by
      have e1 : (Int32.ofNat L - 6).toInt = (L : Int) - 6 := by
        have e3 : (Int32.ofNat L).toInt = (L : Int) := oN_ti (by omega)
        have e4 : (6 : Int32).toInt = 6 := by decide
        rw [Int32.toInt_sub, e3, e4, Int.bmod_eq_of_le (by omega) (by omega)]
      have e2 : (nI (6 * t)).toInt = ((6 * t : Nat) : Int) := oN_ti (by omega)
      rw [Int32.lt_iff_toInt_lt, e1, e2]
      omega
    refine lv_icmp_gt (tgt := 1422) hx hb dL_24 (by decide) (fun hc => ?_) (fun hc => ?_)
    · refine lv_iconst (v := 1) hx hb dL_1422 (by decide) ?_
      refine va_forget (fun q hq => hS.2.2 q hq) ?_
      refine W.widen (k := 600000) (n := 7302250) (by omega) (by omega) ?_
      exact lw_ret hx hb hr hlocks dL_1423
    · have ht : 6 * t + 6 ≤ L := by
        rcases Nat.lt_or_ge L (6 * t + 6) with q | q
        · exact absurd (hcmp.mpr q) hc
        · exact q
      have hcs : 100 + 30 * t ≤ 400000 ∧ 24000 + 500 * t ≤ 6000000 := ⟨by omega, by omega⟩
      have hcs' : 100 + 30 * t ≤ 500000 ∧ 24000 + 500 * t ≤ 7000000 := ⟨by omega, by omega⟩
      have kk : LK p l e s m below meth cd (100 + 30 * t) (24000 + 500 * t) (lw_Z below #[Value.ref b] s) D cy b ls ad mad := by
        intro fz' ad' c' mm' i0' i1' H' locs' h99 I'
        refine lv_iinc (v := nI (6 * (t + 1))) (lv' := [(3, .int (nI (6 * (t + 1)))), (0, .ref b), (1, .ref (ad 99)), (2, .ref (mad 100))]) hx hb dL_1416 hl (k := 3) rfl (by
          show Int32.ofNat (6 * t) + Int32.ofNat 6 = Int32.ofNat (6 * (t + 1))
          rw [oN_add]; rfl) (by decide) rfl (fun ls hl => ?_)
        refine lv_goto (tgt := 18) hx hb dL_1419 (by decide) ?_
        rw [show 100 + 30 * t + 30 = 100 + 30 * (t + 1) by omega, show 24000 + 500 * t + 500 = 24000 + 500 * (t + 1) by omega]
        refine ih (t + 1) (by omega) (Or.inr (by omega)) fz' ad' mad c' mm' i0' i1' H' locs' ls I' ?_
        rw [h99]
        exact lv_sub hl [1, 2, 3, 0] rfl
      refine lv_aload_n hx hb dL_27 rfl (lv_at hl 0 rfl) ?_
      refine lv_iload_n hx hb dL_28 rfl (lv_at hl 3 rfl) ?_
      refine va_sld hx hb hX hbl hbA hS (vp_in_nI (show 6 * t < L by omega) (by omega)) dL_29 ?_
      refine lv_bipush (v := 63) hx hb dL_30 (by decide) ?_
      refine lv_iand hx hb dL_32 ?_
      generalize (xs (nI (6 * t)).toNatClampNeg) &&& (63 : Int32) = v
      by_cases hq0 : v = 0
      · rw [hq0]
        refine lv_tableIn (tgt := 212) hx hb dL_33 (by decide) (by decide) rfl (by decide) ?_
        exact lc_0 C0 I ht hl hcs' kk
      by_cases hq1 : v = 1
      · rw [hq1]
        refine lv_tableIn (tgt := 245) hx hb dL_33 (by decide) (by decide) rfl (by decide) ?_
        exact lc_1 C0 I ht hl hcs' kk
      by_cases hq2 : v = 2
      · rw [hq2]
        refine lv_tableIn (tgt := 278) hx hb dL_33 (by decide) (by decide) rfl (by decide) ?_
        exact lc_2 C0 I ht hl hcs' kk
      by_cases hq3 : v = 3
      · rw [hq3]
        refine lv_tableIn (tgt := 321) hx hb dL_33 (by decide) (by decide) rfl (by decide) ?_
        exact lc_3 C0 I ht hl hcs' kk
      by_cases hq4 : v = 4
      · rw [hq4]
        refine lv_tableIn (tgt := 364) hx hb dL_33 (by decide) (by decide) rfl (by decide) ?_
        exact lc_4 C0 I ht hl hcs' kk
      by_cases hq5 : v = 5
      · rw [hq5]
        refine lv_tableIn (tgt := 397) hx hb dL_33 (by decide) (by decide) rfl (by decide) ?_
        exact lc_5 C0 I ht hl hcs' kk
      by_cases hq6 : v = 6
      · rw [hq6]
        refine lv_tableIn (tgt := 440) hx hb dL_33 (by decide) (by decide) rfl (by decide) ?_
        exact lc_6 C0 I ht hl hcs' kk
      by_cases hq7 : v = 7
      · rw [hq7]
        refine lv_tableIn (tgt := 473) hx hb dL_33 (by decide) (by decide) rfl (by decide) ?_
        exact lc_7 C0 I ht hl hcs' kk
      by_cases hq8 : v = 8
      · rw [hq8]
        refine lv_tableIn (tgt := 536) hx hb dL_33 (by decide) (by decide) rfl (by decide) ?_
        exact lc_8 C0 I ht hl hcs' kk
      by_cases hq9 : v = 9
      · rw [hq9]
        refine lv_tableIn (tgt := 559) hx hb dL_33 (by decide) (by decide) rfl (by decide) ?_
        exact lc_9 C0 I ht hl hcs' kk
      by_cases hq10 : v = 10
      · rw [hq10]
        refine lv_tableIn (tgt := 572) hx hb dL_33 (by decide) (by decide) rfl (by decide) ?_
        exact lc_10 C0 I ht hl hcs' kk
      by_cases hq11 : v = 11
      · rw [hq11]
        refine lv_tableIn (tgt := 585) hx hb dL_33 (by decide) (by decide) rfl (by decide) ?_
        exact lc_11 C0 I ht hl hcs kk
      by_cases hq12 : v = 12
      · rw [hq12]
        refine lv_tableIn (tgt := 598) hx hb dL_33 (by decide) (by decide) rfl (by decide) ?_
        exact lc_12 C0 I ht hl hcs' kk
      by_cases hq13 : v = 13
      · rw [hq13]
        refine lv_tableIn (tgt := 611) hx hb dL_33 (by decide) (by decide) rfl (by decide) ?_
        exact lc_13 C0 I ht hl hcs' kk
      by_cases hq14 : v = 14
      · rw [hq14]
        refine lv_tableIn (tgt := 624) hx hb dL_33 (by decide) (by decide) rfl (by decide) ?_
        exact lc_14 C0 I ht hl hcs' kk
      by_cases hq15 : v = 15
      · rw [hq15]
        refine lv_tableIn (tgt := 637) hx hb dL_33 (by decide) (by decide) rfl (by decide) ?_
        exact lc_15 C0 I ht hl hcs' kk
      by_cases hq16 : v = 16
      · rw [hq16]
        refine lv_tableIn (tgt := 660) hx hb dL_33 (by decide) (by decide) rfl (by decide) ?_
        exact lc_16 C0 I ht hl hcs' kk
      by_cases hq17 : v = 17
      · rw [hq17]
        refine lv_tableIn (tgt := 693) hx hb dL_33 (by decide) (by decide) rfl (by decide) ?_
        exact lc_17 C0 I ht hl hcs' kk
      by_cases hq18 : v = 18
      · rw [hq18]
        refine lv_tableIn (tgt := 726) hx hb dL_33 (by decide) (by decide) rfl (by decide) ?_
        exact lc_18 C0 I ht hl hcs' kk
      by_cases hq19 : v = 19
      · rw [hq19]
        refine lv_tableIn (tgt := 759) hx hb dL_33 (by decide) (by decide) rfl (by decide) ?_
        exact lc_19 C0 I ht hl hcs' kk
      by_cases hq20 : v = 20
      · rw [hq20]
        refine lv_tableIn (tgt := 792) hx hb dL_33 (by decide) (by decide) rfl (by decide) ?_
        exact lc_20 C0 I ht hl hcs' kk
      by_cases hq21 : v = 21
      · rw [hq21]
        refine lv_tableIn (tgt := 805) hx hb dL_33 (by decide) (by decide) rfl (by decide) ?_
        exact lc_21 C0 I ht hl hcs' kk
      by_cases hq22 : v = 22
      · rw [hq22]
        refine lv_tableIn (tgt := 848) hx hb dL_33 (by decide) (by decide) rfl (by decide) ?_
        exact lc_22 C0 I ht hl hcs' kk
      by_cases hq23 : v = 23
      · rw [hq23]
        refine lv_tableIn (tgt := 881) hx hb dL_33 (by decide) (by decide) rfl (by decide) ?_
        exact lc_23 C0 I ht hl hcs' kk
      by_cases hq24 : v = 24
      · rw [hq24]
        refine lv_tableIn (tgt := 915) hx hb dL_33 (by decide) (by decide) rfl (by decide) ?_
        exact lc_24 C0 I ht hl hcs' kk
      by_cases hq25 : v = 25
      · rw [hq25]
        refine lv_tableIn (tgt := 958) hx hb dL_33 (by decide) (by decide) rfl (by decide) ?_
        exact lc_25 C0 I ht hl hcs' kk
      by_cases hq26 : v = 26
      · rw [hq26]
        refine lv_tableIn (tgt := 1021) hx hb dL_33 (by decide) (by decide) rfl (by decide) ?_
        exact lc_26 C0 I ht hl hcs' kk
      by_cases hq27 : v = 27
      · rw [hq27]
        refine lv_tableIn (tgt := 1064) hx hb dL_33 (by decide) (by decide) rfl (by decide) ?_
        exact lc_27 C0 I ht hl hcs' kk
      by_cases hq28 : v = 28
      · rw [hq28]
        refine lv_tableIn (tgt := 1097) hx hb dL_33 (by decide) (by decide) rfl (by decide) ?_
        exact lc_28 C0 I ht hl hcs' kk
      by_cases hq29 : v = 29
      · rw [hq29]
        refine lv_tableIn (tgt := 1120) hx hb dL_33 (by decide) (by decide) rfl (by decide) ?_
        exact lc_29 C0 I ht hl hcs' kk
      by_cases hq30 : v = 30
      · rw [hq30]
        refine lv_tableIn (tgt := 1153) hx hb dL_33 (by decide) (by decide) rfl (by decide) ?_
        exact lc_30 C0 I ht hl hcs' kk
      by_cases hq31 : v = 31
      · rw [hq31]
        refine lv_tableIn (tgt := 1176) hx hb dL_33 (by decide) (by decide) rfl (by decide) ?_
        exact lc_31 C0 I ht hl hcs' kk
      by_cases hq32 : v = 32
      · rw [hq32]
        refine lv_tableIn (tgt := 1209) hx hb dL_33 (by decide) (by decide) rfl (by decide) ?_
        exact lc_32 C0 I ht hl hcs' kk
      by_cases hq33 : v = 33
      · rw [hq33]
        refine lv_tableIn (tgt := 1222) hx hb dL_33 (by decide) (by decide) rfl (by decide) ?_
        exact lc_33 C0 I ht hl hcs' kk
      by_cases hq34 : v = 34
      · rw [hq34]
        refine lv_tableIn (tgt := 1245) hx hb dL_33 (by decide) (by decide) rfl (by decide) ?_
        exact lc_34 C0 I ht hl hcs' kk
      by_cases hq35 : v = 35
      · rw [hq35]
        refine lv_tableIn (tgt := 1268) hx hb dL_33 (by decide) (by decide) rfl (by decide) ?_
        exact lc_35 C0 I ht hl hcs' kk
      by_cases hq36 : v = 36
      · rw [hq36]
        refine lv_tableIn (tgt := 1301) hx hb dL_33 (by decide) (by decide) rfl (by decide) ?_
        exact lc_36 C0 I ht hl hcs' kk
      by_cases hq37 : v = 37
      · rw [hq37]
        refine lv_tableIn (tgt := 1334) hx hb dL_33 (by decide) (by decide) rfl (by decide) ?_
        exact lc_37 C0 I ht hl hcs kk
      by_cases hq38 : v = 38
      · rw [hq38]
        refine lv_tableIn (tgt := 1357) hx hb dL_33 (by decide) (by decide) rfl (by decide) ?_
        exact lc_38 C0 I ht hl hcs kk
      by_cases hq39 : v = 39
      · rw [hq39]
        refine lv_tableIn (tgt := 1380) hx hb dL_33 (by decide) (by decide) rfl (by decide) ?_
        exact lc_39 C0 I ht hl hcs' kk
      by_cases hq40 : v = 40
      · rw [hq40]
        refine lv_tableIn (tgt := 1403) hx hb dL_33 (by decide) (by decide) rfl (by decide) ?_
        exact lc_40 C0 I ht hl hcs' kk
      refine lv_tableOut (tgt := 1416) hx hb dL_33 (tb_out (lo := 0) (hi := 40) (fun k h1 h2 he => ?_)) (by decide) ?_
      · have h3 : k = 0 ∨ k = 1 ∨ k = 2 ∨ k = 3 ∨ k = 4 ∨ k = 5 ∨ k = 6 ∨ k = 7 ∨ k = 8 ∨ k = 9 ∨ k = 10 ∨ k = 11 ∨ k = 12 ∨ k = 13 ∨ k = 14 ∨ k = 15 ∨ k = 16 ∨ k = 17 ∨ k = 18 ∨ k = 19 ∨ k = 20 ∨ k = 21 ∨ k = 22 ∨ k = 23 ∨ k = 24 ∨ k = 25 ∨ k = 26 ∨ k = 27 ∨ k = 28 ∨ k = 29 ∨ k = 30 ∨ k = 31 ∨ k = 32 ∨ k = 33 ∨ k = 34 ∨ k = 35 ∨ k = 36 ∨ k = 37 ∨ k = 38 ∨ k = 39 ∨ k = 40 := by omega
        rcases h3 with rfl | rfl | rfl | rfl | rfl | rfl | rfl | rfl | rfl | rfl | rfl | rfl | rfl | rfl | rfl | rfl | rfl | rfl | rfl | rfl | rfl | rfl | rfl | rfl | rfl | rfl | rfl | rfl | rfl | rfl | rfl | rfl | rfl | rfl | rfl | rfl | rfl | rfl | rfl | rfl | rfl
        · exact hq0 he
        · exact hq1 he
        · exact hq2 he
        · exact hq3 he
        · exact hq4 he
        · exact hq5 he
        · exact hq6 he
        · exact hq7 he
        · exact hq8 he
        · exact hq9 he
        · exact hq10 he
        · exact hq11 he
        · exact hq12 he
        · exact hq13 he
        · exact hq14 he
        · exact hq15 he
        · exact hq16 he
        · exact hq17 he
        · exact hq18 he
        · exact hq19 he
        · exact hq20 he
        · exact hq21 he
        · exact hq22 he
        · exact hq23 he
        · exact hq24 he
        · exact hq25 he
        · exact hq26 he
        · exact hq27 he
        · exact hq28 he
        · exact hq29 he
        · exact hq30 he
        · exact hq31 he
        · exact hq32 he
        · exact hq33 he
        · exact hq34 he
        · exact hq35 he
        · exact hq36 he
        · exact hq37 he
        · exact hq38 he
        · exact hq39 he
        · exact hq40 he
      · refine W.widen (k := 100 + 30 * t + 30) (n := 24000 + 500 * t + 500) (by omega) (by omega) ?_
        exact kk fz ad c mm i0 i1 H locs rfl I
