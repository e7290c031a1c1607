/-! T2, one clause of orders: the class -/
def ordC (bc k hd a b tm c : Nat) (st : St) : Prop := st.2.2.1 600 k = Int32.ofNat hd ∧ st.2.2.1 601 k = Int32.ofNat tm ∧ st.2.2.1 602 (4 * k) = Int32.ofNat bc ∧ st.2.2.1 602 (4 * k + 1) = Int32.ofNat (bc + a) ∧ st.2.2.1 602 (4 * k + 2) = Int32.ofNat (bc + a + b) ∧ st.2.2.1 602 (4 * k + 3) = Int32.ofNat (bc + a + b + c)
theorem c_readOrder {B : Nat → Nat} {L T j n k bm : Nat} {C : Cd} {st : St} {fz : List FP} (h : Cp false B L T j n C st) (h5 : st.1 605 = Int32.ofNat k) (hk : k < 12) :
    (∀ x, sOrdC (tK B L) (tV B L) k bm C.length j n = .ok x → ∃ st1 st2, fX9_readOrderHead fz st = some (1, st1) ∧ fX9_readIf fz st1 = some (1, st2) ∧ Cp false B L T x.2.2.2.2.2.1 x.2.2.2.2.2.2.1 (C ++ x.2.1.2.2.2.1 ++ x.2.2.1.2.2.2.1 ++ x.2.2.2.2.2.2.2.2.1) st2 ∧ st2.1 605 = Int32.ofNat (k + 1) ∧ ordC C.length k x.1 x.2.1.2.2.2.1.length x.2.2.1.2.2.2.1.length x.2.2.2.1 x.2.2.2.2.2.2.2.2.1.length st2 ∧ (∀ q, q < k → st2.2.2.1 600 q = st.2.2.1 600 q ∧ st2.2.2.1 601 q = st.2.2.1 601 q) ∧ (∀ q, q < 4 * k → st2.2.2.1 602 q = st.2.2.1 602 q) ∧ HF st st2) ∧
    (∀ e, sOrdC (tK B L) (tV B L) k bm C.length j n = .error e → (∃ st1, fX9_readOrderHead fz st = some (0, st1) ∧ Ce B L T e st1 ∧ HF st st1) ∨ (∃ st1 st2, fX9_readOrderHead fz st = some (1, st1) ∧ fX9_readIf fz st1 = some (0, st2) ∧ Ce B L T e st2 ∧ HF st st2)) := by
  have hk3 := tK_le (L := L) (j := j) h.hB
  have ec : (304 ≤ Int32.ofNat (tK B L j) ∧ Int32.ofNat (tK B L j) ≤ 307) ↔ (304 ≤ tK B L j ∧ tK B L j ≤ 307) := by
    rw [show (304 : Int32) = Int32.ofNat 304 from rfl, show (307 : Int32) = Int32.ofNat 307 from rfl, oN_le (by omega) (by omega), oN_le (by omega) (by omega)]
  unfold sOrdC
  by_cases hh : ¬ (304 ≤ tK B L j ∧ tK B L j ≤ 307)
  · rw [if_pos (Or.inl hh)]
    refine ⟨fun x hx => (by cases hx), fun e he => ?_⟩
    cases he
    refine Or.inl ⟨st, ?_, h.err, HF.rf⟩
    unfold fX9_readOrderHead
    rw [lt_v, h.kind, c_within, bs_v, if_neg (fun q => hh (ec.mp q)), i00]
  replace hh := Decidable.not_not.mp hh
  rw [if_neg (show ¬ (¬ (304 ≤ tK B L j ∧ tK B L j ≤ 307) ∨ 12 ≤ k) by omega)]
  have hj3 : 308 ≤ jointO (tK B L j) ∧ jointO (tK B L j) ≤ 310 := by unfold jointO; split <;> (try split) <;> omega
  have e00 : fX9_readOrderHead fz st = fX9_readOrderHead_b49 fz (Int32.ofNat (tK B L j)) (Int32.ofNat (jointO (tK B L j))) st := by
    unfold fX9_readOrderHead jointO
    rw [lt_v, h.kind, c_within, bs_v, if_pos (ec.mpr hh), i10, show (307 : Int32) = Int32.ofNat 307 from rfl, show (306 : Int32) = Int32.ofNat 306 from rfl]
    by_cases e1 : tK B L j = 307
    · rw [if_eqT e1, if_pos e1]; rfl
    · rw [if_eqF e1 (by omega) (by omega), if_neg e1]
      by_cases e2 : tK B L j = 306
      · rw [if_eqT e2, if_pos e2]; rfl
      · rw [if_eqF e2 (by omega) (by omega), if_neg e2]; rfl
  obtain ⟨st1, o1, o2, o3, o4, o5, o6, o7, o8, o9⟩ := h.opens (fz := fz) (hd := tK B L j) h5 hk
  obtain ⟨st2, g1, g2, g3⟩ := o2.look (fz := fz) (by omega)
  have hF2 : HF st st2 := (o9.up (by decide) (by decide) (by decide)).tr (g3.up (by decide) (by decide) (by decide))
  have h52 : st2.1 605 = Int32.ofNat (k + 1) := by rw [g3.1 605 (by decide)]; exact o3
  rw [e00]
  unfold fX9_readOrderHead_b49 fX9_readOrderHead_b84
  rw [o1, bd_v, g1, bd_v]
  obtain ⟨p1, p2⟩ := (csim_ST (lw := false) (B := B) (L := L) (T := T) (fz := fz) 10).2 0 bm C.length (j + 1) n C st2 (by decide) (by decide) rfl g2
  have failP : ∀ e, sS false (tK B L) (tV B L) 10 0 bm C.length (j + 1) n = .error e → ∃ st3, rdS fz 10 0 st2 = some (0, st3) ∧ Ce B L T e st3 ∧ HF st st3 := by
    intro e he
    obtain ⟨st3, q1, q2, q3⟩ := p2 e he
    exact ⟨st3, q1, q2, hF2.tr q3.hf⟩
  -- the first sum is good: the joint
  have good1 : ∀ r1, sS false (tK B L) (tV B L) 10 0 bm C.length (j + 1) n = .ok r1 → ∃ st3, rdS fz 10 0 st2 = some (1, st3) ∧ Cp false B L T r1.1 r1.2.1 (C ++ r1.2.2.2.1) st3 ∧ CF st2 st3 := fun r1 hr1 => p1 r1 hr1
  -- behind the joint, up to "times"
  have good2 : ∀ (r1 : Re) (st3 : St), Cp false B L T r1.1 r1.2.1 (C ++ r1.2.2.2.1) st3 → CF st2 st3 → tK B L r1.1 = jointO (tK B L j) → ∃ st4 st5, fX9_passes (Int32.ofNat (jointO (tK B L j))) fz st3 = some (1, st4) ∧ fX8_begin 1 fz st4 = some ((), st5) ∧ Cp false B L T (r1.1 + 1) r1.2.1 (C ++ r1.2.2.2.1) st5 ∧ st5.1 605 = Int32.ofNat (k + 1) ∧ (∀ q, st5.2.2.1 602 q = if 4 * k + 1 ≤ q ∧ q < 4 * k + 4 then Int32.ofNat (C.length + r1.2.2.2.1.length) else st1.2.2.1 602 q) ∧ st5.2.2.1 600 = st1.2.2.1 600 ∧ st5.2.2.1 601 = st1.2.2.1 601 ∧ HF st st5 := by
    intro r1 st3 hC3 hF3 hjo
    obtain ⟨st4, q1, q2, q3⟩ := (hC3.passes (fz := fz) (c := jointO (tK B L j)) (by omega)).1 hjo (by omega)
    have h54 : st4.1 605 = Int32.ofNat (k + 1) := by rw [q3.1 605 (by decide), hF3.1 605 (by decide)]; exact h52
    obtain ⟨g, b1, b2⟩ := c_begin (fz := fz) (k := k) (c := (C ++ r1.2.2.2.1).length) (a := 1) (st := st4) hk (by omega) h54 q2.2.2.2.2.2.2.2.2.1.1
    have hf5 : fr [] [] [602] st4 (sA st4 602 g) := fr.sA (by decide)
    refine ⟨st4, sA st4 602 g, q1, b1, q2.keep hf5 (by decide) (by decide), h54, fun q => ?_, ?_, ?_, ((hF2.tr hF3.hf).tr (q3.up (by decide) (by decide) (by decide))).tr (hf5.up (by decide) (by decide) (by decide))⟩
    · show g q = _
      rw [b2 q, List.length_append, q3.2.2.1 602 (by decide), hF3.2.2.1 602 (by decide), g3.2.2.1 602 (by decide)]
    · rw [hf5.2.2.1 600 (by decide), q3.2.2.1 600 (by decide), hF3.2.2.1 600 (by decide), g3.2.2.1 600 (by decide)]
    · rw [hf5.2.2.1 601 (by decide), q3.2.2.1 601 (by decide), hF3.2.2.1 601 (by decide), g3.2.2.1 601 (by decide)]
  -- the last of the head, and the "if"
  have good3 : ∀ (r1 r2 : Re) (st5 st6 : St), Cp false B L T r2.1 r2.2.1 (C ++ r1.2.2.2.1 ++ r2.2.2.2.1) st6 → CF st5 st6 → st5.1 605 = Int32.ofNat (k + 1) → (∀ q, st5.2.2.1 602 q = if 4 * k + 1 ≤ q ∧ q < 4 * k + 4 then Int32.ofNat (C.length + r1.2.2.2.1.length) else st1.2.2.1 602 q) → st5.2.2.1 600 = st1.2.2.1 600 → st5.2.2.1 601 = st1.2.2.1 601 → HF st st5 →
      (∀ tm, sTimes (tK B L) (tV B L) r2.1 = .ok tm → ∃ st7, (bd (fX9_passes (311 : Int32) fz st6) (fun r13 st14 => if r13 = 0 then (some ((1 : Int32), st14)) else (bd (fX9_isNumber (1 : Int32) (20 : Int32) fz st14) (fun r15 st16 => if r15 = 0 then (some ((0 : Int32), st16)) else (bd (fX8_repeat (st16.1 706) fz st16) (fun r17 st18 => bd (fX9_lookAt ((st18.1 704) + (1 : Int32)) fz st18) (fun r19 st20 => some ((1 : Int32), st20)))))))) = some (1, st7) ∧
        (∀ t, sIf false (tK B L) (tV B L) bm C.length (both2 r1 r2 tm.2) = .ok t → ∃ st8, fX9_readIf fz st7 = some (1, st8) ∧ Cp false B L T t.2.1 t.2.2.1 (C ++ r1.2.2.2.1 ++ r2.2.2.2.1 ++ t.2.2.2.2.1) st8 ∧ st8.1 605 = Int32.ofNat (k + 1) ∧ ordC C.length k (tK B L j) r1.2.2.2.1.length r2.2.2.2.1.length tm.1 t.2.2.2.2.1.length st8 ∧ (∀ q, q < k → st8.2.2.1 600 q = st.2.2.1 600 q ∧ st8.2.2.1 601 q = st.2.2.1 601 q) ∧ (∀ q, q < 4 * k → st8.2.2.1 602 q = st.2.2.1 602 q) ∧ HF st st8) ∧
        (∀ e, sIf false (tK B L) (tV B L) bm C.length (both2 r1 r2 tm.2) = .error e → ∃ st8, fX9_readIf fz st7 = some (0, st8) ∧ Ce B L T e st8 ∧ HF st st8)) ∧
      (∀ e, sTimes (tK B L) (tV B L) r2.1 = .error e → ∃ st7, (bd (fX9_passes (311 : Int32) fz st6) (fun r13 st14 => if r13 = 0 then (some ((1 : Int32), st14)) else (bd (fX9_isNumber (1 : Int32) (20 : Int32) fz st14) (fun r15 st16 => if r15 = 0 then (some ((0 : Int32), st16)) else (bd (fX8_repeat (st16.1 706) fz st16) (fun r17 st18 => bd (fX9_lookAt ((st18.1 704) + (1 : Int32)) fz st18) (fun r19 st20 => some ((1 : Int32), st20)))))))) = some (0, st7) ∧ Ce B L T e st7 ∧ HF st st7) := by
    intro r1 r2 st5 st6 hC6 hF6 h55 h602 h600 h601 hF5
    have h56 : st6.1 605 = Int32.ofNat (k + 1) := by rw [hF6.1 605 (by decide)]; exact h55
    -- the end, from a state behind "times"
    have fin : ∀ (st7 : St) (tm : Nat × Nat), Cp false B L T tm.2 r2.2.1 (C ++ r1.2.2.2.1 ++ r2.2.2.2.1) st7 → st7.1 605 = Int32.ofNat (k + 1) → st7.2.2.1 602 = st5.2.2.1 602 → st7.2.2.1 600 = st1.2.2.1 600 → (∀ q, st7.2.2.1 601 q = if q = k then Int32.ofNat tm.1 else st1.2.2.1 601 q) → HF st st7 →
        (∀ t, sIf false (tK B L) (tV B L) bm C.length (both2 r1 r2 tm.2) = .ok t → ∃ st8, fX9_readIf fz st7 = some (1, st8) ∧ Cp false B L T t.2.1 t.2.2.1 (C ++ r1.2.2.2.1 ++ r2.2.2.2.1 ++ t.2.2.2.2.1) st8 ∧ st8.1 605 = Int32.ofNat (k + 1) ∧ ordC C.length k (tK B L j) r1.2.2.2.1.length r2.2.2.2.1.length tm.1 t.2.2.2.2.1.length st8 ∧ (∀ q, q < k → st8.2.2.1 600 q = st.2.2.1 600 q ∧ st8.2.2.1 601 q = st.2.2.1 601 q) ∧ (∀ q, q < 4 * k → st8.2.2.1 602 q = st.2.2.1 602 q) ∧ HF st st8) ∧
        (∀ e, sIf false (tK B L) (tV B L) bm C.length (both2 r1 r2 tm.2) = .error e → ∃ st8, fX9_readIf fz st7 = some (0, st8) ∧ Ce B L T e st8 ∧ HF st st8) := by
      intro st7 tm hC7 h57 f2 f3 f4 f5
      obtain ⟨a1, a2⟩ := c_readIf (fz := fz) (bm := bm) (bc := C.length) (r := both2 r1 r2 tm.2) (C := C ++ r1.2.2.2.1 ++ r2.2.2.2.1) hC7 (k := k) h57 hk (by show C.length + (r1.2.2.2.1 ++ r2.2.2.2.1).length = _; rw [List.length_append, List.length_append, List.length_append]; omega)
      constructor
      · intro t ht
        obtain ⟨st8, s1, s2, s3, s4, s5⟩ := a1 t ht
        refine ⟨st8, s1, s2, s3, ⟨?_, ?_, ?_, ?_, ?_, ?_⟩, fun q hq => ⟨?_, ?_⟩, fun q hq => ?_, f5.tr (fr.up s5 (by decide) (by decide) (by decide))⟩
        · rw [s5.2.2.1 600 (by decide), f3]; exact o4
        · rw [s5.2.2.1 601 (by decide), f4, if_pos rfl]
        · rw [s4, if_neg (by omega), if_neg (by omega), f2, h602, if_neg (by omega)]; exact o6
        · rw [s4, if_neg (by omega), if_neg (by omega), f2, h602, if_pos (by omega)]
        · rw [s4, if_pos rfl, List.length_append, List.length_append]
        · rw [s4, if_neg (by omega), if_pos rfl, List.length_append, List.length_append]
        · rw [s5.2.2.1 600 (by decide), f3, (o7 q hq).1]
        · rw [s5.2.2.1 601 (by decide), f4, if_neg (by omega), (o7 q hq).2]
        · rw [s4, if_neg (by omega), if_neg (by omega), f2, h602, if_neg (by omega), o8 q hq]
      · intro e he
        obtain ⟨st8, s1, s2, s3⟩ := a2 e he
        exact ⟨st8, s1, s2, f5.tr (fr.up s3 (by decide) (by decide) (by decide))⟩
    have hp := hC6.passes (fz := fz) (c := 311) (by decide)
    unfold sTimes
    by_cases ht : tK B L r2.1 = 311
    · rw [if_pos ht]
      obtain ⟨st7, q1, q2, q3⟩ := hp.1 ht (by decide)
      replace q1 : fX9_passes 311 fz st6 = some (1, st7) := q1
      have hnum := q2.isNumber (fz := fz) (lo := 1) (hi := 20) (by decide) (by decide)
      replace hnum : fX9_isNumber 1 20 fz st7 = _ := hnum
      rw [q1, bd_v, i10, hnum, bd_v]
      have hF7 : HF st st7 := (hF5.tr hF6.hf).tr (q3.up (by decide) (by decide) (by decide))
      by_cases hv : tK B L (r2.1 + 1) = 256 ∧ 1 ≤ tV B L (r2.1 + 1) ∧ tV B L (r2.1 + 1) ≤ 20
      · rw [if_pos hv, if_pos hv, i10]
        refine ⟨fun tm htm => ?_, fun e he => (by cases he)⟩
        have htm := Except.ok.inj htm
        subst htm
        have h57 : st7.1 605 = Int32.ofNat (k + 1) := by rw [q3.1 605 (by decide)]; exact h56
        have e0 : ¬ (Int32.ofNat (k + 1) ≤ 0) := fun q => by have := (oN_le (b := 0) (by omega) (by omega)).mp q; omega
        have erep : fX8_repeat (st7.1 706) fz st7 = some ((), sA st7 601 (upd (st7.2.2.1 601) k (Int32.ofNat (tV B L (r2.1 + 1))))) := by
          unfold fX8_repeat fX8_repeat_b19
          rw [q2.2.2.2.2.1 hv.1, h57, if_neg e0, show (1 : Int32) = Int32.ofNat 1 from rfl, oN_sub (by omega), Nat.add_sub_cancel, gi_N (by omega) (by omega), oN_tn (by omega), lt_v]
        have hf8 : fr [] [] [601] st7 (sA st7 601 (upd (st7.2.2.1 601) k (Int32.ofNat (tV B L (r2.1 + 1))))) := fr.sA (by decide)
        have hC8 := q2.keep hf8 (by decide) (by decide)
        obtain ⟨st9, l1, l2, l3⟩ := hC8.look (fz := fz) (by omega)
        refine ⟨st9, by rw [erep, bd_v, l1, bd_v], ?_⟩
        refine fin st9 (tV B L (r2.1 + 1), r2.1 + 2) l2 ?_ ?_ ?_ (fun q => ?_) ((hF7.tr (hf8.up (by decide) (by decide) (by decide))).tr (l3.up (by decide) (by decide) (by decide)))
        · rw [l3.1 605 (by decide), hf8.1 605 (by decide)]; exact h57
        · rw [l3.2.2.1 602 (by decide), hf8.2.2.1 602 (by decide), q3.2.2.1 602 (by decide), hF6.2.2.1 602 (by decide)]
        · rw [l3.2.2.1 600 (by decide), hf8.2.2.1 600 (by decide), q3.2.2.1 600 (by decide), hF6.2.2.1 600 (by decide), h600]
        · rw [l3.2.2.1 601 (by decide)]
          show upd (st7.2.2.1 601) k _ q = _
          rw [upd_v, q3.2.2.1 601 (by decide), hF6.2.2.1 601 (by decide), h601]
      · rw [if_neg hv, if_neg hv, i00]
        refine ⟨fun tm htm => (by cases htm), fun e he => ?_⟩
        cases he
        exact ⟨st7, rfl, q2.err, hF7⟩
    · rw [if_neg ht]
      have q1 := hp.2 ht
      replace q1 : fX9_passes 311 fz st6 = some (0, st6) := q1
      rw [q1, bd_v, i00]
      refine ⟨fun tm htm => ?_, fun e he => (by cases he)⟩
      have htm := Except.ok.inj htm
      subst htm
      refine ⟨st6, rfl, fin st6 (1, r2.1) hC6 h56 (hF6.2.2.1 602 (by decide)) (by rw [hF6.2.2.1 600 (by decide), h600]) (fun q => ?_) (hF5.tr hF6.hf)⟩
      rw [hF6.2.2.1 601 (by decide), h601]
      by_cases e : q = k
      · rw [if_pos e, e, o5]; rfl
      · rw [if_neg e]
  constructor
  · intro x hx
    obtain ⟨r1, hr1, hx⟩ := exb_ok hx
    by_cases hjo : tK B L r1.1 = jointO (tK B L j)
    · rw [if_pos hjo] at hx
      obtain ⟨r2, hr2, hx⟩ := exb_ok hx
      obtain ⟨tm, htm, hx⟩ := exb_ok hx
      obtain ⟨t, ht, hx⟩ := exb_ok hx
      have hx := Except.ok.inj hx
      subst hx
      obtain ⟨st3, q1, q2, q3⟩ := good1 r1 hr1
      obtain ⟨st4, st5, s1, s2, s3, s4, s5, s6, s7, s8⟩ := good2 r1 st3 q2 q3 hjo
      obtain ⟨w1, w2⟩ := (csim_ST (lw := false) (B := B) (L := L) (T := T) (fz := fz) 10).2 0 (bm + r1.2.2.1.length) (C.length + r1.2.2.2.1.length) (r1.1 + 1) r1.2.1 (C ++ r1.2.2.2.1) st5 (by decide) (by decide) (by rw [List.length_append]) s3
      obtain ⟨st6, v1, v2, v3⟩ := w1 r2 hr2
      replace v1 : rdS fz 10 0 st5 = some (1, st6) := v1
      obtain ⟨st7, u1, u2, u3⟩ := (good3 r1 r2 st5 st6 v2 v3 s4 s5 s6 s7 s8).1 tm htm
      obtain ⟨st8, y⟩ := u2 t ht
      refine ⟨st7, st8, ?_, y⟩
      rw [q1, bd_v, i10, s1, bd_v, i10, s2, bd_v, v1, bd_v, i10]
      exact u1
    · rw [if_neg hjo] at hx; cases hx
  · intro e he
    rcases exb_err he with he | ⟨r1, hr1, he⟩
    · obtain ⟨st3, q1, q2, q3⟩ := failP e he
      exact Or.inl ⟨st3, by rw [q1, bd_v, i00], q2, q3⟩
    · obtain ⟨st3, q1, q2, q3⟩ := good1 r1 hr1
      by_cases hjo : tK B L r1.1 = jointO (tK B L j)
      · rw [if_pos hjo] at he
        obtain ⟨st4, st5, s1, s2, s3, s4, s5, s6, s7, s8⟩ := good2 r1 st3 q2 q3 hjo
        obtain ⟨w1, w2⟩ := (csim_ST (lw := false) (B := B) (L := L) (T := T) (fz := fz) 10).2 0 (bm + r1.2.2.1.length) (C.length + r1.2.2.2.1.length) (r1.1 + 1) r1.2.1 (C ++ r1.2.2.2.1) st5 (by decide) (by decide) (by rw [List.length_append]) s3
        rw [q1, bd_v, i10, s1, bd_v, i10, s2, bd_v]
        rcases exb_err he with he | ⟨r2, hr2, he⟩
        · obtain ⟨st6, v1, v2, v3⟩ := w2 e he
          replace v1 : rdS fz 10 0 st5 = some (0, st6) := v1
          exact Or.inl ⟨st6, by rw [v1, bd_v, i00], v2, s8.tr v3.hf⟩
        · obtain ⟨st6, v1, v2, v3⟩ := w1 r2 hr2
          replace v1 : rdS fz 10 0 st5 = some (1, st6) := v1
          rw [v1, bd_v, i10]
          rcases exb_err he with he | ⟨tm, htm, he⟩
          · obtain ⟨st7, u1, u2, u3⟩ := (good3 r1 r2 st5 st6 v2 v3 s4 s5 s6 s7 s8).2 e he
            exact Or.inl ⟨st7, u1, u2, u3⟩
          · obtain ⟨st7, u1, u2, u3⟩ := (good3 r1 r2 st5 st6 v2 v3 s4 s5 s6 s7 s8).1 tm htm
            rcases exb_err he with he | ⟨t, ht, he⟩
            · obtain ⟨st8, y⟩ := u3 e he
              exact Or.inr ⟨st7, st8, u1, y⟩
            · cases he
      · rw [if_neg hjo] at he
        have he := Except.error.inj he
        subst he
        have s1 := (q2.passes (fz := fz) (c := jointO (tK B L j)) (by omega)).2 hjo
        exact Or.inl ⟨st3, by rw [q1, bd_v, i10, s1, bd_v, i00], q2.err, hF2.tr q3.hf⟩
