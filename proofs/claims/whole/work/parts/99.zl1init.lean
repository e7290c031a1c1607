/-! T1, the start: what the Statement gives; both sides new -/
theorem nest_in : ∀ w ∈ nestL, w ∈ lw_tbl := by
  intro w hw
  simp only [nestL, List.mem_cons, List.not_mem_nil, or_false] at hw
  rcases hw with rfl | rfl | rfl | rfl | rfl | rfl | rfl | rfl | rfl | rfl | rfl | rfl
  · exact List.mem_append_right _ (List.mem_of_getElem? (i := 38) (by decide +kernel))
  · exact List.mem_append_right _ (List.mem_of_getElem? (i := 84) (by decide +kernel))
  · exact List.mem_append_right _ (List.mem_of_getElem? (i := 115) (by decide +kernel))
  · exact List.mem_append_right _ (List.mem_of_getElem? (i := 212) (by decide +kernel))
  · exact List.mem_append_right _ (List.mem_of_getElem? (i := 353) (by decide +kernel))
  · exact List.mem_append_right _ (List.mem_of_getElem? (i := 387) (by decide +kernel))
  · exact List.mem_append_right _ (List.mem_of_getElem? (i := 457) (by decide +kernel))
  · exact List.mem_append_right _ (List.mem_of_getElem? (i := 683) (by decide +kernel))
  · exact List.mem_append_right _ (List.mem_of_getElem? (i := 821) (by decide +kernel))
  · exact List.mem_append_right _ (List.mem_of_getElem? (i := 1002) (by decide +kernel))
  · exact List.mem_append_right _ (List.mem_of_getElem? (i := 1063) (by decide +kernel))
  · exact List.mem_append_right _ (List.mem_of_getElem? (i := 1105) (by decide +kernel))
theorem nest_tab : ∀ w ∈ nestL, w.onTables = true := by decide +kernel
section Start
variable {s : State} {b : Nat}
theorem st_nest (hts : ∀ w ∈ lw_tbl, w.before #[Value.ref b] s = true) : ∀ w ∈ nestL, va_Nw w s := fun w hw => va_Nw.of (nest_tab w hw) (hts w (nest_in w hw))
theorem wB_list : ((flatC (Jvm.Cond.and given_1 narrow_1)).drop 53).take 141 = (List.range 141).map (fun j => (Cond.eq (.elem (.field (.string "OpenGates$Tape" 56) "java/lang/String" "value" "[B") (.int (Int32.ofNat j))) (.int (([wordsB].getD 0 []).getD j 0)))) := by decide +kernel
theorem wB_all : ∀ j : Nat, j < 141 → (Cond.eq (.elem (.field (.string "OpenGates$Tape" 56) "java/lang/String" "value" "[B") (.int (Int32.ofNat j))) (.int (([wordsB].getD 0 []).getD j 0))) ∈ flatC (Jvm.Cond.and given_1 narrow_1) := by
  intro j hj
  refine List.mem_of_mem_drop (List.mem_of_mem_take (i := 141) (l := (flatC (Jvm.Cond.and given_1 narrow_1)).drop 53) ?_)
  rw [wB_list]
  exact List.mem_map.mpr ⟨j, List.mem_range.mpr hj, rfl⟩
theorem wL_all : ∀ j : Nat, j < 4 → (Cond.eq (.elem (.static "OpenGates$Deeds" "LEAST" "[I") (.int (Int32.ofNat j))) (.int (leastF j))) ∈ flatC (Jvm.Cond.and given_1 narrow_1) := by decide +kernel
theorem wM_all : ∀ j : Nat, j < 4 → (Cond.eq (.elem (.static "OpenGates$Deeds" "MOST" "[I") (.int (Int32.ofNat j))) (.int (mostF j))) ∈ flatC (Jvm.Cond.and given_1 narrow_1) := by decide +kernel
theorem st_cN (hts : ∀ w ∈ lw_tbl, w.before #[Value.ref b] s = true) (hgv : (Jvm.Cond.and given_1 narrow_1).before #[Value.ref b] s = true) : cN (fun q : Nat => s.heap.size ≤ q) s s.heap := by
  have hT : ∀ w ∈ TT, w.before #[Value.ref b] s = true := fun w h => hts w (List.mem_filter.mp h).1
  have hs := flat_of_before _ hgv
  have hA0 : ∀ a : Nat, a < s.heap.size → ¬ (fun q : Nat => s.heap.size ≤ q) a := fun a h h' => absurd h (Nat.not_lt.mpr h')
  refine ⟨st_nest hts, ?_, ?_, ?_⟩
  · obtain ⟨t, ht, hTT⟩ := va_Tof (tm := .static "OpenGates$Deeds" "LEAST" "[I") (ty := .int) (N := 4) (f := fun j => .int (leastF j)) (A := fun q : Nat => s.heap.size ≤ q) (by decide) (hs _ (by decide +kernel)) (va_eqt (hs (Cond.eq (.length (.static "OpenGates$Deeds" "LEAST" "[I")) (.int 4)) (by decide +kernel))) (fun j hj => va_eqt (hs _ (wL_all j hj))) hA0
    exact ⟨t, va_Zof (hts (.laysStatic "OpenGates$Deeds" "LEAST" "[I") (List.mem_append_right _ (List.mem_of_getElem? (i := 823) (by decide +kernel)))) (hT _ k_11) ht hA0, hTT⟩
  · obtain ⟨t, ht, hTT⟩ := va_Tof (tm := .static "OpenGates$Deeds" "MOST" "[I") (ty := .int) (N := 4) (f := fun j => .int (mostF j)) (A := fun q : Nat => s.heap.size ≤ q) (by decide) (hs _ (by decide +kernel)) (va_eqt (hs (Cond.eq (.length (.static "OpenGates$Deeds" "MOST" "[I")) (.int 4)) (by decide +kernel))) (fun j hj => va_eqt (hs _ (wM_all j hj))) hA0
    exact ⟨t, va_Zof (hts (.laysStatic "OpenGates$Deeds" "MOST" "[I") (List.mem_append_right _ (List.mem_of_getElem? (i := 825) (by decide +kernel)))) (hT _ k_11) ht hA0, hTT⟩
  · obtain ⟨adK, adV, h1, h2⟩ := vk_Sof (N := 1) (tm := fun _ => .string "OpenGates$Tape" 56) (len := [141]) (byt := [wordsB]) (A := fun q : Nat => s.heap.size ≤ q) (s := s) (args := #[Value.ref b]) (fun i hi => by rw [show i = 0 by omega]; decide) (fun i hi => hs _ (by decide +kernel)) (fun i hi => hs _ (by decide +kernel)) (fun i hi => hs _ (by decide +kernel)) (fun i hi => by rw [show i = 0 by omega]; exact hs _ (by decide +kernel)) (fun i hi j hj => by
      have hi0 : i = 0 := by omega
      subst hi0
      exact hs _ (wB_all j hj)) (fun i j hi hj hij => absurd (show i = j by omega) hij) hA0
    obtain ⟨v, hv1, hv2⟩ := Cond.isRef_spec (hs (Cond.isRef (.static "jdk/internal/util/Preconditions" "SIOOBE_FORMATTER" "Ljava/util/function/BiFunction;")) (by decide +kernel))
    refine ⟨adK, adV, h1, vk_R.of (A := #[Value.ref b]) (hts (.stringRef "OpenGates$Tape" 56 wordsT) (List.mem_append_right _ (List.mem_of_getElem? (i := 617) (by decide +kernel)))) (h2 0 (by decide)), va_Zof (hts (.laysStatic "java/lang/String" "COMPACT_STRINGS" "Z") (List.mem_append_right _ (List.mem_of_getElem? (i := 627) (by decide +kernel)))) (hT _ k_16) (va_eqt (hs (Cond.eq (.static "java/lang/String" "COMPACT_STRINGS" "Z") (.int 1)) (by decide +kernel))) hA0, v, va_Zof (hts (.laysStatic "jdk/internal/util/Preconditions" "SIOOBE_FORMATTER" "Ljava/util/function/BiFunction;") (List.mem_append_right _ (List.mem_of_getElem? (i := 643) (by decide +kernel)))) (hT _ k_18) hv1 hA0, ?_⟩
    cases v with
    | null => exact Or.inl rfl
    | ref a => exact Or.inr ⟨a, rfl⟩
    | int _ => cases hv2
    | long _ => cases hv2
    | float _ => cases hv2
    | double _ => cases hv2
    | retAddr _ => cases hv2
theorem st_zN (hts : ∀ w ∈ lw_tbl, w.before #[Value.ref b] s = true) : zN s := va_Nw.of (by decide +kernel) (hts (.castable "[I" "java/lang/Cloneable") (List.mem_append_right _ (List.mem_of_getElem? (i := 781) (by decide +kernel))))
theorem st_xN (hts : ∀ w ∈ lw_tbl, w.before #[Value.ref b] s = true) : xN s := ⟨st_nest hts, va_AO.of (hts (.arrayOver (.object "OpenGates$Land")) (List.mem_append_right _ (List.mem_of_getElem? (i := 209) (by decide +kernel)))), va_AO.of (hts (.arrayOver (.object "OpenGates$Program")) (List.mem_append_right _ (List.mem_of_getElem? (i := 138) (by decide +kernel))))⟩
theorem st_K (hts : ∀ w ∈ lw_tbl, w.before #[Value.ref b] s = true) : ∃ (D : va_G) (cy : Nat → ClassId), va_K D classes (tys cy) s := by
  have hT : ∀ w ∈ TT, w.before #[Value.ref b] s = true := fun w h => hts w (List.mem_filter.mp h).1
  obtain ⟨c0, j0, h0⟩ := u_known (C := RX0) (T := TX0) (N := 5) (n := 5) hT hin_0 (hT _ k_37)
  obtain ⟨c1, j1, h1⟩ := u_known (C := RX1) (T := TX1) (N := 5) (n := 5) hT hin_1 (hT _ k_114)
  obtain ⟨c2, j2, h2⟩ := u_known (C := RX2) (T := TX2) (N := 6) (n := 6) hT hin_2 (hT _ k_321)
  obtain ⟨c3, j3, h3⟩ := u_known (C := RX3) (T := TX3) (N := 6) (n := 6) hT hin_3 (hT _ k_381)
  obtain ⟨c4, j4, h4⟩ := u_known (C := RX4) (T := TX4) (N := 7) (n := 7) hT hin_4 (hT _ k_83)
  obtain ⟨c5, j5, h5⟩ := u_known (C := RX5) (T := TX5) (N := 4) (n := 4) hT hin_5 (hT _ k_301)
  obtain ⟨c6, j6, h6⟩ := u_known (C := RX6) (T := TX6) (N := 13) (n := 13) hT hin_6 (hT _ k_31)
  obtain ⟨c7, j7, h7⟩ := u_known (C := RX7) (T := TX7) (N := 8) (n := 8) hT hin_7 (hT _ k_347)
  obtain ⟨c8, j8, h8⟩ := u_known (C := RX8) (T := TX8) (N := 6) (n := 6) hT hin_8 (hT _ k_242)
  obtain ⟨c9, j9, h9⟩ := u_known (C := RX9) (T := TX9) (N := 7) (n := 7) hT hin_9 (hT _ k_272)
  obtain ⟨c10, j10, h10⟩ := u_known (C := RX10) (T := TX10) (N := 6) (n := 6) hT hin_10 (hT _ k_211)
  obtain ⟨c11, j11, h11⟩ := u_known (C := RX11) (T := TX11) (N := 13) (n := 13) hT hin_11 (hT _ k_23)
  obtain ⟨c12, j12, h12⟩ := u_known (C := RX12) (T := TX12) (N := 53) (n := 53) hT hin_12 (hT _ k_1147)
  obtain ⟨a0, ka0, m0, e0, f0, g0⟩ := Cond.arrayClass_spec (hT _ k_81)
  obtain ⟨a1, ka1, m1, e1, f1, g1⟩ := Cond.arrayClass_spec (hT _ k_319)
  obtain ⟨a2, ka2, m2, e2, f2, g2⟩ := Cond.arrayClass_spec (hT _ k_1333)
  obtain ⟨m3, a3, ka3, d3, -, f3, g3, e3⟩ := Cond.arrayOver_spec (hts (.arrayOver (.object "OpenGates$Land")) (List.mem_append_right _ (List.mem_of_getElem? (i := 209) (by decide +kernel))))
  obtain ⟨m4, a4, ka4, d4, -, f4, g4, e4⟩ := Cond.arrayOver_spec (hts (.arrayOver (.object "OpenGates$Program")) (List.mem_append_right _ (List.mem_of_getElem? (i := 138) (by decide +kernel))))
  refine ⟨(fun k => match k with | 0 => c0 | 1 => c1 | 2 => c2 | 3 => c3 | 4 => c4 | 5 => c5 | 6 => c6 | 7 => c7 | 8 => c8 | 9 => c9 | 10 => c10 | 11 => c11 | _ => c12, fun k => match k with | 0 => j0 | 1 => j1 | 2 => j2 | 3 => j3 | 4 => j4 | 5 => j5 | 6 => j6 | 7 => j7 | 8 => j8 | 9 => j9 | 10 => j10 | 11 => j11 | _ => j12), fun k => match k with | 0 => a0 | 1 => a1 | 2 => a2 | 3 => a3 | _ => a4, ?_, ?_⟩
  · intro k q hq
    match k, hq with
    | 0, hq => cases hq; exact h0
    | 1, hq => cases hq; exact h1
    | 2, hq => cases hq; exact h2
    | 3, hq => cases hq; exact h3
    | 4, hq => cases hq; exact h4
    | 5, hq => cases hq; exact h5
    | 6, hq => cases hq; exact h6
    | 7, hq => cases hq; exact h7
    | 8, hq => cases hq; exact h8
    | 9, hq => cases hq; exact h9
    | 10, hq => cases hq; exact h10
    | 11, hq => cases hq; exact h11
    | 12, hq => cases hq; exact h12
    | k + 13, hq => simp [classes] at hq
  · intro k q hq
    match k, hq with
    | 0, hq => cases hq; exact ⟨fun n z => ⟨fun k h => (by cases h), ka0, f0, m0, g0⟩, e0⟩
    | 1, hq => cases hq; exact ⟨fun n z => ⟨fun k h => (by cases h), ka1, f1, m1, g1⟩, e1⟩
    | 2, hq => cases hq; exact ⟨fun n z => ⟨fun k h => (by cases h), ka2, f2, m2, g2⟩, e2⟩
    | 3, hq => cases hq; exact ⟨fun n z => ⟨fun k h => (by cases h), ka3, f3, m3, g3⟩, ka3, m3, f3, g3, d3, e3⟩
    | 4, hq => cases hq; exact ⟨fun n z => ⟨fun k h => (by cases h), ka4, f4, m4, g4⟩, ka4, m4, f4, g4, d4, e4⟩
    | k + 5, hq => simp [tys] at hq
end Start
