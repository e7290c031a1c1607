set_option maxHeartbeats 4000000 in
theorem tX11_law_c (l : Launch) (D : va_G) (cy : Nat → ClassId) (ad : Nat → Nat) (fz : List FP) (hJ : (cads ad fz).Nodup) (sz : Nat) (st st' : St) (L C : Nat) (hf : fX11_lawA fz st = some (none, st')) (hL : st'.1 604 = nI L) (hC : st'.1 605 = nI C) (hL4 : L ≤ 400) (hC1 : C ≤ 12) (hB : ∀ P : FP, isCp L C (st'.2.2.1 600) (st'.2.2.1 601) (st'.2.2.1 602) (st'.2.2.1 603) P → ∃ r st2, fX11_lawB P (st'.1 111) (fz ++ [P]) st' = some (r, st2)) : Met l yX11_law (Cond.code yX11_law cX11_law 1 (some .int) :: TT) (rmX 91 5 478) (lPc D cy ad fz st sz) (va_Qi (fun (x : Int32) (u : FP × St) => isCp L C (st'.2.2.1 600) (st'.2.2.1 601) (st'.2.2.1 602) (st'.2.2.1 603) u.1 ∧ fX11_lawB u.1 (st'.1 111) (fz ++ [u.1]) st' = some (x, u.2)) (fun u t => va_P D classes (cx cy ad (fz ++ [u.1]) u.2) t.heap ∧ (cads ad (fz ++ [u.1])).Nodup ∧ ∀ a ∈ [u.1.1 99, u.1.1 0, u.1.1 1, u.1.1 2, u.1.1 3], sz ≤ a) (cA ad fz sz)) 5 478 (cA ad fz sz) := by
  refine Met.ofW (cc := cX11_law) (maxL := 1) (ret := some .int) (by decide) rfl ?_
  intro p e s m args below meth c s₁ B hml hv
  obtain ⟨hargs, hU, hP, hK, hN, hZ⟩ := hv
  have hts := atoms_spec (ws := Cond.code yX11_law cX11_law 1 (some .int) :: TT) B.pre
  have hT : ∀ w ∈ TT, w.before args s = true := fun w h => hts w (List.mem_cons_of_mem _ h)
  have hown : s.vm.findClass RX11 = some m.cls := findClass_of_methodNamed B.named
  have hl := lv_entry [.ref (ad 99)] (n := 1) (Nat.le_of_ble_eq_true rfl)
  have he : entryFrame m args 1 = F0 m 0 ((lg_sl [.ref (ad 99)] ++ List.replicate (1 - (lg_sl [.ref (ad 99)]).length) Slot.unset).toArray) [] := by rw [hargs]; exact lg_entry_eq m [.ref (ad 99)] 1
  rw [he]
  subst hU
  have E : Ev p s m args c D cy cX11_law 1 RX11 := ⟨⟨B.exec, B.bytes, hml, hown, hT⟩, hK⟩
  refine c_lawA hJ E B.exec B.bytes hown hT (fun st => c_D hJ st) hN st none st' hf (fun r H locs pc ls hrr => by cases hrr) (fun H locs ls _ hl hP hS => ?_) s.heap [] _ hl hP va_S.rf
  have hD := c_D (cy := cy) (sz := s.heap.size) hJ st'
  have hro : ∀ q ∈ roW cy (ad 699) (ad 600) (ad 601) (ad 602) (ad 603) L C (st'.2.2.1 600) (st'.2.2.1 601) (st'.2.2.1 602) (st'.2.2.1 603), q ∈ cx cy ad fz st' := by
    intro q hq
    unfold roW at hq
    rw [← hL, ← hC] at hq
    simp only [List.mem_cons, List.not_mem_nil, or_false] at hq
    rcases hq with rfl | rfl | rfl | rfl | rfl
    · exact List.mem_of_getElem? (i := 30) rfl
    · exact List.mem_of_getElem? (i := 31) rfl
    · exact List.mem_of_getElem? (i := 32) rfl
    · exact List.mem_of_getElem? (i := 33) rfl
    · exact List.mem_of_getElem? (i := 34) rfl
  have hPc := P_of hP hro
  have hnd : [ad 699, ad 600, ad 601, ad 602, ad 603].Nodup := by
    refine List.Nodup.sublist ?_ hJ
    unfold cads
    exact .cons _ (.cons _ (.cons _ (.cons _ (.cons _ (.cons _ (.cons _ (.cons _ (.cons _ (.cons _ (.cons _ (.cons _ (.cons _ (.cons _ (.cons _ (.cons _ (.cons _ (.cons _ (.cons _ (.cons _ (.cons _ (.cons _ (.cons _ (.cons _ (.cons _ (.cons _ (.cons _ (.cons _ (.cons _ (.cons _ (.cons₂ _ (.cons₂ _ (.cons₂ _ (.cons₂ _ (.cons₂ _ (.cons _ (.cons _ (.cons _ (.cons _ (.cons _ (.cons _ (.cons _ (.cons _ (.cons _ (.cons _ (.cons _ (.cons _ (.cons _ (.cons _ (.cons _ (.cons _ (.cons _ (.cons _ (.cons _ (.cons _ (.cons _ (.cons _ (.cons _ (.cons _ (.cons _ (.cons _ (.cons _ (List.nil_sublist _))))))))))))))))))))))))))))))))))))))))))))))))))))))))))))))
  have hrA : ∀ x, x ∈ [ad 699, ad 600, ad 601, ad 602, ad 603] → x ∈ cads ad fz := by
    intro x hx
    have h1 : x ∈ (roW cy (ad 699) (ad 600) (ad 601) (ad 602) (ad 603) L C (st'.2.2.1 600) (st'.2.2.1 601) (st'.2.2.1 602) (st'.2.2.1 603)).map Prod.fst := hx
    obtain ⟨y, hy, rfl⟩ := List.mem_map.mp h1
    rw [← cx_fst cy ad fz st']
    exact List.mem_map.mpr ⟨y, hro y hy, rfl⟩
  have hFc : ∀ z, pB (ad 699) (ad 600) (ad 601) (ad 602) (ad 603) H.size z → cA ad fz s.heap.size z := fun z hz => hz.elim (fun h => Or.inl (hrA z h)) (fun h => Or.inr (Nat.le_trans hS.1 h))
  have hSz := hS.1
  refine va_callr (va_runV (As := []) (rest := [.int (st'.1 111), .ref (ad 107)]) (g := F0 m 83 ls [.ref (ad 699), .int (st'.1 111), .ref (ad 107)]) E.1 (tX8_copy l D cy (ad 699) (ad 600) (ad 601) (ad 602) (ad 603) L C (st'.2.2.1 600) (st'.2.2.1 601) (st'.2.2.1 602) (st'.2.2.1 603) hL4 hC1 hnd H.size) (cwV 0 hT (gV k_765 k_766 k_767 k_8 k_768) rfl rfl rfl qX8_copy ⟨Nat.le_of_ble_eq_true rfl, Nat.le_of_ble_eq_true rfl⟩) ⟨fun a U g mk z => ⟨z.1, z.2.1, z.2.2.1, va_K.moved (u := U) (U := U.calling g mk a) (Vm.Alike.refl U.vm) z.2.2.2.1, va_Nw.same rfl rfl z.2.2.2.2⟩, va_recv E.2 hP (ci := 8) (q0 := 30) rfl rfl, fun U hU hW => ⟨rfl, by rw [hU], by rw [hU]; exact hPc, va_K.moved hW.alike E.2, va_Nw.warmC hW hZ⟩⟩ rfl rfl hl.1 rfl (lv_room (Nat.le_of_ble_eq_true rfl)) dX11_law_83 ⟨Nat.le_of_ble_eq_true rfl, Nat.le_of_ble_eq_true rfl⟩) hS (fun q _ h => hFc q h) hFc (fun P q t H1 locs ht hvm hw hB1 hz1 hk1 hS => ?_)
  obtain ⟨hq, hP1, hD1⟩ := hB1
  rw [ht] at hP1
  subst hq
  have hPx : va_P D classes (cx cy ad fz st') H1 := P_ro hP hD hro hk1 (fun x hx => hx) (P_of hP1 (fun z hz => List.mem_append_left _ hz))
  have hPp : va_P D classes (pw cy P) H1 := P_of hP1 (fun z hz => List.mem_append_right _ hz)
  obtain ⟨hn1, ha1⟩ := D_nodup hD1
  rw [List.map_append] at hn1 ha1
  have hn2 : ([ad 699, ad 600, ad 601, ad 602, ad 603] ++ [P.1 99, P.1 0, P.1 1, P.1 2, P.1 3]).Nodup := hn1
  have hge : ∀ x ∈ [P.1 99, P.1 0, P.1 1, P.1 2, P.1 3], H.size ≤ x := by
    intro x hx
    rcases ha1 x (List.mem_append_right _ hx) with h | h
    · exact absurd rfl ((List.nodup_append.mp hn2).2.2 x h x hx)
    · exact h
  have hJ2 : (cads ad (fz ++ [P])).Nodup := by
    rw [cads_snoc, List.nodup_append]
    refine ⟨hJ, (List.nodup_append.mp hn2).2.1, fun x hx y hy hxy => ?_⟩
    subst hxy
    have h1 := P_lt hP x (by rw [cx_fst]; exact hx)
    exact absurd h1 (Nat.not_lt.mpr (hge x hy))
  have hge2 : ∀ x ∈ [P.1 99, P.1 0, P.1 1, P.1 2, P.1 3], s.heap.size ≤ x := fun x hx => Nat.le_trans hSz (hge x hx)
  have hAeq : cA ad (fz ++ [P]) s.heap.size = cA ad fz s.heap.size := by
    funext x
    apply propext
    unfold cA
    rw [cads_snoc, List.mem_append]
    constructor
    · rintro ((h | h) | h)
      · exact Or.inl h
      · exact Or.inr (hge2 x h)
      · exact Or.inr h
    · rintro (h | h)
      · exact Or.inl (Or.inl h)
      · exact Or.inr h
  have hPx2 : va_P D classes (cx cy ad (fz ++ [P]) st') H1 := by rw [cx_snoc]; exact P_app hPx hPp
  obtain ⟨r, st2, hf2⟩ := hB P hw
  have hN2 : cN (cA ad (fz ++ [P]) s.heap.size) s s.heap := by rw [hAeq]; exact hN
  have hS2 : va_S (cA ad (fz ++ [P]) s.heap.size) s.heap H1 locs := by rw [hAeq]; exact hS
  refine c_lawB hJ2 E B.exec B.bytes hown hT (fun st => c_D hJ2 st) hN2 P (List.mem_append_right _ (List.mem_singleton.mpr rfl)) (st'.1 111) st' r st2 hf2 (fun H locs ls hls hP hS => ?_) H1 locs ls hl hPx2 hS2
  rw [hAeq] at hS
  exact W.iret B.exec B.bytes B.returns (fun t ht hW => ⟨⟨_, (P, st2), rfl, ⟨hw, hf2⟩, (by show va_P _ _ _ t.heap; rw [ht]; exact hP), hJ2, hge2⟩, hS.F ht⟩) hS.2.2 dX11_law_113 B.notSynchronized
