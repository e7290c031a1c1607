/-! law(): both ends as contracts -/
theorem fzA_snoc (fz : List FP) (P : FP) : fzA (fz ++ [P]) = fzA fz ++ [P.1 99, P.1 0, P.1 1, P.1 2, P.1 3] := by
  unfold fzA; rw [List.flatMap_append]; rfl
theorem fzW_snoc (cy : Nat → ClassId) (fz : List FP) (P : FP) : fzW cy (fz ++ [P]) = fzW cy fz ++ pw cy P := by
  unfold fzW; rw [List.flatMap_append]; simp
theorem cads_snoc (ad : Nat → Nat) (fz : List FP) (P : FP) : cads ad (fz ++ [P]) = cads ad fz ++ [P.1 99, P.1 0, P.1 1, P.1 2, P.1 3] := by
  unfold cads; rw [fzA_snoc]; rfl
theorem cx_snoc (cy : Nat → ClassId) (ad : Nat → Nat) (fz : List FP) (P : FP) (st : St) : cx cy ad (fz ++ [P]) st = cx cy ad fz st ++ pw cy P := by
  unfold cx; rw [fzW_snoc]; rfl
theorem P_lt {D : va_G} {cl : List vw_C} {ws : va_W} {H : Heap} (hP : va_P D cl ws H) : ∀ a ∈ ws.map Prod.fst, a < H.size := by
  intro a ha
  obtain ⟨z, hz, rfl⟩ := List.mem_map.mp ha
  obtain ⟨i, hi⟩ := List.getElem?_of_mem hz
  exact (hP i z hi).lt
theorem P_ro {D : va_G} {cl : List vw_C} {A B : Nat → Prop} {ws ro : va_W} {H H1 : Heap} (hP : va_P D cl ws H) (hD : va_D A ws) (hsub : ∀ q ∈ ro, q ∈ ws) (hk : ∀ x : Nat, x < H.size → ¬ B x → H1[x]? = H[x]?) (hB : ∀ x, B x → x ∈ ro.map Prod.fst ∨ H.size ≤ x) (hP1 : va_P D cl ro H1) : va_P D cl ws H1 := by
  intro k x hx
  by_cases hb : B x.1
  · rcases hB _ hb with h | h
    · obtain ⟨y, hy, he⟩ := List.mem_map.mp h
      obtain ⟨i, hi⟩ := List.getElem?_of_mem (hsub y hy)
      have := hD.1 i k y x hi hx he
      subst this
      rw [hi] at hx
      cases hx
      obtain ⟨j, hj⟩ := List.getElem?_of_mem hy
      exact hP1 j _ hj
    · exact absurd (hP k x hx).lt (Nat.not_lt.mpr h)
  · exact (hP k x hx).kept (hk x.1 (hP k x hx).lt hb)
abbrev lPc (D : va_G) (cy : Nat → ClassId) (ad : Nat → Nat) (fz : List FP) (st : St) (sz : Nat) : Array Value → State → Prop := va_Pc [.ref (ad 99)] (fun U => U.heap.size = sz ∧ va_P D classes (cx cy ad fz st) U.heap ∧ va_K D classes (tys cy) U ∧ cN (cA ad fz sz) U U.heap ∧ zN U)
theorem l_blind {D : va_G} {cy : Nat → ClassId} {ad : Nat → Nat} {fz : List FP} {st : St} {sz : Nat} : FrameBlind (lPc D cy ad fz st sz) := fun a U g mk q => ⟨q.1, q.2.1, q.2.2.1, va_K.moved (u := U) (U := U.calling g mk a) (Vm.Alike.refl U.vm) q.2.2.2.1, q.2.2.2.2.1.blind, va_Nw.same rfl rfl q.2.2.2.2.2⟩
set_option maxHeartbeats 4000000 in
theorem tX11_law_r (l : Launch) (D : va_G) (cy : Nat → ClassId) (ad : Nat → Nat) (fz : List FP) (hJ : (cads ad fz).Nodup) (sz : Nat) (st : St) (rr : Int32) (st' : St) (hf : fX11_lawA fz st = some (some rr, st')) : Met l yX11_law (Cond.code yX11_law cX11_law 1 (some .int) :: TT) (rmX 91 5 478) (lPc D cy ad fz st sz) (va_Qi (fun (x : Int32) (_ : Unit) => x = rr) (fun _ t => va_P D classes (cx cy ad fz st') t.heap) (cA ad fz sz)) 5 478 (cA ad fz sz) := by
  refine Met.ofW (cc := cX11_law) (maxL := 1) (ret := some .int) (by decide) rfl ?_
  intro p e s m args below meth c s₁ B hml hv
  obtain ⟨hargs, hU, hP, hK, hN, hZ⟩ := hv
  have hts := atoms_spec (ws := Cond.code yX11_law cX11_law 1 (some .int) :: TT) B.pre
  have hT : ∀ w ∈ TT, w.before args s = true := fun w h => hts w (List.mem_cons_of_mem _ h)
  have hown : s.vm.findClass RX11 = some m.cls := findClass_of_methodNamed B.named
  have hl := lv_entry [.ref (ad 99)] (n := 1) (Nat.le_of_ble_eq_true rfl)
  have he : entryFrame m args 1 = F0 m 0 ((lg_sl [.ref (ad 99)] ++ List.replicate (1 - (lg_sl [.ref (ad 99)]).length) Slot.unset).toArray) [] := by rw [hargs]; exact lg_entry_eq m [.ref (ad 99)] 1
  rw [he]
  subst hU
  refine c_lawA hJ ⟨⟨B.exec, B.bytes, hml, hown, hT⟩, hK⟩ B.exec B.bytes hown hT (fun st => c_D hJ st) hN st (some rr) st' hf (fun r H locs pc ls hrr hdg hP hS => ?_) (fun H locs ls hrr => by cases hrr) s.heap [] _ hl hP va_S.rf
  cases hrr
  refine W.widen (k := 5) (n := 478) (Nat.zero_le _) (Nat.zero_le _) ?_
  exact W.iret B.exec B.bytes B.returns (fun t ht hW => ⟨⟨_, (), rfl, rfl, (by show va_P _ _ _ t.heap; rw [ht]; exact hP)⟩, hS.F ht⟩) hS.2.2 hdg B.notSynchronized
