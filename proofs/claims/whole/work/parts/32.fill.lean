/-! Arrays.fill over one row, wherever it lies -/
abbrev aPc (D : va_G) (cy : Nat → ClassId) (As : List Value) (a n : Nat) (f : Nat → Int32) (sz : Nat) : Array Value → State → Prop := va_Pc As (fun U => U.heap.size = sz ∧ va_P D classes [(a, .inl (cy 0, n, .inl f))] U.heap ∧ va_K D classes (tys cy) U)
abbrev aQv (D : va_G) (cy : Nat → ClassId) (a n : Nat) (f : Nat → Int32) (sz : Nat) : Array Value → State → Outcome → State → Prop := va_Qv (fun (_ : Unit) => True) (fun _ t => va_P D classes [(a, .inl (cy 0, n, .inl f))] t.heap) (xA a sz)
theorem a_blind {D : va_G} {cy : Nat → ClassId} {As : List Value} {a n : Nat} {f : Nat → Int32} {sz : Nat} : FrameBlind (aPc D cy As a n f sz) := fun a U g mk q => ⟨q.1, q.2.1, q.2.2.1, va_K.moved (u := U) (U := U.calling g mk a) (Vm.Alike.refl U.vm) q.2.2.2⟩
abbrev aG (l : Launch) (d : Nat) (D : va_G) (cy : Nat → ClassId) (a n : Nat) (f : Nat → Int32) (p : Program) (e : Env) (s : State) (m : MethodId) (args : Array Value) (below : List Frame) (meth : Method) (c : Code) (H : Heap) (locs : List Loc) (g : JFrame) : Prop := W p l e (rmD d) s m args below meth c H locs 0 0 (MQ below (aQv D cy a n f s.heap.size) args s 0 0 (xA a s.heap.size)) g
theorem a_met {l : Launch} {d : Nat} {y : MethodName} {cc : ByteArray} {maxL : Nat} {D : va_G} {cy : Nat → ClassId} {As : List Value} {a n : Nat} {f f' : Nat → Int32} {sz : Nat} (hy : plainName y.cls = true) (hn : (lg_sl As).length ≤ maxL)
    (body : ∀ (p : Program) (e : Env) (s : State) (m : MethodId) (args : Array Value) (below : List Frame) (meth : Method) (c : Code) (ls : Array Slot), Ev p s m args c D cy cc maxL y.cls → p.tables.exec = Jvm.exec → c.code = cc → meth.sig.returnType = none → meth.locks = false → s.vm.findClass y.cls = some m.cls → (∀ w ∈ TT, w.before args s = true) → lv_has ls maxL (lv_args 0 As) → va_P D classes [(a, .inl (cy 0, n, .inl f))] s.heap → (∀ g : Nat → Int32, va_D (xA a s.heap.size) [(a, .inl (cy 0, n, .inl g))]) → va_S (xA a s.heap.size) s.heap s.heap [] → aG l d D cy a n f' p e s m args below meth c s.heap [] (F0 m 0 ls [])) :
    Met l y (Cond.code y cc maxL none :: TT) (rmD d) (aPc D cy As a n f sz) (aQv D cy a n f' sz) 0 0 (xA a sz) := by
  refine Met.ofW (cc := cc) (maxL := maxL) (ret := none) hy rfl ?_
  intro p e s m args below meth c s₁ B hml hv
  obtain ⟨hargs, hU, hP, hK⟩ := hv
  have hts := atoms_spec (ws := Cond.code y cc maxL none :: TT) B.pre
  have hT : ∀ w ∈ TT, w.before args s = true := fun w h => hts w (List.mem_cons_of_mem _ h)
  have hown : s.vm.findClass y.cls = some m.cls := findClass_of_methodNamed B.named
  have hl := lv_entry As (n := maxL) hn
  have he : entryFrame m args maxL = F0 m 0 ((lg_sl As ++ List.replicate (maxL - (lg_sl As).length) Slot.unset).toArray) [] := by rw [hargs]; exact lg_entry_eq m As maxL
  rw [he]
  subst hU
  exact body p e s m args below meth c _ ⟨⟨B.exec, B.bytes, hml, hown, hT⟩, hK⟩ B.exec B.bytes B.returns B.notSynchronized hown hT hl hP (fun g => va_D_nodup (l := [a]) rfl (by simp) (fun q h => Or.inl (by simpa using h))) va_S.rf
def filled (i0 i1 : Nat) (v : Int32) (f : Nat → Int32) : Nat → Int32 := fun j => if i0 ≤ j ∧ j < i1 then v else f j
theorem filled_0 (i : Nat) (v : Int32) (f : Nat → Int32) : filled i i v f = f := by
  funext j; unfold filled; rw [if_neg (by omega)]
theorem filled_s (i0 i1 : Nat) (h : i0 ≤ i1) (v : Int32) (f : Nat → Int32) : upd (filled i0 i1 v f) i1 v = filled i0 (i1 + 1) v f := by
  funext j
  by_cases hj : j = i1
  · subst hj; rw [pk_us]; unfold filled; rw [if_pos (by omega)]
  · rw [pk_un hj]; unfold filled
    by_cases h2 : i0 ≤ j ∧ j < i1
    · rw [if_pos h2, if_pos (by omega)]
    · rw [if_neg h2, if_neg (by omega)]
set_option maxHeartbeats 4000000 in
theorem tfill2 (l : Launch) (D : va_G) (cy : Nat → ClassId) (a n : Nat) (hn : n < 2 ^ 31) (f : Nat → Int32) (v : Int32) (sz : Nat) : Met l yJ7_fill_53178 (Cond.code yJ7_fill_53178 cJ7_fill_53178 4 none :: TT) (rmD 0) (aPc D cy [.ref a, .int v] a n f sz) (aQv D cy a n (filled 0 n v f) sz) 0 0 (xA a sz) := by
  refine a_met (by decide) (Nat.le_of_ble_eq_true rfl) (fun p e s m args below meth c ls E hx hb hr hlocks hown hT hl hP hD hS => ?_)
  replace hl : lv_has ls 4 [(0, .ref a), (1, .int v)] := hl
  have loop : ∀ (k i : Nat), i ≤ n → n - i < k → ∀ (H : Heap) (locs : List Loc) (ls : Array Slot), lv_has ls 4 [(0, .ref a), (1, .int v), (2, .int (nI i)), (3, .int (nI n))] → va_P D classes [(a, .inl (cy 0, n, .inl (filled 0 i v f)))] H → va_S (xA a s.heap.size) s.heap H locs → aG l 0 D cy a n (filled 0 n v f) p e s m args below meth c H locs (F0 m 5 ls []) := by
    intro k
    induction k with
    | zero => intro i h1 h2; omega
    | succ k ih =>
      intro i h1 h2 H locs ls hl hP hS
      refine lv_iload_n hx hb dJ7_fill_53178_5 rfl (lv_at hl 2 rfl) ?_
      refine lv_iload_n hx hb dJ7_fill_53178_6 rfl (lv_at hl 3 rfl) ?_
      refine lv_icmp_ge (tgt := 20) hx hb dJ7_fill_53178_7 (by decide) (fun hc => ?_) (fun hc => ?_)
      · have hi : i = n := by
          rcases Nat.lt_or_ge i n with q | q
          · exact absurd hc (nI_ge q hn)
          · omega
        subst hi
        exact W.vret hx hb hr (fun t ht hW => ⟨⟨(), rfl, trivial, (by show va_P _ _ _ t.heap; rw [ht]; exact hP)⟩, hS.F ht⟩) hS.2.2 dJ7_fill_53178_20 hlocks
      · have hi : i < n := by
          rcases Nat.lt_or_ge i n with q | q
          · exact q
          · exact absurd (nI_le q (by omega)) hc
        refine lv_aload_n hx hb dJ7_fill_53178_10 rfl (lv_at hl 0 rfl) ?_
        refine lv_iload_n hx hb dJ7_fill_53178_11 rfl (lv_at hl 2 rfl) ?_
        refine lv_iload_n hx hb dJ7_fill_53178_12 rfl (lv_at hl 1 rfl) ?_
        refine va_iast (D := D) (cl := classes) (tys := tys cy) E.1.1 E.1.2.1 E.2 hP (hD _) hS 0 0 rfl rfl (vp_in_nI hi hn) dJ7_fill_53178_13 (fun H locs hP _ hS => ?_)
        rw [nI_clamp (by omega)] at hP
        replace hP : va_P D classes [(a, .inl (cy 0, n, .inl (upd (filled 0 i v f) i v)))] H := hP
        rw [filled_s 0 i (Nat.zero_le _)] at hP
        refine lv_iinc (v := nI (i + 1)) (lv' := [(2, .int (nI (i + 1))), (0, .ref a), (1, .int v), (3, .int (nI n))]) hx hb dJ7_fill_53178_14 hl (k := 2) rfl (nI_1 i) (by decide) rfl (fun ls hl => ?_)
        refine lv_goto (tgt := 5) hx hb dJ7_fill_53178_17 (by decide) ?_
        exact ih (i + 1) hi (by omega) _ _ ls (lv_sub hl [1, 2, 0, 3] rfl) hP hS
  refine lv_iconst (v := 0) hx hb dJ7_fill_53178_0 (by decide) ?_
  refine lv_istore_n (lv' := [(2, .int 0), (0, .ref a), (1, .int v)]) hx hb dJ7_fill_53178_1 rfl hl (by decide) rfl (fun ls hl => ?_)
  refine lv_aload_n hx hb dJ7_fill_53178_2 rfl (lv_at hl 1 rfl) ?_
  refine va_alen (D := D) (cl := classes) (tys := tys cy) E.1.1 E.1.2.1 E.2 hP 0 0 rfl rfl (show Int32.ofNat n = nI n from rfl) dJ7_fill_53178_3 ?_
  refine lv_istore_n (lv' := [(3, .int (nI n)), (2, .int 0), (0, .ref a), (1, .int v)]) hx hb dJ7_fill_53178_4 rfl hl (by decide) rfl (fun ls hl => ?_)
  exact loop (n + 1) 0 (Nat.zero_le _) (by omega) _ _ ls (lv_sub hl [2, 3, 1, 0] rfl) (by rw [filled_0]; exact hP) hS
set_option maxHeartbeats 4000000 in
theorem tfill4 (l : Launch) (D : va_G) (cy : Nat → ClassId) (a n : Nat) (hn : n < 2 ^ 31) (f : Nat → Int32) (i0 i1 : Nat) (h01 : i0 ≤ i1) (h1n : i1 ≤ n) (v : Int32) (sz : Nat) : Met l yJ7_fill_fda19 (Cond.code yJ7_fill_fda19 cJ7_fill_fda19 5 none :: TT) (rmD 1) (aPc D cy [.ref a, .int (nI i0), .int (nI i1), .int v] a n f sz) (aQv D cy a n (filled i0 i1 v f) sz) 0 0 (xA a sz) := by
  refine a_met (by decide) (Nat.le_of_ble_eq_true rfl) (fun p e s m args below meth c ls E hx hb hr hlocks hown hT hl hP hD hS => ?_)
  replace hl : lv_has ls 5 [(0, .ref a), (1, .int (nI i0)), (2, .int (nI i1)), (3, .int v)] := hl
  have hrc : fJ7_rangeCheck_23922 (nI n) (nI i0) (nI i1) = some () := by
    unfold fJ7_rangeCheck_23922
    rw [if_pos (nI_le h01 (by omega)), if_pos (nI_pos' (by omega)), if_pos (nI_le h1n hn)]
  have loop : ∀ (k i : Nat), i0 ≤ i → i ≤ i1 → i1 - i < k → ∀ (H : Heap) (locs : List Loc) (ls : Array Slot), lv_has ls 5 [(0, .ref a), (1, .int (nI i0)), (2, .int (nI i1)), (3, .int v), (4, .int (nI i))] → va_P D classes [(a, .inl (cy 0, n, .inl (filled i0 i v f)))] H → va_S (xA a s.heap.size) s.heap H locs → aG l 1 D cy a n (filled i0 i1 v f) p e s m args below meth c H locs (F0 m 10 ls []) := by
    intro k
    induction k with
    | zero => intro i h0 h1 h2; omega
    | succ k ih =>
      intro i h0 h1 h2 H locs ls hl hP hS
      refine lv_iload hx hb dJ7_fill_fda19_10 (lv_at hl 4 rfl) ?_
      refine lv_iload_n hx hb dJ7_fill_fda19_12 rfl (lv_at hl 2 rfl) ?_
      refine lv_icmp_ge (tgt := 27) hx hb dJ7_fill_fda19_13 (by decide) (fun hc => ?_) (fun hc => ?_)
      · have hi : i = i1 := by
          rcases Nat.lt_or_ge i i1 with q | q
          · exact absurd hc (nI_ge q (by omega))
          · omega
        subst hi
        exact W.vret hx hb hr (fun t ht hW => ⟨⟨(), rfl, trivial, (by show va_P _ _ _ t.heap; rw [ht]; exact hP)⟩, hS.F ht⟩) hS.2.2 dJ7_fill_fda19_27 hlocks
      · have hi : i < i1 := by
          rcases Nat.lt_or_ge i i1 with q | q
          · exact q
          · exact absurd (nI_le q (by omega)) hc
        refine lv_aload_n hx hb dJ7_fill_fda19_16 rfl (lv_at hl 0 rfl) ?_
        refine lv_iload hx hb dJ7_fill_fda19_17 (lv_at hl 4 rfl) ?_
        refine lv_iload_n hx hb dJ7_fill_fda19_19 rfl (lv_at hl 3 rfl) ?_
        refine va_iast (D := D) (cl := classes) (tys := tys cy) E.1.1 E.1.2.1 E.2 hP (hD _) hS 0 0 rfl rfl (vp_in_nI (Nat.lt_of_lt_of_le hi h1n) hn) dJ7_fill_fda19_20 (fun H locs hP _ hS => ?_)
        rw [nI_clamp (by omega)] at hP
        replace hP : va_P D classes [(a, .inl (cy 0, n, .inl (upd (filled i0 i v f) i v)))] H := hP
        rw [filled_s i0 i h0] at hP
        refine lv_iinc (v := nI (i + 1)) (lv' := [(4, .int (nI (i + 1))), (0, .ref a), (1, .int (nI i0)), (2, .int (nI i1)), (3, .int v)]) hx hb dJ7_fill_fda19_21 hl (k := 4) rfl (nI_1 i) (by decide) rfl (fun ls hl => ?_)
        refine lv_goto (tgt := 10) hx hb dJ7_fill_fda19_24 (by decide) ?_
        exact ih (i + 1) (by omega) hi (by omega) _ _ ls (lv_sub hl [1, 2, 3, 4, 0] rfl) hP hS
  refine lv_aload_n hx hb dJ7_fill_fda19_0 rfl (lv_at hl 0 rfl) ?_
  refine va_alen (D := D) (cl := classes) (tys := tys cy) E.1.1 E.1.2.1 E.2 hP 0 0 rfl rfl (show Int32.ofNat n = nI n from rfl) dJ7_fill_fda19_1 ?_
  refine lv_iload_n hx hb dJ7_fill_fda19_2 rfl (lv_at hl 1 rfl) ?_
  refine lv_iload_n hx hb dJ7_fill_fda19_3 rfl (lv_at hl 2 rfl) ?_
  refine s_callv (n := 3) (rest := []) E.1 (tJ7_rangeCheck_23922 l _ (nI n) (nI i0) (nI i1) () hrc) (gS k_145 k_146 k_6 k_147) qJ7_rangeCheck_23922 ⟨Nat.le_of_ble_eq_true rfl, Nat.le_of_ble_eq_true rfl⟩ ⟨Nat.le_refl _, Nat.le_refl _⟩ rfl hl.1 rfl (Nat.le_of_ble_eq_true rfl) dJ7_fill_fda19_4 ?_
  refine lv_iload_n hx hb dJ7_fill_fda19_7 rfl (lv_at hl 1 rfl) ?_
  refine lv_istore (lv' := [(4, .int (nI i0)), (0, .ref a), (1, .int (nI i0)), (2, .int (nI i1)), (3, .int v)]) hx hb dJ7_fill_fda19_8 hl (by decide) rfl (fun ls hl => ?_)
  exact loop (i1 - i0 + 1) i0 (Nat.le_refl _) h01 (by omega) _ _ ls (lv_sub hl [1, 2, 3, 4, 0] rfl) (by rw [filled_0]; exact hP) hS
section ARows
variable {p : Program} {l : Launch} {e : Env} {R : Room} {s : State} {m : MethodId} {args : Array Value} {below : List Frame} {meth : Method} {c : Code} {H H0 : Heap} {locs : List Loc} {cells slots : Nat} {Q : State → Prop} {D : va_G} {cy : Nat → ClassId} {A : Nat → Prop} {cc : ByteArray} {nL pc d : Nat} {ls : Array Slot} {rest st0 : List Value} {ws : va_W} {own : String}
theorem x_set {ws : va_W} {j a : Nat} {e0 e1 : va_E} {H1 : Heap} (hP : va_P D classes ws H) (hD : va_D A ws) (he : ws[j]? = some (a, e0)) (hk : ∀ x : Nat, x < H.size → ¬ xA a H.size x → H1[x]? = H[x]?) (hP1 : va_P D classes [(a, e1)] H1) : va_P D classes (ws.set j (a, e1)) H1 := by
  intro k q hq
  by_cases hkj : k = j
  · subst hkj
    have hlt : k < ws.length := (List.getElem?_eq_some_iff.mp he).1
    rw [List.getElem?_set_self hlt] at hq
    cases hq
    exact hP1 0 _ rfl
  · rw [List.getElem?_set_ne (fun h => hkj h.symm)] at hq
    refine (hP k q hq).kept (hk q.1 (hP k q hq).lt (fun hx => ?_))
    rcases hx with hx | hx
    · exact hkj (hD.1 k j q (a, e0) hq he hx)
    · exact absurd (hP k q hq).lt (Nat.not_lt.mpr hx)
/-- fill called in any world that holds the row -/
theorem a_call {idx n maxL d a nn j : Nat} {f f' : Nat → Int32} {y : MethodName} {bytes : ByteArray} {As : List Value} (E : Ev p s m args c D cy cc nL own) (hP : va_P D classes ws H) (hD : va_D A ws) (hS : va_S A s.heap H locs) (hA : ∀ q, s.heap.size ≤ q → A q) (hj : ws[j]? = some (a, .inl (cy 0, nn, .inl f))) (hM : ∀ sz, Met l y (Cond.code y bytes maxL none :: TT) (rmD d) (aPc D cy As a nn f sz) (aQv D cy a nn f' sz) 0 0 (xA a sz)) (h1 : Cond.methodLink own idx y ∈ TT) (h2 : Cond.static y ∈ TT) (h3 : Cond.initialized y.cls ∈ TT) (h4 : Cond.code y bytes maxL none ∈ TT) (hd : y.cls ≠ "java/lang/invoke/MethodHandle" ∧ y.cls ≠ "java/lang/invoke/VarHandle" ∧ (parseMethodDescriptor y.desc).map (fun d => d.parameters.length) = some n) (hR : d + 1 ≤ R.frames ∧ 8 + (maxL + 11) + 64 * d ≤ R.locals) (hc : cells + 0 ≤ R.cells ∧ slots + 0 ≤ R.slots) (hn : As.length = n) (hsize : ls.size = nL) (hst : st0 = As.reverse ++ rest) (hW : (rest.map fun v => v.category).sum ≤ 8) (hdg : decode cc pc = .ok (.invokestatic idx, 3)) (kk : ∀ (H1 : Heap) (locs1 : List Loc), va_P D classes (ws.set j (a, .inl (cy 0, nn, .inl f'))) H1 → va_D A (ws.set j (a, .inl (cy 0, nn, .inl f'))) → va_S A s.heap H1 locs1 → W p l e R s m args below meth c H1 locs1 cells slots Q (F0 m (pc + 3) ls rest)) : W p l e R s m args below meth c H locs cells slots Q (F0 m pc ls st0) := by
  have hPc : va_P D classes [(a, .inl (cy 0, nn, .inl f))] H := P_of hP (fun z hz => by simp only [List.mem_singleton] at hz; subst hz; exact List.mem_of_getElem? hj)
  have hFc : ∀ z, xA a H.size z → A z := fun z hz => hz.elim (fun hh => hh ▸ hD.2 j _ hj) (fun hh => hA z (Nat.le_trans hS.1 hh))
  refine va_callv (va_runS (As := As) (rest := rest) (g := F0 m pc ls st0) E.1 (hM H.size) ⟨callB_of n E.1.2.2.2.2 (tt_cons h4) rfl rfl rfl (E.1.2.2.2.2 _ h3) (E.1.2.2.2.2 _ h1) hd hR, E.1.2.2.2.2 _ h2⟩ ⟨a_blind, fun U hU hW => ⟨rfl, by rw [hU], by rw [hU]; exact hPc, va_K.moved hW.alike E.2⟩⟩ rfl hn hsize hst (lv_room hW) hdg hc) hS (fun q _ h => hFc q h) (fun q h => hFc q h) (fun u t H1 locs1 ht hvm hw hB hz hk hS => ?_)
  replace hB : va_P D classes [(a, .inl (cy 0, nn, .inl f'))] t.heap := hB
  rw [ht] at hB
  exact kk H1 locs1 (x_set hP hD hj hk hB) (hD.set hj) hS
end ARows
