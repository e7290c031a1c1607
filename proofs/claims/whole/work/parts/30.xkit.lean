/-! explicit worlds: what constructors make -/
theorem D_nodup {A : Nat → Prop} {ws : va_W} (h : va_D A ws) : (ws.map Prod.fst).Nodup ∧ ∀ a ∈ ws.map Prod.fst, A a := by
  constructor
  · refine List.pairwise_iff_getElem.mpr ?_
    intro i j hi hj hij he
    simp only [List.length_map] at hi hj
    have e1 : ws[i]? = some ws[i] := List.getElem?_eq_getElem hi
    have e2 : ws[j]? = some ws[j] := List.getElem?_eq_getElem hj
    have := h.1 i j _ _ e1 e2 (by simpa using he)
    omega
  · intro a ha
    obtain ⟨q, hq, rfl⟩ := List.mem_map.mp ha
    obtain ⟨k, hk⟩ := List.getElem?_of_mem hq
    exact h.2 k q hk
theorem P_app {D : va_G} {cl : List vw_C} {a b : va_W} {H : Heap} (h1 : va_P D cl a H) (h2 : va_P D cl b H) : va_P D cl (a ++ b) H := by
  intro k q hk
  rcases List.mem_append.mp (List.mem_of_getElem? hk) with h | h
  · obtain ⟨i, hi⟩ := List.getElem?_of_mem h; exact h1 i q hi
  · obtain ⟨i, hi⟩ := List.getElem?_of_mem h; exact h2 i q hi
theorem P_of {D : va_G} {cl : List vw_C} {a b : va_W} {H : Heap} (h : va_P D cl b H) (hs : ∀ q ∈ a, q ∈ b) : va_P D cl a H := by
  intro k q hk
  obtain ⟨i, hi⟩ := List.getElem?_of_mem (hs q (List.mem_of_getElem? hk))
  exact h i q hi
theorem P_keep {D : va_G} {cl : List vw_C} {a : va_W} {H H1 : Heap} {B : Nat → Prop} (h : va_P D cl a H) (hk : ∀ x : Nat, x < H.size → ¬ B x → H1[x]? = H[x]?) (hB : ∀ q ∈ a.map Prod.fst, ¬ B q) : va_P D cl a H1 :=
  h.kept fun k q hq => hk q.1 ((h k q hq).lt) (hB q.1 (List.mem_map.mpr ⟨q, List.mem_of_getElem? hq, rfl⟩))
def xA (h0 sz : Nat) : Nat → Prop := fun q => q = h0 ∨ sz ≤ q
def xN (U : State) : Prop := (∀ w ∈ nestL, va_Nw w U) ∧ va_AO RX6 U ∧ va_AO RX8 U
abbrev rmX (d mc ms : Nat) : Room := { frames := d, cells := mc, slots := ms, locals := 64 * d }
abbrev xPc (D : va_G) (cy : Nat → ClassId) (As : List Value) (ws0 : va_W) (h0 sz : Nat) : Array Value → State → Prop := va_Pc As (fun U => U.heap.size = sz ∧ va_P D classes ws0 U.heap ∧ va_K D classes (tys cy) U ∧ xN U)
abbrev xQv (D : va_G) (w : (Nat → Nat) → va_W) (h0 sz : Nat) : Array Value → State → Outcome → State → Prop := va_Qv (fun (_ : Nat → Nat) => True) (fun u t => va_P D classes (w u) t.heap ∧ va_D (xA h0 sz) (w u)) (xA h0 sz)
theorem xN.warm {s U : State} (h : xN s) (hW : s.WarmedH U.vm) : xN U := by
  refine ⟨fun w hw => ?_, h.2.1.moved hW.alike, h.2.2.moved hW.alike⟩
  obtain ⟨a, i, x, hh, rfl⟩ := nest_form w hw
  exact va_Nw.warmM hW (h.1 _ hw)
theorem x_blind {D : va_G} {cy : Nat → ClassId} {As : List Value} {ws0 : va_W} {h0 sz : Nat} : FrameBlind (xPc D cy As ws0 h0 sz) := fun a U g mk q => by
  refine ⟨q.1, q.2.1, q.2.2.1, va_K.moved (u := U) (U := U.calling g mk a) (Vm.Alike.refl U.vm) q.2.2.2.1, fun w hw => ?_, q.2.2.2.2.2.1.moved (Vm.Alike.refl U.vm), q.2.2.2.2.2.2.moved (Vm.Alike.refl U.vm)⟩
  obtain ⟨a', i, x, h, rfl⟩ := nest_form w hw
  exact va_Nw.same rfl rfl (q.2.2.2.2.1 _ hw)
abbrev xG (l : Launch) (d mc ms : Nat) (D : va_G) (w : (Nat → Nat) → va_W) (h0 : Nat) (p : Program) (e : Env) (s : State) (m : MethodId) (args : Array Value) (below : List Frame) (meth : Method) (c : Code) (H : Heap) (locs : List Loc) (cells slots : Nat) (g : JFrame) : Prop := W p l e (rmX d mc ms) s m args below meth c H locs cells slots (MQ below (xQv D w h0 s.heap.size) args s mc ms (xA h0 s.heap.size)) g
theorem x_met {l : Launch} {d mc ms : Nat} {y : MethodName} {cc : ByteArray} {maxL : Nat} {D : va_G} {cy : Nat → ClassId} {As : List Value} {h0 ci : Nat} {fs : List Value} {sz : Nat} {w : (Nat → Nat) → va_W} (hy : plainName y.cls = true) (hnm : y.name = "<init>") (hn : (lg_sl As).length ≤ maxL)
    (body : ∀ (p : Program) (e : Env) (s : State) (m : MethodId) (args : Array Value) (below : List Frame) (meth : Method) (c : Code) (ls : Array Slot), Ev p s m args c D cy cc maxL y.cls → p.tables.exec = Jvm.exec → c.code = cc → meth.sig.returnType = none → meth.locks = false → s.vm.findClass y.cls = some m.cls → (∀ w ∈ TT, w.before args s = true) → meth.name = "<init>" → xN s → c.maxLocals = maxL → lv_has ls maxL (lv_args 0 As) → va_P D classes [(h0, .inr (ci, fs))] s.heap → va_D (xA h0 s.heap.size) [(h0, .inr (ci, fs))] → va_S (xA h0 s.heap.size) s.heap s.heap [] → (∀ q : Nat, s.heap.size ≤ q → xA h0 s.heap.size q) → xG l d mc ms D w h0 p e s m args below meth c s.heap [] 0 0 (F0 m 0 ls [])) :
    Met l y (Cond.code y cc maxL none :: TT) (rmX d mc ms) (xPc D cy As [(h0, .inr (ci, fs))] h0 sz) (xQv D w h0 sz) mc ms (xA h0 sz) := by
  refine Met.ofW (cc := cc) (maxL := maxL) (ret := none) hy rfl ?_
  intro p e s m args below meth c s₁ B hml hv
  obtain ⟨hargs, hU, hP, hK, hN⟩ := hv
  have hts := atoms_spec (ws := Cond.code y cc maxL none :: TT) B.pre
  have hT : ∀ w ∈ TT, w.before args s = true := fun w h => hts w (List.mem_cons_of_mem _ h)
  have hown : s.vm.findClass y.cls = some m.cls := findClass_of_methodNamed B.named
  have hin : meth.name = "<init>" := (name_of_methodNamed B.named B.method).1.trans hnm
  have hl := lv_entry As (n := maxL) hn
  have he : entryFrame m args maxL = F0 m 0 ((lg_sl As ++ List.replicate (maxL - (lg_sl As).length) Slot.unset).toArray) [] := by rw [hargs]; exact lg_entry_eq m As maxL
  rw [he]
  subst hU
  exact body p e s m args below meth c _ ⟨⟨B.exec, B.bytes, hml, hown, hT⟩, hK⟩ B.exec B.bytes B.returns B.notSynchronized hown hT hin hN hml hl hP (va_D_nodup (l := [h0]) rfl (by simp) (fun q h => Or.inl (by simpa using h))) va_S.rf (fun q h => Or.inr h)
section XRows
variable {p : Program} {l : Launch} {e : Env} {R : Room} {s : State} {m : MethodId} {args : Array Value} {below : List Frame} {meth : Method} {c : Code} {H H0 : Heap} {locs : List Loc} {cells slots : Nat} {Q : State → Prop} {D : va_G} {cy : Nat → ClassId} {A : Nat → Prop} {cc : ByteArray} {nL pc d : Nat} {ls : Array Slot} {rest st0 : List Value} {ws : va_W} {own : String}
theorem x_newI {n : Int32} (N : Nat) (E : Ev p s m args c D cy cc nL own) (hP : va_P D classes ws H) (hD : va_D A ws) (hS : va_S A s.heap H locs) (hA : ∀ q, s.heap.size ≤ q → A q) (hn : ¬ n < 0) (hN : n.toNatClampNeg = N) (hby : N * componentBytes .int ≤ 536870912) (hc : cells + 1 ≤ R.cells) (hs : slots + N ≤ R.slots) (hdg : decode cc pc = .ok (.newarray .int, 2)) (kk : ∀ (q : Nat) (H1 : Heap), va_P D classes (ws ++ [(q, .inl (cy 0, N, .inl (fun _ => 0)))]) H1 → va_D A (ws ++ [(q, .inl (cy 0, N, .inl (fun _ => 0)))]) → va_S A s.heap H1 locs → W p l e R s m args below meth c H1 locs (cells + 1) (slots + N) Q (F0 m (pc + 2) ls (.ref q :: rest))) : W p l e R s m args below meth c H locs cells slots Q (F0 m pc ls (.int n :: rest)) := by
  refine va_newa (tys := tys cy) (a0 := (N, .inl (fun _ => 0))) E.1.1 E.1.2.1 (atype := .int) (ty := .int) (E.1.2.2.2.2 _ k_81) rfl E.2 hP hD hS hA (fun cA => rfl) hn hN hby hc hs hdg (fun q cA H1 hK hP hD hS => ?_)
  have h1 := va_nm_int (hK.2 5 (cA, .int) rfl).2
  have h2 := va_nm_int (E.2.2 0 (cy 0, .int) rfl).2
  have h3 : cA = cy 0 := Option.some.inj (h1.symm.trans h2)
  subst h3
  exact kk q H1 hP hD hS
theorem x_newJ {n : Int32} (N : Nat) (E : Ev p s m args c D cy cc nL own) (hP : va_P D classes ws H) (hD : va_D A ws) (hS : va_S A s.heap H locs) (hA : ∀ q, s.heap.size ≤ q → A q) (hn : ¬ n < 0) (hN : n.toNatClampNeg = N) (hby : N * componentBytes .long ≤ 536870912) (hc : cells + 1 ≤ R.cells) (hs : slots + N ≤ R.slots) (hdg : decode cc pc = .ok (.newarray .long, 2)) (kk : ∀ (q : Nat) (H1 : Heap), va_P D classes (ws ++ [(q, .inl (cy 1, N, .inr (.inl (fun _ => 0))))]) H1 → va_D A (ws ++ [(q, .inl (cy 1, N, .inr (.inl (fun _ => 0))))]) → va_S A s.heap H1 locs → W p l e R s m args below meth c H1 locs (cells + 1) (slots + N) Q (F0 m (pc + 2) ls (.ref q :: rest))) : W p l e R s m args below meth c H locs cells slots Q (F0 m pc ls (.int n :: rest)) := by
  refine va_newa (tys := tys cy) (a0 := (N, .inr (.inl (fun _ => 0)))) E.1.1 E.1.2.1 (atype := .long) (ty := .long) (E.1.2.2.2.2 _ k_319) rfl E.2 hP hD hS hA (fun cA => rfl) hn hN hby hc hs hdg (fun q cA H1 hK hP hD hS => ?_)
  have h1 := va_nm_long (hK.2 5 (cA, .long) rfl).2
  have h2 := va_nm_long (E.2.2 1 (cy 1, .long) rfl).2
  have h3 : cA = cy 1 := Option.some.inj (h1.symm.trans h2)
  subst h3
  exact kk q H1 hP hD hS
theorem x_newZ {n : Int32} (N : Nat) (E : Ev p s m args c D cy cc nL own) (hP : va_P D classes ws H) (hD : va_D A ws) (hS : va_S A s.heap H locs) (hA : ∀ q, s.heap.size ≤ q → A q) (hn : ¬ n < 0) (hN : n.toNatClampNeg = N) (hby : N * componentBytes .boolean ≤ 536870912) (hc : cells + 1 ≤ R.cells) (hs : slots + N ≤ R.slots) (hdg : decode cc pc = .ok (.newarray .boolean, 2)) (kk : ∀ (q : Nat) (H1 : Heap), va_P D classes (ws ++ [(q, .inl (cy 2, N, .inl (fun _ => 0)))]) H1 → va_D A (ws ++ [(q, .inl (cy 2, N, .inl (fun _ => 0)))]) → va_S A s.heap H1 locs → W p l e R s m args below meth c H1 locs (cells + 1) (slots + N) Q (F0 m (pc + 2) ls (.ref q :: rest))) : W p l e R s m args below meth c H locs cells slots Q (F0 m pc ls (.int n :: rest)) := by
  refine va_newa (tys := tys cy) (a0 := (N, .inl (fun _ => 0))) E.1.1 E.1.2.1 (atype := .boolean) (ty := .boolean) (E.1.2.2.2.2 _ k_1333) rfl E.2 hP hD hS hA (fun cA => rfl) hn hN hby hc hs hdg (fun q cA H1 hK hP hD hS => ?_)
  have h1 := va_nm_boolean (hK.2 5 (cA, .boolean) rfl).2
  have h2 := va_nm_boolean (E.2.2 2 (cy 2, .boolean) rfl).2
  have h3 : cA = cy 2 := Option.some.inj (h1.symm.trans h2)
  subst h3
  exact kk q H1 hP hD hS
theorem x_newQ {n : Int32} {C : String} {index : Nat} (N k : Nat) (hk : (tys cy)[k]? = some (cy k, .object C)) (E : Ev p s m args c D cy cc nL own) (hcl : Cond.classLink own index C ∈ TT) (hov : va_AO C s) (hP : va_P D classes ws H) (hD : va_D A ws) (hS : va_S A s.heap H locs) (hA : ∀ q, s.heap.size ≤ q → A q) (hn : ¬ n < 0) (hN : n.toNatClampNeg = N) (hby : N * 4 ≤ 536870912) (hc : cells + 1 ≤ R.cells) (hs : slots + N ≤ R.slots) (hdg : decode cc pc = .ok (.anewarray index, 3)) (kk : ∀ (q : Nat) (H1 : Heap), va_P D classes (ws ++ [(q, .inl (cy k, N, .inr (.inr (.inr (.inr (fun _ => none))))))]) H1 → va_D A (ws ++ [(q, .inl (cy k, N, .inr (.inr (.inr (.inr (fun _ => none))))))]) → va_S A s.heap H1 locs → W p l e R s m args below meth c H1 locs (cells + 1) (slots + N) Q (F0 m (pc + 3) ls (.ref q :: rest))) : W p l e R s m args below meth c H locs cells slots Q (F0 m pc ls (.int n :: rest)) := by
  refine va_newq (tys := tys cy) E.1.1 E.1.2.1 E.1.2.2.2.1 (E.1.2.2.2.2 _ hcl) hov E.2 hP hD hS hA hn hN hby hc hs hdg (fun q cA H1 hK hP hD hS => ?_)
  have h1 := (hK.2 5 (cA, .object C) rfl).2
  have h2 := (E.2.2 k (cy k, .object C) hk).2
  obtain ⟨_, _, _, _, _, e1⟩ := h1
  obtain ⟨_, _, _, _, _, e2⟩ := h2
  have h3 : cA = cy k := Option.some.inj (e1.symm.trans e2)
  subst h3
  exact kk q H1 hP hD hS
theorem x_join {rest n1 : va_W} {q : Nat} {x0 : va_E} {H1 : Heap} (hP : va_P D classes (rest ++ [(q, x0)]) H) (hD : va_D A (rest ++ [(q, x0)])) (hk : ∀ x : Nat, x < H.size → ¬ xA q H.size x → H1[x]? = H[x]?) (hP1 : va_P D classes n1 H1) (hD1 : va_D (xA q H.size) n1) (hF : ∀ x, xA q H.size x → A x) : va_P D classes (rest ++ n1) H1 ∧ va_D A (rest ++ n1) := by
  obtain ⟨n0, a0⟩ := D_nodup hD
  obtain ⟨m0, b0⟩ := D_nodup hD1
  rw [List.map_append, List.nodup_append] at n0
  have hr : va_P D classes rest H := P_of hP (fun x hx => List.mem_append_left _ hx)
  have hlt : ∀ a ∈ rest.map Prod.fst, a < H.size := by
    intro a ha
    obtain ⟨z, hz, rfl⟩ := List.mem_map.mp ha
    obtain ⟨i, hi⟩ := List.getElem?_of_mem hz
    exact (hr i z hi).lt
  have hne : ∀ a ∈ rest.map Prod.fst, ¬ xA q H.size a := by
    intro a ha hx
    rcases hx with rfl | hx
    · exact n0.2.2 a ha a (by simp) rfl
    · exact absurd (hlt a ha) (Nat.not_lt.mpr hx)
  refine ⟨P_app (P_keep hr hk hne) hP1, va_D_nodup (l := rest.map Prod.fst ++ n1.map Prod.fst) (List.map_append ..) ?_ ?_⟩
  · rw [List.nodup_append]
    refine ⟨n0.1, m0, fun a ha b hb hab => ?_⟩
    subst hab
    exact hne a ha (b0 a hb)
  · intro a ha
    rcases List.mem_append.mp ha with h | h
    · exact a0 a (by rw [List.map_append]; exact List.mem_append_left _ h)
    · exact hF a (b0 a h)
end XRows
