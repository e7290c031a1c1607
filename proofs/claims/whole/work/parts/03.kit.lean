/-! own kit: words, guards, the state, contracts -/
def TT : List Cond := lw_tbl.filter goodWord
theorem tt_t {w : Cond} (i : Nat) (h : tables_1[i]? = some w) (g : goodWord w = true) : w ∈ TT := List.mem_filter.mpr ⟨List.mem_append_right _ (List.mem_of_getElem? h), g⟩
theorem tt_s {w : Cond} (i : Nat) (h : (k2_sels lw_privs)[i]? = some w) (g : goodWord w = true) : w ∈ TT := List.mem_filter.mpr ⟨List.mem_append_left _ (List.mem_of_getElem? h), g⟩
theorem tt_good : ∀ w ∈ TT, (w.onTables && w.keeps) = true ∨ ∃ ty, w = .arrayClass ty := fun w h => good_of_word (List.mem_filter.mp h).2
theorem tt_in {ws : List Cond} (h : ∀ w ∈ ws, w ∈ TT) : GoodIn TT ws := fun w hw => ⟨h w hw, tt_good w (h w hw)⟩
theorem gV {own C : String} {idx n : Nat} {y : MethodName} {b : ByteArray} {r : Option FieldType} (h1 : Cond.methodLink own idx y ∈ TT) (h2 : Cond.instanceMethod y ∈ TT) (h3 : Cond.selects C y y ∈ TT) (h4 : Cond.initialized C ∈ TT) (h5 : Cond.code y b n r ∈ TT) : GoodIn TT (wsV own idx C y (Cond.code y b n r :: TT)) := by
  refine tt_in fun w hw => ?_
  simp only [wsV, List.mem_append, List.mem_cons, List.not_mem_nil, or_false] at hw
  rcases hw with (rfl | rfl | rfl | rfl) | rfl | h <;> assumption
theorem gS {own : String} {idx n : Nat} {y : MethodName} {b : ByteArray} {r : Option FieldType} (h1 : Cond.methodLink own idx y ∈ TT) (h2 : Cond.static y ∈ TT) (h4 : Cond.initialized own ∈ TT) (h5 : Cond.code y b n r ∈ TT) : GoodIn TT (wsS own idx y (Cond.code y b n r :: TT)) := by
  refine tt_in fun w hw => ?_
  simp only [wsS, List.mem_append, List.mem_cons, List.not_mem_nil, or_false] at hw
  rcases hw with (rfl | rfl | rfl) | rfl | h <;> assumption
/-! guards and binds of the functions that the code is turned into -/
def lt {α β : Type} (e : α) (k : α → β) : β := k e
theorem lt_at {α β : Type} {e x : α} {k : α → Option β} {r : β} (ex : x = e) (h : lt e k = some r) : k x = some r := by subst ex; exact h
def gi {α : Type} (i : Int32) (n : Nat) (x : Option α) : Option α := if i < 0 ∨ n ≤ i.toNatClampNeg then none else x
theorem gi_some {α : Type} {i : Int32} {n : Nat} {x : Option α} {r : α} (h : gi i n x = some r) : vp_in i n ∧ x = some r := by
  unfold gi at h
  split at h
  · cases h
  · rename_i hc; exact ⟨hc, h⟩
theorem vi {i : Int32} {n : Nat} (h : (decide (i < 0) || decide (n ≤ i.toNatClampNeg)) = false) : vp_in i n := by
  intro hc
  simp only [Bool.or_eq_false_iff, decide_eq_false_iff_not] at h
  exact hc.elim h.1 h.2
def gz {α : Type} (y : Int32) (x : Option α) : Option α := if y = 0 then none else x
theorem gz_some {α : Type} {y : Int32} {x : Option α} {r : α} (h : gz y x = some r) : ¬ y = 0 ∧ x = some r := by
  unfold gz at h
  split at h
  · cases h
  · rename_i hc; exact ⟨hc, h⟩
def gzl {α : Type} (y : Int64) (x : Option α) : Option α := if y = 0 then none else x
theorem gzl_some {α : Type} {y : Int64} {x : Option α} {r : α} (h : gzl y x = some r) : ¬ y = 0 ∧ x = some r := by
  unfold gzl at h
  split at h
  · cases h
  · rename_i hc; exact ⟨hc, h⟩
def gb {α : Type} (y : Int32) (x : Option α) : Option α := if y = 0 ∨ y = 1 then x else none
theorem gb_nar {y : Int32} (h : y = 0 ∨ y = 1) : narrow .boolean (.int y) = .int y := by rcases h with rfl | rfl <;> decide
theorem gb_fit {y : Int32} (h : y = 0 ∨ y = 1) : fits .boolean (.int y) = true := by rcases h with rfl | rfl <;> decide
theorem gb_some {α : Type} {y : Int32} {x : Option α} {r : α} (h : gb y x = some r) : (y = 0 ∨ y = 1) ∧ x = some r := by
  unfold gb at h
  split at h
  · rename_i hc; exact ⟨hc, h⟩
  · cases h
def bd {ρ σ τ : Type} (x : Option (ρ × σ)) (k : ρ → σ → Option τ) : Option τ := match x with
  | some (r, s) => k r s
  | none => none
theorem bd_some {ρ σ τ : Type} {x : Option (ρ × σ)} {k : ρ → σ → Option τ} {z : τ} (h : bd x k = some z) : ∃ r s, x = some (r, s) ∧ k r s = some z := by
  match x, h with
  | some (r, s), h => exact ⟨r, s, rfl, h⟩
def bs {ρ τ : Type} (x : Option ρ) (k : ρ → Option τ) : Option τ := match x with
  | some r => k r
  | none => none
theorem bs_some {ρ τ : Type} {x : Option ρ} {k : ρ → Option τ} {z : τ} (h : bs x k = some z) : ∃ r, x = some r ∧ k r = some z := by
  match x, h with
  | some r, h => exact ⟨r, rfl, h⟩
theorem it_pos {α : Type} {c : Prop} [Decidable c] {A B : Option α} {r : α} (hc : c) (h : (if c then A else B) = some r) : A = some r := by rw [if_pos hc] at h; exact h
theorem it_neg {α : Type} {c : Prop} [Decidable c] {A B : Option α} {r : α} (hc : ¬ c) (h : (if c then A else B) = some r) : B = some r := by rw [if_neg hc] at h; exact h
def lp {F : Type} (z : F) (body : F → F) : Nat → F
  | 0 => z
  | n + 1 => body (lp z body n)
theorem tb_out {lo hi : Int} {xv : Int32} (h : ∀ k : Int, lo ≤ k → k ≤ hi → xv = Int32.ofInt k → False) : xv.toInt < lo ∨ hi < xv.toInt := by
  rcases Int.lt_or_le xv.toInt lo with h1 | h1
  · exact Or.inl h1
  · rcases Int.lt_or_le hi xv.toInt with h2 | h2
    · exact Or.inr h2
    · exact absurd (Int32.ofInt_toInt xv).symm (fun q => h _ h1 h2 q)
theorem lk_eq {xv : Int32} {k : Int32} (h : xv.toInt = k.toInt) : xv = k := Int32.toInt_inj.mp h
/-! the state that a world holds: ints, longs, rows of ints, rows of longs, rows of references, by number -/
abbrev St : Type := (Nat → Int32) × (Nat → Int64) × (Nat → Nat → Int32) × (Nat → Nat → Int64) × (Nat → Nat → Option Nat)
def sI (st : St) (k : Nat) (x : Int32) : St := (va_up st.1 k x, st.2)
def sJ (st : St) (k : Nat) (x : Int64) : St := (st.1, va_up st.2.1 k x, st.2.2)
def sA (st : St) (k : Nat) (f : Nat → Int32) : St := (st.1, st.2.1, va_up st.2.2.1 k f, st.2.2.2)
def sB (st : St) (k : Nat) (f : Nat → Int64) : St := (st.1, st.2.1, st.2.2.1, va_up st.2.2.2.1 k f, st.2.2.2.2)
def sR (st : St) (k : Nat) (f : Nat → Option Nat) : St := (st.1, st.2.1, st.2.2.1, st.2.2.2.1, va_up st.2.2.2.2 k f)
abbrev classes : List vw_C := [(RX0, TX0, 5), (RX1, TX1, 5), (RX2, TX2, 6), (RX3, TX3, 6), (RX4, TX4, 7), (RX5, TX5, 4), (RX6, TX6, 13), (RX7, TX7, 8), (RX8, TX8, 6), (RX9, TX9, 7), (RX10, TX10, 6), (RX11, TX11, 13), (RX12, TX12, 53)]
abbrev tys (cy : Nat → ClassId) : List (ClassId × FieldType) := [(cy 0, .int), (cy 1, .long), (cy 2, .boolean), (cy 3, .object RX6), (cy 4, .object RX8)]
def Ev0 (p : Program) (s : State) (m : MethodId) (args : Array Value) (c : Code) (cc : ByteArray) (nL : Nat) (own : String) : Prop :=
  p.tables.exec = Jvm.exec ∧ c.code = cc ∧ c.maxLocals = nL ∧ s.vm.findClass own = some m.cls ∧ ∀ w ∈ TT, w.before args s = true
def Ev (p : Program) (s : State) (m : MethodId) (args : Array Value) (c : Code) (D : va_G) (cy : Nat → ClassId) (cc : ByteArray) (nL : Nat) (own : String) : Prop := Ev0 p s m args c cc nL own ∧ va_K D classes (tys cy) s
abbrev rmD (d : Nat) : Room := { frames := d, cells := 0, slots := 0, locals := 64 * d }
/-- a static method of numbers alone -/
abbrev sPc (As : List Value) (h0 : Heap) : Array Value → State → Prop := va_Pc As (fun U => U.heap = h0)
abbrev sQi (r : Int32) (h0 : Heap) : Array Value → State → Outcome → State → Prop := va_Qi (fun (x : Int32) (_ : Unit) => x = r) (fun _ t => t.heap = h0) (fun _ => False)
abbrev sQl (r : Int64) (h0 : Heap) : Array Value → State → Outcome → State → Prop := va_Ql (fun (x : Int64) (_ : Unit) => x = r) (fun _ t => t.heap = h0) (fun _ => False)
abbrev sGi (l : Launch) (d : Nat) (rr : Int32) (p : Program) (e : Env) (s : State) (m : MethodId) (args : Array Value) (below : List Frame) (meth : Method) (c : Code) (g : JFrame) : Prop := W p l e (rmD d) s m args below meth c s.heap [] 0 0 (MQ below (sQi rr s.heap) args s 0 0 (fun _ => False)) g
abbrev sGl (l : Launch) (d : Nat) (rr : Int64) (p : Program) (e : Env) (s : State) (m : MethodId) (args : Array Value) (below : List Frame) (meth : Method) (c : Code) (g : JFrame) : Prop := W p l e (rmD d) s m args below meth c s.heap [] 0 0 (MQ below (sQl rr s.heap) args s 0 0 (fun _ => False)) g
section OwnRows
variable {p : Program} {l : Launch} {e : Env} {R : Room} {s : State} {m : MethodId} {args : Array Value} {below : List Frame} {meth : Method} {c : Code} {H H0 : Heap} {locs : List Loc} {cells slots : Nat} {Q : State → Prop} {D : va_G} {cy : Nat → ClassId} {A0 : Nat → Prop} {cc : ByteArray} {nL pc d : Nat} {ls : Array Slot} {rest st0 : List Value}
theorem va_F_same {A : Nat → Prop} {s t : State} (h : t.heap = s.heap) : va_F A s t := ⟨by rw [h]; exact Nat.le_refl _, fun q _ _ => by rw [h]⟩
theorem s_iret {rr xv : Int32} (hx : p.tables.exec = Jvm.exec) (hb : c.code = cc) (hr : meth.sig.returnType = some .int) (hlocks : meth.locks = false) (hf : some xv = some rr) (hdg : decode cc pc = .ok (.ireturn, 1)) : sGi l d rr p e s m args below meth c (F0 m pc ls [.int xv]) := by
  cases hf
  exact W.iret hx hb hr (fun t ht hW => ⟨⟨_, (), rfl, rfl, ht⟩, va_F_same ht⟩) (by intro q h; cases h) hdg hlocks
theorem s_zret {rr xv : Int32} (hx : p.tables.exec = Jvm.exec) (hb : c.code = cc) (hr : meth.sig.returnType = some .boolean) (hlocks : meth.locks = false) (hn : xv = 0 ∨ xv = 1) (hf : some xv = some rr) (hdg : decode cc pc = .ok (.ireturn, 1)) : sGi l d rr p e s m args below meth c (F0 m pc ls [.int xv]) := by
  cases hf
  exact W.zret hx hb hr (gb_nar hn) (fun t ht hW => ⟨⟨_, (), rfl, rfl, ht⟩, va_F_same ht⟩) (by intro q h; cases h) hdg hlocks
theorem s_lret {rr xv : Int64} (hx : p.tables.exec = Jvm.exec) (hb : c.code = cc) (hr : meth.sig.returnType = some .long) (hlocks : meth.locks = false) (hf : some xv = some rr) (hdg : decode cc pc = .ok (.lreturn, 1)) : sGl l d rr p e s m args below meth c (F0 m pc ls [.long xv]) := by
  cases hf
  exact W.lret hx hb hr (fun t ht hW => ⟨⟨_, (), rfl, rfl, ht⟩, va_F_same ht⟩) (by intro q h; cases h) hdg hlocks
theorem s_meti {y : MethodName} {maxL : Nat} {ret : Option FieldType} {As : List Value} {hh : Heap} {rr : Int32} (hy : plainName y.cls = true) (hn : (lg_sl As).length ≤ maxL)
    (body : ∀ (p : Program) (e : Env) (s : State) (m : MethodId) (args : Array Value) (below : List Frame) (meth : Method) (c : Code) (ls : Array Slot), Ev0 p s m args c cc maxL y.cls → p.tables.exec = Jvm.exec → c.code = cc → meth.sig.returnType = ret → meth.locks = false → s.vm.findClass y.cls = some m.cls → (∀ w ∈ TT, w.before args s = true) → lv_has ls maxL (lv_args 0 As) → sGi l d rr p e s m args below meth c (F0 m 0 ls [])) :
    Met l y (Cond.code y cc maxL ret :: TT) (rmD d) (sPc As hh) (sQi rr hh) 0 0 (fun _ => False) := by
  refine Met.ofW (cc := cc) (maxL := maxL) (ret := ret) hy rfl ?_
  intro p e s m args below meth c s₁ B hml hv
  obtain ⟨hargs, hU⟩ := hv
  have hts := atoms_spec (ws := Cond.code y cc maxL ret :: TT) B.pre
  have hT : ∀ w ∈ TT, w.before args s = true := fun w h => hts w (List.mem_cons_of_mem _ h)
  have hown : s.vm.findClass y.cls = some m.cls := findClass_of_methodNamed B.named
  have hl := lv_entry As (n := maxL) hn
  have he : entryFrame m args maxL = F0 m 0 ((lg_sl As ++ List.replicate (maxL - (lg_sl As).length) Slot.unset).toArray) [] := by rw [hargs]; exact lg_entry_eq m As maxL
  rw [he]
  have hb2 := body p e s m args below meth c _ ⟨B.exec, B.bytes, hml, hown, hT⟩ B.exec B.bytes B.returns B.notSynchronized hown hT hl
  rw [← hU]
  exact hb2
theorem s_metl {y : MethodName} {maxL : Nat} {ret : Option FieldType} {As : List Value} {hh : Heap} {rr : Int64} (hy : plainName y.cls = true) (hn : (lg_sl As).length ≤ maxL)
    (body : ∀ (p : Program) (e : Env) (s : State) (m : MethodId) (args : Array Value) (below : List Frame) (meth : Method) (c : Code) (ls : Array Slot), Ev0 p s m args c cc maxL y.cls → p.tables.exec = Jvm.exec → c.code = cc → meth.sig.returnType = ret → meth.locks = false → s.vm.findClass y.cls = some m.cls → (∀ w ∈ TT, w.before args s = true) → lv_has ls maxL (lv_args 0 As) → sGl l d rr p e s m args below meth c (F0 m 0 ls [])) :
    Met l y (Cond.code y cc maxL ret :: TT) (rmD d) (sPc As hh) (sQl rr hh) 0 0 (fun _ => False) := by
  refine Met.ofW (cc := cc) (maxL := maxL) (ret := ret) hy rfl ?_
  intro p e s m args below meth c s₁ B hml hv
  obtain ⟨hargs, hU⟩ := hv
  have hts := atoms_spec (ws := Cond.code y cc maxL ret :: TT) B.pre
  have hT : ∀ w ∈ TT, w.before args s = true := fun w h => hts w (List.mem_cons_of_mem _ h)
  have hown : s.vm.findClass y.cls = some m.cls := findClass_of_methodNamed B.named
  have hl := lv_entry As (n := maxL) hn
  have he : entryFrame m args maxL = F0 m 0 ((lg_sl As ++ List.replicate (maxL - (lg_sl As).length) Slot.unset).toArray) [] := by rw [hargs]; exact lg_entry_eq m As maxL
  rw [he]
  have hb2 := body p e s m args below meth c _ ⟨B.exec, B.bytes, hml, hown, hT⟩ B.exec B.bytes B.returns B.notSynchronized hown hT hl
  rw [← hU]
  exact hb2
theorem s_blind {As : List Value} {h0 : Heap} : FrameBlind (sPc As h0) := fun _ _ _ _ q => q
/-- a call of such a method: nothing changes -/
theorem s_calli {own : String} {idx n maxL d : Nat} {y : MethodName} {bytes : ByteArray} {ret : Option FieldType} {As : List Value} {r : Int32} (E : Ev0 p s m args c cc nL own) (hM : Met l y (Cond.code y bytes maxL ret :: TT) (rmD d) (sPc As H) (sQi r H) 0 0 (fun _ => False)) (hG : GoodIn TT (wsS own idx y (Cond.code y bytes maxL ret :: TT))) (hd : y.cls = own ∧ y.cls ≠ "java/lang/invoke/MethodHandle" ∧ y.cls ≠ "java/lang/invoke/VarHandle" ∧ (parseMethodDescriptor y.desc).map (fun d => d.parameters.length) = some n) (hR : d + 1 ≤ R.frames ∧ 8 + (maxL + 11) + 64 * d ≤ R.locals) (hc : cells + 0 ≤ R.cells ∧ slots + 0 ≤ R.slots) (hn : As.length = n) (hsize : ls.size = nL) (hst : st0 = As.reverse ++ rest) (hW : (rest.map fun v => v.category).sum ≤ 8) (hdg : decode cc pc = .ok (.invokestatic idx, 3)) (kk : W p l e R s m args below meth c H locs cells slots Q (F0 m (pc + 3) ls (.int r :: rest))) : W p l e R s m args below meth c H locs cells slots Q (F0 m pc ls st0) := by
  refine W.of (H' := H) (locs' := locs) (cells' := cells) (slots' := slots) (g2 := F0 m (pc + 3) ls (.int r :: rest)) ?_ kk
  intro T hT X
  obtain ⟨v, st₀, t, T', L, h0, X', hL, e1, e2, ⟨⟨r', u, hv, hp, hb⟩, -⟩, st⟩ := va_runS (As := As) (rest := rest) (g := F0 m pc ls st0) E hM (cwS n E.2.2.2.2 hG rfl rfl rfl hd hR) ⟨s_blind, fun U hU hW => ⟨rfl, hU⟩⟩ rfl hn hsize hst (lv_room hW) hdg hc T hT X
  have hL0 : L = [] := by
    cases L with
    | nil => rfl
    | cons a b => exact absurd (hL a List.mem_cons_self) (fun h => h)
  subst hL0
  cases hv
  subst hp
  refine ⟨T', by rw [e1]; exact hb, ?_, st⟩
  simpa using X'
theorem s_calll {own : String} {idx n maxL d : Nat} {y : MethodName} {bytes : ByteArray} {ret : Option FieldType} {As : List Value} {r : Int64} (E : Ev0 p s m args c cc nL own) (hM : Met l y (Cond.code y bytes maxL ret :: TT) (rmD d) (sPc As H) (sQl r H) 0 0 (fun _ => False)) (hG : GoodIn TT (wsS own idx y (Cond.code y bytes maxL ret :: TT))) (hd : y.cls = own ∧ y.cls ≠ "java/lang/invoke/MethodHandle" ∧ y.cls ≠ "java/lang/invoke/VarHandle" ∧ (parseMethodDescriptor y.desc).map (fun d => d.parameters.length) = some n) (hR : d + 1 ≤ R.frames ∧ 8 + (maxL + 11) + 64 * d ≤ R.locals) (hc : cells + 0 ≤ R.cells ∧ slots + 0 ≤ R.slots) (hn : As.length = n) (hsize : ls.size = nL) (hst : st0 = As.reverse ++ rest) (hW : (rest.map fun v => v.category).sum ≤ 8) (hdg : decode cc pc = .ok (.invokestatic idx, 3)) (kk : W p l e R s m args below meth c H locs cells slots Q (F0 m (pc + 3) ls (.long r :: rest))) : W p l e R s m args below meth c H locs cells slots Q (F0 m pc ls st0) := by
  refine W.of (H' := H) (locs' := locs) (cells' := cells) (slots' := slots) (g2 := F0 m (pc + 3) ls (.long r :: rest)) ?_ kk
  intro T hT X
  obtain ⟨v, st₀, t, T', L, h0, X', hL, e1, e2, ⟨⟨r', u, hv, hp, hb⟩, -⟩, st⟩ := va_runS (As := As) (rest := rest) (g := F0 m pc ls st0) E hM (cwS n E.2.2.2.2 hG rfl rfl rfl hd hR) ⟨s_blind, fun U hU hW => ⟨rfl, hU⟩⟩ rfl hn hsize hst (lv_room hW) hdg hc T hT X
  have hL0 : L = [] := by
    cases L with
    | nil => rfl
    | cons a b => exact absurd (hL a List.mem_cons_self) (fun h => h)
  subst hL0
  cases hv
  subst hp
  refine ⟨T', by rw [e1]; exact hb, ?_, st⟩
  simpa using X'
end OwnRows
