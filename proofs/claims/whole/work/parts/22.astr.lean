theorem dJ_len_0 : decode cJ0_length_8abf5 0 = .ok (.aload_n 0, 1) := by decide +kernel
theorem dJ_len_1 : decode cJ0_length_8abf5 1 = .ok (.getfield 9, 3) := by decide +kernel
theorem dJ_len_4 : decode cJ0_length_8abf5 4 = .ok (.arraylength, 1) := by decide +kernel
theorem dJ_len_5 : decode cJ0_length_8abf5 5 = .ok (.aload_n 0, 1) := by decide +kernel
theorem dJ_len_6 : decode cJ0_length_8abf5 6 = .ok (.invokevirtual 335, 3) := by decide +kernel
theorem dJ_len_9 : decode cJ0_length_8abf5 9 = .ok (.ishr, 1) := by decide +kernel
theorem dJ_len_10 : decode cJ0_length_8abf5 10 = .ok (.ireturn, 1) := by decide +kernel
theorem dJ_cod_0 : decode cJ0_coder_7d493 0 = .ok (.getstatic 38, 3) := by decide +kernel
theorem dJ_cod_3 : decode cJ0_coder_7d493 3 = .ok (.ifCond .eq 10, 3) := by decide +kernel
theorem dJ_cod_6 : decode cJ0_coder_7d493 6 = .ok (.aload_n 0, 1) := by decide +kernel
theorem dJ_cod_7 : decode cJ0_coder_7d493 7 = .ok (.getfield 15, 3) := by decide +kernel
theorem dJ_cod_10 : decode cJ0_coder_7d493 10 = .ok (.goto 4, 3) := by decide +kernel
theorem dJ_cod_14 : decode cJ0_coder_7d493 14 = .ok (.ireturn, 1) := by decide +kernel
theorem dJ_lat_0 : decode cJ0_isLatin1_aae02 0 = .ok (.getstatic 38, 3) := by decide +kernel
theorem dJ_lat_3 : decode cJ0_isLatin1_aae02 3 = .ok (.ifCond .eq 14, 3) := by decide +kernel
theorem dJ_lat_6 : decode cJ0_isLatin1_aae02 6 = .ok (.aload_n 0, 1) := by decide +kernel
theorem dJ_lat_7 : decode cJ0_isLatin1_aae02 7 = .ok (.getfield 15, 3) := by decide +kernel
theorem dJ_lat_10 : decode cJ0_isLatin1_aae02 10 = .ok (.ifCond .ne 7, 3) := by decide +kernel
theorem dJ_lat_13 : decode cJ0_isLatin1_aae02 13 = .ok (.iconst 1, 1) := by decide +kernel
theorem dJ_lat_14 : decode cJ0_isLatin1_aae02 14 = .ok (.goto 4, 3) := by decide +kernel
theorem dJ_lat_18 : decode cJ0_isLatin1_aae02 18 = .ok (.ireturn, 1) := by decide +kernel
theorem dJ_chr_0 : decode cJ0_charAt_5068e 0 = .ok (.aload_n 0, 1) := by decide +kernel
theorem dJ_chr_1 : decode cJ0_charAt_5068e 1 = .ok (.invokevirtual 492, 3) := by decide +kernel
theorem dJ_chr_4 : decode cJ0_charAt_5068e 4 = .ok (.ifCond .eq 12, 3) := by decide +kernel
theorem dJ_chr_7 : decode cJ0_charAt_5068e 7 = .ok (.aload_n 0, 1) := by decide +kernel
theorem dJ_chr_8 : decode cJ0_charAt_5068e 8 = .ok (.getfield 9, 3) := by decide +kernel
theorem dJ_chr_11 : decode cJ0_charAt_5068e 11 = .ok (.iload_n 1, 1) := by decide +kernel
theorem dJ_chr_12 : decode cJ0_charAt_5068e 12 = .ok (.invokestatic 495, 3) := by decide +kernel
theorem dJ_chr_15 : decode cJ0_charAt_5068e 15 = .ok (.ireturn, 1) := by decide +kernel
theorem dJ_lch_0 : decode cJ1_charAt_3b067 0 = .ok (.iload_n 1, 1) := by decide +kernel
theorem dJ_lch_1 : decode cJ1_charAt_3b067 1 = .ok (.aload_n 0, 1) := by decide +kernel
theorem dJ_lch_2 : decode cJ1_charAt_3b067 2 = .ok (.arraylength, 1) := by decide +kernel
theorem dJ_lch_3 : decode cJ1_charAt_3b067 3 = .ok (.invokestatic 9, 3) := by decide +kernel
theorem dJ_lch_6 : decode cJ1_charAt_3b067 6 = .ok (.aload_n 0, 1) := by decide +kernel
theorem dJ_lch_7 : decode cJ1_charAt_3b067 7 = .ok (.iload_n 1, 1) := by decide +kernel
theorem dJ_lch_8 : decode cJ1_charAt_3b067 8 = .ok (.baload, 1) := by decide +kernel
theorem dJ_lch_9 : decode cJ1_charAt_3b067 9 = .ok (.sipush 255, 3) := by decide +kernel
theorem dJ_lch_12 : decode cJ1_charAt_3b067 12 = .ok (.iand, 1) := by decide +kernel
theorem dJ_lch_13 : decode cJ1_charAt_3b067 13 = .ok (.i2c, 1) := by decide +kernel
theorem dJ_lch_14 : decode cJ1_charAt_3b067 14 = .ok (.ireturn, 1) := by decide +kernel
theorem dJ_chk_0 : decode cJ0_checkIndex_df160 0 = .ok (.iload_n 0, 1) := by decide +kernel
theorem dJ_chk_1 : decode cJ0_checkIndex_df160 1 = .ok (.iload_n 1, 1) := by decide +kernel
theorem dJ_chk_2 : decode cJ0_checkIndex_df160 2 = .ok (.getstatic 1053, 3) := by decide +kernel
theorem dJ_chk_5 : decode cJ0_checkIndex_df160 5 = .ok (.invokestatic 1059, 3) := by decide +kernel
theorem dJ_chk_8 : decode cJ0_checkIndex_df160 8 = .ok (.pop, 1) := by decide +kernel
theorem dJ_chk_9 : decode cJ0_checkIndex_df160 9 = .ok (.return_, 1) := by decide +kernel
theorem dJ_pre_0 : decode cJ3_checkIndex_8e157 0 = .ok (.iload_n 0, 1) := by decide +kernel
theorem dJ_pre_1 : decode cJ3_checkIndex_8e157 1 = .ok (.ifCond .lt 8, 3) := by decide +kernel
theorem dJ_pre_4 : decode cJ3_checkIndex_8e157 4 = .ok (.iload_n 0, 1) := by decide +kernel
theorem dJ_pre_5 : decode cJ3_checkIndex_8e157 5 = .ok (.iload_n 1, 1) := by decide +kernel
theorem dJ_pre_6 : decode cJ3_checkIndex_8e157 6 = .ok (.if_icmp .lt 10, 3) := by decide +kernel
theorem dJ_pre_16 : decode cJ3_checkIndex_8e157 16 = .ok (.iload_n 0, 1) := by decide +kernel
theorem dJ_pre_17 : decode cJ3_checkIndex_8e157 17 = .ok (.ireturn, 1) := by decide +kernel
section StrRows
variable {p : Program} {l : Launch} {e : Env} {R : Room} {s : State} {m : MethodId} {args : Array Value} {below : List Frame} {meth : Method} {c : Code} {H : Heap} {locs : List Loc} {cells slots : Nat} {Q : State → Prop} {D : va_G} {cy : Nat → ClassId} {A : Nat → Prop} {cc : ByteArray} {nL pc d : Nat} {ls : Array Slot} {rest st0 : List Value} {adK adV : Nat → Nat} {fm : Value}
theorem str_ldc {k : Nat} {tx : String} {a : Nat} (hx : p.tables.exec = Jvm.exec) (hb : c.code = cc) (hown : s.vm.findClass "OpenGates$Tape" = some m.cls) (hR : vk_R "OpenGates$Tape" k tx a s) (hdg : decode cc pc = .ok (.ldc k, 2)) (kk : W p l e R s m args below meth c H locs cells slots Q (F0 m (pc + 2) ls (.ref a :: rest))) : W p l e R s m args below meth c H locs cells slots Q (F0 m pc ls rest) := va_ldcS hx hb hown hR hdg kk
/-- null or an address -/
def isQ (v : Value) : Prop := v = .null ∨ ∃ a, v = .ref a
/-- what the text's methods read -/
def strF (adK adV : Nat → Nat) (fm : Value) (U : State) : Prop := vk_S 1 [141] [wordsB] adK adV (fun _ => False) U U.heap ∧ va_Z "java/lang/String" "COMPACT_STRINGS" "Z" (.int 1) (fun _ => False) U U.heap ∧ va_Z "jdk/internal/util/Preconditions" "SIOOBE_FORMATTER" "Ljava/util/function/BiFunction;" fm (fun _ => False) U U.heap ∧ isQ fm
abbrev tPc (adK adV : Nat → Nat) (fm : Value) (As : List Value) (h0 : Heap) : Array Value → State → Prop := va_Pc As (fun U => U.heap = h0 ∧ strF adK adV fm U)
theorem strF.same {g : JFrame} {mk : MethodId} {a : Array Value} {U : State} (h : strF adK adV fm U) : strF adK adV fm (U.calling g mk a) := ⟨h.1.moved (Vm.Alike.refl U.vm), h.2.1.moved (Vm.Alike.refl U.vm), h.2.2.1.moved (Vm.Alike.refl U.vm), h.2.2.2⟩
theorem strF.warm {U : State} (h : strF adK adV fm s) (hU : U.heap = s.heap) (hW : s.WarmedH U.vm) : strF adK adV fm U := by
  unfold strF
  rw [hU]
  exact ⟨h.1.moved hW.alike, h.2.1.moved hW.alike, h.2.2.1.moved hW.alike, h.2.2.2⟩
theorem t_blind {As : List Value} {h0 : Heap} : FrameBlind (tPc adK adV fm As h0) := fun _ _ _ _ q => ⟨q.1, q.2.1, q.2.2.same⟩
theorem t_nret {rr xv : Int32} {ty : FieldType} (hx : p.tables.exec = Jvm.exec) (hb : c.code = cc) (hr : meth.sig.returnType = some ty) (hn : narrow ty (.int xv) = .int xv) (hlocks : meth.locks = false) (hf : some xv = some rr) (hdg : decode cc pc = .ok (.ireturn, 1)) : sGi l d rr p e s m args below meth c (F0 m pc ls [.int xv]) := by
  cases hf
  exact W.zret hx hb hr hn (fun t ht hW => ⟨⟨_, (), rfl, rfl, ht⟩, va_F_same ht⟩) (by intro q h; cases h) hdg hlocks
theorem t_meti {y : MethodName} {maxL : Nat} {ret : Option FieldType} {As : List Value} {hh : Heap} {rr : Int32} (hy : plainName y.cls = true) (hn : (lg_sl As).length ≤ maxL)
    (body : ∀ (p : Program) (e : Env) (s : State) (m : MethodId) (args : Array Value) (below : List Frame) (meth : Method) (c : Code) (ls : Array Slot), Ev0 p s m args c cc maxL y.cls → p.tables.exec = Jvm.exec → c.code = cc → meth.sig.returnType = ret → meth.locks = false → s.vm.findClass y.cls = some m.cls → (∀ w ∈ TT, w.before args s = true) → lv_has ls maxL (lv_args 0 As) → strF adK adV fm s → sGi l d rr p e s m args below meth c (F0 m 0 ls [])) :
    Met l y (Cond.code y cc maxL ret :: TT) (rmD d) (tPc adK adV fm As hh) (sQi rr hh) 0 0 (fun _ => False) := by
  refine Met.ofW (cc := cc) (maxL := maxL) (ret := ret) hy rfl ?_
  intro p e s m args below meth c s₁ B hml hv
  obtain ⟨hargs, hU, hF⟩ := hv
  have hts := atoms_spec (ws := Cond.code y cc maxL ret :: TT) B.pre
  have hT : ∀ w ∈ TT, w.before args s = true := fun w h => hts w (List.mem_cons_of_mem _ h)
  have hown : s.vm.findClass y.cls = some m.cls := findClass_of_methodNamed B.named
  have hl := lv_entry As (n := maxL) hn
  have he : entryFrame m args maxL = F0 m 0 ((lg_sl As ++ List.replicate (maxL - (lg_sl As).length) Slot.unset).toArray) [] := by rw [hargs]; exact lg_entry_eq m As maxL
  rw [he]
  have hb2 := body p e s m args below meth c _ ⟨B.exec, B.bytes, hml, hown, hT⟩ B.exec B.bytes B.returns B.notSynchronized hown hT hl hF
  rw [← hU]
  exact hb2
theorem t_metv {y : MethodName} {maxL : Nat} {ret : Option FieldType} {As : List Value} {hh : Heap} {rr : Unit} (hy : plainName y.cls = true) (hn : (lg_sl As).length ≤ maxL)
    (body : ∀ (p : Program) (e : Env) (s : State) (m : MethodId) (args : Array Value) (below : List Frame) (meth : Method) (c : Code) (ls : Array Slot), Ev0 p s m args c cc maxL y.cls → p.tables.exec = Jvm.exec → c.code = cc → meth.sig.returnType = ret → meth.locks = false → s.vm.findClass y.cls = some m.cls → (∀ w ∈ TT, w.before args s = true) → lv_has ls maxL (lv_args 0 As) → strF adK adV fm s → sGv l d rr p e s m args below meth c (F0 m 0 ls [])) :
    Met l y (Cond.code y cc maxL ret :: TT) (rmD d) (tPc adK adV fm As hh) (sQv rr hh) 0 0 (fun _ => False) := by
  refine Met.ofW (cc := cc) (maxL := maxL) (ret := ret) hy rfl ?_
  intro p e s m args below meth c s₁ B hml hv
  obtain ⟨hargs, hU, hF⟩ := hv
  have hts := atoms_spec (ws := Cond.code y cc maxL ret :: TT) B.pre
  have hT : ∀ w ∈ TT, w.before args s = true := fun w h => hts w (List.mem_cons_of_mem _ h)
  have hown : s.vm.findClass y.cls = some m.cls := findClass_of_methodNamed B.named
  have hl := lv_entry As (n := maxL) hn
  have he : entryFrame m args maxL = F0 m 0 ((lg_sl As ++ List.replicate (maxL - (lg_sl As).length) Slot.unset).toArray) [] := by rw [hargs]; exact lg_entry_eq m As maxL
  rw [he]
  have hb2 := body p e s m args below meth c _ ⟨B.exec, B.bytes, hml, hown, hT⟩ B.exec B.bytes B.returns B.notSynchronized hown hT hl hF
  rw [← hU]
  exact hb2
/-- an instance method of a text -/
theorem t_callV {own C : String} {idx n maxL d b : Nat} {y : MethodName} {bytes : ByteArray} {ret : Option FieldType} {As : List Value} {r : Int32} (E : Ev0 p s m args c cc nL own) (hM : Met l y (Cond.code y bytes maxL ret :: TT) (rmD d) (tPc adK adV fm (.ref b :: As) H) (sQi r H) 0 0 (fun _ => False)) (hF : ∀ U : State, U.heap = H → s.WarmedH U.vm → strF adK adV fm U) (hrv : ∃ cell : Cell, H[b]? = some cell ∧ cell.vm.isStatics = false ∧ s.vm.findClass C = some cell.cls) (hG : GoodIn TT (wsV own idx C y (Cond.code y bytes maxL ret :: TT))) (hd : y.cls = C ∧ y.cls ≠ "java/lang/invoke/MethodHandle" ∧ y.cls ≠ "java/lang/invoke/VarHandle" ∧ (parseMethodDescriptor y.desc).map (fun d => d.parameters.length) = some n) (hR : d + 1 ≤ R.frames ∧ 8 + (maxL + 11) + 64 * d ≤ R.locals) (hc : cells + 0 ≤ R.cells ∧ slots + 0 ≤ R.slots) (hn : As.length = n) (hsize : ls.size = nL) (hst : st0 = As.reverse ++ .ref b :: rest) (hW : (rest.map fun v => v.category).sum ≤ 8) (hdg : decode cc pc = .ok (.invokevirtual idx, 3)) (kk : W p l e R s m args below meth c H locs cells slots Q (F0 m (pc + 3) ls (.int r :: rest))) : W p l e R s m args below meth c H locs cells slots Q (F0 m pc ls st0) :=
  s_runi (g := F0 m pc ls st0) (As := .ref b :: As) (va_runV (As := As) (rest := rest) (g := F0 m pc ls st0) E hM (cwV n E.2.2.2.2 hG rfl rfl rfl hd hR) ⟨t_blind, hrv, fun U hU hW => ⟨rfl, hU, hF U hU hW⟩⟩ rfl hn hsize hst (lv_room hW) hdg hc) kk
/-- a static method of the text's classes -/
theorem t_callS {own : String} {idx n maxL d : Nat} {y : MethodName} {bytes : ByteArray} {ret : Option FieldType} {As : List Value} {r : Int32} (E : Ev0 p s m args c cc nL own) (hM : Met l y (Cond.code y bytes maxL ret :: TT) (rmD d) (tPc adK adV fm As H) (sQi r H) 0 0 (fun _ => False)) (hF : ∀ U : State, U.heap = H → s.WarmedH U.vm → strF adK adV fm U) (h1 : Cond.methodLink own idx y ∈ TT) (h2 : Cond.static y ∈ TT) (h3 : Cond.initialized y.cls ∈ TT) (h4 : Cond.code y bytes maxL ret ∈ TT) (hd : y.cls ≠ "java/lang/invoke/MethodHandle" ∧ y.cls ≠ "java/lang/invoke/VarHandle" ∧ (parseMethodDescriptor y.desc).map (fun d => d.parameters.length) = some n) (hR : d + 1 ≤ R.frames ∧ 8 + (maxL + 11) + 64 * d ≤ R.locals) (hc : cells + 0 ≤ R.cells ∧ slots + 0 ≤ R.slots) (hn : As.length = n) (hsize : ls.size = nL) (hst : st0 = As.reverse ++ rest) (hW : (rest.map fun v => v.category).sum ≤ 8) (hdg : decode cc pc = .ok (.invokestatic idx, 3)) (kk : W p l e R s m args below meth c H locs cells slots Q (F0 m (pc + 3) ls (.int r :: rest))) : W p l e R s m args below meth c H locs cells slots Q (F0 m pc ls st0) :=
  s_runi (g := F0 m pc ls st0) (As := As) (va_runS (As := As) (rest := rest) (g := F0 m pc ls st0) E hM ⟨callB_of n E.2.2.2.2 (tt_cons h4) rfl rfl rfl (E.2.2.2.2 _ h3) (E.2.2.2.2 _ h1) hd hR, E.2.2.2.2 _ h2⟩ ⟨t_blind, fun U hU hW => ⟨rfl, hU, hF U hU hW⟩⟩ rfl hn hsize hst (lv_room hW) hdg hc) kk
theorem t_callSv {own : String} {idx n maxL d : Nat} {y : MethodName} {bytes : ByteArray} {ret : Option FieldType} {As : List Value} {r : Unit} (E : Ev0 p s m args c cc nL own) (hM : Met l y (Cond.code y bytes maxL ret :: TT) (rmD d) (tPc adK adV fm As H) (sQv r H) 0 0 (fun _ => False)) (hF : ∀ U : State, U.heap = H → s.WarmedH U.vm → strF adK adV fm U) (h1 : Cond.methodLink own idx y ∈ TT) (h2 : Cond.static y ∈ TT) (h3 : Cond.initialized y.cls ∈ TT) (h4 : Cond.code y bytes maxL ret ∈ TT) (hd : y.cls ≠ "java/lang/invoke/MethodHandle" ∧ y.cls ≠ "java/lang/invoke/VarHandle" ∧ (parseMethodDescriptor y.desc).map (fun d => d.parameters.length) = some n) (hR : d + 1 ≤ R.frames ∧ 8 + (maxL + 11) + 64 * d ≤ R.locals) (hc : cells + 0 ≤ R.cells ∧ slots + 0 ≤ R.slots) (hn : As.length = n) (hsize : ls.size = nL) (hst : st0 = As.reverse ++ rest) (hW : (rest.map fun v => v.category).sum ≤ 8) (hdg : decode cc pc = .ok (.invokestatic idx, 3)) (kk : W p l e R s m args below meth c H locs cells slots Q (F0 m (pc + 3) ls rest)) : W p l e R s m args below meth c H locs cells slots Q (F0 m pc ls st0) := by
  refine W.of (H' := H) (locs' := locs) (cells' := cells) (slots' := slots) (g2 := F0 m (pc + 3) ls rest) ?_ kk
  intro T hT X
  obtain ⟨v, st₀, t, T', L, h0, X', hL, e1, e2, ⟨⟨u, hv, hp, hb⟩, -⟩, st⟩ := va_runS (As := As) (rest := rest) (g := F0 m pc ls st0) E hM ⟨callB_of n E.2.2.2.2 (tt_cons h4) rfl rfl rfl (E.2.2.2.2 _ h3) (E.2.2.2.2 _ h1) hd hR, E.2.2.2.2 _ h2⟩ ⟨t_blind, fun U hU hW => ⟨rfl, hU, hF U hU hW⟩⟩ rfl hn hsize hst (lv_room hW) hdg hc T hT X
  have hL0 : L = [] := by
    cases L with
    | nil => rfl
    | cons a b => exact absurd (hL a List.mem_cons_self) (fun h => h)
  subst hL0
  cases hv
  refine ⟨T', by rw [e1]; exact hb, ?_, st⟩
  simpa using X'
theorem tJ_coder {hh : Heap} : Met l yJ0_coder_7d493 (Cond.code yJ0_coder_7d493 cJ0_coder_7d493 1 (some .byte) :: TT) (rmD 0) (tPc adK adV fm [.ref (adK 0)] hh) (sQi 0 hh) 0 0 (fun _ => False) := by
  refine t_meti (by decide) (Nat.le_of_ble_eq_true rfl) (fun p e s m args below meth c ls E hx hb hr hlocks hown hT hl hF => ?_)
  replace hl : lv_has ls 1 [(0, .ref (adK 0))] := hl
  have hS : va_S (fun _ => False) s.heap s.heap [] := va_S.rf
  refine va_gets hx hb hF.2.1 hS hown (hT _ k_626) (fun _ h => h) dJ_cod_0 ?_
  refine lv_if_eq (tgt := 13) hx hb dJ_cod_3 (by decide) (fun hc => absurd hc (by decide)) (fun hc => ?_)
  refine lv_aload_n hx hb dJ_cod_6 rfl (lv_at hl 0 rfl) ?_
  refine vk_getf hx hb (hF.1.1 0 (by decide)).2.1 hS hown (hT _ k_1824) (fun _ h => h) dJ_cod_7 ?_
  refine lv_goto (tgt := 14) hx hb dJ_cod_10 (by decide) ?_
  exact t_nret hx hb hr rfl hlocks rfl dJ_cod_14
theorem tJ_isLatin1 {hh : Heap} : Met l yJ0_isLatin1_aae02 (Cond.code yJ0_isLatin1_aae02 cJ0_isLatin1_aae02 1 (some .boolean) :: TT) (rmD 0) (tPc adK adV fm [.ref (adK 0)] hh) (sQi 1 hh) 0 0 (fun _ => False) := by
  refine t_meti (by decide) (Nat.le_of_ble_eq_true rfl) (fun p e s m args below meth c ls E hx hb hr hlocks hown hT hl hF => ?_)
  replace hl : lv_has ls 1 [(0, .ref (adK 0))] := hl
  have hS : va_S (fun _ => False) s.heap s.heap [] := va_S.rf
  refine va_gets hx hb hF.2.1 hS hown (hT _ k_626) (fun _ h => h) dJ_lat_0 ?_
  refine lv_if_eq (tgt := 17) hx hb dJ_lat_3 (by decide) (fun hc => absurd hc (by decide)) (fun hc => ?_)
  refine lv_aload_n hx hb dJ_lat_6 rfl (lv_at hl 0 rfl) ?_
  refine vk_getf hx hb (hF.1.1 0 (by decide)).2.1 hS hown (hT _ k_1824) (fun _ h => h) dJ_lat_7 ?_
  refine lv_if_ne (tgt := 17) hx hb dJ_lat_10 (by decide) (fun hc => absurd rfl hc) (fun hc => ?_)
  refine lv_iconst (v := 1) hx hb dJ_lat_13 (by decide) ?_
  refine lv_goto (tgt := 18) hx hb dJ_lat_14 (by decide) ?_
  exact t_nret hx hb hr rfl hlocks rfl dJ_lat_18
theorem tJ_length {hh : Heap} : Met l yJ0_length_8abf5 (Cond.code yJ0_length_8abf5 cJ0_length_8abf5 1 (some .int) :: TT) (rmD 1) (tPc adK adV fm [.ref (adK 0)] hh) (sQi 141 hh) 0 0 (fun _ => False) := by
  refine t_meti (by decide) (Nat.le_of_ble_eq_true rfl) (fun p e s m args below meth c ls E hx hb hr hlocks hown hT hl hF => ?_)
  replace hl : lv_has ls 1 [(0, .ref (adK 0))] := hl
  have hS : va_S (fun _ => False) s.heap s.heap [] := va_S.rf
  refine lv_aload_n hx hb dJ_len_0 rfl (lv_at hl 0 rfl) ?_
  refine vk_getf hx hb (hF.1.1 0 (by decide)).2.2.1 hS hown (hT _ k_1823) (fun _ h => h) dJ_len_1 ?_
  refine va_tlen hx hb (hF.1.1 0 (by decide)).2.2.2 hS (v := 141) rfl dJ_len_4 ?_
  refine lv_aload_n hx hb dJ_len_5 rfl (lv_at hl 0 rfl) ?_
  refine t_callV (C := "java/lang/String") (n := 0) (As := []) (b := adK 0) (rest := [.int 141]) (r := 0) E tJ_coder (fun U hU hW => hF.warm hU hW) (vk_recv hF.1 (by decide) hS) (gV k_622 k_623 k_624 k_16 k_625) (by decide +kernel) ⟨Nat.le_of_ble_eq_true rfl, Nat.le_of_ble_eq_true rfl⟩ ⟨Nat.le_refl _, Nat.le_refl _⟩ rfl hl.1 rfl (Nat.le_of_ble_eq_true rfl) dJ_len_6 ?_
  refine lv_ishr hx hb dJ_len_9 ?_
  exact s_iret hx hb hr hlocks rfl dJ_len_10
theorem tJ_pre {hh : Heap} {i n : Int32} (hq : isQ fm) (h0 : ¬ i < 0) (h1 : i < n) : Met l yJ3_checkIndex_8e157 (Cond.code yJ3_checkIndex_8e157 cJ3_checkIndex_8e157 3 (some .int) :: TT) (rmD 0) (tPc adK adV fm [.int i, .int n, fm] hh) (sQi i hh) 0 0 (fun _ => False) := by
  rcases hq with rfl | ⟨a, rfl⟩
  · refine t_meti (by decide) (Nat.le_of_ble_eq_true rfl) (fun p e s m args below meth c ls E hx hb hr hlocks hown hT hl hF => ?_)
    replace hl : lv_has ls 3 [(0, .int i), (1, .int n), (2, .null)] := hl
    refine lv_iload_n hx hb dJ_pre_0 rfl (lv_at hl 0 rfl) ?_
    refine lv_if_lt (tgt := 9) hx hb dJ_pre_1 (by decide) (fun hc => absurd hc h0) (fun hc => ?_)
    refine lv_iload_n hx hb dJ_pre_4 rfl (lv_at hl 0 rfl) ?_
    refine lv_iload_n hx hb dJ_pre_5 rfl (lv_at hl 1 rfl) ?_
    refine lv_icmp_lt (tgt := 16) hx hb dJ_pre_6 (by decide) (fun hc => ?_) (fun hc => absurd h1 hc)
    refine lv_iload_n hx hb dJ_pre_16 rfl (lv_at hl 0 rfl) ?_
    exact s_iret hx hb hr hlocks rfl dJ_pre_17
  · refine t_meti (by decide) (Nat.le_of_ble_eq_true rfl) (fun p e s m args below meth c ls E hx hb hr hlocks hown hT hl hF => ?_)
    replace hl : lv_has ls 3 [(0, .int i), (1, .int n), (2, .ref a)] := hl
    refine lv_iload_n hx hb dJ_pre_0 rfl (lv_at hl 0 rfl) ?_
    refine lv_if_lt (tgt := 9) hx hb dJ_pre_1 (by decide) (fun hc => absurd hc h0) (fun hc => ?_)
    refine lv_iload_n hx hb dJ_pre_4 rfl (lv_at hl 0 rfl) ?_
    refine lv_iload_n hx hb dJ_pre_5 rfl (lv_at hl 1 rfl) ?_
    refine lv_icmp_lt (tgt := 16) hx hb dJ_pre_6 (by decide) (fun hc => ?_) (fun hc => absurd h1 hc)
    refine lv_iload_n hx hb dJ_pre_16 rfl (lv_at hl 0 rfl) ?_
    exact s_iret hx hb hr hlocks rfl dJ_pre_17
theorem tJ_check {hh : Heap} {i n : Int32} (h0 : ¬ i < 0) (h1 : i < n) : Met l yJ0_checkIndex_df160 (Cond.code yJ0_checkIndex_df160 cJ0_checkIndex_df160 2 none :: TT) (rmD 1) (tPc adK adV fm [.int i, .int n] hh) (sQv () hh) 0 0 (fun _ => False) := by
  refine t_metv (by decide) (Nat.le_of_ble_eq_true rfl) (fun p e s m args below meth c ls E hx hb hr hlocks hown hT hl hF => ?_)
  replace hl : lv_has ls 2 [(0, .int i), (1, .int n)] := hl
  have hS : va_S (fun _ => False) s.heap s.heap [] := va_S.rf
  refine lv_iload_n hx hb dJ_chk_0 rfl (lv_at hl 0 rfl) ?_
  refine lv_iload_n hx hb dJ_chk_1 rfl (lv_at hl 1 rfl) ?_
  refine va_gets hx hb hF.2.2.1 hS hown (hT _ k_642) (fun _ h => h) dJ_chk_2 ?_
  refine t_callS (n := 3) (As := [.int i, .int n, fm]) (rest := []) (r := i) E (tJ_pre hF.2.2.2 h0 h1) (fun U hU hW => hF.warm hU hW) k_644 k_645 k_18 k_646 (by decide +kernel) ⟨Nat.le_of_ble_eq_true rfl, Nat.le_of_ble_eq_true rfl⟩ ⟨Nat.le_refl _, Nat.le_refl _⟩ rfl hl.1 rfl (Nat.le_of_ble_eq_true rfl) dJ_chk_5 ?_
  refine lv_pop hx hb dJ_chk_8 rfl ?_
  exact s_vret hx hb hr hlocks rfl dJ_chk_9
theorem wb_all : ∀ j, j < 141 → (((wordsB.getD j 0) &&& 255).toUInt32 % 65536).toInt32 = wordsB.getD j 0 ∧ narrow .char (.int (wordsB.getD j 0)) = .int (wordsB.getD j 0) := by decide +kernel
theorem tJ_lch {hh : Heap} {i : Int32} (hi : vp_in i 141) : Met l yJ1_charAt_3b067 (Cond.code yJ1_charAt_3b067 cJ1_charAt_3b067 2 (some .char) :: TT) (rmD 2) (tPc adK adV fm [.ref (adV 0), .int i] hh) (sQi (wordsF i.toNatClampNeg) hh) 0 0 (fun _ => False) := by
  refine t_meti (by decide) (Nat.le_of_ble_eq_true rfl) (fun p e s m args below meth c ls E hx hb hr hlocks hown hT hl hF => ?_)
  replace hl : lv_has ls 2 [(0, .ref (adV 0)), (1, .int i)] := hl
  have hS : va_S (fun _ => False) s.heap s.heap [] := va_S.rf
  have hlt : i.toNatClampNeg < 141 := Nat.lt_of_not_le (fun q => hi (Or.inr q))
  have h0 : ¬ i < 0 := fun q => hi (Or.inl q)
  have h1 : i < 141 := by
    have := (vp_in_iff.mp hi).2
    rw [Int32.lt_iff_toInt_lt]
    have e : (141 : Int32).toInt = 141 := by decide
    omega
  obtain ⟨w1, w2⟩ := wb_all _ hlt
  refine lv_iload_n hx hb dJ_lch_0 rfl (lv_at hl 1 rfl) ?_
  refine lv_aload_n hx hb dJ_lch_1 rfl (lv_at hl 0 rfl) ?_
  refine va_tlen hx hb (hF.1.1 0 (by decide)).2.2.2 hS (v := 141) rfl dJ_lch_2 ?_
  refine t_callSv (n := 2) (As := [.int i, .int 141]) (rest := []) (r := ()) E (tJ_check h0 h1) (fun U hU hW => hF.warm hU hW) k_639 k_640 k_16 k_641 (by decide +kernel) ⟨Nat.le_of_ble_eq_true rfl, Nat.le_of_ble_eq_true rfl⟩ ⟨Nat.le_refl _, Nat.le_refl _⟩ rfl hl.1 rfl (Nat.le_of_ble_eq_true rfl) dJ_lch_3 ?_
  refine lv_aload_n hx hb dJ_lch_6 rfl (lv_at hl 0 rfl) ?_
  refine lv_iload_n hx hb dJ_lch_7 rfl (lv_at hl 1 rfl) ?_
  refine va_tb hx hb (hF.1.1 0 (by decide)).2.2.2 hS hi rfl dJ_lch_8 ?_
  refine lv_sipush (v := 255) hx hb dJ_lch_9 (by decide) ?_
  refine lv_iand hx hb dJ_lch_12 ?_
  refine lv_i2c hx hb dJ_lch_13 w1 ?_
  exact t_nret hx hb hr w2 hlocks rfl dJ_lch_14
theorem tJ_charAt {hh : Heap} {i : Int32} (hi : vp_in i 141) : Met l yJ0_charAt_5068e (Cond.code yJ0_charAt_5068e cJ0_charAt_5068e 2 (some .char) :: TT) (rmD 3) (tPc adK adV fm [.ref (adK 0), .int i] hh) (sQi (wordsF i.toNatClampNeg) hh) 0 0 (fun _ => False) := by
  refine t_meti (by decide) (Nat.le_of_ble_eq_true rfl) (fun p e s m args below meth c ls E hx hb hr hlocks hown hT hl hF => ?_)
  replace hl : lv_has ls 2 [(0, .ref (adK 0)), (1, .int i)] := hl
  have hS : va_S (fun _ => False) s.heap s.heap [] := va_S.rf
  have hlt : i.toNatClampNeg < 141 := Nat.lt_of_not_le (fun q => hi (Or.inr q))
  refine lv_aload_n hx hb dJ_chr_0 rfl (lv_at hl 0 rfl) ?_
  refine t_callV (C := "java/lang/String") (n := 0) (As := []) (b := adK 0) (rest := []) (r := 1) E tJ_isLatin1 (fun U hU hW => hF.warm hU hW) (vk_recv hF.1 (by decide) hS) (gV k_632 k_633 k_634 k_16 k_635) (by decide +kernel) ⟨Nat.le_of_ble_eq_true rfl, Nat.le_of_ble_eq_true rfl⟩ ⟨Nat.le_refl _, Nat.le_refl _⟩ rfl hl.1 rfl (Nat.le_of_ble_eq_true rfl) dJ_chr_1 ?_
  refine lv_if_eq (tgt := 16) hx hb dJ_chr_4 (by decide) (fun hc => absurd hc (by decide)) (fun hc => ?_)
  refine lv_aload_n hx hb dJ_chr_7 rfl (lv_at hl 0 rfl) ?_
  refine vk_getf hx hb (hF.1.1 0 (by decide)).2.2.1 hS hown (hT _ k_1823) (fun _ h => h) dJ_chr_8 ?_
  refine lv_iload_n hx hb dJ_chr_11 rfl (lv_at hl 1 rfl) ?_
  refine t_callS (n := 2) (As := [.ref (adV 0), .int i]) (rest := []) (r := wordsF i.toNatClampNeg) E (tJ_lch hi) (fun U hU hW => hF.warm hU hW) k_636 k_637 k_17 k_638 (by decide +kernel) ⟨Nat.le_of_ble_eq_true rfl, Nat.le_of_ble_eq_true rfl⟩ ⟨Nat.le_refl _, Nat.le_refl _⟩ rfl hl.1 rfl (Nat.le_of_ble_eq_true rfl) dJ_chr_12 ?_
  exact t_nret hx hb hr (wb_all _ hlt).2 hlocks rfl dJ_chr_15
theorem strF.at (hStr : vk_S 1 [141] [wordsB] adK adV A s s.heap) (hCS : va_Z "java/lang/String" "COMPACT_STRINGS" "Z" (.int 1) A s s.heap) (hSI : va_Z "jdk/internal/util/Preconditions" "SIOOBE_FORMATTER" "Ljava/util/function/BiFunction;" fm A s s.heap) (hQ : isQ fm) (hS : va_S A s.heap H locs) {U : State} (hU : U.heap = H) (hW : s.WarmedH U.vm) : strF adK adV fm U := by
  unfold strF
  rw [hU]
  exact ⟨((hStr.moved hW.alike).kept hS.2.1).narrow (fun _ h => h.elim), ((hCS.moved hW.alike).kept hS.2.1).narrow (fun _ h => h.elim), ((hSI.moved hW.alike).kept hS.2.1).narrow (fun _ h => h.elim), hQ⟩
theorem str_len (E : Ev p s m args c D cy cc nL "OpenGates$Tape") (hStr : vk_S 1 [141] [wordsB] adK adV A s s.heap) (hCS : va_Z "java/lang/String" "COMPACT_STRINGS" "Z" (.int 1) A s s.heap ∧ ∃ fm, va_Z "jdk/internal/util/Preconditions" "SIOOBE_FORMATTER" "Ljava/util/function/BiFunction;" fm A s s.heap ∧ (fm = .null ∨ ∃ a, fm = .ref a)) (hS : va_S A s.heap H locs) (hsize : ls.size = nL) (h1 : 5 ≤ R.frames) (h2 : 320 ≤ R.locals) (hcs : cells ≤ R.cells ∧ slots ≤ R.slots) (hW : (rest.map fun v => v.category).sum ≤ 8) (hdg : decode cc pc = .ok (.invokevirtual 58, 3)) (kk : W p l e R s m args below meth c H locs cells slots Q (F0 m (pc + 3) ls (.int 141 :: rest))) : W p l e R s m args below meth c H locs cells slots Q (F0 m pc ls (.ref (adK 0) :: rest)) := by
  obtain ⟨hC, fm, hSI, hQ⟩ := hCS
  exact t_callV (C := "java/lang/String") (n := 0) (As := []) (b := adK 0) (rest := rest) (r := 141) (fm := fm) E.1 tJ_length (fun U hU hW => strF.at hStr hC hSI hQ hS hU hW) (vk_recv hStr (by decide) hS) (gV k_618 k_619 k_620 k_16 k_621) (by decide +kernel) ⟨by omega, by omega⟩ ⟨hcs.1, hcs.2⟩ rfl hsize rfl hW hdg kk
theorem str_at {i : Int32} (E : Ev p s m args c D cy cc nL "OpenGates$Tape") (hStr : vk_S 1 [141] [wordsB] adK adV A s s.heap) (hCS : va_Z "java/lang/String" "COMPACT_STRINGS" "Z" (.int 1) A s s.heap ∧ ∃ fm, va_Z "jdk/internal/util/Preconditions" "SIOOBE_FORMATTER" "Ljava/util/function/BiFunction;" fm A s s.heap ∧ (fm = .null ∨ ∃ a, fm = .ref a)) (hS : va_S A s.heap H locs) (hsize : ls.size = nL) (h1 : 5 ≤ R.frames) (h2 : 320 ≤ R.locals) (hcs : cells ≤ R.cells ∧ slots ≤ R.slots) (hW : (rest.map fun v => v.category).sum ≤ 8) (hi : vp_in i 141) (hdg : decode cc pc = .ok (.invokevirtual 63, 3)) (kk : W p l e R s m args below meth c H locs cells slots Q (F0 m (pc + 3) ls (.int (wordsF i.toNatClampNeg) :: rest))) : W p l e R s m args below meth c H locs cells slots Q (F0 m pc ls (.int i :: .ref (adK 0) :: rest)) := by
  obtain ⟨hC, fm, hSI, hQ⟩ := hCS
  exact t_callV (C := "java/lang/String") (n := 1) (As := [.int i]) (b := adK 0) (rest := rest) (r := wordsF i.toNatClampNeg) (fm := fm) E.1 (tJ_charAt hi) (fun U hU hW => strF.at hStr hC hSI hQ hS hU hW) (vk_recv hStr (by decide) hS) (gV k_628 k_629 k_630 k_16 k_631) (by decide +kernel) ⟨by omega, by omega⟩ ⟨hcs.1, hcs.2⟩ rfl hsize rfl hW hdg kk
end StrRows
