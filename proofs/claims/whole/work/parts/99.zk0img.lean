/-! T1, the law's loop: law, image, back -/
theorem RR.cg {fz : List FP} {c c' m : St} (h : RR fz c m) (i : ∀ q, q < 1500 → c'.1 q = c.1 q) (r : ∀ q, q < 1500 → c'.2.2.1 q = c.2.2.1 q) (w : c'.2.2.2.2 107 = c.2.2.2.2 107) : RR fz c' m := by
  obtain ⟨⟨h1, h2, h3⟩, h4, h5, h6, h7, h8, h9, h10, h11⟩ := h
  have fi : ∀ {l : List Nat}, (∀ x, x ∈ l → x < 1500) → ∀ x, x ∈ l → c'.1 x = c.1 x := fun s x hx => i x (s x hx)
  have fa : ∀ {l : List Nat}, (∀ x, x ∈ l → x < 1500) → ∀ x, x ∈ l → c'.2.2.1 x = c.2.2.1 x := fun s x hx => r x (s x hx)
  refine ⟨⟨?_, ?_, h3⟩, ?_, ?_, ?_, ?_, ?_, ?_, ?_, h11⟩
  · exact h1.a (fi (by decide)) (fa (by decide)) (fun _ _ => rfl)
  · exact h2.a (fi (by decide)) w (fun _ _ => rfl)
  · exact h4.a (i 9 (by decide)) (r 8 (by decide)) rfl rfl
  · exact h5.a (i 504 (by decide)) (r 500 (by decide)) rfl rfl
  · exact h6.a (fi (by decide)) (fa (by decide)) (fun _ _ => rfl)
  · exact h7.a (i 404 (by decide)) (fa (by decide)) (fun _ _ => rfl)
  · exact h8.a (i 905 (by decide)) (r 902 (by decide)) rfl rfl rfl (fun _ _ => rfl)
  · exact h9.a (i 1104 (by decide)) (fa (by decide)) rfl rfl
  · exact h10.a (fi (by decide)) (fun _ _ => rfl)
theorem Im.cg {fz : List FP} {c c' : St} {r : Nat → Int32} (h : Im 1400 fz c r) (i : ∀ q, 1500 ≤ q → c'.1 q = c.1 q) (a : ∀ q, 1500 ≤ q → c'.2.2.1 q = c.2.2.1 q) (w : c'.2.2.2.2 1507 = c.2.2.2.2 1507) : Im 1400 fz c' r := by
  refine Im.cp h ⟨fun k hk => i _ ?_, fun p hp j _ => ?_, fun j _ => ?_⟩
  · have : ∀ k, k ∈ tkI → 1500 ≤ k + 1400 := by decide
    exact this k hk
  · have : ∀ p, p ∈ tkR → 1500 ≤ p.1 + 1400 := by decide
    rw [a _ (this p hp)]
  · show c'.2.2.2.2 1507 j = _
    rw [w]
theorem Rw.app {off : Nat} {fz : List FP} {P : FP} {c : St} {r : Nat → Int32} (h : Rw off fz c r) : Rw off (fz ++ [P]) c r := by
  obtain ⟨h1, h2, h3, h4⟩ := h
  refine ⟨h1, h2, h3, fun i hi => ?_⟩
  obtain ⟨z1, z2⟩ := h4 i hi
  refine ⟨fun hlt => ?_, ?_⟩
  · obtain ⟨q, P', y1, y2, y3⟩ := z1 hlt
    exact ⟨q, P', y1, fzGet_app y2, y3⟩
  · rcases z2 with z2 | ⟨q, P', y1, y2, y3⟩
    · exact Or.inl z2
    · exact Or.inr ⟨q, P', y1, fzGet_app y2, y3⟩
theorem IRk.app {fz : List FP} {P : FP} {k : Nat} {o : IM} {c mm : St} (h : IRk fz k o c mm) : IRk (fz ++ [P]) k o c mm := by
  unfold IRk at h ⊢
  cases o with
  | none => exact h
  | some x => exact ⟨h.1, h.2.1, h.2.2.1, h.2.2.2.1.app, h.2.2.2.2⟩
/-- the class's state beside an image's -/
def mer (c i : St) : St := (fun q => if q < 1500 then c.1 q else i.1 q, c.2.1, fun q => if q < 1500 then c.2.2.1 q else i.2.2.1 q, c.2.2.2.1, fun q => if q < 1500 then c.2.2.2.2 q else i.2.2.2.2 q)
def mrA (ad i : Nat → Nat) : Nat → Nat := fun q => if q < 1500 then ad q else i q
theorem cx_M (cy : Nat → ClassId) (ad i : Nat → Nat) (fz : List FP) (c x : St) : cx cy (mrA ad i) fz (mer c x) = cx cy ad fz c := rfl
theorem igw_M (cy : Nat → ClassId) (ad i : Nat → Nat) (c x : St) : igw cy (mrA ad i) (mer c x) = igw cy i x := rfl
theorem cads_M (ad i : Nat → Nat) (fz : List FP) : cads (mrA ad i) fz = cads ad fz := rfl
theorem igads_M (ad i : Nat → Nat) : igads (mrA ad i) = igads i := rfl
section LoopI
variable {p : Program} {l : Launch} {e : Env} {s : State} {m : MethodId} {below : List Frame} {meth : Method} {cd : Code} {H : Heap} {locs : List Loc} {cells slots : Nat} {Q : State → Prop} {D : va_G} {cy : Nat → ClassId} {b L : Nat} {xs : Nat → Int32} {pc t : Nat} {ls : Array Slot} {rest : List Value} {fz : List FP} {ad mad : Nat → Nat} {c mm : St} {i0 i1 ik io : IM}
/-- a land was made or written beside the others -/
theorem WW.im {ad' : Nat → Nat} {c' : St} {H1 : Heap} {B : Nat → Prop} (hw : WW D cy fz ad c mad mm ik io H) (hk : ∀ x : Nat, x < H.size → ¬ B x → H1[x]? = H[x]?) (hB : ∀ q, B q → q ∈ cads ad fz ∨ q ∈ imA ik ∨ H.size ≤ q) (hn : NN fz ad mad ik io) (h1 : va_P D classes (cxi cy ad' fz c') H1) : WW D cy fz ad' c' mad mm (some (ad', c')) io H1 := by
  obtain ⟨w1, w2, w3, w4⟩ := hw
  obtain ⟨p1, p2⟩ := cxi_c h1
  have hn2 := (List.nodup_append.mp hn).2.1
  refine ⟨p1, P_keep w2 hk (fun q hq hb => ?_), p2, P_keep w4 hk (fun q hq hb => ?_)⟩
  · rcases hB q hb with h | h | h
    · exact nd_no hn h (List.mem_append_left _ hq)
    · exact nd_no hn2 hq (List.mem_append_left _ h)
    · exact absurd (P_lts w2 q hq) (Nat.not_lt.mpr h)
  · have hq' := hq
    rw [imW_fst] at hq'
    rcases hB q hb with h | h | h
    · exact nd_no hn h (List.mem_append_right _ (List.mem_append_right _ hq'))
    · exact nd_no (List.nodup_append.mp hn2).2.1 h hq'
    · exact absurd (P_lts w4 q hq) (Nat.not_lt.mpr h)
abbrev LJ (p : Program) (l : Launch) (e : Env) (s : State) (m : MethodId) (below : List Frame) (meth : Method) (cd : Code) (cells slots : Nat) (Q : State → Prop) (D : va_G) (cy : Nat → ClassId) (b : Nat) (ls : Array Slot) (pc : Nat) (rest : List Value) (fz : List FP) (ad mad : Nat → Nat) (c mm : St) (k : Nat) (io : IM) (F : St → Option (Int32 × St)) : Prop := ∀ (v : Int32) (ad' : Nat → Nat) (c' m' : St) (ik' : IM) (H1 : Heap) (locs1 : List Loc), ad' 99 = ad 99 → WW D cy fz ad' c' mad mm ik' io H1 → NN fz ad' mad ik' io → AA s.heap.size fz ad' mad ik' io → va_S (fun q : Nat => s.heap.size ≤ q) s.heap H1 locs1 → F mm = some (v, m') → RR fz c' m' → IRk fz k ik' c' m' → (∀ o, o ≤ 1 → o ≠ k → ∀ x : IM, IRk fz o x c mm → IRk fz o x c' m') → W p l e room_1 s m #[Value.ref b] below meth cd H1 locs1 (cells + 22) (slots + 341) Q (F0 m (pc + 3) ls (.int v :: rest))
theorem ir_oth {k o : Nat} {x : IM} {c' m' : St} (ho : o ≤ 1) (hko : o ≠ k) (hk : k ≤ 1) (h : IRk fz o x c mm) (h1 : c'.2.2.2.2 1 o = c.2.2.2.2 1 o) (h5 : m'.2.2.1 5 = upd (mm.2.2.1 5) k 1) (h4 : ∀ j, ¬ (5550 * k ≤ j ∧ j < 5550 * k + 5550) → m'.2.2.1 4 j = mm.2.2.1 4 j) : IRk fz o x c' m' := by
  unfold IRk at h ⊢
  cases x with
  | none =>
    dsimp only at h ⊢
    rw [h1, h5, upd_v, if_neg hko]; exact h
  | some y =>
    dsimp only at h ⊢
    rw [h1, h5, upd_v, if_neg hko]
    refine ⟨h.1, h.2.1, Im.e h.2.2 (fun j hj => h4 _ ?_)⟩
    have : (o = 0 ∧ k = 1) ∨ (o = 1 ∧ k = 0) := by omega
    rcases this with ⟨rfl, rfl⟩ | ⟨rfl, rfl⟩ <;> omega
set_option maxHeartbeats 1000000 in
theorem w_im {k : Nat} (hk : k ≤ 1) (C0 : LC p s m meth cd D cy b L xs) (hw : WW D cy fz ad c mad mm ik io H) (hn : NN fz ad mad ik io) (ha : AA s.heap.size fz ad mad ik io) (hS : va_S (fun q : Nat => s.heap.size ≤ q) s.heap H locs) (hRR : RR fz c mm) (hi : IRk fz k ik c mm) (hcs : cells ≤ 400000 ∧ slots ≤ 6000000) (hsize : ls.size = 4) (hW : (rest.map fun v => v.category).sum ≤ 8) (hdg : decode code pc = .ok (.invokevirtual 167, 3)) (kk : LJ p l e s m below meth cd cells slots Q D cy b ls pc rest fz ad mad c mm k io (fX12_image (Int32.ofNat k))) : W p l e room_1 s m #[Value.ref b] below meth cd H locs cells slots Q (F0 m pc ls (.int (Int32.ofNat k) :: .ref (ad 99) :: rest)) := by
  obtain ⟨E, -, -, -, hN, -, hXN, -⟩ := C0
  have hn2 := (List.nodup_append.mp hn).2.1
  cases ik with
  | some x =>
    obtain ⟨iad, ist⟩ := x
    obtain ⟨j1, j2, j3⟩ := hi
    have hRM : RR fz (mer c ist) mm := hRR.cg (fun q hq => if_pos hq) (fun q hq => if_pos hq) rfl
    obtain ⟨c', m', e1, e2, r1, r2, r3, r4, r5⟩ := image_call hk hRM
    have hq : (mer c ist).2.2.2.2 1 (Int32.ofNat k).toNatClampNeg = some (mrA ad iad 1599) := by
      rw [oN_tn (by omega)]; exact j1
    have hJ : (iads (mrA ad iad) fz).Nodup := by
      apply iads_nd
      rw [cads_M, igads_M, List.nodup_append]
      exact ⟨hn.c, (List.nodup_append.mp (List.nodup_append.mp hn2).2.1).1, fun x hx y hy hxy => by subst hxy; exact nd_no hn hx (List.mem_append_right _ (List.mem_append_left _ hy))⟩
    have hPi : va_P D classes (cxi cy (mrA ad iad) fz (mer c ist)) H := cxi_P (by rw [cx_M]; exact hw.1) (by rw [igw_M]; exact hw.2.2.1)
    have hiA : ∀ q, iA (mrA ad iad) fz H.size q → s.heap.size ≤ q := by
      rintro q (h | h)
      · rw [iads_mem, cads_M, igads_M] at h
        rcases h with h | h
        · exact ha q (List.mem_append_left _ h)
        · exact ha q (List.mem_append_right _ (List.mem_append_right _ (List.mem_append_left _ h)))
      · exact Nat.le_trans hS.1 h
    refine va_calli (va_runV (As := [.int (Int32.ofNat k)]) (rest := rest) (g := F0 m pc ls (.int (Int32.ofNat k) :: .ref (ad 99) :: rest)) E.1 (tX11_imagei l D cy (mrA ad iad) fz hJ H.size (Int32.ofNat k) (mer c ist) hq 0 c' e1) (cwV 1 E.1.2.2.2.2 (gV k_1110 k_1111 k_1112 k_1 k_1113) rfl rfl rfl qX11_image ⟨Nat.le_of_ble_eq_true rfl, Nat.le_of_ble_eq_true rfl⟩) ⟨i_blind, va_recv E.2 hPi (ci := 11) (q0 := 0) rfl rfl, fun U hU hW => ⟨rfl, by rw [hU], by rw [hU]; exact hPi, va_K.moved hW.alike E.2, by rw [hU]; exact hN.step hS hW hiA⟩⟩ rfl rfl hsize rfl (lv_room hW) hdg ⟨show cells + 0 ≤ 600000 by omega, show slots + 0 ≤ 7302250 by omega⟩) hS (fun q _ h => hiA q h) hiA (fun r u t H1 locs1 ht hvm hw1 hB hz hk1 hS => ?_)
    subst hw1
    replace hB : va_P D classes (cxi cy (mrA ad iad) fz c') t.heap := hB
    rw [ht] at hB
    have hww := hw.im hk1 (fun q h => by
      rcases h with h | h
      · rw [iads_mem, cads_M, igads_M] at h
        exact h.elim Or.inl (fun h => Or.inr (Or.inl h))
      · exact Or.inr (Or.inr h)) hn hB
    refine W.widen (k := cells + 22) (n := slots + 341) (by omega) (by omega) ?_
    refine kk 0 (mrA ad iad) c' m' (some (mrA ad iad, c')) H1 locs1 rfl hww ?_ ?_ hS e2 r1 ⟨?_, ?_, r2⟩ (fun o ho hko x hx => ir_oth ho hko hk hx (by rw [r3]; rfl) r4 r5)
    · show (cads (mrA ad iad) fz ++ (mads mad ++ (igads (mrA ad iad) ++ imA io))).Nodup
      rw [cads_M, igads_M]; exact hn
    · show ∀ a ∈ cads (mrA ad iad) fz ++ (mads mad ++ (igads (mrA ad iad) ++ imA io)), s.heap.size ≤ a
      rw [cads_M, igads_M]; exact ha
    · rw [r3]; exact j1
    · rw [r4, upd_v, if_pos rfl]; decide
  | none =>
    obtain ⟨j1, j2⟩ := hi
    have hRM : ∀ h0, RR fz (stI c k h0) mm := fun h0 => hRR.cg (fun q hq => if_pos hq) (fun q hq => if_pos hq) rfl
    have hB0 : ∀ h0, ∃ st2, fX11_imagei (Int32.ofNat k) fz (stI c k h0) = some (0, st2) := fun h0 => by
      obtain ⟨c', m', e1, -⟩ := image_call hk (hRM h0)
      exact ⟨c', e1⟩
    have hcA : ∀ q, cA ad fz H.size q → s.heap.size ≤ q := cA_A ha hS
    have hle := hS.1
    refine va_calli (va_runV (As := [.int (Int32.ofNat k)]) (rest := rest) (g := F0 m pc ls (.int (Int32.ofNat k) :: .ref (ad 99) :: rest)) E.1 (tX11_imageN l D cy ad fz hn.c H.size k hk c j1 hB0) (cwV 1 E.1.2.2.2.2 (gV k_1110 k_1111 k_1112 k_1 k_1113) rfl rfl rfl qX11_image ⟨Nat.le_of_ble_eq_true rfl, Nat.le_of_ble_eq_true rfl⟩) ⟨n_blind, va_recv E.2 hw.1 (ci := 11) (q0 := 0) rfl rfl, fun U hU hW => ⟨rfl, by rw [hU], by rw [hU]; exact hw.1, va_K.moved hW.alike E.2, by rw [hU]; exact hN.step hS hW hcA, hXN.warm hW⟩⟩ rfl rfl hsize rfl (lv_room hW) hdg ⟨show cells + 22 ≤ 600000 by omega, show slots + 341 ≤ 7302250 by omega⟩) hS (fun q _ h => hcA q h) hcA (fun r u t H1 locs1 ht hvm hw1 hB hz hk1 hS => ?_)
    obtain ⟨⟨h0, ua⟩, st2⟩ := u
    obtain ⟨hr0, hf2⟩ := hw1
    replace hf2 : fX11_imagei (Int32.ofNat k) fz (stI c k h0) = some (0, st2) := hf2
    obtain ⟨hPi, hJi, hge⟩ := hB
    replace hPi : va_P D classes (cxi cy (adN ad h0 ua) fz st2) t.heap := hPi
    rw [ht] at hPi
    subst hr0
    obtain ⟨c', m', e1, e2, r1, r2, r3, r4, r5⟩ := image_call hk (hRM h0)
    rw [hf2] at e1
    cases e1
    have hww := hw.im hk1 (fun q h => h.elim Or.inl (fun h => Or.inr (Or.inr h))) hn hPi
    have hlt1 : ∀ a ∈ cads ad fz, a < H.size := fun a h => P_lts hw.1 a (by rw [cx_fst]; exact h)
    have hlt2 : ∀ a ∈ mads mad, a < H.size := fun a h => P_lts hw.2.1 a h
    have hlt4 : ∀ a ∈ imA io, a < H.size := fun a h => P_lts hw.2.2.2 a (by rw [imW_fst]; exact h)
    have hge' : ∀ a ∈ igads (adN ad h0 ua), H.size ≤ a := hge
    have ndg : (igads (adN ad h0 ua)).Nodup := by
      rw [iads_app] at hJi
      exact (List.nodup_append.mp (List.nodup_append.mp hJi).2.1).1
    have hn2' : (mads mad ++ imA io).Nodup := hn2
    refine kk 0 (adN ad h0 ua) st2 m' (some (adN ad h0 ua, st2)) H1 locs1 rfl hww ?_ ?_ hS e2 r1 ⟨?_, ?_, r2⟩ (fun o ho hko x hx => ir_oth ho hko hk hx ?_ r4 r5)
    · show (cads (adN ad h0 ua) fz ++ (mads mad ++ (igads (adN ad h0 ua) ++ imA io))).Nodup
      rw [cads_N, List.nodup_append]
      refine ⟨hn.c, ?_, fun x hx y hy hxy => ?_⟩
      · rw [List.nodup_append]
        refine ⟨hn.m, ?_, fun x hx y hy hxy => ?_⟩
        · rw [List.nodup_append]
          refine ⟨ndg, (List.nodup_append.mp hn2').2.1, fun x hx y hy hxy => ?_⟩
          subst hxy
          exact absurd (hlt4 x hy) (Nat.not_lt.mpr (hge' x hx))
        · subst hxy
          rcases List.mem_append.mp hy with h | h
          · exact absurd (hlt2 x hx) (Nat.not_lt.mpr (hge' x h))
          · exact nd_no hn2' hx h
      · subst hxy
        rcases List.mem_append.mp hy with h | h
        · exact nd_no hn hx (List.mem_append_left _ h)
        · rcases List.mem_append.mp h with h | h
          · exact absurd (hlt1 x hx) (Nat.not_lt.mpr (hge' x h))
          · exact nd_no hn hx (List.mem_append_right _ (List.mem_append_right _ h))
    · show ∀ a ∈ cads (adN ad h0 ua) fz ++ (mads mad ++ (igads (adN ad h0 ua) ++ imA io)), s.heap.size ≤ a
      rw [cads_N]
      intro a h
      rcases List.mem_append.mp h with h | h
      · exact ha a (List.mem_append_left _ h)
      · rcases List.mem_append.mp h with h | h
        · exact ha a (List.mem_append_right _ (List.mem_append_left _ h))
        · rcases List.mem_append.mp h with h | h
          · exact Nat.le_trans hle (hge' a h)
          · exact ha a (List.mem_append_right _ (List.mem_append_right _ (List.mem_append_right _ h)))
    · rw [r3]
      show va_up (c.2.2.2.2 1) k (some h0) k = some h0
      rw [vup_v, if_pos rfl]
    · rw [r4, upd_v, if_pos rfl]; decide
    · rw [r3]
      show va_up (c.2.2.2.2 1) k (some h0) o = _
      rw [vup_v, if_neg hko]
set_option maxHeartbeats 1000000 in
theorem w_bk {k : Nat} (hk : k ≤ 1) (C0 : LC p s m meth cd D cy b L xs) (hw : WW D cy fz ad c mad mm ik io H) (hn : NN fz ad mad ik io) (ha : AA s.heap.size fz ad mad ik io) (hS : va_S (fun q : Nat => s.heap.size ≤ q) s.heap H locs) (hRR : RR fz c mm) (hi : IRk fz k ik c mm) (hcs : cells ≤ 400000 ∧ slots ≤ 6000000) (hsize : ls.size = 4) (hW : (rest.map fun v => v.category).sum ≤ 8) (hdg : decode code pc = .ok (.invokevirtual 171, 3)) (kk : LJ p l e s m below meth cd cells slots Q D cy b ls pc rest fz ad mad c mm k io (fX12_back (Int32.ofNat k))) : W p l e room_1 s m #[Value.ref b] below meth cd H locs cells slots Q (F0 m pc ls (.int (Int32.ofNat k) :: .ref (ad 99) :: rest)) := by
  have C1 := C0
  obtain ⟨E, -, -, -, hN, -, hXN, -⟩ := C0
  have hn2 := (List.nodup_append.mp hn).2.1
  cases ik with
  | some x =>
    obtain ⟨iad, ist⟩ := x
    obtain ⟨j1, j2, j3⟩ := hi
    have hRM : RR fz (mer c ist) mm := hRR.cg (fun q hq => if_pos hq) (fun q hq => if_pos hq) rfl
    have hIM : Im 1400 fz (mer c ist) (fun j => mm.2.2.1 4 (5550 * k + j)) := Im.cg j3 (fun q hq => if_neg (by omega)) (fun q hq => if_neg (by omega)) rfl
    obtain ⟨c', m', e1, e2, r1, r2, r3⟩ := back_call hk hRM hIM j2
    have hq : (mer c ist).2.2.2.2 1 (Int32.ofNat k).toNatClampNeg = some (mrA ad iad 1599) := by
      rw [oN_tn (by omega)]; exact j1
    have hJ : (iads (mrA ad iad) fz).Nodup := by
      apply iads_nd
      rw [cads_M, igads_M, List.nodup_append]
      exact ⟨hn.c, (List.nodup_append.mp (List.nodup_append.mp hn2).2.1).1, fun x hx y hy hxy => by subst hxy; exact nd_no hn hx (List.mem_append_right _ (List.mem_append_left _ hy))⟩
    have hPi : va_P D classes (cxi cy (mrA ad iad) fz (mer c ist)) H := cxi_P (by rw [cx_M]; exact hw.1) (by rw [igw_M]; exact hw.2.2.1)
    have hiA : ∀ q, iA (mrA ad iad) fz H.size q → s.heap.size ≤ q := by
      rintro q (h | h)
      · rw [iads_mem, cads_M, igads_M] at h
        rcases h with h | h
        · exact ha q (List.mem_append_left _ h)
        · exact ha q (List.mem_append_right _ (List.mem_append_right _ (List.mem_append_left _ h)))
      · exact Nat.le_trans hS.1 h
    refine va_calli (va_runV (As := [.int (Int32.ofNat k)]) (rest := rest) (g := F0 m pc ls (.int (Int32.ofNat k) :: .ref (ad 99) :: rest)) E.1 (tX11_backi l D cy (mrA ad iad) fz hJ H.size (Int32.ofNat k) (mer c ist) hq 0 c' e1) (cwV 1 E.1.2.2.2.2 (gV k_1130 k_1131 k_1132 k_1 k_1133) rfl rfl rfl qX11_back ⟨Nat.le_of_ble_eq_true rfl, Nat.le_of_ble_eq_true rfl⟩) ⟨i_blind, va_recv E.2 hPi (ci := 11) (q0 := 0) rfl rfl, fun U hU hW => ⟨rfl, by rw [hU], by rw [hU]; exact hPi, va_K.moved hW.alike E.2, by rw [hU]; exact hN.step hS hW hiA⟩⟩ rfl rfl hsize rfl (lv_room hW) hdg ⟨show cells + 0 ≤ 600000 by omega, show slots + 0 ≤ 7302250 by omega⟩) hS (fun q _ h => hiA q h) hiA (fun r u t H1 locs1 ht hvm hw1 hB hz hk1 hS => ?_)
    subst hw1
    replace hB : va_P D classes (cxi cy (mrA ad iad) fz c') t.heap := hB
    rw [ht] at hB
    have hww := hw.im hk1 (fun q h => by
      rcases h with h | h
      · rw [iads_mem, cads_M, igads_M] at h
        exact h.elim Or.inl (fun h => Or.inr (Or.inl h))
      · exact Or.inr (Or.inr h)) hn hB
    refine W.widen (k := cells + 22) (n := slots + 341) (by omega) (by omega) ?_
    refine kk 0 (mrA ad iad) c' m' (some (mrA ad iad, c')) H1 locs1 rfl hww ?_ ?_ hS e2 r1 ⟨?_, ?_, r2⟩ (fun o ho hko x hx => IRk.f hx r3)
    · show (cads (mrA ad iad) fz ++ (mads mad ++ (igads (mrA ad iad) ++ imA io))).Nodup
      rw [cads_M, igads_M]; exact hn
    · show ∀ a ∈ cads (mrA ad iad) fz ++ (mads mad ++ (igads (mrA ad iad) ++ imA io)), s.heap.size ≤ a
      rw [cads_M, igads_M]; exact ha
    · rw [r3.1]; exact j1
    · rw [r3.2.2]; exact j2
  | none =>
    obtain ⟨j1, j2⟩ := hi
    obtain ⟨v, c', m', e1, e2, r1, r2⟩ := back_null hk hRR j2
    refine w_ci (n := 1) (As := [.int (Int32.ofNat k)]) (rest := rest) C1 hw hn ha hS (fun sz => tX11_backN l D cy ad fz hn.c sz k hk c j1 v c' e1) (gV k_1130 k_1131 k_1132 k_1 k_1133) qX11_back ⟨Nat.le_of_ble_eq_true rfl, Nat.le_of_ble_eq_true rfl⟩ ⟨by omega, by omega⟩ rfl hsize rfl hW hdg (fun H1 locs1 hw1 hS1 => ?_)
    refine W.widen (k := cells + 22) (n := slots + 341) (by omega) (by omega) ?_
    exact kk v ad c' m' none H1 locs1 rfl hw1 hn ha hS1 e2 r1 (IRk.f (o := none) (show IRk fz k none c mm from ⟨j1, j2⟩) r2) (fun o _ _ x hx => IRk.f hx r2)
theorem WW.sw (h : WW D cy fz ad c mad mm i0 i1 H) : WW D cy fz ad c mad mm i1 i0 H := ⟨h.1, h.2.1, h.2.2.2, h.2.2.1⟩
theorem NN.sw (h : NN fz ad mad i0 i1) : NN fz ad mad i1 i0 := ((List.Perm.append_left _ (List.Perm.append_left _ List.perm_append_comm)).nodup_iff).mp h
theorem AA.sw {sz : Nat} (h : AA sz fz ad mad i0 i1) : AA sz fz ad mad i1 i0 := by
  intro a hq
  refine h a ?_
  simp only [List.mem_append] at hq ⊢
  rcases hq with h | h | h | h
  · exact Or.inl h
  · exact Or.inr (Or.inl h)
  · exact Or.inr (Or.inr (Or.inr h))
  · exact Or.inr (Or.inr (Or.inl h))
end LoopI
