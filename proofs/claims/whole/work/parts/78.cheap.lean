/-! T2, bluff: the class's search -/
def al6 (b0 b1 b2 b3 b4 b5 : Bool) (j : Nat) : Bool := if j = 0 then b0 else if j = 1 then b1 else if j = 2 then b2 else if j = 3 then b3 else if j = 4 then b4 else b5
set_option maxRecDepth 100000 in
set_option maxHeartbeats 4000000 in
theorem sub_v : ∀ b0 b1 b2 b3 b4 b5 : Bool, ∀ v : Fin 64, decide ((Int32.ofNat v.1 &&& (mkI (al6 b0 b1 b2 b3 b4 b5) 6 ^^^ (-1 : Int32))) = 0) = okB (al6 b0 b1 b2 b3 b4 b5) v.1 6 := by decide
theorem sub_ok (al : Nat → Bool) {v : Nat} (hv : v < 64) : ((Int32.ofNat v &&& (mkI al 6 ^^^ (-1 : Int32))) = 0) ↔ okB al v 6 = true := by
  have h : decide ((Int32.ofNat v &&& (mkI al 6 ^^^ (-1 : Int32))) = 0) = okB al v 6 := sub_v (al 0) (al 1) (al 2) (al 3) (al 4) (al 5) ⟨v, hv⟩
  rw [← h, decide_eq_true_eq]
