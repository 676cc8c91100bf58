/-! the class: a code made -/
section KCD
variable {l : Launch} {G : Gm} {μ : Mm}
theorem kf_code {a s0 : Nat} {q : Bool} (hO : isO μ a 0) : AMet l G 1 0 0 mtX0_init [.ref (G.1 + a), .ref (G.1 + s0), .int (bI q)] μ (qV (fun μ' => μ' = sI (sR μ a 0 (some s0)) a 1 (bI q))) := by
  refine AMet.of (by decide) (Nat.le_of_ble_eq_true rfl) (fun X C hX hnm hq => ?_)
  refine C.aload_n dX0_init_0 0 rfl ?_
  refine C.objI oX0_1 dX0_init_1 (by omega) (Nat.le_of_ble_eq_true rfl) oi_1 oi_2 ?_
  refine C.aload_n dX0_init_4 0 rfl ?_
  refine C.aload_n dX0_init_5 1 rfl ?_
  refine C.putA fX0_7 (Or.inr ⟨hnm, rfl⟩) dX0_init_6 hO ?_
  refine C.aload_n dX0_init_9 0 rfl ?_
  refine C.iload_n dX0_init_10 2 rfl ?_
  refine C.putZ fX0_13 (Or.inr ⟨hnm, rfl⟩) dX0_init_11 hO (bI_z _) ?_
  refine C.vret hq dX0_init_14 ?_
  first | rfl | (cases q <;> rfl)
end KCD
