/-! the class: what the written code is -/
section WRM
variable {μ : Mm} {n : Nat} {q : Bool}
theorem wrM_old {a : Nat} (ha : a < mN μ) : (∀ k, mI (wrM μ n q) a k = mI μ a k) ∧ (∀ k, mL (wrM μ n q) a k = mL μ a k) ∧ (∀ k, mR (wrM μ n q) a k = mR μ a k) := by
  refine ⟨fun k => ?_, fun k => ?_, fun k => ?_⟩
  · unfold wrM
    rw [mI_sI, if_neg (by omega), mI_sR]
    show (if a = mN μ + 1 then (fun _ => 0) else (sA (nM μ 100 n) (mN μ) _).1 a) k = _
    rw [if_neg (by omega)]
    show (if a = mN μ then _ else (if a = mN μ then (fun _ => 0) else μ.1 a)) k = _
    rw [if_neg (by omega), if_neg (by omega)]
    rfl
  · show (if a = mN μ + 1 then (fun _ => 0) else (if a = mN μ then (fun _ => 0) else μ.2.1 a)) k = _
    rw [if_neg (by omega), if_neg (by omega)]
    rfl
  · show (if a = mN μ + 1 ∧ k = 0 then _ else (if a = mN μ + 1 then (fun _ => none) else (if a = mN μ then (fun _ => none) else μ.2.2.1 a)) k) = _
    rw [if_neg (by omega), if_neg (by omega), if_neg (by omega)]
    rfl
theorem wrM_n : mN (wrM μ n q) = mN μ + 2 := rfl
theorem wrM_g : Grw μ (wrM μ n q) := (Grw.new μ 100 n).trans (Grw.new (sA (nM μ 100 n) (mN μ) (va_cpy (mI (nM μ 100 n) 6) (mI (nM μ 100 n) (mN μ)) 0 0 n)) 0 2)
theorem wrM_o : isO (wrM μ n q) (mN μ + 1) 0 := ⟨Nat.lt_succ_self _, if_pos rfl⟩
theorem wrM_a : isA (wrM μ n q) (mN μ) 0 n := ⟨by rw [wrM_n]; omega, by
  show (if mN μ = mN μ + 1 then (0, 2) else (if mN μ = mN μ then (100, n) else mK μ (mN μ))) = _
  rw [if_neg (by omega), if_pos rfl]⟩
theorem wrM_r : mR (wrM μ n q) (mN μ + 1) 0 = some (mN μ) := if_pos ⟨rfl, rfl⟩
theorem wrM_1 : mI (wrM μ n q) (mN μ + 1) 1 = bI q := by unfold wrM; rw [mI_sI, if_pos ⟨rfl, rfl⟩]
theorem wrM_s (hN : 259 ≤ mN μ) {j : Nat} (hj : j < n) : mI (wrM μ n q) (mN μ) j = mI μ 6 j := by
  unfold wrM
  rw [mI_sI, if_neg (by omega), mI_sR]
  show (if mN μ = mN μ + 1 then (fun _ => 0) else (sA (nM μ 100 n) (mN μ) (va_cpy (mI (nM μ 100 n) 6) (mI (nM μ 100 n) (mN μ)) 0 0 n)).1 (mN μ)) j = _
  rw [if_neg (by omega)]
  show (if mN μ = mN μ then va_cpy (mI (nM μ 100 n) 6) (mI (nM μ 100 n) (mN μ)) 0 0 n else _) j = _
  rw [if_pos rfl]
  unfold va_cpy
  rw [if_pos (by omega)]
  rw [Nat.zero_add, Nat.sub_zero]
  show (if 6 = mN μ then (fun _ => 0) else μ.1 6) j = _
  rw [if_neg (by omega)]
  rfl
end WRM
