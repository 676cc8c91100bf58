/-! memory of new cells; a land that is being made -/
section NMP
variable {μ M : Mm} {L n : Nat} {rs : List (Nat × Nat)} {as : List (Nat × Nat × Nat)} {os : List (Nat × Nat)} {is : Nat → Int32}
theorem mI_nM (μ : Mm) (t m a j : Nat) : mI (nM μ t m) a j = if a = mN μ then 0 else mI μ a j := by
  show (if a = mN μ then (fun _ => 0) else μ.1 a) j = _
  split <;> rfl
theorem mL_nM (μ : Mm) (t m a j : Nat) : mL (nM μ t m) a j = if a = mN μ then 0 else mL μ a j := by
  show (if a = mN μ then (fun _ => 0) else μ.2.1 a) j = _
  split <;> rfl
theorem mR_nM (μ : Mm) (t m a j : Nat) : mR (nM μ t m) a j = if a = mN μ then none else mR μ a j := by
  show (if a = mN μ then (fun _ => none) else μ.2.2.1 a) j = _
  split <;> rfl
theorem isA_nM (μ : Mm) (t m : Nat) : isA (nM μ (100 + t) m) (mN μ) t m := ⟨Nat.lt_succ_self _, if_pos rfl⟩
theorem isO_nM (μ : Mm) (t m : Nat) : isO (nM μ t (nF t)) (mN μ) t := ⟨Nat.lt_succ_self _, if_pos rfl⟩
theorem mI_nG (μ : Mm) (N K a j : Nat) : mI (nG μ N K) a j = if mN μ ≤ a then 0 else mI μ a j := by
  show (if mN μ ≤ a then (fun _ => 0) else mI μ a) j = _
  split <;> rfl
theorem mL_nG (μ : Mm) (N K a j : Nat) : mL (nG μ N K) a j = if mN μ ≤ a then 0 else mL μ a j := by
  show (if mN μ ≤ a then (fun _ => 0) else mL μ a) j = _
  split <;> rfl
theorem mR_nG (μ : Mm) (N K a j : Nat) (h : a < mN μ) : mR (nG μ N K) a j = mR μ a j := by
  show (if a = mN μ then (fun j => if j < N then some (mN μ + 1 + j) else none) else if mN μ ≤ a then (fun _ => none) else mR μ a) j = _
  rw [if_neg (by omega), if_neg (by omega)]
theorem mR_nG0 (μ : Mm) (N K j : Nat) (h : j < N) : mR (nG μ N K) (mN μ) j = some (mN μ + 1 + j) := by
  show (if mN μ = mN μ then (fun j => if j < N then some (mN μ + 1 + j) else none) else if mN μ ≤ mN μ then (fun _ => none) else mR μ (mN μ)) j = _
  rw [if_pos rfl, if_pos h]
theorem nG_g (μ : Mm) (N K : Nat) : Grw μ (nG μ N K) := ⟨by show mN μ ≤ mN μ + 1 + N; omega, fun a h => by
  show (if a = mN μ then (106, N) else if mN μ < a ∧ a ≤ mN μ + N then (100, K) else mK μ a) = _
  rw [if_neg (by omega), if_neg (by omega)]⟩
theorem nG_a (μ : Mm) (N K : Nat) : isA (nG μ N K) (mN μ) 6 N := ⟨by show mN μ < mN μ + 1 + N; omega, if_pos rfl⟩
theorem nG_b (μ : Mm) (N K i : Nat) (h : i < N) : isA (nG μ N K) (mN μ + 1 + i) 0 K := ⟨by show mN μ + 1 + i < mN μ + 1 + N; omega, by
  show (if mN μ + 1 + i = mN μ then (106, N) else if mN μ < mN μ + 1 + i ∧ mN μ + 1 + i ≤ mN μ + N then (100, K) else mK μ (mN μ + 1 + i)) = _
  rw [if_neg (by omega), if_pos (by omega)]⟩
def InP (μ : Mm) (L n : Nat) (rs : List (Nat × Nat)) (as : List (Nat × Nat × Nat)) (os : List (Nat × Nat)) (is : Nat → Int32) (M : Mm) : Prop :=
  (mN M = L + n ∧ Grw μ M ∧ isO M L 2 ∧ 0 < n) ∧ (∀ a, a < L → (∀ k, mI M a k = mI μ a k) ∧ (∀ k, mL M a k = mL μ a k) ∧ (∀ k, mR M a k = mR μ a k)) ∧ (∀ p ∈ rs, mR M L p.1 = some p.2) ∧ (∀ p ∈ as, isA M p.1 p.2.1 p.2.2) ∧ (∀ p ∈ os, L < p.1 ∧ p.1 < L + n ∧ ∀ i, i < p.2 → mR M p.1 i = some (p.1 + 1 + i)) ∧ (∀ k, mI M L k = is k) ∧ (∀ k, mL M L k = 0) ∧ (∀ a, L < a → a < L + n → ∀ k, mI M a k = 0 ∧ mL M a k = 0)
theorem InP.newa (h : InP μ L n rs as os is M) (t m : Nat) : InP μ L (n + 1) rs ((L + n, t, m) :: as) os is (nM M (100 + t) m) := by
  obtain ⟨⟨h1, h2, h3, h4⟩, h5, h6, h7, h8, h9, h10, h11⟩ := h
  have g := Grw.new M (100 + t) m
  refine ⟨⟨by show mN M + 1 = _; omega, h2.trans g, h3.grw g, by omega⟩, fun a ha => ?_, fun p hp => ?_, fun p hp => ?_, fun p hp => ?_, fun k => ?_, fun k => ?_, fun a h12 h13 k => ?_⟩
  · obtain ⟨q1, q2, q3⟩ := h5 a ha
    exact ⟨fun k => by rw [mI_nM, if_neg (by omega)]; exact q1 k, fun k => by rw [mL_nM, if_neg (by omega)]; exact q2 k, fun k => by rw [mR_nM, if_neg (by omega)]; exact q3 k⟩
  · rw [mR_nM, if_neg (by omega)]
    exact h6 p hp
  · rcases List.mem_cons.mp hp with e | e
    · rw [e]
      have := isA_nM M t m
      rw [h1] at this
      exact this
    · exact (h7 p e).grw g
  · obtain ⟨q1, q2, q3⟩ := h8 p hp
    refine ⟨q1, by omega, fun i hi => ?_⟩
    rw [mR_nM, if_neg (by omega)]
    exact q3 i hi
  · rw [mI_nM, if_neg (by omega)]
    exact h9 k
  · rw [mL_nM, if_neg (by omega)]
    exact h10 k
  · rw [mI_nM, mL_nM]
    by_cases e : a = mN M
    · rw [if_pos e, if_pos e]
      exact ⟨rfl, rfl⟩
    · rw [if_neg e, if_neg e]
      exact h11 a h12 (by omega) k
theorem InP.mna (h : InP μ L n rs as os is M) (N K : Nat) : InP μ L (n + 1 + N) rs ((L + n, 6, N) :: as) ((L + n, N) :: os) is (nG M N K) ∧ ∀ i, i < N → isA (nG M N K) (L + n + 1 + i) 0 K := by
  obtain ⟨⟨h1, h2, h3, h4⟩, h5, h6, h7, h8, h9, h10, h11⟩ := h
  have g := nG_g M N K
  refine ⟨⟨⟨by show mN M + 1 + N = _; omega, h2.trans g, h3.grw g, by omega⟩, fun a ha => ?_, fun p hp => ?_, fun p hp => ?_, fun p hp => ?_, fun k => ?_, fun k => ?_, fun a h12 h13 k => ?_⟩, fun i hi => ?_⟩
  · obtain ⟨q1, q2, q3⟩ := h5 a ha
    exact ⟨fun k => by rw [mI_nG, if_neg (by omega)]; exact q1 k, fun k => by rw [mL_nG, if_neg (by omega)]; exact q2 k, fun k => by rw [mR_nG _ _ _ _ _ (by omega)]; exact q3 k⟩
  · rw [mR_nG _ _ _ _ _ (by omega)]
    exact h6 p hp
  · rcases List.mem_cons.mp hp with e | e
    · rw [e]
      have := nG_a M N K
      rw [h1] at this
      exact this
    · exact (h7 p e).grw g
  · rcases List.mem_cons.mp hp with e | e
    · rw [e]
      refine ⟨by dsimp only; omega, by dsimp only; omega, fun i hi => ?_⟩
      have := mR_nG0 M N K i hi
      rw [h1] at this
      exact this
    · obtain ⟨q1, q2, q3⟩ := h8 p e
      refine ⟨q1, by omega, fun i hi => ?_⟩
      rw [mR_nG _ _ _ _ _ (by omega)]
      exact q3 i hi
  · rw [mI_nG, if_neg (by omega)]
    exact h9 k
  · rw [mL_nG, if_neg (by omega)]
    exact h10 k
  · rw [mI_nG, mL_nG]
    by_cases e : mN M ≤ a
    · rw [if_pos e, if_pos e]
      exact ⟨rfl, rfl⟩
    · rw [if_neg e, if_neg e]
      exact h11 a h12 (by omega) k
  · have := nG_b M N K i hi
    rw [h1] at this
    exact this
theorem InP.putR (h : InP μ L n rs as os is M) (k r : Nat) (hk : ∀ p ∈ rs, ¬ p.1 = k) : InP μ L n ((k, r) :: rs) as os is (sR M L k (some r)) := by
  obtain ⟨⟨h1, h2, h3, h4⟩, h5, h6, h7, h8, h9, h10, h11⟩ := h
  refine ⟨⟨h1, h2, h3, h4⟩, fun a ha => ?_, fun p hp => ?_, h7, fun p hp => ?_, h9, h10, h11⟩
  · obtain ⟨q1, q2, q3⟩ := h5 a ha
    exact ⟨q1, q2, fun k => by rw [mR_sR, if_neg (by omega)]; exact q3 k⟩
  · rcases List.mem_cons.mp hp with e | e
    · rw [e, mR_sR, if_pos ⟨rfl, rfl⟩]
    · rw [mR_sR, if_neg (fun z => hk p e z.2)]
      exact h6 p e
  · obtain ⟨q1, q2, q3⟩ := h8 p hp
    refine ⟨q1, q2, fun i hi => ?_⟩
    rw [mR_sR, if_neg (by omega)]
    exact q3 i hi
theorem InP.putI (h : InP μ L n rs as os is M) (k : Nat) (v : Int32) : InP μ L n rs as os (fun j => if j = k then v else is j) (sI M L k v) := by
  obtain ⟨⟨h1, h2, h3, h4⟩, h5, h6, h7, h8, h9, h10, h11⟩ := h
  refine ⟨⟨h1, h2, h3, h4⟩, fun a ha => ?_, h6, h7, h8, fun j => ?_, h10, fun a h12 h13 j => ?_⟩
  · obtain ⟨q1, q2, q3⟩ := h5 a ha
    exact ⟨fun k => by rw [mI_sI, if_neg (by omega)]; exact q1 k, q2, q3⟩
  · show (if L = L ∧ j = k then v else mI M L j) = if j = k then v else is j
    by_cases e : j = k
    · rw [if_pos ⟨rfl, e⟩, if_pos e]
    · rw [if_neg (fun z => e z.2), if_neg e]
      exact h9 j
  · rw [mI_sI, if_neg (by omega)]
    exact h11 a h12 h13 j
end NMP
