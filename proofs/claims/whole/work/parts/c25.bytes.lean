/-! the class: what its reader sees -/
section BYP
theorem byS_lo {x : Nat} (h : x < 128) : byS x = nI x := fa_byte_small h
theorem byS_hi {x : Nat} (h1 : 128 ≤ x) (h2 : x < 256) : byS x < 0 := by
  have : ∀ k : Fin 128, byS (128 + k.val) < 0 := by decide +kernel
  have := this ⟨x - 128, by omega⟩
  rw [show 128 + (x - 128) = x by omega] at this
  exact this
theorem byS_eq {x c : Nat} (h : x < 256) (hc : c < 128) : byS x = nI c ↔ x = c := by
  by_cases q : x < 128
  · rw [byS_lo q, nI_eq (by omega) (by omega)]
  · have := byS_hi (by omega) h
    constructor
    · intro e
      rw [e] at this
      exact absurd this (nI_pos (by omega))
    · intro e; omega
theorem byS_ge {x c : Nat} (h : x < 256) (hc : c < 128) : nI c ≤ byS x ↔ c ≤ x ∧ x < 128 := by
  by_cases q : x < 128
  · rw [byS_lo q, nI_leI (by omega) (by omega)]
    omega
  · have := byS_hi (by omega) h
    constructor
    · intro e
      rw [i_le, nI_tI (by omega)] at e
      rw [i_lt] at this
      have h0 : (0 : Int32).toInt = 0 := by decide
      omega
    · intro e; omega
theorem byS_L {x : Nat} (h : x < 256) : (nI 97 ≤ byS x ∧ byS x ≤ nI 122) ↔ isL x = true := by
  rw [byS_ge h (by decide)]
  unfold isL
  simp only [Bool.and_eq_true, decide_eq_true_eq]
  constructor
  · intro ⟨⟨q1, q2⟩, q3⟩
    rw [byS_lo q2, nI_leI (by omega) (by omega)] at q3
    exact ⟨q1, q3⟩
  · intro ⟨q1, q2⟩
    rw [byS_lo (by omega), nI_leI (by omega) (by omega)]
    exact ⟨⟨q1, by omega⟩, q2⟩
theorem byS_D {x : Nat} (h : x < 256) : (nI 48 ≤ byS x ∧ byS x ≤ nI 57) ↔ isD x = true := by
  rw [byS_ge h (by decide)]
  unfold isD
  simp only [Bool.and_eq_true, decide_eq_true_eq]
  constructor
  · intro ⟨⟨q1, q2⟩, q3⟩
    rw [byS_lo q2, nI_leI (by omega) (by omega)] at q3
    exact ⟨q1, q3⟩
  · intro ⟨q1, q2⟩
    rw [byS_lo (by omega), nI_leI (by omega) (by omega)]
    exact ⟨⟨q1, by omega⟩, q2⟩
end BYP
section TKP
variable {tx : Nat → Nat} {e : Nat}
/-- the letters of the word that stands here -/
def tkW (tx : Nat → Nat) (e p : Nat) : List Nat := (tok tx e p).map (fun x => x - 96)
/-- the first letters, as one number -/
def pk5 (ls : List Nat) : Nat → Nat
  | 0 => 0
  | n + 1 => pk5 ls n + (if n < 6 then ls.getD n 0 * 2 ^ (5 * (5 - n)) else 0)
theorem pk5_ge (ls : List Nat) : ∀ n, 6 ≤ n → pk5 ls n = nm32 ls := by
  intro n hn
  induction n with
  | zero => omega
  | succ n ih =>
    by_cases q : 6 ≤ n
    · show pk5 ls n + (if n < 6 then ls.getD n 0 * 2 ^ (5 * (5 - n)) else 0) = _
      rw [ih q, if_neg (by omega), Nat.add_zero]
    · have : n = 5 := by omega
      subst this
      simp only [pk5, nm32]
      simp
theorem pk5_len (ls : List Nat) (n : Nat) (hn : ls.length ≤ n) : pk5 ls n = nm32 ls := by
  by_cases q : 6 ≤ n
  · exact pk5_ge ls n q
  · have key : ∀ m, n + m ≤ 6 → pk5 ls (n + m) = pk5 ls n := by
      intro m
      induction m with
      | zero => intro _; rfl
      | succ m ih =>
        intro hm
        rw [← Nat.add_assoc]
        show pk5 ls (n + m) + _ = _
        rw [ih (by omega), if_pos (by omega), List.getD_eq_getElem?_getD, List.getElem?_eq_none (by omega)]
        simp
    rw [← key (6 - n) (by omega), show n + (6 - n) = 6 by omega]
    exact pk5_ge ls 6 (Nat.le_refl _)
theorem pk5_dv (ls : List Nat) (h : ∀ k, ls.getD k 0 < 32) : ∀ n, n ≤ 6 → ∃ b, pk5 ls n = 2 ^ (5 * (6 - n)) * b ∧ b < 2 ^ (5 * n)
  | 0, _ => ⟨0, rfl, by decide⟩
  | n + 1, hn => by
    obtain ⟨b, h1, h2⟩ := pk5_dv ls h n (by omega)
    have hg := h n
    refine ⟨32 * b + ls.getD n 0, ?_, ?_⟩
    · show pk5 ls n + (if n < 6 then ls.getD n 0 * 2 ^ (5 * (5 - n)) else 0) = _
      rw [if_pos (by omega), h1, show 5 * (6 - n) = 5 * (5 - n) + 5 by omega, show 5 * (6 - (n + 1)) = 5 * (5 - n) by omega, Nat.pow_add, Nat.mul_add, Nat.mul_comm (ls.getD n 0), Nat.mul_assoc]
    · rw [show 5 * (n + 1) = 5 * n + 5 by omega, Nat.pow_add]
      omega
theorem pk5_or (ls : List Nat) (h : ∀ k, ls.getD k 0 < 32) {n : Nat} (hn : n < 6) : nI (pk5 ls n) ||| nI (ls.getD n 0 * 2 ^ (5 * (5 - n))) = nI (pk5 ls (n + 1)) := by
  obtain ⟨b, h1, h2⟩ := pk5_dv ls h n (by omega)
  have hg := h n
  have hlt : ls.getD n 0 * 2 ^ (5 * (5 - n)) < 2 ^ (5 * (6 - n)) := by
    rw [show 5 * (6 - n) = 5 * (5 - n) + 5 by omega, Nat.pow_add, Nat.mul_comm]
    exact Nat.mul_lt_mul_of_pos_left hg (Nat.two_pow_pos _)
  rw [h1, fa_or_sum b hlt, ← h1]
  show _ = nI (pk5 ls n + (if n < 6 then ls.getD n 0 * 2 ^ (5 * (5 - n)) else 0))
  rw [if_pos hn]
theorem wl_let2 {p : Nat} : ∀ r, p ≤ r → r < wl tx e p → r < e ∧ isL (tx r) = true := by
  intro r h1 h2
  by_cases hq : p < e ∧ isL (tx p) = true
  · generalize hn : r - p = n
    induction n generalizing p with
    | zero => rw [show r = p by omega]; exact hq
    | succ n ih =>
      unfold wl at h2
      rw [rn_step (f := fun q => isL (tx q)) hq.1 hq.2] at h2
      by_cases c : p + 1 < e ∧ isL (tx (p + 1)) = true
      · exact ih (p := p + 1) (by omega) h2 c (by omega)
      · rw [rn_stop (f := fun q => isL (tx q)) c] at h2
        omega
  · unfold wl at h2
    rw [rn_stop (f := fun q => isL (tx q)) hq] at h2
    omega
theorem tkW_len (p : Nat) : (tkW tx e p).length = wl tx e p - p := by unfold tkW tok; rw [List.length_map, List.length_map, List.length_range]
theorem tkW_get {p k : Nat} (hk : p + k < wl tx e p) : (tkW tx e p).getD k 0 = tx (p + k) - 96 := by
  unfold tkW tok
  rw [List.getD_eq_getElem?_getD, List.getElem?_map, List.getElem?_map, List.getElem?_range (by omega)]
  rfl
theorem tkW_lt (p k : Nat) : (tkW tx e p).getD k 0 < 32 := by
  by_cases q : p + k < wl tx e p
  · rw [tkW_get q]
    have := (wl_let2 (p := p) (p + k) (by omega) q).2
    unfold isL at this
    simp only [Bool.and_eq_true, decide_eq_true_eq] at this
    omega
  · rw [List.getD_eq_getElem?_getD, List.getElem?_eq_none (by rw [tkW_len]; omega)]
    exact (by decide : (0 : Nat) < 32)
end TKP
/-- what stands at p, and whether it touches the word before -/
def RdT (μ : Mm) (tx : Nat → Nat) (e p : Nat) (tch : Prop) : Prop := mI μ 3 4 = nI p ∧ (e ≤ p → mI μ 3 2 = nI 0) ∧ (p < e → (isL (tx p) || isD (tx p)) = true → tch → mI μ 3 2 = nI 4) ∧ (p < e → isL (tx p) = true → ¬ tch → mI μ 3 2 = nI 1 ∧ mI μ 3 3 = nI (nm32 (tkW tx e p)) ∧ mI μ 3 5 = nI (wl tx e p)) ∧ (p < e → isD (tx p) = true → ¬ tch → mI μ 3 2 = nI 2 ∧ mI μ 3 3 = nI (dval tx p (min 4 (dl tx e p - p))) ∧ mI μ 3 5 = nI (dl tx e p)) ∧ (p < e → isL (tx p) = false → isD (tx p) = false → mI μ 3 2 = nI 3 ∧ mI μ 3 3 = byS (tx p) ∧ mI μ 3 5 = nI (p + 1))
/-- the reader stands where the reference's reading stands -/
def RD (μ : Mm) (tx : Nat → Nat) (e : Nat) (s : Ps) : Prop := (s.2.2.1 = 0 → mI μ 3 6 = nI 0 ∧ mI μ 3 7 = -1 ∧ RdT μ tx e (sk tx e s.1) (nI (sk tx e s.1) = s.2.1)) ∧ (¬ s.2.2.1 = 0 → mI μ 3 6 = s.2.2.1 ∧ mI μ 3 7 = s.2.2.2.1 ∧ mI μ 3 2 = nI 4)
/-- where a reading may stand -/
def PsOk (e : Nat) (s : Ps) : Prop := s.2.2.1 = 0 → s.1 ≤ e ∧ (s.2.1 = -1 ∨ ∃ m, m ≤ s.1 ∧ s.2.1 = nI m) ∧ s.2.2.2.1 = -1
/-- the reader's own slots alone are written -/
def RqF (μ μ' : Mm) : Prop := μ'.2 = μ.2 ∧ ∀ a k, a ≠ 3 → mI μ' a k = mI μ a k
