/-! the class: a land's small methods -/
section KL0
variable {l : Launch} {G : Gm} {μ : Mm} {L W H : Nat}
theorem bI_if {P : Prop} [Decidable P] : (if P then nI 1 else nI 0) = bI (decide P) := by
  by_cases h : P <;> simp [h, bI]
theorem inN_t {x : Int32} {n : Nat} (hn : n < 2147483648) (h1 : ¬ x < 0) (h2 : ¬ nI n ≤ x) : ∃ j, j < n ∧ x = nI j ∧ inN x n = some j := by
  rcases pk_ix x (n := n) hn with q | q | ⟨j, hj, rfl⟩
  · exact absurd q h1
  · exact absurd q h2
  · exact ⟨j, hj, rfl, by unfold inN; rw [if_pos ⟨h1, Int32.not_le.mp h2⟩]; exact congrArg some (n_cl (by omega))⟩
theorem inN_f {x : Int32} {n : Nat} (h : x < 0 ∨ nI n ≤ x) : inN x n = none := by
  unfold inN
  rw [if_neg (fun q => h.elim (fun z => q.1 z) (fun z => Int32.not_le.mpr q.2 z))]
theorem kl_stands (hO : isO μ L 2) (hw : mI μ L 0 = nI W) (hW : W < 1000) : AMet l G 0 0 0 mtX2_stands [.ref (G.1 + L)] μ (qI (fun x μ' => x = bI (decide (0 < W)) ∧ μ' = μ)) := by
  refine AMet.of (by decide) (Nat.le_of_ble_eq_true rfl) (fun X C hX hnm hq => ?_)
  refine C.aload_n dX2_stands_0 0 rfl ?_
  refine C.getI fX2_42 dX2_stands_1 hO ?_
  rw [hw]
  refine C.if_le 11 dX2_stands_4 rfl (fun hc4 => ?_) (fun hc4 => ?_)
  · refine C.iconst (nI 0) dX2_stands_11 (by decide) ?_
    refine C.zret hq dX2_stands_12 (by decide) ?_
    refine ⟨?_, rfl⟩
    first | (have h0 : W = 0 := by (rcases Nat.eq_zero_or_pos W with q | q; exact q; exact absurd hc4 (nI_nle q (by omega)))
             subst h0; rfl) | (have h0 : 0 < W := by (rcases Nat.eq_zero_or_pos W with q | q; (subst q; exact absurd (by decide) hc4); exact q)
                               rw [decide_eq_true h0]; rfl)
  · refine C.iconst (nI 1) dX2_stands_7 (by decide) ?_
    refine C.goto 12 dX2_stands_8 rfl ?_
    refine C.zret hq dX2_stands_12 (by decide) ?_
    refine ⟨?_, rfl⟩
    first | (have h0 : W = 0 := by (rcases Nat.eq_zero_or_pos W with q | q; exact q; exact absurd hc4 (nI_nle q (by omega)))
             subst h0; rfl) | (have h0 : 0 < W := by (rcases Nat.eq_zero_or_pos W with q | q; (subst q; exact absurd (by decide) hc4); exact q)
                               rw [decide_eq_true h0]; rfl)
theorem kl_cellCount (hO : isO μ L 2) {a n : Nat} (hr : mR μ L 3 = some a) (hA : isA μ a 1 n) : AMet l G 0 0 0 mtX2_cellCount [.ref (G.1 + L)] μ (qI (fun x μ' => x = nI n ∧ μ' = μ)) := by
  refine AMet.of (by decide) (Nat.le_of_ble_eq_true rfl) (fun X C hX hnm hq => ?_)
  refine C.aload_n dX2_cellCount_0 0 rfl ?_
  refine C.getA fX2_51 dX2_cellCount_1 hO hr ?_
  refine C.alen hA (by decide) dX2_cellCount_4 ?_
  refine C.iret hq dX2_cellCount_5 ?_
  exact ⟨rfl, rfl⟩
theorem kl_holds (hO : isO μ L 2) (hw : mI μ L 0 = nI W) (hh : mI μ L 1 = nI H) (hW : W < 1000) (hH : H < 1000) (x y : Int32) : AMet l G 0 0 0 mtX2_holds [.ref (G.1 + L), .int x, .int y] μ (qI (fun z μ' => z = bI ((inN x W).isSome && (inN y H).isSome) ∧ μ' = μ)) := by
  refine AMet.of (by decide) (Nat.le_of_ble_eq_true rfl) (fun X C hX hnm hq => ?_)
  refine C.iload_n dX2_holds_0 1 rfl ?_
  refine C.if_lt 28 dX2_holds_1 rfl (fun hc1 => ?_) (fun hc1 => ?_)
  · rw [inN_f (Or.inl hc1)] at hq
    refine C.iconst (nI 0) dX2_holds_28 (by decide) ?_
    refine C.zret hq dX2_holds_29 (by decide) ?_
    exact ⟨rfl, rfl⟩
  · refine C.iload_n dX2_holds_4 1 rfl ?_
    refine C.aload_n dX2_holds_5 0 rfl ?_
    refine C.getI fX2_42 dX2_holds_6 hO ?_
    rw [hw]
    refine C.icmp_ge 28 dX2_holds_9 rfl (fun hc9 => ?_) (fun hc9 => ?_)
    · rw [inN_f (Or.inr hc9)] at hq
      refine C.iconst (nI 0) dX2_holds_28 (by decide) ?_
      refine C.zret hq dX2_holds_29 (by decide) ?_
      exact ⟨rfl, rfl⟩
    · obtain ⟨j, hj, ej, e9⟩ := inN_t (by omega) hc1 hc9
      rw [e9] at hq
      refine C.iload_n dX2_holds_12 2 rfl ?_
      refine C.if_lt 28 dX2_holds_13 rfl (fun hc13 => ?_) (fun hc13 => ?_)
      · rw [inN_f (x := y) (Or.inl hc13)] at hq
        refine C.iconst (nI 0) dX2_holds_28 (by decide) ?_
        refine C.zret hq dX2_holds_29 (by decide) ?_
        exact ⟨rfl, rfl⟩
      · refine C.iload_n dX2_holds_16 2 rfl ?_
        refine C.aload_n dX2_holds_17 0 rfl ?_
        refine C.getI fX2_45 dX2_holds_18 hO ?_
        rw [hh]
        refine C.icmp_ge 28 dX2_holds_21 rfl (fun hc21 => ?_) (fun hc21 => ?_)
        · rw [inN_f (x := y) (Or.inr hc21)] at hq
          refine C.iconst (nI 0) dX2_holds_28 (by decide) ?_
          refine C.zret hq dX2_holds_29 (by decide) ?_
          exact ⟨rfl, rfl⟩
        · obtain ⟨j2, hj2, ej2, e21⟩ := inN_t (by omega) hc13 hc21
          rw [e21] at hq
          refine C.iconst (nI 1) dX2_holds_24 (by decide) ?_
          refine C.goto 29 dX2_holds_25 rfl ?_
          refine C.zret hq dX2_holds_29 (by decide) ?_
          exact ⟨rfl, rfl⟩
theorem kl_cellAt (hO : isO μ L 2) (x y : Int32) : AMet l G 0 0 0 mtX2_cellAt [.ref (G.1 + L), .int x, .int y] μ (qI (fun z μ' => z = y * mI μ L 0 + x ∧ μ' = μ)) := by
  refine AMet.of (by decide) (Nat.le_of_ble_eq_true rfl) (fun X C hX hnm hq => ?_)
  refine C.iload_n dX2_cellAt_0 2 rfl ?_
  refine C.aload_n dX2_cellAt_1 0 rfl ?_
  refine C.getI fX2_42 dX2_cellAt_2 hO ?_
  refine C.imul dX2_cellAt_5 ?_
  refine C.iload_n dX2_cellAt_6 1 rfl ?_
  refine C.iadd dX2_cellAt_7 ?_
  refine C.iret hq dX2_cellAt_8 ?_
  exact ⟨rfl, rfl⟩
theorem kl_columnOf (hO : isO μ L 2) (hw : mI μ L 0 = nI W) (hW : W < 1000) (h0 : 0 < W) {k : Nat} (hk : k < 2147483648) : AMet l G 0 0 0 mtX2_columnOf [.ref (G.1 + L), .int (nI k)] μ (qI (fun z μ' => z = nI (k % W) ∧ μ' = μ)) := by
  refine AMet.of (by decide) (Nat.le_of_ble_eq_true rfl) (fun X C hX hnm hq => ?_)
  refine C.aload_n dX2_columnOf_0 0 rfl ?_
  refine C.getI fX2_42 dX2_columnOf_1 hO ?_
  rw [hw]
  refine C.if_le 16 dX2_columnOf_4 rfl (fun hc4 => ?_) (fun hc4 => ?_)
  · exact absurd hc4 (nI_nle h0 (by omega))
  · refine C.iload_n dX2_columnOf_7 1 rfl ?_
    refine C.aload_n dX2_columnOf_8 0 rfl ?_
    refine C.getI fX2_42 dX2_columnOf_9 hO ?_
    rw [hw]
    refine C.irem dX2_columnOf_12 (nI_ne0 h0 (by omega)) ?_
    refine C.goto 17 dX2_columnOf_13 rfl ?_
    refine C.iret hq dX2_columnOf_17 ?_
    exact ⟨pk_rem hk h0 (by omega), rfl⟩
theorem kl_rowOf (hO : isO μ L 2) (hw : mI μ L 0 = nI W) (hW : W < 1000) (h0 : 0 < W) {k : Nat} (hk : k < 2147483648) : AMet l G 0 0 0 mtX2_rowOf [.ref (G.1 + L), .int (nI k)] μ (qI (fun z μ' => z = nI (k / W) ∧ μ' = μ)) := by
  refine AMet.of (by decide) (Nat.le_of_ble_eq_true rfl) (fun X C hX hnm hq => ?_)
  refine C.aload_n dX2_rowOf_0 0 rfl ?_
  refine C.getI fX2_42 dX2_rowOf_1 hO ?_
  rw [hw]
  refine C.if_le 16 dX2_rowOf_4 rfl (fun hc4 => ?_) (fun hc4 => ?_)
  · exact absurd hc4 (nI_nle h0 (by omega))
  · refine C.iload_n dX2_rowOf_7 1 rfl ?_
    refine C.aload_n dX2_rowOf_8 0 rfl ?_
    refine C.getI fX2_42 dX2_rowOf_9 hO ?_
    rw [hw]
    refine C.idiv dX2_rowOf_12 (nI_ne0 h0 (by omega)) ?_
    refine C.goto 17 dX2_rowOf_13 rfl ?_
    refine C.iret hq dX2_rowOf_17 ?_
    exact ⟨pk_div hk h0 (by omega), rfl⟩
theorem kl_distance (hO : isO μ L 2) (hw : mI μ L 0 = nI W) (hW : W < 1000) (h0 : 0 < W) {k j : Nat} (hk : k < 1000000) (hj : j < 1000000) : AMet l G 1 0 0 mtX2_distance [.ref (G.1 + L), .int (nI k), .int (nI j)] μ (qI (fun z μ' => z = nI (max ((k % W - j % W) + (j % W - k % W)) ((k / W - j / W) + (j / W - k / W))) ∧ μ' = μ)) := by
  refine AMet.of (by decide) (Nat.le_of_ble_eq_true rfl) (fun X C hX hnm hq => ?_)
  have q1 := Nat.mod_lt k h0
  have q2 := Nat.mod_lt j h0
  have q3 := Nat.div_le_self k W
  have q4 := Nat.div_le_self j W
  have q5 := Nat.zero_le (k / W)
  have q6 := Nat.zero_le (j / W)
  refine C.aload_n dX2_distance_0 0 rfl ?_
  refine C.iload_n dX2_distance_1 1 rfl ?_
  refine C.callVI lX2_74 dX2_distance_2 (kl_columnOf hO hw hW h0 (by omega)) hO rfl rfl (Nat.le_of_ble_eq_true rfl) (Nat.zero_le _) (Nat.zero_le _) (Nat.le_of_ble_eq_true rfl) (fun x2 μ2 h2 => ?_)
  obtain ⟨rfl, hμ⟩ := h2
  subst hμ
  refine C.aload_n dX2_distance_5 0 rfl ?_
  refine C.iload_n dX2_distance_6 2 rfl ?_
  refine C.callVI lX2_74 dX2_distance_7 (kl_columnOf hO hw hW h0 (by omega)) hO rfl rfl (Nat.le_of_ble_eq_true rfl) (Nat.zero_le _) (Nat.zero_le _) (Nat.le_of_ble_eq_true rfl) (fun x7 μ7 h7 => ?_)
  obtain ⟨rfl, hμ⟩ := h7
  subst hμ
  refine C.isub dX2_distance_10 ?_
  refine C.callSI lX2_78 dX2_distance_11 (kj_absI _) rfl rfl (Nat.le_of_ble_eq_true rfl) (Nat.zero_le _) (Nat.zero_le _) (Nat.le_of_ble_eq_true rfl) (fun x11 μ11 h11 => ?_)
  obtain ⟨rfl, hμ⟩ := h11
  subst hμ
  rw [ab_n (by omega) (by omega)]
  refine C.istore_n (lv' := [(0, _), (1, _), (2, _), (3, _)]) dX2_distance_14 (nLt hX rfl) rfl ?_
  refine C.iload_n dX2_distance_15 3 rfl ?_
  refine C.aload_n dX2_distance_16 0 rfl ?_
  refine C.iload_n dX2_distance_17 1 rfl ?_
  refine C.callVI lX2_83 dX2_distance_18 (kl_rowOf hO hw hW h0 (by omega)) hO rfl rfl (Nat.le_of_ble_eq_true rfl) (Nat.zero_le _) (Nat.zero_le _) (Nat.le_of_ble_eq_true rfl) (fun x18 μ18 h18 => ?_)
  obtain ⟨rfl, hμ⟩ := h18
  subst hμ
  refine C.aload_n dX2_distance_21 0 rfl ?_
  refine C.iload_n dX2_distance_22 2 rfl ?_
  refine C.callVI lX2_83 dX2_distance_23 (kl_rowOf hO hw hW h0 (by omega)) hO rfl rfl (Nat.le_of_ble_eq_true rfl) (Nat.zero_le _) (Nat.zero_le _) (Nat.le_of_ble_eq_true rfl) (fun x23 μ23 h23 => ?_)
  obtain ⟨rfl, hμ⟩ := h23
  subst hμ
  refine C.isub dX2_distance_26 ?_
  refine C.callSI lX2_78 dX2_distance_27 (kj_absI _) rfl rfl (Nat.le_of_ble_eq_true rfl) (Nat.zero_le _) (Nat.zero_le _) (Nat.le_of_ble_eq_true rfl) (fun x27 μ27 h27 => ?_)
  obtain ⟨rfl, hμ⟩ := h27
  subst hμ
  rw [ab_n (by omega) (by omega)]
  refine C.callSI lX2_86 dX2_distance_30 (kj_maxI _ _) rfl rfl (Nat.le_of_ble_eq_true rfl) (Nat.zero_le _) (Nat.zero_le _) (Nat.le_of_ble_eq_true rfl) (fun x30 μ30 h30 => ?_)
  obtain ⟨rfl, hμ⟩ := h30
  subst hμ
  rw [mx_n (by omega) (by omega)]
  refine C.iret hq dX2_distance_33 ?_
  exact ⟨rfl, rfl⟩
theorem kl_isBell (hO : isO μ L 2) {n : Nat} (hw : mI μ L 11 = nI n) (hn : n < 1000) (x : Int32) : AMet l G 0 0 0 mtX2_isBell [.ref (G.1 + L), .int x] μ (qI (fun z μ' => z = bI (inN x n).isSome ∧ μ' = μ)) := by
  refine AMet.of (by decide) (Nat.le_of_ble_eq_true rfl) (fun X C hX hnm hq => ?_)
  refine C.iload_n dX2_isBell_0 1 rfl ?_
  refine C.if_lt 16 dX2_isBell_1 rfl (fun hc1 => ?_) (fun hc1 => ?_)
  · rw [inN_f (Or.inl hc1)] at hq
    refine C.iconst (nI 0) dX2_isBell_16 (by decide) ?_
    refine C.zret hq dX2_isBell_17 (by decide) ?_
    exact ⟨rfl, rfl⟩
  · refine C.iload_n dX2_isBell_4 1 rfl ?_
    refine C.aload_n dX2_isBell_5 0 rfl ?_
    refine C.getI fX2_89 dX2_isBell_6 hO ?_
    rw [hw]
    refine C.icmp_ge 16 dX2_isBell_9 rfl (fun hc9 => ?_) (fun hc9 => ?_)
    · rw [inN_f (Or.inr hc9)] at hq
      refine C.iconst (nI 0) dX2_isBell_16 (by decide) ?_
      refine C.zret hq dX2_isBell_17 (by decide) ?_
      exact ⟨rfl, rfl⟩
    · obtain ⟨j, hj, ej, e9⟩ := inN_t (by omega) hc1 hc9
      rw [e9] at hq
      refine C.iconst (nI 1) dX2_isBell_12 (by decide) ?_
      refine C.goto 17 dX2_isBell_13 rfl ?_
      refine C.zret hq dX2_isBell_17 (by decide) ?_
      exact ⟨rfl, rfl⟩
theorem kl_isWalker (hO : isO μ L 2) {n : Nat} (hw : mI μ L 12 = nI n) (hn : n < 1000) (x : Int32) : AMet l G 0 0 0 mtX2_isWalker [.ref (G.1 + L), .int x] μ (qI (fun z μ' => z = bI (inN x n).isSome ∧ μ' = μ)) := by
  refine AMet.of (by decide) (Nat.le_of_ble_eq_true rfl) (fun X C hX hnm hq => ?_)
  refine C.iload_n dX2_isWalker_0 1 rfl ?_
  refine C.if_lt 16 dX2_isWalker_1 rfl (fun hc1 => ?_) (fun hc1 => ?_)
  · rw [inN_f (Or.inl hc1)] at hq
    refine C.iconst (nI 0) dX2_isWalker_16 (by decide) ?_
    refine C.zret hq dX2_isWalker_17 (by decide) ?_
    exact ⟨rfl, rfl⟩
  · refine C.iload_n dX2_isWalker_4 1 rfl ?_
    refine C.aload_n dX2_isWalker_5 0 rfl ?_
    refine C.getI fX2_92 dX2_isWalker_6 hO ?_
    rw [hw]
    refine C.icmp_ge 16 dX2_isWalker_9 rfl (fun hc9 => ?_) (fun hc9 => ?_)
    · rw [inN_f (Or.inr hc9)] at hq
      refine C.iconst (nI 0) dX2_isWalker_16 (by decide) ?_
      refine C.zret hq dX2_isWalker_17 (by decide) ?_
      exact ⟨rfl, rfl⟩
    · obtain ⟨j, hj, ej, e9⟩ := inN_t (by omega) hc1 hc9
      rw [e9] at hq
      refine C.iconst (nI 1) dX2_isWalker_12 (by decide) ?_
      refine C.goto 17 dX2_isWalker_13 rfl ?_
      refine C.zret hq dX2_isWalker_17 (by decide) ?_
      exact ⟨rfl, rfl⟩
/-- so many steps nearer -/
def nrS (v t s : Nat) : Nat := if v < t then min t (v + s) else max t (v - s)
theorem nrS_0 (v t : Nat) : nrS v t 0 = v := by unfold nrS; split <;> omega
theorem nrS_s (v t s : Nat) : nrS v t (s + 1) = nrF (nrS v t s) t := by
  unfold nrS nrF
  split
  · by_cases h : v + s < t
    · rw [if_pos (by omega)]; omega
    · rw [if_neg (by omega), if_neg (by omega)]; omega
  · by_cases h : t < v - s
    · rw [if_neg (by omega), if_pos (by omega)]; omega
    · rw [if_neg (by omega), if_neg (by omega)]; omega
theorem kl_nearer {v t s : Nat} (hv : v < 1000) (ht : t < 1000) (hs : s < 1000) : AMet l G 1 0 0 mtX2_nearer [.int (nI v), .int (nI t), .int (nI s)] μ (qI (fun z μ' => z = nI (nrS v t s) ∧ μ' = μ)) := by
  refine AMet.of (by decide) (Nat.le_of_ble_eq_true rfl) (fun X C hX hnm hq => ?_)
  have hmx : (if nI v - nI s ≤ nI t then nI t else nI v - nI s) = nI (max t (v - s)) := by
    by_cases h : s ≤ v
    · rw [pk_sub h, mx_n (by omega) (by omega)]
    · rw [if_pos (Int32.le_trans (Int32.le_of_lt (pk_sneg (by omega) (by omega))) (nI_pos' (by omega)))]
      congr 1
      omega
  refine C.iload_n dX2_nearer_0 0 rfl ?_
  refine C.iload_n dX2_nearer_1 1 rfl ?_
  refine C.icmp_ge 15 dX2_nearer_2 rfl (fun hc2 => ?_) (fun hc2 => ?_)
  · refine C.iload_n dX2_nearer_15 1 rfl ?_
    refine C.iload_n dX2_nearer_16 0 rfl ?_
    refine C.iload_n dX2_nearer_17 2 rfl ?_
    refine C.isub dX2_nearer_18 ?_
    refine C.callSI lX2_86 dX2_nearer_19 (kj_maxI _ _) rfl rfl (Nat.le_of_ble_eq_true rfl) (Nat.zero_le _) (Nat.zero_le _) (Nat.le_of_ble_eq_true rfl) (fun x19 μ19 h19 => ?_)
    obtain ⟨rfl, hμ⟩ := h19
    subst hμ
    rw [hmx]
    refine C.iret hq dX2_nearer_22 ?_
    refine ⟨?_, rfl⟩
    unfold nrS
    first | (rw [if_pos (n_nle hc2)]; done) | (rw [if_neg (by have := n_le hc2; omega)]; done)
  · refine C.iload_n dX2_nearer_5 1 rfl ?_
    refine C.iload_n dX2_nearer_6 0 rfl ?_
    refine C.iload_n dX2_nearer_7 2 rfl ?_
    refine C.iadd dX2_nearer_8 ?_
    rw [nI_add]
    refine C.callSI lX2_102 dX2_nearer_9 (kj_minI _ _) rfl rfl (Nat.le_of_ble_eq_true rfl) (Nat.zero_le _) (Nat.zero_le _) (Nat.le_of_ble_eq_true rfl) (fun x9 μ9 h9 => ?_)
    obtain ⟨rfl, hμ⟩ := h9
    subst hμ
    rw [mn_n (by omega) (by omega)]
    refine C.goto 22 dX2_nearer_12 rfl ?_
    refine C.iret hq dX2_nearer_22 ?_
    refine ⟨?_, rfl⟩
    unfold nrS
    first | (rw [if_pos (n_nle hc2)]; done) | (rw [if_neg (by have := n_le hc2; omega)]; done)
end KL0
section KBT
variable {l : Launch} {G : Gm} {μ : Mm}
theorem bit_l {n k : Nat} (hn : n < 2 ^ 62) (hk : k < 63) : ((lN n >>> ((nI k).toInt64 &&& 63)) &&& lN 1).toInt32 = bI (n.testBit k) := by
  have hD : (((nI k).toInt64 &&& 63).toBitVec.smod 64).toNat = k := by
    rw [wb_c k (by omega), wb_tb, wb_sm k (by omega)]
    rw [BitVec.toNat_ofNat, Nat.mod_eq_of_lt (by omega)]
  have h1 : n / 2 ^ k ≤ n := Nat.div_le_self _ _
  rw [pf_shr hD hn, show lN 1 = (1 : Int64) from rfl, wb_a1 (by omega), lN_i, Nat.testBit_eq_decide_div_mod_eq]
  by_cases q : n / 2 ^ k % 2 = 1
  · rw [q, decide_eq_true rfl]; rfl
  · rw [show n / 2 ^ k % 2 = 0 by omega]; rfl
theorem kc_bitOf {n k : Nat} (hn : n < 2 ^ 62) (hk : k < 63) : AMet l G 0 0 0 mtX12_bitOf [.long (lN n), .int (nI k)] μ (qI (fun z μ' => z = bI (n.testBit k) ∧ μ' = μ)) := by
  refine AMet.of (by decide) (Nat.le_of_ble_eq_true rfl) (fun X C hX hnm hq => ?_)
  refine C.lload_n dX12_bitOf_0 0 rfl ?_
  refine C.iload_n dX12_bitOf_1 1 rfl ?_
  refine C.lshr dX12_bitOf_2 ?_
  refine C.lconst (lN 1) dX12_bitOf_3 (by decide) ?_
  refine C.land dX12_bitOf_4 ?_
  refine C.l2i dX12_bitOf_5 ?_
  refine C.iret hq dX12_bitOf_6 ?_
  exact ⟨bit_l hn hk, rfl⟩
end KBT
