/-! the class: a State: begun, copied, counted, told of -/
/-- State b now tells what State a told -/
def CpS (a b : Nat) (μ μ' : Mm) : Prop := μ'.2 = μ.2 ∧ (∀ x k, ¬ (b ≤ x ∧ x ≤ b + 5) → mI μ' x k = mI μ x k) ∧ (∀ j k, 1 ≤ j → j ≤ 4 → k < 6 → mI μ' (b + j) k = mI μ (a + j) k) ∧ (∀ k, k < 40 → mI μ' (b + 5) k = mI μ (a + 5) k) ∧ (∀ k, 5 ≤ k → k ≤ 8 → mI μ' b k = mI μ a k)
theorem CpS.n {a b : Nat} {μ μ' : Mm} {S : St} (h : CpS a b μ μ') (hN : CsN μ a S) : CsN μ' b S := by
  obtain ⟨h1, h2, h3, h4, h5⟩ := h
  obtain ⟨⟨n1, n2⟩, n3, n4, f, n5, n6, n7, n8, n9⟩ := hN
  refine ⟨⟨by rw [h5 _ (by omega) (by omega)]; exact n1, by rw [h5 _ (by omega) (by omega)]; exact n2⟩, fun i x q => ?_, fun i q q2 => ?_, f, n5, by rw [h5 _ (by omega) (by omega)]; exact n6, by rw [h5 _ (by omega) (by omega)]; exact n7, n8, fun i x q => by rw [h4 _ (by omega)]; exact n9 i x q⟩
  · obtain ⟨z0, z1, z2, z3, z4⟩ := n3 i x q
    exact ⟨z0, by rw [h3 1 i (by omega) (by omega) z0]; exact z1, by rw [h3 2 i (by omega) (by omega) z0]; exact z2, by rw [h3 3 i (by omega) (by omega) z0]; exact z3, by rw [h3 4 i (by omega) (by omega) z0]; exact z4⟩
  · obtain ⟨z1, z2⟩ := n4 i q q2
    exact ⟨by rw [h3 3 i (by omega) (by omega) q2]; exact z1, by rw [h3 4 i (by omega) (by omega) q2]; exact z2⟩
def lenR (j : Nat) : Nat := if j = 5 then 40 else 6
def Cp1 (a b : Nat) (μ μ1 : Mm) (i : Nat) : Prop := μ1.2 = μ.2 ∧ (∀ j k, 1 ≤ j → j ≤ i → k < lenR j → mI μ1 (b + j) k = mI μ (a + j) k) ∧ ∀ x k, ¬ (b < x ∧ x ≤ b + i) → mI μ1 x k = mI μ x k
theorem Cp1.step {a b : Nat} {μ μ1 : Mm} {i n : Nat} (h : Cp1 a b μ μ1 i) (hab : a + 5 < b ∨ b + 5 < a) (hi : i < 5) (hn : n = lenR (i + 1)) : Cp1 a b μ (sA μ1 (b + (i + 1)) (va_cpy (mI μ1 (a + (i + 1))) (mI μ1 (b + (i + 1))) 0 0 n)) (i + 1) := by
  obtain ⟨h1, h2, h3⟩ := h
  refine ⟨h1, fun j k q1 q2 q3 => ?_, fun x k q => ?_⟩
  · rw [mI_sA]
    by_cases e : j = i + 1
    · subst e
      rw [if_pos rfl]
      unfold va_cpy
      rw [if_pos (by omega), h3 _ _ (by omega)]
      congr 1
      omega
    · rw [if_neg (by omega)]
      exact h2 j k q1 (by omega) q3
  · rw [mI_sA, if_neg (by omega)]
    exact h3 x k (by omega)
section CNT
variable {α : Type}
theorem cnt_rng (p : α → Bool) (z : α) (hz : p z = false) (L : List α) : ∀ n, (List.range n).countP (fun k => p (L.getD k z)) = (L.take n).countP p
  | 0 => by simp
  | n + 1 => by
    rw [List.range_succ, List.countP_append, cnt_rng p z hz L n, List.take_succ, List.countP_append]
    congr 1
    rw [List.countP_singleton, List.getD_eq_getElem?_getD]
    cases L[n]? with
    | none => simp [hz]
    | some x => simp
theorem sum_rng (f : α → Nat) (z : α) (hz : f z = 0) (L : List α) : ∀ n, ((List.range n).map (fun k => f (L.getD k z))).sum = ((L.take n).map f).sum
  | 0 => by simp
  | n + 1 => by
    rw [List.range_succ, List.map_append, List.sum_append, sum_rng f z hz L n, List.take_succ, List.map_append, List.sum_append]
    congr 1
    rw [List.map_singleton, List.getD_eq_getElem?_getD]
    cases L[n]? with
    | none => simp [hz]
    | some x => simp
end CNT
section KST
variable {l : Launch} {G : Gm} {μ : Mm} {L b a : Nat} {c : Lc} {d : Ld} {S : St}
theorem ks_copyOf (hO : StO μ b) (hP : StO μ a) (hab : a + 5 < b ∨ b + 5 < a) : AMet l G 1 0 0 mtX10_copyOf [.ref (G.1 + b), .ref (G.1 + a)] μ (qV (fun μ' => CpS a b μ μ')) := by
  refine AMet.of (by decide) (Nat.le_of_ble_eq_true rfl) (fun X C hX hnm hq => ?_)
  have hO0 := hO
  have hP0 := hP
  have m75 : ∀ μ1, Cp1 a b μ μ1 5 → AW l G X 0 0 75 [(0, .ref (G.1 + b)), (1, .ref (G.1 + a))] [] μ1 := by
    intro μ1 hc
    have hO : StO μ1 b := hO0.of (by rw [hc.1])
    have hP : StO μ1 a := hP0.of (by rw [hc.1])
    have ea : ∀ k, mI μ1 a k = mI μ a k := fun k => hc.2.2 a k (by omega)
    refine C.aload_n dX10_copyOf_75 0 rfl ?_
    refine C.aload_n dX10_copyOf_76 1 rfl ?_
    refine C.getI fX10_30 dX10_copyOf_77 hP.o ?_
    refine C.putI fX10_30 (Or.inl rfl) dX10_copyOf_80 hO.o ?_
    refine C.aload_n dX10_copyOf_83 0 rfl ?_
    refine C.aload_n dX10_copyOf_84 1 rfl ?_
    refine C.getI fX10_34 dX10_copyOf_85 hP.o ?_
    refine C.putI fX10_34 (Or.inl rfl) dX10_copyOf_88 hO.o ?_
    refine C.aload_n dX10_copyOf_91 0 rfl ?_
    refine C.aload_n dX10_copyOf_92 1 rfl ?_
    refine C.getI fX10_37 dX10_copyOf_93 hP.o ?_
    refine C.putI fX10_37 (Or.inl rfl) dX10_copyOf_96 hO.o ?_
    refine C.aload_n dX10_copyOf_99 0 rfl ?_
    refine C.aload_n dX10_copyOf_100 1 rfl ?_
    refine C.getI fX10_40 dX10_copyOf_101 hP.o ?_
    refine C.putI fX10_40 (Or.inl rfl) dX10_copyOf_104 hO.o ?_
    refine C.vret hq dX10_copyOf_107 ?_
    refine ⟨hc.1, fun x k q => ?_, fun j k q1 q2 q3 => ?_, fun k q => ?_, fun k q1 q2 => ?_⟩
    · simp only [mI_sI]
      rw [if_neg (by omega), if_neg (by omega), if_neg (by omega), if_neg (by omega)]
      exact hc.2.2 x k (by omega)
    · simp only [mI_sI]
      rw [if_neg (by omega), if_neg (by omega), if_neg (by omega), if_neg (by omega)]
      exact hc.2.1 j k q1 (by omega) (by unfold lenR; rw [if_neg (by omega)]; exact q3)
    · simp only [mI_sI]
      rw [if_neg (by omega), if_neg (by omega), if_neg (by omega), if_neg (by omega)]
      exact hc.2.1 5 k (by omega) (by omega) q
    · have hne : ¬ a = b := by omega
      rcases (show k = 5 ∨ k = 6 ∨ k = 7 ∨ k = 8 by omega) with rfl | rfl | rfl | rfl <;> simp [mI_sI, ea, hne]
  have m60 : ∀ μ1, Cp1 a b μ μ1 4 → AW l G X 0 0 60 [(0, .ref (G.1 + b)), (1, .ref (G.1 + a))] [] μ1 := by
    intro μ1 hc
    have hO : StO μ1 b := hO0.of (by rw [hc.1])
    have hP : StO μ1 a := hP0.of (by rw [hc.1])
    refine C.aload_n dX10_copyOf_60 1 rfl ?_
    refine C.getA fX10_24 dX10_copyOf_61 hP.o hP.r4 ?_
    refine C.iconst (nI 0) dX10_copyOf_64 (by decide) ?_
    refine C.aload_n dX10_copyOf_65 0 rfl ?_
    refine C.getA fX10_24 dX10_copyOf_66 hO.o hO.r4 ?_
    refine C.iconst (nI 0) dX10_copyOf_69 (by decide) ?_
    refine C.bipush (nI 40) dX10_copyOf_70 (by decide) ?_
    refine C.copyI acX10_43 hP.a4 hO.a4 (by omega) (by decide) (by decide) (by decide) (by decide) (by decide) (Nat.le_of_ble_eq_true rfl) (Nat.le_of_ble_eq_true rfl) dX10_copyOf_72 ?_
    exact m75 _ (hc.step hab (by omega) (by decide))
  have m45 : ∀ μ1, Cp1 a b μ μ1 3 → AW l G X 0 0 45 [(0, .ref (G.1 + b)), (1, .ref (G.1 + a))] [] μ1 := by
    intro μ1 hc
    have hO : StO μ1 b := hO0.of (by rw [hc.1])
    have hP : StO μ1 a := hP0.of (by rw [hc.1])
    refine C.aload_n dX10_copyOf_45 1 rfl ?_
    refine C.getA fX10_21 dX10_copyOf_46 hP.o hP.r3 ?_
    refine C.iconst (nI 0) dX10_copyOf_49 (by decide) ?_
    refine C.aload_n dX10_copyOf_50 0 rfl ?_
    refine C.getA fX10_21 dX10_copyOf_51 hO.o hO.r3 ?_
    refine C.iconst (nI 0) dX10_copyOf_54 (by decide) ?_
    refine C.bipush (nI 6) dX10_copyOf_55 (by decide) ?_
    refine C.copyI acX10_43 hP.a3 hO.a3 (by omega) (by decide) (by decide) (by decide) (by decide) (by decide) (Nat.le_of_ble_eq_true rfl) (Nat.le_of_ble_eq_true rfl) dX10_copyOf_57 ?_
    exact m60 _ (hc.step hab (by omega) (by decide))
  have m30 : ∀ μ1, Cp1 a b μ μ1 2 → AW l G X 0 0 30 [(0, .ref (G.1 + b)), (1, .ref (G.1 + a))] [] μ1 := by
    intro μ1 hc
    have hO : StO μ1 b := hO0.of (by rw [hc.1])
    have hP : StO μ1 a := hP0.of (by rw [hc.1])
    refine C.aload_n dX10_copyOf_30 1 rfl ?_
    refine C.getA fX10_18 dX10_copyOf_31 hP.o hP.r2 ?_
    refine C.iconst (nI 0) dX10_copyOf_34 (by decide) ?_
    refine C.aload_n dX10_copyOf_35 0 rfl ?_
    refine C.getA fX10_18 dX10_copyOf_36 hO.o hO.r2 ?_
    refine C.iconst (nI 0) dX10_copyOf_39 (by decide) ?_
    refine C.bipush (nI 6) dX10_copyOf_40 (by decide) ?_
    refine C.copyI acX10_43 hP.a2 hO.a2 (by omega) (by decide) (by decide) (by decide) (by decide) (by decide) (Nat.le_of_ble_eq_true rfl) (Nat.le_of_ble_eq_true rfl) dX10_copyOf_42 ?_
    exact m45 _ (hc.step hab (by omega) (by decide))
  have m15 : ∀ μ1, Cp1 a b μ μ1 1 → AW l G X 0 0 15 [(0, .ref (G.1 + b)), (1, .ref (G.1 + a))] [] μ1 := by
    intro μ1 hc
    have hO : StO μ1 b := hO0.of (by rw [hc.1])
    have hP : StO μ1 a := hP0.of (by rw [hc.1])
    refine C.aload_n dX10_copyOf_15 1 rfl ?_
    refine C.getA fX10_15 dX10_copyOf_16 hP.o hP.r1 ?_
    refine C.iconst (nI 0) dX10_copyOf_19 (by decide) ?_
    refine C.aload_n dX10_copyOf_20 0 rfl ?_
    refine C.getA fX10_15 dX10_copyOf_21 hO.o hO.r1 ?_
    refine C.iconst (nI 0) dX10_copyOf_24 (by decide) ?_
    refine C.bipush (nI 6) dX10_copyOf_25 (by decide) ?_
    refine C.copyI acX10_43 hP.a1 hO.a1 (by omega) (by decide) (by decide) (by decide) (by decide) (by decide) (Nat.le_of_ble_eq_true rfl) (Nat.le_of_ble_eq_true rfl) dX10_copyOf_27 ?_
    exact m30 _ (hc.step hab (by omega) (by decide))
  have h0 : Cp1 a b μ μ 0 := ⟨rfl, fun j k q1 q2 _ => by omega, fun _ _ _ => rfl⟩
  refine C.aload_n dX10_copyOf_0 1 rfl ?_
  refine C.getA fX10_9 dX10_copyOf_1 hP.o hP.r0 ?_
  refine C.iconst (nI 0) dX10_copyOf_4 (by decide) ?_
  refine C.aload_n dX10_copyOf_5 0 rfl ?_
  refine C.getA fX10_9 dX10_copyOf_6 hO.o hO.r0 ?_
  refine C.iconst (nI 0) dX10_copyOf_9 (by decide) ?_
  refine C.bipush (nI 6) dX10_copyOf_10 (by decide) ?_
  refine C.copyI acX10_43 hP.a0 hO.a0 (by omega) (by decide) (by decide) (by decide) (by decide) (by decide) (Nat.le_of_ble_eq_true rfl) (Nat.le_of_ble_eq_true rfl) dX10_copyOf_12 ?_
  exact m15 _ (h0.step hab (by omega) (by decide))
theorem ks_gone (hO : StO μ b) (hN : CsN μ b S) (hg : ∀ x ∈ S.2.1, WkOk x) (h6 : S.2.1.length ≤ 6) : AMet l G 0 0 0 mtX10_goneCount [.ref (G.1 + b)] μ (qI (fun y μ' => y = nI (goneN S) ∧ μ' = μ)) := by
  refine AMet.of (by decide) (Nat.le_of_ble_eq_true rfl) (fun X C hX hnm hq => ?_)
  have hv : ∀ i, i < 6 → mI μ (b + 4) i = nI (wkS S i).2.2.2 ∧ (wkS S i).2.2.2 ≤ 99 := by
    intro i hi
    rcases Nat.lt_or_ge i S.2.1.length with q | q
    · exact ⟨(hN.wk q).2.2.2.2, (hg _ (wkS_mem q)).2.2.2⟩
    · have e : wkS S i = (0, 0, 0, 0) := by unfold wkS; rw [List.getD_eq_getElem?_getD, List.getElem?_eq_none q]; rfl
      rw [e]
      exact ⟨(hN.2.2.1 i q hi).2, by decide⟩
  have hfin : (List.range 6).countP (fun k => decide (0 < (wkS S k).2.2.2)) = goneN S := by
    unfold goneN wkS
    rw [cnt_rng (fun x : Wk => decide (0 < x.2.2.2)) (0, 0, 0, 0) rfl S.2.1 6, List.take_of_length_le h6]
  have loop : ∀ (n i : Nat), i + n = 6 → AW l G X 0 0 4 [(0, .ref (G.1 + b)), (1, .int (nI ((List.range i).countP (fun k => decide (0 < (wkS S k).2.2.2))))), (2, .int (nI i))] [] μ := by
    intro n
    induction n with
    | zero =>
      intro i hi
      have : i = 6 := by omega
      subst this
      refine C.iload_n dX10_goneCount_4 2 rfl ?_
      refine C.bipush (nI 6) dX10_goneCount_5 (by decide) ?_
      refine C.icmp_ge 33 dX10_goneCount_7 rfl (fun hc7 => ?_) (fun hc7 => ?_)
      · refine C.iload_n dX10_goneCount_33 1 rfl ?_
        refine C.iret hq dX10_goneCount_34 ?_
        exact ⟨by rw [hfin], rfl⟩
      · exact absurd (n_nle hc7) (by decide)
    | succ n ih =>
      intro i hi
      have hvi := hv i (by omega)
      have e := List.range_succ (n := i)
      have ih2 := ih (i + 1) (by omega)
      rw [e, List.countP_append, ← nI_add, ← nI_1 i] at ih2
      refine C.iload_n dX10_goneCount_4 2 rfl ?_
      refine C.bipush (nI 6) dX10_goneCount_5 (by decide) ?_
      refine C.icmp_ge 33 dX10_goneCount_7 rfl (fun hc7 => ?_) (fun hc7 => ?_)
      · exact absurd (n_le hc7) (by omega)
      · refine C.iload_n dX10_goneCount_10 1 rfl ?_
        refine C.aload_n dX10_goneCount_11 0 rfl ?_
        refine C.getA fX10_21 dX10_goneCount_12 hO.o hO.r3 ?_
        refine C.iload_n dX10_goneCount_15 2 rfl ?_
        refine C.iald hO.a3 (n_in (by omega)) dX10_goneCount_16 ?_
        rw [n_cl, hvi.1]
        refine C.if_le 24 dX10_goneCount_17 rfl (fun hc17 => ?_) (fun hc17 => ?_)
        · have hz : ¬ 0 < (wkS S i).2.2.2 := fun q => nI_nle q (by omega) hc17
          rw [show List.countP (fun k => decide (0 < (wkS S k).2.2.2)) [i] = 0 from by simp [hz]] at ih2
          refine C.iconst (nI 0) dX10_goneCount_24 (by decide) ?_
          refine C.iadd dX10_goneCount_25 ?_
          refine C.istore_n (lv' := [(0, _), (1, _), (2, _)]) dX10_goneCount_26 (nLt hX rfl) rfl ?_
          refine C.iinc (lv' := [(0, _), (1, _), (2, _)]) _ dX10_goneCount_27 2 rfl rfl (nLt hX rfl) rfl ?_
          refine C.goto 4 dX10_goneCount_30 rfl ?_
          exact ih2
        · have hz : 0 < (wkS S i).2.2.2 := by
            rcases Nat.eq_zero_or_pos (wkS S i).2.2.2 with q | q
            · rw [q] at hc17; exact absurd (by decide) hc17
            · exact q
          rw [show List.countP (fun k => decide (0 < (wkS S k).2.2.2)) [i] = 1 from by simp [hz]] at ih2
          refine C.iconst (nI 1) dX10_goneCount_20 (by decide) ?_
          refine C.goto 25 dX10_goneCount_21 rfl ?_
          refine C.iadd dX10_goneCount_25 ?_
          refine C.istore_n (lv' := [(0, _), (1, _), (2, _)]) dX10_goneCount_26 (nLt hX rfl) rfl ?_
          refine C.iinc (lv' := [(0, _), (1, _), (2, _)]) _ dX10_goneCount_27 2 rfl rfl (nLt hX rfl) rfl ?_
          refine C.goto 4 dX10_goneCount_30 rfl ?_
          exact ih2
  refine C.iconst (nI 0) dX10_goneCount_0 (by decide) ?_
  refine C.istore_n (lv' := [(0, _), (1, _)]) dX10_goneCount_1 (nLt hX rfl) rfl ?_
  refine C.iconst (nI 0) dX10_goneCount_2 (by decide) ?_
  refine C.istore_n (lv' := [(0, _), (1, _), (2, _)]) dX10_goneCount_3 (nLt hX rfl) rfl ?_
  exact loop 6 0 rfl
theorem ks_purses (hO : StO μ b) (hN : CsN μ b S) (h6 : S.2.1.length ≤ 6) : AMet l G 0 0 0 mtX10_allPurses [.ref (G.1 + b)] μ (qI (fun y μ' => y = nI (pursN S) ∧ μ' = μ)) := by
  refine AMet.of (by decide) (Nat.le_of_ble_eq_true rfl) (fun X C hX hnm hq => ?_)
  have hv : ∀ i, i < 6 → mI μ (b + 3) i = nI (wkS S i).2.2.1 := by
    intro i hi
    rcases Nat.lt_or_ge i S.2.1.length with q | q
    · exact (hN.wk q).2.2.2.1
    · have e : wkS S i = (0, 0, 0, 0) := by unfold wkS; rw [List.getD_eq_getElem?_getD, List.getElem?_eq_none q]; rfl
      rw [e]
      exact (hN.2.2.1 i q hi).1
  have hfin : ((List.range 6).map (fun k => (wkS S k).2.2.1)).sum = pursN S := by
    unfold pursN wkS
    rw [sum_rng (fun x : Wk => x.2.2.1) (0, 0, 0, 0) rfl S.2.1 6, List.take_of_length_le h6]
  have loop : ∀ (n i : Nat), i + n = 6 → AW l G X 0 0 4 [(0, .ref (G.1 + b)), (1, .int (nI ((List.range i).map (fun k => (wkS S k).2.2.1)).sum)), (2, .int (nI i))] [] μ := by
    intro n
    induction n with
    | zero =>
      intro i hi
      have : i = 6 := by omega
      subst this
      refine C.iload_n dX10_allPurses_4 2 rfl ?_
      refine C.bipush (nI 6) dX10_allPurses_5 (by decide) ?_
      refine C.icmp_ge 25 dX10_allPurses_7 rfl (fun hc7 => ?_) (fun hc7 => ?_)
      · refine C.iload_n dX10_allPurses_25 1 rfl ?_
        refine C.iret hq dX10_allPurses_26 ?_
        exact ⟨by rw [hfin], rfl⟩
      · exact absurd (n_nle hc7) (by decide)
    | succ n ih =>
      intro i hi
      have hvi := hv i (by omega)
      have e := List.range_succ (n := i)
      have ih2 := ih (i + 1) (by omega)
      rw [e, List.map_append, List.sum_append, ← nI_add, show (List.map (fun k => (wkS S k).2.2.1) [i]).sum = (wkS S i).2.2.1 from by simp] at ih2
      refine C.iload_n dX10_allPurses_4 2 rfl ?_
      refine C.bipush (nI 6) dX10_allPurses_5 (by decide) ?_
      refine C.icmp_ge 25 dX10_allPurses_7 rfl (fun hc7 => ?_) (fun hc7 => ?_)
      · exact absurd (n_le hc7) (by omega)
      · refine C.iload_n dX10_allPurses_10 1 rfl ?_
        refine C.aload_n dX10_allPurses_11 0 rfl ?_
        refine C.getA fX10_18 dX10_allPurses_12 hO.o hO.r2 ?_
        refine C.iload_n dX10_allPurses_15 2 rfl ?_
        refine C.iald hO.a2 (n_in (by omega)) dX10_allPurses_16 ?_
        rw [n_cl, hvi]
        refine C.iadd dX10_allPurses_17 ?_
        refine C.istore_n (lv' := [(0, _), (1, _), (2, _)]) dX10_allPurses_18 (nLt hX rfl) rfl ?_
        refine C.iinc (lv' := [(0, _), (1, _), (2, _)]) _ dX10_allPurses_19 2 rfl rfl (nLt hX rfl) rfl ?_
        refine C.goto 4 dX10_allPurses_22 rfl ?_
        rw [← nI_1] at ih2
        exact ih2
  refine C.iconst (nI 0) dX10_allPurses_0 (by decide) ?_
  refine C.istore_n (lv' := [(0, _), (1, _)]) dX10_allPurses_1 (nLt hX rfl) rfl ?_
  refine C.iconst (nI 0) dX10_allPurses_2 (by decide) ?_
  refine C.istore_n (lv' := [(0, _), (1, _), (2, _)]) dX10_allPurses_3 (nLt hX rfl) rfl ?_
  exact loop 6 0 rfl
end KST
