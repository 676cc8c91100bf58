/-! the class: signs, words, numbers, names asked for -/
section KND
variable {l : Launch} {G : Gm} {μ : Mm} {tp : List Nat} {s : Ps}

theorem kw_fail (hS : ShC μ) (hR : RD μ (txL tp) tp.length s) {k pl : Int32} (hk : ¬ k = 0) : AMet l G 0 0 0 mtX8_fail [.ref (G.1 + 3), .int k, .int pl] μ (qV (fun μ' => RD μ' (txL tp) tp.length (mFail s k pl) ∧ RqF μ μ')) := by
  refine AMet.of (by decide) (Nat.le_of_ble_eq_true rfl) (fun X C hX hnm hq => ?_)
  by_cases h0 : s.2.2.1 = 0
  · have hf := (hR.1 h0).1
    refine C.aload_n dX8_fail_0 0 rfl ?_
    refine C.getI fX8_45 dX8_fail_1 hS.o3 ?_
    rw [hf]
    refine C.if_ne 22 dX8_fail_4 rfl (fun hc4 => ?_) (fun hc4 => ?_)
    · exact absurd rfl hc4
    · refine C.aload_n dX8_fail_7 0 rfl ?_
      refine C.iload_n dX8_fail_8 1 rfl ?_
      refine C.putI fX8_45 (Or.inl rfl) dX8_fail_9 hS.o3 ?_
      refine C.aload_n dX8_fail_12 0 rfl ?_
      refine C.iload_n dX8_fail_13 2 rfl ?_
      refine C.putI fX8_15 (Or.inl rfl) dX8_fail_14 hS.o3 ?_
      refine C.aload_n dX8_fail_17 0 rfl ?_
      refine C.iconst (nI 4) dX8_fail_18 (by decide) ?_
      refine C.putI fX8_48 (Or.inl rfl) dX8_fail_19 hS.o3 ?_
      refine C.vret hq dX8_fail_22 ?_
      exact ⟨hR.fail h0 hk, rfl, fun a k q => by rw [mI_sI, if_neg (fun z => q z.1), mI_sI, if_neg (fun z => q z.1), mI_sI, if_neg (fun z => q z.1)]⟩
  · have hf := (hR.2 h0).1
    refine C.aload_n dX8_fail_0 0 rfl ?_
    refine C.getI fX8_45 dX8_fail_1 hS.o3 ?_
    rw [hf]
    refine C.if_ne 22 dX8_fail_4 rfl (fun hc4 => ?_) (fun hc4 => ?_)
    · refine C.vret hq dX8_fail_22 ?_
      exact ⟨by unfold mFail; rw [if_neg h0]; exact hR, RqF.refl _⟩
    · exact absurd hc4 h0
/-- a failing at the token that stands here, by fail itself -/
theorem kw_failF (hS : ShC μ) (hR : RD μ (txL tp) tp.length s) : AMet l G 0 0 0 mtX8_fail [.ref (G.1 + 3), .int (nI 1), .int (mI μ 3 4)] μ (qV (fun μ' => RD μ' (txL tp) tp.length (mFail s (nI 1) (nI (sk (txL tp) tp.length s.1))) ∧ RqF μ μ')) := by
  by_cases h0 : s.2.2.1 = 0
  · rw [(hR.1 h0).2.2.1]
    exact kw_fail hS hR (by decide)
  · refine (kw_fail hS hR (k := nI 1) (pl := mI μ 3 4) (by decide)).monoV (fun μ' q => ⟨?_, q.2⟩)
    have := q.1
    unfold mFail at this ⊢
    rw [if_neg h0] at this ⊢
    exact this
theorem kw_failHere (hS : ShC μ) (hR : RD μ (txL tp) tp.length s) : AMet l G 1 0 0 mtX8_failHere [.ref (G.1 + 3)] μ (qV (fun μ' => RD μ' (txL tp) tp.length (mFail s (nI 1) (nI (sk (txL tp) tp.length s.1))) ∧ RqF μ μ')) := by
  refine AMet.of (by decide) (Nat.le_of_ble_eq_true rfl) (fun X C hX hnm hq => ?_)
  by_cases h0 : s.2.2.1 = 0
  · have h4 := (hR.1 h0).2.2.1
    refine C.aload_n dX8_failHere_0 0 rfl ?_
    refine C.iconst (nI 1) dX8_failHere_1 (by decide) ?_
    refine C.aload_n dX8_failHere_2 0 rfl ?_
    refine C.getI fX8_57 dX8_failHere_3 hS.o3 ?_
    rw [h4]
    refine C.callVV lX8_60 dX8_failHere_6 (kw_fail hS hR (by decide)) hS.o3 rfl rfl (Nat.le_of_ble_eq_true rfl) (Nat.zero_le _) (Nat.zero_le _) (Nat.le_of_ble_eq_true rfl) (fun μ6 h6 => ?_)
    refine C.vret hq dX8_failHere_9 ?_
    exact h6
  · skip
    refine C.aload_n dX8_failHere_0 0 rfl ?_
    refine C.iconst (nI 1) dX8_failHere_1 (by decide) ?_
    refine C.aload_n dX8_failHere_2 0 rfl ?_
    refine C.getI fX8_57 dX8_failHere_3 hS.o3 ?_
    refine C.callVV lX8_60 dX8_failHere_6 (kw_fail hS hR (by decide)) hS.o3 rfl rfl (Nat.le_of_ble_eq_true rfl) (Nat.zero_le _) (Nat.zero_le _) (Nat.le_of_ble_eq_true rfl) (fun μ6 h6 => ?_)
    refine C.vret hq dX8_failHere_9 ?_
    refine ⟨?_, h6.2⟩
    have := h6.1
    unfold mFail at this ⊢
    rw [if_neg h0] at this ⊢
    exact this
theorem kw_goesOn (hS : ShC μ) (hR : RD μ (txL tp) tp.length s) : AMet l G 0 0 0 mtX8_goesOn [.ref (G.1 + 3)] μ (qI (fun z μ' => z = bI (decide (s.2.2.1 = 0) && decide (sk (txL tp) tp.length s.1 < tp.length)) ∧ μ' = μ)) := by
  refine AMet.of (by decide) (Nat.le_of_ble_eq_true rfl) (fun X C hX hnm hq => ?_)
  obtain ⟨kd, k1, k2, k3, -, -, -⟩ := hR.kd
  unfold eHas at k3
  by_cases h0 : s.2.2.1 = 0
  · have hf := (hR.1 h0).1
    rw [decide_eq_true h0] at hq
    refine C.aload_n dX8_goesOn_0 0 rfl ?_
    refine C.getI fX8_45 dX8_goesOn_1 hS.o3 ?_
    rw [hf]
    refine C.if_ne 18 dX8_goesOn_4 rfl (fun hc4 => ?_) (fun hc4 => ?_)
    · exact absurd rfl hc4
    · refine C.aload_n dX8_goesOn_7 0 rfl ?_
      refine C.getI fX8_48 dX8_goesOn_8 hS.o3 ?_
      rw [k2]
      refine C.if_eq 18 dX8_goesOn_11 rfl (fun hc11 => ?_) (fun hc11 => ?_)
      · have hk := n_eq (b := 0) hc11 (by omega) (by omega)
        have := (k3.mp hk).2
        rw [decide_eq_false (by omega)] at hq
        refine C.iconst (nI 0) dX8_goesOn_18 (by decide) ?_
        refine C.zret hq dX8_goesOn_19 (by decide) ?_
        exact ⟨rfl, rfl⟩
      · have hk : kd ≠ 0 := fun z => hc11 (by rw [z]; rfl)
        rw [decide_eq_true (Decidable.byContradiction (fun z => hk (k3.mpr ⟨h0, by omega⟩)))] at hq
        refine C.iconst (nI 1) dX8_goesOn_14 (by decide) ?_
        refine C.goto 19 dX8_goesOn_15 rfl ?_
        refine C.zret hq dX8_goesOn_19 (by decide) ?_
        exact ⟨rfl, rfl⟩
  · have hf := (hR.2 h0).1
    rw [decide_eq_false h0] at hq
    refine C.aload_n dX8_goesOn_0 0 rfl ?_
    refine C.getI fX8_45 dX8_goesOn_1 hS.o3 ?_
    rw [hf]
    refine C.if_ne 18 dX8_goesOn_4 rfl (fun hc4 => ?_) (fun hc4 => ?_)
    · refine C.iconst (nI 0) dX8_goesOn_18 (by decide) ?_
      refine C.zret hq dX8_goesOn_19 (by decide) ?_
      exact ⟨rfl, rfl⟩
    · exact absurd hc4 h0
theorem kw_isSign (hS : ShC μ) (hT : CsT μ tp) (hR : RD μ (txL tp) tp.length s) {c : Nat} (hc : c < 128) (hL : isL c = false) (hD : isD c = false) : AMet l G 0 0 0 mtX8_isSign [.ref (G.1 + 3), .int (nI c)] μ (qI (fun z μ' => z = bI (mSign (txL tp) tp.length s (nI c)).1 ∧ μ' = μ)) := by
  refine AMet.of (by decide) (Nat.le_of_ble_eq_true rfl) (fun X C hX hnm hq => ?_)
  obtain ⟨kd, k1, k2, -, -, -, k3⟩ := hR.kd
  unfold mSign at hq
  unfold sHas at k3
  have no : ¬ (s.2.2.1 = 0 ∧ chr (txL tp) tp.length (sk (txL tp) tp.length s.1) = nI c) → MR G X (qI (fun z μ' => z = nI 0 ∧ μ' = μ)) := by
    intro hn
    by_cases h0 : s.2.2.1 = 0
    · rw [if_pos h0, if_neg (fun z => hn ⟨h0, z⟩)] at hq; exact hq
    · rw [if_neg h0] at hq; exact hq
  refine C.aload_n dX8_isSign_0 0 rfl ?_
  refine C.getI fX8_48 dX8_isSign_1 hS.o3 ?_
  rw [k2]
  refine C.iconst (nI 3) dX8_isSign_4 (by decide) ?_
  refine C.icmp_ne 20 dX8_isSign_5 rfl (fun hc5 => ?_) (fun hc5 => ?_)
  · have hne := n_ne hc5
    have hq := no (fun z => by
      obtain ⟨z1, z2⟩ := z
      unfold chr at z2
      by_cases hp : sk (txL tp) tp.length s.1 < tp.length
      · rw [if_pos hp] at z2
        have b2 := (hT.2.2 _ _ (txL_q hp)).2
        have e := n_eq z2 (by omega) (by omega)
        exact hne (k3.mpr ⟨z1, hp, by rw [e]; exact hL, by rw [e]; exact hD⟩)
      · rw [if_neg hp] at z2
        exact absurd z2.symm (n_m1 (by omega)))
    refine C.iconst (nI 0) dX8_isSign_20 (by decide) ?_
    refine C.zret hq dX8_isSign_21 (by decide) ?_
    exact ⟨rfl, rfl⟩
  · have hk := n_eq hc5 (by omega) (by omega)
    obtain ⟨z1, z2, z3, z4⟩ := k3.mp hk
    have hv := ((hR.1 z1).2.2.2.2.2.2.2 z2 z3 z4).2.1
    have b2 := (hT.2.2 _ _ (txL_q z2)).2
    refine C.aload_n dX8_isSign_8 0 rfl ?_
    refine C.getI fX8_73 dX8_isSign_9 hS.o3 ?_
    rw [hv]
    refine C.iload_n dX8_isSign_12 1 rfl ?_
    refine C.icmp_ne 20 dX8_isSign_13 rfl (fun hc13 => ?_) (fun hc13 => ?_)
    · have hq := no (fun z => by
        have y2 := z.2
        unfold chr at y2
        rw [if_pos z2] at y2
        exact hc13 ((byS_eq b2 hc).mpr (n_eq y2 (by omega) (by omega))))
      refine C.iconst (nI 0) dX8_isSign_20 (by decide) ?_
      refine C.zret hq dX8_isSign_21 (by decide) ?_
      exact ⟨rfl, rfl⟩
    · rw [if_pos z1, if_pos (by unfold chr; rw [if_pos z2, (byS_eq b2 hc).mp hc13])] at hq
      refine C.iconst (nI 1) dX8_isSign_16 (by decide) ?_
      refine C.goto 21 dX8_isSign_17 rfl ?_
      refine C.zret hq dX8_isSign_21 (by decide) ?_
      exact ⟨rfl, rfl⟩
theorem kw_isWord (hC : CsB μ) (hT : CsT μ tp) (hR : RD μ (txL tp) tp.length s) {w : Nat} (hw : w < 39) : AMet l G 0 0 0 mtX8_isWord [.ref (G.1 + 3), .int (nI w)] μ (qI (fun z μ' => z = bI (mHere (txL tp) tp.length s (keyL.getD w [])).1 ∧ μ' = μ)) := by
  refine AMet.of (by decide) (Nat.le_of_ble_eq_true rfl) (fun X C hX hnm hq => ?_)
  have hS := hC.1
  have h1600 := hT.2.1
  have hkey := hC.2.1 w hw
  obtain ⟨kd, k1, k2, -, k3, -, -⟩ := hR.kd
  unfold wHas at k3
  unfold mHere hereW at hq
  generalize hp : sk (txL tp) tp.length s.1 = p at *
  have no : ¬ (s.2.2.1 = 0 ∧ p < tp.length ∧ isL (txL tp p) = true ∧ ¬ nI p = s.2.1 ∧ tok (txL tp) tp.length p = keyL.getD w []) → MR G X (qI (fun z μ' => z = nI 0 ∧ μ' = μ)) := by
    intro hn
    by_cases h0 : s.2.2.1 = 0
    · rw [if_pos h0] at hq
      have : (decide (p < tp.length) && isL (txL tp p) && !decide (nI p = s.2.1) && decide (tok (txL tp) tp.length p = keyL.getD w [])) = false := by
        cases hz : (decide (p < tp.length) && isL (txL tp p) && !decide (nI p = s.2.1) && decide (tok (txL tp) tp.length p = keyL.getD w [])) with
        | false => rfl
        | true =>
          rw [Bool.and_eq_true, Bool.and_eq_true, Bool.and_eq_true, decide_eq_true_iff, decide_eq_true_iff, Bool.not_eq_true', decide_eq_false_iff_not] at hz
          exact absurd ⟨h0, hz.1.1.1, hz.1.1.2, hz.1.2, hz.2⟩ hn
      dsimp only at hq
      rw [this] at hq
      exact hq
    · rw [if_neg h0] at hq; exact hq
  refine C.aload_n dX8_isWord_0 0 rfl ?_
  refine C.getI fX8_48 dX8_isWord_1 hS.o3 ?_
  rw [k2]
  refine C.iconst (nI 1) dX8_isWord_4 (by decide) ?_
  refine C.icmp_ne 39 dX8_isWord_5 rfl (fun hc5 => ?_) (fun hc5 => ?_)
  · have hq := no (fun z => n_ne hc5 (k3.mpr ⟨z.1, z.2.1, z.2.2.1, z.2.2.2.1⟩))
    refine C.iconst (nI 0) dX8_isWord_39 (by decide) ?_
    refine C.zret hq dX8_isWord_40 (by decide) ?_
    exact ⟨rfl, rfl⟩
  · have hk := n_eq hc5 (by omega) (by omega)
    obtain ⟨z1, z2, z3, z4⟩ := k3.mp hk
    have hall := (hR.1 z1).2.2
    rw [hp] at hall
    have hv := hall.2.2.2.1 z2 z3 z4
    have hwp := wl_pos z2 z3
    have hsub : nI (wl (txL tp) tp.length p) - nI p = nI (wl (txL tp) tp.length p - p) := by
      rw [show nI (wl (txL tp) tp.length p) = nI (wl (txL tp) tp.length p - p) + nI p by rw [nI_add]; congr 1; omega]
      simp
    refine C.aload_n dX8_isWord_8 0 rfl ?_
    refine C.getI fX8_51 dX8_isWord_9 hS.o3 ?_
    refine C.aload_n dX8_isWord_12 0 rfl ?_
    refine C.getI fX8_57 dX8_isWord_13 hS.o3 ?_
    rw [hv.2.2, hall.1]
    refine C.isub dX8_isWord_16 ?_
    rw [hsub]
    refine C.bipush (nI 6) dX8_isWord_17 (by decide) ?_
    refine C.icmp_gt 39 dX8_isWord_19 rfl (fun hc19 => ?_) (fun hc19 => ?_)
    · have h19 := n_lt hc19 (by omega) (by omega)
      have hq := no (fun z => by
        have := congrArg List.length z.2.2.2.2
        rw [tok_len] at this
        have := (key_ok ⟨w, hw⟩).2.1
        dsimp only at this
        omega)
      refine C.iconst (nI 0) dX8_isWord_39 (by decide) ?_
      refine C.zret hq dX8_isWord_40 (by decide) ?_
      exact ⟨rfl, rfl⟩
    · have h19 := n_nlt hc19 (by omega) (by omega)
      have hki := key_iff z2 z3 h19 hw
      refine C.aload_n dX8_isWord_22 0 rfl ?_
      refine C.getI fX8_73 dX8_isWord_23 hS.o3 ?_
      rw [hv.2.1]
      refine C.aload_n dX8_isWord_26 0 rfl ?_
      refine C.getA fX8_19 dX8_isWord_27 hS.o3 hS.r3_1 ?_
      refine C.iload_n dX8_isWord_30 1 rfl ?_
      refine C.iald hS.a4 (n_in hw) dX8_isWord_31 ?_
      rw [n_cl, hkey]
      refine C.icmp_ne 39 dX8_isWord_32 rfl (fun hc32 => ?_) (fun hc32 => ?_)
      · have hq := no (fun z => hc32 (hki.mpr z.2.2.2.2))
        refine C.iconst (nI 0) dX8_isWord_39 (by decide) ?_
        refine C.zret hq dX8_isWord_40 (by decide) ?_
        exact ⟨rfl, rfl⟩
      · rw [if_pos z1, decide_eq_true z2, z3, decide_eq_false z4, decide_eq_true (hki.mp hc32)] at hq
        refine C.iconst (nI 1) dX8_isWord_35 (by decide) ?_
        refine C.goto 40 dX8_isWord_36 rfl ?_
        refine C.zret hq dX8_isWord_40 (by decide) ?_
        exact ⟨rfl, rfl⟩
end KND
