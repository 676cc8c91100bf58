/-! the class: comparisons, facts (comparisons stand in fact) -/
def cFact1 (tx : Nat → Nat) (e : Nat) (S : Pt → Pt) (o : Option (Pt → Pt)) (t : Pt) : Pt := if (mHere tx e t.2 (keyL.getD 29 [])).1 then cOp tx e o t (fun F => cPut (F (t.1, wAf tx e t.2)) 12) else if (mSign tx e t.2 (nI 91)).1 then cOp tx e o t (fun F => cNd tx e 93 (cEith tx e (cBoth tx e F) (t.1, (sk tx e t.2.1 + 1, t.2.2)))) else if (mHere tx e t.2 (keyL.getD 30 [])).1 then cPut (t.1, wAf tx e t.2) 13 else cCmp tx e (S t) S
section KCM
variable {l : Launch} {G : Gm} {μ0 : Mm} {tp : List Nat} {m : Nat}

/-- the step that the sign here asks for -/
def cStp (tx : Nat → Nat) (e : Nat) (s : Ps) : Int32 := if (mSign tx e s (nI 60)).1 then nI 8 else if (mSign tx e s (nI 62)).1 then nI 9 else if (mSign tx e s (nI 61)).1 then nI 10 else (-1)
theorem kf_cstep {μ : Mm} {t : Pt} (hc : CP μ0 tp m t μ) : AMet l G 1 0 0 mtX6_comparisonStep [.ref (G.1 + 5)] μ (qI (fun z μ' => z = cStp (txL tp) tp.length t.2 ∧ μ' = μ)) := by
  refine AMet.of (by decide) (Nat.le_of_ble_eq_true rfl) (fun X C hX hnm hq => ?_)
  have hS := hc.1.1
  obtain ⟨cB, cT, cR, cP, cH, cF⟩ := id hc
  unfold cStp at hq
  refine C.aload_n dX6_comparisonStep_0 0 rfl ?_
  refine C.getO fX6_9 dX6_comparisonStep_1 hS.o5 hS.r5_0 ?_
  refine C.bipush (nI 60) dX6_comparisonStep_4 (by decide) ?_
  refine C.callVI lX6_77 dX6_comparisonStep_6 (kw_isSign hS cT cR (c := 60) (by decide) (by decide) (by decide)) hS.o3 rfl rfl (Nat.le_of_ble_eq_true rfl) (Nat.zero_le _) (Nat.zero_le _) (Nat.le_of_ble_eq_true rfl) (fun x6 μ6 h6 => ?_)
  obtain ⟨rfl, hμ⟩ := h6
  subst hμ
  refine C.if_eq 15 dX6_comparisonStep_9 rfl (fun hc9 => ?_) (fun hc9 => ?_)
  · rw [if_neg (by rw [(bI_0 _).mp hc9]; decide)] at hq
    refine C.aload_n dX6_comparisonStep_15 0 rfl ?_
    refine C.getO fX6_9 dX6_comparisonStep_16 hS.o5 hS.r5_0 ?_
    refine C.bipush (nI 62) dX6_comparisonStep_19 (by decide) ?_
    refine C.callVI lX6_77 dX6_comparisonStep_21 (kw_isSign hS cT cR (c := 62) (by decide) (by decide) (by decide)) hS.o3 rfl rfl (Nat.le_of_ble_eq_true rfl) (Nat.zero_le _) (Nat.zero_le _) (Nat.le_of_ble_eq_true rfl) (fun x21 μ21 h21 => ?_)
    obtain ⟨rfl, hμ⟩ := h21
    subst hμ
    refine C.if_eq 30 dX6_comparisonStep_24 rfl (fun hc24 => ?_) (fun hc24 => ?_)
    · rw [if_neg (by rw [(bI_0 _).mp hc24]; decide)] at hq
      refine C.aload_n dX6_comparisonStep_30 0 rfl ?_
      refine C.getO fX6_9 dX6_comparisonStep_31 hS.o5 hS.r5_0 ?_
      refine C.bipush (nI 61) dX6_comparisonStep_34 (by decide) ?_
      refine C.callVI lX6_77 dX6_comparisonStep_36 (kw_isSign hS cT cR (c := 61) (by decide) (by decide) (by decide)) hS.o3 rfl rfl (Nat.le_of_ble_eq_true rfl) (Nat.zero_le _) (Nat.zero_le _) (Nat.le_of_ble_eq_true rfl) (fun x36 μ36 h36 => ?_)
      obtain ⟨rfl, hμ⟩ := h36
      subst hμ
      refine C.if_eq 47 dX6_comparisonStep_39 rfl (fun hc39 => ?_) (fun hc39 => ?_)
      · rw [if_neg (by rw [(bI_0 _).mp hc39]; decide)] at hq
        refine C.iconst (-1) dX6_comparisonStep_47 (by decide) ?_
        refine C.iret hq dX6_comparisonStep_48 ?_
        exact ⟨rfl, rfl⟩
      · rw [if_pos (b_t hc39)] at hq
        refine C.bipush (nI 10) dX6_comparisonStep_42 (by decide) ?_
        refine C.goto 48 dX6_comparisonStep_44 rfl ?_
        refine C.iret hq dX6_comparisonStep_48 ?_
        exact ⟨rfl, rfl⟩
    · rw [if_pos (b_t hc24)] at hq
      refine C.bipush (nI 9) dX6_comparisonStep_27 (by decide) ?_
      refine C.iret hq dX6_comparisonStep_29 ?_
      exact ⟨rfl, rfl⟩
  · rw [if_pos (b_t hc9)] at hq
    refine C.bipush (nI 8) dX6_comparisonStep_12 (by decide) ?_
    refine C.iret hq dX6_comparisonStep_14 ?_
    exact ⟨rfl, rfl⟩
theorem kf_fact {S : Pt → Pt} {o : Option (Pt → Pt)} {D op : Nat} (hD : 3 ≤ D) (hop : op ≤ 6) (hN : o = none → op = 6) (hS' : ∀ μ t, CP μ0 tp m t μ → AMet l G (D + 2) 0 0 mtX6_sum [.ref (G.1 + 5), .int (nI op)] μ (qV (fun μ' => CP μ0 tp m (S t) μ'))) (hP : ∀ F, o = some F → op < 6 ∧ ∀ μ t, CP μ0 tp m t μ → AMet l G D 0 0 mtX6_fact [.ref (G.1 + 5), .int (nI (op + 1))] μ (qV (fun μ' => CP μ0 tp m (F t) μ'))) : ∀ μ t, CP μ0 tp m t μ → AMet l G (D + 4) 0 0 mtX6_fact [.ref (G.1 + 5), .int (nI op)] μ (qV (fun μ' => CP μ0 tp m (cFact1 (txL tp) tp.length S o t) μ')) := by
  intro μ t hc
  refine AMet.of (by decide) (Nat.le_of_ble_eq_true rfl) (fun X C hX hnm hq => ?_)
  have m109 : ∀ (u : Pt) (μ1 : Mm), CP μ0 tp m u μ1 → MR G X (qV (fun μ' => CP μ0 tp m (cCmp (txL tp) tp.length u S) μ')) → AW l G X 0 0 109 [(0, .ref (G.1 + 5)), (1, .int (nI op))] [] μ1 := by
    clear hq
    intro u μ1 hc hq
    have hS := hc.1.1
    obtain ⟨cB, cT, cR, cP, cH, cF⟩ := id hc
    unfold cCmp at hq
    cases hA : (mSign (txL tp) tp.length u.2 (nI 60)).1 with
    | true =>
      obtain ⟨hs, he⟩ := sign_has cT.by (c := 60) (by decide) (by decide) (by decide) hA
      rw [hA, if_pos rfl] at hq
      refine C.aload_n dX6_fact_109 0 rfl ?_
      refine C.callVI lX6_83 dX6_fact_110 (kf_cstep hc) hS.o5 rfl rfl (by omega) (Nat.zero_le _) (Nat.zero_le _) (Nat.le_of_ble_eq_true rfl) (fun x110 μ110 h110 => ?_)
      obtain ⟨rfl, hμ⟩ := h110
      subst hμ
      rw [show cStp (txL tp) tp.length u.2 = nI 8 by unfold cStp; simp only [hA]; rfl]
      refine C.istore_n (lv' := [(0, _), (1, _), (2, _)]) dX6_fact_113 (nLt hX rfl) rfl ?_
      refine C.iload_n dX6_fact_114 2 rfl ?_
      refine C.iconst (-1) dX6_fact_115 (by decide) ?_
      refine C.icmp_ne 129 dX6_fact_116 rfl (fun hc116 => ?_) (fun hc116 => ?_)
      · refine C.aload_n dX6_fact_129 0 rfl ?_
        refine C.getO fX6_9 dX6_fact_130 hS.o5 hS.r5_0 ?_
        refine C.callVV lX6_64 dX6_fact_133 (kw_advS hS cT cR cP hs (s' := (sk (txL tp) tp.length u.2.1 + 1, u.2.2)) rfl rfl rfl) hS.o3 rfl rfl (by omega) (Nat.zero_le _) (Nat.zero_le _) (Nat.le_of_ble_eq_true rfl) (fun μ133 h133 => ?_)
        have hc2 := hc.adv (s' := (sk (txL tp) tp.length u.2.1 + 1, u.2.2)) (cP.sign hs) h133.1 h133.2
        have hS := hc2.1.1
        refine C.aload_n dX6_fact_136 0 rfl ?_
        refine C.iload_n dX6_fact_137 1 rfl ?_
        refine C.callVV lX6_23 dX6_fact_138 (hS' _ _ hc2) hS.o5 rfl rfl (by omega) (Nat.zero_le _) (Nat.zero_le _) (Nat.le_of_ble_eq_true rfl) (fun μ138 h138 => ?_)
        have hS := h138.1.1
        refine C.aload_n dX6_fact_141 0 rfl ?_
        refine C.iload_n dX6_fact_142 2 rfl ?_
        refine C.iconst (nI 0) dX6_fact_143 (by decide) ?_
        refine C.callVV lX6_67 dX6_fact_144 (kf_put (n := 7) hS h138.2.2.2.2.1 h138.2.2.1 (st := 8) (nu := 0) (by decide) (by decide) (by decide)) hS.o5 rfl rfl (by omega) (Nat.zero_le _) (Nat.zero_le _) (Nat.le_of_ble_eq_true rfl) (fun μ144 h144 => ?_)
        refine C.vret hq dX6_fact_147 ?_
        exact h138.put h144
      · exact absurd hc116 (by decide)
    | false =>
      rw [hA, if_neg (by decide)] at hq
      cases hB : (mSign (txL tp) tp.length u.2 (nI 62)).1 with
      | true =>
        obtain ⟨hs, he⟩ := sign_has cT.by (c := 62) (by decide) (by decide) (by decide) hB
        rw [hB, if_pos rfl] at hq
        refine C.aload_n dX6_fact_109 0 rfl ?_
        refine C.callVI lX6_83 dX6_fact_110 (kf_cstep hc) hS.o5 rfl rfl (by omega) (Nat.zero_le _) (Nat.zero_le _) (Nat.le_of_ble_eq_true rfl) (fun x110 μ110 h110 => ?_)
        obtain ⟨rfl, hμ⟩ := h110
        subst hμ
        rw [show cStp (txL tp) tp.length u.2 = nI 9 by unfold cStp; simp only [hA, hB]; rfl]
        refine C.istore_n (lv' := [(0, _), (1, _), (2, _)]) dX6_fact_113 (nLt hX rfl) rfl ?_
        refine C.iload_n dX6_fact_114 2 rfl ?_
        refine C.iconst (-1) dX6_fact_115 (by decide) ?_
        refine C.icmp_ne 129 dX6_fact_116 rfl (fun hc116 => ?_) (fun hc116 => ?_)
        · refine C.aload_n dX6_fact_129 0 rfl ?_
          refine C.getO fX6_9 dX6_fact_130 hS.o5 hS.r5_0 ?_
          refine C.callVV lX6_64 dX6_fact_133 (kw_advS hS cT cR cP hs (s' := (sk (txL tp) tp.length u.2.1 + 1, u.2.2)) rfl rfl rfl) hS.o3 rfl rfl (by omega) (Nat.zero_le _) (Nat.zero_le _) (Nat.le_of_ble_eq_true rfl) (fun μ133 h133 => ?_)
          have hc2 := hc.adv (s' := (sk (txL tp) tp.length u.2.1 + 1, u.2.2)) (cP.sign hs) h133.1 h133.2
          have hS := hc2.1.1
          refine C.aload_n dX6_fact_136 0 rfl ?_
          refine C.iload_n dX6_fact_137 1 rfl ?_
          refine C.callVV lX6_23 dX6_fact_138 (hS' _ _ hc2) hS.o5 rfl rfl (by omega) (Nat.zero_le _) (Nat.zero_le _) (Nat.le_of_ble_eq_true rfl) (fun μ138 h138 => ?_)
          have hS := h138.1.1
          refine C.aload_n dX6_fact_141 0 rfl ?_
          refine C.iload_n dX6_fact_142 2 rfl ?_
          refine C.iconst (nI 0) dX6_fact_143 (by decide) ?_
          refine C.callVV lX6_67 dX6_fact_144 (kf_put (n := 8) hS h138.2.2.2.2.1 h138.2.2.1 (st := 9) (nu := 0) (by decide) (by decide) (by decide)) hS.o5 rfl rfl (by omega) (Nat.zero_le _) (Nat.zero_le _) (Nat.le_of_ble_eq_true rfl) (fun μ144 h144 => ?_)
          refine C.vret hq dX6_fact_147 ?_
          exact h138.put h144
        · exact absurd hc116 (by decide)
      | false =>
        rw [hB, if_neg (by decide)] at hq
        cases hE : (mSign (txL tp) tp.length u.2 (nI 61)).1 with
        | true =>
          obtain ⟨hs, he⟩ := sign_has cT.by (c := 61) (by decide) (by decide) (by decide) hE
          rw [hE, if_pos rfl] at hq
          refine C.aload_n dX6_fact_109 0 rfl ?_
          refine C.callVI lX6_83 dX6_fact_110 (kf_cstep hc) hS.o5 rfl rfl (by omega) (Nat.zero_le _) (Nat.zero_le _) (Nat.le_of_ble_eq_true rfl) (fun x110 μ110 h110 => ?_)
          obtain ⟨rfl, hμ⟩ := h110
          subst hμ
          rw [show cStp (txL tp) tp.length u.2 = nI 10 by unfold cStp; simp only [hA, hB, hE]; rfl]
          refine C.istore_n (lv' := [(0, _), (1, _), (2, _)]) dX6_fact_113 (nLt hX rfl) rfl ?_
          refine C.iload_n dX6_fact_114 2 rfl ?_
          refine C.iconst (-1) dX6_fact_115 (by decide) ?_
          refine C.icmp_ne 129 dX6_fact_116 rfl (fun hc116 => ?_) (fun hc116 => ?_)
          · refine C.aload_n dX6_fact_129 0 rfl ?_
            refine C.getO fX6_9 dX6_fact_130 hS.o5 hS.r5_0 ?_
            refine C.callVV lX6_64 dX6_fact_133 (kw_advS hS cT cR cP hs (s' := (sk (txL tp) tp.length u.2.1 + 1, u.2.2)) rfl rfl rfl) hS.o3 rfl rfl (by omega) (Nat.zero_le _) (Nat.zero_le _) (Nat.le_of_ble_eq_true rfl) (fun μ133 h133 => ?_)
            have hc2 := hc.adv (s' := (sk (txL tp) tp.length u.2.1 + 1, u.2.2)) (cP.sign hs) h133.1 h133.2
            have hS := hc2.1.1
            refine C.aload_n dX6_fact_136 0 rfl ?_
            refine C.iload_n dX6_fact_137 1 rfl ?_
            refine C.callVV lX6_23 dX6_fact_138 (hS' _ _ hc2) hS.o5 rfl rfl (by omega) (Nat.zero_le _) (Nat.zero_le _) (Nat.le_of_ble_eq_true rfl) (fun μ138 h138 => ?_)
            have hS := h138.1.1
            refine C.aload_n dX6_fact_141 0 rfl ?_
            refine C.iload_n dX6_fact_142 2 rfl ?_
            refine C.iconst (nI 0) dX6_fact_143 (by decide) ?_
            refine C.callVV lX6_67 dX6_fact_144 (kf_put (n := 9) hS h138.2.2.2.2.1 h138.2.2.1 (st := 10) (nu := 0) (by decide) (by decide) (by decide)) hS.o5 rfl rfl (by omega) (Nat.zero_le _) (Nat.zero_le _) (Nat.le_of_ble_eq_true rfl) (fun μ144 h144 => ?_)
            refine C.vret hq dX6_fact_147 ?_
            exact h138.put h144
          · exact absurd hc116 (by decide)
        | false =>
          rw [hE, if_neg (by decide)] at hq
          refine C.aload_n dX6_fact_109 0 rfl ?_
          refine C.callVI lX6_83 dX6_fact_110 (kf_cstep hc) hS.o5 rfl rfl (by omega) (Nat.zero_le _) (Nat.zero_le _) (Nat.le_of_ble_eq_true rfl) (fun x110 μ110 h110 => ?_)
          obtain ⟨rfl, hμ⟩ := h110
          subst hμ
          rw [show cStp (txL tp) tp.length u.2 = -1 by unfold cStp; simp only [hA, hB, hE]; rfl]
          refine C.istore_n (lv' := [(0, _), (1, _), (2, _)]) dX6_fact_113 (nLt hX rfl) rfl ?_
          refine C.iload_n dX6_fact_114 2 rfl ?_
          refine C.iconst (-1) dX6_fact_115 (by decide) ?_
          refine C.icmp_ne 129 dX6_fact_116 rfl (fun hc116 => ?_) (fun hc116 => ?_)
          · exact absurd rfl hc116
          · refine C.aload_n dX6_fact_119 0 rfl ?_
            refine C.getO fX6_9 dX6_fact_120 hS.o5 hS.r5_0 ?_
            refine C.callVV lX6_87 dX6_fact_123 (kw_failHere hS cR) hS.o3 rfl rfl (by omega) (Nat.zero_le _) (Nat.zero_le _) (Nat.le_of_ble_eq_true rfl) (fun μ123 h123 => ?_)
            refine C.goto 147 dX6_fact_126 rfl ?_
            refine C.vret hq dX6_fact_147 ?_
            exact hc.fail (by decide) h123
  have hS := hc.1.1
  obtain ⟨cB, cT, cR, cP, cH, cF⟩ := id hc
  unfold cFact1 at hq
  cases hA : (mHere (txL tp) tp.length t.2 (keyL.getD 29 [])).1 with
  | true =>
    obtain ⟨hs, he⟩ := here_has hA
    rw [hA, if_pos rfl] at hq
    unfold cOp at hq
    cases o with
    | none =>
      have h6 := hN rfl
      subst h6
      dsimp only at hq
      refine C.aload_n dX6_fact_0 0 rfl ?_
      refine C.getO fX6_9 dX6_fact_1 hS.o5 hS.r5_0 ?_
      refine C.bipush (nI 29) dX6_fact_4 (by decide) ?_
      refine C.callVI lX6_58 dX6_fact_6 (kw_isWord cB cT cR (w := 29) (by decide)) hS.o3 rfl rfl (by omega) (Nat.zero_le _) (Nat.zero_le _) (Nat.le_of_ble_eq_true rfl) (fun x6 μ6 h6 => ?_)
      obtain ⟨rfl, hμ⟩ := h6
      subst hμ
      refine C.if_eq 37 dX6_fact_9 rfl (fun hc9 => ?_) (fun hc9 => ?_)
      · rw [hA] at hc9
        exact absurd hc9 (by decide)
      · refine C.aload_n dX6_fact_12 0 rfl ?_
        refine C.iload_n dX6_fact_13 1 rfl ?_
        refine C.callVI lX6_74 dX6_fact_14 (kf_opens hS cR hs.1 (kw_advW hS cT cR hs (s' := wAf (txL tp) tp.length t.2) rfl rfl rfl) (op := 6) (by decide)) hS.o5 rfl rfl (by omega) (Nat.zero_le _) (Nat.zero_le _) (Nat.le_of_ble_eq_true rfl) (fun x14 μ14 h14 => ?_)
        obtain ⟨rfl, hz⟩ := h14
        rw [if_neg (by decide)] at hz
        refine C.if_eq 147 dX6_fact_17 rfl (fun hc17 => ?_) (fun hc17 => ?_)
        · refine C.vret hq dX6_fact_147 ?_
          exact hc.fail (by decide) hz
        · exact absurd rfl hc17
    | some F =>
      obtain ⟨hlt, hP⟩ := hP F rfl
      dsimp only at hq
      refine C.aload_n dX6_fact_0 0 rfl ?_
      refine C.getO fX6_9 dX6_fact_1 hS.o5 hS.r5_0 ?_
      refine C.bipush (nI 29) dX6_fact_4 (by decide) ?_
      refine C.callVI lX6_58 dX6_fact_6 (kw_isWord cB cT cR (w := 29) (by decide)) hS.o3 rfl rfl (by omega) (Nat.zero_le _) (Nat.zero_le _) (Nat.le_of_ble_eq_true rfl) (fun x6 μ6 h6 => ?_)
      obtain ⟨rfl, hμ⟩ := h6
      subst hμ
      refine C.if_eq 37 dX6_fact_9 rfl (fun hc9 => ?_) (fun hc9 => ?_)
      · rw [hA] at hc9
        exact absurd hc9 (by decide)
      · refine C.aload_n dX6_fact_12 0 rfl ?_
        refine C.iload_n dX6_fact_13 1 rfl ?_
        refine C.callVI lX6_74 dX6_fact_14 (kf_opens hS cR hs.1 (kw_advW hS cT cR hs (s' := wAf (txL tp) tp.length t.2) rfl rfl rfl) (op := op) hop) hS.o5 rfl rfl (by omega) (Nat.zero_le _) (Nat.zero_le _) (Nat.le_of_ble_eq_true rfl) (fun x14 μ14 h14 => ?_)
        obtain ⟨rfl, hz⟩ := h14
        rw [if_pos hlt] at hz
        rw [decide_eq_true hlt]
        have hc2 := hc.adv (s' := wAf (txL tp) tp.length t.2) (cP.waf hs) hz.1 hz.2
        have hS := hc2.1.1
        refine C.if_eq 147 dX6_fact_17 rfl (fun hc17 => ?_) (fun hc17 => ?_)
        · exact absurd hc17 (by decide)
        · refine C.aload_n dX6_fact_20 0 rfl ?_
          refine C.iload_n dX6_fact_21 1 rfl ?_
          refine C.iconst (nI 1) dX6_fact_22 (by decide) ?_
          refine C.iadd dX6_fact_23 ?_
          rw [nI_add]
          refine C.callVV lX6_71 dX6_fact_24 (hP _ _ hc2) hS.o5 rfl rfl (by omega) (Nat.zero_le _) (Nat.zero_le _) (Nat.le_of_ble_eq_true rfl) (fun μ24 h24 => ?_)
          have hS := h24.1.1
          refine C.aload_n dX6_fact_27 0 rfl ?_
          refine C.bipush (nI 13) dX6_fact_28 (by decide) ?_
          refine C.iconst (nI 0) dX6_fact_30 (by decide) ?_
          refine C.callVV lX6_67 dX6_fact_31 (kf_put (n := 12) hS h24.2.2.2.2.1 h24.2.2.1 (st := 13) (nu := 0) (by decide) (by decide) (by decide)) hS.o5 rfl rfl (by omega) (Nat.zero_le _) (Nat.zero_le _) (Nat.le_of_ble_eq_true rfl) (fun μ31 h31 => ?_)
          refine C.goto 147 dX6_fact_34 rfl ?_
          refine C.vret hq dX6_fact_147 ?_
          exact h24.put h31
  | false =>
    rw [hA, if_neg (by decide)] at hq
    cases hB : (mSign (txL tp) tp.length t.2 (nI 91)).1 with
    | true =>
      obtain ⟨hs, he⟩ := sign_has cT.by (c := 91) (by decide) (by decide) (by decide) hB
      rw [hB, if_pos rfl] at hq
      unfold cOp at hq
      cases o with
      | none =>
        have h6 := hN rfl
        subst h6
        dsimp only at hq
        refine C.aload_n dX6_fact_0 0 rfl ?_
        refine C.getO fX6_9 dX6_fact_1 hS.o5 hS.r5_0 ?_
        refine C.bipush (nI 29) dX6_fact_4 (by decide) ?_
        refine C.callVI lX6_58 dX6_fact_6 (kw_isWord cB cT cR (w := 29) (by decide)) hS.o3 rfl rfl (by omega) (Nat.zero_le _) (Nat.zero_le _) (Nat.le_of_ble_eq_true rfl) (fun x6 μ6 h6 => ?_)
        obtain ⟨rfl, hμ⟩ := h6
        subst hμ
        refine C.if_eq 37 dX6_fact_9 rfl (fun hc9 => ?_) (fun hc9 => ?_)
        · refine C.aload_n dX6_fact_37 0 rfl ?_
          refine C.getO fX6_9 dX6_fact_38 hS.o5 hS.r5_0 ?_
          refine C.bipush (nI 91) dX6_fact_41 (by decide) ?_
          refine C.callVI lX6_77 dX6_fact_43 (kw_isSign hS cT cR (c := 91) (by decide) (by decide) (by decide)) hS.o3 rfl rfl (by omega) (Nat.zero_le _) (Nat.zero_le _) (Nat.le_of_ble_eq_true rfl) (fun x43 μ43 h43 => ?_)
          obtain ⟨rfl, hμ⟩ := h43
          subst hμ
          refine C.if_eq 76 dX6_fact_46 rfl (fun hc46 => ?_) (fun hc46 => ?_)
          · rw [hB] at hc46
            exact absurd hc46 (by decide)
          · refine C.aload_n dX6_fact_49 0 rfl ?_
            refine C.iload_n dX6_fact_50 1 rfl ?_
            refine C.callVI lX6_74 dX6_fact_51 (kf_opens hS cR hs.1 (kw_advS hS cT cR cP hs (s' := (sk (txL tp) tp.length t.2.1 + 1, t.2.2)) rfl rfl rfl) (op := 6) (by decide)) hS.o5 rfl rfl (by omega) (Nat.zero_le _) (Nat.zero_le _) (Nat.le_of_ble_eq_true rfl) (fun x51 μ51 h51 => ?_)
            obtain ⟨rfl, hz⟩ := h51
            rw [if_neg (by decide)] at hz
            refine C.if_eq 147 dX6_fact_54 rfl (fun hc54 => ?_) (fun hc54 => ?_)
            · refine C.vret hq dX6_fact_147 ?_
              exact hc.fail (by decide) hz
            · exact absurd rfl hc54
        · rw [hA] at hc9
          exact absurd rfl hc9
      | some F =>
        obtain ⟨hlt, hP⟩ := hP F rfl
        have hT := kf_test (l := l) (G := G) (by omega) (kf_both (by omega) hP)
        dsimp only at hq
        refine C.aload_n dX6_fact_0 0 rfl ?_
        refine C.getO fX6_9 dX6_fact_1 hS.o5 hS.r5_0 ?_
        refine C.bipush (nI 29) dX6_fact_4 (by decide) ?_
        refine C.callVI lX6_58 dX6_fact_6 (kw_isWord cB cT cR (w := 29) (by decide)) hS.o3 rfl rfl (by omega) (Nat.zero_le _) (Nat.zero_le _) (Nat.le_of_ble_eq_true rfl) (fun x6 μ6 h6 => ?_)
        obtain ⟨rfl, hμ⟩ := h6
        subst hμ
        refine C.if_eq 37 dX6_fact_9 rfl (fun hc9 => ?_) (fun hc9 => ?_)
        · refine C.aload_n dX6_fact_37 0 rfl ?_
          refine C.getO fX6_9 dX6_fact_38 hS.o5 hS.r5_0 ?_
          refine C.bipush (nI 91) dX6_fact_41 (by decide) ?_
          refine C.callVI lX6_77 dX6_fact_43 (kw_isSign hS cT cR (c := 91) (by decide) (by decide) (by decide)) hS.o3 rfl rfl (by omega) (Nat.zero_le _) (Nat.zero_le _) (Nat.le_of_ble_eq_true rfl) (fun x43 μ43 h43 => ?_)
          obtain ⟨rfl, hμ⟩ := h43
          subst hμ
          refine C.if_eq 76 dX6_fact_46 rfl (fun hc46 => ?_) (fun hc46 => ?_)
          · rw [hB] at hc46
            exact absurd hc46 (by decide)
          · refine C.aload_n dX6_fact_49 0 rfl ?_
            refine C.iload_n dX6_fact_50 1 rfl ?_
            refine C.callVI lX6_74 dX6_fact_51 (kf_opens hS cR hs.1 (kw_advS hS cT cR cP hs (s' := (sk (txL tp) tp.length t.2.1 + 1, t.2.2)) rfl rfl rfl) (op := op) hop) hS.o5 rfl rfl (by omega) (Nat.zero_le _) (Nat.zero_le _) (Nat.le_of_ble_eq_true rfl) (fun x51 μ51 h51 => ?_)
            obtain ⟨rfl, hz⟩ := h51
            rw [if_pos hlt] at hz
            rw [decide_eq_true hlt]
            have hc2 := hc.adv (s' := (sk (txL tp) tp.length t.2.1 + 1, t.2.2)) (cP.sign hs) hz.1 hz.2
            have hS := hc2.1.1
            refine C.if_eq 147 dX6_fact_54 rfl (fun hc54 => ?_) (fun hc54 => ?_)
            · exact absurd hc54 (by decide)
            · refine C.aload_n dX6_fact_57 0 rfl ?_
              refine C.iload_n dX6_fact_58 1 rfl ?_
              refine C.iconst (nI 1) dX6_fact_59 (by decide) ?_
              refine C.iadd dX6_fact_60 ?_
              rw [nI_add]
              refine C.callVV lX6_30 dX6_fact_61 (hT _ _ hc2) hS.o5 rfl rfl (by omega) (Nat.zero_le _) (Nat.zero_le _) (Nat.le_of_ble_eq_true rfl) (fun μ61 h61 => ?_)
              have hS := h61.1.1
              refine C.aload_n dX6_fact_64 0 rfl ?_
              refine C.getO fX6_9 dX6_fact_65 hS.o5 hS.r5_0 ?_
              refine C.bipush (nI 93) dX6_fact_68 (by decide) ?_
              refine C.callVV lX6_80 dX6_fact_70 (kw_needSign hS h61.2.1 h61.2.2.1 h61.2.2.2.1 (c := 93) (by decide) (by decide) (by decide)) hS.o3 rfl rfl (by omega) (Nat.zero_le _) (Nat.zero_le _) (Nat.le_of_ble_eq_true rfl) (fun μ70 h70 => ?_)
              refine C.goto 147 dX6_fact_73 rfl ?_
              refine C.vret hq dX6_fact_147 ?_
              exact h61.ask (c := 93) (by decide) (by decide) (by decide) h70
        · rw [hA] at hc9
          exact absurd rfl hc9
    | false =>
      rw [hB, if_neg (by decide)] at hq
      cases hE : (mHere (txL tp) tp.length t.2 (keyL.getD 30 [])).1 with
      | true =>
        obtain ⟨hs, he⟩ := here_has hE
        rw [hE, if_pos rfl] at hq
        refine C.aload_n dX6_fact_0 0 rfl ?_
        refine C.getO fX6_9 dX6_fact_1 hS.o5 hS.r5_0 ?_
        refine C.bipush (nI 29) dX6_fact_4 (by decide) ?_
        refine C.callVI lX6_58 dX6_fact_6 (kw_isWord cB cT cR (w := 29) (by decide)) hS.o3 rfl rfl (by omega) (Nat.zero_le _) (Nat.zero_le _) (Nat.le_of_ble_eq_true rfl) (fun x6 μ6 h6 => ?_)
        obtain ⟨rfl, hμ⟩ := h6
        subst hμ
        refine C.if_eq 37 dX6_fact_9 rfl (fun hc9 => ?_) (fun hc9 => ?_)
        · refine C.aload_n dX6_fact_37 0 rfl ?_
          refine C.getO fX6_9 dX6_fact_38 hS.o5 hS.r5_0 ?_
          refine C.bipush (nI 91) dX6_fact_41 (by decide) ?_
          refine C.callVI lX6_77 dX6_fact_43 (kw_isSign hS cT cR (c := 91) (by decide) (by decide) (by decide)) hS.o3 rfl rfl (by omega) (Nat.zero_le _) (Nat.zero_le _) (Nat.le_of_ble_eq_true rfl) (fun x43 μ43 h43 => ?_)
          obtain ⟨rfl, hμ⟩ := h43
          subst hμ
          refine C.if_eq 76 dX6_fact_46 rfl (fun hc46 => ?_) (fun hc46 => ?_)
          · refine C.aload_n dX6_fact_76 0 rfl ?_
            refine C.getO fX6_9 dX6_fact_77 hS.o5 hS.r5_0 ?_
            refine C.bipush (nI 30) dX6_fact_80 (by decide) ?_
            refine C.callVI lX6_58 dX6_fact_82 (kw_isWord cB cT cR (w := 30) (by decide)) hS.o3 rfl rfl (by omega) (Nat.zero_le _) (Nat.zero_le _) (Nat.le_of_ble_eq_true rfl) (fun x82 μ82 h82 => ?_)
            obtain ⟨rfl, hμ⟩ := h82
            subst hμ
            refine C.if_eq 104 dX6_fact_85 rfl (fun hc85 => ?_) (fun hc85 => ?_)
            · rw [hE] at hc85
              exact absurd hc85 (by decide)
            · refine C.aload_n dX6_fact_88 0 rfl ?_
              refine C.getO fX6_9 dX6_fact_89 hS.o5 hS.r5_0 ?_
              refine C.callVV lX6_64 dX6_fact_92 (kw_advW hS cT cR hs (s' := wAf (txL tp) tp.length t.2) rfl rfl rfl) hS.o3 rfl rfl (by omega) (Nat.zero_le _) (Nat.zero_le _) (Nat.le_of_ble_eq_true rfl) (fun μ92 h92 => ?_)
              have hc2 := hc.adv (s' := wAf (txL tp) tp.length t.2) (cP.waf hs) h92.1 h92.2
              have hS := hc2.1.1
              refine C.aload_n dX6_fact_95 0 rfl ?_
              refine C.iconst (nI 0) dX6_fact_96 (by decide) ?_
              refine C.iconst (nI 1) dX6_fact_97 (by decide) ?_
              refine C.callVV lX6_67 dX6_fact_98 (kf_put (n := 13) hS hc2.2.2.2.2.1 hc2.2.2.1 (st := 0) (nu := 1) (by decide) (by decide) (by decide)) hS.o5 rfl rfl (by omega) (Nat.zero_le _) (Nat.zero_le _) (Nat.le_of_ble_eq_true rfl) (fun μ98 h98 => ?_)
              refine C.goto 147 dX6_fact_101 rfl ?_
              refine C.vret hq dX6_fact_147 ?_
              exact hc2.put h98
          · rw [hB] at hc46
            exact absurd rfl hc46
        · rw [hA] at hc9
          exact absurd rfl hc9
      | false =>
        rw [hE, if_neg (by decide)] at hq
        refine C.aload_n dX6_fact_0 0 rfl ?_
        refine C.getO fX6_9 dX6_fact_1 hS.o5 hS.r5_0 ?_
        refine C.bipush (nI 29) dX6_fact_4 (by decide) ?_
        refine C.callVI lX6_58 dX6_fact_6 (kw_isWord cB cT cR (w := 29) (by decide)) hS.o3 rfl rfl (by omega) (Nat.zero_le _) (Nat.zero_le _) (Nat.le_of_ble_eq_true rfl) (fun x6 μ6 h6 => ?_)
        obtain ⟨rfl, hμ⟩ := h6
        subst hμ
        refine C.if_eq 37 dX6_fact_9 rfl (fun hc9 => ?_) (fun hc9 => ?_)
        · refine C.aload_n dX6_fact_37 0 rfl ?_
          refine C.getO fX6_9 dX6_fact_38 hS.o5 hS.r5_0 ?_
          refine C.bipush (nI 91) dX6_fact_41 (by decide) ?_
          refine C.callVI lX6_77 dX6_fact_43 (kw_isSign hS cT cR (c := 91) (by decide) (by decide) (by decide)) hS.o3 rfl rfl (by omega) (Nat.zero_le _) (Nat.zero_le _) (Nat.le_of_ble_eq_true rfl) (fun x43 μ43 h43 => ?_)
          obtain ⟨rfl, hμ⟩ := h43
          subst hμ
          refine C.if_eq 76 dX6_fact_46 rfl (fun hc46 => ?_) (fun hc46 => ?_)
          · refine C.aload_n dX6_fact_76 0 rfl ?_
            refine C.getO fX6_9 dX6_fact_77 hS.o5 hS.r5_0 ?_
            refine C.bipush (nI 30) dX6_fact_80 (by decide) ?_
            refine C.callVI lX6_58 dX6_fact_82 (kw_isWord cB cT cR (w := 30) (by decide)) hS.o3 rfl rfl (by omega) (Nat.zero_le _) (Nat.zero_le _) (Nat.le_of_ble_eq_true rfl) (fun x82 μ82 h82 => ?_)
            obtain ⟨rfl, hμ⟩ := h82
            subst hμ
            refine C.if_eq 104 dX6_fact_85 rfl (fun hc85 => ?_) (fun hc85 => ?_)
            · refine C.aload_n dX6_fact_104 0 rfl ?_
              refine C.iload_n dX6_fact_105 1 rfl ?_
              refine C.callVV lX6_23 dX6_fact_106 (hS' _ _ hc) hS.o5 rfl rfl (by omega) (Nat.zero_le _) (Nat.zero_le _) (Nat.le_of_ble_eq_true rfl) (fun μ106 h106 => ?_)
              exact m109 _ _ h106 hq
            · rw [hE] at hc85
              exact absurd rfl hc85
          · rw [hB] at hc46
            exact absurd rfl hc46
        · rw [hA] at hc9
          exact absurd rfl hc9
end KCM
