/-! the class: comparisons, facts -/
def cFact1 (tx : Nat → Nat) (e : Nat) (S : Pt → Pt) (o : Option (Pt → Pt)) (t : Pt) : Pt := if (mHere tx e t.2 (keyL.getD 29 [])).1 then cOp tx e o t (fun F => cPut (F (t.1, wAf tx e t.2)) 12) else if (mSign tx e t.2 (nI 91)).1 then cOp tx e o t (fun F => cNd tx e 93 (cEith tx e (cBoth tx e F) (t.1, (sk tx e t.2.1 + 1, t.2.2)))) else if (mHere tx e t.2 (keyL.getD 30 [])).1 then cPut (t.1, wAf tx e t.2) 13 else cCmp tx e (S t) S
section KCM
variable {l : Launch} {G : Gm} {μ0 : Mm} {tp : List Nat} {m : Nat}

theorem kf_comparison {S : Pt → Pt} {D op : Nat} (hD : 3 ≤ D) (hP : ∀ μ t, CP μ0 tp m t μ → AMet l G D 0 0 mtX6_sum [.ref (G.1 + 5), .int (nI op)] μ (qV (fun μ' => CP μ0 tp m (S t) μ'))) : ∀ μ t, CP μ0 tp m t μ → AMet l G (D + 1) 0 0 mtX6_comparison [.ref (G.1 + 5), .int (nI op)] μ (qV (fun μ' => CP μ0 tp m (cCmp (txL tp) tp.length (S t) S) μ')) := by
  intro μ t hc
  refine AMet.of (by decide) (Nat.le_of_ble_eq_true rfl) (fun X C hX hnm hq => ?_)
  have hS := hc.1.1
  have m5 : ∀ (u : Pt) (μ1 : Mm), CP μ0 tp m u μ1 → MR G X (qV (fun μ' => CP μ0 tp m (cCmp (txL tp) tp.length u S) μ')) → AW l G X 0 0 5 [(0, .ref (G.1 + 5)), (1, .int (nI op))] [] μ1 := by
    clear hq
    intro u μ1 hc hq
    have hS := hc.1.1
    obtain ⟨cB, cT, cR, cP, cH, cF⟩ := id hc
    unfold cCmp at hq
    cases hA : (mSign (txL tp) tp.length u.2 (nI 60)).1 with
    | true =>
      obtain ⟨hs, he⟩ := sign_has cT.by (c := 60) (by decide) (by decide) (by decide) hA
      rw [hA, if_pos rfl] at hq
      refine C.aload_n dX6_comparison_5 0 rfl ?_
      refine C.getO fX6_9 dX6_comparison_6 hS.o5 hS.r5_0 ?_
      refine C.bipush (nI 60) dX6_comparison_9 (by decide) ?_
      refine C.callVI lX6_77 dX6_comparison_11 (kw_isSign hS cT cR (c := 60) (by decide) (by decide) (by decide)) hS.o3 rfl rfl (by omega) (Nat.zero_le _) (Nat.zero_le _) (Nat.le_of_ble_eq_true rfl) (fun x11 μ11 h11 => ?_)
      obtain ⟨rfl, hμ⟩ := h11
      subst hμ
      refine C.if_eq 22 dX6_comparison_14 rfl (fun hc14 => ?_) (fun hc14 => ?_)
      · rw [hA] at hc14
        exact absurd hc14 (by decide)
      · refine C.bipush (nI 8) dX6_comparison_17 (by decide) ?_
        refine C.goto 41 dX6_comparison_19 rfl ?_
        refine C.istore_n (lv' := [(0, _), (1, _), (2, _)]) dX6_comparison_41 (nLt hX rfl) rfl ?_
        refine C.iload_n dX6_comparison_42 2 rfl ?_
        refine C.bipush (nI 10) dX6_comparison_43 (by decide) ?_
        refine C.icmp_ne 60 dX6_comparison_45 rfl (fun hc45 => ?_) (fun hc45 => ?_)
        · refine C.aload_n dX6_comparison_60 0 rfl ?_
          refine C.getO fX6_9 dX6_comparison_61 hS.o5 hS.r5_0 ?_
          refine C.callVV lX6_64 dX6_comparison_64 (kw_advS hS cT cR cP hs (s' := (sk (txL tp) tp.length u.2.1 + 1, u.2.2)) rfl rfl rfl) hS.o3 rfl rfl (by omega) (Nat.zero_le _) (Nat.zero_le _) (Nat.le_of_ble_eq_true rfl) (fun μ64 h64 => ?_)
          have hc2 := hc.adv (s' := (sk (txL tp) tp.length u.2.1 + 1, u.2.2)) (cP.sign hs) h64.1 h64.2
          have hS := hc2.1.1
          refine C.aload_n dX6_comparison_67 0 rfl ?_
          refine C.iload_n dX6_comparison_68 1 rfl ?_
          refine C.callVV lX6_23 dX6_comparison_69 (hP _ _ hc2) hS.o5 rfl rfl (by omega) (Nat.zero_le _) (Nat.zero_le _) (Nat.le_of_ble_eq_true rfl) (fun μ69 h69 => ?_)
          have hS := h69.1.1
          refine C.aload_n dX6_comparison_72 0 rfl ?_
          refine C.iload_n dX6_comparison_73 2 rfl ?_
          refine C.iconst (nI 0) dX6_comparison_74 (by decide) ?_
          refine C.callVV lX6_67 dX6_comparison_75 (kf_put (n := 7) hS h69.2.2.2.2.1 h69.2.2.1 (st := 8) (nu := 0) (by decide) (by decide) (by decide)) hS.o5 rfl rfl (by omega) (Nat.zero_le _) (Nat.zero_le _) (Nat.le_of_ble_eq_true rfl) (fun μ75 h75 => ?_)
          refine C.goto 88 dX6_comparison_78 rfl ?_
          refine C.vret hq dX6_comparison_88 ?_
          exact h69.put h75
        · exact absurd hc45 (by decide)
    | false =>
      rw [hA, if_neg (by decide)] at hq
      cases hB : (mSign (txL tp) tp.length u.2 (nI 62)).1 with
      | true =>
        obtain ⟨hs, he⟩ := sign_has cT.by (c := 62) (by decide) (by decide) (by decide) hB
        rw [hB, if_pos rfl] at hq
        refine C.aload_n dX6_comparison_5 0 rfl ?_
        refine C.getO fX6_9 dX6_comparison_6 hS.o5 hS.r5_0 ?_
        refine C.bipush (nI 60) dX6_comparison_9 (by decide) ?_
        refine C.callVI lX6_77 dX6_comparison_11 (kw_isSign hS cT cR (c := 60) (by decide) (by decide) (by decide)) hS.o3 rfl rfl (by omega) (Nat.zero_le _) (Nat.zero_le _) (Nat.le_of_ble_eq_true rfl) (fun x11 μ11 h11 => ?_)
        obtain ⟨rfl, hμ⟩ := h11
        subst hμ
        refine C.if_eq 22 dX6_comparison_14 rfl (fun hc14 => ?_) (fun hc14 => ?_)
        · refine C.aload_n dX6_comparison_22 0 rfl ?_
          refine C.getO fX6_9 dX6_comparison_23 hS.o5 hS.r5_0 ?_
          refine C.bipush (nI 62) dX6_comparison_26 (by decide) ?_
          refine C.callVI lX6_77 dX6_comparison_28 (kw_isSign hS cT cR (c := 62) (by decide) (by decide) (by decide)) hS.o3 rfl rfl (by omega) (Nat.zero_le _) (Nat.zero_le _) (Nat.le_of_ble_eq_true rfl) (fun x28 μ28 h28 => ?_)
          obtain ⟨rfl, hμ⟩ := h28
          subst hμ
          refine C.if_eq 39 dX6_comparison_31 rfl (fun hc31 => ?_) (fun hc31 => ?_)
          · rw [hB] at hc31
            exact absurd hc31 (by decide)
          · refine C.bipush (nI 9) dX6_comparison_34 (by decide) ?_
            refine C.goto 41 dX6_comparison_36 rfl ?_
            refine C.istore_n (lv' := [(0, _), (1, _), (2, _)]) dX6_comparison_41 (nLt hX rfl) rfl ?_
            refine C.iload_n dX6_comparison_42 2 rfl ?_
            refine C.bipush (nI 10) dX6_comparison_43 (by decide) ?_
            refine C.icmp_ne 60 dX6_comparison_45 rfl (fun hc45 => ?_) (fun hc45 => ?_)
            · refine C.aload_n dX6_comparison_60 0 rfl ?_
              refine C.getO fX6_9 dX6_comparison_61 hS.o5 hS.r5_0 ?_
              refine C.callVV lX6_64 dX6_comparison_64 (kw_advS hS cT cR cP hs (s' := (sk (txL tp) tp.length u.2.1 + 1, u.2.2)) rfl rfl rfl) hS.o3 rfl rfl (by omega) (Nat.zero_le _) (Nat.zero_le _) (Nat.le_of_ble_eq_true rfl) (fun μ64 h64 => ?_)
              have hc2 := hc.adv (s' := (sk (txL tp) tp.length u.2.1 + 1, u.2.2)) (cP.sign hs) h64.1 h64.2
              have hS := hc2.1.1
              refine C.aload_n dX6_comparison_67 0 rfl ?_
              refine C.iload_n dX6_comparison_68 1 rfl ?_
              refine C.callVV lX6_23 dX6_comparison_69 (hP _ _ hc2) hS.o5 rfl rfl (by omega) (Nat.zero_le _) (Nat.zero_le _) (Nat.le_of_ble_eq_true rfl) (fun μ69 h69 => ?_)
              have hS := h69.1.1
              refine C.aload_n dX6_comparison_72 0 rfl ?_
              refine C.iload_n dX6_comparison_73 2 rfl ?_
              refine C.iconst (nI 0) dX6_comparison_74 (by decide) ?_
              refine C.callVV lX6_67 dX6_comparison_75 (kf_put (n := 8) hS h69.2.2.2.2.1 h69.2.2.1 (st := 9) (nu := 0) (by decide) (by decide) (by decide)) hS.o5 rfl rfl (by omega) (Nat.zero_le _) (Nat.zero_le _) (Nat.le_of_ble_eq_true rfl) (fun μ75 h75 => ?_)
              refine C.goto 88 dX6_comparison_78 rfl ?_
              refine C.vret hq dX6_comparison_88 ?_
              exact h69.put h75
            · exact absurd hc45 (by decide)
        · rw [hA] at hc14
          exact absurd rfl hc14
      | false =>
        rw [hB, if_neg (by decide)] at hq
        cases hE : (mSign (txL tp) tp.length u.2 (nI 61)).1 with
        | true =>
          obtain ⟨hs, he⟩ := sign_has cT.by (c := 61) (by decide) (by decide) (by decide) hE
          rw [hE, if_pos rfl] at hq
          refine C.aload_n dX6_comparison_5 0 rfl ?_
          refine C.getO fX6_9 dX6_comparison_6 hS.o5 hS.r5_0 ?_
          refine C.bipush (nI 60) dX6_comparison_9 (by decide) ?_
          refine C.callVI lX6_77 dX6_comparison_11 (kw_isSign hS cT cR (c := 60) (by decide) (by decide) (by decide)) hS.o3 rfl rfl (by omega) (Nat.zero_le _) (Nat.zero_le _) (Nat.le_of_ble_eq_true rfl) (fun x11 μ11 h11 => ?_)
          obtain ⟨rfl, hμ⟩ := h11
          subst hμ
          refine C.if_eq 22 dX6_comparison_14 rfl (fun hc14 => ?_) (fun hc14 => ?_)
          · refine C.aload_n dX6_comparison_22 0 rfl ?_
            refine C.getO fX6_9 dX6_comparison_23 hS.o5 hS.r5_0 ?_
            refine C.bipush (nI 62) dX6_comparison_26 (by decide) ?_
            refine C.callVI lX6_77 dX6_comparison_28 (kw_isSign hS cT cR (c := 62) (by decide) (by decide) (by decide)) hS.o3 rfl rfl (by omega) (Nat.zero_le _) (Nat.zero_le _) (Nat.le_of_ble_eq_true rfl) (fun x28 μ28 h28 => ?_)
            obtain ⟨rfl, hμ⟩ := h28
            subst hμ
            refine C.if_eq 39 dX6_comparison_31 rfl (fun hc31 => ?_) (fun hc31 => ?_)
            · refine C.bipush (nI 10) dX6_comparison_39 (by decide) ?_
              refine C.istore_n (lv' := [(0, _), (1, _), (2, _)]) dX6_comparison_41 (nLt hX rfl) rfl ?_
              refine C.iload_n dX6_comparison_42 2 rfl ?_
              refine C.bipush (nI 10) dX6_comparison_43 (by decide) ?_
              refine C.icmp_ne 60 dX6_comparison_45 rfl (fun hc45 => ?_) (fun hc45 => ?_)
              · exact absurd rfl hc45
              · refine C.aload_n dX6_comparison_48 0 rfl ?_
                refine C.getO fX6_9 dX6_comparison_49 hS.o5 hS.r5_0 ?_
                refine C.bipush (nI 61) dX6_comparison_52 (by decide) ?_
                refine C.callVI lX6_77 dX6_comparison_54 (kw_isSign hS cT cR (c := 61) (by decide) (by decide) (by decide)) hS.o3 rfl rfl (by omega) (Nat.zero_le _) (Nat.zero_le _) (Nat.le_of_ble_eq_true rfl) (fun x54 μ54 h54 => ?_)
                obtain ⟨rfl, hμ⟩ := h54
                subst hμ
                refine C.if_eq 81 dX6_comparison_57 rfl (fun hc57 => ?_) (fun hc57 => ?_)
                · rw [hE] at hc57
                  exact absurd hc57 (by decide)
                · refine C.aload_n dX6_comparison_60 0 rfl ?_
                  refine C.getO fX6_9 dX6_comparison_61 hS.o5 hS.r5_0 ?_
                  refine C.callVV lX6_64 dX6_comparison_64 (kw_advS hS cT cR cP hs (s' := (sk (txL tp) tp.length u.2.1 + 1, u.2.2)) rfl rfl rfl) hS.o3 rfl rfl (by omega) (Nat.zero_le _) (Nat.zero_le _) (Nat.le_of_ble_eq_true rfl) (fun μ64 h64 => ?_)
                  have hc2 := hc.adv (s' := (sk (txL tp) tp.length u.2.1 + 1, u.2.2)) (cP.sign hs) h64.1 h64.2
                  have hS := hc2.1.1
                  refine C.aload_n dX6_comparison_67 0 rfl ?_
                  refine C.iload_n dX6_comparison_68 1 rfl ?_
                  refine C.callVV lX6_23 dX6_comparison_69 (hP _ _ hc2) hS.o5 rfl rfl (by omega) (Nat.zero_le _) (Nat.zero_le _) (Nat.le_of_ble_eq_true rfl) (fun μ69 h69 => ?_)
                  have hS := h69.1.1
                  refine C.aload_n dX6_comparison_72 0 rfl ?_
                  refine C.iload_n dX6_comparison_73 2 rfl ?_
                  refine C.iconst (nI 0) dX6_comparison_74 (by decide) ?_
                  refine C.callVV lX6_67 dX6_comparison_75 (kf_put (n := 9) hS h69.2.2.2.2.1 h69.2.2.1 (st := 10) (nu := 0) (by decide) (by decide) (by decide)) hS.o5 rfl rfl (by omega) (Nat.zero_le _) (Nat.zero_le _) (Nat.le_of_ble_eq_true rfl) (fun μ75 h75 => ?_)
                  refine C.goto 88 dX6_comparison_78 rfl ?_
                  refine C.vret hq dX6_comparison_88 ?_
                  exact h69.put h75
            · rw [hB] at hc31
              exact absurd rfl hc31
          · rw [hA] at hc14
            exact absurd rfl hc14
        | false =>
          rw [hE, if_neg (by decide)] at hq
          refine C.aload_n dX6_comparison_5 0 rfl ?_
          refine C.getO fX6_9 dX6_comparison_6 hS.o5 hS.r5_0 ?_
          refine C.bipush (nI 60) dX6_comparison_9 (by decide) ?_
          refine C.callVI lX6_77 dX6_comparison_11 (kw_isSign hS cT cR (c := 60) (by decide) (by decide) (by decide)) hS.o3 rfl rfl (by omega) (Nat.zero_le _) (Nat.zero_le _) (Nat.le_of_ble_eq_true rfl) (fun x11 μ11 h11 => ?_)
          obtain ⟨rfl, hμ⟩ := h11
          subst hμ
          refine C.if_eq 22 dX6_comparison_14 rfl (fun hc14 => ?_) (fun hc14 => ?_)
          · refine C.aload_n dX6_comparison_22 0 rfl ?_
            refine C.getO fX6_9 dX6_comparison_23 hS.o5 hS.r5_0 ?_
            refine C.bipush (nI 62) dX6_comparison_26 (by decide) ?_
            refine C.callVI lX6_77 dX6_comparison_28 (kw_isSign hS cT cR (c := 62) (by decide) (by decide) (by decide)) hS.o3 rfl rfl (by omega) (Nat.zero_le _) (Nat.zero_le _) (Nat.le_of_ble_eq_true rfl) (fun x28 μ28 h28 => ?_)
            obtain ⟨rfl, hμ⟩ := h28
            subst hμ
            refine C.if_eq 39 dX6_comparison_31 rfl (fun hc31 => ?_) (fun hc31 => ?_)
            · refine C.bipush (nI 10) dX6_comparison_39 (by decide) ?_
              refine C.istore_n (lv' := [(0, _), (1, _), (2, _)]) dX6_comparison_41 (nLt hX rfl) rfl ?_
              refine C.iload_n dX6_comparison_42 2 rfl ?_
              refine C.bipush (nI 10) dX6_comparison_43 (by decide) ?_
              refine C.icmp_ne 60 dX6_comparison_45 rfl (fun hc45 => ?_) (fun hc45 => ?_)
              · exact absurd rfl hc45
              · refine C.aload_n dX6_comparison_48 0 rfl ?_
                refine C.getO fX6_9 dX6_comparison_49 hS.o5 hS.r5_0 ?_
                refine C.bipush (nI 61) dX6_comparison_52 (by decide) ?_
                refine C.callVI lX6_77 dX6_comparison_54 (kw_isSign hS cT cR (c := 61) (by decide) (by decide) (by decide)) hS.o3 rfl rfl (by omega) (Nat.zero_le _) (Nat.zero_le _) (Nat.le_of_ble_eq_true rfl) (fun x54 μ54 h54 => ?_)
                obtain ⟨rfl, hμ⟩ := h54
                subst hμ
                refine C.if_eq 81 dX6_comparison_57 rfl (fun hc57 => ?_) (fun hc57 => ?_)
                · refine C.aload_n dX6_comparison_81 0 rfl ?_
                  refine C.getO fX6_9 dX6_comparison_82 hS.o5 hS.r5_0 ?_
                  refine C.callVV lX6_86 dX6_comparison_85 (kw_failHere hS cR) hS.o3 rfl rfl (by omega) (Nat.zero_le _) (Nat.zero_le _) (Nat.le_of_ble_eq_true rfl) (fun μ85 h85 => ?_)
                  refine C.vret hq dX6_comparison_88 ?_
                  exact hc.fail (by decide) h85
                · rw [hE] at hc57
                  exact absurd rfl hc57
            · rw [hB] at hc31
              exact absurd rfl hc31
          · rw [hA] at hc14
            exact absurd rfl hc14
  refine C.aload_n dX6_comparison_0 0 rfl ?_
  refine C.iload_n dX6_comparison_1 1 rfl ?_
  refine C.callVV lX6_23 dX6_comparison_2 (hP _ _ hc) hS.o5 rfl rfl (by omega) (Nat.zero_le _) (Nat.zero_le _) (Nat.le_of_ble_eq_true rfl) (fun μ2 h2 => ?_)
  exact m5 _ _ h2 hq
theorem kf_fact {S : Pt → Pt} {o : Option (Pt → Pt)} {D op : Nat} (hD : 3 ≤ D) (hop : op ≤ 6) (hN : o = none → op = 6) (hS' : ∀ μ t, CP μ0 tp m t μ → AMet l G (D + 2) 0 0 mtX6_sum [.ref (G.1 + 5), .int (nI op)] μ (qV (fun μ' => CP μ0 tp m (S t) μ'))) (hP : ∀ F, o = some F → op < 6 ∧ ∀ μ t, CP μ0 tp m t μ → AMet l G D 0 0 mtX6_fact [.ref (G.1 + 5), .int (nI (op + 1))] μ (qV (fun μ' => CP μ0 tp m (F t) μ'))) : ∀ μ t, CP μ0 tp m t μ → AMet l G (D + 4) 0 0 mtX6_fact [.ref (G.1 + 5), .int (nI op)] μ (qV (fun μ' => CP μ0 tp m (cFact1 (txL tp) tp.length S o t) μ')) := by
  intro μ t hc
  refine AMet.of (by decide) (Nat.le_of_ble_eq_true rfl) (fun X C hX hnm hq => ?_)
  have hS := hc.1.1
  obtain ⟨cB, cT, cR, cP, cH, cF⟩ := id hc
  unfold cFact1 at hq
  cases hA : (mHere (txL tp) tp.length t.2 (keyL.getD 29 [])).1 with
  | true =>
    obtain ⟨hs, he⟩ := here_has hA
    rw [hA, if_pos rfl] at hq
    unfold cOp at hq
    cases o with
    | none =>
      have h6 := hN rfl
      subst h6
      dsimp only at hq
      refine C.aload_n dX6_fact_0 0 rfl ?_
      refine C.getO fX6_9 dX6_fact_1 hS.o5 hS.r5_0 ?_
      refine C.bipush (nI 29) dX6_fact_4 (by decide) ?_
      refine C.callVI lX6_58 dX6_fact_6 (kw_isWord cB cT cR (w := 29) (by decide)) hS.o3 rfl rfl (by omega) (Nat.zero_le _) (Nat.zero_le _) (Nat.le_of_ble_eq_true rfl) (fun x6 μ6 h6 => ?_)
      obtain ⟨rfl, hμ⟩ := h6
      subst hμ
      refine C.if_eq 37 dX6_fact_9 rfl (fun hc9 => ?_) (fun hc9 => ?_)
      · rw [hA] at hc9
        exact absurd hc9 (by decide)
      · refine C.aload_n dX6_fact_12 0 rfl ?_
        refine C.iload_n dX6_fact_13 1 rfl ?_
        refine C.callVI lX6_74 dX6_fact_14 (kf_opens hS cR hs.1 (kw_advW hS cT cR hs (s' := wAf (txL tp) tp.length t.2) rfl rfl rfl) (op := 6) (by decide)) hS.o5 rfl rfl (by omega) (Nat.zero_le _) (Nat.zero_le _) (Nat.le_of_ble_eq_true rfl) (fun x14 μ14 h14 => ?_)
        obtain ⟨rfl, hz⟩ := h14
        rw [if_neg (by decide)] at hz
        refine C.if_eq 109 dX6_fact_17 rfl (fun hc17 => ?_) (fun hc17 => ?_)
        · refine C.vret hq dX6_fact_109 ?_
          exact hc.fail (by decide) hz
        · exact absurd rfl hc17
    | some F =>
      obtain ⟨hlt, hP⟩ := hP F rfl
      dsimp only at hq
      refine C.aload_n dX6_fact_0 0 rfl ?_
      refine C.getO fX6_9 dX6_fact_1 hS.o5 hS.r5_0 ?_
      refine C.bipush (nI 29) dX6_fact_4 (by decide) ?_
      refine C.callVI lX6_58 dX6_fact_6 (kw_isWord cB cT cR (w := 29) (by decide)) hS.o3 rfl rfl (by omega) (Nat.zero_le _) (Nat.zero_le _) (Nat.le_of_ble_eq_true rfl) (fun x6 μ6 h6 => ?_)
      obtain ⟨rfl, hμ⟩ := h6
      subst hμ
      refine C.if_eq 37 dX6_fact_9 rfl (fun hc9 => ?_) (fun hc9 => ?_)
      · rw [hA] at hc9
        exact absurd hc9 (by decide)
      · refine C.aload_n dX6_fact_12 0 rfl ?_
        refine C.iload_n dX6_fact_13 1 rfl ?_
        refine C.callVI lX6_74 dX6_fact_14 (kf_opens hS cR hs.1 (kw_advW hS cT cR hs (s' := wAf (txL tp) tp.length t.2) rfl rfl rfl) (op := op) hop) hS.o5 rfl rfl (by omega) (Nat.zero_le _) (Nat.zero_le _) (Nat.le_of_ble_eq_true rfl) (fun x14 μ14 h14 => ?_)
        obtain ⟨rfl, hz⟩ := h14
        rw [if_pos hlt] at hz
        rw [decide_eq_true hlt]
        have hc2 := hc.adv (s' := wAf (txL tp) tp.length t.2) (cP.waf hs) hz.1 hz.2
        have hS := hc2.1.1
        refine C.if_eq 109 dX6_fact_17 rfl (fun hc17 => ?_) (fun hc17 => ?_)
        · exact absurd hc17 (by decide)
        · refine C.aload_n dX6_fact_20 0 rfl ?_
          refine C.iload_n dX6_fact_21 1 rfl ?_
          refine C.iconst (nI 1) dX6_fact_22 (by decide) ?_
          refine C.iadd dX6_fact_23 ?_
          rw [nI_add]
          refine C.callVV lX6_71 dX6_fact_24 (hP _ _ hc2) hS.o5 rfl rfl (by omega) (Nat.zero_le _) (Nat.zero_le _) (Nat.le_of_ble_eq_true rfl) (fun μ24 h24 => ?_)
          have hS := h24.1.1
          refine C.aload_n dX6_fact_27 0 rfl ?_
          refine C.bipush (nI 13) dX6_fact_28 (by decide) ?_
          refine C.iconst (nI 0) dX6_fact_30 (by decide) ?_
          refine C.callVV lX6_67 dX6_fact_31 (kf_put (n := 12) hS h24.2.2.2.2.1 h24.2.2.1 (st := 13) (nu := 0) (by decide) (by decide) (by decide)) hS.o5 rfl rfl (by omega) (Nat.zero_le _) (Nat.zero_le _) (Nat.le_of_ble_eq_true rfl) (fun μ31 h31 => ?_)
          refine C.goto 109 dX6_fact_34 rfl ?_
          refine C.vret hq dX6_fact_109 ?_
          exact h24.put h31
  | false =>
    rw [hA, if_neg (by decide)] at hq
    cases hB : (mSign (txL tp) tp.length t.2 (nI 91)).1 with
    | true =>
      obtain ⟨hs, he⟩ := sign_has cT.by (c := 91) (by decide) (by decide) (by decide) hB
      rw [hB, if_pos rfl] at hq
      unfold cOp at hq
      cases o with
      | none =>
        have h6 := hN rfl
        subst h6
        dsimp only at hq
        refine C.aload_n dX6_fact_0 0 rfl ?_
        refine C.getO fX6_9 dX6_fact_1 hS.o5 hS.r5_0 ?_
        refine C.bipush (nI 29) dX6_fact_4 (by decide) ?_
        refine C.callVI lX6_58 dX6_fact_6 (kw_isWord cB cT cR (w := 29) (by decide)) hS.o3 rfl rfl (by omega) (Nat.zero_le _) (Nat.zero_le _) (Nat.le_of_ble_eq_true rfl) (fun x6 μ6 h6 => ?_)
        obtain ⟨rfl, hμ⟩ := h6
        subst hμ
        refine C.if_eq 37 dX6_fact_9 rfl (fun hc9 => ?_) (fun hc9 => ?_)
        · refine C.aload_n dX6_fact_37 0 rfl ?_
          refine C.getO fX6_9 dX6_fact_38 hS.o5 hS.r5_0 ?_
          refine C.bipush (nI 91) dX6_fact_41 (by decide) ?_
          refine C.callVI lX6_77 dX6_fact_43 (kw_isSign hS cT cR (c := 91) (by decide) (by decide) (by decide)) hS.o3 rfl rfl (by omega) (Nat.zero_le _) (Nat.zero_le _) (Nat.le_of_ble_eq_true rfl) (fun x43 μ43 h43 => ?_)
          obtain ⟨rfl, hμ⟩ := h43
          subst hμ
          refine C.if_eq 76 dX6_fact_46 rfl (fun hc46 => ?_) (fun hc46 => ?_)
          · rw [hB] at hc46
            exact absurd hc46 (by decide)
          · refine C.aload_n dX6_fact_49 0 rfl ?_
            refine C.iload_n dX6_fact_50 1 rfl ?_
            refine C.callVI lX6_74 dX6_fact_51 (kf_opens hS cR hs.1 (kw_advS hS cT cR cP hs (s' := (sk (txL tp) tp.length t.2.1 + 1, t.2.2)) rfl rfl rfl) (op := 6) (by decide)) hS.o5 rfl rfl (by omega) (Nat.zero_le _) (Nat.zero_le _) (Nat.le_of_ble_eq_true rfl) (fun x51 μ51 h51 => ?_)
            obtain ⟨rfl, hz⟩ := h51
            rw [if_neg (by decide)] at hz
            refine C.if_eq 109 dX6_fact_54 rfl (fun hc54 => ?_) (fun hc54 => ?_)
            · refine C.vret hq dX6_fact_109 ?_
              exact hc.fail (by decide) hz
            · exact absurd rfl hc54
        · rw [hA] at hc9
          exact absurd rfl hc9
      | some F =>
        obtain ⟨hlt, hP⟩ := hP F rfl
        have hT := kf_test (l := l) (G := G) (by omega) (kf_both (by omega) hP)
        dsimp only at hq
        refine C.aload_n dX6_fact_0 0 rfl ?_
        refine C.getO fX6_9 dX6_fact_1 hS.o5 hS.r5_0 ?_
        refine C.bipush (nI 29) dX6_fact_4 (by decide) ?_
        refine C.callVI lX6_58 dX6_fact_6 (kw_isWord cB cT cR (w := 29) (by decide)) hS.o3 rfl rfl (by omega) (Nat.zero_le _) (Nat.zero_le _) (Nat.le_of_ble_eq_true rfl) (fun x6 μ6 h6 => ?_)
        obtain ⟨rfl, hμ⟩ := h6
        subst hμ
        refine C.if_eq 37 dX6_fact_9 rfl (fun hc9 => ?_) (fun hc9 => ?_)
        · refine C.aload_n dX6_fact_37 0 rfl ?_
          refine C.getO fX6_9 dX6_fact_38 hS.o5 hS.r5_0 ?_
          refine C.bipush (nI 91) dX6_fact_41 (by decide) ?_
          refine C.callVI lX6_77 dX6_fact_43 (kw_isSign hS cT cR (c := 91) (by decide) (by decide) (by decide)) hS.o3 rfl rfl (by omega) (Nat.zero_le _) (Nat.zero_le _) (Nat.le_of_ble_eq_true rfl) (fun x43 μ43 h43 => ?_)
          obtain ⟨rfl, hμ⟩ := h43
          subst hμ
          refine C.if_eq 76 dX6_fact_46 rfl (fun hc46 => ?_) (fun hc46 => ?_)
          · rw [hB] at hc46
            exact absurd hc46 (by decide)
          · refine C.aload_n dX6_fact_49 0 rfl ?_
            refine C.iload_n dX6_fact_50 1 rfl ?_
            refine C.callVI lX6_74 dX6_fact_51 (kf_opens hS cR hs.1 (kw_advS hS cT cR cP hs (s' := (sk (txL tp) tp.length t.2.1 + 1, t.2.2)) rfl rfl rfl) (op := op) hop) hS.o5 rfl rfl (by omega) (Nat.zero_le _) (Nat.zero_le _) (Nat.le_of_ble_eq_true rfl) (fun x51 μ51 h51 => ?_)
            obtain ⟨rfl, hz⟩ := h51
            rw [if_pos hlt] at hz
            rw [decide_eq_true hlt]
            have hc2 := hc.adv (s' := (sk (txL tp) tp.length t.2.1 + 1, t.2.2)) (cP.sign hs) hz.1 hz.2
            have hS := hc2.1.1
            refine C.if_eq 109 dX6_fact_54 rfl (fun hc54 => ?_) (fun hc54 => ?_)
            · exact absurd hc54 (by decide)
            · refine C.aload_n dX6_fact_57 0 rfl ?_
              refine C.iload_n dX6_fact_58 1 rfl ?_
              refine C.iconst (nI 1) dX6_fact_59 (by decide) ?_
              refine C.iadd dX6_fact_60 ?_
              rw [nI_add]
              refine C.callVV lX6_30 dX6_fact_61 (hT _ _ hc2) hS.o5 rfl rfl (by omega) (Nat.zero_le _) (Nat.zero_le _) (Nat.le_of_ble_eq_true rfl) (fun μ61 h61 => ?_)
              have hS := h61.1.1
              refine C.aload_n dX6_fact_64 0 rfl ?_
              refine C.getO fX6_9 dX6_fact_65 hS.o5 hS.r5_0 ?_
              refine C.bipush (nI 93) dX6_fact_68 (by decide) ?_
              refine C.callVV lX6_80 dX6_fact_70 (kw_needSign hS h61.2.1 h61.2.2.1 h61.2.2.2.1 (c := 93) (by decide) (by decide) (by decide)) hS.o3 rfl rfl (by omega) (Nat.zero_le _) (Nat.zero_le _) (Nat.le_of_ble_eq_true rfl) (fun μ70 h70 => ?_)
              refine C.goto 109 dX6_fact_73 rfl ?_
              refine C.vret hq dX6_fact_109 ?_
              exact h61.ask (c := 93) (by decide) (by decide) (by decide) h70
        · rw [hA] at hc9
          exact absurd rfl hc9
    | false =>
      rw [hB, if_neg (by decide)] at hq
      cases hE : (mHere (txL tp) tp.length t.2 (keyL.getD 30 [])).1 with
      | true =>
        obtain ⟨hs, he⟩ := here_has hE
        rw [hE, if_pos rfl] at hq
        refine C.aload_n dX6_fact_0 0 rfl ?_
        refine C.getO fX6_9 dX6_fact_1 hS.o5 hS.r5_0 ?_
        refine C.bipush (nI 29) dX6_fact_4 (by decide) ?_
        refine C.callVI lX6_58 dX6_fact_6 (kw_isWord cB cT cR (w := 29) (by decide)) hS.o3 rfl rfl (by omega) (Nat.zero_le _) (Nat.zero_le _) (Nat.le_of_ble_eq_true rfl) (fun x6 μ6 h6 => ?_)
        obtain ⟨rfl, hμ⟩ := h6
        subst hμ
        refine C.if_eq 37 dX6_fact_9 rfl (fun hc9 => ?_) (fun hc9 => ?_)
        · refine C.aload_n dX6_fact_37 0 rfl ?_
          refine C.getO fX6_9 dX6_fact_38 hS.o5 hS.r5_0 ?_
          refine C.bipush (nI 91) dX6_fact_41 (by decide) ?_
          refine C.callVI lX6_77 dX6_fact_43 (kw_isSign hS cT cR (c := 91) (by decide) (by decide) (by decide)) hS.o3 rfl rfl (by omega) (Nat.zero_le _) (Nat.zero_le _) (Nat.le_of_ble_eq_true rfl) (fun x43 μ43 h43 => ?_)
          obtain ⟨rfl, hμ⟩ := h43
          subst hμ
          refine C.if_eq 76 dX6_fact_46 rfl (fun hc46 => ?_) (fun hc46 => ?_)
          · refine C.aload_n dX6_fact_76 0 rfl ?_
            refine C.getO fX6_9 dX6_fact_77 hS.o5 hS.r5_0 ?_
            refine C.bipush (nI 30) dX6_fact_80 (by decide) ?_
            refine C.callVI lX6_58 dX6_fact_82 (kw_isWord cB cT cR (w := 30) (by decide)) hS.o3 rfl rfl (by omega) (Nat.zero_le _) (Nat.zero_le _) (Nat.le_of_ble_eq_true rfl) (fun x82 μ82 h82 => ?_)
            obtain ⟨rfl, hμ⟩ := h82
            subst hμ
            refine C.if_eq 104 dX6_fact_85 rfl (fun hc85 => ?_) (fun hc85 => ?_)
            · rw [hE] at hc85
              exact absurd hc85 (by decide)
            · refine C.aload_n dX6_fact_88 0 rfl ?_
              refine C.getO fX6_9 dX6_fact_89 hS.o5 hS.r5_0 ?_
              refine C.callVV lX6_64 dX6_fact_92 (kw_advW hS cT cR hs (s' := wAf (txL tp) tp.length t.2) rfl rfl rfl) hS.o3 rfl rfl (by omega) (Nat.zero_le _) (Nat.zero_le _) (Nat.le_of_ble_eq_true rfl) (fun μ92 h92 => ?_)
              have hc2 := hc.adv (s' := wAf (txL tp) tp.length t.2) (cP.waf hs) h92.1 h92.2
              have hS := hc2.1.1
              refine C.aload_n dX6_fact_95 0 rfl ?_
              refine C.iconst (nI 0) dX6_fact_96 (by decide) ?_
              refine C.iconst (nI 1) dX6_fact_97 (by decide) ?_
              refine C.callVV lX6_67 dX6_fact_98 (kf_put (n := 13) hS hc2.2.2.2.2.1 hc2.2.2.1 (st := 0) (nu := 1) (by decide) (by decide) (by decide)) hS.o5 rfl rfl (by omega) (Nat.zero_le _) (Nat.zero_le _) (Nat.le_of_ble_eq_true rfl) (fun μ98 h98 => ?_)
              refine C.goto 109 dX6_fact_101 rfl ?_
              refine C.vret hq dX6_fact_109 ?_
              exact hc2.put h98
          · rw [hB] at hc46
            exact absurd rfl hc46
        · rw [hA] at hc9
          exact absurd rfl hc9
      | false =>
        rw [hE, if_neg (by decide)] at hq
        refine C.aload_n dX6_fact_0 0 rfl ?_
        refine C.getO fX6_9 dX6_fact_1 hS.o5 hS.r5_0 ?_
        refine C.bipush (nI 29) dX6_fact_4 (by decide) ?_
        refine C.callVI lX6_58 dX6_fact_6 (kw_isWord cB cT cR (w := 29) (by decide)) hS.o3 rfl rfl (by omega) (Nat.zero_le _) (Nat.zero_le _) (Nat.le_of_ble_eq_true rfl) (fun x6 μ6 h6 => ?_)
        obtain ⟨rfl, hμ⟩ := h6
        subst hμ
        refine C.if_eq 37 dX6_fact_9 rfl (fun hc9 => ?_) (fun hc9 => ?_)
        · refine C.aload_n dX6_fact_37 0 rfl ?_
          refine C.getO fX6_9 dX6_fact_38 hS.o5 hS.r5_0 ?_
          refine C.bipush (nI 91) dX6_fact_41 (by decide) ?_
          refine C.callVI lX6_77 dX6_fact_43 (kw_isSign hS cT cR (c := 91) (by decide) (by decide) (by decide)) hS.o3 rfl rfl (by omega) (Nat.zero_le _) (Nat.zero_le _) (Nat.le_of_ble_eq_true rfl) (fun x43 μ43 h43 => ?_)
          obtain ⟨rfl, hμ⟩ := h43
          subst hμ
          refine C.if_eq 76 dX6_fact_46 rfl (fun hc46 => ?_) (fun hc46 => ?_)
          · refine C.aload_n dX6_fact_76 0 rfl ?_
            refine C.getO fX6_9 dX6_fact_77 hS.o5 hS.r5_0 ?_
            refine C.bipush (nI 30) dX6_fact_80 (by decide) ?_
            refine C.callVI lX6_58 dX6_fact_82 (kw_isWord cB cT cR (w := 30) (by decide)) hS.o3 rfl rfl (by omega) (Nat.zero_le _) (Nat.zero_le _) (Nat.le_of_ble_eq_true rfl) (fun x82 μ82 h82 => ?_)
            obtain ⟨rfl, hμ⟩ := h82
            subst hμ
            refine C.if_eq 104 dX6_fact_85 rfl (fun hc85 => ?_) (fun hc85 => ?_)
            · refine C.aload_n dX6_fact_104 0 rfl ?_
              refine C.iload_n dX6_fact_105 1 rfl ?_
              refine C.callVV lX6_83 dX6_fact_106 (kf_comparison (by omega) hS' _ _ hc) hS.o5 rfl rfl (by omega) (Nat.zero_le _) (Nat.zero_le _) (Nat.le_of_ble_eq_true rfl) (fun μ106 h106 => ?_)
              refine C.vret hq dX6_fact_109 ?_
              exact h106
            · rw [hE] at hc85
              exact absurd rfl hc85
          · rw [hB] at hc46
            exact absurd rfl hc46
        · rw [hA] at hc9
          exact absurd rfl hc9
end KCM
