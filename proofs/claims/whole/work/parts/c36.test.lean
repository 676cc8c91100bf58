/-! the class: levels of parts; both, either -/
def cPt (tx : Nat → Nat) (e m : Nat) : Nat → Pt → Pt
  | 0 => cPart1 tx e m none
  | n + 1 => cPart1 tx e m (some (cPt tx e m n))
def cWd (w x : Nat) (tx : Nat → Nat) (e : Nat) (s : Ps) : Option (Nat × Ps) := if (mHere tx e s (keyL.getD w [])).1 then some (x, wAf tx e s) else none
def cBoth (tx : Nat → Nat) (e : Nat) (P : Pt → Pt) (t : Pt) : Pt := cLoop (cWd 28 10 tx e) P 1600 (P t)
def cEith (tx : Nat → Nat) (e : Nat) (P : Pt → Pt) (t : Pt) : Pt := cLoop (cWd 27 11 tx e) P 1600 (P t)
def cCmp (tx : Nat → Nat) (e : Nat) (u : Pt) (S : Pt → Pt) : Pt := if (mSign tx e u.2 (nI 60)).1 then cPut (S (u.1, (sk tx e u.2.1 + 1, u.2.2))) 7 else if (mSign tx e u.2 (nI 62)).1 then cPut (S (u.1, (sk tx e u.2.1 + 1, u.2.2))) 8 else if (mSign tx e u.2 (nI 61)).1 then cPut (S (u.1, (sk tx e u.2.1 + 1, u.2.2))) 9 else (u.1, mFail u.2 (nI 1) (nI (sk tx e u.2.1)))
section KLV
variable {l : Launch} {G : Gm} {μ0 : Mm} {tp : List Nat} {m : Nat}
theorem kf_partN (hm : m < 1024) : ∀ n, n ≤ 6 → ∀ μ t, CP μ0 tp m t μ → AMet l G (7 + 4 * n) 0 0 mtX6_part [.ref (G.1 + 5), .int (nI (6 - n))] μ (qV (fun μ' => CP μ0 tp m (cPt (txL tp) tp.length m n t) μ'))
  | 0, _ => kf_part (D := 3) hm (by omega) (Nat.le_refl 6) (fun _ => rfl) (fun P z => by cases z)
  | n + 1, hn => by
    have ih := kf_partN hm n (by omega)
    have h := kf_part (l := l) (G := G) (μ0 := μ0) (tp := tp) (o := some (cPt (txL tp) tp.length m n)) (D := 7 + 4 * n) (op := 6 - (n + 1)) hm (by omega) (by omega) (fun z => by cases z) (fun P z => by
      injection z with z
      subst z
      refine ⟨by omega, ?_⟩
      rw [show 6 - (n + 1) + 1 = 6 - n by omega]
      exact ih)
    exact h
theorem kf_sumN (hm : m < 1024) {n : Nat} (hn : n ≤ 6) : ∀ μ t, CP μ0 tp m t μ → AMet l G (9 + 4 * n) 0 0 mtX6_sum [.ref (G.1 + 5), .int (nI (6 - n))] μ (qV (fun μ' => CP μ0 tp m (cSums (txL tp) tp.length (cPt (txL tp) tp.length m n) t) μ')) := by
  have h := kf_sum (l := l) (G := G) (op := 6 - n) (D := 7 + 4 * n + 1) (by omega) (kf_product (by omega) (kf_partN (l := l) (G := G) (μ0 := μ0) (tp := tp) hm n hn))
  rw [show 7 + 4 * n + 1 + 1 = 9 + 4 * n by omega] at h
  exact h

theorem kf_both {P : Pt → Pt} {D op : Nat} (hD : 3 ≤ D) (hP : ∀ μ t, CP μ0 tp m t μ → AMet l G D 0 0 mtX6_fact [.ref (G.1 + 5), .int (nI op)] μ (qV (fun μ' => CP μ0 tp m (P t) μ'))) : ∀ μ t, CP μ0 tp m t μ → AMet l G (D + 1) 0 0 mtX6_both [.ref (G.1 + 5), .int (nI op)] μ (qV (fun μ' => CP μ0 tp m (cBoth (txL tp) tp.length P t) μ')) := by
  intro μ t hc
  refine AMet.of (by decide) (Nat.le_of_ble_eq_true rfl) (fun X C hX hnm hq => ?_)
  unfold cBoth at hq
  have hS := hc.1.1
  have loop : ∀ (K : Pt), MR G X (qV (fun μ' => CP μ0 tp m K μ')) → ∀ (j k : Nat) (t1 : Pt) (μ1 : Mm), k + j = 1600 → CP μ0 tp m t1 μ1 → cLoop (cWd 28 10 (txL tp) tp.length) P j t1 = K → AW l G X 0 0 7 [(0, .ref (G.1 + 5)), (1, .int (nI op)), (2, .int (nI k))] [] μ1 := by
    clear hq
    intro K hq j
    induction j with
    | zero =>
      intro k t1 μ1 hk hc ev
      have e : t1 = K := ev
      subst e
      have hS := hc.1.1
      refine C.iload_n dX6_both_7 2 rfl ?_
      refine C.sipush (nI 1600) dX6_both_8 (by decide) ?_
      refine C.icmp_ge 51 dX6_both_11 rfl (fun hc11 => ?_) (fun hc11 => ?_)
      · refine C.vret hq dX6_both_51 ?_
        exact hc
      · exact absurd (n_nle hc11 (by omega) (by omega)) (by omega)
    | succ j ih =>
      intro k t1 μ1 hk hc ev
      have hS := hc.1.1
      obtain ⟨cB, cT, cR, cP, cH, cF⟩ := id hc
      unfold cLoop cWd at ev
      cases hA : (mHere (txL tp) tp.length t1.2 (keyL.getD 28 [])).1 with
      | true =>
        obtain ⟨hs, he⟩ := here_has hA
        rw [hA, if_pos rfl] at ev
        dsimp only at ev
        refine C.iload_n dX6_both_7 2 rfl ?_
        refine C.sipush (nI 1600) dX6_both_8 (by decide) ?_
        refine C.icmp_ge 51 dX6_both_11 rfl (fun hc11 => ?_) (fun hc11 => ?_)
        · exact absurd (n_le hc11 (by omega) (by omega)) (by omega)
        · refine C.aload_n dX6_both_14 0 rfl ?_
          refine C.getO fX6_9 dX6_both_15 hS.o5 hS.r5_0 ?_
          refine C.bipush (nI 28) dX6_both_18 (by decide) ?_
          refine C.callVI lX6_58 dX6_both_20 (kw_isWord cB cT cR (w := 28) (by decide)) hS.o3 rfl rfl (by omega) (Nat.zero_le _) (Nat.zero_le _) (Nat.le_of_ble_eq_true rfl) (fun x20 μ20 h20 => ?_)
          obtain ⟨rfl, hμ⟩ := h20
          subst hμ
          refine C.if_eq 51 dX6_both_23 rfl (fun hc23 => ?_) (fun hc23 => ?_)
          · rw [hA] at hc23
            exact absurd hc23 (by decide)
          · refine C.aload_n dX6_both_26 0 rfl ?_
            refine C.getO fX6_9 dX6_both_27 hS.o5 hS.r5_0 ?_
            refine C.callVV lX6_64 dX6_both_30 (kw_advW hS cT cR hs (s' := wAf (txL tp) tp.length t1.2) rfl rfl rfl) hS.o3 rfl rfl (by omega) (Nat.zero_le _) (Nat.zero_le _) (Nat.le_of_ble_eq_true rfl) (fun μ30 h30 => ?_)
            have hc2 := hc.adv (s' := wAf (txL tp) tp.length t1.2) (cP.waf hs) h30.1 h30.2
            have hS := hc2.1.1
            refine C.aload_n dX6_both_33 0 rfl ?_
            refine C.iload_n dX6_both_34 1 rfl ?_
            refine C.callVV lX6_71 dX6_both_35 (hP _ _ hc2) hS.o5 rfl rfl (by omega) (Nat.zero_le _) (Nat.zero_le _) (Nat.le_of_ble_eq_true rfl) (fun μ35 h35 => ?_)
            have hS := h35.1.1
            refine C.aload_n dX6_both_38 0 rfl ?_
            refine C.bipush (nI 11) dX6_both_39 (by decide) ?_
            refine C.iconst (nI 0) dX6_both_41 (by decide) ?_
            refine C.callVV lX6_67 dX6_both_42 (kf_put (n := 10) hS h35.2.2.2.2.1 h35.2.2.1 (st := 11) (nu := 0) (by decide) (by decide) (by decide)) hS.o5 rfl rfl (by omega) (Nat.zero_le _) (Nat.zero_le _) (Nat.le_of_ble_eq_true rfl) (fun μ42 h42 => ?_)
            have hc3 := h35.put h42
            have hgo := ih (k + 1) _ μ42 (by omega) hc3 ev
            rw [← nI_1 k] at hgo
            refine C.iinc (lv' := [(0, _), (1, _), (2, _)]) _ dX6_both_45 2 rfl rfl (nLt hX rfl) rfl ?_
            refine C.goto 7 dX6_both_48 rfl ?_
            exact hgo
      | false =>
        rw [hA, if_neg (by decide)] at ev
        dsimp only at ev
        subst ev
        refine C.iload_n dX6_both_7 2 rfl ?_
        refine C.sipush (nI 1600) dX6_both_8 (by decide) ?_
        refine C.icmp_ge 51 dX6_both_11 rfl (fun hc11 => ?_) (fun hc11 => ?_)
        · exact absurd (n_le hc11 (by omega) (by omega)) (by omega)
        · refine C.aload_n dX6_both_14 0 rfl ?_
          refine C.getO fX6_9 dX6_both_15 hS.o5 hS.r5_0 ?_
          refine C.bipush (nI 28) dX6_both_18 (by decide) ?_
          refine C.callVI lX6_58 dX6_both_20 (kw_isWord cB cT cR (w := 28) (by decide)) hS.o3 rfl rfl (by omega) (Nat.zero_le _) (Nat.zero_le _) (Nat.le_of_ble_eq_true rfl) (fun x20 μ20 h20 => ?_)
          obtain ⟨rfl, hμ⟩ := h20
          subst hμ
          refine C.if_eq 51 dX6_both_23 rfl (fun hc23 => ?_) (fun hc23 => ?_)
          · refine C.vret hq dX6_both_51 ?_
            exact hc
          · rw [hA] at hc23
            exact absurd rfl hc23
  refine C.aload_n dX6_both_0 0 rfl ?_
  refine C.iload_n dX6_both_1 1 rfl ?_
  refine C.callVV lX6_71 dX6_both_2 (hP _ _ hc) hS.o5 rfl rfl (by omega) (Nat.zero_le _) (Nat.zero_le _) (Nat.le_of_ble_eq_true rfl) (fun μ2 h2 => ?_)
  have hS := h2.1.1
  refine C.iconst (nI 0) dX6_both_5 (by decide) ?_
  refine C.istore_n (lv' := [(0, _), (1, _), (2, _)]) dX6_both_6 (nLt hX rfl) rfl ?_
  exact loop _ hq 1600 0 _ _ rfl h2 rfl
theorem kf_test {P : Pt → Pt} {D op : Nat} (hD : 3 ≤ D) (hP : ∀ μ t, CP μ0 tp m t μ → AMet l G D 0 0 mtX6_both [.ref (G.1 + 5), .int (nI op)] μ (qV (fun μ' => CP μ0 tp m (P t) μ'))) : ∀ μ t, CP μ0 tp m t μ → AMet l G (D + 1) 0 0 mtX6_test [.ref (G.1 + 5), .int (nI op)] μ (qV (fun μ' => CP μ0 tp m (cEith (txL tp) tp.length P t) μ')) := by
  intro μ t hc
  refine AMet.of (by decide) (Nat.le_of_ble_eq_true rfl) (fun X C hX hnm hq => ?_)
  unfold cEith at hq
  have hS := hc.1.1
  have loop : ∀ (K : Pt), MR G X (qV (fun μ' => CP μ0 tp m K μ')) → ∀ (j k : Nat) (t1 : Pt) (μ1 : Mm), k + j = 1600 → CP μ0 tp m t1 μ1 → cLoop (cWd 27 11 (txL tp) tp.length) P j t1 = K → AW l G X 0 0 7 [(0, .ref (G.1 + 5)), (1, .int (nI op)), (2, .int (nI k))] [] μ1 := by
    clear hq
    intro K hq j
    induction j with
    | zero =>
      intro k t1 μ1 hk hc ev
      have e : t1 = K := ev
      subst e
      have hS := hc.1.1
      refine C.iload_n dX6_test_7 2 rfl ?_
      refine C.sipush (nI 1600) dX6_test_8 (by decide) ?_
      refine C.icmp_ge 51 dX6_test_11 rfl (fun hc11 => ?_) (fun hc11 => ?_)
      · refine C.vret hq dX6_test_51 ?_
        exact hc
      · exact absurd (n_nle hc11 (by omega) (by omega)) (by omega)
    | succ j ih =>
      intro k t1 μ1 hk hc ev
      have hS := hc.1.1
      obtain ⟨cB, cT, cR, cP, cH, cF⟩ := id hc
      unfold cLoop cWd at ev
      cases hA : (mHere (txL tp) tp.length t1.2 (keyL.getD 27 [])).1 with
      | true =>
        obtain ⟨hs, he⟩ := here_has hA
        rw [hA, if_pos rfl] at ev
        dsimp only at ev
        refine C.iload_n dX6_test_7 2 rfl ?_
        refine C.sipush (nI 1600) dX6_test_8 (by decide) ?_
        refine C.icmp_ge 51 dX6_test_11 rfl (fun hc11 => ?_) (fun hc11 => ?_)
        · exact absurd (n_le hc11 (by omega) (by omega)) (by omega)
        · refine C.aload_n dX6_test_14 0 rfl ?_
          refine C.getO fX6_9 dX6_test_15 hS.o5 hS.r5_0 ?_
          refine C.bipush (nI 27) dX6_test_18 (by decide) ?_
          refine C.callVI lX6_58 dX6_test_20 (kw_isWord cB cT cR (w := 27) (by decide)) hS.o3 rfl rfl (by omega) (Nat.zero_le _) (Nat.zero_le _) (Nat.le_of_ble_eq_true rfl) (fun x20 μ20 h20 => ?_)
          obtain ⟨rfl, hμ⟩ := h20
          subst hμ
          refine C.if_eq 51 dX6_test_23 rfl (fun hc23 => ?_) (fun hc23 => ?_)
          · rw [hA] at hc23
            exact absurd hc23 (by decide)
          · refine C.aload_n dX6_test_26 0 rfl ?_
            refine C.getO fX6_9 dX6_test_27 hS.o5 hS.r5_0 ?_
            refine C.callVV lX6_64 dX6_test_30 (kw_advW hS cT cR hs (s' := wAf (txL tp) tp.length t1.2) rfl rfl rfl) hS.o3 rfl rfl (by omega) (Nat.zero_le _) (Nat.zero_le _) (Nat.le_of_ble_eq_true rfl) (fun μ30 h30 => ?_)
            have hc2 := hc.adv (s' := wAf (txL tp) tp.length t1.2) (cP.waf hs) h30.1 h30.2
            have hS := hc2.1.1
            refine C.aload_n dX6_test_33 0 rfl ?_
            refine C.iload_n dX6_test_34 1 rfl ?_
            refine C.callVV lX6_55 dX6_test_35 (hP _ _ hc2) hS.o5 rfl rfl (by omega) (Nat.zero_le _) (Nat.zero_le _) (Nat.le_of_ble_eq_true rfl) (fun μ35 h35 => ?_)
            have hS := h35.1.1
            refine C.aload_n dX6_test_38 0 rfl ?_
            refine C.bipush (nI 12) dX6_test_39 (by decide) ?_
            refine C.iconst (nI 0) dX6_test_41 (by decide) ?_
            refine C.callVV lX6_67 dX6_test_42 (kf_put (n := 11) hS h35.2.2.2.2.1 h35.2.2.1 (st := 12) (nu := 0) (by decide) (by decide) (by decide)) hS.o5 rfl rfl (by omega) (Nat.zero_le _) (Nat.zero_le _) (Nat.le_of_ble_eq_true rfl) (fun μ42 h42 => ?_)
            have hc3 := h35.put h42
            have hgo := ih (k + 1) _ μ42 (by omega) hc3 ev
            rw [← nI_1 k] at hgo
            refine C.iinc (lv' := [(0, _), (1, _), (2, _)]) _ dX6_test_45 2 rfl rfl (nLt hX rfl) rfl ?_
            refine C.goto 7 dX6_test_48 rfl ?_
            exact hgo
      | false =>
        rw [hA, if_neg (by decide)] at ev
        dsimp only at ev
        subst ev
        refine C.iload_n dX6_test_7 2 rfl ?_
        refine C.sipush (nI 1600) dX6_test_8 (by decide) ?_
        refine C.icmp_ge 51 dX6_test_11 rfl (fun hc11 => ?_) (fun hc11 => ?_)
        · exact absurd (n_le hc11 (by omega) (by omega)) (by omega)
        · refine C.aload_n dX6_test_14 0 rfl ?_
          refine C.getO fX6_9 dX6_test_15 hS.o5 hS.r5_0 ?_
          refine C.bipush (nI 27) dX6_test_18 (by decide) ?_
          refine C.callVI lX6_58 dX6_test_20 (kw_isWord cB cT cR (w := 27) (by decide)) hS.o3 rfl rfl (by omega) (Nat.zero_le _) (Nat.zero_le _) (Nat.le_of_ble_eq_true rfl) (fun x20 μ20 h20 => ?_)
          obtain ⟨rfl, hμ⟩ := h20
          subst hμ
          refine C.if_eq 51 dX6_test_23 rfl (fun hc23 => ?_) (fun hc23 => ?_)
          · refine C.vret hq dX6_test_51 ?_
            exact hc
          · rw [hA] at hc23
            exact absurd rfl hc23
  refine C.aload_n dX6_test_0 0 rfl ?_
  refine C.iload_n dX6_test_1 1 rfl ?_
  refine C.callVV lX6_55 dX6_test_2 (hP _ _ hc) hS.o5 rfl rfl (by omega) (Nat.zero_le _) (Nat.zero_le _) (Nat.le_of_ble_eq_true rfl) (fun μ2 h2 => ?_)
  have hS := h2.1.1
  refine C.iconst (nI 0) dX6_test_5 (by decide) ?_
  refine C.istore_n (lv' := [(0, _), (1, _), (2, _)]) dX6_test_6 (nLt hX rfl) rfl ?_
  exact loop _ hq 1600 0 _ _ rfl h2 rfl
end KLV
