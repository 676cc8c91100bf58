/-! the class: sums and products, one level -/
def cSg (a b x y : Nat) (tx : Nat → Nat) (e : Nat) (s : Ps) : Option (Nat × Ps) := if (mSign tx e s (nI a)).1 then some (x, (mSign tx e s (nI a)).2) else if (mSign tx e s (nI b)).1 then some (y, (mSign tx e s (nI b)).2) else none
def cLoop (c : Ps → Option (Nat × Ps)) (f : Pt → Pt) : Nat → Pt → Pt
  | 0, t => t
  | k + 1, t => match c t.2 with
    | none => t
    | some r => cLoop c f k (cPut (f (t.1, r.2)) r.1)
def cProd (tx : Nat → Nat) (e : Nat) (P : Pt → Pt) (t : Pt) : Pt := cLoop (cSg 42 47 3 4 tx e) P 1600 (P t)
def cSum (tx : Nat → Nat) (e : Nat) (P : Pt → Pt) (t : Pt) : Pt := cLoop (cSg 43 45 1 2 tx e) P 1600 (P t)
/-- the class stands so -/
def CP (μ0 : Mm) (tp : List Nat) (m : Nat) (t : Pt) (μ : Mm) : Prop := CsB μ ∧ CsT μ tp ∧ RD μ (txL tp) tp.length t.2 ∧ PsOk tp.length t.2 ∧ PhR μ m t.1 ∧ PhF μ0 μ
section PSP2
variable {tx : Nat → Nat} {e : Nat} {s : Ps} {μ0 μ μ' : Mm} {tp : List Nat} {m : Nat} {t : Pt}
theorem PsOk.sign (h : PsOk e s) (hs : sHas tx e s) : PsOk e (sk tx e s.1 + 1, s.2) := by
  intro h0
  obtain ⟨h1, h2, h3⟩ := h hs.1
  have hp := hs.2.1
  have hle := sk_le (tx := tx) h1
  refine ⟨by show sk tx e s.1 + 1 ≤ e; omega, ?_, h3⟩
  rcases h2 with q | ⟨k, hk, q⟩
  · exact Or.inl q
  · exact Or.inr ⟨k, by show k ≤ sk tx e s.1 + 1; omega, q⟩
theorem PsOk.word (h : PsOk e s) (hs : wHas tx e s) {x : Nat} (hx : x ≤ e) {r : Int32 × Int32} : PsOk e (x, nI x, s.2.2.1, s.2.2.2.1, r) := fun _ => ⟨hx, Or.inr ⟨x, Nat.le_refl _, rfl⟩, (h hs.1).2.2⟩
theorem PsOk.bad {s' : Ps} (hb : ¬ s'.2.2.1 = 0) : PsOk e s' := fun z => absurd z hb
theorem CP.adv (h : CP μ0 tp m t μ) {s' : Ps} (hP : PsOk tp.length s') (hR : RD μ' (txL tp) tp.length s') (f : RqF μ μ') : CP μ0 tp m (t.1, s') μ' := ⟨(PhF.q f).b h.1, f.t h.2.1, hR, hP, h.2.2.2.2.1.q f, h.2.2.2.2.2.trans (PhF.q f)⟩
theorem cPut_2 (t : Pt) (n : Nat) : (cPut t n).2 = t.2 := by unfold cPut; split <;> rfl
theorem CP.put (h : CP μ0 tp m t μ) {n : Nat} (q : PhR μ' m (cPut (t.1, t.2) n).1 ∧ RD μ' (txL tp) tp.length t.2 ∧ PhF μ μ') : CP μ0 tp m (cPut t n) μ' := by
  obtain ⟨q1, q2, q3⟩ := q
  refine ⟨q3.b h.1, q3.t h.2.1, ?_, ?_, q1, h.2.2.2.2.2.trans q3⟩
  · rw [cPut_2]; exact q2
  · rw [cPut_2]; exact h.2.2.2.1
end PSP2
section KPR
variable {l : Launch} {G : Gm} {μ0 : Mm} {tp : List Nat} {m : Nat}

theorem kf_product {P : Pt → Pt} {D op : Nat} (hD : 3 ≤ D) (hP : ∀ μ t, CP μ0 tp m t μ → AMet l G D 0 0 mtX6_part [.ref (G.1 + 5), .int (nI op)] μ (qV (fun μ' => CP μ0 tp m (P t) μ'))) : ∀ μ t, CP μ0 tp m t μ → AMet l G (D + 1) 0 0 mtX6_product [.ref (G.1 + 5), .int (nI op)] μ (qV (fun μ' => CP μ0 tp m (cProd (txL tp) tp.length P t) μ')) := by
  intro μ t hc
  refine AMet.of (by decide) (Nat.le_of_ble_eq_true rfl) (fun X C hX hnm hq => ?_)
  unfold cProd at hq
  have hS := hc.1.1
  have loop : ∀ (K : Pt), MR G X (qV (fun μ' => CP μ0 tp m K μ')) → ∀ (j k : Nat) (t1 : Pt) (μ1 : Mm), k + j = 1600 → CP μ0 tp m t1 μ1 → cLoop (cSg 42 47 3 4 (txL tp) tp.length) P j t1 = K → AW l G X 0 0 7 [(0, .ref (G.1 + 5)), (1, .int (nI op)), (2, .int (nI k))] [] μ1 := by
    clear hq
    intro K hq j
    induction j with
    | zero =>
      intro k t1 μ1 hk hc ev
      have e : t1 = K := ev
      subst e
      have hS := hc.1.1
      refine C.iload_n dX6_product_7 2 rfl ?_
      refine C.sipush (nI 1600) dX6_product_8 (by decide) ?_
      refine C.icmp_ge 80 dX6_product_11 rfl (fun hc11 => ?_) (fun hc11 => ?_)
      · refine C.vret hq dX6_product_80 ?_
        exact hc
      · exact absurd (n_nle hc11 (by omega) (by omega)) (by omega)
    | succ j ih =>
      intro k t1 μ1 hk hc ev
      have hS := hc.1.1
      obtain ⟨cB, cT, cR, cP, cH, cF⟩ := id hc
      unfold cLoop cSg at ev
      cases hA : (mSign (txL tp) tp.length t1.2 (nI 42)).1 with
      | true =>
        obtain ⟨hs, he⟩ := sign_has cT.by (c := 42) (by decide) (by decide) (by decide) hA
        rw [hA, if_pos rfl, he] at ev
        dsimp only at ev
        refine C.iload_n dX6_product_7 2 rfl ?_
        refine C.sipush (nI 1600) dX6_product_8 (by decide) ?_
        refine C.icmp_ge 80 dX6_product_11 rfl (fun hc11 => ?_) (fun hc11 => ?_)
        · exact absurd (n_le hc11 (by omega) (by omega)) (by omega)
        · refine C.aload_n dX6_product_14 0 rfl ?_
          refine C.getO fX6_9 dX6_product_15 hS.o5 hS.r5_0 ?_
          refine C.bipush (nI 42) dX6_product_18 (by decide) ?_
          refine C.callVI lX6_77 dX6_product_20 (kw_isSign hS cT cR (c := 42) (by decide) (by decide) (by decide)) hS.o3 rfl rfl (by omega) (Nat.zero_le _) (Nat.zero_le _) (Nat.le_of_ble_eq_true rfl) (fun x20 μ20 h20 => ?_)
          obtain ⟨rfl, hμ⟩ := h20
          subst hμ
          refine C.if_ne 38 dX6_product_23 rfl (fun hc23 => ?_) (fun hc23 => ?_)
          · refine C.aload_n dX6_product_38 0 rfl ?_
            refine C.getO fX6_9 dX6_product_39 hS.o5 hS.r5_0 ?_
            refine C.bipush (nI 42) dX6_product_42 (by decide) ?_
            refine C.callVI lX6_77 dX6_product_44 (kw_isSign hS cT cR (c := 42) (by decide) (by decide) (by decide)) hS.o3 rfl rfl (by omega) (Nat.zero_le _) (Nat.zero_le _) (Nat.le_of_ble_eq_true rfl) (fun x44 μ44 h44 => ?_)
            obtain ⟨rfl, hμ⟩ := h44
            subst hμ
            refine C.if_eq 54 dX6_product_47 rfl (fun hc47 => ?_) (fun hc47 => ?_)
            · rw [hA] at hc47
              exact absurd hc47 (by decide)
            · refine C.iconst (nI 4) dX6_product_50 (by decide) ?_
              refine C.goto 55 dX6_product_51 rfl ?_
              refine C.istore_n (lv' := [(0, _), (1, _), (2, _), (3, _)]) dX6_product_55 (nLt hX rfl) rfl ?_
              refine C.aload_n dX6_product_56 0 rfl ?_
              refine C.getO fX6_9 dX6_product_57 hS.o5 hS.r5_0 ?_
              refine C.callVV lX6_64 dX6_product_60 (kw_advS hS cT cR cP hs (s' := (sk (txL tp) tp.length t1.2.1 + 1, t1.2.2)) rfl rfl rfl) hS.o3 rfl rfl (by omega) (Nat.zero_le _) (Nat.zero_le _) (Nat.le_of_ble_eq_true rfl) (fun μ60 h60 => ?_)
              have hc2 := hc.adv (s' := (sk (txL tp) tp.length t1.2.1 + 1, t1.2.2)) (cP.sign hs) h60.1 h60.2
              have hS := hc2.1.1
              refine C.aload_n dX6_product_63 0 rfl ?_
              refine C.iload_n dX6_product_64 1 rfl ?_
              refine C.callVV lX6_93 dX6_product_65 (hP _ _ hc2) hS.o5 rfl rfl (by omega) (Nat.zero_le _) (Nat.zero_le _) (Nat.le_of_ble_eq_true rfl) (fun μ65 h65 => ?_)
              have hS := h65.1.1
              refine C.aload_n dX6_product_68 0 rfl ?_
              refine C.iload_n dX6_product_69 3 rfl ?_
              refine C.iconst (nI 0) dX6_product_70 (by decide) ?_
              refine C.callVV lX6_67 dX6_product_71 (kf_put (n := 3) hS h65.2.2.2.2.1 h65.2.2.1 (st := 4) (nu := 0) (by decide) (by decide) (by decide)) hS.o5 rfl rfl (by omega) (Nat.zero_le _) (Nat.zero_le _) (Nat.le_of_ble_eq_true rfl) (fun μ71 h71 => ?_)
              have hc3 := h65.put h71
              have hgo := ih (k + 1) _ μ71 (by omega) hc3 ev
              rw [← nI_1 k] at hgo
              refine C.iinc (lv' := [(0, _), (1, _), (2, _), (3, _)]) _ dX6_product_74 2 rfl rfl (nLt hX rfl) rfl ?_
              refine C.goto 7 dX6_product_77 rfl ?_
              exact AW.pick [0, 1, 2] rfl hgo
          · rw [hA] at hc23
            exact absurd hc23 (by decide)
      | false =>
        rw [hA, if_neg (by decide)] at ev
        cases hB : (mSign (txL tp) tp.length t1.2 (nI 47)).1 with
        | true =>
          obtain ⟨hs, he⟩ := sign_has cT.by (c := 47) (by decide) (by decide) (by decide) hB
          rw [hB, if_pos rfl, he] at ev
          dsimp only at ev
          refine C.iload_n dX6_product_7 2 rfl ?_
          refine C.sipush (nI 1600) dX6_product_8 (by decide) ?_
          refine C.icmp_ge 80 dX6_product_11 rfl (fun hc11 => ?_) (fun hc11 => ?_)
          · exact absurd (n_le hc11 (by omega) (by omega)) (by omega)
          · refine C.aload_n dX6_product_14 0 rfl ?_
            refine C.getO fX6_9 dX6_product_15 hS.o5 hS.r5_0 ?_
            refine C.bipush (nI 42) dX6_product_18 (by decide) ?_
            refine C.callVI lX6_77 dX6_product_20 (kw_isSign hS cT cR (c := 42) (by decide) (by decide) (by decide)) hS.o3 rfl rfl (by omega) (Nat.zero_le _) (Nat.zero_le _) (Nat.le_of_ble_eq_true rfl) (fun x20 μ20 h20 => ?_)
            obtain ⟨rfl, hμ⟩ := h20
            subst hμ
            refine C.if_ne 38 dX6_product_23 rfl (fun hc23 => ?_) (fun hc23 => ?_)
            · rw [hA] at hc23
              exact absurd rfl hc23
            · refine C.aload_n dX6_product_26 0 rfl ?_
              refine C.getO fX6_9 dX6_product_27 hS.o5 hS.r5_0 ?_
              refine C.bipush (nI 47) dX6_product_30 (by decide) ?_
              refine C.callVI lX6_77 dX6_product_32 (kw_isSign hS cT cR (c := 47) (by decide) (by decide) (by decide)) hS.o3 rfl rfl (by omega) (Nat.zero_le _) (Nat.zero_le _) (Nat.le_of_ble_eq_true rfl) (fun x32 μ32 h32 => ?_)
              obtain ⟨rfl, hμ⟩ := h32
              subst hμ
              refine C.if_eq 80 dX6_product_35 rfl (fun hc35 => ?_) (fun hc35 => ?_)
              · rw [hB] at hc35
                exact absurd hc35 (by decide)
              · refine C.aload_n dX6_product_38 0 rfl ?_
                refine C.getO fX6_9 dX6_product_39 hS.o5 hS.r5_0 ?_
                refine C.bipush (nI 42) dX6_product_42 (by decide) ?_
                refine C.callVI lX6_77 dX6_product_44 (kw_isSign hS cT cR (c := 42) (by decide) (by decide) (by decide)) hS.o3 rfl rfl (by omega) (Nat.zero_le _) (Nat.zero_le _) (Nat.le_of_ble_eq_true rfl) (fun x44 μ44 h44 => ?_)
                obtain ⟨rfl, hμ⟩ := h44
                subst hμ
                refine C.if_eq 54 dX6_product_47 rfl (fun hc47 => ?_) (fun hc47 => ?_)
                · refine C.iconst (nI 5) dX6_product_54 (by decide) ?_
                  refine C.istore_n (lv' := [(0, _), (1, _), (2, _), (3, _)]) dX6_product_55 (nLt hX rfl) rfl ?_
                  refine C.aload_n dX6_product_56 0 rfl ?_
                  refine C.getO fX6_9 dX6_product_57 hS.o5 hS.r5_0 ?_
                  refine C.callVV lX6_64 dX6_product_60 (kw_advS hS cT cR cP hs (s' := (sk (txL tp) tp.length t1.2.1 + 1, t1.2.2)) rfl rfl rfl) hS.o3 rfl rfl (by omega) (Nat.zero_le _) (Nat.zero_le _) (Nat.le_of_ble_eq_true rfl) (fun μ60 h60 => ?_)
                  have hc2 := hc.adv (s' := (sk (txL tp) tp.length t1.2.1 + 1, t1.2.2)) (cP.sign hs) h60.1 h60.2
                  have hS := hc2.1.1
                  refine C.aload_n dX6_product_63 0 rfl ?_
                  refine C.iload_n dX6_product_64 1 rfl ?_
                  refine C.callVV lX6_93 dX6_product_65 (hP _ _ hc2) hS.o5 rfl rfl (by omega) (Nat.zero_le _) (Nat.zero_le _) (Nat.le_of_ble_eq_true rfl) (fun μ65 h65 => ?_)
                  have hS := h65.1.1
                  refine C.aload_n dX6_product_68 0 rfl ?_
                  refine C.iload_n dX6_product_69 3 rfl ?_
                  refine C.iconst (nI 0) dX6_product_70 (by decide) ?_
                  refine C.callVV lX6_67 dX6_product_71 (kf_put (n := 4) hS h65.2.2.2.2.1 h65.2.2.1 (st := 5) (nu := 0) (by decide) (by decide) (by decide)) hS.o5 rfl rfl (by omega) (Nat.zero_le _) (Nat.zero_le _) (Nat.le_of_ble_eq_true rfl) (fun μ71 h71 => ?_)
                  have hc3 := h65.put h71
                  have hgo := ih (k + 1) _ μ71 (by omega) hc3 ev
                  rw [← nI_1 k] at hgo
                  refine C.iinc (lv' := [(0, _), (1, _), (2, _), (3, _)]) _ dX6_product_74 2 rfl rfl (nLt hX rfl) rfl ?_
                  refine C.goto 7 dX6_product_77 rfl ?_
                  exact AW.pick [0, 1, 2] rfl hgo
                · rw [hA] at hc47
                  exact absurd rfl hc47
        | false =>
          rw [hB, if_neg (by decide)] at ev
          dsimp only at ev
          subst ev
          refine C.iload_n dX6_product_7 2 rfl ?_
          refine C.sipush (nI 1600) dX6_product_8 (by decide) ?_
          refine C.icmp_ge 80 dX6_product_11 rfl (fun hc11 => ?_) (fun hc11 => ?_)
          · exact absurd (n_le hc11 (by omega) (by omega)) (by omega)
          · refine C.aload_n dX6_product_14 0 rfl ?_
            refine C.getO fX6_9 dX6_product_15 hS.o5 hS.r5_0 ?_
            refine C.bipush (nI 42) dX6_product_18 (by decide) ?_
            refine C.callVI lX6_77 dX6_product_20 (kw_isSign hS cT cR (c := 42) (by decide) (by decide) (by decide)) hS.o3 rfl rfl (by omega) (Nat.zero_le _) (Nat.zero_le _) (Nat.le_of_ble_eq_true rfl) (fun x20 μ20 h20 => ?_)
            obtain ⟨rfl, hμ⟩ := h20
            subst hμ
            refine C.if_ne 38 dX6_product_23 rfl (fun hc23 => ?_) (fun hc23 => ?_)
            · rw [hA] at hc23
              exact absurd rfl hc23
            · refine C.aload_n dX6_product_26 0 rfl ?_
              refine C.getO fX6_9 dX6_product_27 hS.o5 hS.r5_0 ?_
              refine C.bipush (nI 47) dX6_product_30 (by decide) ?_
              refine C.callVI lX6_77 dX6_product_32 (kw_isSign hS cT cR (c := 47) (by decide) (by decide) (by decide)) hS.o3 rfl rfl (by omega) (Nat.zero_le _) (Nat.zero_le _) (Nat.le_of_ble_eq_true rfl) (fun x32 μ32 h32 => ?_)
              obtain ⟨rfl, hμ⟩ := h32
              subst hμ
              refine C.if_eq 80 dX6_product_35 rfl (fun hc35 => ?_) (fun hc35 => ?_)
              · refine C.vret hq dX6_product_80 ?_
                exact hc
              · rw [hB] at hc35
                exact absurd rfl hc35
  refine C.aload_n dX6_product_0 0 rfl ?_
  refine C.iload_n dX6_product_1 1 rfl ?_
  refine C.callVV lX6_93 dX6_product_2 (hP _ _ hc) hS.o5 rfl rfl (by omega) (Nat.zero_le _) (Nat.zero_le _) (Nat.le_of_ble_eq_true rfl) (fun μ2 h2 => ?_)
  have hS := h2.1.1
  refine C.iconst (nI 0) dX6_product_5 (by decide) ?_
  refine C.istore_n (lv' := [(0, _), (1, _), (2, _)]) dX6_product_6 (nLt hX rfl) rfl ?_
  exact loop _ hq 1600 0 _ _ rfl h2 rfl
theorem kf_sum {P : Pt → Pt} {D op : Nat} (hD : 3 ≤ D) (hP : ∀ μ t, CP μ0 tp m t μ → AMet l G D 0 0 mtX6_product [.ref (G.1 + 5), .int (nI op)] μ (qV (fun μ' => CP μ0 tp m (P t) μ'))) : ∀ μ t, CP μ0 tp m t μ → AMet l G (D + 1) 0 0 mtX6_sum [.ref (G.1 + 5), .int (nI op)] μ (qV (fun μ' => CP μ0 tp m (cSum (txL tp) tp.length P t) μ')) := by
  intro μ t hc
  refine AMet.of (by decide) (Nat.le_of_ble_eq_true rfl) (fun X C hX hnm hq => ?_)
  unfold cSum at hq
  have hS := hc.1.1
  have loop : ∀ (K : Pt), MR G X (qV (fun μ' => CP μ0 tp m K μ')) → ∀ (j k : Nat) (t1 : Pt) (μ1 : Mm), k + j = 1600 → CP μ0 tp m t1 μ1 → cLoop (cSg 43 45 1 2 (txL tp) tp.length) P j t1 = K → AW l G X 0 0 7 [(0, .ref (G.1 + 5)), (1, .int (nI op)), (2, .int (nI k))] [] μ1 := by
    clear hq
    intro K hq j
    induction j with
    | zero =>
      intro k t1 μ1 hk hc ev
      have e : t1 = K := ev
      subst e
      have hS := hc.1.1
      refine C.iload_n dX6_sum_7 2 rfl ?_
      refine C.sipush (nI 1600) dX6_sum_8 (by decide) ?_
      refine C.icmp_ge 80 dX6_sum_11 rfl (fun hc11 => ?_) (fun hc11 => ?_)
      · refine C.vret hq dX6_sum_80 ?_
        exact hc
      · exact absurd (n_nle hc11 (by omega) (by omega)) (by omega)
    | succ j ih =>
      intro k t1 μ1 hk hc ev
      have hS := hc.1.1
      obtain ⟨cB, cT, cR, cP, cH, cF⟩ := id hc
      unfold cLoop cSg at ev
      cases hA : (mSign (txL tp) tp.length t1.2 (nI 43)).1 with
      | true =>
        obtain ⟨hs, he⟩ := sign_has cT.by (c := 43) (by decide) (by decide) (by decide) hA
        rw [hA, if_pos rfl, he] at ev
        dsimp only at ev
        refine C.iload_n dX6_sum_7 2 rfl ?_
        refine C.sipush (nI 1600) dX6_sum_8 (by decide) ?_
        refine C.icmp_ge 80 dX6_sum_11 rfl (fun hc11 => ?_) (fun hc11 => ?_)
        · exact absurd (n_le hc11 (by omega) (by omega)) (by omega)
        · refine C.aload_n dX6_sum_14 0 rfl ?_
          refine C.getO fX6_9 dX6_sum_15 hS.o5 hS.r5_0 ?_
          refine C.bipush (nI 43) dX6_sum_18 (by decide) ?_
          refine C.callVI lX6_77 dX6_sum_20 (kw_isSign hS cT cR (c := 43) (by decide) (by decide) (by decide)) hS.o3 rfl rfl (by omega) (Nat.zero_le _) (Nat.zero_le _) (Nat.le_of_ble_eq_true rfl) (fun x20 μ20 h20 => ?_)
          obtain ⟨rfl, hμ⟩ := h20
          subst hμ
          refine C.if_ne 38 dX6_sum_23 rfl (fun hc23 => ?_) (fun hc23 => ?_)
          · refine C.aload_n dX6_sum_38 0 rfl ?_
            refine C.getO fX6_9 dX6_sum_39 hS.o5 hS.r5_0 ?_
            refine C.bipush (nI 43) dX6_sum_42 (by decide) ?_
            refine C.callVI lX6_77 dX6_sum_44 (kw_isSign hS cT cR (c := 43) (by decide) (by decide) (by decide)) hS.o3 rfl rfl (by omega) (Nat.zero_le _) (Nat.zero_le _) (Nat.le_of_ble_eq_true rfl) (fun x44 μ44 h44 => ?_)
            obtain ⟨rfl, hμ⟩ := h44
            subst hμ
            refine C.if_eq 54 dX6_sum_47 rfl (fun hc47 => ?_) (fun hc47 => ?_)
            · rw [hA] at hc47
              exact absurd hc47 (by decide)
            · refine C.iconst (nI 2) dX6_sum_50 (by decide) ?_
              refine C.goto 55 dX6_sum_51 rfl ?_
              refine C.istore_n (lv' := [(0, _), (1, _), (2, _), (3, _)]) dX6_sum_55 (nLt hX rfl) rfl ?_
              refine C.aload_n dX6_sum_56 0 rfl ?_
              refine C.getO fX6_9 dX6_sum_57 hS.o5 hS.r5_0 ?_
              refine C.callVV lX6_64 dX6_sum_60 (kw_advS hS cT cR cP hs (s' := (sk (txL tp) tp.length t1.2.1 + 1, t1.2.2)) rfl rfl rfl) hS.o3 rfl rfl (by omega) (Nat.zero_le _) (Nat.zero_le _) (Nat.le_of_ble_eq_true rfl) (fun μ60 h60 => ?_)
              have hc2 := hc.adv (s' := (sk (txL tp) tp.length t1.2.1 + 1, t1.2.2)) (cP.sign hs) h60.1 h60.2
              have hS := hc2.1.1
              refine C.aload_n dX6_sum_63 0 rfl ?_
              refine C.iload_n dX6_sum_64 1 rfl ?_
              refine C.callVV lX6_90 dX6_sum_65 (hP _ _ hc2) hS.o5 rfl rfl (by omega) (Nat.zero_le _) (Nat.zero_le _) (Nat.le_of_ble_eq_true rfl) (fun μ65 h65 => ?_)
              have hS := h65.1.1
              refine C.aload_n dX6_sum_68 0 rfl ?_
              refine C.iload_n dX6_sum_69 3 rfl ?_
              refine C.iconst (nI 0) dX6_sum_70 (by decide) ?_
              refine C.callVV lX6_67 dX6_sum_71 (kf_put (n := 1) hS h65.2.2.2.2.1 h65.2.2.1 (st := 2) (nu := 0) (by decide) (by decide) (by decide)) hS.o5 rfl rfl (by omega) (Nat.zero_le _) (Nat.zero_le _) (Nat.le_of_ble_eq_true rfl) (fun μ71 h71 => ?_)
              have hc3 := h65.put h71
              have hgo := ih (k + 1) _ μ71 (by omega) hc3 ev
              rw [← nI_1 k] at hgo
              refine C.iinc (lv' := [(0, _), (1, _), (2, _), (3, _)]) _ dX6_sum_74 2 rfl rfl (nLt hX rfl) rfl ?_
              refine C.goto 7 dX6_sum_77 rfl ?_
              exact AW.pick [0, 1, 2] rfl hgo
          · rw [hA] at hc23
            exact absurd hc23 (by decide)
      | false =>
        rw [hA, if_neg (by decide)] at ev
        cases hB : (mSign (txL tp) tp.length t1.2 (nI 45)).1 with
        | true =>
          obtain ⟨hs, he⟩ := sign_has cT.by (c := 45) (by decide) (by decide) (by decide) hB
          rw [hB, if_pos rfl, he] at ev
          dsimp only at ev
          refine C.iload_n dX6_sum_7 2 rfl ?_
          refine C.sipush (nI 1600) dX6_sum_8 (by decide) ?_
          refine C.icmp_ge 80 dX6_sum_11 rfl (fun hc11 => ?_) (fun hc11 => ?_)
          · exact absurd (n_le hc11 (by omega) (by omega)) (by omega)
          · refine C.aload_n dX6_sum_14 0 rfl ?_
            refine C.getO fX6_9 dX6_sum_15 hS.o5 hS.r5_0 ?_
            refine C.bipush (nI 43) dX6_sum_18 (by decide) ?_
            refine C.callVI lX6_77 dX6_sum_20 (kw_isSign hS cT cR (c := 43) (by decide) (by decide) (by decide)) hS.o3 rfl rfl (by omega) (Nat.zero_le _) (Nat.zero_le _) (Nat.le_of_ble_eq_true rfl) (fun x20 μ20 h20 => ?_)
            obtain ⟨rfl, hμ⟩ := h20
            subst hμ
            refine C.if_ne 38 dX6_sum_23 rfl (fun hc23 => ?_) (fun hc23 => ?_)
            · rw [hA] at hc23
              exact absurd rfl hc23
            · refine C.aload_n dX6_sum_26 0 rfl ?_
              refine C.getO fX6_9 dX6_sum_27 hS.o5 hS.r5_0 ?_
              refine C.bipush (nI 45) dX6_sum_30 (by decide) ?_
              refine C.callVI lX6_77 dX6_sum_32 (kw_isSign hS cT cR (c := 45) (by decide) (by decide) (by decide)) hS.o3 rfl rfl (by omega) (Nat.zero_le _) (Nat.zero_le _) (Nat.le_of_ble_eq_true rfl) (fun x32 μ32 h32 => ?_)
              obtain ⟨rfl, hμ⟩ := h32
              subst hμ
              refine C.if_eq 80 dX6_sum_35 rfl (fun hc35 => ?_) (fun hc35 => ?_)
              · rw [hB] at hc35
                exact absurd hc35 (by decide)
              · refine C.aload_n dX6_sum_38 0 rfl ?_
                refine C.getO fX6_9 dX6_sum_39 hS.o5 hS.r5_0 ?_
                refine C.bipush (nI 43) dX6_sum_42 (by decide) ?_
                refine C.callVI lX6_77 dX6_sum_44 (kw_isSign hS cT cR (c := 43) (by decide) (by decide) (by decide)) hS.o3 rfl rfl (by omega) (Nat.zero_le _) (Nat.zero_le _) (Nat.le_of_ble_eq_true rfl) (fun x44 μ44 h44 => ?_)
                obtain ⟨rfl, hμ⟩ := h44
                subst hμ
                refine C.if_eq 54 dX6_sum_47 rfl (fun hc47 => ?_) (fun hc47 => ?_)
                · refine C.iconst (nI 3) dX6_sum_54 (by decide) ?_
                  refine C.istore_n (lv' := [(0, _), (1, _), (2, _), (3, _)]) dX6_sum_55 (nLt hX rfl) rfl ?_
                  refine C.aload_n dX6_sum_56 0 rfl ?_
                  refine C.getO fX6_9 dX6_sum_57 hS.o5 hS.r5_0 ?_
                  refine C.callVV lX6_64 dX6_sum_60 (kw_advS hS cT cR cP hs (s' := (sk (txL tp) tp.length t1.2.1 + 1, t1.2.2)) rfl rfl rfl) hS.o3 rfl rfl (by omega) (Nat.zero_le _) (Nat.zero_le _) (Nat.le_of_ble_eq_true rfl) (fun μ60 h60 => ?_)
                  have hc2 := hc.adv (s' := (sk (txL tp) tp.length t1.2.1 + 1, t1.2.2)) (cP.sign hs) h60.1 h60.2
                  have hS := hc2.1.1
                  refine C.aload_n dX6_sum_63 0 rfl ?_
                  refine C.iload_n dX6_sum_64 1 rfl ?_
                  refine C.callVV lX6_90 dX6_sum_65 (hP _ _ hc2) hS.o5 rfl rfl (by omega) (Nat.zero_le _) (Nat.zero_le _) (Nat.le_of_ble_eq_true rfl) (fun μ65 h65 => ?_)
                  have hS := h65.1.1
                  refine C.aload_n dX6_sum_68 0 rfl ?_
                  refine C.iload_n dX6_sum_69 3 rfl ?_
                  refine C.iconst (nI 0) dX6_sum_70 (by decide) ?_
                  refine C.callVV lX6_67 dX6_sum_71 (kf_put (n := 2) hS h65.2.2.2.2.1 h65.2.2.1 (st := 3) (nu := 0) (by decide) (by decide) (by decide)) hS.o5 rfl rfl (by omega) (Nat.zero_le _) (Nat.zero_le _) (Nat.le_of_ble_eq_true rfl) (fun μ71 h71 => ?_)
                  have hc3 := h65.put h71
                  have hgo := ih (k + 1) _ μ71 (by omega) hc3 ev
                  rw [← nI_1 k] at hgo
                  refine C.iinc (lv' := [(0, _), (1, _), (2, _), (3, _)]) _ dX6_sum_74 2 rfl rfl (nLt hX rfl) rfl ?_
                  refine C.goto 7 dX6_sum_77 rfl ?_
                  exact AW.pick [0, 1, 2] rfl hgo
                · rw [hA] at hc47
                  exact absurd rfl hc47
        | false =>
          rw [hB, if_neg (by decide)] at ev
          dsimp only at ev
          subst ev
          refine C.iload_n dX6_sum_7 2 rfl ?_
          refine C.sipush (nI 1600) dX6_sum_8 (by decide) ?_
          refine C.icmp_ge 80 dX6_sum_11 rfl (fun hc11 => ?_) (fun hc11 => ?_)
          · exact absurd (n_le hc11 (by omega) (by omega)) (by omega)
          · refine C.aload_n dX6_sum_14 0 rfl ?_
            refine C.getO fX6_9 dX6_sum_15 hS.o5 hS.r5_0 ?_
            refine C.bipush (nI 43) dX6_sum_18 (by decide) ?_
            refine C.callVI lX6_77 dX6_sum_20 (kw_isSign hS cT cR (c := 43) (by decide) (by decide) (by decide)) hS.o3 rfl rfl (by omega) (Nat.zero_le _) (Nat.zero_le _) (Nat.le_of_ble_eq_true rfl) (fun x20 μ20 h20 => ?_)
            obtain ⟨rfl, hμ⟩ := h20
            subst hμ
            refine C.if_ne 38 dX6_sum_23 rfl (fun hc23 => ?_) (fun hc23 => ?_)
            · rw [hA] at hc23
              exact absurd rfl hc23
            · refine C.aload_n dX6_sum_26 0 rfl ?_
              refine C.getO fX6_9 dX6_sum_27 hS.o5 hS.r5_0 ?_
              refine C.bipush (nI 45) dX6_sum_30 (by decide) ?_
              refine C.callVI lX6_77 dX6_sum_32 (kw_isSign hS cT cR (c := 45) (by decide) (by decide) (by decide)) hS.o3 rfl rfl (by omega) (Nat.zero_le _) (Nat.zero_le _) (Nat.le_of_ble_eq_true rfl) (fun x32 μ32 h32 => ?_)
              obtain ⟨rfl, hμ⟩ := h32
              subst hμ
              refine C.if_eq 80 dX6_sum_35 rfl (fun hc35 => ?_) (fun hc35 => ?_)
              · refine C.vret hq dX6_sum_80 ?_
                exact hc
              · rw [hB] at hc35
                exact absurd rfl hc35
  refine C.aload_n dX6_sum_0 0 rfl ?_
  refine C.iload_n dX6_sum_1 1 rfl ?_
  refine C.callVV lX6_90 dX6_sum_2 (hP _ _ hc) hS.o5 rfl rfl (by omega) (Nat.zero_le _) (Nat.zero_le _) (Nat.le_of_ble_eq_true rfl) (fun μ2 h2 => ?_)
  have hS := h2.1.1
  refine C.iconst (nI 0) dX6_sum_5 (by decide) ?_
  refine C.istore_n (lv' := [(0, _), (1, _), (2, _)]) dX6_sum_6 (nLt hX rfl) rfl ?_
  exact loop _ hq 1600 0 _ _ rfl h2 rfl
end KPR
