/-! the class: a pair, one level -/
def cNd (tx : Nat → Nat) (e c : Nat) (t : Pt) : Pt := (t.1, mAskSign tx e t.2 (nI c))
def cPair (tx : Nat → Nat) (e : Nat) (o : Option (Pt → Pt)) (n : Nat) (t : Pt) : Pt := if (mSign tx e t.2 (nI 40)).1 then (match o with
  | none => (t.1, mFail t.2 (nI 4) (nI (sk tx e t.2.1)))
  | some S => cPut (cNd tx e 41 (S (cNd tx e 44 (S (t.1, (sk tx e t.2.1 + 1, t.2.2)))))) n) else (t.1, mFail t.2 (nI 1) (nI (sk tx e t.2.1)))
def dHasB (tx : Nat → Nat) (e : Nat) (s : Ps) : Bool := decide (s.2.2.1 = 0) && (decide (sk tx e s.1 < e) && (isD (tx (sk tx e s.1)) && !decide (nI (sk tx e s.1) = s.2.1)))
theorem dHasB_iff {tx : Nat → Nat} {e : Nat} {s : Ps} : dHasB tx e s = true ↔ dHas tx e s := by
  unfold dHasB dHas
  rw [Bool.and_eq_true, Bool.and_eq_true, Bool.and_eq_true, decide_eq_true_iff, decide_eq_true_iff, Bool.not_eq_true', decide_eq_false_iff_not]
section PSP3
variable {tx : Nat → Nat} {e : Nat} {s : Ps} {μ0 μ μ' : Mm} {tp : List Nat} {m : Nat} {t : Pt}
theorem PsOk.fail (h : PsOk e s) {k pl : Int32} (hk : ¬ k = 0) : PsOk e (mFail s k pl) := by
  unfold mFail
  by_cases h0 : s.2.2.1 = 0
  · rw [if_pos h0]; exact PsOk.bad hk
  · rw [if_neg h0]; exact h
theorem PsOk.ask (h : PsOk e s) {c : Nat} (hb : ∀ k, k < e → tx k < 256) (hc : c < 256) (hL : isL c = false) (hD : isD c = false) : PsOk e (mAskSign tx e s (nI c)) := by
  unfold mAskSign
  by_cases h0 : s.2.2.1 = 0
  · rw [if_pos h0]
    cases hz : (mSign tx e s (nI c)).1 with
    | true =>
      rw [if_pos rfl]
      obtain ⟨hs, he⟩ := sign_has hb hc hL hD hz
      rw [he]
      exact h.sign hs
    | false =>
      rw [if_neg (by decide)]
      have he : (mSign tx e s (nI c)).2 = mLook tx e s := by
        unfold mSign at hz ⊢
        rw [if_pos h0] at hz ⊢
        by_cases hq2 : chr tx e (sk tx e s.1) = nI c
        · rw [if_pos hq2] at hz; cases hz
        · rw [if_neg hq2]
      rw [he]
      unfold mFail
      rw [if_pos (show (mLook tx e s).2.2.1 = 0 from h0)]
      exact PsOk.bad (by show ¬ nI 1 = 0; decide)
  · rw [if_neg h0]; exact h
theorem CP.fail (h : CP μ0 tp m t μ) {k pl : Int32} (hk : ¬ k = 0) (q : RD μ' (txL tp) tp.length (mFail t.2 k pl) ∧ RqF μ μ') : CP μ0 tp m (t.1, mFail t.2 k pl) μ' := h.adv (h.2.2.2.1.fail hk) q.1 q.2
theorem CP.ask (h : CP μ0 tp m t μ) {c : Nat} (hc : c < 256) (hL : isL c = false) (hD : isD c = false) (q : RD μ' (txL tp) tp.length (mAskSign (txL tp) tp.length t.2 (nI c)) ∧ RqF μ μ') : CP μ0 tp m (cNd (txL tp) tp.length c t) μ' := h.adv (h.2.2.2.1.ask h.2.1.by hc hL hD) q.1 q.2
end PSP3
section KPA
variable {l : Launch} {G : Gm} {μ0 : Mm} {tp : List Nat} {m : Nat}

theorem kf_pair {o : Option (Pt → Pt)} {D op : Nat} (hD : 3 ≤ D) (hop : op ≤ 6) (hN : o = none → op = 6) (hP : ∀ S, o = some S → op < 6 ∧ ∀ μ t, CP μ0 tp m t μ → AMet l G D 0 0 mtX6_sum [.ref (G.1 + 5), .int (nI (op + 1))] μ (qV (fun μ' => CP μ0 tp m (S t) μ'))) {st n : Nat} (h16 : st < 16) (hn : cvN n = 0 * 16 + st) : ∀ μ t, CP μ0 tp m t μ → AMet l G (D + 1) 0 0 mtX6_pair [.ref (G.1 + 5), .int (nI st), .int (nI op)] μ (qV (fun μ' => CP μ0 tp m (cPair (txL tp) tp.length o n t) μ')) := by
  intro μ t hc
  refine AMet.of (by decide) (Nat.le_of_ble_eq_true rfl) (fun X C hX hnm hq => ?_)
  have hS := hc.1.1
  obtain ⟨cB, cT, cR, cP, cH, cF⟩ := id hc
  unfold cPair at hq
  cases hA : (mSign (txL tp) tp.length t.2 (nI 40)).1 with
  | false =>
    rw [hA, if_neg (by decide)] at hq
    refine C.aload_n dX6_pair_0 0 rfl ?_
    refine C.getO fX6_9 dX6_pair_1 hS.o5 hS.r5_0 ?_
    refine C.bipush (nI 40) dX6_pair_4 (by decide) ?_
    refine C.callVI lX6_77 dX6_pair_6 (kw_isSign hS cT cR (c := 40) (by decide) (by decide) (by decide)) hS.o3 rfl rfl (by omega) (Nat.zero_le _) (Nat.zero_le _) (Nat.le_of_ble_eq_true rfl) (fun x6 μ6 h6 => ?_)
    obtain ⟨rfl, hμ⟩ := h6
    subst hμ
    refine C.if_ne 22 dX6_pair_9 rfl (fun hc9 => ?_) (fun hc9 => ?_)
    · rw [hA] at hc9
      exact absurd rfl hc9
    · refine C.aload_n dX6_pair_12 0 rfl ?_
      refine C.getO fX6_9 dX6_pair_13 hS.o5 hS.r5_0 ?_
      refine C.callVV lX6_87 dX6_pair_16 (kw_failHere hS cR) hS.o3 rfl rfl (by omega) (Nat.zero_le _) (Nat.zero_le _) (Nat.le_of_ble_eq_true rfl) (fun μ16 h16 => ?_)
      refine C.goto 68 dX6_pair_19 rfl ?_
      refine C.vret hq dX6_pair_68 ?_
      exact hc.fail (by decide) h16
  | true =>
    obtain ⟨hs, he⟩ := sign_has cT.by (c := 40) (by decide) (by decide) (by decide) hA
    rw [hA, if_pos rfl] at hq
    cases o with
    | none =>
      have h6 := hN rfl
      subst h6
      dsimp only at hq
      refine C.aload_n dX6_pair_0 0 rfl ?_
      refine C.getO fX6_9 dX6_pair_1 hS.o5 hS.r5_0 ?_
      refine C.bipush (nI 40) dX6_pair_4 (by decide) ?_
      refine C.callVI lX6_77 dX6_pair_6 (kw_isSign hS cT cR (c := 40) (by decide) (by decide) (by decide)) hS.o3 rfl rfl (by omega) (Nat.zero_le _) (Nat.zero_le _) (Nat.le_of_ble_eq_true rfl) (fun x6 μ6 h6 => ?_)
      obtain ⟨rfl, hμ⟩ := h6
      subst hμ
      refine C.if_ne 22 dX6_pair_9 rfl (fun hc9 => ?_) (fun hc9 => ?_)
      · refine C.aload_n dX6_pair_22 0 rfl ?_
        refine C.iload_n dX6_pair_23 2 rfl ?_
        refine C.callVI lX6_74 dX6_pair_24 (kf_opens hS cR hs.1 (kw_advS hS cT cR cP hs (s' := (sk (txL tp) tp.length t.2.1 + 1, t.2.2)) rfl rfl rfl) (op := 6) (by decide)) hS.o5 rfl rfl (by omega) (Nat.zero_le _) (Nat.zero_le _) (Nat.le_of_ble_eq_true rfl) (fun x24 μ24 h24 => ?_)
        obtain ⟨rfl, hz⟩ := h24
        rw [if_neg (by decide)] at hz
        have hS := ((PhF.q hz.2).b cB).1
        refine C.if_eq 68 dX6_pair_27 rfl (fun hc27 => ?_) (fun hc27 => ?_)
        · refine C.vret hq dX6_pair_68 ?_
          exact hc.fail (by decide) hz
        · exact absurd rfl hc27
      · rw [hA] at hc9
        exact absurd hc9 (by decide)
    | some S =>
      obtain ⟨hlt, hP⟩ := hP S rfl
      dsimp only at hq
      refine C.aload_n dX6_pair_0 0 rfl ?_
      refine C.getO fX6_9 dX6_pair_1 hS.o5 hS.r5_0 ?_
      refine C.bipush (nI 40) dX6_pair_4 (by decide) ?_
      refine C.callVI lX6_77 dX6_pair_6 (kw_isSign hS cT cR (c := 40) (by decide) (by decide) (by decide)) hS.o3 rfl rfl (by omega) (Nat.zero_le _) (Nat.zero_le _) (Nat.le_of_ble_eq_true rfl) (fun x6 μ6 h6 => ?_)
      obtain ⟨rfl, hμ⟩ := h6
      subst hμ
      refine C.if_ne 22 dX6_pair_9 rfl (fun hc9 => ?_) (fun hc9 => ?_)
      · refine C.aload_n dX6_pair_22 0 rfl ?_
        refine C.iload_n dX6_pair_23 2 rfl ?_
        refine C.callVI lX6_74 dX6_pair_24 (kf_opens hS cR hs.1 (kw_advS hS cT cR cP hs (s' := (sk (txL tp) tp.length t.2.1 + 1, t.2.2)) rfl rfl rfl) (op := op) hop) hS.o5 rfl rfl (by omega) (Nat.zero_le _) (Nat.zero_le _) (Nat.le_of_ble_eq_true rfl) (fun x24 μ24 h24 => ?_)
        obtain ⟨rfl, hz⟩ := h24
        rw [if_pos hlt] at hz
        rw [decide_eq_true hlt]
        have hc2 := hc.adv (s' := (sk (txL tp) tp.length t.2.1 + 1, t.2.2)) (cP.sign hs) hz.1 hz.2
        have hS := hc2.1.1
        refine C.if_eq 68 dX6_pair_27 rfl (fun hc27 => ?_) (fun hc27 => ?_)
        · exact absurd hc27 (by decide)
        · refine C.aload_n dX6_pair_30 0 rfl ?_
          refine C.iload_n dX6_pair_31 2 rfl ?_
          refine C.iconst (nI 1) dX6_pair_32 (by decide) ?_
          refine C.iadd dX6_pair_33 ?_
          rw [nI_add]
          refine C.callVV lX6_23 dX6_pair_34 (hP _ _ hc2) hS.o5 rfl rfl (by omega) (Nat.zero_le _) (Nat.zero_le _) (Nat.le_of_ble_eq_true rfl) (fun μ34 h34 => ?_)
          have hS := h34.1.1
          refine C.aload_n dX6_pair_37 0 rfl ?_
          refine C.getO fX6_9 dX6_pair_38 hS.o5 hS.r5_0 ?_
          refine C.bipush (nI 44) dX6_pair_41 (by decide) ?_
          refine C.callVV lX6_80 dX6_pair_43 (kw_needSign hS h34.2.1 h34.2.2.1 h34.2.2.2.1 (c := 44) (by decide) (by decide) (by decide)) hS.o3 rfl rfl (by omega) (Nat.zero_le _) (Nat.zero_le _) (Nat.le_of_ble_eq_true rfl) (fun μ43 h43 => ?_)
          have hc3 := h34.ask (c := 44) (by decide) (by decide) (by decide) h43
          have hS := hc3.1.1
          refine C.aload_n dX6_pair_46 0 rfl ?_
          refine C.iload_n dX6_pair_47 2 rfl ?_
          refine C.iconst (nI 1) dX6_pair_48 (by decide) ?_
          refine C.iadd dX6_pair_49 ?_
          rw [nI_add]
          refine C.callVV lX6_23 dX6_pair_50 (hP _ _ hc3) hS.o5 rfl rfl (by omega) (Nat.zero_le _) (Nat.zero_le _) (Nat.le_of_ble_eq_true rfl) (fun μ50 h50 => ?_)
          have hS := h50.1.1
          refine C.aload_n dX6_pair_53 0 rfl ?_
          refine C.getO fX6_9 dX6_pair_54 hS.o5 hS.r5_0 ?_
          refine C.bipush (nI 41) dX6_pair_57 (by decide) ?_
          refine C.callVV lX6_80 dX6_pair_59 (kw_needSign hS h50.2.1 h50.2.2.1 h50.2.2.2.1 (c := 41) (by decide) (by decide) (by decide)) hS.o3 rfl rfl (by omega) (Nat.zero_le _) (Nat.zero_le _) (Nat.le_of_ble_eq_true rfl) (fun μ59 h59 => ?_)
          have hc4 := h50.ask (c := 41) (by decide) (by decide) (by decide) h59
          have hS := hc4.1.1
          refine C.aload_n dX6_pair_62 0 rfl ?_
          refine C.iload_n dX6_pair_63 1 rfl ?_
          refine C.iconst (nI 0) dX6_pair_64 (by decide) ?_
          refine C.callVV lX6_67 dX6_pair_65 (kf_put (n := n) hS hc4.2.2.2.2.1 hc4.2.2.1 (st := st) (nu := 0) h16 (by decide) hn) hS.o5 rfl rfl (by omega) (Nat.zero_le _) (Nat.zero_le _) (Nat.le_of_ble_eq_true rfl) (fun μ65 h65 => ?_)
          refine C.vret hq dX6_pair_68 ?_
          exact hc4.put h65
      · rw [hA] at hc9
        exact absurd hc9 (by decide)

theorem kw_isNumber {μ : Mm} {s : Ps} (hS : ShC μ) (hR : RD μ (txL tp) tp.length s) : AMet l G 0 0 0 mtX8_isNumber [.ref (G.1 + 3)] μ (qI (fun z μ' => z = bI (dHasB (txL tp) tp.length s) ∧ μ' = μ)) := by
  refine AMet.of (by decide) (Nat.le_of_ble_eq_true rfl) (fun X C hX hnm hq => ?_)
  obtain ⟨kd, k1, k2, -, -, k3, -⟩ := hR.kd
  refine C.aload_n dX8_isNumber_0 0 rfl ?_
  refine C.getI fX8_48 dX8_isNumber_1 hS.o3 ?_
  rw [k2]
  refine C.iconst (nI 2) dX8_isNumber_4 (by decide) ?_
  refine C.icmp_ne 12 dX8_isNumber_5 rfl (fun hc5 => ?_) (fun hc5 => ?_)
  · rw [show dHasB (txL tp) tp.length s = false by cases hz : dHasB (txL tp) tp.length s with | false => rfl | true => exact absurd (k3.mpr (dHasB_iff.mp hz)) (n_ne hc5)] at hq
    refine C.iconst (nI 0) dX8_isNumber_12 (by decide) ?_
    refine C.zret hq dX8_isNumber_13 (by decide) ?_
    exact ⟨rfl, rfl⟩
  · rw [dHasB_iff.mpr (k3.mp (n_eq hc5 (by omega) (by omega)))] at hq
    refine C.iconst (nI 1) dX8_isNumber_8 (by decide) ?_
    refine C.goto 13 dX8_isNumber_9 rfl ?_
    refine C.zret hq dX8_isNumber_13 (by decide) ?_
    exact ⟨rfl, rfl⟩
end KPA
