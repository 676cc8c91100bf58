/-! the class: a night goes by -/
def mB (d : Ld) (more : Option Nat) : Nat := match more with
  | none => 0
  | some x => 2 ^ (kC d x)
section NGP
variable {d : Ld}
theorem clos_more (hW : Wf d) {more : Option Nat} (hm : ∀ x, more = some x → clOk d x) (r : Nat) : closB d none r ||| mB d more = closB d more r := by
  cases more with
  | none => exact Nat.or_zero _
  | some x =>
    show closB d none r ||| 2 ^ (kC d x) = _
    rw [one_k hW (hm x rfl)]
    unfold closB
    rw [bsF_or]
    refine bsF_cong (fun k _ => ?_)
    unfold cls
    by_cases q : x = cK d k
    · subst q; simp
    · simp [q]
theorem rF_cong (hW : Wf d) {cl cl' : Nat → Bool} (h : ∀ z, clOk d z → cl z = cl' z) {ng st : Nat} (hs : clOk d st) : ∀ n, rF d cl ng st n = rF d cl' ng st n
  | 0 => rfl
  | n + 1 => by
    have hg : ∀ (way y : Nat), clOk d y → ∀ m k, nxG d cl way y m k = nxG d cl' way y m k := by
      intro way y hy m
      induction m with
      | zero => intro k; rfl
      | succ m ih =>
        intro k
        unfold nxG
        cases hcb : cb d y ((way - 1 + k) % 8 + 1) with
        | none => exact ih _
        | some z =>
          dsimp only
          rw [h z (cb_ok hW hcb), ih]
    unfold rF
    rw [rF_cong hW h hs n]
    unfold nxF
    rw [hg _ _ (rF_ok hW hs n)]
theorem clos_tb (hW : Wf d) {more : Option Nat} {r z : Nat} (hz : clOk d z) : (closB d more r).testBit (kC d z) = cls d more r z := by
  unfold closB
  rw [bsF_tb, decide_eq_true (kC_lt hz), Bool.true_and, cK_kC hz]
theorem ride_x (hW : Wf d) {more : Option Nat} {r ng fr : Nat} (hfr : clOk d fr) (h : Nat) : rX d (closB d more r) ng fr h = rF d (cls d more r) ng fr h := rF_cong hW (fun z hz => clos_tb hW hz) hfr h
theorem rx_fun (hW : Wf d) {more : Option Nat} {r ng fr : Nat} (hfr : clOk d fr) : rX d (closB d more r) ng fr = rF d (cls d more r) ng fr := funext (fun h => ride_x hW hfr h)
theorem clos_lt (hW : Wf d) (more : Option Nat) (r : Nat) : closB d more r < 2 ^ 49 := bsF_49 hW.n49.2
end NGP
def HnF (sb : Nat) (μ μ' : Mm) : Prop := μ'.2.2.2 = μ.2.2.2 ∧ (∀ a k, ¬ (a = 38 ∧ k = 4) → mR μ' a k = mR μ a k) ∧ (∀ a k, a ≠ 38 → a ≠ 37 → mL μ' a k = mL μ a k) ∧ (∀ a k, a ≠ 38 → a ≠ 39 → a ≠ 12 → a ≠ 14 → ¬ (a = 11 ∧ k = 3) → ¬ (sb ≤ a ∧ a ≤ sb + 5) → a ≠ 37 → mI μ' a k = mI μ a k)
section HNP
variable {μ μ' : Mm} {sb : Nat}
theorem HnF.refl (sb : Nat) (μ : Mm) : HnF sb μ μ := ⟨rfl, fun _ _ _ => rfl, fun _ _ _ _ => rfl, fun _ _ _ _ _ _ _ _ _ => rfl⟩
theorem HnF.trans {μ'' : Mm} (h : HnF sb μ μ') (h2 : HnF sb μ' μ'') : HnF sb μ μ'' := ⟨h2.1.trans h.1, fun a k q => (h2.2.1 a k q).trans (h.2.1 a k q), fun a k q q2 => (h2.2.2.1 a k q q2).trans (h.2.2.1 a k q q2), fun a k q1 q2 q3 q4 q5 q6 q7 => (h2.2.2.2 a k q1 q2 q3 q4 q5 q6 q7).trans (h.2.2.2 a k q1 q2 q3 q4 q5 q6 q7)⟩
theorem HnF.ofR (h : RdF 38 μ μ') : HnF sb μ μ' := ⟨h.1, h.2.1, fun a k q _ => h.2.2.1 a k q, fun a k q1 q2 q3 q4 q5 _ _ => h.2.2.2 a k q1 q2 q3 q4 q5⟩
theorem HnF.ofM (h : HmF sb μ μ') : HnF sb μ μ' := ⟨by rw [h.1], fun a k _ => by unfold mR; rw [h.1], fun a k _ _ => by unfold mL; rw [h.1], fun a k _ _ q3 q4 q5 q6 q7 => h.2 a k q3 q4 q5 q6 q7⟩
theorem HnF.grw (h : HnF sb μ μ') : Grw μ μ' := Grw.of h.1
theorem HnF.sh (h : HnF sb μ μ') (hS : ShC μ) : ShC μ' := hS.grw h.grw (fun a k _ q => h.2.1 a k (fun z => q (by unfold dynR; omega)))
theorem HnF.same (h : HnF sb μ μ') (hb : sb = 40 ∨ sb = 46) : Same InL μ μ' := fun a _ ha => ⟨fun k => h.2.2.2 a k (by unfold InL at ha; omega) (by unfold InL at ha; omega) (by unfold InL at ha; omega) (by unfold InL at ha; omega) (by unfold InL at ha; omega) (by unfold InL at ha; omega) (by unfold InL at ha; omega), fun k => h.2.2.1 a k (by unfold InL at ha; omega) (by unfold InL at ha; omega), fun k => h.2.1 a k (by unfold InL at ha; omega)⟩
theorem HnF.ld (h : HnF sb μ μ') (hb : sb = 40 ∨ sb = 46) {L : Nat} {c : Lc} {d : Ld} (hR : LdR μ L c d) : LdR μ' L c d := hR.same h.grw (h.same hb)
end HNP
theorem RdK.of {μ μ' : Mm} {b : Nat} {d : Ld} {L : Nat} (h : RdK μ b d L) (e : mN μ ≤ mN μ') (hR : mR μ' b 4 = mR μ b 4) (hL : ∀ k, mL μ' b k = mL μ b k) (hI : ∀ a k, a = b ∨ a = b + 1 → mI μ' a k = mI μ a k) : RdK μ' b d L := by
  obtain ⟨⟨L', h1, h2⟩, h3⟩ := h
  refine ⟨⟨L', hR.trans h1, by omega⟩, fun q q0 => ?_⟩
  obtain ⟨x, fr, ng, k1, k2, k3, ⟨v1, v2, v3, v4⟩, v5, v6, v7⟩ := h3 (hR.symm.trans q) q0
  exact ⟨x, fr, ng, k1, k2, k3, ⟨hR.trans v1, (hL _).trans v2, (hI _ _ (Or.inl rfl)).trans v3, (hI _ _ (Or.inl rfl)).trans v4⟩, fun h hh => (hI _ _ (Or.inr rfl)).trans (v5 h hh), (hL _).trans v6, (hL _).trans v7⟩
section KNG
variable {l : Launch} {G : Gm} {μ : Mm} {L sb : Nat} {c : Lc} {d : Ld}

theorem kh_start (hS : ShC μ) : AMet l G 0 0 0 mtX1_start [.ref (G.1 + 37)] μ (qV (fun μ' => μ' = sL (sI (sI μ 37 2 (nI 0)) 37 3 (nI 0)) 37 5 (lN 0))) := by
  refine AMet.of (by decide) (Nat.le_of_ble_eq_true rfl) (fun X C hX hnm hq => ?_)
  refine C.aload_n dX1_start_0 0 rfl ?_
  refine C.iconst (nI 0) dX1_start_1 (by decide) ?_
  refine C.putI fX1_24 (Or.inl rfl) dX1_start_2 hS.o37 ?_
  refine C.aload_n dX1_start_5 0 rfl ?_
  refine C.iconst (nI 0) dX1_start_6 (by decide) ?_
  refine C.putI fX1_28 (Or.inl rfl) dX1_start_7 hS.o37 ?_
  refine C.aload_n dX1_start_10 0 rfl ?_
  refine C.lconst (lN 0) dX1_start_11 (by decide) ?_
  refine C.putL fX1_31 (Or.inl rfl) dX1_start_12 hS.o37 ?_
  refine C.vret hq dX1_start_15 ?_
  rfl
theorem kh_storm (hS : ShC μ) (hb : sb = 40 ∨ sb = 46) (h6 : d.2.2.2.1.length ≤ 6) {S : St} (hN : CsN μ sb S) (hSW : SWf d S) : AMet l G 1 0 0 mtX1_passStorm [.ref (G.1 + 37), .ref (G.1 + sb)] μ (qV (fun μ' => CsN μ' sb (nightA d none false true (S, 0, 0, 0)).1 ∧ SfF sb μ μ')) := by
  refine AMet.of (by decide) (Nat.le_of_ble_eq_true rfl) (fun X C hX hnm hq => ?_)
  have hO0 : StO μ sb := by rcases hb with rfl | rfl; exact hS.s40; exact hS.s46
  have hlen := hSW.2.2.1
  -- what a storm leaves
  have hst : ∀ (n w : Nat) (a : Ac), w + n = d.2.2.2.1.length → a.1.2.1.length = d.2.2.2.1.length → (nightL d (rideN d none S) false true n w a).1.1 = a.1.1 ∧ (nightL d (rideN d none S) false true n w a).1.2.2 = a.1.2.2 ∧ (nightL d (rideN d none S) false true n w a).1.2.1.length = d.2.2.2.1.length ∧ ∀ v, wkS (nightL d (rideN d none S) false true n w a).1 v = if w ≤ v ∧ v < w + n then setW (wkS a.1 v) 3 ((wkS a.1 v).2.2.2 - 1) else wkS a.1 v := by
    intro n
    induction n with
    | zero =>
      intro w a h1 h2
      exact ⟨rfl, rfl, h2, fun v => by rw [if_neg (by omega)]; rfl⟩
    | succ n ih =>
      intro w a h1 h2
      have hw1 : nightW d (rideN d none S) false true a w = (putW a.1 w (setW (wkS a.1 w) 3 ((wkS a.1 w).2.2.2 - 1)), a.2) ∨ ((wkS a.1 w).2.2.2 = 0 ∧ nightW d (rideN d none S) false true a w = a) := by
        unfold nightW
        by_cases q : 0 < (wkS a.1 w).2.2.2
        · rw [if_pos q]; exact Or.inl rfl
        · rw [if_neg q]; exact Or.inr ⟨by omega, rfl⟩
      unfold nightL
      rcases hw1 with e | ⟨e0, e⟩
      · rw [e]
        obtain ⟨k1, k2, k3, k4⟩ := ih (w + 1) (putW a.1 w (setW (wkS a.1 w) 3 ((wkS a.1 w).2.2.2 - 1)), a.2) (by omega) (by rw [putW_len]; exact h2)
        refine ⟨k1, k2, k3, fun v => ?_⟩
        rw [k4 v]
        by_cases hv : v = w
        · subst hv
          rw [if_neg (by omega), if_pos (by omega), wkS_put (by rw [h2]; omega)]
        · rw [wkS_put_ne hv]
          by_cases q : w + 1 ≤ v ∧ v < w + 1 + n
          · rw [if_pos q, if_pos (by omega)]
          · rw [if_neg q, if_neg (by omega)]
      · rw [e]
        obtain ⟨k1, k2, k3, k4⟩ := ih (w + 1) a (by omega) h2
        refine ⟨k1, k2, k3, fun v => ?_⟩
        rw [k4 v]
        by_cases hv : v = w
        · subst hv
          rw [if_neg (by omega), if_pos (by omega)]
          unfold setW
          rw [if_neg (by omega), if_neg (by omega), if_neg (by omega)]
          generalize wkS a.1 v = W at e0 ⊢
          obtain ⟨p1, p2, p3, p4⟩ := W
          dsimp only at e0 ⊢
          rw [e0]
        · by_cases q : w + 1 ≤ v ∧ v < w + 1 + n
          · rw [if_pos q, if_pos (by omega)]
          · rw [if_neg q, if_neg (by omega)]
  obtain ⟨t1, t2, t3, t4⟩ := hst d.2.2.2.1.length 0 (S, 0, 0, 0) (by omega) hlen
  have hv : ∀ i, i < 6 → mI μ (sb + 4) i = nI (wkS S i).2.2.2 ∧ (wkS S i).2.2.2 ≤ 99 := by
    intro i hi
    rcases Nat.lt_or_ge i S.2.1.length with q | q
    · exact ⟨(hN.wk q).2.2.2.2, (hSW.2.2.2.1 _ (wkS_mem q)).2.2.2⟩
    · have e : wkS S i = (0, 0, 0, 0) := by unfold wkS; rw [List.getD_eq_getElem?_getD, List.getElem?_eq_none q]; rfl
      rw [e]
      exact ⟨(hN.2.2.1 i q hi).2, by decide⟩
  have loop : ∀ (n i : Nat) (μ1 : Mm), i + n = 6 → (μ1.2 = μ.2 ∧ (∀ x k, ¬ (x = sb + 4 ∧ k < i) → mI μ1 x k = mI μ x k) ∧ ∀ k, k < i → mI μ1 (sb + 4) k = nI ((wkS S k).2.2.2 - 1)) → AW l G X 0 0 2 [(0, .ref (G.1 + 37)), (1, .ref (G.1 + sb)), (2, .int (nI i))] [] μ1 := by
    intro n
    induction n with
    | zero =>
      intro i μ1 hi hc
      have : i = 6 := by omega
      subst this
      obtain ⟨e, e2, e3⟩ := hc
      have hO : StO μ1 sb := hO0.of (by rw [e])
      have e5 : mI μ1 sb 5 = nI S.1.1 := by rw [e2 _ _ (by omega)]; exact hN.1.1
      refine C.iload_n dX1_passStorm_2 2 rfl ?_
      refine C.bipush (nI 6) dX1_passStorm_3 (by decide) ?_
      refine C.icmp_ge 32 dX1_passStorm_5 rfl (fun hc5 => ?_) (fun hc5 => ?_)
      · refine C.aload_n dX1_passStorm_32 1 rfl ?_
        refine C.dup dX1_passStorm_33 rfl ?_
        refine C.getI fX1_49 dX1_passStorm_34 hO.o ?_
        rw [e5]
        refine C.iconst (nI 1) dX1_passStorm_37 (by decide) ?_
        refine C.iadd dX1_passStorm_38 ?_
        rw [nI_add]
        refine C.putI fX1_49 (Or.inl rfl) dX1_passStorm_39 hO.o ?_
        refine C.vret hq dX1_passStorm_42 ?_
        obtain ⟨⟨n1, n2⟩, n3, n4, f, n5, n6, n7, n8, n9⟩ := hN
        refine ⟨⟨⟨?_, ?_⟩, fun i x q => ?_, fun i q q2 => ?_, f, n5, ?_, ?_, ?_, fun i x q => ?_⟩, e, fun x k q => ?_⟩
        · rw [mI_sI, if_pos ⟨rfl, rfl⟩]; unfold nightA; dsimp only; rw [show (nightL d (rideN d none (S, 0, 0, 0).1) false true d.2.2.2.1.length 0 (S, 0, 0, 0)).1.1 = S.1 from t1]
        · rw [mI_sI, if_neg (by omega), e2 _ _ (by omega)]; unfold nightA; dsimp only; rw [show (nightL d (rideN d none (S, 0, 0, 0).1) false true d.2.2.2.1.length 0 (S, 0, 0, 0)).1.1 = S.1 from t1]; exact n2
        · have q' : (nightL d (rideN d none S) false true d.2.2.2.1.length 0 (S, 0, 0, 0)).1.2.1[i]? = some x := q
          have hil : i < d.2.2.2.1.length := by have := q_lt q'; rw [t3] at this; exact this
          have hx : x = wkS (nightL d (rideN d none S) false true d.2.2.2.1.length 0 (S, 0, 0, 0)).1 i := by
            unfold wkS; rw [List.getD_eq_getElem?_getD, q']; rfl
          rw [t4 i, if_pos (by omega)] at hx
          obtain ⟨z0, z1, z2, z3, z4⟩ := n3 i _ (wkS_q (S := S) (by rw [hlen]; exact hil))
          rw [hx]
          refine ⟨z0, ?_, ?_, ?_, ?_⟩
          · rw [mI_sI, if_neg (by omega), e2 _ _ (by omega)]; exact z1
          · rw [mI_sI, if_neg (by omega), e2 _ _ (by omega)]; exact z2
          · rw [mI_sI, if_neg (by omega), e2 _ _ (by omega)]; exact z3
          · rw [mI_sI, if_neg (by omega), e3 i z0]; rfl
        · have q' : (nightL d (rideN d none S) false true d.2.2.2.1.length 0 (S, 0, 0, 0)).1.2.1.length ≤ i := q
          rw [t3, ← hlen] at q'
          have ez : wkS S i = (0, 0, 0, 0) := by unfold wkS; rw [List.getD_eq_getElem?_getD, List.getElem?_eq_none q']; rfl
          refine ⟨?_, ?_⟩
          · rw [mI_sI, if_neg (by omega), e2 _ _ (by omega)]; exact (n4 i q' q2).1
          · rw [mI_sI, if_neg (by omega), e3 i q2, ez]; rfl
        · rw [mI_sI, if_neg (by omega), e2 _ _ (by omega)]; exact n6
        · rw [mI_sI, if_neg (by omega), e2 _ _ (by omega), n7]; exact congrArg (fun z : List Wk => nI z.length) t2.symm
        · show (nightL d (rideN d none S) false true d.2.2.2.1.length 0 (S, 0, 0, 0)).1.2.2.length ≤ 40; rw [t2]; exact n8
        · have q' : (nightL d (rideN d none S) false true d.2.2.2.1.length 0 (S, 0, 0, 0)).1.2.2[i]? = some x := q
          rw [t2] at q'
          rw [mI_sI, if_neg (by omega), e2 _ _ (by omega)]; exact n9 i x q'
        · rw [mI_sI, if_neg (by omega)]; exact e2 x k (by omega)
      · exact absurd (n_nle hc5) (by decide)
    | succ n ih =>
      intro i μ1 hi hc
      obtain ⟨e, e2, e3⟩ := hc
      have hO : StO μ1 sb := hO0.of (by rw [e])
      have hvi := hv i (by omega)
      have hvi1 : mI μ1 (sb + 4) i = nI (wkS S i).2.2.2 := by rw [e2 _ _ (by omega)]; exact hvi.1
      have hmx : (if nI (wkS S i).2.2.2 - nI 1 ≤ nI 0 then nI 0 else nI (wkS S i).2.2.2 - nI 1) = nI ((wkS S i).2.2.2 - 1) := by
        rcases Nat.eq_zero_or_pos (wkS S i).2.2.2 with q | q
        · rw [q]; decide
        · rw [pk_sub q, mx_n (by decide) (by omega), Nat.max_eq_right (Nat.zero_le _)]
      refine C.iload_n dX1_passStorm_2 2 rfl ?_
      refine C.bipush (nI 6) dX1_passStorm_3 (by decide) ?_
      refine C.icmp_ge 32 dX1_passStorm_5 rfl (fun hc5 => ?_) (fun hc5 => ?_)
      · exact absurd (n_le hc5) (by omega)
      · refine C.aload_n dX1_passStorm_8 1 rfl ?_
        refine C.getA fX1_67 dX1_passStorm_9 hO.o hO.r3 ?_
        refine C.iload_n dX1_passStorm_12 2 rfl ?_
        refine C.iconst (nI 0) dX1_passStorm_13 (by decide) ?_
        refine C.aload_n dX1_passStorm_14 1 rfl ?_
        refine C.getA fX1_67 dX1_passStorm_15 hO.o hO.r3 ?_
        refine C.iload_n dX1_passStorm_18 2 rfl ?_
        refine C.iald hO.a3 (n_in (by omega)) dX1_passStorm_19 ?_
        rw [n_cl, hvi1]
        refine C.iconst (nI 1) dX1_passStorm_20 (by decide) ?_
        refine C.isub dX1_passStorm_21 ?_
        refine C.callSI lX1_75 dX1_passStorm_22 (kj_maxI _ _) rfl rfl (Nat.le_of_ble_eq_true rfl) (Nat.zero_le _) (Nat.zero_le _) (Nat.le_of_ble_eq_true rfl) (fun x22 μ22 h22 => ?_)
        obtain ⟨rfl, hμ⟩ := h22
        subst hμ
        rw [hmx]
        refine C.iast hO.a3 (n_in (by omega)) dX1_passStorm_25 ?_
        rw [n_cl (by omega)]
        refine C.iinc (lv' := [(0, _), (1, _), (2, _)]) _ dX1_passStorm_26 2 rfl rfl (nLt hX rfl) rfl ?_
        refine C.goto 2 dX1_passStorm_29 rfl ?_
        have hgo := ih (i + 1) (sI μ22 (sb + 4) i (nI ((wkS S i).2.2.2 - 1))) (by omega) ⟨e, fun x k q => by rw [mI_sI, if_neg (by omega)]; exact e2 x k (by omega), fun k q => by
          rw [mI_sI]
          by_cases hk : k = i
          · rw [if_pos ⟨rfl, hk⟩, hk]
          · rw [if_neg (fun z => hk z.2)]; exact e3 k (by omega)⟩
        rw [← nI_1] at hgo
        exact hgo
  refine C.iconst (nI 0) dX1_passStorm_0 (by decide) ?_
  refine C.istore_n (lv' := [(0, _), (1, _), (2, _)]) dX1_passStorm_1 (nLt hX rfl) rfl ?_
  exact loop 6 0 μ rfl ⟨rfl, fun _ _ _ => rfl, fun k q => absurd q (by omega)⟩
end KNG
