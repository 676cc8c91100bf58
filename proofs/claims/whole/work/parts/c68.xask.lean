/-! the class: ask() -/
section KXQ
variable {l : Launch} {G : Gm} {μ μ' : Mm} {h : Hs}
theorem ask_wf {tx : Nat → Nat} {e : Nat} (he : e ≤ 1600) {s : Ps} (hz : s.2.2.1 = 0) (hs : s.1 ≤ e) (hq : (askT tx e s).2.2.2.2.1 = 0) : wfC al2 true (askT tx e s).2.1.1 0 := by
  have hko := qkF_o (tx := tx) (e := e) hz hs
  have key : ∀ {t : Tt} {v : Pt} {b : Bool} {s1 : Ps}, Rdg tx e al2 true b t s1 v → (askE tx e t).2.2.2.1 = 0 → wfC al2 true (askE tx e t).1.1 0 := by
    intro t v b s1 hd hz
    have tz : t.2.2.2.1 = 0 := by
      apply Classical.byContradiction
      intro q
      have : askE tx e t = t := by unfold askE; rw [if_neg q]
      rw [this] at hz
      exact q hz
    have ea : (askE tx e t).1 = t.1 := by
      unfold askE
      rw [if_pos tz]
      split <;> rfl
    obtain ⟨d1, d2, d3⟩ := hd
    obtain ⟨z1, -, -, -, -, -, -, z8⟩ := d3 (d1.symm.trans tz)
    rw [ea, z1]
    exact TyR.wf _ [] z8
  have hbad : ∀ k, qkF tx e s = (5, mFail (mLook tx e s) (nI 1) (nI (sk tx e s.1))) → (askT tx e s).2.2.2.2.1 = 0 → k := by
    intro k q hz2
    exfalso
    have hb : ¬ (mFail (mLook tx e s) (nI 1) (nI (sk tx e s.1))).2.2.1 = 0 := mFail_0 _ _ _ (by decide)
    unfold askT askP at hz2
    rw [q] at hz2
    dsimp only at hz2
    rw [if_neg hb] at hz2
    unfold askE at hz2
    rw [if_neg (show ¬ (t0 (mFail (mLook tx e s) (nI 1) (nI (sk tx e s.1)))).2.2.2.1 = 0 from hb)] at hz2
    exact hb hz2
  cases ho : wdO tx e s with
  | none =>
    rw [ho] at hko
    exact hbad _ hko hq
  | some w =>
    rw [ho] at hko
    dsimp only at hko
    by_cases hw : 33 ≤ w ∧ w ≤ 38
    · rw [if_pos hw] at hko
      have hz1 : (wAf tx e s).2.2.1 = 0 := hz
      have hs1 := (wAf_le hs ho).2.1
      unfold askT askP at hq ⊢
      rw [hko] at hq ⊢
      dsimp only at hq ⊢
      rw [if_pos hz1] at hq ⊢
      by_cases h3 : w - 33 < 3
      · rw [if_pos h3] at hq ⊢
        exact key (rdg_askT he hz1 hs1) hq
      · rw [if_neg h3] at hq ⊢
        exact key (rdg_askS he hz1 hs1) hq
    · rw [if_neg hw] at hko
      exact hbad _ hko hq
theorem ClsRel.qn (hC : ClsRel μ h) (l : QnF μ μ') {fl : Int32 × Int32} (h6 : mI μ' 3 6 = fl.1) (h7 : mI μ' 3 7 = fl.2) : PX μ (tpH h, fl, rfH h, ldH h, stH h, psH h, rwH h, ocH h, sdH h) μ' := by
  have hC0 := hC
  obtain ⟨⟨hB, hT, hF, hRr⟩, ⟨hN, hP⟩, ⟨hW, hO, hD⟩, L0, c0, hL0⟩ := hC
  have h259 := hB.2.2
  have hI : ∀ a k, a < mN μ → a ≠ 3 → a ≠ 5 → a ≠ 6 → a ≠ 8 → mI μ' a k = mI μ a k := fun a k q1 q2 q3 q4 q5 => (l.2 a q1).2.2 k q2 q4 (by omega) (by omega)
  obtain ⟨k1, k2, k3, k4, k5⟩ := hL0
  have rk : ∀ b, b = 33 ∨ b = 35 ∨ b = 38 → RdK μ b (ldH h) L0 → RdK μ' b (ldH h) L0 := fun b hb q => q.ln l.1.1 (fun k => hI b k (by omega) (by omega) (by omega) (by omega) (by omega)) (fun k => hI (b + 1) k (by omega) (by omega) (by omega) (by omega) (by omega)) (fun k => (l.2 b (by omega)).1 k) ((l.2 b (by omega)).2.1 4 (by omega))
  have ps : CsP μ' (psH h) := hP.of (fun a k q1 q2 => hI a k (by omega) (by omega) (by omega) (by omega) (by omega))
  have n40 : CsN μ' 40 (stH h) := hN.of (fun a k q1 q2 => hI a k (by omega) (by omega) (by omega) (by omega) (by omega))
  refine hC0.mk (h' := (tpH h, fl, rfH h, ldH h, stH h, psH h, rwH h, ocH h, sdH h)) l.1 (fun a k q q2 => (l.2 a (by omega)).2.1 k (fun z => q2 (Or.inr (Or.inl z)))) ⟨l.1, fun a k q1 q2 => ⟨hI a k (by omega) (by omega) (by omega) (by omega) (by omega), (l.2 a (by omega)).1 k, (l.2 a (by omega)).2.1 k (by omega)⟩⟩ (fun k => hI 4 k (by omega) (by omega) (by omega) (by omega) (by omega)) (hT.of (hI 1 1 (by omega) (by omega) (by omega) (by omega) (by omega)) (fun k => hI 2 k (by omega) (by omega) (by omega) (by omega) (by omega))) ⟨h6, h7⟩ (hRr.of (fun k => hI 178 k (by omega) (by omega) (by omega) (by omega) (by omega))) n40 ps (hW.of (hI 0 16 (by omega) (by omega) (by omega) (by omega) (by omega)) (fun k => hI 174 k (by omega) (by omega) (by omega) (by omega) (by omega))) (hO.of (hI 0 17 (by omega) (by omega) (by omega) (by omega) (by omega)) (fun k => hI 177 k (by omega) (by omega) (by omega) (by omega) (by omega))) (hD.of (hI 0 18 (by omega) (by omega) (by omega) (by omega) (by omega))) ⟨L0, c0, ((l.2 0 (by omega)).2.1 15 (by omega)).trans k1, k2.same l.1 (fun a q1 q2 => ⟨fun k => hI a k q1 (by unfold InL at q2; omega) (by unfold InL at q2; omega) (by unfold InL at q2; omega) (by unfold InL at q2; omega), fun k => (l.2 a q1).1 k, fun k => (l.2 a q1).2.1 k (by unfold InL at q2; omega)⟩), rk 33 (by omega) k3, rk 35 (by omega) k4, rk 38 (by omega) k5⟩

theorem kx_tonightF (hC : ClsRel μ h) (hH : HOk h) (hW : Wf (ldH h)) {L : Nat} {c : Lc} (hL : CsL μ L c (ldH h)) : AMet l G 5 0 0 mtX12_rideTonight [.ref (G.1 + 0)] μ (qR G.1 (fun y μ' => y = 33 ∧ PX μ h μ' ∧ CsL μ' L c (ldH h) ∧ (∀ k, k < 12 → mI μ' 34 k = nI (kC (ldH h) (ridH h k)) ∧ clOk (ldH h) (ridH h k)) ∧ mR μ' 33 4 = some L ∧ RdF 33 μ μ')) := by
  refine AMet.of (by decide) (Nat.le_of_ble_eq_true rfl) (fun X C hX hnm hq => ?_)
  have hS := hC.1.1.1
  have hN := hC.2.1.1
  obtain ⟨hg, hR, hk1, hk2, hk3⟩ := hL
  have hSW := hH.1.2.1
  have hr32 : (stH h).1.2 < 32 := two5 hSW.2.1 hW.2.2.1.1
  refine C.aload_n dX12_rideTonight_0 0 rfl ?_
  refine C.getO fX12_63 dX12_rideTonight_1 hS.o0 hS.r0_4 ?_
  refine C.aload_n dX12_rideTonight_4 0 rfl ?_
  refine C.getO fX12_54 dX12_rideTonight_5 hS.o0 hg ?_
  refine C.aload_n dX12_rideTonight_8 0 rfl ?_
  refine C.getO fX12_54 dX12_rideTonight_9 hS.o0 hg ?_
  refine C.aload_n dX12_rideTonight_12 0 rfl ?_
  refine C.getO fX12_80 dX12_rideTonight_13 hS.o0 hS.r0_7 ?_
  refine C.getI fX12_178 dX12_rideTonight_16 hS.o40 ?_
  rw [hN.1.2]
  refine C.callVL lX12_291 dX12_rideTonight_19 (kl_closedBy hR hW (by omega)) hR.o rfl rfl (Nat.le_of_ble_eq_true rfl) (Nat.zero_le _) (Nat.zero_le _) (Nat.le_of_ble_eq_true rfl) (fun x19 μ19 h19 => ?_)
  obtain ⟨rfl, hμ⟩ := h19
  subst hμ
  refine C.aload_n dX12_rideTonight_22 0 rfl ?_
  refine C.getO fX12_54 dX12_rideTonight_23 hS.o0 hg ?_
  refine C.getI fX12_294 dX12_rideTonight_26 hR.o ?_
  rw [hR.2.1.1.2.2]
  refine C.aload_n dX12_rideTonight_29 0 rfl ?_
  refine C.getO fX12_80 dX12_rideTonight_30 hS.o0 hS.r0_7 ?_
  refine C.getI fX12_175 dX12_rideTonight_33 hS.o40 ?_
  rw [hN.1.1]
  refine C.callVV lX12_296 dX12_rideTonight_36 (kd_go hS (by omega) hR hW hk1 (clos_lt hW none _) hW.1.2.2.2.2 hSW.1) hS.o33 rfl rfl (Nat.le_of_ble_eq_true rfl) (Nat.zero_le _) (Nat.zero_le _) (Nat.le_of_ble_eq_true rfl) (fun μ36 h36 => ?_)
  obtain ⟨⟨r1, r2, r3, r4, r5⟩, hF⟩ := h36
  rw [ridH_x hW] at r2 r3
  have hS : ShC μ36 := hF.sh (by omega) hS
  have hL2 : CsL _ L c (ldH h) := ⟨hg, hR, hk1, hk2, hk3⟩
  refine C.aload_n dX12_rideTonight_39 0 rfl ?_
  refine C.getO fX12_63 dX12_rideTonight_40 hS.o0 hS.r0_4 ?_
  refine C.aret hq dX12_rideTonight_43 ?_
  exact ⟨rfl, hC.ride hL2 (by omega) hF r5, hL2.ride (by omega) hF r5, fun k hk => ⟨r2 k hk, ridH_ok hW k⟩, r1, hF⟩
theorem kx_ask (hC : ClsRel μ h) (hH : HOk h) (np mp : Int32) {Q : Nat × Tt} (hQ : askT (txL (tpH h)) (tpH h).length (0, -1, 0, -1, np, mp) = Q) : AMet l G 40 2 1602 mtX12_ask [.ref (G.1 + 0)] μ (qL (fun x μ' => x = askA h Q ∧ PX μ (askH h Q) μ')) := by
  refine AMet.of (by decide) (Nat.le_of_ble_eq_true rfl) (fun X C hX hnm hq => ?_)
  have hS := hC.1.1.1
  have h259 := hC.1.1.2.2
  obtain ⟨L, c, hL⟩ := hC.2.2.2
  have hg := hL.1
  have hR := hL.2.1
  have hd7 := hH.d7
  have m47 : ∀ (bc bs : Nat) (M : Mm) (x : Int64) (fl : Int32 × Int32), x = askA h Q → askH h Q = ([], fl, rfH h, ldH h, stH h, psH h, rwH h, ocH h, sdH h) → PX μ (tpH h, fl, rfH h, ldH h, stH h, psH h, rwH h, ocH h, sdH h) M → AW l G X bc bs 47 [(0, .ref (G.1 + 0)), (1, .long x)] [] M := by
    intro bc bs M x fl e1 e2 hPX
    have hS := hPX.1.1.1.1
    have hz := hPX.1.1.2.1.zero
    have ht := hPX.1.tape hz.1 hz.2
    refine C.aload_n dX12_ask_47 0 rfl ?_
    refine C.getO fX12_12 dX12_ask_48 hS.o0 hS.r0_0 ?_
    refine C.iconst (nI 0) dX12_ask_51 (by decide) ?_
    refine C.putI fX12_115 (Or.inl rfl) dX12_ask_52 hS.o1 ?_
    refine C.lload_n dX12_ask_55 1 rfl ?_
    refine C.lret hq dX12_ask_56 ?_
    refine ⟨e1, ?_⟩
    rw [e2]
    exact ⟨ht.1, hPX.2.trans ht.2⟩
  refine C.ldc2 kX12_369 dX12_ask_0 ?_
  refine C.lstore_n (lv' := [(0, _), (1, _)]) dX12_ask_3 (nLt hX rfl) rfl ?_
  refine C.aload_n dX12_ask_4 0 rfl ?_
  refine C.getO fX12_54 dX12_ask_5 hS.o0 hg ?_
  refine C.callVI lX12_271 dX12_ask_8 (kl_stands hR.o hR.2.1.1.1 (by omega)) hR.o rfl rfl (Nat.le_of_ble_eq_true rfl) (Nat.zero_le _) (Nat.zero_le _) (Nat.le_of_ble_eq_true rfl) (fun x8 μ8 h8 => ?_)
  obtain ⟨z8, hμ⟩ := h8
  subst hμ
  rw [z8]
  refine C.if_eq 47 dX12_ask_11 rfl (fun hc11 => ?_) (fun hc11 => ?_)
  · have hno : ¬ 0 < (ldH h).1.1 := of_decide_eq_false ((bI_0 _).mp hc11)
    exact m47 _ _ _ _ (flH h) (by unfold askA; rw [if_neg (fun q => hno q.1)]) (by unfold askH; rw [if_neg hno]) hC.self
  · have hp : 0 < (ldH h).1.1 := of_decide_eq_true (b_t hc11)
    have hW := hH.wfP hp
    refine C.aload_n dX12_ask_14 0 rfl ?_
    refine C.getO fX12_42 dX12_ask_15 hS.o0 hS.r0_3 ?_
    refine C.callVV lX12_371 dX12_ask_18 (kq_read hC.1.1 hC.1.2.1 np mp hQ) hS.o8 rfl rfl (Nat.le_of_ble_eq_true rfl) (by omega) (by omega) (Nat.le_of_ble_eq_true rfl) (fun μ18 h18 => ?_)
    obtain ⟨q1, ⟨q2, q3⟩, q4⟩ := h18
    have hX1 := hC.qn (fl := (Q.2.2.2.2.1, Q.2.2.2.2.2.1)) q1 q2 q3
    have hS := hX1.1.1.1.1
    have hHe : askH h Q = ([], (Q.2.2.2.2.1, Q.2.2.2.2.2.1), rfH h, ldH h, stH h, psH h, rwH h, ocH h, sdH h) := by unfold askH; rw [if_pos hp]
    refine C.aload_n dX12_ask_21 0 rfl ?_
    refine C.getO fX12_21 dX12_ask_22 hS.o0 hS.r0_1 ?_
    refine C.getI fX12_134 dX12_ask_25 hS.o3 ?_
    rw [q2]
    refine C.if_ne 47 dX12_ask_28 rfl (fun hc28 => ?_) (fun hc28 => ?_)
    · exact m47 _ _ _ _ (Q.2.2.2.2.1, Q.2.2.2.2.2.1) (by unfold askA; rw [if_neg (fun q => hc28 q.2)]) hHe hX1
    · obtain ⟨b1, b2, b3, b4⟩ := q4 hc28
      obtain ⟨L1, c1, hL1⟩ := hX1.1.2.2.2
      have hN0 : mN μ8 < mN μ18 := b4.2.2.choose_spec.1.1
      refine C.aload_n dX12_ask_31 0 rfl ?_
      refine C.getO fX12_42 dX12_ask_32 hS.o0 hS.r0_3 ?_
      refine C.aload_n dX12_ask_35 0 rfl ?_
      refine C.callVR lX12_224 dX12_ask_36 (kx_tonightF hX1.1 (show HOk (tpH h, (Q.2.2.2.2.1, Q.2.2.2.2.2.1), rfH h, ldH h, stH h, psH h, rwH h, ocH h, sdH h) from hH) hW hL1) hS.o0 rfl rfl (Nat.le_of_ble_eq_true rfl) (Nat.zero_le _) (Nat.zero_le _) (Nat.le_of_ble_eq_true rfl) (fun x36 μ36 h36 => ?_)
      obtain ⟨rfl, t1, t2, t3, t4, t5⟩ := h36
      have hS := t1.1.1.1.1
      have hcd : CdR μ36 (mN μ8 + 1) (mN μ8) al2 true (decide (Q.1 < 3)) (some Q.2.1.1) := b4.same (Grw.of t5.1) (fun a _ ha => ⟨fun k => t5.2.2.2 a k (by unfold InL at ha; omega) (by unfold InL at ha; omega) (by unfold InL at ha; omega) (by unfold InL at ha; omega) (by unfold InL at ha; omega), fun k => t5.2.2.1 a k (by unfold InL at ha; omega), fun k => t5.2.1 a k (by unfold InL at ha; omega)⟩) (Or.inr (by omega)) (Or.inr (by omega))
      refine C.aload_n dX12_ask_39 0 rfl ?_
      refine C.getO fX12_80 dX12_ask_40 hS.o0 hS.r0_7 ?_
      refine C.callVL lX12_373 dX12_ask_43 (kq_answer (h := h) hS t2.2.1 hW t4 t3 t1.1.2.1.1 hH.1.2.1 b1 ((t5.2.2.2 8 2 (by omega) (by omega) (by omega) (by omega) (by omega)).trans b2) ((t5.2.1 8 3 (by omega)).trans b3) (by omega) (by omega) hcd) hS.o8 rfl rfl (Nat.le_of_ble_eq_true rfl) (Nat.zero_le _) (Nat.zero_le _) (Nat.le_of_ble_eq_true rfl) (fun x43 μ43 h43 => ?_)
      obtain ⟨z43, an⟩ := h43
      refine C.lstore_n (lv' := [(0, _), (1, _)]) dX12_ask_46 (nLt hX rfl) rfl ?_
      have sc : ScF μ36 μ43 := ScF.of2 an.1 (fun a k q => an.2 a k (by unfold scI at q; omega) (by unfold scI at q; omega) (by unfold scI at q; omega) (by unfold scI at q; omega))
      have px := t1.1.sc sc ⟨L1, c1, t2.of an.1 (fun a k q => an.2 a k (by unfold InL at q; omega) (by unfold InL at q; omega) (by unfold InL at q; omega) (by unfold InL at q; omega))⟩
      exact m47 _ _ _ _ (Q.2.2.2.2.1, Q.2.2.2.2.2.1) (by rw [z43]; unfold askA; rw [if_pos (c := 0 < (ldH h).1.1 ∧ Q.2.2.2.2.1 = 0) ⟨hp, hc28⟩]) hHe ⟨px.1, (hX1.2.trans t1.2).trans px.2⟩
end KXQ
