/-! the class: calls of this night -/
theorem isS_f {o : Option Nat} (h : bI o.isSome = 0) : o = none := by
  cases o with
  | none => rfl
  | some x => exact absurd h (show ¬ nI 1 = 0 by decide)
theorem isS_t {o : Option Nat} (h : ¬ bI o.isSome = 0) : ∃ w, o = some w := by
  cases o with
  | none => exact absurd rfl h
  | some x => exact ⟨x, rfl⟩
section KX2
variable {l : Launch} {G : Gm} {μ : Mm} {h : Hs}
theorem HOk.wfB (hH : HOk h) {b : Nat} (hb : b < (ldH h).2.2.1.length) : Wf (ldH h) := by
  rcases hH.1.1 with hW | e
  · exact hW
  · rw [e] at hb; exact absurd hb (by show ¬ b < 0; omega)
theorem HOk.wfW (hH : HOk h) {b : Nat} (hb : b < (ldH h).2.2.2.1.length) : Wf (ldH h) := by
  rcases hH.1.1 with hW | e
  · exact hW
  · rw [e] at hb; exact absurd hb (by show ¬ b < 0; omega)
theorem HOk.wfP (hH : HOk h) (hp : 0 < (ldH h).1.1) : Wf (ldH h) := by
  rcases hH.1.1 with hW | e
  · exact hW
  · rw [e] at hp; exact absurd hp (by decide)
theorem ridH_x (hW : Wf (ldH h)) : rX (ldH h) (closB (ldH h) none (stH h).1.2) (stH h).1.1 (ldH h).1.2.2 = ridH h := rx_fun hW hW.1.2.2.2.2
theorem ridH_ok (hW : Wf (ldH h)) (k : Nat) : clOk (ldH h) (ridH h k) := rF_ok hW hW.1.2.2.2.2 k

theorem kx_tonight (hC : ClsRel μ h) (hH : HOk h) (hW : Wf (ldH h)) {L : Nat} {c : Lc} (hL : CsL μ L c (ldH h)) : AMet l G 5 0 0 mtX12_rideTonight [.ref (G.1 + 0)] μ (qR G.1 (fun y μ' => y = 33 ∧ PX μ h μ' ∧ CsL μ' L c (ldH h) ∧ (∀ k, k < 12 → mI μ' 34 k = nI (kC (ldH h) (ridH h k)) ∧ clOk (ldH h) (ridH h k)) ∧ mR μ' 33 4 = some L ∧ mL μ' 33 2 = lN (trB (ldH h) (ridH h)))) := by
  refine AMet.of (by decide) (Nat.le_of_ble_eq_true rfl) (fun X C hX hnm hq => ?_)
  have hS := hC.1.1.1
  have hN := hC.2.1.1
  obtain ⟨hg, hR, hk1, hk2, hk3⟩ := hL
  have hSW := hH.1.2.1
  have hr32 : (stH h).1.2 < 32 := two5 hSW.2.1 hW.2.2.1.1
  refine C.aload_n dX12_rideTonight_0 0 rfl ?_
  refine C.getO fX12_63 dX12_rideTonight_1 hS.o0 hS.r0_4 ?_
  refine C.aload_n dX12_rideTonight_4 0 rfl ?_
  refine C.getO fX12_54 dX12_rideTonight_5 hS.o0 hg ?_
  refine C.aload_n dX12_rideTonight_8 0 rfl ?_
  refine C.getO fX12_54 dX12_rideTonight_9 hS.o0 hg ?_
  refine C.aload_n dX12_rideTonight_12 0 rfl ?_
  refine C.getO fX12_80 dX12_rideTonight_13 hS.o0 hS.r0_7 ?_
  refine C.getI fX12_178 dX12_rideTonight_16 hS.o40 ?_
  rw [hN.1.2]
  refine C.callVL lX12_291 dX12_rideTonight_19 (kl_closedBy hR hW (by omega)) hR.o rfl rfl (Nat.le_of_ble_eq_true rfl) (Nat.zero_le _) (Nat.zero_le _) (Nat.le_of_ble_eq_true rfl) (fun x19 μ19 h19 => ?_)
  obtain ⟨rfl, hμ⟩ := h19
  subst hμ
  refine C.aload_n dX12_rideTonight_22 0 rfl ?_
  refine C.getO fX12_54 dX12_rideTonight_23 hS.o0 hg ?_
  refine C.getI fX12_294 dX12_rideTonight_26 hR.o ?_
  rw [hR.2.1.1.2.2]
  refine C.aload_n dX12_rideTonight_29 0 rfl ?_
  refine C.getO fX12_80 dX12_rideTonight_30 hS.o0 hS.r0_7 ?_
  refine C.getI fX12_175 dX12_rideTonight_33 hS.o40 ?_
  rw [hN.1.1]
  refine C.callVV lX12_296 dX12_rideTonight_36 (kd_go hS (by omega) hR hW hk1 (clos_lt hW none _) hW.1.2.2.2.2 hSW.1) hS.o33 rfl rfl (Nat.le_of_ble_eq_true rfl) (Nat.zero_le _) (Nat.zero_le _) (Nat.le_of_ble_eq_true rfl) (fun μ36 h36 => ?_)
  obtain ⟨⟨r1, r2, r3, r4, r5⟩, hF⟩ := h36
  rw [ridH_x hW] at r2 r3
  have hS : ShC μ36 := hF.sh (by omega) hS
  have hL2 : CsL _ L c (ldH h) := ⟨hg, hR, hk1, hk2, hk3⟩
  refine C.aload_n dX12_rideTonight_39 0 rfl ?_
  refine C.getO fX12_63 dX12_rideTonight_40 hS.o0 hS.r0_4 ?_
  refine C.aret hq dX12_rideTonight_43 ?_
  exact ⟨rfl, hC.ride hL2 (by omega) hF r5, hL2.ride (by omega) hF r5, fun k hk => ⟨r2 k hk, ridH_ok hW k⟩, r1, r3⟩
theorem kx_coord (hS : ShC μ) {L : Nat} {c : Lc} {d : Ld} (hL : CsL μ L c d) (hW : Wf d) {e : Nat} (he : clOk d e) (y : Int32) : AMet l G 1 0 0 mtX12_coordinate [.ref (G.1 + 0), .int (nI (kC d e)), .int y] μ (qI (fun z μ' => z = (if y = nI 0 then nI (e % 7) else if y = nI 1 then nI (e / 7) else -1) ∧ μ' = μ)) := by
  refine AMet.of (by decide) (Nat.le_of_ble_eq_true rfl) (fun X C hX hnm hq => ?_)
  obtain ⟨hg, hR, -, -, -⟩ := hL
  have hk := kC_lt he
  have h49 := hW.n49
  have h7 := hW.w7
  refine C.iload_n dX12_coordinate_0 2 rfl ?_
  refine C.if_ne 13 dX12_coordinate_1 rfl (fun hc1 => ?_) (fun hc1 => ?_)
  · refine C.iload_n dX12_coordinate_13 2 rfl ?_
    refine C.iconst (nI 1) dX12_coordinate_14 (by decide) ?_
    refine C.icmp_ne 29 dX12_coordinate_15 rfl (fun hc15 => ?_) (fun hc15 => ?_)
    · refine C.iconst (-1) dX12_coordinate_29 (by decide) ?_
      refine C.iret hq dX12_coordinate_30 ?_
      refine ⟨?_, rfl⟩
      have hc1' : ¬ y = nI 0 := hc1
      first | (rw [if_neg hc1', if_pos hc15]) | (rw [if_neg hc1', if_neg hc15])
    · refine C.aload_n dX12_coordinate_18 0 rfl ?_
      refine C.getO fX12_54 dX12_coordinate_19 hS.o0 hg ?_
      refine C.iload_n dX12_coordinate_22 1 rfl ?_
      refine C.callVI lX12_237 dX12_coordinate_23 (kl_rowOf hR.o hR.2.1.1.1 (by omega) (by omega) (by omega)) hR.o rfl rfl (Nat.le_of_ble_eq_true rfl) (Nat.zero_le _) (Nat.zero_le _) (Nat.le_of_ble_eq_true rfl) (fun x23 μ23 h23 => ?_)
      obtain ⟨rfl, hμ⟩ := h23
      subst hμ
      rw [kC_div he]
      refine C.goto 30 dX12_coordinate_26 rfl ?_
      refine C.iret hq dX12_coordinate_30 ?_
      refine ⟨?_, rfl⟩
      have hc1' : ¬ y = nI 0 := hc1
      first | (rw [if_neg hc1', if_pos hc15]) | (rw [if_neg hc1', if_neg hc15])
  · refine C.aload_n dX12_coordinate_4 0 rfl ?_
    refine C.getO fX12_54 dX12_coordinate_5 hS.o0 hg ?_
    refine C.iload_n dX12_coordinate_8 1 rfl ?_
    refine C.callVI lX12_234 dX12_coordinate_9 (kl_columnOf hR.o hR.2.1.1.1 (by omega) (by omega) (by omega)) hR.o rfl rfl (Nat.le_of_ble_eq_true rfl) (Nat.zero_le _) (Nat.zero_le _) (Nat.le_of_ble_eq_true rfl) (fun x9 μ9 h9 => ?_)
    obtain ⟨rfl, hμ⟩ := h9
    subst hμ
    rw [kC_mod he]
    refine C.iret hq dX12_coordinate_12 ?_
    exact ⟨(if_pos hc1).symm, rfl⟩
theorem kx_hunt (hC : ClsRel μ h) (hH : HOk h) (x y : Int32) : AMet l G 6 0 0 mtX12_hunt [.ref (G.1 + 0), .int x, .int y] μ (qI (fun z μ' => z = huntA h x y ∧ PX μ h μ')) := by
  refine AMet.of (by decide) (Nat.le_of_ble_eq_true rfl) (fun X C hX hnm hq => ?_)
  have hS := hC.1.1.1
  obtain ⟨L, c, hL⟩ := hC.2.2.2
  have hg := hL.1
  have hR := hL.2.1
  have hd7 := hH.d7
  unfold huntA at hq
  refine C.aload_n dX12_hunt_0 0 rfl ?_
  refine C.getO fX12_54 dX12_hunt_1 hS.o0 hg ?_
  refine C.callVI lX12_271 dX12_hunt_4 (kl_stands hR.o hR.2.1.1.1 (by omega)) hR.o rfl rfl (Nat.le_of_ble_eq_true rfl) (Nat.zero_le _) (Nat.zero_le _) (Nat.le_of_ble_eq_true rfl) (fun x4 μ4 h4 => ?_)
  obtain ⟨rfl, hμ⟩ := h4
  subst hμ
  refine C.if_eq 20 dX12_hunt_7 rfl (fun hc7 => ?_) (fun hc7 => ?_)
  · have h0 : ¬ 0 < (ldH h).1.1 := of_decide_eq_false ((bI_0 _).mp hc7)
    rw [if_neg h0] at hq
    refine C.iconst (-1) dX12_hunt_20 (by decide) ?_
    refine C.iret hq dX12_hunt_21 ?_
    exact ⟨rfl, hC.self⟩
  · have hp : 0 < (ldH h).1.1 := of_decide_eq_true (b_t hc7)
    have hW := hH.wfP hp
    rw [if_pos hp] at hq
    refine C.iload_n dX12_hunt_10 1 rfl ?_
    refine C.if_lt 20 dX12_hunt_11 rfl (fun hc11 => ?_) (fun hc11 => ?_)
    · rw [inN_f (Or.inl hc11)] at hq
      refine C.iconst (-1) dX12_hunt_20 (by decide) ?_
      refine C.iret hq dX12_hunt_21 ?_
      exact ⟨rfl, hC.self⟩
    · refine C.iload_n dX12_hunt_14 1 rfl ?_
      refine C.bipush (nI 12) dX12_hunt_15 (by decide) ?_
      refine C.icmp_lt 22 dX12_hunt_17 rfl (fun hc17 => ?_) (fun hc17 => ?_)
      · obtain ⟨k, hk, ek, e9⟩ := inN_t (n := 12) (by decide) hc11 (Int32.not_le.mpr hc17)
        rw [e9] at hq
        subst ek
        refine C.aload_n dX12_hunt_22 0 rfl ?_
        refine C.aload_n dX12_hunt_23 0 rfl ?_
        refine C.callVR lX12_224 dX12_hunt_24 (kx_tonight hC hH hW hL) hS.o0 rfl rfl (Nat.le_of_ble_eq_true rfl) (Nat.zero_le _) (Nat.zero_le _) (Nat.le_of_ble_eq_true rfl) (fun x24 μ24 h24 => ?_)
        obtain ⟨rfl, hPX, hL2, hri, hl2, htr⟩ := h24
        have hS : ShC μ24 := hPX.1.1.1.1
        refine C.getA fX12_275 dX12_hunt_27 hS.o33 hS.r33_0 ?_
        refine C.iload_n dX12_hunt_30 1 rfl ?_
        refine C.iald hS.a34 (n_in hk) dX12_hunt_31 ?_
        rw [n_cl, (hri k hk).1]
        refine C.iload_n dX12_hunt_32 2 rfl ?_
        refine C.callVI lX12_278 dX12_hunt_33 (kx_coord hS hL2 hW (hri k hk).2 y) hS.o0 rfl rfl (Nat.le_of_ble_eq_true rfl) (Nat.zero_le _) (Nat.zero_le _) (Nat.le_of_ble_eq_true rfl) (fun x33 μ33 h33 => ?_)
        obtain ⟨rfl, hμ⟩ := h33
        subst hμ
        refine C.iret hq dX12_hunt_36 ?_
        exact ⟨rfl, hPX⟩
      · rw [inN_f (Or.inr (Int32.not_lt.mp hc17))] at hq
        refine C.iconst (-1) dX12_hunt_20 (by decide) ?_
        refine C.iret hq dX12_hunt_21 ?_
        exact ⟨rfl, hC.self⟩
theorem kx_meets (hC : ClsRel μ h) (hH : HOk h) (x : Int32) : AMet l G 6 0 0 mtX12_meets [.ref (G.1 + 0), .int x] μ (qI (fun z μ' => z = meetsA h x ∧ PX μ h μ')) := by
  refine AMet.of (by decide) (Nat.le_of_ble_eq_true rfl) (fun X C hX hnm hq => ?_)
  have hS := hC.1.1.1
  obtain ⟨L, c, hL⟩ := hC.2.2.2
  have hg := hL.1
  have hR := hL.2.1
  have hd7 := hH.d7
  unfold meetsA at hq
  refine C.aload_n dX12_meets_0 0 rfl ?_
  refine C.getO fX12_54 dX12_meets_1 hS.o0 hg ?_
  refine C.iload_n dX12_meets_4 1 rfl ?_
  refine C.callVI lX12_198 dX12_meets_5 (kl_isWalker hR.o hR.2.1.2.1.2 (by omega) x) hR.o rfl rfl (Nat.le_of_ble_eq_true rfl) (Nat.zero_le _) (Nat.zero_le _) (Nat.le_of_ble_eq_true rfl) (fun x5 μ5 h5 => ?_)
  obtain ⟨rfl, hμ⟩ := h5
  subst hμ
  refine C.if_ne 13 dX12_meets_8 rfl (fun hc8 => ?_) (fun hc8 => ?_)
  · obtain ⟨w, hz⟩ := isS_t hc8
    rw [hz] at hq
    obtain ⟨hw, ew⟩ := inN_some (by omega) hz
    subst ew
    have hW := hH.wfW hw
    refine C.aload_n dX12_meets_13 0 rfl ?_
    refine C.callVR lX12_224 dX12_meets_14 (kx_tonight hC hH hW hL) hS.o0 rfl rfl (Nat.le_of_ble_eq_true rfl) (Nat.zero_le _) (Nat.zero_le _) (Nat.le_of_ble_eq_true rfl) (fun x14 μ14 h14 => ?_)
    obtain ⟨rfl, hPX, hL2, hri, hl2, htr⟩ := h14
    have hS : ShC μ14 := hPX.1.1.1.1
    refine C.aload_n dX12_meets_17 0 rfl ?_
    refine C.getO fX12_80 dX12_meets_18 hS.o0 hS.r0_7 ?_
    refine C.iload_n dX12_meets_21 1 rfl ?_
    refine C.callVI lX12_281 dX12_meets_22 (kd_meeting hS (by omega) hL2.2.1 hW hl2 hri hS.s40 hPX.1.2.1.1 hH.1.2.1 hw) hS.o33 rfl rfl (Nat.le_of_ble_eq_true rfl) (Nat.zero_le _) (Nat.zero_le _) (Nat.le_of_ble_eq_true rfl) (fun x22 μ22 h22 => ?_)
    obtain ⟨rfl, hμ⟩ := h22
    subst hμ
    refine C.iret hq dX12_meets_25 ?_
    exact ⟨rfl, hPX⟩
  · have hz := isS_f hc8
    rw [hz] at hq
    refine C.iconst (-1) dX12_meets_11 (by decide) ?_
    refine C.iret hq dX12_meets_12 ?_
    exact ⟨rfl, hC.self⟩
theorem kx_safe (hC : ClsRel μ h) (hH : HOk h) (x : Int32) : AMet l G 6 0 0 mtX12_safe [.ref (G.1 + 0), .int x] μ (qI (fun z μ' => z = safeA h x ∧ PX μ h μ')) := by
  refine AMet.of (by decide) (Nat.le_of_ble_eq_true rfl) (fun X C hX hnm hq => ?_)
  have hS := hC.1.1.1
  obtain ⟨L, c, hL⟩ := hC.2.2.2
  have hg := hL.1
  have hR := hL.2.1
  have hd7 := hH.d7
  unfold safeA at hq
  refine C.aload_n dX12_safe_0 0 rfl ?_
  refine C.getO fX12_54 dX12_safe_1 hS.o0 (by first | exact hg | exact hL2.1) ?_
  refine C.iload_n dX12_safe_4 1 rfl ?_
  refine C.callVI lX12_198 dX12_safe_5 (kl_isWalker hR.o hR.2.1.2.1.2 (by omega) x) (by first | exact hR.o | exact hL2.2.1.o) rfl rfl (Nat.le_of_ble_eq_true rfl) (Nat.zero_le _) (Nat.zero_le _) (Nat.le_of_ble_eq_true rfl) (fun x5 μ5 h5 => ?_)
  obtain ⟨rfl, hμ⟩ := h5
  subst hμ
  refine C.if_ne 13 dX12_safe_8 rfl (fun hc8 => ?_) (fun hc8 => ?_)
  · obtain ⟨w, hz⟩ := isS_t hc8
    rw [hz] at hq
    obtain ⟨hw, ew⟩ := inN_some (by omega) hz
    subst ew
    have hW := hH.wfW hw
    have hwq : (ldH h).2.2.2.1[w]? = some ((ldH h).2.2.2.1.getD w (0, 0, 0, 0)) := by rw [List.getD_eq_getElem?_getD, List.getElem?_eq_getElem hw]; rfl
    refine C.aload_n dX12_safe_13 0 rfl ?_
    refine C.callVR lX12_224 dX12_safe_14 (kx_tonight hC hH hW hL) hS.o0 rfl rfl (Nat.le_of_ble_eq_true rfl) (Nat.zero_le _) (Nat.zero_le _) (Nat.le_of_ble_eq_true rfl) (fun x14 μ14 h14 => ?_)
    obtain ⟨rfl, hPX, hL2, hri, hl2, htr⟩ := h14
    have hS : ShC μ14 := hPX.1.1.1.1
    have hR2 := hL2.2.1
    obtain ⟨w6, g1, g2, g3, g4⟩ := hR2.2.2.2.2.1 w _ hwq
    have g40 : mI μ14 (c (20 + w)) 0 = nI (kC (ldH h) (walkF (ldH h) w)) := by rw [g4 0 (by decide)]; congr 1; exact congrArg (kC (ldH h)) (show walkF (ldH h) w % 7 + 7 * (walkF (ldH h) w / 7) = walkF (ldH h) w by omega)
    refine C.aload_n dX12_safe_17 0 rfl ?_
    refine C.getO fX12_54 dX12_safe_18 hS.o0 (by first | exact hg | exact hL2.1) ?_
    refine C.getA fX12_250 dX12_safe_21 (by first | exact hR.o | exact hL2.2.1.o) (hR2.r (by decide)) ?_
    refine C.iload_n dX12_safe_24 1 rfl ?_
    refine C.aald hR2.1.2.2.2.2.1.1 (Or.inr rfl) (n_in w6) (by rw [n_cl (by omega)]; exact (hR2.1.2.2.2.2.1.2 w w6).1) dX12_safe_25 ?_
    refine C.iconst (nI 0) dX12_safe_26 (by decide) ?_
    refine C.iald (hR2.1.2.2.2.2.1.2 w w6).2 (n_in (by decide)) dX12_safe_27 ?_
    rw [n_cl, g40]
    refine C.aload_n dX12_safe_28 0 rfl ?_
    refine C.getO fX12_54 dX12_safe_29 hS.o0 (by first | exact hg | exact hL2.1) ?_
    refine C.getA fX12_253 dX12_safe_32 (by first | exact hR.o | exact hL2.2.1.o) (hR2.r (by decide)) ?_
    refine C.iload_n dX12_safe_35 1 rfl ?_
    refine C.iald hR2.1.2.2.2.1.2.2.2.1 (n_in w6) dX12_safe_36 ?_
    rw [n_cl, g1]
    refine C.callVI lX12_285 dX12_safe_37 (kd_safe hS (by omega) hR2 hW hl2 hri (hW.walkF hw) (hW.walkT hw)) hS.o33 rfl rfl (Nat.le_of_ble_eq_true rfl) (Nat.zero_le _) (Nat.zero_le _) (Nat.le_of_ble_eq_true rfl) (fun x37 μ37 h37 => ?_)
    obtain ⟨rfl, hμ⟩ := h37
    subst hμ
    refine C.iret hq dX12_safe_40 ?_
    exact ⟨rfl, hPX⟩
  · have hz := isS_f hc8
    rw [hz] at hq
    refine C.iconst (-1) dX12_safe_11 (by decide) ?_
    refine C.iret hq dX12_safe_12 ?_
    exact ⟨rfl, hC.self⟩
end KX2
