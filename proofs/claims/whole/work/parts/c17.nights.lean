/-! the class: nights, chance, first -/
section NST
variable {d : Ld}
theorem nightA_st (more : Option Nat) (th storm : Bool) (S : St) (m k s : Nat) : (nightA d more th storm (S, m, k, s)).1 = (nightA d more th storm (S, 0, 0, 0)).1 := by rw [nightA_ac more th storm (S, m, k, s)]; rfl
theorem nit_st {more : Option Nat} : ∀ (n : Nat) (S : St) (m k : Nat) (a : Ac), a.1 = S → (nitC d more n (S, m, k)).1 = (nightsA d more false n a).1
  | 0, S, m, k, a, h => h.symm
  | n + 1, S, m, k, a, h => by
    unfold nitC nightsA
    refine nit_st n _ _ _ _ ?_
    dsimp only
    obtain ⟨a1, a2, a3, a4⟩ := a
    have h' : a1 = S := h
    subst h'
    rw [nightA_st, nightA_st more false false a1 m k 0]
end NST
section KX9
variable {l : Launch} {G : Gm} {μ : Mm} {h : Hs} {L : Nat} {c : Lc}
theorem ClsRel.nightUp {μ' : Mm} {S : St} (hC : ClsRel μ h) (hL : CsL μ L c (ldH h)) (r : HnF 40 μ μ') (hk : RdK μ' 38 (ldH h) L) (hN : CsN μ' 40 S) : PX μ (tpH h, flH h, rfH h, ldH h, S, psH h, rwH h, ocH h, sdH h) μ' ∧ CsL μ' L c (ldH h) := by
  have hI : ∀ a k, ¬ (11 ≤ a ∧ a ≤ 14) → ¬ (37 ≤ a ∧ a ≤ 45) → mI μ' a k = mI μ a k := fun a k q1 q2 => r.2.2.2 a k (by omega) (by omega) (by omega) (by omega) (by omega) (by omega) (by omega)
  have hL2 := hL.night (Or.inl rfl) r hk
  refine ⟨hC.mk (h' := (tpH h, flH h, rfH h, ldH h, S, psH h, rwH h, ocH h, sdH h)) r.grw (fun a k _ q => r.2.1 a k (fun z => q (by unfold dynR; omega))) ⟨r.grw, fun a k q1 q2 => ⟨hI a k (by omega) (by omega), r.2.2.1 a k (by omega) (by omega), r.2.1 a k (by omega)⟩⟩ (fun k => hI _ _ (by omega) (by omega)) (hC.1.2.1.of (hI _ _ (by omega) (by omega)) (fun k => hI _ _ (by omega) (by omega))) (hC.1.2.2.1.of (hI _ _ (by omega) (by omega)) (hI _ _ (by omega) (by omega))) (hC.1.2.2.2.of (fun k => hI _ _ (by omega) (by omega))) hN (hC.2.1.2.of (fun a k q1 q2 => hI a k (by omega) (by omega))) (hC.2.2.1.1.of (hI _ _ (by omega) (by omega)) (fun k => hI _ _ (by omega) (by omega))) (hC.2.2.1.2.1.of (hI _ _ (by omega) (by omega)) (fun k => hI _ _ (by omega) (by omega))) (hC.2.2.1.2.2.of (hI _ _ (by omega) (by omega))) ⟨L, c, hL2⟩, hL2⟩
theorem ClsRel.start (hC : ClsRel μ h) (hL : CsL μ L c (ldH h)) : PX μ h (sL (sI (sI μ 37 2 (nI 0)) 37 3 (nI 0)) 37 5 (lN 0)) ∧ CsL (sL (sI (sI μ 37 2 (nI 0)) 37 3 (nI 0)) 37 5 (lN 0)) L c (ldH h) := by
  have sc4 : ScF μ (sL (sI (sI μ 37 2 (nI 0)) 37 3 (nI 0)) 37 5 (lN 0)) := ⟨rfl, fun _ _ _ => rfl, fun a k q => by rw [mL_sL, if_neg (by unfold scL at q; omega)]; rfl, fun a k q => by rw [mI_sL, mI_sI, if_neg (by unfold scI at q; omega), mI_sI, if_neg (by unfold scI at q; omega)]⟩
  have hL4 : CsL (sL (sI (sI μ 37 2 (nI 0)) 37 3 (nI 0)) 37 5 (lN 0)) L c (ldH h) := ⟨hL.1, sc4.ld hL.2.1, hL.2.2.1.of (Nat.le_refl _) rfl (fun k => by rw [mL_sL, if_neg (by omega)]; rfl) (fun a k q => by rw [mI_sL, mI_sI, if_neg (by omega), mI_sI, if_neg (by omega)]), hL.2.2.2.1.of (Nat.le_refl _) rfl (fun k => by rw [mL_sL, if_neg (by omega)]; rfl) (fun a k q => by rw [mI_sL, mI_sI, if_neg (by omega), mI_sI, if_neg (by omega)]), hL.2.2.2.2.of (Nat.le_refl _) rfl (fun k => by rw [mL_sL, if_neg (by omega)]; rfl) (fun a k q => by rw [mI_sL, mI_sI, if_neg (by omega), mI_sI, if_neg (by omega)])⟩
  exact ⟨hC.sc sc4 ⟨L, c, hL4⟩, hL4⟩

theorem kx_nights (hC : ClsRel μ h) (hH : HOk h) (x : Int32) : AMet l G 6 0 0 mtX12_nights [.ref (G.1 + 0), .int x] μ (qI (fun z μ' => z = nightsV h x ∧ PX μ (nightsH h x) μ')) := by
  refine AMet.of (by decide) (Nat.le_of_ble_eq_true rfl) (fun X C hX hnm hq => ?_)
  have hS := hC.1.1.1
  obtain ⟨L, c, hL⟩ := hC.2.2.2
  have hd7 := hH.d7
  have hN := hC.2.1.1
  unfold nightsV nightsH at hq
  have main : ∀ n, 0 < (ldH h).1.1 → n ≤ 100 → (stH h).1.1 + n ≤ 999 → MR G X (qI (fun z μ' => z = nI (nightsA (ldH h) none false n (stH h, 0, 0, 0)).2.1 ∧ PX μ (actH h (nightsA (ldH h) none false n (stH h, 0, 0, 0)).1) μ')) → AW l G X 0 0 17 [(0, .ref (G.1 + 0)), (1, .int (nI n))] [] μ := by
    clear hq
    intro n hp hn100 hn hq
    have hW := hH.wfP hp
    have e1 := nit_st (d := ldH h) (more := none) n (stH h) 0 0 (stH h, 0, 0, 0) rfl
    have e2 := (eqCn (d := ldH h) (more := none) (th := false) n (stH h, 0, 0, 0) (stH h, 0, 0) ⟨rfl, rfl, rfl, rfl⟩).2.2.1
    rw [e2, ← e1] at hq
    have loop : ∀ (j i : Nat) (a : St × Nat × Nat) (E : Nat) (μ1 : Mm), i + j = n → PX μ (actH h a.1) μ1 → CsL μ1 L c (ldH h) → SWf (ldH h) a.1 → a.1.1.1 + j ≤ 999 → mI μ1 37 2 = nI a.2.1 → mI μ1 37 3 = nI a.2.2 → mL μ1 37 5 = lN E → nitC (ldH h) none j a = nitC (ldH h) none n (stH h, 0, 0) → AW l G X 0 0 37 [(0, .ref (G.1 + 0)), (1, .int (nI n)), (2, .int (nI i))] [] μ1 := by
      intro j
      induction j with
      | zero =>
        intro i a E μ1 hi hPX hL1 hSW1 _ c2 c3 c5 ev
        have ev' : a = nitC (ldH h) none n (stH h, 0, 0) := ev
        rw [← ev'] at hq
        have hS := hPX.1.1.1.1
        refine C.iload_n dX12_nights_37 2 rfl ?_
        refine C.iload_n dX12_nights_38 1 rfl ?_
        refine C.icmp_ge 64 dX12_nights_39 rfl (fun hc39 => ?_) (fun hc39 => ?_)
        · refine C.aload_n dX12_nights_64 0 rfl ?_
          refine C.getO fX12_73 dX12_nights_65 hS.o0 hS.r0_6 ?_
          refine C.getI fX12_311 dX12_nights_68 hS.o37 ?_
          refine C.iret hq dX12_nights_71 ?_
          exact ⟨c2, hPX⟩
        · exact absurd (n_nle hc39) (by omega)
      | succ j ih =>
        intro i a E μ1 hi hPX hL1 hSW1 hng c2 c3 c5 ev
        have hS := hPX.1.1.1.1
        have hN1 : CsN μ1 40 a.1 := hPX.1.2.1.1
        obtain ⟨hg, hR, hk1, hk2, hk3⟩ := id hL1
        obtain ⟨sw1, sw2⟩ := night_a0 hW (more := none) (th := false) (storm := false) (a := (a.1, a.2.1, a.2.2, 0)) hSW1 (by show a.1.1.1 < 999; omega)
        have hn1 : (nightA (ldH h) none false false (a.1, a.2.1, a.2.2, 0)).1.1.1 = a.1.1.1 + 1 := by rw [sw2]
        refine C.iload_n dX12_nights_37 2 rfl ?_
        refine C.iload_n dX12_nights_38 1 rfl ?_
        refine C.icmp_ge 64 dX12_nights_39 rfl (fun hc39 => ?_) (fun hc39 => ?_)
        · exact absurd (n_le hc39) (by omega)
        · refine C.aload_n dX12_nights_42 0 rfl ?_
          refine C.getO fX12_73 dX12_nights_43 hS.o0 hS.r0_6 ?_
          refine C.aload_n dX12_nights_46 0 rfl ?_
          refine C.getO fX12_54 dX12_nights_47 hS.o0 hg ?_
          refine C.aload_n dX12_nights_50 0 rfl ?_
          refine C.getO fX12_80 dX12_nights_51 hS.o0 hS.r0_7 ?_
          refine C.lconst (lN 0) dX12_nights_54 (by decide) ?_
          refine C.callVV lX12_335 dX12_nights_55 (kh_night (more := none) hS (Or.inl rfl) hR hW hk3 (fun x q => by cases q) hN1 hSW1 (by omega) c2 c3 c5) hS.o37 rfl rfl (Nat.le_of_ble_eq_true rfl) (Nat.zero_le _) (Nat.zero_le _) (Nat.le_of_ble_eq_true rfl) (fun μ55 h55 => ?_)
          obtain ⟨g1, g2, g3, g4, g5⟩ := h55
          obtain ⟨hP2, hL2⟩ := hPX.1.nightUp (h := actH h a.1) hL1 g5 g4 g1
          refine C.iinc (lv' := [(0, _), (1, _), (2, _)]) _ dX12_nights_58 2 rfl rfl (nLt hX rfl) rfl ?_
          refine C.goto 37 dX12_nights_61 rfl ?_
          have hgo := ih (i + 1) ((nightA (ldH h) none false false (a.1, a.2.1, a.2.2, 0)).1, (nightA (ldH h) none false false (a.1, a.2.1, a.2.2, 0)).2.1, (nightA (ldH h) none false false (a.1, a.2.1, a.2.2, 0)).2.2.1) (E ||| enB (ldH h) (rideN (ldH h) none a.1)) μ55 (by omega) (hPX.trans hP2) hL2 sw1 (by dsimp only; omega) g2.1 g2.2.1 g3 ev
          rw [← nI_1] at hgo
          exact hgo
    refine C.aload_n dX12_nights_17 0 rfl ?_
    refine C.getO fX12_90 dX12_nights_18 hS.o0 hS.r0_9 ?_
    refine C.aload_n dX12_nights_21 0 rfl ?_
    refine C.getO fX12_80 dX12_nights_22 hS.o0 hS.r0_7 ?_
    refine C.callVV lX12_354 dX12_nights_25 (kp_keep hS hN hC.2.1.2) hS.o52 rfl rfl (Nat.le_of_ble_eq_true rfl) (Nat.zero_le _) (Nat.zero_le _) (Nat.le_of_ble_eq_true rfl) (fun μ25 h25 => ?_)
    obtain ⟨g1, g2⟩ := h25
    have hN2 : CsN μ25 40 (stH h) := hN.of (fun a k q1 q2 => g2.2 a k (by omega) (by omega))
    have hP1 := hC.act (S := stH h) (ps := pushP (stH h) (psH h)) g2.1 (fun a k q1 q2 => g2.2 a k (by omega) (by omega)) hN2 g1
    have hL1 := hL.of g2.1 (fun a k q => g2.2 a k (by unfold InL at q; omega) (by unfold InL at q; omega))
    have hS : ShC μ25 := hP1.1.1.1.1
    refine C.aload_n dX12_nights_28 0 rfl ?_
    refine C.getO fX12_73 dX12_nights_29 hS.o0 hS.r0_6 ?_
    refine C.callVV lX12_323 dX12_nights_32 (kh_start hS) hS.o37 rfl rfl (Nat.le_of_ble_eq_true rfl) (Nat.zero_le _) (Nat.zero_le _) (Nat.le_of_ble_eq_true rfl) (fun μ32 h32 => ?_)
    obtain ⟨hP2, hL2⟩ := ClsRel.start hP1.1 hL1
    rw [← h32] at hP2 hL2
    refine C.iconst (nI 0) dX12_nights_35 (by decide) ?_
    refine C.istore_n (lv' := [(0, _), (1, _), (2, _)]) dX12_nights_36 (nLt hX rfl) rfl ?_
    exact loop n 0 (stH h, 0, 0) 0 μ32 (Nat.zero_add _) (hP1.trans hP2) hL2 hH.1.2.1 hn (by rw [h32]; simp [mI_sL, mI_sI]) (by rw [h32]; simp [mI_sL, mI_sI]) (by rw [h32]; simp [mL_sL]) rfl
  refine C.aload_n dX12_nights_0 0 rfl ?_
  refine C.iload_n dX12_nights_1 1 rfl ?_
  refine C.iconst (nI 1) dX12_nights_2 (by decide) ?_
  refine C.bipush (nI 100) dX12_nights_3 (by decide) ?_
  refine C.callVI lX12_303 dX12_nights_5 (kx_canGo hC hH x (by decide) (by decide)) hS.o0 rfl rfl (Nat.le_of_ble_eq_true rfl) (Nat.zero_le _) (Nat.zero_le _) (Nat.le_of_ble_eq_true rfl) (fun x5 μ5 h5 => ?_)
  obtain ⟨rfl, hμ⟩ := h5
  subst hμ
  refine C.if_ne 17 dX12_nights_8 rfl (fun hc8 => ?_) (fun hc8 => ?_)
  · obtain ⟨n, hz⟩ := isS_t hc8
    rw [hz] at hq
    obtain ⟨hp, -, h100, hn, ex⟩ := ahdN_some (by decide) (by decide) hz
    rw [ex]
    exact main n hp h100 hn hq
  · have hz := isS_f hc8
    rw [hz] at hq
    refine C.aload_n dX12_nights_11 0 rfl ?_
    refine C.iconst (nI 3) dX12_nights_12 (by decide) ?_
    refine C.callVI lX12_118 dX12_nights_13 (kx_refuse hC (j := 3) (by decide)) hS.o0 rfl rfl (Nat.le_of_ble_eq_true rfl) (Nat.zero_le _) (Nat.zero_le _) (Nat.le_of_ble_eq_true rfl) (fun x13 μ13 h13 => ?_)
    obtain ⟨rfl, hPX⟩ := h13
    refine C.iret hq dX12_nights_16 ?_
    exact ⟨rfl, hPX⟩
theorem kx_draw (hC : ClsRel μ h) (hs : sdH h < 2 ^ 31) : AMet l G 0 0 0 mtX12_drawOfHundred [.ref (G.1 + 0)] μ (qI (fun y μ' => y = nI (drw (sdH h) / 64 % 100) ∧ μ' = sI μ 0 18 (nI (drw (sdH h))))) := by
  refine AMet.of (by decide) (Nat.le_of_ble_eq_true rfl) (fun X C hX hnm hq => ?_)
  have hS := hC.1.1.1
  have hd := hC.2.2.1.2.2
  have hd' : mI μ 0 18 = nI (sdH h) := hd
  have hdl : drw (sdH h) < 2147483648 := Nat.mod_lt _ (by decide)
  have k1 : (1103515245 : Int64) = lN 1103515245 := by decide
  have k2 : (12345 : Int64) = lN 12345 := by decide
  have k3 : (2147483648 : Int64) = lN 2147483648 := by decide
  have e1 : mI (sI μ 0 18 (nI (drw (sdH h)))) 0 18 = nI (drw (sdH h)) := by rw [mI_sI, if_pos ⟨rfl, rfl⟩]
  refine C.aload_n dX12_drawOfHundred_0 0 rfl ?_
  refine C.ldc2 kX12_393 dX12_drawOfHundred_1 ?_
  refine C.aload_n dX12_drawOfHundred_4 0 rfl ?_
  refine C.getI fX12_111 dX12_drawOfHundred_5 hS.o0 ?_
  rw [hd']
  refine C.i2l dX12_drawOfHundred_8 ?_
  rw [nI_l hs, k1]
  refine C.lmul dX12_drawOfHundred_9 ?_
  refine C.ldc2 kX12_395 dX12_drawOfHundred_10 ?_
  rw [lN_mul, k2]
  refine C.ladd dX12_drawOfHundred_13 ?_
  refine C.ldc2 kX12_397 dX12_drawOfHundred_14 ?_
  rw [lN_add, k3]
  refine C.lrem dX12_drawOfHundred_17 (by decide) ?_
  rw [pk_lRem (by omega) (by decide) (by decide)]
  refine C.l2i dX12_drawOfHundred_18 ?_
  rw [lN_i]
  refine C.putI fX12_111 (Or.inl rfl) dX12_drawOfHundred_19 hS.o0 ?_
  refine C.aload_n dX12_drawOfHundred_22 0 rfl ?_
  refine C.getI fX12_111 dX12_drawOfHundred_23 hS.o0 ?_
  rw [show mI (sI μ 0 18 (nI ((1103515245 * sdH h + 12345) % 2147483648))) 0 18 = nI (drw (sdH h)) from e1]
  refine C.bipush (nI 64) dX12_drawOfHundred_26 (by decide) ?_
  refine C.idiv dX12_drawOfHundred_28 (by decide) ?_
  rw [pk_div (by omega) (by decide) (by decide)]
  refine C.bipush (nI 100) dX12_drawOfHundred_29 (by decide) ?_
  refine C.irem dX12_drawOfHundred_31 (by decide) ?_
  rw [pk_rem (by omega) (by decide) (by decide)]
  refine C.iret hq dX12_drawOfHundred_32 ?_
  exact ⟨rfl, rfl⟩
theorem kx_chance (hC : ClsRel μ h) (hH : HOk h) (x : Int32) : AMet l G 6 0 0 mtX12_chance [.ref (G.1 + 0), .int x] μ (qI (fun z μ' => z = chanceA h x ∧ PX μ (chanceH h x) μ')) := by
  refine AMet.of (by decide) (Nat.le_of_ble_eq_true rfl) (fun X C hX hnm hq => ?_)
  have hS := hC.1.1.1
  obtain ⟨L, c, hL⟩ := hC.2.2.2
  have hd7 := hH.d7
  have hN := hC.2.1.1
  unfold chanceA chanceH at hq
  have main : ∀ n, 0 < (ldH h).1.1 → n ≤ 100 → (stH h).1.1 + n ≤ 999 → MR G X (qI (fun z μ' => z = nI (chnL (ldH h) n (stH h, sdH h, 0)).2.2 ∧ PX μ (tpH h, flH h, rfH h, ldH h, (chnL (ldH h) n (stH h, sdH h, 0)).1, pushP (stH h) (psH h), rwH h, ocH h, (chnL (ldH h) n (stH h, sdH h, 0)).2.1) μ')) → AW l G X 0 0 17 [(0, .ref (G.1 + 0)), (1, .int (nI n))] [] μ := by
    clear hq
    intro n hp hn100 hn hq
    have hW := hH.wfP hp
    generalize hKK : chnL (ldH h) n (stH h, sdH h, 0) = K at hq
    have loop : ∀ (j i : Nat) (a : St × Nat × Nat) (m k E : Nat) (μ1 : Mm), i + j = n → PX μ (tpH h, flH h, rfH h, ldH h, a.1, pushP (stH h) (psH h), rwH h, ocH h, a.2.1) μ1 → CsL μ1 L c (ldH h) → SWf (ldH h) a.1 → a.1.1.1 + j ≤ 999 → a.2.1 < 2 ^ 31 → mI μ1 37 2 = nI m → mI μ1 37 3 = nI k → mL μ1 37 5 = lN E → chnL (ldH h) j a = K → AW l G X 0 0 39 [(0, .ref (G.1 + 0)), (1, .int (nI n)), (2, .int (nI a.2.2)), (3, .int (nI i))] [] μ1 := by
      intro j
      induction j with
      | zero =>
        intro i a m k E μ1 hi hPX hL1 hSW1 _ hsd c2 c3 c5 ev
        have ev' : a = K := ev
        subst ev'
        refine C.iload_n dX12_chance_39 3 rfl ?_
        refine C.iload_n dX12_chance_40 1 rfl ?_
        refine C.icmp_ge 97 dX12_chance_41 rfl (fun hc41 => ?_) (fun hc41 => ?_)
        · refine C.iload_n dX12_chance_97 2 rfl ?_
          refine C.iret hq dX12_chance_98 ?_
          exact ⟨rfl, hPX⟩
        · exact absurd (n_nle hc41) (by omega)
      | succ j ih =>
        intro i a m k E μ1 hi hPX hL1 hSW1 hng hsd c2 c3 c5 ev
        unfold chnL at ev
        have hS := hPX.1.1.1.1
        obtain ⟨hg, hR, hk1, hk2, hk3⟩ := id hL1
        have hst := hR.2.1.2.2.2.2
        have hst100 := hW.2.2.2.2.2.2.2
        have hdl : drw a.2.1 < 2147483648 := Nat.mod_lt _ (by decide)
        refine C.iload_n dX12_chance_39 3 rfl ?_
        refine C.iload_n dX12_chance_40 1 rfl ?_
        refine C.icmp_ge 97 dX12_chance_41 rfl (fun hc41 => ?_) (fun hc41 => ?_)
        · exact absurd (n_le hc41) (by omega)
        · refine C.aload_n dX12_chance_44 0 rfl ?_
          refine C.callVI lX12_357 dX12_chance_45 (kx_draw hPX.1 hsd) hS.o0 rfl rfl (Nat.le_of_ble_eq_true rfl) (Nat.zero_le _) (Nat.zero_le _) (Nat.le_of_ble_eq_true rfl) (fun x45 μ45 h45 => ?_)
          obtain ⟨rfl, h45b⟩ := h45
          have e5 : ∀ a' k', ¬ (a' = 0 ∧ k' = 18) → mI μ45 a' k' = mI μ1 a' k' := fun a' k' q => by rw [h45b, mI_sI, if_neg q]
          have e52 : μ45.2 = μ1.2 := by rw [h45b]; rfl
          have hP2 : PX μ1 (tpH h, flH h, rfH h, ldH h, a.1, pushP (stH h) (psH h), rwH h, ocH h, drw a.2.1) μ45 := hPX.1.up (h' := (tpH h, flH h, rfH h, ldH h, a.1, pushP (stH h) (psH h), rwH h, ocH h, drw a.2.1)) ⟨e52, fun k => e5 _ _ (by omega), fun a k q => e5 a k (by unfold InL at q; omega)⟩ rfl (hPX.1.1.2.1.of (e5 _ _ (by omega)) (fun k => e5 _ _ (by omega))) (hPX.1.1.2.2.1.of (e5 _ _ (by omega)) (e5 _ _ (by omega))) (hPX.1.1.2.2.2.of (fun k => e5 _ _ (by omega))) (hPX.1.2.1.1.of (fun a k q1 q2 => e5 a k (by omega))) (hPX.1.2.1.2.of (fun a k q1 q2 => e5 a k (by omega))) (hPX.1.2.2.1.1.of (e5 _ _ (by omega)) (fun k => e5 _ _ (by omega))) (hPX.1.2.2.1.2.1.of (e5 _ _ (by omega)) (fun k => e5 _ _ (by omega))) (by show mI μ45 0 18 = nI (drw a.2.1); rw [h45b, mI_sI, if_pos ⟨rfl, rfl⟩])
          have hL2 := hL1.of e52 (fun a k q => e5 a k (by unfold InL at q; omega))
          have hS : ShC μ45 := hP2.1.1.1.1
          have hN2 : CsN μ45 40 a.1 := hP2.1.2.1.1
          have d2 : mI μ45 37 2 = nI m := by rw [e5 _ _ (by omega)]; exact c2
          have d3 : mI μ45 37 3 = nI k := by rw [e5 _ _ (by omega)]; exact c3
          have d5 : mL μ45 37 5 = lN E := by unfold mL; rw [e52]; exact c5
          refine C.aload_n dX12_chance_48 0 rfl ?_
          refine C.getO fX12_54 dX12_chance_49 hS.o0 (by first | exact hg | exact hL2.1) ?_
          refine C.getI fX12_360 dX12_chance_52 (by first | exact hR.o | exact hL2.2.1.o) ?_
          rw [hL2.2.1.2.1.2.2.2.2]
          refine C.icmp_ge 75 dX12_chance_55 rfl (fun hc55 => ?_) (fun hc55 => ?_)
          · have hb : stmB (ldH h) a.2.1 = false := decide_eq_false (Nat.not_lt.mpr (n_le hc55 (by omega) (by omega)))
            rw [hb] at ev
            obtain ⟨sw1, sw2⟩ := night_a0 hW (more := none) (th := false) (storm := false) (a := (a.1, m, k, 0)) hSW1 (by show a.1.1.1 < 999; omega)
            have hn1 : (nightA (ldH h) none false false (a.1, m, k, 0)).1.1.1 = a.1.1.1 + 1 := by rw [sw2]
            refine C.aload_n dX12_chance_75 0 rfl ?_
            refine C.getO fX12_73 dX12_chance_76 hS.o0 hS.r0_6 ?_
            refine C.aload_n dX12_chance_79 0 rfl ?_
            refine C.getO fX12_54 dX12_chance_80 hS.o0 (by first | exact hg | exact hL2.1) ?_
            refine C.aload_n dX12_chance_83 0 rfl ?_
            refine C.getO fX12_80 dX12_chance_84 hS.o0 hS.r0_7 ?_
            refine C.lconst (lN 0) dX12_chance_87 (by decide) ?_
            refine C.callVV lX12_335 dX12_chance_88 (kh_night (more := none) hS (Or.inl rfl) hL2.2.1 hW hL2.2.2.2.2 (fun x q => by cases q) hN2 hSW1 (by omega) d2 d3 d5) hS.o37 rfl rfl (Nat.le_of_ble_eq_true rfl) (Nat.zero_le _) (Nat.zero_le _) (Nat.le_of_ble_eq_true rfl) (fun μ88 h88 => ?_)
            obtain ⟨g1, g2, g3, g4, g5⟩ := h88
            obtain ⟨hP3, hL3⟩ := ClsRel.nightUp hP2.1 hL2 g5 g4 g1
            have hgo2 := ih (i + 1) ((nightA (ldH h) none false false (a.1, m, k, 0)).1, drw a.2.1, a.2.2) _ _ _ μ88 (by omega) ((hPX.trans hP2).trans hP3) hL3 sw1 (by dsimp only; omega) (by omega) g2.1 g2.2.1 g3 (by rw [← ev, nightA_st]; rfl)
            refine C.iinc (lv' := [(0, _), (1, _), (2, _), (3, _)]) _ dX12_chance_91 3 rfl rfl (nLt hX rfl) rfl ?_
            refine C.goto 39 dX12_chance_94 rfl ?_
            first | (rw [← nI_1 i, ← nI_1] at hgo1; exact hgo1) | (rw [← nI_1 i] at hgo2; exact hgo2)
          · have hb : stmB (ldH h) a.2.1 = true := decide_eq_true (n_nle hc55 (by omega) (by omega))
            rw [hb] at ev
            obtain ⟨sw1, sw2⟩ := night_a0 hW (more := none) (th := false) (storm := true) (a := (a.1, 0, 0, 0)) hSW1 (by show a.1.1.1 < 999; omega)
            have hn1 : (nightA (ldH h) none false true (a.1, 0, 0, 0)).1.1.1 = a.1.1.1 + 1 := by rw [sw2]
            refine C.iinc (lv' := [(0, _), (1, _), (2, _), (3, _)]) _ dX12_chance_58 2 rfl rfl (nLt hX rfl) rfl ?_
            refine C.aload_n dX12_chance_61 0 rfl ?_
            refine C.getO fX12_73 dX12_chance_62 hS.o0 hS.r0_6 ?_
            refine C.aload_n dX12_chance_65 0 rfl ?_
            refine C.getO fX12_80 dX12_chance_66 hS.o0 hS.r0_7 ?_
            refine C.callVV lX12_363 dX12_chance_69 (kh_storm (d := ldH h) hS (Or.inl rfl) hd7.2.2.2.2.2 hN2 hSW1) hS.o37 rfl rfl (Nat.le_of_ble_eq_true rfl) (Nat.zero_le _) (Nat.zero_le _) (Nat.le_of_ble_eq_true rfl) (fun μ69 h69 => ?_)
            obtain ⟨g1, g2⟩ := h69
            have hP3 := hP2.1.act (S := (nightA (ldH h) none false true (a.1, 0, 0, 0)).1) (ps := pushP (stH h) (psH h)) g2.1 (fun a k q1 q2 => g2.2 a k (by omega)) g1 (hP2.1.2.1.2.of (fun a k q1 q2 => g2.2 a k (by omega)))
            have hL3 := hL2.of g2.1 (fun a k q => g2.2 a k (by unfold InL at q; omega))
            have hgo1 := ih (i + 1) ((nightA (ldH h) none false true (a.1, 0, 0, 0)).1, drw a.2.1, a.2.2 + 1) m k E μ69 (by omega) ((hPX.trans hP2).trans hP3) hL3 sw1 (by dsimp only; omega) (by omega) (by rw [g2.2 37 2 (by omega)]; exact d2) (by rw [g2.2 37 3 (by omega)]; exact d3) (by unfold mL; rw [g2.1]; exact d5) (by rw [← ev]; rfl)
            refine C.goto 91 dX12_chance_72 rfl ?_
            refine C.iinc (lv' := [(0, _), (1, _), (2, _), (3, _)]) _ dX12_chance_91 3 rfl rfl (nLt hX rfl) rfl ?_
            refine C.goto 39 dX12_chance_94 rfl ?_
            first | (rw [← nI_1 i, ← nI_1] at hgo1; exact hgo1) | (rw [← nI_1 i] at hgo2; exact hgo2)
    refine C.aload_n dX12_chance_17 0 rfl ?_
    refine C.getO fX12_90 dX12_chance_18 hS.o0 hS.r0_9 ?_
    refine C.aload_n dX12_chance_21 0 rfl ?_
    refine C.getO fX12_80 dX12_chance_22 hS.o0 hS.r0_7 ?_
    refine C.callVV lX12_354 dX12_chance_25 (kp_keep hS hN hC.2.1.2) hS.o52 rfl rfl (Nat.le_of_ble_eq_true rfl) (Nat.zero_le _) (Nat.zero_le _) (Nat.le_of_ble_eq_true rfl) (fun μ25 h25 => ?_)
    obtain ⟨g1, g2⟩ := h25
    have hN2 : CsN μ25 40 (stH h) := hN.of (fun a k q1 q2 => g2.2 a k (by omega) (by omega))
    have hP1 := hC.act (S := stH h) (ps := pushP (stH h) (psH h)) g2.1 (fun a k q1 q2 => g2.2 a k (by omega) (by omega)) hN2 g1
    have hL1 := hL.of g2.1 (fun a k q => g2.2 a k (by unfold InL at q; omega) (by unfold InL at q; omega))
    have hS : ShC μ25 := hP1.1.1.1.1
    refine C.aload_n dX12_chance_28 0 rfl ?_
    refine C.getO fX12_73 dX12_chance_29 hS.o0 hS.r0_6 ?_
    refine C.callVV lX12_323 dX12_chance_32 (kh_start hS) hS.o37 rfl rfl (Nat.le_of_ble_eq_true rfl) (Nat.zero_le _) (Nat.zero_le _) (Nat.le_of_ble_eq_true rfl) (fun μ32 h32 => ?_)
    obtain ⟨hP2, hL2⟩ := ClsRel.start hP1.1 hL1
    rw [← h32] at hP2 hL2
    refine C.iconst (nI 0) dX12_chance_35 (by decide) ?_
    refine C.istore_n (lv' := [(0, _), (1, _), (2, _)]) dX12_chance_36 (nLt hX rfl) rfl ?_
    refine C.iconst (nI 0) dX12_chance_37 (by decide) ?_
    refine C.istore_n (lv' := [(0, _), (1, _), (2, _), (3, _)]) dX12_chance_38 (nLt hX rfl) rfl ?_
    exact loop n 0 (stH h, sdH h, 0) 0 0 0 μ32 (Nat.zero_add _) (hP1.trans hP2) hL2 hH.1.2.1 hn hH.1.2.2.2.2.2 (by rw [h32]; simp [mI_sL, mI_sI]) (by rw [h32]; simp [mI_sL, mI_sI]) (by rw [h32]; simp [mL_sL]) hKK
  refine C.aload_n dX12_chance_0 0 rfl ?_
  refine C.iload_n dX12_chance_1 1 rfl ?_
  refine C.iconst (nI 1) dX12_chance_2 (by decide) ?_
  refine C.bipush (nI 100) dX12_chance_3 (by decide) ?_
  refine C.callVI lX12_303 dX12_chance_5 (kx_canGo hC hH x (by decide) (by decide)) hS.o0 rfl rfl (Nat.le_of_ble_eq_true rfl) (Nat.zero_le _) (Nat.zero_le _) (Nat.le_of_ble_eq_true rfl) (fun x5 μ5 h5 => ?_)
  obtain ⟨rfl, hμ⟩ := h5
  subst hμ
  refine C.if_ne 17 dX12_chance_8 rfl (fun hc8 => ?_) (fun hc8 => ?_)
  · obtain ⟨n, hz⟩ := isS_t hc8
    rw [hz] at hq
    obtain ⟨hp, -, h100, hn, ex⟩ := ahdN_some (by decide) (by decide) hz
    rw [ex]
    exact main n hp h100 hn hq
  · have hz := isS_f hc8
    rw [hz] at hq
    refine C.aload_n dX12_chance_11 0 rfl ?_
    refine C.iconst (nI 3) dX12_chance_12 (by decide) ?_
    refine C.callVI lX12_118 dX12_chance_13 (kx_refuse hC (j := 3) (by decide)) hS.o0 rfl rfl (Nat.le_of_ble_eq_true rfl) (Nat.zero_le _) (Nat.zero_le _) (Nat.le_of_ble_eq_true rfl) (fun x13 μ13 h13 => ?_)
    obtain ⟨rfl, hPX⟩ := h13
    refine C.iret hq dX12_chance_16 ?_
    exact ⟨rfl, hPX⟩
end KX9
