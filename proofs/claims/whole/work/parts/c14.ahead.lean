/-! the class: nights ahead -/
section KX6
variable {l : Launch} {G : Gm} {μ : Mm} {h : Hs} {L : Nat} {c : Lc}

theorem kx_canGo (hC : ClsRel μ h) (hH : HOk h) (x : Int32) {lo hi : Nat} (hlo : lo < 1000) (hhi : hi < 1000) : AMet l G 1 0 0 mtX12_canGoAhead [.ref (G.1 + 0), .int x, .int (nI lo), .int (nI hi)] μ (qI (fun y μ' => y = bI (ahdN h x lo hi).isSome ∧ μ' = μ)) := by
  refine AMet.of (by decide) (Nat.le_of_ble_eq_true rfl) (fun X C hX hnm hq => ?_)
  have hS := hC.1.1.1
  obtain ⟨L, c, hL⟩ := hC.2.2.2
  have hg := hL.1
  have hR := hL.2.1
  have hd7 := hH.d7
  have hN := hC.2.1.1
  have hng := hH.1.2.1.1
  have no : ¬ (0 < (ldH h).1.1 ∧ nI lo ≤ x ∧ x ≤ nI hi ∧ (stH h).1.1 + nn x ≤ 999) → AW l G X 0 0 39 [(0, .ref (G.1 + 0)), (1, .int x), (2, .int (nI lo)), (3, .int (nI hi))] [] μ := by
    intro hz
    have e : ahdN h x lo hi = none := by unfold ahdN; rw [if_neg hz]
    refine C.iconst (nI 0) dX12_canGoAhead_39 (by decide) ?_
    refine C.zret hq dX12_canGoAhead_40 (by decide) ?_
    exact ⟨by rw [e]; rfl, rfl⟩
  refine C.aload_n dX12_canGoAhead_0 0 rfl ?_
  refine C.getO fX12_54 dX12_canGoAhead_1 hS.o0 hg ?_
  refine C.callVI lX12_271 dX12_canGoAhead_4 (kl_stands hR.o hR.2.1.1.1 (by omega)) hR.o rfl rfl (Nat.le_of_ble_eq_true rfl) (Nat.zero_le _) (Nat.zero_le _) (Nat.le_of_ble_eq_true rfl) (fun x4 μ4 h4 => ?_)
  obtain ⟨rfl, hμ⟩ := h4
  subst hμ
  refine C.if_eq 39 dX12_canGoAhead_7 rfl (fun hc7 => ?_) (fun hc7 => ?_)
  · have h0 : ¬ 0 < (ldH h).1.1 := of_decide_eq_false ((bI_0 _).mp hc7)
    exact no (fun z => h0 z.1)
  · have hp : 0 < (ldH h).1.1 := of_decide_eq_true (b_t hc7)
    refine C.iload_n dX12_canGoAhead_10 1 rfl ?_
    refine C.iload_n dX12_canGoAhead_11 2 rfl ?_
    refine C.icmp_lt 39 dX12_canGoAhead_12 rfl (fun hc12 => ?_) (fun hc12 => ?_)
    · exact no (fun z => Int32.not_le.mpr hc12 z.2.1)
    · refine C.iload_n dX12_canGoAhead_15 1 rfl ?_
      refine C.iload_n dX12_canGoAhead_16 3 rfl ?_
      refine C.icmp_gt 39 dX12_canGoAhead_17 rfl (fun hc17 => ?_) (fun hc17 => ?_)
      · exact no (fun z => Int32.not_le.mpr hc17 z.2.2.1)
      · have h1 := Int32.not_lt.mp hc12
        have h2 := Int32.not_lt.mp hc17
        obtain ⟨k, hk1, hk2, ek⟩ := c_sub (a := x) (by omega) (by omega) h1 h2
        subst ek
        refine C.aload_n dX12_canGoAhead_20 0 rfl ?_
        refine C.getO fX12_80 dX12_canGoAhead_21 hS.o0 hS.r0_7 ?_
        refine C.getI fX12_175 dX12_canGoAhead_24 hS.o40 ?_
        rw [hN.1.1]
        refine C.iload_n dX12_canGoAhead_27 1 rfl ?_
        refine C.iadd dX12_canGoAhead_28 ?_
        rw [nI_add]
        refine C.sipush (nI 999) dX12_canGoAhead_29 (by decide) ?_
        refine C.icmp_gt 39 dX12_canGoAhead_32 rfl (fun hc32 => ?_) (fun hc32 => ?_)
        · exact no (fun z => by have h3 := n_lt hc32 (by omega) (by omega); have := z.2.2.2; rw [nn_nI (by omega)] at this; omega)
        · refine C.iconst (nI 1) dX12_canGoAhead_35 (by decide) ?_
          refine C.goto 40 dX12_canGoAhead_36 rfl ?_
          refine C.zret hq dX12_canGoAhead_40 (by decide) ?_
          refine ⟨?_, rfl⟩
          have h3 := n_nlt hc32 (by omega) (by omega)
          unfold ahdN
          rw [if_pos ⟨hp, h1, h2, by rw [nn_nI (by omega)]; exact h3⟩]
          rfl
theorem kx_goAhead {μ0 : Mm} (hQ : QX μ0 h L c μ) (hH : HOk h) (hW : Wf (ldH h)) {more : Option Nat} (hm : ∀ x, more = some x → clOk (ldH h) x) {n : Nat} (hn : (stH h).1.1 + n ≤ 999) : AMet l G 6 0 0 mtX12_goAhead [.ref (G.1 + 0), .int (nI n), .long (lN (mB (ldH h) more))] μ (qV (fun μ' => QX μ0 h L c μ' ∧ CsN μ' 46 (nitC (ldH h) more n (stH h, 0, 0)).1 ∧ mI μ' 37 2 = nI (nitC (ldH h) more n (stH h, 0, 0)).2.1 ∧ mI μ' 37 3 = nI (nitC (ldH h) more n (stH h, 0, 0)).2.2 ∧ mL μ' 37 5 = lN (entC (ldH h) more n (stH h, 0, 0) 0))) := by
  refine AMet.of (by decide) (Nat.le_of_ble_eq_true rfl) (fun X C hX hnm hq => ?_)
  have hC := hQ.1.1
  have hS := hC.1.1.1
  have hN := hC.2.1.1
  have loop : ∀ (j i : Nat) (a : St × Nat × Nat) (E : Nat) (μ1 : Mm), i + j = n → QX μ0 h L c μ1 → CsN μ1 46 a.1 → SWf (ldH h) a.1 → a.1.1.1 + j ≤ 999 → mI μ1 37 2 = nI a.2.1 → mI μ1 37 3 = nI a.2.2 → mL μ1 37 5 = lN E → nitC (ldH h) more j a = nitC (ldH h) more n (stH h, 0, 0) → entC (ldH h) more j a E = entC (ldH h) more n (stH h, 0, 0) 0 → AW l G X 0 0 21 [(0, .ref (G.1 + 0)), (1, .int (nI n)), (2, .long (lN (mB (ldH h) more))), (4, .int (nI i))] [] μ1 := by
    intro j
    induction j with
    | zero =>
      intro i a E μ1 hi hQ1 hN1 hSW1 _ c2 c3 c5 ev ee
      have ev' : a = nitC (ldH h) more n (stH h, 0, 0) := ev
      have ee' : E = entC (ldH h) more n (stH h, 0, 0) 0 := ee
      rw [← ev', ← ee'] at hq
      refine C.iload dX12_goAhead_21 3 rfl ?_
      refine C.iload_n dX12_goAhead_23 1 rfl ?_
      refine C.icmp_ge 49 dX12_goAhead_24 rfl (fun hc24 => ?_) (fun hc24 => ?_)
      · refine C.vret hq dX12_goAhead_49 ?_
        exact ⟨hQ1, hN1, c2, c3, c5⟩
      · exact absurd (n_nle hc24) (by omega)
    | succ j ih =>
      intro i a E μ1 hi hQ1 hN1 hSW1 hng c2 c3 c5 ev ee
      have hS := hQ1.1.1.1.1.1
      have hg := hQ1.2.1
      have hR := hQ1.2.2.1
      have hk3 := hQ1.2.2.2.2.2
      obtain ⟨sw1, sw2⟩ := night_a0 hW (more := more) (th := false) (storm := false) (a := (a.1, a.2.1, a.2.2, 0)) hSW1 (by show a.1.1.1 < 999; omega)
      have hn1 : (nightA (ldH h) more false false (a.1, a.2.1, a.2.2, 0)).1.1.1 = a.1.1.1 + 1 := by rw [sw2]
      refine C.iload dX12_goAhead_21 3 rfl ?_
      refine C.iload_n dX12_goAhead_23 1 rfl ?_
      refine C.icmp_ge 49 dX12_goAhead_24 rfl (fun hc24 => ?_) (fun hc24 => ?_)
      · exact absurd (n_le hc24) (by omega)
      · refine C.aload_n dX12_goAhead_27 0 rfl ?_
        refine C.getO fX12_73 dX12_goAhead_28 hS.o0 hS.r0_6 ?_
        refine C.aload_n dX12_goAhead_31 0 rfl ?_
        refine C.getO fX12_54 dX12_goAhead_32 hS.o0 hg ?_
        refine C.aload_n dX12_goAhead_35 0 rfl ?_
        refine C.getO fX12_84 dX12_goAhead_36 hS.o0 hS.r0_8 ?_
        refine C.lload_n dX12_goAhead_39 2 rfl ?_
        refine C.callVV lX12_335 dX12_goAhead_40 (kh_night hS (Or.inr rfl) hR hW hk3 hm hN1 hSW1 (by omega) c2 c3 c5) hS.o37 rfl rfl (Nat.le_of_ble_eq_true rfl) (Nat.zero_le _) (Nat.zero_le _) (Nat.le_of_ble_eq_true rfl) (fun μ40 h40 => ?_)
        obtain ⟨g1, g2, g3, g4, g5⟩ := h40
        refine C.iinc (lv' := [(0, _), (1, _), (2, _), (4, _)]) _ dX12_goAhead_43 3 rfl rfl (nLt hX rfl) rfl ?_
        refine C.goto 21 dX12_goAhead_46 rfl ?_
        have hgo := ih (i + 1) ((nightA (ldH h) more false false (a.1, a.2.1, a.2.2, 0)).1, (nightA (ldH h) more false false (a.1, a.2.1, a.2.2, 0)).2.1, (nightA (ldH h) more false false (a.1, a.2.1, a.2.2, 0)).2.2.1) (E ||| enB (ldH h) (rideN (ldH h) more a.1)) μ40 (by omega) ⟨hQ1.1.trans (hQ1.1.1.sc (ScF.ofN g5) ⟨L, c, hQ1.2.night (Or.inr rfl) g5 g4⟩), hQ1.2.night (Or.inr rfl) g5 g4⟩ g1 sw1 (by dsimp only; omega) g2.1 g2.2.1 g3 ev ee
        rw [← nI_1] at hgo
        exact hgo
  refine C.aload_n dX12_goAhead_0 0 rfl ?_
  refine C.getO fX12_73 dX12_goAhead_1 hS.o0 hS.r0_6 ?_
  refine C.callVV lX12_323 dX12_goAhead_4 (kh_start hS) hS.o37 rfl rfl (Nat.le_of_ble_eq_true rfl) (Nat.zero_le _) (Nat.zero_le _) (Nat.le_of_ble_eq_true rfl) (fun μ4 h4 => ?_)
  have hS4 : ShC μ4 := by rw [h4]; exact hS.of rfl
  have hN4 : CsN μ4 40 (stH h) := by rw [h4]; exact hN.of (fun a k _ _ => by rw [mI_sL, mI_sI, if_neg (by omega), mI_sI, if_neg (by omega)])
  have k2 : mI μ4 37 2 = nI 0 := by rw [h4]; simp [mI_sL, mI_sI]
  have k3 : mI μ4 37 3 = nI 0 := by rw [h4]; simp [mI_sL, mI_sI]
  have k5 : mL μ4 37 5 = lN 0 := by rw [h4]; simp [mL_sL]
  have sc4 : ScF μ μ4 := by rw [h4]; exact ⟨rfl, fun _ _ _ => rfl, fun a k q => by rw [mL_sL, if_neg (by unfold scL at q; omega)]; rfl, fun a k q => by rw [mI_sL, mI_sI, if_neg (by unfold scI at q; omega), mI_sI, if_neg (by unfold scI at q; omega)]⟩
  have hL4 : CsL μ4 L c (ldH h) := ⟨(sc4.2.1 _ _ (by omega)).trans hQ.2.1, sc4.ld hQ.2.2.1, hQ.2.2.2.1.of (by rw [h4]; exact Nat.le_refl _) (by rw [h4]; rfl) (fun k => by rw [h4, mL_sL, if_neg (by omega)]; rfl) (fun a k q => by rw [h4, mI_sL, mI_sI, if_neg (by omega), mI_sI, if_neg (by omega)]), hQ.2.2.2.2.1.of (by rw [h4]; exact Nat.le_refl _) (by rw [h4]; rfl) (fun k => by rw [h4, mL_sL, if_neg (by omega)]; rfl) (fun a k q => by rw [h4, mI_sL, mI_sI, if_neg (by omega), mI_sI, if_neg (by omega)]), hQ.2.2.2.2.2.of (by rw [h4]; exact Nat.le_refl _) (by rw [h4]; rfl) (fun k => by rw [h4, mL_sL, if_neg (by omega)]; rfl) (fun a k q => by rw [h4, mI_sL, mI_sI, if_neg (by omega), mI_sI, if_neg (by omega)])⟩
  have hQ4 : QX μ0 h L c μ4 := ⟨hQ.1.trans (hC.sc sc4 ⟨L, c, hL4⟩), hL4⟩
  have hS := hS4
  refine C.aload_n dX12_goAhead_7 0 rfl ?_
  refine C.getO fX12_84 dX12_goAhead_8 hS.o0 hS.r0_8 ?_
  refine C.aload_n dX12_goAhead_11 0 rfl ?_
  refine C.getO fX12_80 dX12_goAhead_12 hS.o0 hS.r0_7 ?_
  refine C.callVV lX12_326 dX12_goAhead_15 (ks_copyOf hS4.s46 hS4.s40 (by omega)) hS.o46 rfl rfl (Nat.le_of_ble_eq_true rfl) (Nat.zero_le _) (Nat.zero_le _) (Nat.le_of_ble_eq_true rfl) (fun μ15 h15 => ?_)
  have sc15 : ScF μ4 μ15 := ScF.of2 h15.1 (fun a k q => h15.2.1 a k (by unfold scI at q; omega))
  have hL15 := hL4.of h15.1 (fun a k q => h15.2.1 a k (by unfold InL at q; omega))
  refine C.iconst (nI 0) dX12_goAhead_18 (by decide) ?_
  refine C.istore (lv' := [(0, _), (1, _), (2, _), (4, _)]) dX12_goAhead_19 (nLt hX rfl) rfl ?_
  exact loop n 0 (stH h, 0, 0) 0 μ15 (Nat.zero_add _) ⟨hQ4.1.trans (hQ4.1.1.sc sc15 ⟨L, c, hL15⟩), hL15⟩ (h15.n hN4) hH.1.2.1 hn (by rw [h15.2.1 37 2 (by omega)]; exact k2) (by rw [h15.2.1 37 3 (by omega)]; exact k3) (by unfold mL; rw [h15.1]; exact k5) rfl rfl
theorem kx_later (hC : ClsRel μ h) (hH : HOk h) (x y : Int32) : AMet l G 7 0 0 mtX12_later [.ref (G.1 + 0), .int x, .int y] μ (qI (fun z μ' => z = laterA h x y ∧ PX μ h μ')) := by
  refine AMet.of (by decide) (Nat.le_of_ble_eq_true rfl) (fun X C hX hnm hq => ?_)
  have hS := hC.1.1.1
  obtain ⟨L, c, hL⟩ := hC.2.2.2
  have hd7 := hH.d7
  unfold laterA at hq
  have m19 : ∀ (n : Nat) (μ1 : Mm), 0 < (ldH h).1.1 → (stH h).1.1 + n ≤ 999 → x = nI n → QX μ h L c μ1 → CsN μ1 46 (nitC (ldH h) none n (stH h, 0, 0)).1 → mI μ1 37 2 = nI (nitC (ldH h) none n (stH h, 0, 0)).2.1 → mI μ1 37 3 = nI (nitC (ldH h) none n (stH h, 0, 0)).2.2 → MR G X (qI (fun z μ' => z = (match inN y 4 with | some 0 => nI (nightsA (ldH h) none true n (stH h, 0, 0, 0)).2.1 | some 1 => nI (goneN (nightsA (ldH h) none true n (stH h, 0, 0, 0)).1) | some 2 => nI (pursN (nightsA (ldH h) none true n (stH h, 0, 0, 0)).1) | some _ => nI (nightsA (ldH h) none true n (stH h, 0, 0, 0)).2.2.1 | none => -1) ∧ PX μ h μ')) → AW l G X 0 0 19 [(0, .ref (G.1 + 0)), (1, .int x), (2, .int y)] [] μ1 := by
    clear hq
    intro n μ1 hp hn ex hQ hN1 c2 c3 hq
    have hS := hQ.1.1.1.1.1
    have hW := hH.wfP hp
    obtain ⟨e1, e2, e3, e4⟩ := eqCn (d := ldH h) (more := none) (th := true) n (stH h, 0, 0, 0) (stH h, 0, 0) ⟨rfl, rfl, rfl, rfl⟩
    have hsw := nitC_wf hW (more := none) n (stH h, 0, 0) hH.1.2.1 hn
    have hg : goneN (nightsA (ldH h) none true n (stH h, 0, 0, 0)).1 = goneN (nitC (ldH h) none n (stH h, 0, 0)).1 := by unfold goneN; rw [e2]
    have hpu : pursN (nightsA (ldH h) none true n (stH h, 0, 0, 0)).1 = pursN (nitC (ldH h) none n (stH h, 0, 0)).1 := by unfold pursN; rw [e2]
    have h6 : (nitC (ldH h) none n (stH h, 0, 0)).1.2.1.length ≤ 6 := by rw [hsw.2.2.1]; exact hd7.2.2.2.2.2
    rw [e3, e4, hg, hpu] at hq
    refine C.iload_n dX12_later_19 2 rfl ?_
    cases hin20 : inN y 4 with
    | none =>
      rw [hin20] at hq
      refine C.tableOut 84 dX12_later_20 (inN_out (n := 3) (by decide) hin20) rfl ?_
      refine C.iconst (-1) dX12_later_84 (by decide) ?_
      refine C.iret hq dX12_later_85 ?_
      exact ⟨rfl, hQ.1⟩
    | some j20 =>
      rw [hin20] at hq
      obtain ⟨hj20, e20⟩ := inN_some (by decide) hin20
      subst e20
      rcases (show j20 = 0 ∨ j20 = 1 ∨ j20 = 2 ∨ j20 = 3 by omega) with rfl | rfl | rfl | rfl
      · refine C.tableIn 52 dX12_later_20 (by decide) (by decide) rfl rfl ?_
        refine C.aload_n dX12_later_52 0 rfl ?_
        refine C.getO fX12_73 dX12_later_53 hS.o0 hS.r0_6 ?_
        refine C.getI fX12_311 dX12_later_56 hS.o37 ?_
        refine C.iret hq dX12_later_59 ?_
        exact ⟨c2, hQ.1⟩
      · refine C.tableIn 60 dX12_later_20 (by decide) (by decide) rfl rfl ?_
        refine C.aload_n dX12_later_60 0 rfl ?_
        refine C.getO fX12_84 dX12_later_61 hS.o0 hS.r0_8 ?_
        refine C.callVI lX12_185 dX12_later_64 (ks_gone hS.s46 hN1 hsw.2.2.2.1 h6) hS.o46 rfl rfl (Nat.le_of_ble_eq_true rfl) (Nat.zero_le _) (Nat.zero_le _) (Nat.le_of_ble_eq_true rfl) (fun x64 μ64 h64 => ?_)
        obtain ⟨rfl, hμ⟩ := h64
        subst hμ
        refine C.iret hq dX12_later_67 ?_
        exact ⟨rfl, hQ.1⟩
      · refine C.tableIn 68 dX12_later_20 (by decide) (by decide) rfl rfl ?_
        refine C.aload_n dX12_later_68 0 rfl ?_
        refine C.getO fX12_84 dX12_later_69 hS.o0 hS.r0_8 ?_
        refine C.callVI lX12_189 dX12_later_72 (ks_purses hS.s46 hN1 h6) hS.o46 rfl rfl (Nat.le_of_ble_eq_true rfl) (Nat.zero_le _) (Nat.zero_le _) (Nat.le_of_ble_eq_true rfl) (fun x72 μ72 h72 => ?_)
        obtain ⟨rfl, hμ⟩ := h72
        subst hμ
        refine C.iret hq dX12_later_75 ?_
        exact ⟨rfl, hQ.1⟩
      · refine C.tableIn 76 dX12_later_20 (by decide) (by decide) rfl rfl ?_
        refine C.aload_n dX12_later_76 0 rfl ?_
        refine C.getO fX12_73 dX12_later_77 hS.o0 hS.r0_6 ?_
        refine C.getI fX12_314 dX12_later_80 hS.o37 ?_
        refine C.iret hq dX12_later_83 ?_
        exact ⟨c3, hQ.1⟩
  refine C.aload_n dX12_later_0 0 rfl ?_
  refine C.iload_n dX12_later_1 1 rfl ?_
  refine C.iconst (nI 0) dX12_later_2 (by decide) ?_
  refine C.bipush (nI 60) dX12_later_3 (by decide) ?_
  refine C.callVI lX12_303 dX12_later_5 (kx_canGo hC hH x (by decide) (by decide)) hS.o0 rfl rfl (Nat.le_of_ble_eq_true rfl) (Nat.zero_le _) (Nat.zero_le _) (Nat.le_of_ble_eq_true rfl) (fun x5 μ5 h5 => ?_)
  obtain ⟨rfl, hμ⟩ := h5
  subst hμ
  refine C.if_ne 13 dX12_later_8 rfl (fun hc8 => ?_) (fun hc8 => ?_)
  · obtain ⟨n, hz⟩ := isS_t hc8
    rw [hz] at hq
    obtain ⟨hp, -, -, hn, ex⟩ := ahdN_some (by decide) (by decide) hz
    have hW := hH.wfP hp
    refine C.aload_n dX12_later_13 0 rfl ?_
    refine C.iload_n dX12_later_14 1 rfl ?_
    refine C.lconst (lN 0) dX12_later_15 (by decide) ?_
    rw [ex]
    refine C.callVV lX12_307 dX12_later_16 (kx_goAhead (more := none) ⟨hC.self, hL⟩ hH hW (fun x q => by cases q) hn) hS.o0 rfl rfl (Nat.le_of_ble_eq_true rfl) (Nat.zero_le _) (Nat.zero_le _) (Nat.le_of_ble_eq_true rfl) (fun μ16 h16 => ?_)
    rw [← ex]
    exact m19 n μ16 hp hn ex h16.1 h16.2.1 h16.2.2.1 h16.2.2.2.1 hq
  · have hz := isS_f hc8
    rw [hz] at hq
    refine C.iconst (-1) dX12_later_11 (by decide) ?_
    refine C.iret hq dX12_later_12 ?_
    exact ⟨rfl, hC.self⟩
end KX6
