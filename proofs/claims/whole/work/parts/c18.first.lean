/-! the class: who is met first -/
section KXF
variable {l : Launch} {G : Gm} {μ : Mm} {h : Hs} {L : Nat} {c : Lc}

theorem kx_first (hC : ClsRel μ h) (hH : HOk h) (x : Int32) : AMet l G 6 0 0 mtX12_first [.ref (G.1 + 0), .int x] μ (qI (fun z μ' => z = firstA h x ∧ PX μ h μ')) := by
  refine AMet.of (by decide) (Nat.le_of_ble_eq_true rfl) (fun X C hX hnm hq => ?_)
  have hS := hC.1.1.1
  obtain ⟨L, c, hL⟩ := hC.2.2.2
  have hg := hL.1
  have hR := hL.2.1
  have hd7 := hH.d7
  have hN := hC.2.1.1
  have hng := hH.1.2.1.1
  unfold firstA at hq
  have main : ∀ w, w < (ldH h).2.2.2.1.length → MR G X (qI (fun z μ' => z = opI (firstL (ldH h) w 60 1 (stH h)) ∧ PX μ h μ')) → AW l G X 0 0 13 [(0, .ref (G.1 + 0)), (1, .int (nI w))] [] μ := by
    clear hq
    intro w hw hq
    have hW := hH.wfW hw
    generalize hKK : firstL (ldH h) w 60 1 (stH h) = K at hq
    have loop : ∀ (j i : Nat) (S T : St) (m k E : Nat) (μ1 : Mm), i + j = 61 → 1 ≤ i → QX μ h L c μ1 → CsN μ1 46 T → SWf (ldH h) T → S.1 = T.1 → S.2.1 = T.2.1 → T.1.1 = (stH h).1.1 + (i - 1) → mI μ1 37 2 = nI m → mI μ1 37 3 = nI k → mL μ1 37 5 = lN E → firstL (ldH h) w j i S = K → AW l G X 0 0 50 [(0, .ref (G.1 + 0)), (1, .int (nI w)), (2, .int (nI (min 60 (999 - (stH h).1.1)))), (3, .int (nI i))] [] μ1 := by
      intro j
      induction j with
      | zero =>
        intro i S T m k E μ1 hi _ hQ _ _ _ _ _ _ _ _ ev
        refine C.iload_n dX12_first_50 3 rfl ?_
        refine C.iload_n dX12_first_51 2 rfl ?_
        refine C.icmp_gt 94 dX12_first_52 rfl (fun hc52 => ?_) (fun hc52 => ?_)
        · refine C.iconst (-1) dX12_first_94 (by decide) ?_
          refine C.iret hq dX12_first_95 ?_
          exact ⟨by rw [← ev]; rfl, hQ.1⟩
        · exact absurd (n_nlt hc52 (by omega) (by omega)) (by omega)
      | succ j ih =>
        intro i S T m k E μ1 hi hi1 hQ hN1 hSW1 hs1 hs2 hTn c2 c3 c5 ev
        unfold firstL at ev
        have hS := hQ.1.1.1.1.1
        have hg := hQ.2.1
        have hR := hQ.2.2.1
        have hk3 := hQ.2.2.2.2.2
        rw [hs1] at ev
        refine C.iload_n dX12_first_50 3 rfl ?_
        refine C.iload_n dX12_first_51 2 rfl ?_
        refine C.icmp_gt 94 dX12_first_52 rfl (fun hc52 => ?_) (fun hc52 => ?_)
        · have hlt := n_lt hc52 (by omega) (by omega)
          rw [if_neg (by omega)] at ev
          refine C.iconst (-1) dX12_first_94 (by decide) ?_
          refine C.iret hq dX12_first_95 ?_
          exact ⟨by rw [← ev]; rfl, hQ.1⟩
        · have hle := n_nlt hc52 (by omega) (by omega)
          have h999 : T.1.1 < 999 := by omega
          rw [if_pos h999] at ev
          obtain ⟨sw1, sw3, sw2⟩ := night_a hW (more := none) (th := false) (storm := false) (a := (T, m, k, 0)) hSW1 (show (0 : Nat) < 64 by decide) h999
          obtain ⟨q1, q2, q3⟩ := eqA (d := ldH h) (more := none) (t1 := true) (t2 := false) (storm := false) (a := (S, 0, 0, 0)) (b := (T, 0, 0, 0)) ⟨hs1, hs2, rfl⟩
          have hset : (nightA (ldH h) none true false (S, 0, 0, 0)).2.2.2 = (nightA (ldH h) none false false (T, m, k, 0)).2.2.2 := by
            rw [nightA_ac none false false (T, m, k, 0), q3]
            show _ = 0 ||| _
            rw [Nat.zero_or]
          have hst : (nightA (ldH h) none false false (T, 0, 0, 0)).1 = (nightA (ldH h) none false false (T, m, k, 0)).1 := (nightA_st none false false T m k 0).symm
          rw [hst] at q1 q2
          rw [hset] at ev
          refine C.aload_n dX12_first_55 0 rfl ?_
          refine C.getO fX12_73 dX12_first_56 hS.o0 hS.r0_6 ?_
          refine C.aload_n dX12_first_59 0 rfl ?_
          refine C.getO fX12_54 dX12_first_60 hS.o0 hg ?_
          refine C.aload_n dX12_first_63 0 rfl ?_
          refine C.getO fX12_84 dX12_first_64 hS.o0 hS.r0_8 ?_
          refine C.lconst (lN 0) dX12_first_67 (by decide) ?_
          refine C.callVV lX12_335 dX12_first_68 (kh_night (more := none) hS (Or.inr rfl) hR hW hk3 (fun x q => by cases q) hN1 hSW1 h999 c2 c3 c5) hS.o37 rfl rfl (Nat.le_of_ble_eq_true rfl) (Nat.zero_le _) (Nat.zero_le _) (Nat.le_of_ble_eq_true rfl) (fun μ68 h68 => ?_)
          obtain ⟨g1, g2, g3, g4, g5⟩ := h68
          have hQ2 : QX μ h L c μ68 := ⟨hQ.1.trans (hQ.1.1.sc (ScF.ofN g5) ⟨L, c, hQ.2.night (Or.inr rfl) g5 g4⟩), hQ.2.night (Or.inr rfl) g5 g4⟩
          have hS : ShC μ68 := hQ2.1.1.1.1.1
          refine C.aload_n dX12_first_71 0 rfl ?_
          refine C.getO fX12_73 dX12_first_72 hS.o0 hS.r0_6 ?_
          refine C.getI fX12_339 dX12_first_75 hS.o37 ?_
          rw [g2.2.2]
          refine C.iload_n dX12_first_78 1 rfl ?_
          refine C.ishr dX12_first_79 ?_
          refine C.iconst (nI 1) dX12_first_80 (by decide) ?_
          refine C.iand dX12_first_81 ?_
          rw [shr1 (by omega) (by omega)]
          refine C.iconst (nI 1) dX12_first_82 (by decide) ?_
          refine C.icmp_ne 88 dX12_first_83 rfl (fun hc83 => ?_) (fun hc83 => ?_)
          · have hb := bitN_f hc83
            rw [hb, if_neg (by decide)] at ev
            refine C.iinc (lv' := [(0, _), (1, _), (2, _), (3, _)]) _ dX12_first_88 3 rfl rfl (nLt hX rfl) rfl ?_
            refine C.goto 50 dX12_first_91 rfl ?_
            have hgo := ih (i + 1) _ _ _ _ _ μ68 (by omega) (by omega) hQ2 g1 sw1 q1 q2 (by rw [sw2]; dsimp only; omega) g2.1 g2.2.1 g3 ev
            rw [← nI_1] at hgo
            exact hgo
          · have hb := bitN_t hc83
            rw [if_pos hb] at ev
            refine C.iload_n dX12_first_86 3 rfl ?_
            refine C.iret hq dX12_first_87 ?_
            exact ⟨by rw [← ev]; rfl, hQ2.1⟩
    refine C.aload_n dX12_first_13 0 rfl ?_
    refine C.getO fX12_73 dX12_first_14 hS.o0 hS.r0_6 ?_
    refine C.callVV lX12_323 dX12_first_17 (kh_start hS) hS.o37 rfl rfl (Nat.le_of_ble_eq_true rfl) (Nat.zero_le _) (Nat.zero_le _) (Nat.le_of_ble_eq_true rfl) (fun μ17 h17 => ?_)
    obtain ⟨hP2, hL2⟩ := ClsRel.start hC hL
    rw [← h17] at hP2 hL2
    have hS := hP2.1.1.1.1
    have hN2 := hP2.1.2.1.1
    refine C.aload_n dX12_first_20 0 rfl ?_
    refine C.getO fX12_84 dX12_first_21 hS.o0 hS.r0_8 ?_
    refine C.aload_n dX12_first_24 0 rfl ?_
    refine C.getO fX12_80 dX12_first_25 hS.o0 hS.r0_7 ?_
    refine C.callVV lX12_326 dX12_first_28 (ks_copyOf hS.s46 hS.s40 (by omega)) hS.o46 rfl rfl (Nat.le_of_ble_eq_true rfl) (Nat.zero_le _) (Nat.zero_le _) (Nat.le_of_ble_eq_true rfl) (fun μ28 h28 => ?_)
    have sc15 : ScF μ17 μ28 := ScF.of2 h28.1 (fun a k q => h28.2.1 a k (by unfold scI at q; omega))
    have hL15 := hL2.of h28.1 (fun a k q => h28.2.1 a k (by unfold InL at q; omega))
    have hQ3 : QX μ h L c μ28 := ⟨hP2.trans (hP2.1.sc sc15 ⟨L, c, hL15⟩), hL15⟩
    have hS : ShC μ28 := hQ3.1.1.1.1.1
    have hN3 := hQ3.1.1.2.1.1
    refine C.bipush (nI 60) dX12_first_31 (by decide) ?_
    refine C.sipush (nI 999) dX12_first_33 (by decide) ?_
    refine C.aload_n dX12_first_36 0 rfl ?_
    refine C.getO fX12_80 dX12_first_37 hS.o0 hS.r0_7 ?_
    refine C.getI fX12_175 dX12_first_40 hS.o40 ?_
    rw [hN3.1.1]
    refine C.isub dX12_first_43 ?_
    rw [pk_sub (by omega)]
    refine C.callSI lX12_330 dX12_first_44 (kj_minI _ _) rfl rfl (Nat.le_of_ble_eq_true rfl) (Nat.zero_le _) (Nat.zero_le _) (Nat.le_of_ble_eq_true rfl) (fun x44 μ44 h44 => ?_)
    obtain ⟨rfl, hμ⟩ := h44
    subst hμ
    rw [mn_n (by decide) (by omega)]
    refine C.istore_n (lv' := [(0, _), (1, _), (2, _)]) dX12_first_47 (nLt hX rfl) rfl ?_
    refine C.iconst (nI 1) dX12_first_48 (by decide) ?_
    refine C.istore_n (lv' := [(0, _), (1, _), (2, _), (3, _)]) dX12_first_49 (nLt hX rfl) rfl ?_
    exact loop 60 1 (stH h) (stH h) 0 0 0 _ (by decide) (by decide) hQ3 (h28.n hN2) hH.1.2.1 rfl rfl (by omega) (by rw [h28.2.1 37 2 (by omega), h17]; simp [mI_sL, mI_sI]) (by rw [h28.2.1 37 3 (by omega), h17]; simp [mI_sL, mI_sI]) (by unfold mL; rw [h28.1, h17]; simp [sL, mL]) hKK
  refine C.aload_n dX12_first_0 0 rfl ?_
  refine C.getO fX12_54 dX12_first_1 hS.o0 hg ?_
  refine C.iload_n dX12_first_4 1 rfl ?_
  refine C.callVI lX12_198 dX12_first_5 (kl_isWalker hR.o hR.2.1.2.1.2 (by omega) x) hR.o rfl rfl (Nat.le_of_ble_eq_true rfl) (Nat.zero_le _) (Nat.zero_le _) (Nat.le_of_ble_eq_true rfl) (fun x5 μ5 h5 => ?_)
  obtain ⟨rfl, hμ⟩ := h5
  subst hμ
  refine C.if_ne 13 dX12_first_8 rfl (fun hc8 => ?_) (fun hc8 => ?_)
  · obtain ⟨w, hz⟩ := isS_t hc8
    rw [hz] at hq
    obtain ⟨hw, ew⟩ := inN_some (by omega) hz
    rw [ew]
    exact main w hw hq
  · have hz := isS_f hc8
    rw [hz] at hq
    refine C.iconst (-1) dX12_first_11 (by decide) ?_
    refine C.iret hq dX12_first_12 ?_
    exact ⟨rfl, hC.self⟩
end KXF
