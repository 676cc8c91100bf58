/-! the class: cells, bells, walkers -/
section KX3
variable {l : Launch} {G : Gm} {μ : Mm} {h : Hs}

theorem kx_walker (hC : ClsRel μ h) (hH : HOk h) (x y : Int32) : AMet l G 1 0 0 mtX12_walker [.ref (G.1 + 0), .int x, .int y] μ (qI (fun z μ' => z = walkA h x y ∧ PX μ h μ')) := by
  refine AMet.of (by decide) (Nat.le_of_ble_eq_true rfl) (fun X C hX hnm hq => ?_)
  have hS := hC.1.1.1
  obtain ⟨L, c, hL⟩ := hC.2.2.2
  have hg := hL.1
  have hR := hL.2.1
  have hd7 := hH.d7
  have hN := hC.2.1.1
  unfold walkA at hq
  have m13 : ∀ w, w < (ldH h).2.2.2.1.length → MR G X (qI (fun z μ' => z = (match inN y 8 with | some j => walkN h w j | none => -1) ∧ PX μ h μ')) → AW l G X 0 0 13 [(0, .ref (G.1 + 0)), (1, .int (nI w)), (2, .int y)] [] μ := by
    clear hq
    intro w hw hq
    have hW := hH.wfW hw
    have h7 := hW.w7
    have h49 := hW.n49
    have hwq : (ldH h).2.2.2.1[w]? = some ((ldH h).2.2.2.1.getD w (0, 0, 0, 0)) := by rw [List.getD_eq_getElem?_getD, List.getElem?_eq_getElem hw]; rfl
    obtain ⟨w6, g1, g2, g3, g4⟩ := hR.2.2.2.2.1 w _ hwq
    have g40 : mI μ (c (20 + w)) 0 = nI (kC (ldH h) (walkF (ldH h) w)) := by rw [g4 0 (by decide)]; congr 1; exact congrArg (kC (ldH h)) (show walkF (ldH h) w % 7 + 7 * (walkF (ldH h) w / 7) = walkF (ldH h) w by omega)
    have g1' : mI μ (c 6) w = nI (kC (ldH h) (walkT (ldH h) w)) := g1
    have kf := kC_lt (hW.walkF hw)
    have kt := kC_lt (hW.walkT hw)
    obtain ⟨-, n1, n2, n3, n4⟩ := hN.wk (w := w) (by rw [hH.1.2.1.2.2.1]; exact hw)
    refine C.iload_n dX12_walker_13 2 rfl ?_
    cases hin14 : inN y 8 with
    | none =>
      rw [hin14] at hq
      refine C.tableOut 172 dX12_walker_14 (inN_out (n := 7) (by decide) hin14) rfl ?_
      refine C.iconst (-1) dX12_walker_172 (by decide) ?_
      refine C.iret hq dX12_walker_173 ?_
      exact ⟨rfl, hC.self⟩
    | some j14 =>
      rw [hin14] at hq
      obtain ⟨hj14, e14⟩ := inN_some (by decide) hin14
      subst e14
      rcases (show j14 = 0 ∨ j14 = 1 ∨ j14 = 2 ∨ j14 = 3 ∨ j14 = 4 ∨ j14 = 5 ∨ j14 = 6 ∨ j14 = 7 by omega) with rfl | rfl | rfl | rfl | rfl | rfl | rfl | rfl
      · refine C.tableIn 60 dX12_walker_14 (by decide) (by decide) rfl rfl ?_
        refine C.aload_n dX12_walker_60 0 rfl ?_
        refine C.getO fX12_54 dX12_walker_61 hS.o0 hg ?_
        refine C.aload_n dX12_walker_64 0 rfl ?_
        refine C.getO fX12_54 dX12_walker_65 hS.o0 hg ?_
        refine C.getA fX12_250 dX12_walker_68 hR.o (hR.r (by decide)) ?_
        refine C.iload_n dX12_walker_71 1 rfl ?_
        refine C.aald hR.1.2.2.2.2.1.1 (Or.inr rfl) (n_in w6) (by rw [n_cl (by omega)]; exact (hR.1.2.2.2.2.1.2 w w6).1) dX12_walker_72 ?_
        refine C.iconst (nI 0) dX12_walker_73 (by decide) ?_
        refine C.iald (hR.1.2.2.2.2.1.2 w w6).2 (n_in (by decide)) dX12_walker_74 ?_
        rw [n_cl, g40]
        refine C.callVI lX12_234 dX12_walker_75 (kl_columnOf hR.o hR.2.1.1.1 (by omega) (by omega) (by omega)) hR.o rfl rfl (Nat.le_of_ble_eq_true rfl) (Nat.zero_le _) (Nat.zero_le _) (Nat.le_of_ble_eq_true rfl) (fun x75 μ75 h75 => ?_)
        obtain ⟨rfl, hμ⟩ := h75
        subst hμ
        rw [kC_mod (hW.walkF hw)]
        refine C.iret hq dX12_walker_78 ?_
        exact ⟨rfl, hC.self⟩
      · refine C.tableIn 79 dX12_walker_14 (by decide) (by decide) rfl rfl ?_
        refine C.aload_n dX12_walker_79 0 rfl ?_
        refine C.getO fX12_54 dX12_walker_80 hS.o0 hg ?_
        refine C.aload_n dX12_walker_83 0 rfl ?_
        refine C.getO fX12_54 dX12_walker_84 hS.o0 hg ?_
        refine C.getA fX12_250 dX12_walker_87 hR.o (hR.r (by decide)) ?_
        refine C.iload_n dX12_walker_90 1 rfl ?_
        refine C.aald hR.1.2.2.2.2.1.1 (Or.inr rfl) (n_in w6) (by rw [n_cl (by omega)]; exact (hR.1.2.2.2.2.1.2 w w6).1) dX12_walker_91 ?_
        refine C.iconst (nI 0) dX12_walker_92 (by decide) ?_
        refine C.iald (hR.1.2.2.2.2.1.2 w w6).2 (n_in (by decide)) dX12_walker_93 ?_
        rw [n_cl, g40]
        refine C.callVI lX12_237 dX12_walker_94 (kl_rowOf hR.o hR.2.1.1.1 (by omega) (by omega) (by omega)) hR.o rfl rfl (Nat.le_of_ble_eq_true rfl) (Nat.zero_le _) (Nat.zero_le _) (Nat.le_of_ble_eq_true rfl) (fun x94 μ94 h94 => ?_)
        obtain ⟨rfl, hμ⟩ := h94
        subst hμ
        rw [kC_div (hW.walkF hw)]
        refine C.iret hq dX12_walker_97 ?_
        exact ⟨rfl, hC.self⟩
      · refine C.tableIn 98 dX12_walker_14 (by decide) (by decide) rfl rfl ?_
        refine C.aload_n dX12_walker_98 0 rfl ?_
        refine C.getO fX12_54 dX12_walker_99 hS.o0 hg ?_
        refine C.aload_n dX12_walker_102 0 rfl ?_
        refine C.getO fX12_54 dX12_walker_103 hS.o0 hg ?_
        refine C.getA fX12_253 dX12_walker_106 hR.o (hR.r (by decide)) ?_
        refine C.iload_n dX12_walker_109 1 rfl ?_
        refine C.iald hR.1.2.2.2.1.2.2.2.1 (n_in w6) dX12_walker_110 ?_
        rw [n_cl, g1']
        refine C.callVI lX12_234 dX12_walker_111 (kl_columnOf hR.o hR.2.1.1.1 (by omega) (by omega) (by omega)) hR.o rfl rfl (Nat.le_of_ble_eq_true rfl) (Nat.zero_le _) (Nat.zero_le _) (Nat.le_of_ble_eq_true rfl) (fun x111 μ111 h111 => ?_)
        obtain ⟨rfl, hμ⟩ := h111
        subst hμ
        rw [kC_mod (hW.walkT hw)]
        refine C.iret hq dX12_walker_114 ?_
        exact ⟨rfl, hC.self⟩
      · refine C.tableIn 115 dX12_walker_14 (by decide) (by decide) rfl rfl ?_
        refine C.aload_n dX12_walker_115 0 rfl ?_
        refine C.getO fX12_54 dX12_walker_116 hS.o0 hg ?_
        refine C.aload_n dX12_walker_119 0 rfl ?_
        refine C.getO fX12_54 dX12_walker_120 hS.o0 hg ?_
        refine C.getA fX12_253 dX12_walker_123 hR.o (hR.r (by decide)) ?_
        refine C.iload_n dX12_walker_126 1 rfl ?_
        refine C.iald hR.1.2.2.2.1.2.2.2.1 (n_in w6) dX12_walker_127 ?_
        rw [n_cl, g1']
        refine C.callVI lX12_237 dX12_walker_128 (kl_rowOf hR.o hR.2.1.1.1 (by omega) (by omega) (by omega)) hR.o rfl rfl (Nat.le_of_ble_eq_true rfl) (Nat.zero_le _) (Nat.zero_le _) (Nat.le_of_ble_eq_true rfl) (fun x128 μ128 h128 => ?_)
        obtain ⟨rfl, hμ⟩ := h128
        subst hμ
        rw [kC_div (hW.walkT hw)]
        refine C.iret hq dX12_walker_131 ?_
        exact ⟨rfl, hC.self⟩
      · refine C.tableIn 132 dX12_walker_14 (by decide) (by decide) rfl rfl ?_
        refine C.aload_n dX12_walker_132 0 rfl ?_
        refine C.getO fX12_80 dX12_walker_133 hS.o0 hS.r0_7 ?_
        refine C.getA fX12_256 dX12_walker_136 hS.o40 hS.r40_0 ?_
        refine C.iload_n dX12_walker_139 1 rfl ?_
        refine C.iald hS.a41 (n_in w6) dX12_walker_140 ?_
        rw [n_cl, n1]
        refine C.iret hq dX12_walker_141 ?_
        exact ⟨rfl, hC.self⟩
      · refine C.tableIn 142 dX12_walker_14 (by decide) (by decide) rfl rfl ?_
        refine C.aload_n dX12_walker_142 0 rfl ?_
        refine C.getO fX12_80 dX12_walker_143 hS.o0 hS.r0_7 ?_
        refine C.getA fX12_259 dX12_walker_146 hS.o40 hS.r40_1 ?_
        refine C.iload_n dX12_walker_149 1 rfl ?_
        refine C.iald hS.a42 (n_in w6) dX12_walker_150 ?_
        rw [n_cl, n2]
        refine C.iret hq dX12_walker_151 ?_
        exact ⟨rfl, hC.self⟩
      · refine C.tableIn 152 dX12_walker_14 (by decide) (by decide) rfl rfl ?_
        refine C.aload_n dX12_walker_152 0 rfl ?_
        refine C.getO fX12_80 dX12_walker_153 hS.o0 hS.r0_7 ?_
        refine C.getA fX12_262 dX12_walker_156 hS.o40 hS.r40_2 ?_
        refine C.iload_n dX12_walker_159 1 rfl ?_
        refine C.iald hS.a43 (n_in w6) dX12_walker_160 ?_
        rw [n_cl, n3]
        refine C.iret hq dX12_walker_161 ?_
        exact ⟨rfl, hC.self⟩
      · refine C.tableIn 162 dX12_walker_14 (by decide) (by decide) rfl rfl ?_
        refine C.aload_n dX12_walker_162 0 rfl ?_
        refine C.getO fX12_80 dX12_walker_163 hS.o0 hS.r0_7 ?_
        refine C.getA fX12_265 dX12_walker_166 hS.o40 hS.r40_3 ?_
        refine C.iload_n dX12_walker_169 1 rfl ?_
        refine C.iald hS.a44 (n_in w6) dX12_walker_170 ?_
        rw [n_cl, n4]
        refine C.iret hq dX12_walker_171 ?_
        exact ⟨rfl, hC.self⟩
  refine C.aload_n dX12_walker_0 0 rfl ?_
  refine C.getO fX12_54 dX12_walker_1 hS.o0 hg ?_
  refine C.iload_n dX12_walker_4 1 rfl ?_
  refine C.callVI lX12_198 dX12_walker_5 (kl_isWalker hR.o hR.2.1.2.1.2 (by omega) x) hR.o rfl rfl (Nat.le_of_ble_eq_true rfl) (Nat.zero_le _) (Nat.zero_le _) (Nat.le_of_ble_eq_true rfl) (fun x5 μ5 h5 => ?_)
  obtain ⟨rfl, hμ⟩ := h5
  subst hμ
  refine C.if_ne 13 dX12_walker_8 rfl (fun hc8 => ?_) (fun hc8 => ?_)
  · obtain ⟨w, hz⟩ := isS_t hc8
    rw [hz] at hq
    obtain ⟨hw, ew⟩ := inN_some (by omega) hz
    subst ew
    exact m13 w hw hq
  · have hz := isS_f hc8
    rw [hz] at hq
    refine C.iconst (-1) dX12_walker_11 (by decide) ?_
    refine C.iret hq dX12_walker_12 ?_
    exact ⟨rfl, hC.self⟩
theorem kx_bell (hC : ClsRel μ h) (hH : HOk h) (x y : Int32) : AMet l G 6 0 0 mtX12_bell [.ref (G.1 + 0), .int x, .int y] μ (qI (fun z μ' => z = bellA h x y ∧ PX μ h μ')) := by
  refine AMet.of (by decide) (Nat.le_of_ble_eq_true rfl) (fun X C hX hnm hq => ?_)
  have hS := hC.1.1.1
  obtain ⟨L, c, hL⟩ := hC.2.2.2
  have hg := hL.1
  have hR := hL.2.1
  have hd7 := hH.d7
  have hN := hC.2.1.1
  unfold bellA at hq
  have m13 : ∀ b, b < (ldH h).2.2.1.length → MR G X (qI (fun z μ' => z = (match inN y 5 with | some j => bellN h b j | none => -1) ∧ PX μ h μ')) → AW l G X 0 0 13 [(0, .ref (G.1 + 0)), (1, .int (nI b)), (2, .int y)] [] μ := by
    clear hq
    intro b hb hq
    have hW := hH.wfB hb
    have h7 := hW.w7
    have h49 := hW.n49
    have hbq := hR.bq hb
    have hbk := wf_bell hW hb
    have hkb := kC_lt hbk.1
    have hr32 : (stH h).1.2 < 32 := two5 hH.1.2.1.2.1 hW.2.2.1.1
    refine C.iload_n dX12_bell_13 2 rfl ?_
    cases hin14 : inN y 5 with
    | none =>
      rw [hin14] at hq
      refine C.tableOut 127 dX12_bell_14 (inN_out (n := 4) (by decide) hin14) rfl ?_
      refine C.iconst (-1) dX12_bell_127 (by decide) ?_
      refine C.iret hq dX12_bell_128 ?_
      exact ⟨rfl, hC.self⟩
    | some j14 =>
      rw [hin14] at hq
      obtain ⟨hj14, e14⟩ := inN_some (by decide) hin14
      subst e14
      rcases (show j14 = 0 ∨ j14 = 1 ∨ j14 = 2 ∨ j14 = 3 ∨ j14 = 4 by omega) with rfl | rfl | rfl | rfl | rfl
      · refine C.tableIn 48 dX12_bell_14 (by decide) (by decide) rfl rfl ?_
        refine C.aload_n dX12_bell_48 0 rfl ?_
        refine C.getO fX12_54 dX12_bell_49 hS.o0 hg ?_
        refine C.aload_n dX12_bell_52 0 rfl ?_
        refine C.getO fX12_54 dX12_bell_53 hS.o0 hg ?_
        refine C.getA fX12_231 dX12_bell_56 hR.o (hR.r (by decide)) ?_
        refine C.iload_n dX12_bell_59 1 rfl ?_
        refine C.iald hR.1.2.2.2.1.2.1 (n_in (by omega)) dX12_bell_60 ?_
        rw [n_cl, hbq.1]
        refine C.callVI lX12_234 dX12_bell_61 (kl_columnOf hR.o hR.2.1.1.1 (by omega) (by omega) (by omega)) hR.o rfl rfl (Nat.le_of_ble_eq_true rfl) (Nat.zero_le _) (Nat.zero_le _) (Nat.le_of_ble_eq_true rfl) (fun x61 μ61 h61 => ?_)
        obtain ⟨rfl, hμ⟩ := h61
        subst hμ
        rw [kC_mod hbk.1]
        refine C.iret hq dX12_bell_64 ?_
        exact ⟨rfl, hC.self⟩
      · refine C.tableIn 65 dX12_bell_14 (by decide) (by decide) rfl rfl ?_
        refine C.aload_n dX12_bell_65 0 rfl ?_
        refine C.getO fX12_54 dX12_bell_66 hS.o0 hg ?_
        refine C.aload_n dX12_bell_69 0 rfl ?_
        refine C.getO fX12_54 dX12_bell_70 hS.o0 hg ?_
        refine C.getA fX12_231 dX12_bell_73 hR.o (hR.r (by decide)) ?_
        refine C.iload_n dX12_bell_76 1 rfl ?_
        refine C.iald hR.1.2.2.2.1.2.1 (n_in (by omega)) dX12_bell_77 ?_
        rw [n_cl, hbq.1]
        refine C.callVI lX12_237 dX12_bell_78 (kl_rowOf hR.o hR.2.1.1.1 (by omega) (by omega) (by omega)) hR.o rfl rfl (Nat.le_of_ble_eq_true rfl) (Nat.zero_le _) (Nat.zero_le _) (Nat.le_of_ble_eq_true rfl) (fun x78 μ78 h78 => ?_)
        obtain ⟨rfl, hμ⟩ := h78
        subst hμ
        rw [kC_div hbk.1]
        refine C.iret hq dX12_bell_81 ?_
        exact ⟨rfl, hC.self⟩
      · refine C.tableIn 82 dX12_bell_14 (by decide) (by decide) rfl rfl ?_
        refine C.aload_n dX12_bell_82 0 rfl ?_
        refine C.getO fX12_54 dX12_bell_83 hS.o0 hg ?_
        refine C.getA fX12_240 dX12_bell_86 hR.o (hR.r (by decide)) ?_
        refine C.iload_n dX12_bell_89 1 rfl ?_
        refine C.iald hR.1.2.2.2.1.2.2.1 (n_in (by omega)) dX12_bell_90 ?_
        rw [n_cl, hbq.2]
        refine C.iret hq dX12_bell_91 ?_
        exact ⟨rfl, hC.self⟩
      · refine C.tableIn 92 dX12_bell_14 (by decide) (by decide) rfl rfl ?_
        refine C.aload_n dX12_bell_92 0 rfl ?_
        refine C.getO fX12_80 dX12_bell_93 hS.o0 hS.r0_7 ?_
        refine C.getI fX12_178 dX12_bell_96 hS.o40 ?_
        rw [hN.1.2]
        refine C.iload_n dX12_bell_99 1 rfl ?_
        refine C.ishr dX12_bell_100 ?_
        refine C.iconst (nI 1) dX12_bell_101 (by decide) ?_
        refine C.iand dX12_bell_102 ?_
        rw [shr1 (by omega) (by omega)]
        refine C.iret hq dX12_bell_103 ?_
        refine ⟨?_, hC.self⟩
        show nI ((stH h).1.2 / 2 ^ b % 2) = bI (bitN (stH h).1.2 b)
        unfold bitN
        by_cases q : (stH h).1.2 / 2 ^ b % 2 = 1
        · rw [q, decide_eq_true rfl]; rfl
        · rw [show (stH h).1.2 / 2 ^ b % 2 = 0 by omega]; rfl
      · refine C.tableIn 104 dX12_bell_14 (by decide) (by decide) rfl rfl ?_
        refine C.aload_n dX12_bell_104 0 rfl ?_
        refine C.getO fX12_54 dX12_bell_105 hS.o0 hg ?_
        refine C.iload_n dX12_bell_108 1 rfl ?_
        refine C.aload_n dX12_bell_109 0 rfl ?_
        refine C.getO fX12_80 dX12_bell_110 hS.o0 hS.r0_7 ?_
        refine C.getI fX12_178 dX12_bell_113 hS.o40 ?_
        rw [hN.1.2]
        refine C.aload_n dX12_bell_116 0 rfl ?_
        refine C.callVR lX12_224 dX12_bell_117 (kx_tonight hC hH hW hL) hS.o0 rfl rfl (Nat.le_of_ble_eq_true rfl) (Nat.zero_le _) (Nat.zero_le _) (Nat.le_of_ble_eq_true rfl) (fun x117 μ117 h117 => ?_)
        obtain ⟨rfl, hPX, hL2, hri, hl2, htr⟩ := h117
        have hS : ShC μ117 := hPX.1.1.1.1
        refine C.getL fX12_243 dX12_bell_120 hS.o33 ?_
        rw [htr]
        refine C.callVI lX12_246 dX12_bell_123 (kl_lossOf hL2.2.1 hW (by omega) hb (fun k hk => (hri k hk).2)) hL2.2.1.o rfl rfl (Nat.le_of_ble_eq_true rfl) (Nat.zero_le _) (Nat.zero_le _) (Nat.le_of_ble_eq_true rfl) (fun x123 μ123 h123 => ?_)
        obtain ⟨rfl, hμ⟩ := h123
        subst hμ
        refine C.iret hq dX12_bell_126 ?_
        exact ⟨rfl, hPX⟩
  refine C.aload_n dX12_bell_0 0 rfl ?_
  refine C.getO fX12_54 dX12_bell_1 hS.o0 hg ?_
  refine C.iload_n dX12_bell_4 1 rfl ?_
  refine C.callVI lX12_195 dX12_bell_5 (kl_isBell hR.o hR.2.1.2.1.1 (by omega) x) hR.o rfl rfl (Nat.le_of_ble_eq_true rfl) (Nat.zero_le _) (Nat.zero_le _) (Nat.le_of_ble_eq_true rfl) (fun x5 μ5 h5 => ?_)
  obtain ⟨rfl, hμ⟩ := h5
  subst hμ
  refine C.if_ne 13 dX12_bell_8 rfl (fun hc8 => ?_) (fun hc8 => ?_)
  · obtain ⟨w, hz⟩ := isS_t hc8
    rw [hz] at hq
    obtain ⟨hw, ew⟩ := inN_some (by omega) hz
    subst ew
    exact m13 w hw hq
  · have hz := isS_f hc8
    rw [hz] at hq
    refine C.iconst (-1) dX12_bell_11 (by decide) ?_
    refine C.iret hq dX12_bell_12 ?_
    exact ⟨rfl, hC.self⟩
theorem kx_cell (hC : ClsRel μ h) (hH : HOk h) (x y z : Int32) : AMet l G 6 0 0 mtX12_cell [.ref (G.1 + 0), .int x, .int y, .int z] μ (qI (fun v μ' => v = cellA h x y z ∧ PX μ h μ')) := by
  refine AMet.of (by decide) (Nat.le_of_ble_eq_true rfl) (fun X C hX hnm hq => ?_)
  have hS := hC.1.1.1
  obtain ⟨L, c, hL⟩ := hC.2.2.2
  have hg := hL.1
  have hR := hL.2.1
  have hd7 := hH.d7
  have hN := hC.2.1.1
  unfold cellA at hq
  have m25 : ∀ a b, a < (ldH h).1.1 → b < (ldH h).1.2.1 → MR G X (qI (fun v μ' => v = (match inN z 3 with | some 0 => bI (decide (a + 7 * b ∈ (ldH h).2.1)) | some 1 => bI (ringF (ldH h) (stH h).1.2 (a + 7 * b)) | some _ => opI (fsF (fun k => decide (ridH h k = a + 7 * b)) 12 0) | none => -1) ∧ PX μ h μ')) → AW l G X 0 0 25 [(0, .ref (G.1 + 0)), (1, .int (nI a)), (2, .int (nI b)), (3, .int z), (4, .int (nI (kC (ldH h) (a + 7 * b))))] [] μ := by
    clear hq
    intro a b ha hb hq
    have hW := hH.wfP (by omega)
    have h7 := hW.w7
    have h49 := hW.n49
    have hok : clOk (ldH h) (a + 7 * b) := clOk_xy ha hb h7.2
    have hkl := kC_lt hok
    have hch : chB (ldH h) < 2 ^ 49 := bsF_49 h49.2
    have hrg : rgB (ldH h) (stH h).1.2 < 2 ^ 49 := bsF_49 h49.2
    have hr32 : (stH h).1.2 < 32 := two5 hH.1.2.1.2.1 hW.2.2.1.1
    refine C.iload_n dX12_cell_25 3 rfl ?_
    cases hin26 : inN z 3 with
    | none =>
      rw [hin26] at hq
      refine C.tableOut 95 dX12_cell_26 (inN_out (n := 2) (by decide) hin26) rfl ?_
      refine C.iconst (-1) dX12_cell_95 (by decide) ?_
      refine C.iret hq dX12_cell_96 ?_
      exact ⟨rfl, hC.self⟩
    | some j26 =>
      rw [hin26] at hq
      obtain ⟨hj26, e26⟩ := inN_some (by decide) hin26
      subst e26
      rcases (show j26 = 0 ∨ j26 = 1 ∨ j26 = 2 by omega) with rfl | rfl | rfl
      · refine C.tableIn 52 dX12_cell_26 (by decide) (by decide) rfl rfl ?_
        refine C.aload_n dX12_cell_52 0 rfl ?_
        refine C.getO fX12_54 dX12_cell_53 hS.o0 hg ?_
        refine C.getL fX12_159 dX12_cell_56 hR.o ?_
        rw [hR.2.2.1.1]
        refine C.iload dX12_cell_59 4 rfl ?_
        refine C.callSI lX12_216 dX12_cell_61 (kc_bitOf (by omega) (by omega)) rfl rfl (Nat.le_of_ble_eq_true rfl) (Nat.zero_le _) (Nat.zero_le _) (Nat.le_of_ble_eq_true rfl) (fun x61 μ61 h61 => ?_)
        obtain ⟨rfl, hμ⟩ := h61
        subst hμ
        refine C.iret hq dX12_cell_64 ?_
        exact ⟨by show bI ((chB (ldH h)).testBit _) = bI _; unfold chB; rw [bsF_tb, decide_eq_true hkl, cK_kC hok, Bool.true_and], hC.self⟩
      · refine C.tableIn 65 dX12_cell_26 (by decide) (by decide) rfl rfl ?_
        refine C.aload_n dX12_cell_65 0 rfl ?_
        refine C.getO fX12_54 dX12_cell_66 hS.o0 hg ?_
        refine C.aload_n dX12_cell_69 0 rfl ?_
        refine C.getO fX12_80 dX12_cell_70 hS.o0 hS.r0_7 ?_
        refine C.getI fX12_178 dX12_cell_73 hS.o40 ?_
        rw [hN.1.2]
        refine C.callVL lX12_220 dX12_cell_76 (kl_soundOf hR hW (by omega)) hR.o rfl rfl (Nat.le_of_ble_eq_true rfl) (Nat.zero_le _) (Nat.zero_le _) (Nat.le_of_ble_eq_true rfl) (fun x76 μ76 h76 => ?_)
        obtain ⟨rfl, hμ⟩ := h76
        subst hμ
        refine C.iload dX12_cell_79 4 rfl ?_
        refine C.callSI lX12_216 dX12_cell_81 (kc_bitOf (by omega) (by omega)) rfl rfl (Nat.le_of_ble_eq_true rfl) (Nat.zero_le _) (Nat.zero_le _) (Nat.le_of_ble_eq_true rfl) (fun x81 μ81 h81 => ?_)
        obtain ⟨rfl, hμ⟩ := h81
        subst hμ
        refine C.iret hq dX12_cell_84 ?_
        exact ⟨by show bI ((rgB (ldH h) (stH h).1.2).testBit _) = bI _; unfold rgB; rw [bsF_tb, decide_eq_true hkl, cK_kC hok, Bool.true_and], hC.self⟩
      · refine C.tableIn 85 dX12_cell_26 (by decide) (by decide) rfl rfl ?_
        refine C.aload_n dX12_cell_85 0 rfl ?_
        refine C.callVR lX12_224 dX12_cell_86 (kx_tonight hC hH hW hL) hS.o0 rfl rfl (Nat.le_of_ble_eq_true rfl) (Nat.zero_le _) (Nat.zero_le _) (Nat.le_of_ble_eq_true rfl) (fun x86 μ86 h86 => ?_)
        obtain ⟨rfl, hPX, hL2, hri, hl2, htr⟩ := h86
        have hS : ShC μ86 := hPX.1.1.1.1
        refine C.iload dX12_cell_89 4 rfl ?_
        refine C.callVI lX12_228 dX12_cell_91 (kd_hourAt hS (by omega) hW hri hok) hS.o33 rfl rfl (Nat.le_of_ble_eq_true rfl) (Nat.zero_le _) (Nat.zero_le _) (Nat.le_of_ble_eq_true rfl) (fun x91 μ91 h91 => ?_)
        obtain ⟨rfl, hμ⟩ := h91
        subst hμ
        refine C.iret hq dX12_cell_94 ?_
        exact ⟨rfl, hPX⟩
  have m12 : MR G X (qI (fun v μ' => v = -1 ∧ PX μ h μ')) → AW l G X 0 0 12 [(0, .ref (G.1 + 0)), (1, .int x), (2, .int y), (3, .int z)] [] μ := by
    clear hq
    intro hq
    refine C.iconst (-1) dX12_cell_12 (by decide) ?_
    refine C.iret hq dX12_cell_13 ?_
    exact ⟨rfl, hC.self⟩
  refine C.aload_n dX12_cell_0 0 rfl ?_
  refine C.getO fX12_54 dX12_cell_1 hS.o0 hg ?_
  refine C.iload_n dX12_cell_4 1 rfl ?_
  refine C.iload_n dX12_cell_5 2 rfl ?_
  refine C.callVI lX12_209 dX12_cell_6 (kl_holds hR.o hR.2.1.1.1 hR.2.1.1.2.1 (by omega) (by omega) x y) hR.o rfl rfl (Nat.le_of_ble_eq_true rfl) (Nat.zero_le _) (Nat.zero_le _) (Nat.le_of_ble_eq_true rfl) (fun x6 μ6 h6 => ?_)
  obtain ⟨rfl, hμ⟩ := h6
  subst hμ
  refine C.if_ne 14 dX12_cell_9 rfl (fun hc9 => ?_) (fun hc9 => ?_)
  · have hz9 := b_t hc9
    rw [Bool.and_eq_true] at hz9
    obtain ⟨a, h1⟩ := Option.isSome_iff_exists.mp hz9.1
    obtain ⟨b, h2⟩ := Option.isSome_iff_exists.mp hz9.2
    rw [h1, h2] at hq
    obtain ⟨ha, ea⟩ := inN_some (by omega) h1
    obtain ⟨hb, eb⟩ := inN_some (by omega) h2
    subst ea
    subst eb
    refine C.aload_n dX12_cell_14 0 rfl ?_
    refine C.getO fX12_54 dX12_cell_15 hS.o0 hg ?_
    refine C.iload_n dX12_cell_18 1 rfl ?_
    refine C.iload_n dX12_cell_19 2 rfl ?_
    refine C.callVI lX12_213 dX12_cell_20 (kl_cellAt hR.o _ _) hR.o rfl rfl (Nat.le_of_ble_eq_true rfl) (Nat.zero_le _) (Nat.zero_le _) (Nat.le_of_ble_eq_true rfl) (fun x20 μ20 h20 => ?_)
    obtain ⟨rfl, hμ⟩ := h20
    subst hμ
    rw [hR.2.1.1.1, pk_mul, nI_add, show b * (ldH h).1.1 + a = kC (ldH h) (a + 7 * b) from by unfold kC; rw [show (a + 7 * b) / 7 = b by omega, show (a + 7 * b) % 7 = a by omega]]
    refine C.istore (lv' := [(0, _), (1, _), (2, _), (3, _), (4, _)]) dX12_cell_23 (nLt hX rfl) rfl ?_
    exact m25 a b ha hb hq
  · have hz9 := (bI_0 _).mp hc9
    cases h1 : inN x (ldH h).1.1 with
    | none => rw [h1] at hq; dsimp only at hq; exact m12 hq
    | some a =>
      cases h2 : inN y (ldH h).1.2.1 with
      | none => rw [h1, h2] at hq; dsimp only at hq; exact m12 hq
      | some b => rw [h1, h2] at hz9; cases hz9
end KX3
