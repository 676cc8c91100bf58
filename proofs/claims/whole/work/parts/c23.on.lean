/-! the class: on -/
section KXO
variable {l : Launch} {G : Gm} {μ : Mm} {h : Hs}

theorem kx_isImage (hC : ClsRel μ h) (hH : HOk h) (hp : 0 < (ldH h).1.1) : AMet l G 2 0 0 mtX12_tapeIsImage [.ref (G.1 + 0)] μ (qI (fun x μ' => x = bI (onOk h) ∧ μ' = μ)) := by
  refine AMet.of (by decide) (Nat.le_of_ble_eq_true rfl) (fun X C hX hnm hq => ?_)
  have hS := hC.1.1.1
  have hT := hC.1.2.1
  have h1600 := hT.2.1
  obtain ⟨L, c, hL⟩ := hC.2.2.2
  have hg := hL.1
  have hR := hL.2.1
  have hd7 := hH.d7
  have hby : ∀ k, k < (tpH h).length → txL (tpH h) k < 256 := fun k q => (hT.2.2 k _ (txL_q q)).2
  have hp5 : 2 ^ (ldH h).2.2.1.length ≤ 2 ^ 5 := Nat.pow_le_pow_right (by decide) hd7.2.2.2.2.1
  generalize hnw : (ldH h).2.2.2.1.length = nw at hd7
  have hwc : mI μ L 12 = nI nw := by rw [← hnw]; exact hR.2.1.2.1.2
  have no : onOk h = false → AW l G X 0 0 60 [(0, .ref (G.1 + 0)), (1, .int (nI (3 + 6 * nw)))] [] μ := by
    intro hn
    rw [hn] at hq
    refine C.iconst (nI 0) dX12_tapeIsImage_60 (by decide) ?_
    refine C.zret hq dX12_tapeIsImage_61 (by decide) ?_
    exact ⟨rfl, rfl⟩
  have main : (tpH h).length = 4 + 6 * nw → two (txL (tpH h)) 0 ≤ 999 → txL (tpH h) 2 < 2 ^ (ldH h).2.2.1.length → AW l G X 0 0 62 [(0, .ref (G.1 + 0)), (1, .int (nI (3 + 6 * nw)))] [] μ := by
    intro hlen h999 hr
    have hOk : onOk h = (decide (txL (tpH h) (3 + 6 * nw) = chkN (txL (tpH h)) (3 + 6 * nw)) && (List.range nw).all (onG (txL (tpH h)))) := by
      unfold onOk onB
      rw [decide_eq_true hp, hnw, decide_eq_true hlen, decide_eq_true h999, decide_eq_true hr, show (tpH h).length - 1 = 3 + 6 * nw by omega]
      simp
    have sum : ∀ b, (List.range nw).all (onG (txL (tpH h))) = b → ∀ (j i : Nat), i + j = 3 + 6 * nw → AW l G X 0 0 152 [(0, .ref (G.1 + 0)), (1, .int (nI (3 + 6 * nw))), (2, .int (bI b)), (3, .int (nI (chkN (txL (tpH h)) i))), (4, .int (nI i))] [] μ := by
      intro b hb j
      rw [hb] at hOk
      induction j with
      | zero =>
        intro i hi
        have e : i = 3 + 6 * nw := by omega
        subst e
        have hcl := chkN_lt (f := txL (tpH h)) (3 + 6 * nw)
        have hb2 := hby (3 + 6 * nw) (by omega)
        refine C.iload dX12_tapeIsImage_152 4 rfl ?_
        refine C.iload_n dX12_tapeIsImage_154 1 rfl ?_
        refine C.icmp_ge 182 dX12_tapeIsImage_155 rfl (fun hc155 => ?_) (fun hc155 => ?_)
        · refine C.iload_n dX12_tapeIsImage_182 2 rfl ?_
          refine C.if_eq 202 dX12_tapeIsImage_183 rfl (fun hc183 => ?_) (fun hc183 => ?_)
          · have hz := (bI_0 _).mp hc183
            have hv : onOk h = false := by rw [hOk, hz, Bool.and_false]
            refine C.iconst (nI 0) dX12_tapeIsImage_202 (by decide) ?_
            refine C.zret hq dX12_tapeIsImage_203 (by decide) ?_
            exact ⟨by rw [hv]; rfl, rfl⟩
          · have hz := b_t hc183
            refine C.aload_n dX12_tapeIsImage_186 0 rfl ?_
            refine C.getO fX12_12 dX12_tapeIsImage_187 hS.o0 hS.r0_0 ?_
            refine C.iload_n dX12_tapeIsImage_190 1 rfl ?_
            refine C.callVI lX12_342 dX12_tapeIsImage_191 (kt_atN hS hT (k := 3 + 6 * nw) (by omega)) hS.o1 rfl rfl (Nat.le_of_ble_eq_true rfl) (Nat.zero_le _) (Nat.zero_le _) (Nat.le_of_ble_eq_true rfl) (fun x191 μ191 h191 => ?_)
            obtain ⟨rfl, hμ⟩ := h191
            subst hμ
            refine C.iload_n dX12_tapeIsImage_194 3 rfl ?_
            refine C.icmp_ne 202 dX12_tapeIsImage_195 rfl (fun hc195 => ?_) (fun hc195 => ?_)
            · have hv : onOk h = false := by rw [hOk, decide_eq_false (n_ne hc195)]; rfl
              refine C.iconst (nI 0) dX12_tapeIsImage_202 (by decide) ?_
              refine C.zret hq dX12_tapeIsImage_203 (by decide) ?_
              exact ⟨by rw [hv]; rfl, rfl⟩
            · have hv : onOk h = true := by rw [hOk, decide_eq_true (n_eq hc195), hz]; rfl
              refine C.iconst (nI 1) dX12_tapeIsImage_198 (by decide) ?_
              refine C.goto 203 dX12_tapeIsImage_199 rfl ?_
              refine C.zret hq dX12_tapeIsImage_203 (by decide) ?_
              exact ⟨by rw [hv]; rfl, rfl⟩
        · exact absurd (n_nle hc155 (by omega) (by omega)) (by omega)
      | succ j ih =>
        intro i hi
        have hcl := chkN_lt (f := txL (tpH h)) i
        have hb2 := hby i (by omega)
        have hgo := ih (i + 1) (by omega)
        unfold chkN at hgo
        rw [← nI_1 i] at hgo
        refine C.iload dX12_tapeIsImage_152 4 rfl ?_
        refine C.iload_n dX12_tapeIsImage_154 1 rfl ?_
        refine C.icmp_ge 182 dX12_tapeIsImage_155 rfl (fun hc155 => ?_) (fun hc155 => ?_)
        · exact absurd (n_le hc155 (by omega) (by omega)) (by omega)
        · refine C.iconst (nI 3) dX12_tapeIsImage_158 (by decide) ?_
          refine C.iload_n dX12_tapeIsImage_159 3 rfl ?_
          refine C.imul dX12_tapeIsImage_160 ?_
          refine C.aload_n dX12_tapeIsImage_161 0 rfl ?_
          refine C.getO fX12_12 dX12_tapeIsImage_162 hS.o0 hS.r0_0 ?_
          refine C.iload dX12_tapeIsImage_165 4 rfl ?_
          refine C.callVI lX12_342 dX12_tapeIsImage_167 (kt_atN hS hT (k := i) (by omega)) hS.o1 rfl rfl (Nat.le_of_ble_eq_true rfl) (Nat.zero_le _) (Nat.zero_le _) (Nat.le_of_ble_eq_true rfl) (fun x167 μ167 h167 => ?_)
          obtain ⟨rfl, hμ⟩ := h167
          subst hμ
          rw [pk_mul]
          refine C.iadd dX12_tapeIsImage_170 ?_
          rw [nI_add]
          refine C.sipush (nI 251) dX12_tapeIsImage_171 (by decide) ?_
          refine C.irem dX12_tapeIsImage_174 (by decide) ?_
          rw [pk_rem (by omega) (by decide) (by decide)]
          refine C.istore_n (lv' := [(0, _), (1, _), (2, _), (3, _), (4, _)]) dX12_tapeIsImage_175 (nLt hX rfl) rfl ?_
          refine C.iinc (lv' := [(0, _), (1, _), (2, _), (3, _), (4, _)]) _ dX12_tapeIsImage_176 4 rfl rfl (nLt hX rfl) rfl ?_
          refine C.goto 152 dX12_tapeIsImage_179 rfl ?_
          exact hgo
    have loop : ∀ (j w : Nat) (b : Bool), w + j = nw → (List.range w).all (onG (txL (tpH h))) = b → AW l G X 0 0 66 [(0, .ref (G.1 + 0)), (1, .int (nI (3 + 6 * nw))), (2, .int (bI b)), (3, .int (nI (3 + 6 * w)))] [] μ := by
      intro j
      induction j with
      | zero =>
        intro w b hw hb
        have e : w = nw := by omega
        subst e
        refine C.iload_n dX12_tapeIsImage_66 3 rfl ?_
        refine C.iload_n dX12_tapeIsImage_67 1 rfl ?_
        refine C.icmp_ge 146 dX12_tapeIsImage_68 rfl (fun hc68 => ?_) (fun hc68 => ?_)
        · refine C.bipush (nI 79) dX12_tapeIsImage_146 (by decide) ?_
          refine C.istore_n (lv' := [(0, _), (1, _), (2, _), (3, _)]) dX12_tapeIsImage_148 (nLt hX rfl) rfl ?_
          refine C.iconst (nI 0) dX12_tapeIsImage_149 (by decide) ?_
          refine C.istore (lv' := [(0, _), (1, _), (2, _), (3, _), (4, _)]) dX12_tapeIsImage_150 (nLt hX rfl) rfl ?_
          exact sum b hb _ 0 (Nat.zero_add _)
        · exact absurd (n_nle hc68 (by omega) (by omega)) (by omega)
      | succ j ih =>
        intro w b hw hb
        cases b with
        | false =>
          refine C.iload_n dX12_tapeIsImage_66 3 rfl ?_
          refine C.iload_n dX12_tapeIsImage_67 1 rfl ?_
          refine C.icmp_ge 146 dX12_tapeIsImage_68 rfl (fun hc68 => ?_) (fun hc68 => ?_)
          · exact absurd (n_le hc68 (by omega) (by omega)) (by omega)
          · refine C.iload_n dX12_tapeIsImage_71 2 rfl ?_
            refine C.if_eq 146 dX12_tapeIsImage_72 rfl (fun hc72 => ?_) (fun hc72 => ?_)
            · refine C.bipush (nI 79) dX12_tapeIsImage_146 (by decide) ?_
              refine C.istore_n (lv' := [(0, _), (1, _), (2, _), (3, _)]) dX12_tapeIsImage_148 (nLt hX rfl) rfl ?_
              refine C.iconst (nI 0) dX12_tapeIsImage_149 (by decide) ?_
              refine C.istore (lv' := [(0, _), (1, _), (2, _), (3, _), (4, _)]) dX12_tapeIsImage_150 (nLt hX rfl) rfl ?_
              exact sum false (all_lt (by omega) hb) _ 0 (Nat.zero_add _)
            · exact absurd rfl hc72
        | true =>
          have b0 := hby (3 + 6 * w) (by omega)
          have b5 := hby (3 + 6 * w + 5) (by omega)
          have t1 := two_lt (hby (3 + 6 * w + 1) (by omega)) (hby (3 + 6 * w + 1 + 1) (by omega))
          have t3 := two_lt (hby (3 + 6 * w + 3) (by omega)) (hby (3 + 6 * w + 3 + 1) (by omega))
          have hnx : ∀ g, onG (txL (tpH h)) w = g → AW l G X 0 0 66 [(0, .ref (G.1 + 0)), (1, .int (nI (3 + 6 * nw))), (2, .int (bI g)), (3, .int (nI (3 + 6 * w) + nI 6))] [] μ := fun g hg => by
            have := ih (w + 1) g (by omega) (by rw [all_succ, hb, hg]; rfl)
            rw [show 3 + 6 * (w + 1) = 3 + 6 * w + 6 by omega, ← nI_add (3 + 6 * w) 6] at this
            exact this
          unfold onG at hnx
          refine C.iload_n dX12_tapeIsImage_66 3 rfl ?_
          refine C.iload_n dX12_tapeIsImage_67 1 rfl ?_
          refine C.icmp_ge 146 dX12_tapeIsImage_68 rfl (fun hc68 => ?_) (fun hc68 => ?_)
          · exact absurd (n_le hc68 (by omega) (by omega)) (by omega)
          · refine C.iload_n dX12_tapeIsImage_71 2 rfl ?_
            refine C.if_eq 146 dX12_tapeIsImage_72 rfl (fun hc72 => ?_) (fun hc72 => ?_)
            · exact absurd hc72 (by decide)
            · refine C.aload_n dX12_tapeIsImage_75 0 rfl ?_
              refine C.getO fX12_12 dX12_tapeIsImage_76 hS.o0 hS.r0_0 ?_
              refine C.iload_n dX12_tapeIsImage_79 3 rfl ?_
              refine C.callVI lX12_342 dX12_tapeIsImage_80 (kt_atN hS hT (k := 3 + 6 * w) (by omega)) hS.o1 rfl rfl (Nat.le_of_ble_eq_true rfl) (Nat.zero_le _) (Nat.zero_le _) (Nat.le_of_ble_eq_true rfl) (fun x80 μ80 h80 => ?_)
              obtain ⟨rfl, hμ⟩ := h80
              subst hμ
              refine C.iconst (nI 3) dX12_tapeIsImage_83 (by decide) ?_
              refine C.icmp_gt 138 dX12_tapeIsImage_84 rfl (fun hc84 => ?_) (fun hc84 => ?_)
              · have h84 := n_lt hc84
                have hgo := hnx false (by rw [decide_eq_false (by omega)]; rfl)
                refine C.iconst (nI 0) dX12_tapeIsImage_138 (by decide) ?_
                refine C.istore_n (lv' := [(0, _), (1, _), (2, _), (3, _)]) dX12_tapeIsImage_139 (nLt hX rfl) rfl ?_
                refine C.iinc (lv' := [(0, _), (1, _), (2, _), (3, _)]) _ dX12_tapeIsImage_140 3 rfl rfl (nLt hX rfl) rfl ?_
                refine C.goto 66 dX12_tapeIsImage_143 rfl ?_
                exact hgo
              · have h84 := n_nlt hc84
                refine C.aload_n dX12_tapeIsImage_87 0 rfl ?_
                refine C.getO fX12_12 dX12_tapeIsImage_88 hS.o0 hS.r0_0 ?_
                refine C.iload_n dX12_tapeIsImage_91 3 rfl ?_
                refine C.iconst (nI 1) dX12_tapeIsImage_92 (by decide) ?_
                refine C.iadd dX12_tapeIsImage_93 ?_
                rw [nI_add]
                refine C.callVI lX12_399 dX12_tapeIsImage_94 (kt_pair hS hT (k := 3 + 6 * w + 1) (by omega)) hS.o1 rfl rfl (Nat.le_of_ble_eq_true rfl) (Nat.zero_le _) (Nat.zero_le _) (Nat.le_of_ble_eq_true rfl) (fun x94 μ94 h94 => ?_)
                obtain ⟨rfl, hμ⟩ := h94
                subst hμ
                refine C.sipush (nI 9999) dX12_tapeIsImage_97 (by decide) ?_
                refine C.icmp_gt 138 dX12_tapeIsImage_100 rfl (fun hc100 => ?_) (fun hc100 => ?_)
                · have h100 := n_lt hc100
                  have hgo := hnx false (by rw [decide_eq_true h84, decide_eq_false (by omega)]; rfl)
                  refine C.iconst (nI 0) dX12_tapeIsImage_138 (by decide) ?_
                  refine C.istore_n (lv' := [(0, _), (1, _), (2, _), (3, _)]) dX12_tapeIsImage_139 (nLt hX rfl) rfl ?_
                  refine C.iinc (lv' := [(0, _), (1, _), (2, _), (3, _)]) _ dX12_tapeIsImage_140 3 rfl rfl (nLt hX rfl) rfl ?_
                  refine C.goto 66 dX12_tapeIsImage_143 rfl ?_
                  exact hgo
                · have h100 := n_nlt hc100
                  refine C.aload_n dX12_tapeIsImage_103 0 rfl ?_
                  refine C.getO fX12_12 dX12_tapeIsImage_104 hS.o0 hS.r0_0 ?_
                  refine C.iload_n dX12_tapeIsImage_107 3 rfl ?_
                  refine C.iconst (nI 3) dX12_tapeIsImage_108 (by decide) ?_
                  refine C.iadd dX12_tapeIsImage_109 ?_
                  rw [nI_add]
                  refine C.callVI lX12_399 dX12_tapeIsImage_110 (kt_pair hS hT (k := 3 + 6 * w + 3) (by omega)) hS.o1 rfl rfl (Nat.le_of_ble_eq_true rfl) (Nat.zero_le _) (Nat.zero_le _) (Nat.le_of_ble_eq_true rfl) (fun x110 μ110 h110 => ?_)
                  obtain ⟨rfl, hμ⟩ := h110
                  subst hμ
                  refine C.sipush (nI 9999) dX12_tapeIsImage_113 (by decide) ?_
                  refine C.icmp_gt 138 dX12_tapeIsImage_116 rfl (fun hc116 => ?_) (fun hc116 => ?_)
                  · have h116 := n_lt hc116
                    have hgo := hnx false (by rw [decide_eq_true h84, decide_eq_true h100, decide_eq_false (by omega)]; rfl)
                    refine C.iconst (nI 0) dX12_tapeIsImage_138 (by decide) ?_
                    refine C.istore_n (lv' := [(0, _), (1, _), (2, _), (3, _)]) dX12_tapeIsImage_139 (nLt hX rfl) rfl ?_
                    refine C.iinc (lv' := [(0, _), (1, _), (2, _), (3, _)]) _ dX12_tapeIsImage_140 3 rfl rfl (nLt hX rfl) rfl ?_
                    refine C.goto 66 dX12_tapeIsImage_143 rfl ?_
                    exact hgo
                  · have h116 := n_nlt hc116
                    refine C.aload_n dX12_tapeIsImage_119 0 rfl ?_
                    refine C.getO fX12_12 dX12_tapeIsImage_120 hS.o0 hS.r0_0 ?_
                    refine C.iload_n dX12_tapeIsImage_123 3 rfl ?_
                    refine C.iconst (nI 5) dX12_tapeIsImage_124 (by decide) ?_
                    refine C.iadd dX12_tapeIsImage_125 ?_
                    rw [nI_add]
                    refine C.callVI lX12_342 dX12_tapeIsImage_126 (kt_atN hS hT (k := 3 + 6 * w + 5) (by omega)) hS.o1 rfl rfl (Nat.le_of_ble_eq_true rfl) (Nat.zero_le _) (Nat.zero_le _) (Nat.le_of_ble_eq_true rfl) (fun x126 μ126 h126 => ?_)
                    obtain ⟨rfl, hμ⟩ := h126
                    subst hμ
                    refine C.bipush (nI 99) dX12_tapeIsImage_129 (by decide) ?_
                    refine C.icmp_gt 138 dX12_tapeIsImage_131 rfl (fun hc131 => ?_) (fun hc131 => ?_)
                    · have h131 := n_lt hc131
                      have hgo := hnx false (by rw [decide_eq_true h84, decide_eq_true h100, decide_eq_true h116, decide_eq_false (by omega)]; rfl)
                      refine C.iconst (nI 0) dX12_tapeIsImage_138 (by decide) ?_
                      refine C.istore_n (lv' := [(0, _), (1, _), (2, _), (3, _)]) dX12_tapeIsImage_139 (nLt hX rfl) rfl ?_
                      refine C.iinc (lv' := [(0, _), (1, _), (2, _), (3, _)]) _ dX12_tapeIsImage_140 3 rfl rfl (nLt hX rfl) rfl ?_
                      refine C.goto 66 dX12_tapeIsImage_143 rfl ?_
                      exact hgo
                    · have h131 := n_nlt hc131
                      have hgo := hnx true (by rw [decide_eq_true h84, decide_eq_true h100, decide_eq_true h116, decide_eq_true h131]; rfl)
                      refine C.iconst (nI 1) dX12_tapeIsImage_134 (by decide) ?_
                      refine C.goto 139 dX12_tapeIsImage_135 rfl ?_
                      refine C.istore_n (lv' := [(0, _), (1, _), (2, _), (3, _)]) dX12_tapeIsImage_139 (nLt hX rfl) rfl ?_
                      refine C.iinc (lv' := [(0, _), (1, _), (2, _), (3, _)]) _ dX12_tapeIsImage_140 3 rfl rfl (nLt hX rfl) rfl ?_
                      refine C.goto 66 dX12_tapeIsImage_143 rfl ?_
                      exact hgo
    refine C.iconst (nI 1) dX12_tapeIsImage_62 (by decide) ?_
    refine C.istore_n (lv' := [(0, _), (1, _), (2, _)]) dX12_tapeIsImage_63 (nLt hX rfl) rfl ?_
    refine C.iconst (nI 3) dX12_tapeIsImage_64 (by decide) ?_
    refine C.istore_n (lv' := [(0, _), (1, _), (2, _), (3, _)]) dX12_tapeIsImage_65 (nLt hX rfl) rfl ?_
    exact loop nw 0 true (Nat.zero_add _) rfl
  refine C.iconst (nI 3) dX12_tapeIsImage_0 (by decide) ?_
  refine C.bipush (nI 6) dX12_tapeIsImage_1 (by decide) ?_
  refine C.aload_n dX12_tapeIsImage_3 0 rfl ?_
  refine C.getO fX12_54 dX12_tapeIsImage_4 hS.o0 hg ?_
  refine C.getI fX12_172 dX12_tapeIsImage_7 hR.o ?_
  rw [hwc]
  refine C.imul dX12_tapeIsImage_10 ?_
  rw [pk_mul]
  refine C.iadd dX12_tapeIsImage_11 ?_
  rw [nI_add]
  refine C.istore_n (lv' := [(0, _), (1, _)]) dX12_tapeIsImage_12 (nLt hX rfl) rfl ?_
  refine C.aload_n dX12_tapeIsImage_13 0 rfl ?_
  refine C.getO fX12_12 dX12_tapeIsImage_14 hS.o0 hS.r0_0 ?_
  refine C.getI fX12_115 dX12_tapeIsImage_17 hS.o1 ?_
  refine C.iload_n dX12_tapeIsImage_20 1 rfl ?_
  refine C.iconst (nI 1) dX12_tapeIsImage_21 (by decide) ?_
  refine C.iadd dX12_tapeIsImage_22 ?_
  rw [hT.1, nI_add]
  refine C.icmp_ne 60 dX12_tapeIsImage_23 rfl (fun hc23 => ?_) (fun hc23 => ?_)
  · exact no (by unfold onOk onB; rw [hnw, decide_eq_false (p := (tpH h).length = _) (by have := n_ne hc23; omega)]; simp)
  · have h23 := n_eq hc23
    have t0 := two_lt (hby 0 (by omega)) (hby (0 + 1) (by omega))
    have b2 := hby 2 (by omega)
    refine C.aload_n dX12_tapeIsImage_26 0 rfl ?_
    refine C.getO fX12_12 dX12_tapeIsImage_27 hS.o0 hS.r0_0 ?_
    refine C.iconst (nI 0) dX12_tapeIsImage_30 (by decide) ?_
    refine C.callVI lX12_399 dX12_tapeIsImage_31 (kt_pair hS hT (k := 0) (by omega)) hS.o1 rfl rfl (Nat.le_of_ble_eq_true rfl) (Nat.zero_le _) (Nat.zero_le _) (Nat.le_of_ble_eq_true rfl) (fun x31 μ31 h31 => ?_)
    obtain ⟨rfl, hμ⟩ := h31
    subst hμ
    refine C.sipush (nI 999) dX12_tapeIsImage_34 (by decide) ?_
    refine C.icmp_gt 60 dX12_tapeIsImage_37 rfl (fun hc37 => ?_) (fun hc37 => ?_)
    · exact no (by unfold onOk onB; rw [decide_eq_false (p := two _ 0 ≤ _) (by have := n_lt hc37; omega)]; simp)
    · have h37 := n_nlt hc37
      refine C.aload_n dX12_tapeIsImage_40 0 rfl ?_
      refine C.getO fX12_12 dX12_tapeIsImage_41 hS.o0 hS.r0_0 ?_
      refine C.iconst (nI 2) dX12_tapeIsImage_44 (by decide) ?_
      refine C.callVI lX12_342 dX12_tapeIsImage_45 (kt_atN hS hT (k := 2) (by omega)) hS.o1 rfl rfl (Nat.le_of_ble_eq_true rfl) (Nat.zero_le _) (Nat.zero_le _) (Nat.le_of_ble_eq_true rfl) (fun x45 μ45 h45 => ?_)
      obtain ⟨rfl, hμ⟩ := h45
      subst hμ
      refine C.iconst (nI 1) dX12_tapeIsImage_48 (by decide) ?_
      refine C.aload_n dX12_tapeIsImage_49 0 rfl ?_
      refine C.getO fX12_54 dX12_tapeIsImage_50 hS.o0 hg ?_
      refine C.getI fX12_169 dX12_tapeIsImage_53 hR.o ?_
      rw [hR.2.1.2.1.1]
      refine C.ishl dX12_tapeIsImage_56 ?_
      rw [shl1 hd7.2.2.2.2.1]
      refine C.icmp_lt 62 dX12_tapeIsImage_57 rfl (fun hc57 => ?_) (fun hc57 => ?_)
      · exact main (by omega) h37 (n_lt hc57 (by omega) (by omega))
      · exact no (by unfold onOk onB; rw [decide_eq_false (p := txL _ 2 < _) (fun z => hc57 ((nI_ltI (by omega) (by omega)).mpr z))]; simp)
theorem kx_takeImage (hC : ClsRel μ h) (hH : HOk h) (hok : onOk h = true) : AMet l G 2 0 0 mtX12_takeImage [.ref (G.1 + 0)] μ (qV (fun μ' => CsN μ' 40 (onS h) ∧ mI μ' 52 2 = nI 0 ∧ μ'.2 = μ.2 ∧ ∀ a k, ¬ (40 ≤ a ∧ a ≤ 45) → ¬ (a = 52 ∧ k = 2) → mI μ' a k = mI μ a k)) := by
  refine AMet.of (by decide) (Nat.le_of_ble_eq_true rfl) (fun X C hX hnm hq => ?_)
  have hS0 := hC.1.1.1
  have hS := hS0
  have hT0 := hC.1.2.1
  have h1600 := hT0.2.1
  obtain ⟨L, c, hL0⟩ := hC.2.2.2
  have hg := hL0.1
  have hR := hL0.2.1
  have hd7 := hH.d7
  obtain ⟨-, hlen, -, -, -⟩ := onOk_len hok
  have loop : ∀ (j w : Nat) (S : St) (μ1 : Mm), w + j = (ldH h).2.2.2.1.length → CsN μ1 40 S → S.1 = (two (txL (tpH h)) 0, txL (tpH h) 2) → S.2.2 = [] → S.2.1.length = (ldH h).2.2.2.1.length → (∀ i, i < w → S.2.1[i]? = some (onW (txL (tpH h)) i)) → μ1.2 = μ.2 → (∀ a k, ¬ (40 ≤ a ∧ a ≤ 45) → mI μ1 a k = mI μ a k) → AW l G X 0 0 43 [(0, .ref (G.1 + 0)), (1, .int (nI w))] [] μ1 := by
    intro j
    induction j with
    | zero =>
      intro w S μ1 hw hN s1 s2 s3 s4 e2 eI
      have hS : ShC μ1 := hS0.of (by rw [e2])
      have hL : CsL μ1 L c (ldH h) := hL0.of e2 (fun a k q => eI a k (by unfold InL at q; omega))
      have hg := hL.1
      have hR := hL.2.1
      have hSe : S = onS h := by
        unfold onS
        refine Prod.ext s1 (Prod.ext ?_ s2)
        apply List.ext_getElem?
        intro i
        by_cases hi : i < (ldH h).2.2.2.1.length
        · rw [s4 i (by omega), List.getElem?_map, List.getElem?_range hi]; rfl
        · rw [List.getElem?_eq_none (by omega), List.getElem?_eq_none (by rw [List.length_map, List.length_range]; omega)]
      subst hSe
      refine C.iload_n dX12_takeImage_43 1 rfl ?_
      refine C.aload_n dX12_takeImage_44 0 rfl ?_
      refine C.getO fX12_54 dX12_takeImage_45 hS.o0 hg ?_
      refine C.getI fX12_172 dX12_takeImage_48 hR.o ?_
      rw [hR.2.1.2.1.2]
      refine C.icmp_ge 141 dX12_takeImage_51 rfl (fun hc51 => ?_) (fun hc51 => ?_)
      · refine C.aload_n dX12_takeImage_141 0 rfl ?_
        refine C.getO fX12_90 dX12_takeImage_142 hS.o0 hS.r0_9 ?_
        refine C.iconst (nI 0) dX12_takeImage_145 (by decide) ?_
        refine C.putI fX12_141 (Or.inl rfl) dX12_takeImage_146 hS.o52 ?_
        refine C.vret hq dX12_takeImage_149 ?_
        exact ⟨hN.of (fun a k q1 q2 => by rw [mI_sI, if_neg (by omega)]), by rw [mI_sI, if_pos ⟨rfl, rfl⟩], e2, fun a k q1 q2 => by rw [mI_sI, if_neg q2]; exact eI a k q1⟩
      · exact absurd (n_nle hc51 (by omega) (by omega)) (by omega)
    | succ j ih =>
      intro w S μ1 hw hN s1 s2 s3 s4 e2 eI
      have hS : ShC μ1 := hS0.of (by rw [e2])
      have hL : CsL μ1 L c (ldH h) := hL0.of e2 (fun a k q => eI a k (by unfold InL at q; omega))
      have hT : CsT μ1 (tpH h) := hT0.of (eI _ _ (by omega)) (fun k => eI _ _ (by omega))
      have hg := hL.1
      have hR := hL.2.1
      have tpx : ∀ (μ2 : Mm) (a k : Nat) (v : Int32), 40 ≤ a → CsT μ2 (tpH h) → CsT (sI μ2 a k v) (tpH h) := fun μ2 a k v q t => t.of (by rw [mI_sI, if_neg (by omega)]) (fun j => by rw [mI_sI, if_neg (by omega)])
      have hw6 : w < 6 := by omega
      generalize hf : txL (tpH h) = f at *
      have hgo := ih (w + 1) (putW S w (onW f w)) (sI (sI (sI (sI μ1 41 w (nI (f (3 + 6 * w)))) 42 w (nI (two f (3 + 6 * w + 1)))) 43 w (nI (two f (3 + 6 * w + 3)))) 44 w (nI (f (3 + 6 * w + 5)))) (by omega) (hN.put (by omega) (fun a k q1 q2 q3 => by rw [mI_sI, if_neg (by omega), mI_sI, if_neg (by omega), mI_sI, if_neg (by omega), mI_sI, if_neg (by omega)]) (by rw [mI_sI, if_neg (by omega), mI_sI, if_neg (by omega), mI_sI, if_neg (by omega), mI_sI, if_pos ⟨rfl, rfl⟩]; rfl) (by rw [mI_sI, if_neg (by omega), mI_sI, if_neg (by omega), mI_sI, if_pos ⟨rfl, rfl⟩]; rfl) (by rw [mI_sI, if_neg (by omega), mI_sI, if_pos ⟨rfl, rfl⟩]; rfl) (by rw [mI_sI, if_pos ⟨rfl, rfl⟩]; rfl)) s1 s2 (by rw [putW_len]; exact s3) (fun i q => by
        show (S.2.1.set w (onW f w))[i]? = _
        rw [List.getElem?_set]
        by_cases e : w = i
        · subst e; rw [if_pos rfl, if_pos (by omega)]
        · rw [if_neg e]; exact s4 i (by omega)) e2 (fun a k q => by rw [mI_sI, if_neg (by omega), mI_sI, if_neg (by omega), mI_sI, if_neg (by omega), mI_sI, if_neg (by omega)]; exact eI a k q)
      rw [← nI_1 w] at hgo
      subst hf
      have hT2 := tpx μ1 41 w (nI (txL (tpH h) (3 + 6 * w))) (by decide) hT
      have hT3 := tpx _ 42 w (nI (two (txL (tpH h)) (3 + 6 * w + 1))) (by decide) hT2
      have hS2 : ShC (sI μ1 41 w (nI (txL (tpH h) (3 + 6 * w)))) := hS.of rfl
      have hS3 : ShC (sI (sI μ1 41 w (nI (txL (tpH h) (3 + 6 * w)))) 42 w (nI (two (txL (tpH h)) (3 + 6 * w + 1)))) := hS.of rfl
      have hS4 : ShC (sI (sI (sI μ1 41 w (nI (txL (tpH h) (3 + 6 * w)))) 42 w (nI (two (txL (tpH h)) (3 + 6 * w + 1)))) 43 w (nI (two (txL (tpH h)) (3 + 6 * w + 3)))) := hS.of rfl
      have hT4 := tpx _ 43 w (nI (two (txL (tpH h)) (3 + 6 * w + 3))) (by decide) hT3
      refine C.iload_n dX12_takeImage_43 1 rfl ?_
      refine C.aload_n dX12_takeImage_44 0 rfl ?_
      refine C.getO fX12_54 dX12_takeImage_45 hS.o0 hg ?_
      refine C.getI fX12_172 dX12_takeImage_48 hR.o ?_
      rw [hR.2.1.2.1.2]
      refine C.icmp_ge 141 dX12_takeImage_51 rfl (fun hc51 => ?_) (fun hc51 => ?_)
      · exact absurd (n_le hc51 (by omega) (by omega)) (by omega)
      · refine C.iconst (nI 3) dX12_takeImage_54 (by decide) ?_
        refine C.bipush (nI 6) dX12_takeImage_55 (by decide) ?_
        refine C.iload_n dX12_takeImage_57 1 rfl ?_
        refine C.imul dX12_takeImage_58 ?_
        rw [pk_mul]
        refine C.iadd dX12_takeImage_59 ?_
        rw [nI_add]
        refine C.istore_n (lv' := [(0, _), (1, _), (2, _)]) dX12_takeImage_60 (nLt hX rfl) rfl ?_
        refine C.aload_n dX12_takeImage_61 0 rfl ?_
        refine C.getO fX12_80 dX12_takeImage_62 hS.o0 hS.r0_7 ?_
        refine C.getA fX12_256 dX12_takeImage_65 hS.o40 hS.r40_0 ?_
        refine C.iload_n dX12_takeImage_68 1 rfl ?_
        refine C.aload_n dX12_takeImage_69 0 rfl ?_
        refine C.getO fX12_12 dX12_takeImage_70 hS.o0 hS.r0_0 ?_
        refine C.iload_n dX12_takeImage_73 2 rfl ?_
        refine C.callVI lX12_342 dX12_takeImage_74 (kt_atN hS hT (k := 3 + 6 * w) (by omega)) hS.o1 rfl rfl (Nat.le_of_ble_eq_true rfl) (Nat.zero_le _) (Nat.zero_le _) (Nat.le_of_ble_eq_true rfl) (fun x74 μ74 h74 => ?_)
        obtain ⟨rfl, hμ⟩ := h74
        subst hμ
        refine C.iast hS.a41 (n_in (by omega)) dX12_takeImage_77 ?_
        rw [n_cl]
        refine C.aload_n dX12_takeImage_78 0 rfl ?_
        refine C.getO fX12_80 dX12_takeImage_79 hS.o0 hS.r0_7 ?_
        refine C.getA fX12_259 dX12_takeImage_82 hS.o40 hS.r40_1 ?_
        refine C.iload_n dX12_takeImage_85 1 rfl ?_
        refine C.aload_n dX12_takeImage_86 0 rfl ?_
        refine C.getO fX12_12 dX12_takeImage_87 hS.o0 hS.r0_0 ?_
        refine C.iload_n dX12_takeImage_90 2 rfl ?_
        refine C.iconst (nI 1) dX12_takeImage_91 (by decide) ?_
        refine C.iadd dX12_takeImage_92 ?_
        rw [nI_add]
        refine C.callVI lX12_399 dX12_takeImage_93 (kt_pair hS2 hT2 (k := 3 + 6 * w + 1) (by omega)) hS.o1 rfl rfl (Nat.le_of_ble_eq_true rfl) (Nat.zero_le _) (Nat.zero_le _) (Nat.le_of_ble_eq_true rfl) (fun x93 μ93 h93 => ?_)
        obtain ⟨rfl, hμ⟩ := h93
        subst hμ
        refine C.iast hS.a42 (n_in (by omega)) dX12_takeImage_96 ?_
        rw [n_cl]
        refine C.aload_n dX12_takeImage_97 0 rfl ?_
        refine C.getO fX12_80 dX12_takeImage_98 hS.o0 hS.r0_7 ?_
        refine C.getA fX12_262 dX12_takeImage_101 hS.o40 hS.r40_2 ?_
        refine C.iload_n dX12_takeImage_104 1 rfl ?_
        refine C.aload_n dX12_takeImage_105 0 rfl ?_
        refine C.getO fX12_12 dX12_takeImage_106 hS.o0 hS.r0_0 ?_
        refine C.iload_n dX12_takeImage_109 2 rfl ?_
        refine C.iconst (nI 3) dX12_takeImage_110 (by decide) ?_
        refine C.iadd dX12_takeImage_111 ?_
        rw [nI_add]
        refine C.callVI lX12_399 dX12_takeImage_112 (kt_pair hS3 hT3 (k := 3 + 6 * w + 3) (by omega)) hS.o1 rfl rfl (Nat.le_of_ble_eq_true rfl) (Nat.zero_le _) (Nat.zero_le _) (Nat.le_of_ble_eq_true rfl) (fun x112 μ112 h112 => ?_)
        obtain ⟨rfl, hμ⟩ := h112
        subst hμ
        refine C.iast hS.a43 (n_in (by omega)) dX12_takeImage_115 ?_
        rw [n_cl]
        refine C.aload_n dX12_takeImage_116 0 rfl ?_
        refine C.getO fX12_80 dX12_takeImage_117 hS.o0 hS.r0_7 ?_
        refine C.getA fX12_265 dX12_takeImage_120 hS.o40 hS.r40_3 ?_
        refine C.iload_n dX12_takeImage_123 1 rfl ?_
        refine C.aload_n dX12_takeImage_124 0 rfl ?_
        refine C.getO fX12_12 dX12_takeImage_125 hS.o0 hS.r0_0 ?_
        refine C.iload_n dX12_takeImage_128 2 rfl ?_
        refine C.iconst (nI 5) dX12_takeImage_129 (by decide) ?_
        refine C.iadd dX12_takeImage_130 ?_
        rw [nI_add]
        refine C.callVI lX12_342 dX12_takeImage_131 (kt_atN hS4 hT4 (k := 3 + 6 * w + 5) (by omega)) hS.o1 rfl rfl (Nat.le_of_ble_eq_true rfl) (Nat.zero_le _) (Nat.zero_le _) (Nat.le_of_ble_eq_true rfl) (fun x131 μ131 h131 => ?_)
        obtain ⟨rfl, hμ⟩ := h131
        subst hμ
        refine C.iast hS.a44 (n_in (by omega)) dX12_takeImage_134 ?_
        rw [n_cl]
        refine C.iinc (lv' := [(0, _), (1, _), (2, _)]) _ dX12_takeImage_135 1 rfl rfl (nLt hX rfl) rfl ?_
        refine C.goto 43 dX12_takeImage_138 rfl ?_
        exact AW.pick [0, 1] rfl hgo
  refine C.aload_n dX12_takeImage_0 0 rfl ?_
  refine C.getO fX12_80 dX12_takeImage_1 hS.o0 hS.r0_7 ?_
  refine C.aload_n dX12_takeImage_4 0 rfl ?_
  refine C.getO fX12_54 dX12_takeImage_5 hS.o0 hg ?_
  refine C.callVV lX12_137 dX12_takeImage_8 (ks_begin hS.s40 (by omega) hR hd7.2.2.2.2.2) hS.o40 rfl rfl (Nat.le_of_ble_eq_true rfl) (Nat.zero_le _) (Nat.zero_le _) (Nat.le_of_ble_eq_true rfl) (fun μ8 h8 => ?_)
  obtain ⟨hN1, hF1⟩ := h8
  have hS : ShC μ8 := hS0.of (by rw [hF1.1])
  have hT1 : CsT μ8 (tpH h) := hT0.of (hF1.2 _ _ (by omega)) (fun k => hF1.2 _ _ (by omega))
  refine C.aload_n dX12_takeImage_11 0 rfl ?_
  refine C.getO fX12_80 dX12_takeImage_12 hS.o0 hS.r0_7 ?_
  refine C.aload_n dX12_takeImage_15 0 rfl ?_
  refine C.getO fX12_12 dX12_takeImage_16 hS.o0 hS.r0_0 ?_
  refine C.iconst (nI 0) dX12_takeImage_19 (by decide) ?_
  refine C.callVI lX12_399 dX12_takeImage_20 (kt_pair hS hT1 (k := 0) (by omega)) hS.o1 rfl rfl (Nat.le_of_ble_eq_true rfl) (Nat.zero_le _) (Nat.zero_le _) (Nat.le_of_ble_eq_true rfl) (fun x20 μ20 h20 => ?_)
  obtain ⟨rfl, hμ⟩ := h20
  subst hμ
  have hT5 : CsT (sI μ20 40 5 (nI (two (txL (tpH h)) 0))) (tpH h) := hT1.of (by rw [mI_sI, if_neg (by omega)]) (fun k => by rw [mI_sI, if_neg (by omega)])
  have hS5 : ShC (sI μ20 40 5 (nI (two (txL (tpH h)) 0))) := hS.of rfl
  refine C.putI fX12_175 (Or.inl rfl) dX12_takeImage_23 hS.o40 ?_
  refine C.aload_n dX12_takeImage_26 0 rfl ?_
  refine C.getO fX12_80 dX12_takeImage_27 hS.o0 hS.r0_7 ?_
  refine C.aload_n dX12_takeImage_30 0 rfl ?_
  refine C.getO fX12_12 dX12_takeImage_31 hS.o0 hS.r0_0 ?_
  refine C.iconst (nI 2) dX12_takeImage_34 (by decide) ?_
  refine C.callVI lX12_342 dX12_takeImage_35 (kt_atN hS5 hT5 (k := 2) (by omega)) hS.o1 rfl rfl (Nat.le_of_ble_eq_true rfl) (Nat.zero_le _) (Nat.zero_le _) (Nat.le_of_ble_eq_true rfl) (fun x35 μ35 h35 => ?_)
  obtain ⟨hz, hμ⟩ := h35
  subst hz
  subst hμ
  refine C.putI fX12_178 (Or.inl rfl) dX12_takeImage_38 hS.o40 ?_
  refine C.iconst (nI 0) dX12_takeImage_41 (by decide) ?_
  refine C.istore_n (lv' := [(0, _), (1, _)]) dX12_takeImage_42 (nLt hX rfl) rfl ?_
  obtain ⟨⟨n1, n2⟩, n3, n4, f, n5, n6, n7, n8, n9⟩ := hN1
  refine loop _ 0 ((two (txL (tpH h)) 0, txL (tpH h) 2), (st0 (ldH h)).2) _ (Nat.zero_add _) ⟨⟨by rw [mI_sI, if_neg (by omega), mI_sI, if_pos ⟨rfl, rfl⟩], by rw [mI_sI, if_pos ⟨rfl, rfl⟩]⟩, fun i x q => ?_, fun i q q2 => ?_, f, n5, by rw [mI_sI, if_neg (by omega), mI_sI, if_neg (by omega)]; exact n6, by rw [mI_sI, if_neg (by omega), mI_sI, if_neg (by omega)]; exact n7, n8, fun i x q => by rw [mI_sI, if_neg (by omega), mI_sI, if_neg (by omega)]; exact n9 i x q⟩ rfl rfl (by unfold st0; simp) (fun i q => absurd q (Nat.not_lt_zero i)) hF1.1 (fun a k q => by rw [mI_sI, if_neg (by omega), mI_sI, if_neg (by omega)]; exact hF1.2 a k (by omega))
  · simp only [mI_sI]
    rw [if_neg (by omega), if_neg (by omega), if_neg (by omega), if_neg (by omega), if_neg (by omega), if_neg (by omega), if_neg (by omega), if_neg (by omega)]
    exact n3 i x q
  · simp only [mI_sI]
    rw [if_neg (by omega), if_neg (by omega), if_neg (by omega), if_neg (by omega)]
    exact n4 i q q2
theorem kx_on (hC : ClsRel μ h) (hH : HOk h) : AMet l G 3 0 0 mtX12_on [.ref (G.1 + 0)] μ (qI (fun x μ' => x = onA h ∧ PX μ (onH h) μ')) := by
  refine AMet.of (by decide) (Nat.le_of_ble_eq_true rfl) (fun X C hX hnm hq => ?_)
  have hS := hC.1.1.1
  have hT := hC.1.2.1
  obtain ⟨L, c, hL⟩ := hC.2.2.2
  have hg := hL.1
  have hR := hL.2.1
  have hd7 := hH.d7
  unfold onA onH at hq
  have fin : ∀ b, onOk h = b → AW l G X 0 0 23 [(0, .ref (G.1 + 0)), (1, .int (bI b))] [] μ := by
    intro b hb
    rw [hb] at hq
    cases b with
    | true =>
      refine C.iload_n dX12_on_23 1 rfl ?_
      refine C.if_eq 31 dX12_on_24 rfl (fun hc24 => ?_) (fun hc24 => ?_)
      · exact absurd hc24 (by decide)
      · refine C.aload_n dX12_on_27 0 rfl ?_
        refine C.callVV lX12_387 dX12_on_28 (kx_takeImage hC hH hb) hS.o0 rfl rfl (Nat.le_of_ble_eq_true rfl) (Nat.zero_le _) (Nat.zero_le _) (Nat.le_of_ble_eq_true rfl) (fun μ28 h28 => ?_)
        obtain ⟨k1, k2, k3, k4⟩ := h28
        have hS : ShC μ28 := hS.of (by rw [k3])
        have hT2 : CsT μ28 (tpH h) := hT.of (k4 _ _ (by omega) (by omega)) (fun k => k4 _ _ (by omega) (by omega))
        refine C.aload_n dX12_on_31 0 rfl ?_
        refine C.getO fX12_12 dX12_on_32 hS.o0 hS.r0_0 ?_
        refine C.iconst (nI 0) dX12_on_35 (by decide) ?_
        refine C.putI fX12_115 (Or.inl rfl) dX12_on_36 hS.o1 ?_
        refine C.iload_n dX12_on_39 1 rfl ?_
        refine C.if_ne 51 dX12_on_40 rfl (fun hc40 => ?_) (fun hc40 => ?_)
        · refine C.iconst (nI 1) dX12_on_51 (by decide) ?_
          refine C.goto 56 dX12_on_52 rfl ?_
          refine C.zret hq dX12_on_56 (by decide) ?_
          have e : ∀ a k, ¬ (40 ≤ a ∧ a ≤ 45) → ¬ (a = 52 ∧ k = 2) → ¬ (a = 1 ∧ k = 1) → mI (sI μ28 1 1 (nI 0)) a k = mI μ a k := fun a k q1 q2 q3 => by rw [mI_sI, if_neg q3]; exact k4 a k q1 q2
          obtain ⟨-, -, nw, p3, p4, -⟩ := hC.2.1.2
          exact ⟨rfl, hC.up (h' := ([], flH h, rfH h, ldH h, onS h, [], rwH h, ocH h, sdH h)) ⟨k3, fun k => e _ _ (by omega) (by omega) (by omega), fun a k q => e a k (by unfold InL at q; omega) (by unfold InL at q; omega) (by unfold InL at q; omega)⟩ rfl hT2.zero.1 (hC.1.2.2.1.of (e _ _ (by omega) (by omega) (by omega)) (e _ _ (by omega) (by omega) (by omega))) (hC.1.2.2.2.of (fun k => e _ _ (by omega) (by omega) (by omega))) (k1.of (fun a k q1 q2 => by rw [mI_sI, if_neg (by omega)])) ⟨by rw [mI_sI, if_neg (by omega)]; exact k2, Nat.zero_le _, nw, p3, by rw [e _ _ (by omega) (by omega) (by omega)]; exact p4, fun i S q => by cases q⟩ (hC.2.2.1.1.of (e _ _ (by omega) (by omega) (by omega)) (fun k => e _ _ (by omega) (by omega) (by omega))) (hC.2.2.1.2.1.of (e _ _ (by omega) (by omega) (by omega)) (fun k => e _ _ (by omega) (by omega) (by omega))) (hC.2.2.1.2.2.of (e _ _ (by omega) (by omega) (by omega)))⟩
        · exact absurd hc40 (by decide)
    | false =>
      have hP := hC.tape hT.zero.1 hT.zero.2
      refine C.iload_n dX12_on_23 1 rfl ?_
      refine C.if_eq 31 dX12_on_24 rfl (fun hc24 => ?_) (fun hc24 => ?_)
      · refine C.aload_n dX12_on_31 0 rfl ?_
        refine C.getO fX12_12 dX12_on_32 hS.o0 hS.r0_0 ?_
        refine C.iconst (nI 0) dX12_on_35 (by decide) ?_
        refine C.putI fX12_115 (Or.inl rfl) dX12_on_36 hS.o1 ?_
        refine C.iload_n dX12_on_39 1 rfl ?_
        refine C.if_ne 51 dX12_on_40 rfl (fun hc40 => ?_) (fun hc40 => ?_)
        · exact absurd rfl hc40
        · refine C.aload_n dX12_on_43 0 rfl ?_
          refine C.iconst (nI 5) dX12_on_44 (by decide) ?_
          refine C.callVI lX12_126 dX12_on_45 (kx_denies hP.1 (j := 5) (by decide)) hS.o0 rfl rfl (Nat.le_of_ble_eq_true rfl) (Nat.zero_le _) (Nat.zero_le _) (Nat.le_of_ble_eq_true rfl) (fun x45 μ45 h45 => ?_)
          obtain ⟨rfl, hPX⟩ := h45
          refine C.if_eq 55 dX12_on_48 rfl (fun hc48 => ?_) (fun hc48 => ?_)
          · refine C.iconst (nI 0) dX12_on_55 (by decide) ?_
            refine C.zret hq dX12_on_56 (by decide) ?_
            exact ⟨rfl, hP.trans hPX⟩
          · exact absurd rfl hc48
      · exact absurd rfl hc24
  refine C.aload_n dX12_on_0 0 rfl ?_
  refine C.getO fX12_54 dX12_on_1 hS.o0 hg ?_
  refine C.callVI lX12_271 dX12_on_4 (kl_stands hR.o hR.2.1.1.1 (by omega)) hR.o rfl rfl (Nat.le_of_ble_eq_true rfl) (Nat.zero_le _) (Nat.zero_le _) (Nat.le_of_ble_eq_true rfl) (fun x4 μ4 h4 => ?_)
  obtain ⟨rfl, hμ⟩ := h4
  subst hμ
  refine C.if_eq 21 dX12_on_7 rfl (fun hc7 => ?_) (fun hc7 => ?_)
  · have h0 : ¬ 0 < (ldH h).1.1 := of_decide_eq_false ((bI_0 _).mp hc7)
    have hv : onOk h = false := by unfold onOk onB; rw [decide_eq_false h0]; rfl
    refine C.iconst (nI 0) dX12_on_21 (by decide) ?_
    refine C.istore_n (lv' := [(0, _), (1, _)]) dX12_on_22 (nLt hX rfl) rfl ?_
    first | exact fin false hv | exact fin true hv
  · have hp : 0 < (ldH h).1.1 := of_decide_eq_true (b_t hc7)
    refine C.aload_n dX12_on_10 0 rfl ?_
    refine C.callVI lX12_384 dX12_on_11 (kx_isImage hC hH hp) hS.o0 rfl rfl (Nat.le_of_ble_eq_true rfl) (Nat.zero_le _) (Nat.zero_le _) (Nat.le_of_ble_eq_true rfl) (fun x11 μ11 h11 => ?_)
    obtain ⟨rfl, hμ⟩ := h11
    subst hμ
    refine C.if_eq 21 dX12_on_14 rfl (fun hc14 => ?_) (fun hc14 => ?_)
    · have hv := (bI_0 _).mp hc14
      refine C.iconst (nI 0) dX12_on_21 (by decide) ?_
      refine C.istore_n (lv' := [(0, _), (1, _)]) dX12_on_22 (nLt hX rfl) rfl ?_
      first | exact fin false hv | exact fin true hv
    · have hv := b_t hc14
      refine C.iconst (nI 1) dX12_on_17 (by decide) ?_
      refine C.goto 22 dX12_on_18 rfl ?_
      refine C.istore_n (lv' := [(0, _), (1, _)]) dX12_on_22 (nLt hX rfl) rfl ?_
      first | exact fin false hv | exact fin true hv
end KXO
