/-! the reference: walkers, bells, cells, this night -/

section KO2
variable {l : Launch} {G : Gm} {μ : Mm} {h : Hs}
theorem kr_walker (hR : RefRel μ h) (hH : HOk h) (x y : Int32) : AMet l G 2 0 0 mtX13_walker [.ref (G.1 + 179), .int x, .int y] μ (qI (fun z μ' => z = walkA h x y ∧ PR μ h μ')) := by
  refine AMet.of (by decide) (Nat.le_of_ble_eq_true rfl) (fun X C hX hnm hq => ?_)
  have hS := hR.1.1
  have hL := hR.2.2.2.2.1.1
  have hN := hR.2.2.2.2.2.1
  have sm := hH.1.1.sm
  have sw := hH.1.2.1
  unfold walkA at hq
  refine C.aload_n dX13_walker_0 0 rfl ?_
  refine C.iload_n dX13_walker_1 1 rfl ?_
  refine C.callVI lX13_557 dX13_walker_2 (kg_isWalker hS hL (by omega) x) hS.o rfl rfl (Nat.le_of_ble_eq_true rfl) (Nat.zero_le _) (Nat.zero_le _) (Nat.le_of_ble_eq_true rfl) (fun x2 μ2 h2 => ?_)
  obtain ⟨hx2, hμ⟩ := h2
  subst hμ
  have hi := isIn_f (by omega) hx2
  refine C.if_ne 10 dX13_walker_5 rfl (fun hc5 => ?_) (fun hc5 => ?_)
  · obtain ⟨w, hw, e, hin⟩ := hi.2 hc5
    rw [hin] at hq
    subst e
    have hW := hH.1.1.w2 hw
    obtain ⟨g1, g2⟩ := hL.walk hw
    have c1 := clOk_lt hW (hW.walkF hw)
    have c2 := clOk_lt hW (hW.walkT hw)
    obtain ⟨b1, b2, b3, b4⟩ := hN.wk (show w < (stH h).2.1.length by rw [sw.2.2.1]; exact hw)
    dsimp only at hq
    refine C.iload_n dX13_walker_10 2 rfl ?_
    cases hin11 : inN y 8 with
    | none =>
      rw [hin11] at hq
      refine C.tableOut 131 dX13_walker_11 (inN_out (n := 7) (by decide) hin11) rfl ?_
      refine C.iconst (-1) dX13_walker_131 (by decide) ?_
      refine C.iret hq dX13_walker_132 ?_
      exact ⟨rfl, PR.self hR⟩
    | some j11 =>
      rw [hin11] at hq
      obtain ⟨hj11, e11⟩ := inN_some (by decide) hin11
      subst e11
      rcases (show j11 = 0 ∨ j11 = 1 ∨ j11 = 2 ∨ j11 = 3 ∨ j11 = 4 ∨ j11 = 5 ∨ j11 = 6 ∨ j11 = 7 by omega) with rfl | rfl | rfl | rfl | rfl | rfl | rfl | rfl
      · refine C.tableIn 56 dX13_walker_11 (by decide) (by decide) rfl rfl ?_
        refine C.aload_n dX13_walker_56 0 rfl ?_
        refine C.getA fX13_136 dX13_walker_57 hS.o hS.r50 ?_
        refine C.bipush (nI 30) dX13_walker_60 (by decide) ?_
        refine C.iconst (nI 5) dX13_walker_62 (by decide) ?_
        refine C.iload_n dX13_walker_63 1 rfl ?_
        refine C.imul dX13_walker_64 ?_
        rw [pk_mul]
        refine C.iadd dX13_walker_65 ?_
        rw [nI_add]
        refine C.iald hS.a50 (n_in (by omega)) dX13_walker_66 ?_
        rw [n_cl, g1]
        refine C.bipush (nI 7) dX13_walker_67 (by decide) ?_
        refine C.irem dX13_walker_69 (by decide) ?_
        rw [pk_rem (by omega) (by decide) (by decide)]
        refine C.iret hq dX13_walker_70 ?_
        exact ⟨rfl, PR.self hR⟩
      · refine C.tableIn 71 dX13_walker_11 (by decide) (by decide) rfl rfl ?_
        refine C.aload_n dX13_walker_71 0 rfl ?_
        refine C.getA fX13_136 dX13_walker_72 hS.o hS.r50 ?_
        refine C.bipush (nI 30) dX13_walker_75 (by decide) ?_
        refine C.iconst (nI 5) dX13_walker_77 (by decide) ?_
        refine C.iload_n dX13_walker_78 1 rfl ?_
        refine C.imul dX13_walker_79 ?_
        rw [pk_mul]
        refine C.iadd dX13_walker_80 ?_
        rw [nI_add]
        refine C.iald hS.a50 (n_in (by omega)) dX13_walker_81 ?_
        rw [n_cl, g1]
        refine C.bipush (nI 7) dX13_walker_82 (by decide) ?_
        refine C.idiv dX13_walker_84 (by decide) ?_
        rw [pk_div (by omega) (by decide) (by decide)]
        refine C.iret hq dX13_walker_85 ?_
        exact ⟨rfl, PR.self hR⟩
      · refine C.tableIn 86 dX13_walker_11 (by decide) (by decide) rfl rfl ?_
        refine C.aload_n dX13_walker_86 0 rfl ?_
        refine C.getA fX13_136 dX13_walker_87 hS.o hS.r50 ?_
        refine C.bipush (nI 31) dX13_walker_90 (by decide) ?_
        refine C.iconst (nI 5) dX13_walker_92 (by decide) ?_
        refine C.iload_n dX13_walker_93 1 rfl ?_
        refine C.imul dX13_walker_94 ?_
        rw [pk_mul]
        refine C.iadd dX13_walker_95 ?_
        rw [nI_add]
        refine C.iald hS.a50 (n_in (by omega)) dX13_walker_96 ?_
        rw [n_cl, g2]
        refine C.bipush (nI 7) dX13_walker_97 (by decide) ?_
        refine C.irem dX13_walker_99 (by decide) ?_
        rw [pk_rem (by omega) (by decide) (by decide)]
        refine C.iret hq dX13_walker_100 ?_
        exact ⟨rfl, PR.self hR⟩
      · refine C.tableIn 101 dX13_walker_11 (by decide) (by decide) rfl rfl ?_
        refine C.aload_n dX13_walker_101 0 rfl ?_
        refine C.getA fX13_136 dX13_walker_102 hS.o hS.r50 ?_
        refine C.bipush (nI 31) dX13_walker_105 (by decide) ?_
        refine C.iconst (nI 5) dX13_walker_107 (by decide) ?_
        refine C.iload_n dX13_walker_108 1 rfl ?_
        refine C.imul dX13_walker_109 ?_
        rw [pk_mul]
        refine C.iadd dX13_walker_110 ?_
        rw [nI_add]
        refine C.iald hS.a50 (n_in (by omega)) dX13_walker_111 ?_
        rw [n_cl, g2]
        refine C.bipush (nI 7) dX13_walker_112 (by decide) ?_
        refine C.idiv dX13_walker_114 (by decide) ?_
        rw [pk_div (by omega) (by decide) (by decide)]
        refine C.iret hq dX13_walker_115 ?_
        exact ⟨rfl, PR.self hR⟩
      · refine C.tableIn 116 dX13_walker_11 (by decide) (by decide) rfl rfl ?_
        refine C.aload_n dX13_walker_116 0 rfl ?_
        refine C.getA fX13_151 dX13_walker_117 hS.o hS.r59 ?_
        refine C.iconst (nI 2) dX13_walker_120 (by decide) ?_
        refine C.iconst (nI 4) dX13_walker_121 (by decide) ?_
        refine C.iload_n dX13_walker_122 1 rfl ?_
        refine C.imul dX13_walker_123 ?_
        rw [pk_mul]
        refine C.iadd dX13_walker_124 ?_
        rw [nI_add]
        refine C.iload_n dX13_walker_125 2 rfl ?_
        refine C.iadd dX13_walker_126 ?_
        rw [nI_add]
        refine C.iconst (nI 4) dX13_walker_127 (by decide) ?_
        refine C.isub dX13_walker_128 ?_
        rw [pk_sub (by omega), Nat.add_sub_assoc (by decide)]
        refine C.iald hS.a59 (n_in (by omega)) dX13_walker_129 ?_
        first | rw [n_cl, show mI μ2 225 (2 + 4 * w + (4 - 4)) = _ from b1] | rw [n_cl, show mI μ2 225 (2 + 4 * w + (5 - 4)) = _ from b2] | rw [n_cl, show mI μ2 225 (2 + 4 * w + (6 - 4)) = _ from b3] | rw [n_cl, show mI μ2 225 (2 + 4 * w + (7 - 4)) = _ from b4]
        refine C.iret hq dX13_walker_130 ?_
        exact ⟨rfl, PR.self hR⟩
      · refine C.tableIn 116 dX13_walker_11 (by decide) (by decide) rfl rfl ?_
        refine C.aload_n dX13_walker_116 0 rfl ?_
        refine C.getA fX13_151 dX13_walker_117 hS.o hS.r59 ?_
        refine C.iconst (nI 2) dX13_walker_120 (by decide) ?_
        refine C.iconst (nI 4) dX13_walker_121 (by decide) ?_
        refine C.iload_n dX13_walker_122 1 rfl ?_
        refine C.imul dX13_walker_123 ?_
        rw [pk_mul]
        refine C.iadd dX13_walker_124 ?_
        rw [nI_add]
        refine C.iload_n dX13_walker_125 2 rfl ?_
        refine C.iadd dX13_walker_126 ?_
        rw [nI_add]
        refine C.iconst (nI 4) dX13_walker_127 (by decide) ?_
        refine C.isub dX13_walker_128 ?_
        rw [pk_sub (by omega), Nat.add_sub_assoc (by decide)]
        refine C.iald hS.a59 (n_in (by omega)) dX13_walker_129 ?_
        first | rw [n_cl, show mI μ2 225 (2 + 4 * w + (4 - 4)) = _ from b1] | rw [n_cl, show mI μ2 225 (2 + 4 * w + (5 - 4)) = _ from b2] | rw [n_cl, show mI μ2 225 (2 + 4 * w + (6 - 4)) = _ from b3] | rw [n_cl, show mI μ2 225 (2 + 4 * w + (7 - 4)) = _ from b4]
        refine C.iret hq dX13_walker_130 ?_
        exact ⟨rfl, PR.self hR⟩
      · refine C.tableIn 116 dX13_walker_11 (by decide) (by decide) rfl rfl ?_
        refine C.aload_n dX13_walker_116 0 rfl ?_
        refine C.getA fX13_151 dX13_walker_117 hS.o hS.r59 ?_
        refine C.iconst (nI 2) dX13_walker_120 (by decide) ?_
        refine C.iconst (nI 4) dX13_walker_121 (by decide) ?_
        refine C.iload_n dX13_walker_122 1 rfl ?_
        refine C.imul dX13_walker_123 ?_
        rw [pk_mul]
        refine C.iadd dX13_walker_124 ?_
        rw [nI_add]
        refine C.iload_n dX13_walker_125 2 rfl ?_
        refine C.iadd dX13_walker_126 ?_
        rw [nI_add]
        refine C.iconst (nI 4) dX13_walker_127 (by decide) ?_
        refine C.isub dX13_walker_128 ?_
        rw [pk_sub (by omega), Nat.add_sub_assoc (by decide)]
        refine C.iald hS.a59 (n_in (by omega)) dX13_walker_129 ?_
        first | rw [n_cl, show mI μ2 225 (2 + 4 * w + (4 - 4)) = _ from b1] | rw [n_cl, show mI μ2 225 (2 + 4 * w + (5 - 4)) = _ from b2] | rw [n_cl, show mI μ2 225 (2 + 4 * w + (6 - 4)) = _ from b3] | rw [n_cl, show mI μ2 225 (2 + 4 * w + (7 - 4)) = _ from b4]
        refine C.iret hq dX13_walker_130 ?_
        exact ⟨rfl, PR.self hR⟩
      · refine C.tableIn 116 dX13_walker_11 (by decide) (by decide) rfl rfl ?_
        refine C.aload_n dX13_walker_116 0 rfl ?_
        refine C.getA fX13_151 dX13_walker_117 hS.o hS.r59 ?_
        refine C.iconst (nI 2) dX13_walker_120 (by decide) ?_
        refine C.iconst (nI 4) dX13_walker_121 (by decide) ?_
        refine C.iload_n dX13_walker_122 1 rfl ?_
        refine C.imul dX13_walker_123 ?_
        rw [pk_mul]
        refine C.iadd dX13_walker_124 ?_
        rw [nI_add]
        refine C.iload_n dX13_walker_125 2 rfl ?_
        refine C.iadd dX13_walker_126 ?_
        rw [nI_add]
        refine C.iconst (nI 4) dX13_walker_127 (by decide) ?_
        refine C.isub dX13_walker_128 ?_
        rw [pk_sub (by omega), Nat.add_sub_assoc (by decide)]
        refine C.iald hS.a59 (n_in (by omega)) dX13_walker_129 ?_
        first | rw [n_cl, show mI μ2 225 (2 + 4 * w + (4 - 4)) = _ from b1] | rw [n_cl, show mI μ2 225 (2 + 4 * w + (5 - 4)) = _ from b2] | rw [n_cl, show mI μ2 225 (2 + 4 * w + (6 - 4)) = _ from b3] | rw [n_cl, show mI μ2 225 (2 + 4 * w + (7 - 4)) = _ from b4]
        refine C.iret hq dX13_walker_130 ?_
        exact ⟨rfl, PR.self hR⟩
  · rw [hi.1 hc5] at hq
    refine C.iconst (-1) dX13_walker_8 (by decide) ?_
    refine C.iret hq dX13_walker_9 ?_
    exact ⟨rfl, PR.self hR⟩
theorem kn_loses (hS : ShM μ) {d : Ld} (hL : LmH μ 1 1600 d) (hW : Wf d) {b r : Nat} (hb : b < d.2.2.1.length) (hr : r < 32) {ride : Nat → Nat} (hri : ∀ h, h < 12 → mI μ 228 h = nI (ride h) ∧ ride h < 49) : AMet l G 1 0 0 mtX13_losesBy [.ref (G.1 + 179), .int (nI b), .int (nI r)] μ (qI (fun x μ' => x = nI (lossF d ride r b) ∧ μ' = μ)) := by
  have b5 := hW.2.2.1.1
  obtain ⟨g1, g2⟩ := hL.bell hb
  have c1 := clOk_lt hW (hW.bellC hb)
  have h4 : mI μ 221 4 = nI d.2.2.2.2.1.2.1 := hL.1.2.2.2.1
  refine AMet.of (by decide) (Nat.le_of_ble_eq_true rfl) (fun X C hX hnm hq => ?_)
  unfold lossF at hq
  have fin : ∀ (n0 : Nat) (nb : Bool) (x5 : Int32), n0 = (if bitN r b then bellR d b else 0) → nb = nearB d ride b → AW l G X 0 0 81 [(0, .ref (G.1 + 179)), (1, .int (nI b)), (2, .int (nI r)), (3, .int (nI n0)), (4, .int (bI nb)), (5, .int x5)] [] μ := by
    intro n0 nb x5 e1 e2
    refine C.iload dX13_losesBy_81 4 rfl ?_
    refine C.if_eq 97 dX13_losesBy_83 rfl (fun hc83 => ?_) (fun hc83 => ?_)
    · have hz := (bI_0 nb).mp hc83
      refine C.iload_n dX13_losesBy_97 3 rfl ?_
      refine C.iret hq dX13_losesBy_98 ?_
      rw [hz] at e2
      rw [← e1, ← e2]
      exact ⟨rfl, rfl⟩
    · have hz := b_t hc83
      refine C.iload_n dX13_losesBy_86 3 rfl ?_
      refine C.aload_n dX13_losesBy_87 0 rfl ?_
      refine C.getA fX13_139 dX13_losesBy_88 hS.o hS.r51 ?_
      refine C.iconst (nI 4) dX13_losesBy_91 (by decide) ?_
      refine C.iald hS.a51 (n_in (by decide)) dX13_losesBy_92 ?_
      rw [n_cl, h4]
      refine C.iadd dX13_losesBy_93 ?_
      rw [nI_add]
      refine C.goto 98 dX13_losesBy_94 rfl ?_
      refine C.iret hq dX13_losesBy_98 ?_
      rw [hz] at e2
      rw [← e1, ← e2]
      exact ⟨rfl, rfl⟩
  have loop : ∀ (j k n0 : Nat) (nb : Bool), k + j = 12 → n0 = (if bitN r b then bellR d b else 0) → nb = (List.range k).any (fun h => decide (apN (ride h) (bellC d b) ≤ 1)) → AW l G X 0 0 31 [(0, .ref (G.1 + 179)), (1, .int (nI b)), (2, .int (nI r)), (3, .int (nI n0)), (4, .int (bI nb)), (5, .int (nI k))] [] μ := by
    intro j
    induction j with
    | zero =>
      intro k n0 nb hk e1 e2
      refine C.iload dX13_losesBy_31 5 rfl ?_
      refine C.bipush (nI 12) dX13_losesBy_33 (by decide) ?_
      refine C.icmp_ge 81 dX13_losesBy_35 rfl (fun hc35 => ?_) (fun hc35 => ?_)
      · exact fin n0 nb _ e1 (by rw [e2, show k = 12 by omega]; rfl)
      · have := n_nle (a := 12) (b := k) hc35; omega
    | succ j ih =>
      intro k n0 nb hk e1 e2
      have hany : (List.range (k + 1)).any (fun h => decide (apN (ride h) (bellC d b) ≤ 1)) = (nb || decide (apN (ride k) (bellC d b) ≤ 1)) := by
        rw [List.range_succ, List.any_append, ← e2]; simp
      have hap : apN (ride k) (bellC d b) < 2 ^ 20 := by
        have := (hri k (by omega)).2
        unfold apN
        omega
      have nxt : ∀ nb2 : Bool, nb2 = (nb || decide (apN (ride k) (bellC d b) ≤ 1)) → AW l G X 0 0 73 [(0, .ref (G.1 + 179)), (1, .int (nI b)), (2, .int (nI r)), (3, .int (nI n0)), (4, .int (bI nb)), (5, .int (nI k))] [.int (bI nb2)] μ := by
        intro nb2 e3
        refine C.istore (lv' := [(0, _), (1, _), (2, _), (3, _), (4, _), (5, _)]) dX13_losesBy_73 (nLt hX rfl) rfl ?_
        refine C.iinc (lv' := [(0, _), (1, _), (2, _), (3, _), (4, _), (5, _)]) _ dX13_losesBy_75 5 rfl rfl (nLt hX rfl) rfl ?_
        refine C.goto 31 dX13_losesBy_78 rfl ?_
        have hgo := ih (k + 1) n0 nb2 (by omega) e1 (by rw [hany, e3])
        rw [← nI_1] at hgo
        exact hgo
      refine C.iload dX13_losesBy_31 5 rfl ?_
      refine C.bipush (nI 12) dX13_losesBy_33 (by decide) ?_
      refine C.icmp_ge 81 dX13_losesBy_35 rfl (fun hc35 => ?_) (fun hc35 => ?_)
      · have := n_le (a := 12) (b := k) hc35; omega
      · refine C.iload dX13_losesBy_38 4 rfl ?_
        refine C.if_ne 68 dX13_losesBy_40 rfl (fun hc40 => ?_) (fun hc40 => ?_)
        · have hz := b_t hc40
          refine C.iconst (nI 1) dX13_losesBy_68 (by decide) ?_
          refine C.goto 73 dX13_losesBy_69 rfl ?_
          exact nxt true (by rw [hz]; rfl)
        · have hz := (bI_0 nb).mp hc40
          refine C.aload_n dX13_losesBy_43 0 rfl ?_
          refine C.getA fX13_160 dX13_losesBy_44 hS.o hS.r65 ?_
          refine C.iload dX13_losesBy_47 5 rfl ?_
          refine C.iald hS.a65 (n_in (by omega)) dX13_losesBy_49 ?_
          rw [n_cl, (hri k (by omega)).1]
          refine C.aload_n dX13_losesBy_50 0 rfl ?_
          refine C.getA fX13_133 dX13_losesBy_51 hS.o hS.r49 ?_
          refine C.bipush (nI 10) dX13_losesBy_54 (by decide) ?_
          refine C.iconst (nI 2) dX13_losesBy_56 (by decide) ?_
          refine C.iload_n dX13_losesBy_57 1 rfl ?_
          refine C.imul dX13_losesBy_58 ?_
          rw [pk_mul]
          refine C.iadd dX13_losesBy_59 ?_
          rw [nI_add]
          refine C.iald hS.a49 (n_in (by omega)) dX13_losesBy_60 ?_
          rw [n_cl, g1]
          refine C.callSI lX13_433 dX13_losesBy_61 (kg_apart (by have := (hri k (by omega)).2; omega) (by omega)) rfl rfl (Nat.le_of_ble_eq_true rfl) (Nat.zero_le _) (Nat.zero_le _) (Nat.le_of_ble_eq_true rfl) (fun x61 μ61 h61 => ?_)
          obtain ⟨rfl, hμ⟩ := h61
          subst hμ
          refine C.iconst (nI 1) dX13_losesBy_64 (by decide) ?_
          refine C.icmp_gt 72 dX13_losesBy_65 rfl (fun hc65 => ?_) (fun hc65 => ?_)
          · have hgt := n_lt (a := 1) (b := apN (ride k) (bellC d b)) hc65
            refine C.iconst (nI 0) dX13_losesBy_72 (by decide) ?_
            first | exact nxt false (by rw [hz, decide_eq_false (by omega)]; rfl) | exact nxt true (by rw [decide_eq_true hle]; simp)
          · have hle := n_nlt (a := 1) (b := apN (ride k) (bellC d b)) hc65
            refine C.iconst (nI 1) dX13_losesBy_68 (by decide) ?_
            refine C.goto 73 dX13_losesBy_69 rfl ?_
            first | exact nxt false (by rw [hz, decide_eq_false (by omega)]; rfl) | exact nxt true (by rw [decide_eq_true hle]; simp)
  have m24 : ∀ n0, n0 = (if bitN r b then bellR d b else 0) → AW l G X 0 0 24 [(0, .ref (G.1 + 179)), (1, .int (nI b)), (2, .int (nI r))] [.int (nI n0)] μ := by
    intro n0 e1
    refine C.istore_n (lv' := [(0, _), (1, _), (2, _), (3, _)]) dX13_losesBy_24 (nLt hX rfl) rfl ?_
    refine C.iconst (nI 0) dX13_losesBy_25 (by decide) ?_
    refine C.istore (lv' := [(0, _), (1, _), (2, _), (3, _), (4, _)]) dX13_losesBy_26 (nLt hX rfl) rfl ?_
    refine C.iconst (nI 0) dX13_losesBy_28 (by decide) ?_
    refine C.istore (lv' := [(0, _), (1, _), (2, _), (3, _), (4, _), (5, _)]) dX13_losesBy_29 (nLt hX rfl) rfl ?_
    exact loop 12 0 n0 false (by omega) e1 rfl
  refine C.iload_n dX13_losesBy_0 2 rfl ?_
  refine C.iload_n dX13_losesBy_1 1 rfl ?_
  refine C.ishr dX13_losesBy_2 ?_
  refine C.iconst (nI 1) dX13_losesBy_3 (by decide) ?_
  refine C.iand dX13_losesBy_4 ?_
  rw [bit_eq (by omega) (by omega)]
  refine C.iconst (nI 1) dX13_losesBy_5 (by decide) ?_
  refine C.icmp_ne 23 dX13_losesBy_6 rfl (fun hc6 => ?_) (fun hc6 => ?_)
  · have hz : ¬ r / 2 ^ b % 2 = 1 := n_ne hc6
    refine C.iconst (nI 0) dX13_losesBy_23 (by decide) ?_
    first | exact m24 (bellR d b) (by unfold bitN; rw [decide_eq_true hz]; rfl) | exact m24 0 (by unfold bitN; rw [decide_eq_false hz]; rfl)
  · have hz : r / 2 ^ b % 2 = 1 := n_eq (a := r / 2 ^ b % 2) (b := 1) hc6
    refine C.aload_n dX13_losesBy_9 0 rfl ?_
    refine C.getA fX13_133 dX13_losesBy_10 hS.o hS.r49 ?_
    refine C.bipush (nI 11) dX13_losesBy_13 (by decide) ?_
    refine C.iconst (nI 2) dX13_losesBy_15 (by decide) ?_
    refine C.iload_n dX13_losesBy_16 1 rfl ?_
    refine C.imul dX13_losesBy_17 ?_
    rw [pk_mul]
    refine C.iadd dX13_losesBy_18 ?_
    rw [nI_add]
    refine C.iald hS.a49 (n_in (by omega)) dX13_losesBy_19 ?_
    rw [n_cl, g2]
    refine C.goto 24 dX13_losesBy_20 rfl ?_
    first | exact m24 (bellR d b) (by unfold bitN; rw [decide_eq_true hz]; rfl) | exact m24 0 (by unfold bitN; rw [decide_eq_false hz]; rfl)
theorem rid49 (hW : Wf (ldH h)) : ∀ k, ridH h k < 49 := fun k => clOk_lt hW (rF_ok hW hW.1.2.2.2.2 k)
/-- the ride of this night is laid -/
theorem kr_rides (hR : RefRel μ h) (hH : HOk h) (hW : Wf (ldH h)) : AMet l G 6 0 0 mtX13_ridesNow [.ref (G.1 + 179)] μ (qV (fun μ' => (∀ k, k < 12 → mI μ' 228 k = nI (ridH h k) ∧ ridH h k < 49) ∧ TmR μ μ')) := by
  have sw := hH.1.2.1
  have hr5 := two5 sw.2.1 hW.2.2.1.1
  exact (ke_ridesNow (more := none) hR.1.1 hR.2.2.2.2.1.1 hW hH.2 hR.2.2.2.2.2.1.1 (by have := sw.1; omega) hR.2.2.2.2.2.1.2.1 hR.1.2.2.1 (fun x q => by cases q) (by omega)).monoV (fun μ' q => ⟨fun k hk => ⟨q.1 k hk, rid49 hW k⟩, q.2⟩)
theorem kr_bell (hR : RefRel μ h) (hH : HOk h) (x y : Int32) : AMet l G 7 0 0 mtX13_bell [.ref (G.1 + 179), .int x, .int y] μ (qI (fun z μ' => z = bellA h x y ∧ PR μ h μ')) := by
  refine AMet.of (by decide) (Nat.le_of_ble_eq_true rfl) (fun X C hX hnm hq => ?_)
  have hS := hR.1.1
  have hL := hR.2.2.2.2.1.1
  have hN := hR.2.2.2.2.2.1
  have sm := hH.1.1.sm
  have sw := hH.1.2.1
  have hr5 := two5 sw.2.1 sm.2.2.2.1
  unfold bellA at hq
  refine C.aload_n dX13_bell_0 0 rfl ?_
  refine C.iload_n dX13_bell_1 1 rfl ?_
  refine C.callVI lX13_551 dX13_bell_2 (kg_isBell hS hL (by omega) x) hS.o rfl rfl (Nat.le_of_ble_eq_true rfl) (Nat.zero_le _) (Nat.zero_le _) (Nat.le_of_ble_eq_true rfl) (fun x2 μ2 h2 => ?_)
  obtain ⟨hx2, hμ⟩ := h2
  subst hμ
  have hi := isIn_f (by omega) hx2
  refine C.if_ne 10 dX13_bell_5 rfl (fun hc5 => ?_) (fun hc5 => ?_)
  · obtain ⟨w, hw, e, hin⟩ := hi.2 hc5
    rw [hin] at hq
    subst e
    have hW := hH.1.1.w3 hw
    have c1 := clOk_lt hW (hW.bellC hw)
    dsimp only at hq
    refine C.aload_n dX13_bell_10 0 rfl ?_
    refine C.callVV lX13_516 dX13_bell_11 (kr_rides hR hH hW) hS.o rfl rfl (Nat.le_of_ble_eq_true rfl) (Nat.zero_le _) (Nat.zero_le _) (Nat.le_of_ble_eq_true rfl) (fun μ11 h11 => ?_)
    obtain ⟨hri, hT⟩ := h11
    have hP := hR.tmR hT
    have hS : ShM μ11 := hT.sh hS
    have hL := hT.lm hL
    have hN := hN.tr hT
    obtain ⟨g1, g2⟩ := hL.bell hw
    refine C.iload_n dX13_bell_14 2 rfl ?_
    cases hin15 : inN y 5 with
    | none =>
      rw [hin15] at hq
      refine C.tableOut 113 dX13_bell_15 (inN_out (n := 4) (by decide) hin15) rfl ?_
      refine C.iconst (-1) dX13_bell_113 (by decide) ?_
      refine C.iret hq dX13_bell_114 ?_
      exact ⟨rfl, hP⟩
    | some j15 =>
      rw [hin15] at hq
      obtain ⟨hj15, e15⟩ := inN_some (by decide) hin15
      subst e15
      rcases (show j15 = 0 ∨ j15 = 1 ∨ j15 = 2 ∨ j15 = 3 ∨ j15 = 4 by omega) with rfl | rfl | rfl | rfl | rfl
      · refine C.tableIn 48 dX13_bell_15 (by decide) (by decide) rfl rfl ?_
        refine C.aload_n dX13_bell_48 0 rfl ?_
        refine C.getA fX13_133 dX13_bell_49 hS.o hS.r49 ?_
        refine C.bipush (nI 10) dX13_bell_52 (by decide) ?_
        refine C.iconst (nI 2) dX13_bell_54 (by decide) ?_
        refine C.iload_n dX13_bell_55 1 rfl ?_
        refine C.imul dX13_bell_56 ?_
        rw [pk_mul]
        refine C.iadd dX13_bell_57 ?_
        rw [nI_add]
        refine C.iald hS.a49 (n_in (by omega)) dX13_bell_58 ?_
        rw [n_cl, g1]
        refine C.bipush (nI 7) dX13_bell_59 (by decide) ?_
        refine C.irem dX13_bell_61 (by decide) ?_
        rw [pk_rem (by omega) (by decide) (by decide)]
        refine C.iret hq dX13_bell_62 ?_
        exact ⟨rfl, hP⟩
      · refine C.tableIn 63 dX13_bell_15 (by decide) (by decide) rfl rfl ?_
        refine C.aload_n dX13_bell_63 0 rfl ?_
        refine C.getA fX13_133 dX13_bell_64 hS.o hS.r49 ?_
        refine C.bipush (nI 10) dX13_bell_67 (by decide) ?_
        refine C.iconst (nI 2) dX13_bell_69 (by decide) ?_
        refine C.iload_n dX13_bell_70 1 rfl ?_
        refine C.imul dX13_bell_71 ?_
        rw [pk_mul]
        refine C.iadd dX13_bell_72 ?_
        rw [nI_add]
        refine C.iald hS.a49 (n_in (by omega)) dX13_bell_73 ?_
        rw [n_cl, g1]
        refine C.bipush (nI 7) dX13_bell_74 (by decide) ?_
        refine C.idiv dX13_bell_76 (by decide) ?_
        rw [pk_div (by omega) (by decide) (by decide)]
        refine C.iret hq dX13_bell_77 ?_
        exact ⟨rfl, hP⟩
      · refine C.tableIn 78 dX13_bell_15 (by decide) (by decide) rfl rfl ?_
        refine C.aload_n dX13_bell_78 0 rfl ?_
        refine C.getA fX13_133 dX13_bell_79 hS.o hS.r49 ?_
        refine C.bipush (nI 11) dX13_bell_82 (by decide) ?_
        refine C.iconst (nI 2) dX13_bell_84 (by decide) ?_
        refine C.iload_n dX13_bell_85 1 rfl ?_
        refine C.imul dX13_bell_86 ?_
        rw [pk_mul]
        refine C.iadd dX13_bell_87 ?_
        rw [nI_add]
        refine C.iald hS.a49 (n_in (by omega)) dX13_bell_88 ?_
        rw [n_cl, g2]
        refine C.iret hq dX13_bell_89 ?_
        exact ⟨rfl, hP⟩
      · refine C.tableIn 90 dX13_bell_15 (by decide) (by decide) rfl rfl ?_
        refine C.aload_n dX13_bell_90 0 rfl ?_
        refine C.getA fX13_151 dX13_bell_91 hS.o hS.r59 ?_
        refine C.iconst (nI 1) dX13_bell_94 (by decide) ?_
        refine C.iald hS.a59 (n_in (by decide)) dX13_bell_95 ?_
        rw [n_cl, hN.2.1]
        refine C.iload_n dX13_bell_96 1 rfl ?_
        refine C.ishr dX13_bell_97 ?_
        refine C.iconst (nI 1) dX13_bell_98 (by decide) ?_
        refine C.iand dX13_bell_99 ?_
        rw [bit_eq (by omega) (by omega)]
        refine C.iret hq dX13_bell_100 ?_
        refine ⟨?_, hP⟩
        show nI ((stH h).1.2 / 2 ^ w % 2) = bI (bitN (stH h).1.2 w)
        unfold bitN bI
        by_cases q : (stH h).1.2 / 2 ^ w % 2 = 1
        · rw [decide_eq_true q, q]; rfl
        · rw [decide_eq_false q, show (stH h).1.2 / 2 ^ w % 2 = 0 by omega]; rfl
      · refine C.tableIn 101 dX13_bell_15 (by decide) (by decide) rfl rfl ?_
        refine C.aload_n dX13_bell_101 0 rfl ?_
        refine C.iload_n dX13_bell_102 1 rfl ?_
        refine C.aload_n dX13_bell_103 0 rfl ?_
        refine C.getA fX13_151 dX13_bell_104 hS.o hS.r59 ?_
        refine C.iconst (nI 1) dX13_bell_107 (by decide) ?_
        refine C.iald hS.a59 (n_in (by decide)) dX13_bell_108 ?_
        rw [n_cl, hN.2.1]
        refine C.callVI lX13_554 dX13_bell_109 (kn_loses hS hL hW hw hr5 hri) hS.o rfl rfl (Nat.le_of_ble_eq_true rfl) (Nat.zero_le _) (Nat.zero_le _) (Nat.le_of_ble_eq_true rfl) (fun x109 μ109 h109 => ?_)
        obtain ⟨rfl, hμ⟩ := h109
        subst hμ
        refine C.iret hq dX13_bell_112 ?_
        exact ⟨rfl, hP⟩
  · rw [hi.1 hc5] at hq
    refine C.iconst (-1) dX13_bell_8 (by decide) ?_
    refine C.iret hq dX13_bell_9 ?_
    exact ⟨rfl, PR.self hR⟩
theorem kr_hunt (hR : RefRel μ h) (hH : HOk h) (x y : Int32) : AMet l G 7 0 0 mtX13_hunt [.ref (G.1 + 179), .int x, .int y] μ (qI (fun z μ' => z = huntA h x y ∧ PR μ h μ')) := by
  refine AMet.of (by decide) (Nat.le_of_ble_eq_true rfl) (fun X C hX hnm hq => ?_)
  have hS := hR.1.1
  have h57 := hR.2.2.2.2.1.2
  unfold huntA at hq
  by_cases hp : 0 < (ldH h).1.1
  · rw [if_pos hp] at h57 hq
    have hW := hH.1.1.w1 hp
    refine C.aload_n dX13_hunt_0 0 rfl ?_
    refine C.getZ fX13_403 dX13_hunt_1 hS.o ?_
    rw [h57]
    refine C.if_eq 19 dX13_hunt_4 rfl (fun hc4 => ?_) (fun hc4 => ?_)
    · exact absurd hc4 (by decide)
    · refine C.iload_n dX13_hunt_7 1 rfl ?_
      refine C.i2l dX13_hunt_8 ?_
      refine C.lconst (lN 0) dX13_hunt_9 (by decide) ?_
      refine C.ldc2 kX13_562 dX13_hunt_10 ?_
      refine C.callSI lX13_307 dX13_hunt_13 (km_isIn _ _ _) rfl rfl (Nat.le_of_ble_eq_true rfl) (Nat.zero_le _) (Nat.zero_le _) (Nat.le_of_ble_eq_true rfl) (fun x13 μ13 h13 => ?_)
      obtain ⟨hx13, hμ⟩ := h13
      subst hμ
      simp only [show (11 : Int64) = lN 11 from rfl, isIn_c (n := 11) (by decide)] at hx13
      have hi := isIn_f (n := 12) (by decide) hx13
      refine C.if_ne 21 dX13_hunt_16 rfl (fun hc16 => ?_) (fun hc16 => ?_)
      · obtain ⟨k, hk, e, hin⟩ := hi.2 hc16
        rw [hin] at hq
        subst e
        dsimp only at hq
        refine C.aload_n dX13_hunt_21 0 rfl ?_
        refine C.callVV lX13_516 dX13_hunt_22 (kr_rides hR hH hW) hS.o rfl rfl (Nat.le_of_ble_eq_true rfl) (Nat.zero_le _) (Nat.zero_le _) (Nat.le_of_ble_eq_true rfl) (fun μ22 h22 => ?_)
        obtain ⟨hri, hT⟩ := h22
        have hP := hR.tmR hT
        have hS : ShM μ22 := hT.sh hS
        obtain ⟨r1, r2⟩ := hri k hk
        refine C.iload_n dX13_hunt_25 2 rfl ?_
        refine C.if_ne 41 dX13_hunt_26 rfl (fun hc26 => ?_) (fun hc26 => ?_)
        · rw [if_neg (show ¬ y = nI 0 from hc26)] at hq
          refine C.iload_n dX13_hunt_41 2 rfl ?_
          refine C.iconst (nI 1) dX13_hunt_42 (by decide) ?_
          refine C.icmp_ne 58 dX13_hunt_43 rfl (fun hc43 => ?_) (fun hc43 => ?_)
          · rw [if_neg hc43] at hq
            refine C.iconst (-1) dX13_hunt_58 (by decide) ?_
            refine C.iret hq dX13_hunt_59 ?_
            exact ⟨rfl, hP⟩
          · rw [if_pos hc43] at hq
            refine C.aload_n dX13_hunt_46 0 rfl ?_
            refine C.getA fX13_160 dX13_hunt_47 hS.o hS.r65 ?_
            refine C.iload_n dX13_hunt_50 1 rfl ?_
            refine C.iald hS.a65 (n_in hk) dX13_hunt_51 ?_
            rw [n_cl, r1]
            refine C.bipush (nI 7) dX13_hunt_52 (by decide) ?_
            refine C.idiv dX13_hunt_54 (by decide) ?_
            rw [pk_div (by omega) (by decide) (by decide)]
            refine C.goto 59 dX13_hunt_55 rfl ?_
            refine C.iret hq dX13_hunt_59 ?_
            exact ⟨rfl, hP⟩
        · rw [if_pos (show y = nI 0 from hc26)] at hq
          refine C.aload_n dX13_hunt_29 0 rfl ?_
          refine C.getA fX13_160 dX13_hunt_30 hS.o hS.r65 ?_
          refine C.iload_n dX13_hunt_33 1 rfl ?_
          refine C.iald hS.a65 (n_in hk) dX13_hunt_34 ?_
          rw [n_cl, r1]
          refine C.bipush (nI 7) dX13_hunt_35 (by decide) ?_
          refine C.irem dX13_hunt_37 (by decide) ?_
          rw [pk_rem (by omega) (by decide) (by decide)]
          refine C.goto 59 dX13_hunt_38 rfl ?_
          refine C.iret hq dX13_hunt_59 ?_
          exact ⟨rfl, hP⟩
      · rw [hi.1 hc16] at hq
        refine C.iconst (-1) dX13_hunt_19 (by decide) ?_
        refine C.iret hq dX13_hunt_20 ?_
        exact ⟨rfl, PR.self hR⟩
  · rw [if_neg hp] at h57 hq
    refine C.aload_n dX13_hunt_0 0 rfl ?_
    refine C.getZ fX13_403 dX13_hunt_1 hS.o ?_
    rw [h57]
    refine C.if_eq 19 dX13_hunt_4 rfl (fun hc4 => ?_) (fun hc4 => ?_)
    · refine C.iconst (-1) dX13_hunt_19 (by decide) ?_
      refine C.iret hq dX13_hunt_20 ?_
      exact ⟨rfl, PR.self hR⟩
    · exact absurd rfl hc4
theorem kr_meets (hR : RefRel μ h) (hH : HOk h) (x : Int32) : AMet l G 7 0 0 mtX13_meets [.ref (G.1 + 179), .int x] μ (qI (fun z μ' => z = meetsA h x ∧ PR μ h μ')) := by
  refine AMet.of (by decide) (Nat.le_of_ble_eq_true rfl) (fun X C hX hnm hq => ?_)
  have hS := hR.1.1
  have hL := hR.2.2.2.2.1.1
  have hN := hR.2.2.2.2.2.1
  have sm := hH.1.1.sm
  have sw := hH.1.2.1
  unfold meetsA at hq
  refine C.aload_n dX13_meets_0 0 rfl ?_
  refine C.iload_n dX13_meets_1 1 rfl ?_
  refine C.callVI lX13_557 dX13_meets_2 (kg_isWalker hS hL (by omega) x) hS.o rfl rfl (Nat.le_of_ble_eq_true rfl) (Nat.zero_le _) (Nat.zero_le _) (Nat.le_of_ble_eq_true rfl) (fun x2 μ2 h2 => ?_)
  obtain ⟨hx2, hμ⟩ := h2
  subst hμ
  have hi := isIn_f (by omega) hx2
  refine C.if_ne 10 dX13_meets_5 rfl (fun hc5 => ?_) (fun hc5 => ?_)
  · obtain ⟨w, hw, e, hin⟩ := hi.2 hc5
    rw [hin] at hq
    subst e
    have hW := hH.1.1.w2 hw
    have hx := sw.wk hw
    dsimp only at hq
    refine C.aload_n dX13_meets_10 0 rfl ?_
    refine C.callVV lX13_516 dX13_meets_11 (kr_rides hR hH hW) hS.o rfl rfl (Nat.le_of_ble_eq_true rfl) (Nat.zero_le _) (Nat.zero_le _) (Nat.le_of_ble_eq_true rfl) (fun μ11 h11 => ?_)
    obtain ⟨hri, hT⟩ := h11
    have hP := hR.tmR hT
    have hS : ShM μ11 := hT.sh hS
    have hL := hT.lm hL
    have hN := hN.tr hT
    obtain ⟨b1, b2, b3, b4⟩ := hN.wk (show w < (stH h).2.1.length by rw [sw.2.2.1]; exact hw)
    refine C.aload_n dX13_meets_14 0 rfl ?_
    refine C.iload_n dX13_meets_15 1 rfl ?_
    refine C.callVI lX13_519 dX13_meets_16 (ke_meetsAt hS hL hW hw hri (x := wkS (stH h) w) b1 (by rw [← b4]; congr 1; omega) hx.1 hx.2.2.2) hS.o rfl rfl (Nat.le_of_ble_eq_true rfl) (Nat.zero_le _) (Nat.zero_le _) (Nat.le_of_ble_eq_true rfl) (fun x16 μ16 h16 => ?_)
    obtain ⟨rfl, hμ⟩ := h16
    subst hμ
    refine C.iret hq dX13_meets_19 ?_
    exact ⟨rfl, hP⟩
  · rw [hi.1 hc5] at hq
    refine C.iconst (-1) dX13_meets_8 (by decide) ?_
    refine C.iret hq dX13_meets_9 ?_
    exact ⟨rfl, PR.self hR⟩
theorem kn_rode (hS : ShM μ) {c : Nat} (hc : c < 2 ^ 20) {ride : Nat → Nat} (hri : ∀ h, h < 12 → mI μ 228 h = nI (ride h) ∧ ride h < 49) : AMet l G 0 0 0 mtX13_rodeAt [.ref (G.1 + 179), .int (nI c)] μ (qI (fun x μ' => x = opI (fsF (fun k => decide (ride k = c)) 12 0) ∧ μ' = μ)) := by
  refine AMet.of (by decide) (Nat.le_of_ble_eq_true rfl) (fun X C hX hnm hq => ?_)
  generalize hK : fsF (fun k => decide (ride k = c)) 12 0 = K at hq
  have loop : ∀ (j k : Nat), k + j = 12 → fsF (fun k => decide (ride k = c)) j k = K → AW l G X 0 0 2 [(0, .ref (G.1 + 179)), (1, .int (nI c)), (2, .int (nI k))] [] μ := by
    intro j
    induction j with
    | zero =>
      intro k hk hv
      refine C.iload_n dX13_rodeAt_2 2 rfl ?_
      refine C.bipush (nI 12) dX13_rodeAt_3 (by decide) ?_
      refine C.icmp_ge 26 dX13_rodeAt_5 rfl (fun hc5 => ?_) (fun hc5 => ?_)
      · refine C.iconst (-1) dX13_rodeAt_26 (by decide) ?_
        refine C.iret hq dX13_rodeAt_27 ?_
        exact ⟨by rw [← hv]; rfl, rfl⟩
      · have := n_nle (a := 12) (b := k) hc5; omega
    | succ j ih =>
      intro k hk hv
      unfold fsF at hv
      have r2 := (hri k (by omega)).2
      refine C.iload_n dX13_rodeAt_2 2 rfl ?_
      refine C.bipush (nI 12) dX13_rodeAt_3 (by decide) ?_
      refine C.icmp_ge 26 dX13_rodeAt_5 rfl (fun hc5 => ?_) (fun hc5 => ?_)
      · have := n_le (a := 12) (b := k) hc5; omega
      · refine C.aload_n dX13_rodeAt_8 0 rfl ?_
        refine C.getA fX13_160 dX13_rodeAt_9 hS.o hS.r65 ?_
        refine C.iload_n dX13_rodeAt_12 2 rfl ?_
        refine C.iald hS.a65 (n_in (by omega)) dX13_rodeAt_13 ?_
        rw [n_cl, (hri k (by omega)).1]
        refine C.iload_n dX13_rodeAt_14 1 rfl ?_
        refine C.icmp_ne 20 dX13_rodeAt_15 rfl (fun hc15 => ?_) (fun hc15 => ?_)
        · rw [if_neg (by rw [decide_eq_false (n_ne hc15)]; decide)] at hv
          refine C.iinc (lv' := [(0, _), (1, _), (2, _)]) _ dX13_rodeAt_20 2 rfl rfl (nLt hX rfl) rfl ?_
          refine C.goto 2 dX13_rodeAt_23 rfl ?_
          have hgo := ih (k + 1) (by omega) hv
          rw [← nI_1] at hgo
          exact hgo
        · rw [if_pos (decide_eq_true (n_eq hc15))] at hv
          refine C.iload_n dX13_rodeAt_18 2 rfl ?_
          refine C.iret hq dX13_rodeAt_19 ?_
          exact ⟨by rw [← hv]; rfl, rfl⟩
  refine C.iconst (nI 0) dX13_rodeAt_0 (by decide) ?_
  refine C.istore_n (lv' := [(0, _), (1, _), (2, _)]) dX13_rodeAt_1 (nLt hX rfl) rfl ?_
  exact loop 12 0 rfl hK
theorem kr_cellAt (hR : RefRel μ h) (hH : HOk h) (x y : Int32) : AMet l G 2 0 0 mtX13_cellAt [.ref (G.1 + 179), .int x, .int y] μ (qI (fun z μ' => z = (match inN x (ldH h).1.1, inN y (ldH h).1.2.1 with | some a, some b => nI (a + 7 * b) | _, _ => -1) ∧ μ' = μ)) := by
  refine AMet.of (by decide) (Nat.le_of_ble_eq_true rfl) (fun X C hX hnm hq => ?_)
  have hS := hR.1.1
  have hL := hR.2.2.2.2.1.1
  have sm := hH.1.1.sm
  have h57 := hR.2.2.2.2.1.2
  by_cases hp : 0 < (ldH h).1.1
  · rw [if_pos hp] at h57
    refine C.aload_n dX13_cellAt_0 0 rfl ?_
    refine C.getZ fX13_403 dX13_cellAt_1 hS.o ?_
    rw [h57]
    refine C.if_eq 25 dX13_cellAt_4 rfl (fun hc4 => ?_) (fun hc4 => ?_)
    · exact absurd hc4 (by decide)
    · refine C.aload_n dX13_cellAt_7 0 rfl ?_
      refine C.iload_n dX13_cellAt_8 1 rfl ?_
      refine C.iload_n dX13_cellAt_9 2 rfl ?_
      refine C.callVI lX13_426 dX13_cellAt_10 (kg_isInside hS hL (by omega) (by omega) x y) hS.o rfl rfl (Nat.le_of_ble_eq_true rfl) (Nat.zero_le _) (Nat.zero_le _) (Nat.le_of_ble_eq_true rfl) (fun x10 μ10 h10 => ?_)
      obtain ⟨hx10, hμ⟩ := h10
      subst hμ
      refine C.if_eq 25 dX13_cellAt_13 rfl (fun hc13 => ?_) (fun hc13 => ?_)
      · have hn : ¬ ((¬ x < 0 ∧ x < nI (ldH h).1.1) ∧ ¬ y < 0 ∧ y < nI (ldH h).1.2.1) := fun q => by rw [if_pos q] at hx10; rw [hx10] at hc13; exact absurd hc13 (by decide)
        have hno : (match inN x (ldH h).1.1, inN y (ldH h).1.2.1 with | some a, some b => nI (a + 7 * b) | _, _ => (-1 : Int32)) = -1 := by
          split
          · rename_i a b ha hb
            exfalso
            refine hn ⟨?_, ?_⟩
            · unfold inN at ha; split at ha; assumption; cases ha
            · unfold inN at hb; split at hb; assumption; cases hb
          · rfl
        rw [hno] at hq
        refine C.iconst (-1) dX13_cellAt_25 (by decide) ?_
        refine C.iret hq dX13_cellAt_26 ?_
        exact ⟨rfl, rfl⟩
      · have hy : (¬ x < 0 ∧ x < nI (ldH h).1.1) ∧ ¬ y < 0 ∧ y < nI (ldH h).1.2.1 := by by_cases q : ((¬ x < 0 ∧ x < nI (ldH h).1.1) ∧ ¬ y < 0 ∧ y < nI (ldH h).1.2.1); exact q; rw [if_neg q] at hx10; exact absurd hx10 hc13
        obtain ⟨a, ha, e1⟩ := in_ex (by omega) hy.1
        obtain ⟨b, hb, e2⟩ := in_ex (by omega) hy.2
        subst e1
        subst e2
        rw [inN_nI (by omega) (by omega), inN_nI (by omega) (by omega), if_pos ha, if_pos hb] at hq
        refine C.iload_n dX13_cellAt_16 1 rfl ?_
        refine C.bipush (nI 7) dX13_cellAt_17 (by decide) ?_
        refine C.iload_n dX13_cellAt_19 2 rfl ?_
        refine C.imul dX13_cellAt_20 ?_
        rw [pk_mul]
        refine C.iadd dX13_cellAt_21 ?_
        rw [nI_add]
        refine C.goto 26 dX13_cellAt_22 rfl ?_
        refine C.iret hq dX13_cellAt_26 ?_
        exact ⟨rfl, rfl⟩
  · rw [if_neg hp] at h57
    have h0 : inN x (ldH h).1.1 = none := by
      unfold inN
      rw [if_neg (fun q => ?_)]
      rw [show (ldH h).1.1 = 0 by omega] at q
      exact q.1 q.2
    rw [h0] at hq
    refine C.aload_n dX13_cellAt_0 0 rfl ?_
    refine C.getZ fX13_403 dX13_cellAt_1 hS.o ?_
    rw [h57]
    refine C.if_eq 25 dX13_cellAt_4 rfl (fun hc4 => ?_) (fun hc4 => ?_)
    · refine C.iconst (-1) dX13_cellAt_25 (by decide) ?_
      refine C.iret hq dX13_cellAt_26 ?_
      exact ⟨rfl, rfl⟩
    · exact absurd rfl hc4
theorem kr_cell (hR : RefRel μ h) (hH : HOk h) (x y z : Int32) : AMet l G 7 0 0 mtX13_cell [.ref (G.1 + 179), .int x, .int y, .int z] μ (qI (fun v μ' => v = cellA h x y z ∧ PR μ h μ')) := by
  refine AMet.of (by decide) (Nat.le_of_ble_eq_true rfl) (fun X C hX hnm hq => ?_)
  have hS := hR.1.1
  have hL := hR.2.2.2.2.1.1
  have hN := hR.2.2.2.2.2.1
  have sm := hH.1.1.sm
  have sw := hH.1.2.1
  have hr5 := two5 sw.2.1 sm.2.2.2.1
  have hat := kr_cellAt (l := l) (G := G) hR hH x y
  unfold cellA at hq
  cases hx : inN x (ldH h).1.1 with
  | none =>
    rw [hx] at hat hq
    refine C.aload_n dX13_cell_0 0 rfl ?_
    refine C.iload_n dX13_cell_1 1 rfl ?_
    refine C.iload_n dX13_cell_2 2 rfl ?_
    refine C.callVI lX13_543 dX13_cell_3 (hat) hS.o rfl rfl (Nat.le_of_ble_eq_true rfl) (Nat.zero_le _) (Nat.zero_le _) (Nat.le_of_ble_eq_true rfl) (fun x3 μ3 h3 => ?_)
    obtain ⟨rfl, hμ⟩ := h3
    subst hμ
    refine C.istore (lv' := [(0, _), (1, _), (2, _), (3, _), (4, _)]) dX13_cell_6 (nLt hX rfl) rfl ?_
    refine C.iload dX13_cell_8 4 rfl ?_
    refine C.iconst (-1) dX13_cell_10 (by decide) ?_
    refine C.icmp_eq 26 dX13_cell_11 rfl (fun hc11 => ?_) (fun hc11 => ?_)
    · refine C.iconst (-1) dX13_cell_26 (by decide) ?_
      refine C.iret hq dX13_cell_27 ?_
      exact ⟨rfl, PR.self hR⟩
    · exact absurd rfl hc11
  | some a =>
    rw [hx] at hat hq
    obtain ⟨ha, ea⟩ := inN_some (by omega) hx
    cases hy : inN y (ldH h).1.2.1 with
    | none =>
      rw [hy] at hat hq
      refine C.aload_n dX13_cell_0 0 rfl ?_
      refine C.iload_n dX13_cell_1 1 rfl ?_
      refine C.iload_n dX13_cell_2 2 rfl ?_
      refine C.callVI lX13_543 dX13_cell_3 (hat) hS.o rfl rfl (Nat.le_of_ble_eq_true rfl) (Nat.zero_le _) (Nat.zero_le _) (Nat.le_of_ble_eq_true rfl) (fun x3 μ3 h3 => ?_)
      obtain ⟨rfl, hμ⟩ := h3
      subst hμ
      refine C.istore (lv' := [(0, _), (1, _), (2, _), (3, _), (4, _)]) dX13_cell_6 (nLt hX rfl) rfl ?_
      refine C.iload dX13_cell_8 4 rfl ?_
      refine C.iconst (-1) dX13_cell_10 (by decide) ?_
      refine C.icmp_eq 26 dX13_cell_11 rfl (fun hc11 => ?_) (fun hc11 => ?_)
      · refine C.iconst (-1) dX13_cell_26 (by decide) ?_
        refine C.iret hq dX13_cell_27 ?_
        exact ⟨rfl, PR.self hR⟩
      · exact absurd rfl hc11
    | some b =>
      rw [hy] at hat hq
      obtain ⟨hb, eb⟩ := inN_some (by omega) hy
      have hW := hH.1.1.w1 (by omega)
      dsimp only at hat hq
      have hc7 : a + 7 * b < 49 := by omega
      generalize a + 7 * b = c at hat hq hc7
      refine C.aload_n dX13_cell_0 0 rfl ?_
      refine C.iload_n dX13_cell_1 1 rfl ?_
      refine C.iload_n dX13_cell_2 2 rfl ?_
      refine C.callVI lX13_543 dX13_cell_3 (hat) hS.o rfl rfl (Nat.le_of_ble_eq_true rfl) (Nat.zero_le _) (Nat.zero_le _) (Nat.le_of_ble_eq_true rfl) (fun x3 μ3 h3 => ?_)
      obtain ⟨rfl, hμ⟩ := h3
      subst hμ
      refine C.istore (lv' := [(0, _), (1, _), (2, _), (3, _), (4, _)]) dX13_cell_6 (nLt hX rfl) rfl ?_
      refine C.iload dX13_cell_8 4 rfl ?_
      refine C.iconst (-1) dX13_cell_10 (by decide) ?_
      refine C.icmp_eq 26 dX13_cell_11 rfl (fun hc11 => ?_) (fun hc11 => ?_)
      · exact absurd hc11 (n_m1 (by omega))
      · refine C.iload_n dX13_cell_14 3 rfl ?_
        refine C.i2l dX13_cell_15 ?_
        refine C.lconst (lN 0) dX13_cell_16 (by decide) ?_
        refine C.ldc2 kX13_546 dX13_cell_17 ?_
        refine C.callSI lX13_307 dX13_cell_20 (km_isIn _ _ _) rfl rfl (Nat.le_of_ble_eq_true rfl) (Nat.zero_le _) (Nat.zero_le _) (Nat.le_of_ble_eq_true rfl) (fun x20 μ20 h20 => ?_)
        obtain ⟨hx20, hμ⟩ := h20
        subst hμ
        simp only [show (2 : Int64) = lN 2 from rfl, isIn_c (n := 2) (by decide)] at hx20
        have hi := isIn_f (n := 3) (by decide) hx20
        refine C.if_ne 28 dX13_cell_23 rfl (fun hc23 => ?_) (fun hc23 => ?_)
        · obtain ⟨k, hk, e, hin⟩ := hi.2 hc23
          rw [hin] at hq
          subst e
          refine C.aload_n dX13_cell_28 0 rfl ?_
          refine C.callVV lX13_516 dX13_cell_29 (kr_rides hR hH hW) hS.o rfl rfl (Nat.le_of_ble_eq_true rfl) (Nat.zero_le _) (Nat.zero_le _) (Nat.le_of_ble_eq_true rfl) (fun μ29 h29 => ?_)
          obtain ⟨hri, hT⟩ := h29
          have hP := hR.tmR hT
          have hS : ShM μ29 := hT.sh hS
          have hL := hT.lm hL
          have hN := hN.tr hT
          refine C.iload_n dX13_cell_32 3 rfl ?_
          refine C.if_ne 53 dX13_cell_33 rfl (fun hc33 => ?_) (fun hc33 => ?_)
          · have hk0 : k ≠ 0 := fun q => hc33 (by rw [q]; rfl)
            refine C.iload_n dX13_cell_53 3 rfl ?_
            refine C.iconst (nI 1) dX13_cell_54 (by decide) ?_
            refine C.icmp_ne 81 dX13_cell_55 rfl (fun hc55 => ?_) (fun hc55 => ?_)
            · have hk1 : k ≠ 1 := n_ne hc55
              have hk2 : k = 2 := by omega
              subst hk2
              refine C.aload_n dX13_cell_81 0 rfl ?_
              refine C.iload dX13_cell_82 4 rfl ?_
              refine C.callVI lX13_548 dX13_cell_84 (kn_rode hS (by omega) hri) hS.o rfl rfl (Nat.le_of_ble_eq_true rfl) (Nat.zero_le _) (Nat.zero_le _) (Nat.le_of_ble_eq_true rfl) (fun x84 μ84 h84 => ?_)
              obtain ⟨rfl, hμ⟩ := h84
              subst hμ
              refine C.iret hq dX13_cell_87 ?_
              first | exact ⟨rfl, hP⟩ | (refine ⟨?_, hP⟩; rw [hz]; rfl)
            · have hk1 : k = 1 := n_eq (a := k) (b := 1) hc55
              subst hk1
              refine C.aload_n dX13_cell_58 0 rfl ?_
              refine C.iload dX13_cell_59 4 rfl ?_
              refine C.aload_n dX13_cell_61 0 rfl ?_
              refine C.getA fX13_151 dX13_cell_62 hS.o hS.r59 ?_
              refine C.iconst (nI 1) dX13_cell_65 (by decide) ?_
              refine C.iald hS.a59 (n_in (by decide)) dX13_cell_66 ?_
              rw [n_cl, hN.2.1]
              refine C.callVI lX13_473 dX13_cell_67 (kg_isRinging hS hL hW (by omega) (by omega)) hS.o rfl rfl (Nat.le_of_ble_eq_true rfl) (Nat.zero_le _) (Nat.zero_le _) (Nat.le_of_ble_eq_true rfl) (fun x67 μ67 h67 => ?_)
              obtain ⟨rfl, hμ⟩ := h67
              subst hμ
              refine C.if_eq 77 dX13_cell_70 rfl (fun hc70 => ?_) (fun hc70 => ?_)
              · have hz := (bI_0 _).mp hc70
                refine C.iconst (nI 0) dX13_cell_77 (by decide) ?_
                refine C.goto 87 dX13_cell_78 rfl ?_
                refine C.iret hq dX13_cell_87 ?_
                first | exact ⟨rfl, hP⟩ | (refine ⟨?_, hP⟩; rw [hz]; rfl)
              · have hz := b_t hc70
                refine C.iconst (nI 1) dX13_cell_73 (by decide) ?_
                refine C.goto 87 dX13_cell_74 rfl ?_
                refine C.iret hq dX13_cell_87 ?_
                first | exact ⟨rfl, hP⟩ | (refine ⟨?_, hP⟩; rw [hz]; rfl)
          · have hk0 : k = 0 := n_eq (b := 0) hc33
            subst hk0
            refine C.aload_n dX13_cell_36 0 rfl ?_
            refine C.iload dX13_cell_37 4 rfl ?_
            refine C.callVI lX13_470 dX13_cell_39 (kg_isChapel hS hL hW (by omega)) hS.o rfl rfl (Nat.le_of_ble_eq_true rfl) (Nat.zero_le _) (Nat.zero_le _) (Nat.le_of_ble_eq_true rfl) (fun x39 μ39 h39 => ?_)
            obtain ⟨rfl, hμ⟩ := h39
            subst hμ
            refine C.if_eq 49 dX13_cell_42 rfl (fun hc42 => ?_) (fun hc42 => ?_)
            · have hz := (bI_0 _).mp hc42
              refine C.iconst (nI 0) dX13_cell_49 (by decide) ?_
              refine C.goto 87 dX13_cell_50 rfl ?_
              refine C.iret hq dX13_cell_87 ?_
              first | exact ⟨rfl, hP⟩ | (refine ⟨?_, hP⟩; rw [hz]; rfl)
            · have hz := b_t hc42
              refine C.iconst (nI 1) dX13_cell_45 (by decide) ?_
              refine C.goto 87 dX13_cell_46 rfl ?_
              refine C.iret hq dX13_cell_87 ?_
              first | exact ⟨rfl, hP⟩ | (refine ⟨?_, hP⟩; rw [hz]; rfl)
        · rw [hi.1 hc23] at hq
          refine C.iconst (-1) dX13_cell_26 (by decide) ?_
          refine C.iret hq dX13_cell_27 ?_
          exact ⟨rfl, PR.self hR⟩
end KO2
