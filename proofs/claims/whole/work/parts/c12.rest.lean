/-! the class: rests -/
section KX5
variable {l : Launch} {G : Gm} {μ : Mm} {h : Hs} {L : Nat} {c : Lc}
def TbR (μ : Mm) (h : Hs) : Prop := ∀ s, s < 2 ^ (ldH h).2.2.1.length → mL μ 176 s = lN (trB (ldH h) (rideB h s))
theorem loss_lt (hW : Wf (ldH h)) {ride : Nat → Nat} {r b : Nat} (hb : b < (ldH h).2.2.1.length) : lossF (ldH h) ride r b < 2000 := by
  have h1 := (wf_bell hW hb).2
  have h2 := hW.2.2.2.2.2.2.1
  unfold lossF
  split <;> split <;> omega

theorem kx_atRest (hC : ClsRel μ h) (hL : CsL μ L c (ldH h)) (hH : HOk h) (hW : Wf (ldH h)) (hT : TbR μ h) {set : Nat} (hs : set < 2 ^ (ldH h).2.2.1.length) : AMet l G 1 0 0 mtX12_isAtRest [.ref (G.1 + 0), .int (nI set)] μ (qI (fun y μ' => y = bI (restP h set) ∧ μ' = μ)) := by
  refine AMet.of (by decide) (Nat.le_of_ble_eq_true rfl) (fun X C hX hnm hq => ?_)
  have hS := hC.1.1.1
  obtain ⟨hg, hR, -, -, -⟩ := hL
  have n5 := hW.2.2.1.1
  have p5 := pow5 n5
  unfold restP at hq
  generalize hF0 : (fun b => decide (lossF (ldH h) (rideB h set) set b ≤ lossF (ldH h) (rideB h (set ^^^ 2 ^ b)) (set ^^^ 2 ^ b) b)) = f at hq
  have loop : ∀ (n k : Nat), k + n = (ldH h).2.2.1.length → AW l G X 0 0 4 [(0, .ref (G.1 + 0)), (1, .int (nI set)), (2, .int (bI ((List.range k).all f))), (3, .int (nI k))] [] μ := by
    intro n
    induction n with
    | zero =>
      intro k hk
      have e : k = (ldH h).2.2.1.length := by omega
      subst e
      refine C.iload_n dX12_isAtRest_4 3 rfl ?_
      refine C.aload_n dX12_isAtRest_5 0 rfl ?_
      refine C.getO fX12_54 dX12_isAtRest_6 hS.o0 hg ?_
      refine C.getI fX12_169 dX12_isAtRest_9 hR.o ?_
      rw [hR.2.1.2.1.1]
      refine C.icmp_ge 77 dX12_isAtRest_12 rfl (fun hc12 => ?_) (fun hc12 => ?_)
      · refine C.iload_n dX12_isAtRest_77 2 rfl ?_
        refine C.zret hq dX12_isAtRest_78 (bI_z _) ?_
        exact ⟨rfl, rfl⟩
      · exact absurd (n_nle hc12) (by omega)
    | succ n ih =>
      intro k hk
      have hlt : k < (ldH h).2.2.1.length := by omega
      have hgo := ih (k + 1) (by omega)
      rw [all_succ, ← nI_1] at hgo
      have hx : set ^^^ 2 ^ k < 2 ^ (ldH h).2.2.1.length := Nat.xor_lt_two_pow hs (Nat.pow_lt_pow_right (by decide) hlt)
      have hsh : nI 1 <<< (nI k &&& 31) = nI (2 ^ k) := by rw [pk_shlN (n := 1) (nI k &&& 31) k (s_l k (by omega)) (by have := Nat.pow_lt_pow_right (a := 2) (by decide) (show k < 6 by omega); omega), Nat.one_mul]
      have l1 := loss_lt hW (ride := rideB h set) (r := set) hlt
      have l2 := loss_lt hW (ride := rideB h (set ^^^ 2 ^ k)) (r := set ^^^ 2 ^ k) hlt
      refine C.iload_n dX12_isAtRest_4 3 rfl ?_
      refine C.aload_n dX12_isAtRest_5 0 rfl ?_
      refine C.getO fX12_54 dX12_isAtRest_6 hS.o0 hg ?_
      refine C.getI fX12_169 dX12_isAtRest_9 hR.o ?_
      rw [hR.2.1.2.1.1]
      refine C.icmp_ge 77 dX12_isAtRest_12 rfl (fun hc12 => ?_) (fun hc12 => ?_)
      · exact absurd (n_le hc12) (by omega)
      · refine C.iload_n dX12_isAtRest_15 2 rfl ?_
        refine C.if_eq 77 dX12_isAtRest_16 rfl (fun hc16 => ?_) (fun hc16 => ?_)
        · have hz := (bI_0 _).mp hc16
          refine C.iload_n dX12_isAtRest_77 2 rfl ?_
          refine C.zret hq dX12_isAtRest_78 (bI_z _) ?_
          exact ⟨by rw [hz, all_f (k := k) (n := (ldH h).2.2.1.length) (by omega) hz], rfl⟩
        · have hz := b_t hc16
          rw [hz, Bool.true_and] at hgo
          have ef : f k = decide (lossF (ldH h) (rideB h set) set k ≤ lossF (ldH h) (rideB h (set ^^^ 2 ^ k)) (set ^^^ 2 ^ k) k) := by rw [← hF0]
          rw [ef] at hgo
          refine C.iload_n dX12_isAtRest_19 1 rfl ?_
          refine C.iconst (nI 1) dX12_isAtRest_20 (by decide) ?_
          refine C.iload_n dX12_isAtRest_21 3 rfl ?_
          refine C.ishl dX12_isAtRest_22 ?_
          rw [hsh]
          refine C.ixor dX12_isAtRest_23 ?_
          rw [fb_xorI]
          refine C.istore (lv' := [(0, _), (1, _), (2, _), (3, _), (4, _)]) dX12_isAtRest_24 (nLt hX rfl) rfl ?_
          refine C.aload_n dX12_isAtRest_26 0 rfl ?_
          refine C.getO fX12_54 dX12_isAtRest_27 hS.o0 hg ?_
          refine C.iload_n dX12_isAtRest_30 3 rfl ?_
          refine C.iload_n dX12_isAtRest_31 1 rfl ?_
          refine C.aload_n dX12_isAtRest_32 0 rfl ?_
          refine C.getA fX12_101 dX12_isAtRest_33 hS.o0 hS.r0_12 ?_
          refine C.iload_n dX12_isAtRest_36 1 rfl ?_
          refine C.lald hS.a176 (n_in (by omega)) dX12_isAtRest_37 ?_
          rw [n_cl (by omega), hT set hs]
          refine C.callVI lX12_246 dX12_isAtRest_38 (kl_lossOf (ride := rideB h set) hR hW (by omega) hlt (fun j _ => rideB_ok hW set j)) hR.o rfl rfl (Nat.le_of_ble_eq_true rfl) (Nat.zero_le _) (Nat.zero_le _) (Nat.le_of_ble_eq_true rfl) (fun x38 μ38 h38 => ?_)
          obtain ⟨rfl, hμ⟩ := h38
          subst hμ
          refine C.istore (lv' := [(0, _), (1, _), (2, _), (3, _), (4, _), (5, _)]) dX12_isAtRest_41 (nLt hX rfl) rfl ?_
          refine C.iload dX12_isAtRest_43 5 rfl ?_
          refine C.aload_n dX12_isAtRest_45 0 rfl ?_
          refine C.getO fX12_54 dX12_isAtRest_46 hS.o0 hg ?_
          refine C.iload_n dX12_isAtRest_49 3 rfl ?_
          refine C.iload dX12_isAtRest_50 4 rfl ?_
          refine C.aload_n dX12_isAtRest_52 0 rfl ?_
          refine C.getA fX12_101 dX12_isAtRest_53 hS.o0 hS.r0_12 ?_
          refine C.iload dX12_isAtRest_56 4 rfl ?_
          refine C.lald hS.a176 (n_in (by omega)) dX12_isAtRest_58 ?_
          rw [n_cl (by omega), hT _ hx]
          refine C.callVI lX12_246 dX12_isAtRest_59 (kl_lossOf (ride := rideB h (set ^^^ 2 ^ k)) hR hW (by omega) hlt (fun j _ => rideB_ok hW (set ^^^ 2 ^ k) j)) hR.o rfl rfl (Nat.le_of_ble_eq_true rfl) (Nat.zero_le _) (Nat.zero_le _) (Nat.le_of_ble_eq_true rfl) (fun x59 μ59 h59 => ?_)
          obtain ⟨rfl, hμ⟩ := h59
          subst hμ
          refine C.icmp_gt 69 dX12_isAtRest_62 rfl (fun hc62 => ?_) (fun hc62 => ?_)
          · refine C.iconst (nI 0) dX12_isAtRest_69 (by decide) ?_
            refine C.istore_n (lv' := [(0, _), (1, _), (2, _), (3, _), (4, _), (5, _)]) dX12_isAtRest_70 (nLt hX rfl) rfl ?_
            refine C.iinc (lv' := [(0, _), (1, _), (2, _), (3, _), (4, _), (5, _)]) _ dX12_isAtRest_71 3 rfl rfl (nLt hX rfl) rfl ?_
            refine C.goto 4 dX12_isAtRest_74 rfl ?_
            first | (rw [decide_eq_false (by have := n_lt hc62 (by omega) (by omega); omega)] at hgo; exact AW.pick [0, 1, 2, 3] rfl hgo) | (rw [decide_eq_true (n_nlt hc62 (by omega) (by omega))] at hgo; exact AW.pick [0, 1, 2, 3] rfl hgo)
          · refine C.iconst (nI 1) dX12_isAtRest_65 (by decide) ?_
            refine C.goto 70 dX12_isAtRest_66 rfl ?_
            refine C.istore_n (lv' := [(0, _), (1, _), (2, _), (3, _), (4, _), (5, _)]) dX12_isAtRest_70 (nLt hX rfl) rfl ?_
            refine C.iinc (lv' := [(0, _), (1, _), (2, _), (3, _), (4, _), (5, _)]) _ dX12_isAtRest_71 3 rfl rfl (nLt hX rfl) rfl ?_
            refine C.goto 4 dX12_isAtRest_74 rfl ?_
            first | (rw [decide_eq_false (by have := n_lt hc62 (by omega) (by omega); omega)] at hgo; exact AW.pick [0, 1, 2, 3] rfl hgo) | (rw [decide_eq_true (n_nlt hc62 (by omega) (by omega))] at hgo; exact AW.pick [0, 1, 2, 3] rfl hgo)
  refine C.iconst (nI 1) dX12_isAtRest_0 (by decide) ?_
  refine C.istore_n (lv' := [(0, _), (1, _), (2, _)]) dX12_isAtRest_1 (nLt hX rfl) rfl ?_
  refine C.iconst (nI 0) dX12_isAtRest_2 (by decide) ?_
  refine C.istore_n (lv' := [(0, _), (1, _), (2, _), (3, _)]) dX12_isAtRest_3 (nLt hX rfl) rfl ?_
  exact loop _ 0 (Nat.zero_add _)
theorem kx_rest (hC : ClsRel μ h) (hH : HOk h) : AMet l G 5 0 0 mtX12_rest [.ref (G.1 + 0)] μ (qI (fun x μ' => x = restA h ∧ PX μ h μ')) := by
  refine AMet.of (by decide) (Nat.le_of_ble_eq_true rfl) (fun X C hX hnm hq => ?_)
  have hS := hC.1.1.1
  obtain ⟨L, c, hL⟩ := hC.2.2.2
  have hg := hL.1
  have hR := hL.2.1
  have hd7 := hH.d7
  have p5 := pow5 hd7.2.2.2.2.1
  unfold restA at hq
  have main : 0 < (ldH h).1.1 → MR G X (qI (fun x μ' => x = opI (selL (restP h) (2 ^ (ldH h).2.2.1.length) 0 none) ∧ PX μ h μ')) → AW l G X 0 0 12 [(0, .ref (G.1 + 0))] [] μ := by
    clear hq
    intro hp hq
    have hW := hH.wfP hp
    have hSW := hH.1.2.1
    generalize hK : selL (restP h) (2 ^ (ldH h).2.2.1.length) 0 none = K at hq
    have loop : ∀ (μ1 : Mm), QX μ h L c μ1 → TbR μ1 h → ∀ (j k : Nat) (b : Option Nat), k + j = 2 ^ (ldH h).2.2.1.length → selL (restP h) j k b = K → (∀ x, b = some x → x < 32) → AW l G X 0 0 89 [(0, .ref (G.1 + 0)), (1, .int (nI (2 ^ (ldH h).2.2.1.length))), (2, .int (opI b)), (3, .int (nI (fewN b))), (4, .int (nI k))] [] μ1 := by
      intro μ1 hQ hT j
      have hS := hQ.1.1.1.1.1
      have hg := hQ.2.1
      have hR := hQ.2.2.1
      induction j with
      | zero =>
        intro k b hk hv hb
        refine C.iload dX12_rest_89 4 rfl ?_
        refine C.iload_n dX12_rest_91 1 rfl ?_
        refine C.icmp_ge 128 dX12_rest_92 rfl (fun hc92 => ?_) (fun hc92 => ?_)
        · refine C.iload_n dX12_rest_128 2 rfl ?_
          refine C.iret hq dX12_rest_129 ?_
          exact ⟨by rw [← hv]; rfl, hQ.1⟩
        · have := n_nle hc92; omega
      | succ j ih =>
        intro k b hk hv hb
        have hk32 : k < 32 := by omega
        have hkk : k < 2 ^ (ldH h).2.2.1.length := by omega
        have hfw := fewN_le b
        have hpk := popN_5 k
        have hbt := betB_few b k
        unfold selL at hv
        have nxt : ∀ (b2 : Option Nat), b2 = selS (restP h) b k → AW l G X 0 0 122 [(0, .ref (G.1 + 0)), (1, .int (nI (2 ^ (ldH h).2.2.1.length))), (2, .int (opI b2)), (3, .int (nI (fewN b2))), (4, .int (nI k))] [] μ1 := by
          intro b2 e
          subst e
          refine C.iinc (lv' := [(0, _), (1, _), (2, _), (3, _), (4, _)]) _ dX12_rest_122 4 rfl rfl (nLt hX rfl) rfl ?_
          refine C.goto 89 dX12_rest_125 rfl ?_
          have hgo := ih (k + 1) _ (by omega) hv (selS_lt hb hk32)
          rw [← nI_1] at hgo
          exact hgo
        refine C.iload dX12_rest_89 4 rfl ?_
        refine C.iload_n dX12_rest_91 1 rfl ?_
        refine C.icmp_ge 128 dX12_rest_92 rfl (fun hc92 => ?_) (fun hc92 => ?_)
        · have := n_le hc92; omega
        · refine C.iload dX12_rest_95 4 rfl ?_
          refine C.callSI lX12_181 dX12_rest_97 (kj_bitsI hk32) rfl rfl (Nat.le_of_ble_eq_true rfl) (Nat.zero_le _) (Nat.zero_le _) (Nat.le_of_ble_eq_true rfl) (fun x97 μ97 h97 => ?_)
          obtain ⟨rfl, hμ⟩ := h97
          subst hμ
          refine C.iload_n dX12_rest_100 3 rfl ?_
          refine C.icmp_ge 122 dX12_rest_101 rfl (fun hc101 => ?_) (fun hc101 => ?_)
          · have hge := n_le hc101
            exact nxt b (selS_1 (by rw [hbt, decide_eq_false (by omega)])).symm
          · have hlt := n_nle hc101
            rw [decide_eq_true hlt] at hbt
            refine C.aload_n dX12_rest_104 0 rfl ?_
            refine C.iload dX12_rest_105 4 rfl ?_
            refine C.callVI lX12_300 dX12_rest_107 (kx_atRest hQ.1.1 hQ.2 hH hW hT hkk) hS.o0 rfl rfl (Nat.le_of_ble_eq_true rfl) (Nat.zero_le _) (Nat.zero_le _) (Nat.le_of_ble_eq_true rfl) (fun x107 μ107 h107 => ?_)
            obtain ⟨rfl, hμ⟩ := h107
            subst hμ
            refine C.if_eq 122 dX12_rest_110 rfl (fun hc110 => ?_) (fun hc110 => ?_)
            · exact nxt b (selS_2 ((bI_0 _).mp hc110)).symm
            · refine C.iload dX12_rest_113 4 rfl ?_
              refine C.istore_n (lv' := [(0, _), (1, _), (2, _), (3, _), (4, _)]) dX12_rest_115 (nLt hX rfl) rfl ?_
              refine C.iload dX12_rest_116 4 rfl ?_
              refine C.callSI lX12_181 dX12_rest_118 (kj_bitsI hk32) rfl rfl (Nat.le_of_ble_eq_true rfl) (Nat.zero_le _) (Nat.zero_le _) (Nat.le_of_ble_eq_true rfl) (fun x118 μ118 h118 => ?_)
              obtain ⟨rfl, hμ⟩ := h118
              subst hμ
              refine C.istore_n (lv' := [(0, _), (1, _), (2, _), (3, _), (4, _)]) dX12_rest_121 (nLt hX rfl) rfl ?_
              exact nxt (some k) (selS_p hbt (b_t hc110)).symm
    have fill : ∀ (n k : Nat) (μ1 : Mm), k + n = 2 ^ (ldH h).2.2.1.length → QX μ h L c μ1 → (∀ s, s < k → mL μ1 176 s = lN (trB (ldH h) (rideB h s))) → AW l G X 0 0 24 [(0, .ref (G.1 + 0)), (1, .int (nI (2 ^ (ldH h).2.2.1.length))), (2, .int (nI k))] [] μ1 := by
      intro n
      induction n with
      | zero =>
        intro k μ1 hk hQ hT
        refine C.iload_n dX12_rest_24 2 rfl ?_
        refine C.iload_n dX12_rest_25 1 rfl ?_
        refine C.icmp_ge 81 dX12_rest_26 rfl (fun hc26 => ?_) (fun hc26 => ?_)
        · refine C.iconst (-1) dX12_rest_81 (by decide) ?_
          refine C.istore_n (lv' := [(0, _), (1, _), (2, _)]) dX12_rest_82 (nLt hX rfl) rfl ?_
          refine C.bipush (nI 6) dX12_rest_83 (by decide) ?_
          refine C.istore_n (lv' := [(0, _), (1, _), (2, _), (3, _)]) dX12_rest_85 (nLt hX rfl) rfl ?_
          refine C.iconst (nI 0) dX12_rest_86 (by decide) ?_
          refine C.istore (lv' := [(0, _), (1, _), (2, _), (3, _), (4, _)]) dX12_rest_87 (nLt hX rfl) rfl ?_
          exact loop μ1 hQ (fun s hs => hT s (by omega)) _ 0 none (Nat.zero_add _) hK (fun x q => by cases q)
        · have := n_nle hc26; omega
      | succ n ih =>
        intro k μ1 hk hQ hT
        have hS := hQ.1.1.1.1.1
        have hN := hQ.1.1.2.1.1
        have hg := hQ.2.1
        have hR := hQ.2.2.1
        have hk2 := hQ.2.2.2.2.1
        refine C.iload_n dX12_rest_24 2 rfl ?_
        refine C.iload_n dX12_rest_25 1 rfl ?_
        refine C.icmp_ge 81 dX12_rest_26 rfl (fun hc26 => ?_) (fun hc26 => ?_)
        · have := n_le hc26; omega
        · refine C.aload_n dX12_rest_29 0 rfl ?_
          refine C.getO fX12_67 dX12_rest_30 hS.o0 hS.r0_5 ?_
          refine C.aload_n dX12_rest_33 0 rfl ?_
          refine C.getO fX12_54 dX12_rest_34 hS.o0 hg ?_
          refine C.aload_n dX12_rest_37 0 rfl ?_
          refine C.getO fX12_54 dX12_rest_38 hS.o0 hg ?_
          refine C.iload_n dX12_rest_41 2 rfl ?_
          refine C.callVL lX12_291 dX12_rest_42 (kl_closedBy hR hW (by omega)) hR.o rfl rfl (Nat.le_of_ble_eq_true rfl) (Nat.zero_le _) (Nat.zero_le _) (Nat.le_of_ble_eq_true rfl) (fun x42 μ42 h42 => ?_)
          obtain ⟨rfl, hμ⟩ := h42
          subst hμ
          refine C.aload_n dX12_rest_45 0 rfl ?_
          refine C.getO fX12_54 dX12_rest_46 hS.o0 hg ?_
          refine C.getI fX12_294 dX12_rest_49 hR.o ?_
          rw [hR.2.1.1.2.2]
          refine C.aload_n dX12_rest_52 0 rfl ?_
          refine C.getO fX12_80 dX12_rest_53 hS.o0 hS.r0_7 ?_
          refine C.getI fX12_175 dX12_rest_56 hS.o40 ?_
          rw [hN.1.1]
          refine C.callVV lX12_296 dX12_rest_59 (kd_go hS (by omega) hR hW hk2 (clos_lt hW none _) hW.1.2.2.2.2 hSW.1) hS.o35 rfl rfl (Nat.le_of_ble_eq_true rfl) (Nat.zero_le _) (Nat.zero_le _) (Nat.le_of_ble_eq_true rfl) (fun μ59 h59 => ?_)
          obtain ⟨⟨r1, r2, r3, r4, r5⟩, hF⟩ := h59
          rw [rideB_x hW] at r2 r3
          have hQ2 : QX μ h L c μ59 := ⟨hQ.1.trans (hQ.1.1.ride hQ.2 (by omega) hF r5), hQ.2.ride (by omega) hF r5⟩
          have hS : ShC μ59 := hQ2.1.1.1.1.1
          refine C.aload_n dX12_rest_62 0 rfl ?_
          refine C.getA fX12_101 dX12_rest_63 hS.o0 hS.r0_12 ?_
          refine C.iload_n dX12_rest_66 2 rfl ?_
          refine C.aload_n dX12_rest_67 0 rfl ?_
          refine C.getO fX12_67 dX12_rest_68 hS.o0 hS.r0_5 ?_
          refine C.getL fX12_243 dX12_rest_71 hS.o35 ?_
          rw [r3]
          refine C.last hS.a176 (n_in (by omega)) dX12_rest_74 ?_
          rw [n_cl (by omega)]
          refine C.iinc (lv' := [(0, _), (1, _), (2, _)]) _ dX12_rest_75 2 rfl rfl (nLt hX rfl) rfl ?_
          refine C.goto 24 dX12_rest_78 rfl ?_
          have sc : ScF μ59 (sL μ59 176 k (lN (trB (ldH h) (rideB h k)))) := ⟨rfl, fun _ _ _ => rfl, fun a j q => by rw [mL_sL, if_neg (by unfold scL at q; omega)], fun _ _ _ => rfl⟩
          have hL3 : CsL (sL μ59 176 k (lN (trB (ldH h) (rideB h k)))) L c (ldH h) := ⟨hQ2.2.1, sc.ld hQ2.2.2.1, hQ2.2.2.2.1.of (Nat.le_refl _) rfl (fun j => by rw [mL_sL, if_neg (by omega)]) (fun _ _ _ => rfl), hQ2.2.2.2.2.1.of (Nat.le_refl _) rfl (fun j => by rw [mL_sL, if_neg (by omega)]) (fun _ _ _ => rfl), hQ2.2.2.2.2.2.of (Nat.le_refl _) rfl (fun j => by rw [mL_sL, if_neg (by omega)]) (fun _ _ _ => rfl)⟩
          have hgo := ih (k + 1) _ (by omega) ⟨hQ2.1.trans (hQ2.1.1.sc sc ⟨L, c, hL3⟩), hL3⟩ (fun s hs => by
            rw [mL_sL]
            by_cases q : s = k
            · rw [if_pos ⟨rfl, q⟩, q]
            · rw [if_neg (fun z => q z.2), hF.2.2.1 176 s (by omega)]; exact hT s (by omega))
          rw [← nI_1] at hgo
          exact hgo
    refine C.iconst (nI 1) dX12_rest_12 (by decide) ?_
    refine C.aload_n dX12_rest_13 0 rfl ?_
    refine C.getO fX12_54 dX12_rest_14 hS.o0 hg ?_
    refine C.getI fX12_169 dX12_rest_17 hR.o ?_
    rw [hR.2.1.2.1.1]
    refine C.ishl dX12_rest_20 ?_
    rw [shl1 hd7.2.2.2.2.1]
    refine C.istore_n (lv' := [(0, _), (1, _)]) dX12_rest_21 (nLt hX rfl) rfl ?_
    refine C.iconst (nI 0) dX12_rest_22 (by decide) ?_
    refine C.istore_n (lv' := [(0, _), (1, _), (2, _)]) dX12_rest_23 (nLt hX rfl) rfl ?_
    exact fill _ 0 μ (Nat.zero_add _) ⟨hC.self, hL⟩ (fun s hs => absurd hs (by omega))
  refine C.aload_n dX12_rest_0 0 rfl ?_
  refine C.getO fX12_54 dX12_rest_1 hS.o0 hg ?_
  refine C.callVI lX12_271 dX12_rest_4 (kl_stands hR.o hR.2.1.1.1 (by omega)) hR.o rfl rfl (Nat.le_of_ble_eq_true rfl) (Nat.zero_le _) (Nat.zero_le _) (Nat.le_of_ble_eq_true rfl) (fun x4 μ4 h4 => ?_)
  obtain ⟨rfl, hμ⟩ := h4
  subst hμ
  refine C.if_ne 12 dX12_rest_7 rfl (fun hc7 => ?_) (fun hc7 => ?_)
  · have hp : 0 < (ldH h).1.1 := of_decide_eq_true (b_t hc7)
    rw [if_pos hp] at hq
    exact main hp hq
  · have h0 : ¬ 0 < (ldH h).1.1 := of_decide_eq_false ((bI_0 _).mp hc7)
    rw [if_neg h0] at hq
    refine C.iconst (-1) dX12_rest_10 (by decide) ?_
    refine C.iret hq dX12_rest_11 ?_
    exact ⟨rfl, hC.self⟩
end KX5
