/-! the class: began, tells -/
section TLP2
variable {h : Hs}
theorem mxF_ge {f : Nat → Nat} {c : Nat} : ∀ n, c < n → f c ≤ mxF f n
  | 0, q => absurd q (Nat.not_lt_zero c)
  | n + 1, q => by
    unfold mxF
    by_cases e : c = n
    · subst e; exact Nat.le_max_right _ _
    · exact Nat.le_trans (mxF_ge n (by omega)) (Nat.le_max_left _ _)
theorem mxF_cong {f g : Nat → Nat} : ∀ n, (∀ c, c < n → f c = g c) → mxF f n = mxF g n
  | 0, _ => rfl
  | n + 1, q => by unfold mxF; rw [mxF_cong n (fun c hc => q c (by omega)), q n (by omega)]
theorem mxF_upd {f g : Nat → Nat} {c : Nat} (he : ∀ x, x ≠ c → g x = f x) (hg : f c ≤ g c) : ∀ n, c < n → mxF g n = max (mxF f n) (g c)
  | 0, q => absurd q (Nat.not_lt_zero c)
  | n + 1, q => by
    unfold mxF
    by_cases e : c = n
    · subst e
      rw [mxF_cong c (fun x hx => he x (by omega))]
      omega
    · rw [mxF_upd he hg n (by omega), he n (fun z => e z.symm)]
      omega
theorem mxF_0 {f : Nat → Nat} (q : ∀ c, f c = 0) : ∀ n, mxF f n = 0
  | 0 => rfl
  | n + 1 => by unfold mxF; rw [mxF_0 q n, q n]; rfl
theorem tlC_s (i hr c : Nat) : tlC h (i + 1) hr c = tlC h i hr c + (if canB h i && decide (rK h i hr = c) then 1 else 0) := cnt_succ
theorem tlC_le (m hr c : Nat) : tlC h m hr c ≤ tlN h m := by
  unfold tlC tlN
  apply List.countP_mono_left
  intro x _ hx
  rw [Bool.and_eq_true] at hx
  exact hx.1
theorem tellM_le (hr : Nat) : tellM h hr ≤ (ldH h).1.1 * (ldH h).1.2.1 := mxF_le (fun c => cnt_le) 49
theorem tellM_0 (q : tlN h ((ldH h).1.1 * (ldH h).1.2.1) = 0) (hr : Nat) : tellM h hr = 0 := mxF_0 (fun c => by have := tlC_le (h := h) ((ldH h).1.1 * (ldH h).1.2.1) hr c; omega) 49
theorem tellM_1 (q : 0 < tlN h ((ldH h).1.1 * (ldH h).1.2.1)) (hr : Nat) (h49 : ∀ k, k < (ldH h).1.1 * (ldH h).1.2.1 → rK h k hr < 49) : 1 ≤ tellM h hr := by
  unfold tlN at q
  rw [List.countP_pos_iff] at q
  obtain ⟨k, hk, hc⟩ := q
  have hk := List.mem_range.mp hk
  refine Nat.le_trans ?_ (mxF_ge 49 (h49 k hk))
  unfold tlC
  refine List.countP_pos_iff.mpr ⟨k, List.mem_range.mpr hk, ?_⟩
  rw [hc, decide_eq_true rfl]
  rfl
theorem hrL_stay {f : Nat → Nat} {b v : Nat} (hv : ∀ k, v ≤ f k) : ∀ n k, hrL f n k (some b, v) = (some b, v)
  | 0, _ => rfl
  | n + 1, k => by
    unfold hrL hrS
    rw [if_pos ⟨(fun z => by cases z), hv k⟩]
    exact hrL_stay hv n (k + 1)
end TLP2
section KXB
variable {l : Launch} {G : Gm} {μ0 μ : Mm} {h : Hs} {L : Nat} {c : Lc}

theorem kx_canBegin (hQ : QX μ0 h L c μ) (hH : HOk h) (hW : Wf (ldH h)) {k : Nat} (hk : k < nC (ldH h)) : AMet l G 5 0 0 mtX12_canHaveBegun [.ref (G.1 + 0), .int (nI k)] μ (qI (fun z μ' => z = bI (canB h k) ∧ QX μ0 h L c μ' ∧ (∀ j, mI μ' 175 j = mI μ 175 j) ∧ (canB h k = true → ∀ i, i < 12 → mI μ' 36 i = nI (kC (ldH h) (rK h k i))))) := by
  refine AMet.of (by decide) (Nat.le_of_ble_eq_true rfl) (fun X C hX hnm hq => ?_)
  obtain ⟨hPX, hL⟩ := hQ
  have hC := hPX.1
  have hS := hC.1.1.1
  have hN := hC.2.1.1
  have hSW := hH.1.2.1
  obtain ⟨hg, hR, hk1, hk2, hk3⟩ := id hL
  have h49 := hW.n49
  have hcl := cK_okL hW.w7.2 hk
  have ekc := kC_cK hW.w7.2 hk
  have hch : chB (ldH h) < 2 ^ 49 := bsF_49 h49.2
  have hr32 : (stH h).1.2 < 32 := two5 hSW.2.1 hW.2.2.1.1
  have hbt : (chB (ldH h)).testBit k = decide (cK (ldH h) k ∈ (ldH h).2.1) := by unfold chB; rw [bsF_tb, decide_eq_true hk, Bool.true_and]
  obtain ⟨w12, wok⟩ := hH.1.2.2.2.1
  unfold canB at hq
  have loop : ∀ (μ1 : Mm), QX μ0 h L c μ1 → (∀ j, mI μ1 175 j = mI μ 175 j) → ¬ cK (ldH h) k ∈ (ldH h).2.1 → (∀ i, i < 12 → mI μ1 36 i = nI (kC (ldH h) (rK h k i))) → ∀ (j i : Nat) (b : Bool), i + j = (rwH h).length → ((rwH h).take i).all (fun r => decide (rK h k r.1 = r.2)) = b → AW l G X 0 0 54 [(0, .ref (G.1 + 0)), (1, .int (nI k)), (2, .int (bI b)), (3, .int (nI i))] [] μ1 := by
    intro μ1 hQ1 h175 hno hri j
    rw [decide_eq_false hno] at hq
    have hS := hQ1.1.1.1.1.1
    have hCW := hQ1.1.1.2.2.1.1
    induction j with
    | zero =>
      intro i b hi hb
      rw [List.take_of_length_le (by omega)] at hb
      refine C.iload_n dX12_canHaveBegun_54 3 rfl ?_
      refine C.aload_n dX12_canHaveBegun_55 0 rfl ?_
      refine C.getI fX12_144 dX12_canHaveBegun_56 hS.o0 ?_
      rw [hCW.1]
      refine C.icmp_ge 107 dX12_canHaveBegun_59 rfl (fun hc59 => ?_) (fun hc59 => ?_)
      · refine C.iload_n dX12_canHaveBegun_107 2 rfl ?_
        refine C.zret hq dX12_canHaveBegun_108 (bI_z _) ?_
        exact ⟨by rw [hb]; rfl, hQ1, h175, fun _ => hri⟩
      · exact absurd (n_nle hc59 (by omega) (by omega)) (by omega)
    | succ j ih =>
      intro i b hi hb
      have hlt : i < (rwH h).length := by omega
      have hg := List.getElem?_eq_getElem hlt
      generalize (rwH h)[i] = r at hg
      obtain ⟨w1, w2⟩ := hCW.2 i r hg
      obtain ⟨r1, r2⟩ := wok r (List.mem_of_getElem? hg)
      refine C.iload_n dX12_canHaveBegun_54 3 rfl ?_
      refine C.aload_n dX12_canHaveBegun_55 0 rfl ?_
      refine C.getI fX12_144 dX12_canHaveBegun_56 hS.o0 ?_
      rw [hCW.1]
      refine C.icmp_ge 107 dX12_canHaveBegun_59 rfl (fun hc59 => ?_) (fun hc59 => ?_)
      · exact absurd (n_le hc59 (by omega) (by omega)) (by omega)
      · refine C.iload_n dX12_canHaveBegun_62 2 rfl ?_
        refine C.if_eq 107 dX12_canHaveBegun_63 rfl (fun hc63 => ?_) (fun hc63 => ?_)
        · have hz := (bI_0 _).mp hc63
          have hz2 : (rwH h).all (fun r => decide (rK h k r.1 = r.2)) = false := by
            rw [← List.take_append_drop i (rwH h), List.all_append, hb, hz]
            rfl
          refine C.iload_n dX12_canHaveBegun_107 2 rfl ?_
          refine C.zret hq dX12_canHaveBegun_108 (bI_z _) ?_
          exact ⟨by rw [hz2, hz]; rfl, hQ1, h175, fun _ => hri⟩
        · have hz := b_t hc63
          refine C.aload_n dX12_canHaveBegun_66 0 rfl ?_
          refine C.getO fX12_67 dX12_canHaveBegun_67 hS.o0 hS.r0_5 ?_
          refine C.getA fX12_275 dX12_canHaveBegun_70 hS.o35 hS.r35_0 ?_
          refine C.aload_n dX12_canHaveBegun_73 0 rfl ?_
          refine C.getA fX12_94 dX12_canHaveBegun_74 hS.o0 hS.r0_10 ?_
          refine C.iload_n dX12_canHaveBegun_77 3 rfl ?_
          refine C.iconst (nI 2) dX12_canHaveBegun_78 (by decide) ?_
          refine C.imul dX12_canHaveBegun_79 ?_
          rw [pk_mul, Nat.mul_comm i 2]
          refine C.iald hS.a174 (n_in (by omega)) dX12_canHaveBegun_80 ?_
          rw [n_cl, w1]
          refine C.iald hS.a36 (n_in (by omega)) dX12_canHaveBegun_81 ?_
          rw [n_cl, hri r.1 r1]
          refine C.aload_n dX12_canHaveBegun_82 0 rfl ?_
          refine C.getA fX12_94 dX12_canHaveBegun_83 hS.o0 hS.r0_10 ?_
          refine C.iload_n dX12_canHaveBegun_86 3 rfl ?_
          refine C.iconst (nI 2) dX12_canHaveBegun_87 (by decide) ?_
          refine C.imul dX12_canHaveBegun_88 ?_
          refine C.iconst (nI 1) dX12_canHaveBegun_89 (by decide) ?_
          refine C.iadd dX12_canHaveBegun_90 ?_
          rw [pk_mul, Nat.mul_comm i 2, nI_add]
          refine C.iald hS.a174 (n_in (by omega)) dX12_canHaveBegun_91 ?_
          rw [n_cl, w2]
          refine C.icmp_ne 99 dX12_canHaveBegun_92 rfl (fun hc92 => ?_) (fun hc92 => ?_)
          · have hd : decide (rK h k r.1 = r.2) = false := decide_eq_false (fun z => hc92 (by rw [z]))
            refine C.iconst (nI 0) dX12_canHaveBegun_99 (by decide) ?_
            refine C.istore_n (lv' := [(0, _), (1, _), (2, _), (3, _)]) dX12_canHaveBegun_100 (nLt hX rfl) rfl ?_
            refine C.iinc (lv' := [(0, _), (1, _), (2, _), (3, _)]) _ dX12_canHaveBegun_101 3 rfl rfl (nLt hX rfl) rfl ?_
            refine C.goto 54 dX12_canHaveBegun_104 rfl ?_
            rw [show ∀ z, nI z + Int32.ofInt 1 = nI (z + 1) from fun z => nI_1 z]
            have hv : ((rwH h).take (i + 1)).all (fun r => decide (rK h k r.1 = r.2)) = decide (rK h k r.1 = r.2) := by
              rw [List.take_add_one, hg, List.all_append, hb, hz]
              show (true && (decide (rK h k r.1 = r.2) && true)) = _
              rw [Bool.true_and, Bool.and_true]
            exact ih (i + 1) _ (by omega) (hv.trans hd)
          · have hk1 := kC_lt (rF_ok (cl := cls (ldH h) none (stH h).1.2) (night := (stH h).1.1) hW hcl r.1)
            have hk2 := kC_lt r2
            have hd : decide (rK h k r.1 = r.2) = true := decide_eq_true (kC_inj (rF_ok hW hcl r.1) r2 (n_eq hc92 (by unfold rK; omega) (by omega)))
            refine C.iconst (nI 1) dX12_canHaveBegun_95 (by decide) ?_
            refine C.goto 100 dX12_canHaveBegun_96 rfl ?_
            refine C.istore_n (lv' := [(0, _), (1, _), (2, _), (3, _)]) dX12_canHaveBegun_100 (nLt hX rfl) rfl ?_
            refine C.iinc (lv' := [(0, _), (1, _), (2, _), (3, _)]) _ dX12_canHaveBegun_101 3 rfl rfl (nLt hX rfl) rfl ?_
            refine C.goto 54 dX12_canHaveBegun_104 rfl ?_
            rw [show ∀ z, nI z + Int32.ofInt 1 = nI (z + 1) from fun z => nI_1 z]
            have hv : ((rwH h).take (i + 1)).all (fun r => decide (rK h k r.1 = r.2)) = decide (rK h k r.1 = r.2) := by
              rw [List.take_add_one, hg, List.all_append, hb, hz]
              show (true && (decide (rK h k r.1 = r.2) && true)) = _
              rw [Bool.true_and, Bool.and_true]
            exact ih (i + 1) _ (by omega) (hv.trans hd)
  refine C.aload_n dX12_canHaveBegun_0 0 rfl ?_
  refine C.getO fX12_54 dX12_canHaveBegun_1 hS.o0 hg ?_
  refine C.getL fX12_159 dX12_canHaveBegun_4 hR.o ?_
  rw [hR.2.2.1.1]
  refine C.iload_n dX12_canHaveBegun_7 1 rfl ?_
  refine C.callSI lX12_216 dX12_canHaveBegun_8 (kc_bitOf (by omega) (by omega)) rfl rfl (Nat.le_of_ble_eq_true rfl) (Nat.zero_le _) (Nat.zero_le _) (Nat.le_of_ble_eq_true rfl) (fun x8 μ8 h8 => ?_)
  obtain ⟨rfl, hμ⟩ := h8
  subst hμ
  rw [hbt]
  refine C.iconst (nI 1) dX12_canHaveBegun_11 (by decide) ?_
  refine C.icmp_ne 17 dX12_canHaveBegun_12 rfl (fun hc12 => ?_) (fun hc12 => ?_)
  · have hno : ¬ cK (ldH h) k ∈ (ldH h).2.1 := fun z => by rw [decide_eq_true z] at hc12; exact absurd rfl hc12
    refine C.aload_n dX12_canHaveBegun_17 0 rfl ?_
    refine C.getO fX12_67 dX12_canHaveBegun_18 hS.o0 hS.r0_5 ?_
    refine C.aload_n dX12_canHaveBegun_21 0 rfl ?_
    refine C.getO fX12_54 dX12_canHaveBegun_22 hS.o0 hg ?_
    refine C.aload_n dX12_canHaveBegun_25 0 rfl ?_
    refine C.getO fX12_54 dX12_canHaveBegun_26 hS.o0 hg ?_
    refine C.aload_n dX12_canHaveBegun_29 0 rfl ?_
    refine C.getO fX12_80 dX12_canHaveBegun_30 hS.o0 hS.r0_7 ?_
    refine C.getI fX12_178 dX12_canHaveBegun_33 hS.o40 ?_
    rw [hN.1.2]
    refine C.callVL lX12_291 dX12_canHaveBegun_36 (kl_closedBy hR hW (by omega)) hR.o rfl rfl (Nat.le_of_ble_eq_true rfl) (Nat.zero_le _) (Nat.zero_le _) (Nat.le_of_ble_eq_true rfl) (fun x36 μ36 h36 => ?_)
    obtain ⟨rfl, hμ⟩ := h36
    subst hμ
    refine C.iload_n dX12_canHaveBegun_39 1 rfl ?_
    refine C.aload_n dX12_canHaveBegun_40 0 rfl ?_
    refine C.getO fX12_80 dX12_canHaveBegun_41 hS.o0 hS.r0_7 ?_
    refine C.getI fX12_175 dX12_canHaveBegun_44 hS.o40 ?_
    rw [hN.1.1]
    refine C.callVV lX12_296 dX12_canHaveBegun_47 ((by have hgo := kd_go (l := l) (G := G) (b := 35) hS (by omega) hR hW hk2 (clos_lt hW none (stH h).1.2) (fr := cK (ldH h) k) hcl hSW.1; rw [ekc] at hgo; exact hgo)) hS.o35 rfl rfl (Nat.le_of_ble_eq_true rfl) (Nat.zero_le _) (Nat.zero_le _) (Nat.le_of_ble_eq_true rfl) (fun μ47 h47 => ?_)
    obtain ⟨⟨r1, r2, r3, r4, r5⟩, hF⟩ := h47
    rw [rx_fun hW hcl] at r2
    refine C.iconst (nI 1) dX12_canHaveBegun_50 (by decide) ?_
    refine C.istore_n (lv' := [(0, _), (1, _), (2, _)]) dX12_canHaveBegun_51 (nLt hX rfl) rfl ?_
    refine C.iconst (nI 0) dX12_canHaveBegun_52 (by decide) ?_
    refine C.istore_n (lv' := [(0, _), (1, _), (2, _), (3, _)]) dX12_canHaveBegun_53 (nLt hX rfl) rfl ?_
    exact loop μ47 ⟨hPX.trans (hC.ride hL (by omega) hF r5), hL.ride (by omega) hF r5⟩ (fun j => hF.2.2.2 _ _ (by omega) (by omega) (by omega) (by omega) (by omega)) hno r2 (rwH h).length 0 true (by omega) rfl
  · have hyes : cK (ldH h) k ∈ (ldH h).2.1 := Decidable.byContradiction (fun z => by rw [decide_eq_false z] at hc12; exact absurd hc12 (by decide))
    rw [decide_eq_true hyes] at hq
    refine C.iconst (nI 0) dX12_canHaveBegun_15 (by decide) ?_
    refine C.zret hq dX12_canHaveBegun_16 (by decide) ?_
    exact ⟨rfl, ⟨hPX, hL⟩, fun _ => rfl, fun z => by cases z⟩
theorem kx_began (hC : ClsRel μ h) (hH : HOk h) (x : Int32) : AMet l G 6 0 0 mtX12_began [.ref (G.1 + 0), .int x] μ (qI (fun z μ' => z = beganA h x ∧ PX μ h μ')) := by
  refine AMet.of (by decide) (Nat.le_of_ble_eq_true rfl) (fun X C hX hnm hq => ?_)
  have hS := hC.1.1.1
  obtain ⟨L, c, hL⟩ := hC.2.2.2
  have hg := hL.1
  have hR := hL.2.1
  have hd7 := hH.d7
  unfold beganA at hq
  have main : ∀ K, 0 < (ldH h).1.1 → bgL h ((ldH h).1.1 * (ldH h).1.2.1) 0 (0, none, none) = K → AW l G X 0 0 22 [(0, .ref (G.1 + 0)), (1, .int x), (2, .int (nI 0)), (3, .int (-1)), (4, .int (-1)), (5, .int (nI 0))] [] μ := by
    intro K hp hK
    rw [if_pos hp, hK] at hq
    have hW := hH.wfP hp
    have h49 := hW.n49
    have loop : ∀ (j i : Nat) (a : Nat × Option Nat × Option Nat) (μ1 : Mm), i + j = nC (ldH h) → QX μ h L c μ1 → (∀ z, a.2.1 = some z → z < 49) → bgL h j i a = K → AW l G X 0 0 22 [(0, .ref (G.1 + 0)), (1, .int x), (2, .int (nI a.1)), (3, .int (opI a.2.1)), (4, .int (opI a.2.2)), (5, .int (nI i))] [] μ1 := by
      intro j
      induction j with
      | zero =>
        intro i a μ1 hi hQ ha ev
        have hS := hQ.1.1.1.1.1
        have hg := hQ.2.1
        have hR := hQ.2.2.1
        have e : a = K := ev
        subst e
        refine C.iload dX12_began_22 5 rfl ?_
        refine C.aload_n dX12_began_24 0 rfl ?_
        refine C.getO fX12_54 dX12_began_25 hS.o0 hg ?_
        refine C.callVI lX12_320 dX12_began_28 (kl_cellCount hR.o (hR.r (by decide)) hR.1.2.2.2.1.1) hR.o rfl rfl (Nat.le_of_ble_eq_true rfl) (Nat.zero_le _) (Nat.zero_le _) (Nat.le_of_ble_eq_true rfl) (fun x28 μ28 h28 => ?_)
        obtain ⟨rfl, hμ⟩ := h28
        subst hμ
        refine C.icmp_ge 68 dX12_began_31 rfl (fun hc31 => ?_) (fun hc31 => ?_)
        · refine C.iload_n dX12_began_68 1 rfl ?_
          cases hin69 : inN x 3 with
          | none =>
            rw [hin69] at hq
            refine C.tableOut 103 dX12_began_69 (inN_out (n := 2) (by decide) hin69) rfl ?_
            refine C.iconst (-1) dX12_began_103 (by decide) ?_
            refine C.iret hq dX12_began_104 ?_
            exact ⟨rfl, hQ.1⟩
          | some j69 =>
            rw [hin69] at hq
            obtain ⟨hj69, e69⟩ := inN_some (by decide) hin69
            subst e69
            rcases (show j69 = 0 ∨ j69 = 1 ∨ j69 = 2 by omega) with rfl | rfl | rfl
            · refine C.tableIn 96 dX12_began_69 (by decide) (by decide) rfl rfl ?_
              refine C.iload_n dX12_began_96 2 rfl ?_
              refine C.iret hq dX12_began_97 ?_
              exact ⟨rfl, hQ.1⟩
            · refine C.tableIn 98 dX12_began_69 (by decide) (by decide) rfl rfl ?_
              refine C.iload_n dX12_began_98 3 rfl ?_
              refine C.iret hq dX12_began_99 ?_
              exact ⟨rfl, hQ.1⟩
            · refine C.tableIn 100 dX12_began_69 (by decide) (by decide) rfl rfl ?_
              refine C.iload dX12_began_100 4 rfl ?_
              refine C.iret hq dX12_began_102 ?_
              exact ⟨rfl, hQ.1⟩
        · exact absurd (n_nle hc31 (by omega) (by omega)) (by omega)
      | succ j ih =>
        intro i a μ1 hi hQ ha ev
        have hS := hQ.1.1.1.1.1
        have hg := hQ.2.1
        have hR := hQ.2.2.1
        unfold bgL bgS at ev
        refine C.iload dX12_began_22 5 rfl ?_
        refine C.aload_n dX12_began_24 0 rfl ?_
        refine C.getO fX12_54 dX12_began_25 hS.o0 hg ?_
        refine C.callVI lX12_320 dX12_began_28 (kl_cellCount hR.o (hR.r (by decide)) hR.1.2.2.2.1.1) hR.o rfl rfl (Nat.le_of_ble_eq_true rfl) (Nat.zero_le _) (Nat.zero_le _) (Nat.le_of_ble_eq_true rfl) (fun x28 μ28 h28 => ?_)
        obtain ⟨rfl, hμ⟩ := h28
        subst hμ
        refine C.icmp_ge 68 dX12_began_31 rfl (fun hc31 => ?_) (fun hc31 => ?_)
        · exact absurd (n_le hc31 (by omega) (by omega)) (by omega)
        · refine C.aload_n dX12_began_34 0 rfl ?_
          refine C.iload dX12_began_35 5 rfl ?_
          refine C.callVI lX12_348 dX12_began_37 (kx_canBegin hQ hH hW (k := i) (by omega)) hS.o0 rfl rfl (Nat.le_of_ble_eq_true rfl) (Nat.zero_le _) (Nat.zero_le _) (Nat.le_of_ble_eq_true rfl) (fun x37 μ37 h37 => ?_)
          obtain ⟨rfl, hQ2, -, -⟩ := h37
          refine C.if_eq 62 dX12_began_40 rfl (fun hc40 => ?_) (fun hc40 => ?_)
          · have hz := (bI_0 _).mp hc40
            rw [hz] at ev
            have hgo := ih (i + 1) a μ37 (by omega) hQ2 ha ev
            refine C.iinc (lv' := [(0, _), (1, _), (2, _), (3, _), (4, _), (5, _)]) _ dX12_began_62 5 rfl rfl (nLt hX rfl) rfl ?_
            refine C.goto 22 dX12_began_65 rfl ?_
            rw [← nI_1 i] at hgo
            first | exact hgo | (rw [← nI_1 a.1] at hgo; first | exact hgo | (rw [hz2]; exact hgo))
          · have hz := b_t hc40
            rw [hz] at ev
            refine C.iinc (lv' := [(0, _), (1, _), (2, _), (3, _), (4, _), (5, _)]) _ dX12_began_43 2 rfl rfl (nLt hX rfl) rfl ?_
            refine C.iload_n dX12_began_46 3 rfl ?_
            refine C.iconst (-1) dX12_began_47 (by decide) ?_
            refine C.icmp_ne 56 dX12_began_48 rfl (fun hc48 => ?_) (fun hc48 => ?_)
            · obtain ⟨z, hz2⟩ : ∃ z, a.2.1 = some z := by
                cases q : a.2.1 with
                | none => rw [q] at hc48; exact absurd rfl hc48
                | some z => exact ⟨z, rfl⟩
              rw [hz2] at ev
              have hgo := ih (i + 1) (a.1 + 1, some z, some i) μ37 (by omega) hQ2 (fun z2 q => ha z2 (hz2.trans q)) ev
              refine C.iload_n dX12_began_56 3 rfl ?_
              refine C.istore_n (lv' := [(0, _), (1, _), (2, _), (3, _), (4, _), (5, _)]) dX12_began_57 (nLt hX rfl) rfl ?_
              refine C.iload dX12_began_58 5 rfl ?_
              refine C.istore (lv' := [(0, _), (1, _), (2, _), (3, _), (4, _), (5, _)]) dX12_began_60 (nLt hX rfl) rfl ?_
              refine C.iinc (lv' := [(0, _), (1, _), (2, _), (3, _), (4, _), (5, _)]) _ dX12_began_62 5 rfl rfl (nLt hX rfl) rfl ?_
              refine C.goto 22 dX12_began_65 rfl ?_
              rw [← nI_1 i] at hgo
              first | exact hgo | (rw [← nI_1 a.1] at hgo; first | exact hgo | (rw [hz2]; exact hgo))
            · have hn := opI_m1 hc48 (fun z q => by have := ha z q; omega)
              rw [hn] at ev
              have hgo := ih (i + 1) (a.1 + 1, some i, some i) μ37 (by omega) hQ2 (fun z q => by cases q; omega) ev
              refine C.iload dX12_began_51 5 rfl ?_
              refine C.goto 57 dX12_began_53 rfl ?_
              refine C.istore_n (lv' := [(0, _), (1, _), (2, _), (3, _), (4, _), (5, _)]) dX12_began_57 (nLt hX rfl) rfl ?_
              refine C.iload dX12_began_58 5 rfl ?_
              refine C.istore (lv' := [(0, _), (1, _), (2, _), (3, _), (4, _), (5, _)]) dX12_began_60 (nLt hX rfl) rfl ?_
              refine C.iinc (lv' := [(0, _), (1, _), (2, _), (3, _), (4, _), (5, _)]) _ dX12_began_62 5 rfl rfl (nLt hX rfl) rfl ?_
              refine C.goto 22 dX12_began_65 rfl ?_
              rw [← nI_1 i] at hgo
              first | exact hgo | (rw [← nI_1 a.1] at hgo; first | exact hgo | (rw [hz2]; exact hgo))
    exact loop _ 0 (0, none, none) μ (Nat.zero_add _) ⟨hC.self, hL⟩ (fun z q => by cases q) hK
  refine C.aload_n dX12_began_0 0 rfl ?_
  refine C.getO fX12_54 dX12_began_1 hS.o0 hg ?_
  refine C.callVI lX12_271 dX12_began_4 (kl_stands hR.o hR.2.1.1.1 (by omega)) hR.o rfl rfl (Nat.le_of_ble_eq_true rfl) (Nat.zero_le _) (Nat.zero_le _) (Nat.le_of_ble_eq_true rfl) (fun x4 μ4 h4 => ?_)
  obtain ⟨rfl, hμ⟩ := h4
  subst hμ
  refine C.if_ne 12 dX12_began_7 rfl (fun hc7 => ?_) (fun hc7 => ?_)
  · have hp : 0 < (ldH h).1.1 := of_decide_eq_true (b_t hc7)
    refine C.iconst (nI 0) dX12_began_12 (by decide) ?_
    refine C.istore_n (lv' := [(0, _), (1, _), (2, _)]) dX12_began_13 (nLt hX rfl) rfl ?_
    refine C.iconst (-1) dX12_began_14 (by decide) ?_
    refine C.istore_n (lv' := [(0, _), (1, _), (2, _), (3, _)]) dX12_began_15 (nLt hX rfl) rfl ?_
    refine C.iconst (-1) dX12_began_16 (by decide) ?_
    refine C.istore (lv' := [(0, _), (1, _), (2, _), (3, _), (4, _)]) dX12_began_17 (nLt hX rfl) rfl ?_
    refine C.iconst (nI 0) dX12_began_19 (by decide) ?_
    refine C.istore (lv' := [(0, _), (1, _), (2, _), (3, _), (4, _), (5, _)]) dX12_began_20 (nLt hX rfl) rfl ?_
    exact main _ hp rfl
  · have h0 : ¬ 0 < (ldH h).1.1 := of_decide_eq_false ((bI_0 _).mp hc7)
    rw [if_neg h0] at hq
    refine C.iconst (-1) dX12_began_10 (by decide) ?_
    refine C.iret hq dX12_began_11 ?_
    exact ⟨rfl, hC.self⟩
theorem QX.left {μ1 : Mm} (hQ : QX μ0 h L c μ1) (k : Nat) (v : Int32) : QX μ0 h L c (sI μ1 175 k v) := by
  have e : ∀ a j, ¬ scI a → mI (sI μ1 175 k v) a j = mI μ1 a j := fun a j q => by rw [mI_sI, if_neg (fun z => q (by unfold scI; omega))]
  have hL2 : CsL (sI μ1 175 k v) L c (ldH h) := hQ.2.of rfl (fun a j q => by rw [mI_sI, if_neg (by unfold InL at q; omega)])
  exact ⟨hQ.1.trans (hQ.1.1.sc (ScF.of2 rfl e) ⟨L, c, hL2⟩), hL2⟩
theorem kx_mostLeft (hQ : QX μ0 h L c μ) (hH : HOk h) (hW : Wf (ldH h)) {hr : Nat} (hhr : hr < 12) : AMet l G 6 0 0 mtX12_mostLeft [.ref (G.1 + 0), .int (nI hr)] μ (qI (fun z μ' => z = nI (tellM h hr) ∧ QX μ0 h L c μ')) := by
  refine AMet.of (by decide) (Nat.le_of_ble_eq_true rfl) (fun X C hX hnm hq => ?_)
  have hS := hQ.1.1.1.1.1
  have hg := hQ.2.1
  have hR := hQ.2.2.1
  have h49 := hW.n49
  have hmin : (if nI 49 ≤ nI (nC (ldH h)) then nI 49 else nI (nC (ldH h))) = nI (nC (ldH h)) := by
    by_cases q : nI 49 ≤ nI (nC (ldH h))
    · rw [if_pos q, show nC (ldH h) = 49 by have := n_le q; omega]
    · rw [if_neg q]
  have loop2 : ∀ (j i m : Nat) (μ1 : Mm), i + j = nC (ldH h) → QX μ0 h L c μ1 → (∀ k, k < nC (ldH h) → mI μ1 175 k = nI (tlC h i hr (cK (ldH h) k))) → m = mxF (tlC h i hr) 49 → AW l G X 0 0 38 [(0, .ref (G.1 + 0)), (1, .int (nI hr)), (2, .int (nI (nC (ldH h)))), (3, .int (nI m)), (4, .int (nI i))] [] μ1 := by
    intro j
    induction j with
    | zero =>
      intro i m μ1 hi hQ1 hk hm
      have hS := hQ1.1.1.1.1.1
      have e : i = nC (ldH h) := by omega
      refine C.iload dX12_mostLeft_38 4 rfl ?_
      refine C.iload_n dX12_mostLeft_40 2 rfl ?_
      refine C.icmp_ge 93 dX12_mostLeft_41 rfl (fun hc41 => ?_) (fun hc41 => ?_)
      · refine C.iload_n dX12_mostLeft_93 3 rfl ?_
        refine C.iret hq dX12_mostLeft_94 ?_
        exact ⟨by rw [hm, e]; rfl, hQ1⟩
      · exact absurd (n_nle hc41 (by omega) (by omega)) (by omega)
    | succ j ih =>
      intro i m μ1 hi hQ1 hk hm
      have hS := hQ1.1.1.1.1.1
      have hil : i < nC (ldH h) := by omega
      have hcl := cK_okL hW.w7.2 hil
      have hrk : clOk (ldH h) (rK h i hr) := rF_ok hW hcl hr
      have hrl := kC_lt hrk
      have hr49 := clOk_lt hW hrk
      have htl : ∀ i c, tlC h i hr c ≤ i := fun i c => cnt_le
      have htl1 := htl i (rK h i hr)
      have hml : m ≤ i := by rw [hm]; exact mxF_le (htl i) 49
      refine C.iload dX12_mostLeft_38 4 rfl ?_
      refine C.iload_n dX12_mostLeft_40 2 rfl ?_
      refine C.icmp_ge 93 dX12_mostLeft_41 rfl (fun hc41 => ?_) (fun hc41 => ?_)
      · exact absurd (n_le hc41 (by omega) (by omega)) (by omega)
      · refine C.aload_n dX12_mostLeft_44 0 rfl ?_
        refine C.iload dX12_mostLeft_45 4 rfl ?_
        refine C.callVI lX12_348 dX12_mostLeft_47 (kx_canBegin hQ1 hH hW hil) hS.o0 rfl rfl (Nat.le_of_ble_eq_true rfl) (Nat.zero_le _) (Nat.zero_le _) (Nat.le_of_ble_eq_true rfl) (fun x47 μ47 h47 => ?_)
        obtain ⟨rfl, hQ2, h175, hcell⟩ := h47
        have hS := hQ2.1.1.1.1.1
        refine C.if_eq 87 dX12_mostLeft_50 rfl (fun hc50 => ?_) (fun hc50 => ?_)
        · have hz := (bI_0 _).mp hc50
          have hgo := ih (i + 1) m μ47 (by omega) hQ2 (fun k q => by rw [h175, hk k q, tlC_s, hz]; rfl) (by rw [hm]; exact mxF_cong 49 (fun c _ => by rw [tlC_s, hz]; rfl))
          rw [← nI_1 i] at hgo
          refine C.iinc (lv' := [(0, _), (1, _), (2, _), (3, _), (4, _)]) _ dX12_mostLeft_87 4 rfl rfl (nLt hX rfl) rfl ?_
          refine C.goto 38 dX12_mostLeft_90 rfl ?_
          first | exact hgo | exact AW.pick [0, 1, 2, 3, 4] rfl hgo
        · have hz := b_t hc50
          have hcl2 := hcell hz hr hhr
          have hv : mI μ47 175 (kC (ldH h) (rK h i hr)) = nI (tlC h i hr (rK h i hr)) := by rw [h175, hk _ hrl, cK_kC hrk]
          have hs1 : tlC h (i + 1) hr (rK h i hr) = tlC h i hr (rK h i hr) + 1 := by rw [tlC_s, hz, decide_eq_true rfl]; rfl
          have hs2 : ∀ c, c ≠ rK h i hr → tlC h (i + 1) hr c = tlC h i hr c := fun c q => by rw [tlC_s, hz, decide_eq_false (fun z => q z.symm)]; rfl
          have hmx := mxF_upd (f := tlC h i hr) (g := tlC h (i + 1) hr) (c := rK h i hr) hs2 (by omega) 49 hr49
          rw [← hm, hs1] at hmx
          have hmax : (if nI (tlC h i hr (rK h i hr) + 1) ≤ nI m then nI m else nI (tlC h i hr (rK h i hr) + 1)) = nI (mxF (tlC h (i + 1) hr) 49) := by
            rw [hmx]
            by_cases q : nI (tlC h i hr (rK h i hr) + 1) ≤ nI m
            · rw [if_pos q, Nat.max_eq_left (n_le q)]
            · rw [if_neg q, Nat.max_eq_right (Nat.le_of_lt (n_nle q))]
          have hgo := ih (i + 1) _ (sI μ47 175 (kC (ldH h) (rK h i hr)) (nI (tlC h i hr (rK h i hr) + 1))) (by omega) (hQ2.left _ _) (fun k q => by
            rw [mI_sI]
            by_cases e : k = kC (ldH h) (rK h i hr)
            · rw [if_pos ⟨rfl, e⟩, e, cK_kC hrk, hs1]
            · rw [if_neg (fun z => e z.2), h175, hk k q, hs2 _ (fun z => e (by rw [← z, kC_cK hW.w7.2 q]))]) rfl
          rw [← nI_1 i] at hgo
          refine C.aload_n dX12_mostLeft_53 0 rfl ?_
          refine C.getO fX12_67 dX12_mostLeft_54 hS.o0 hS.r0_5 ?_
          refine C.getA fX12_275 dX12_mostLeft_57 hS.o35 hS.r35_0 ?_
          refine C.iload_n dX12_mostLeft_60 1 rfl ?_
          refine C.iald hS.a36 (n_in (by omega)) dX12_mostLeft_61 ?_
          rw [n_cl, hcl2]
          refine C.istore (lv' := [(0, _), (1, _), (2, _), (3, _), (4, _), (5, _)]) dX12_mostLeft_62 (nLt hX rfl) rfl ?_
          refine C.aload_n dX12_mostLeft_64 0 rfl ?_
          refine C.getA fX12_98 dX12_mostLeft_65 hS.o0 hS.r0_11 ?_
          refine C.iload dX12_mostLeft_68 5 rfl ?_
          refine C.dup2 dX12_mostLeft_70 rfl rfl ?_
          refine C.iald hS.a175 (n_in (by omega)) dX12_mostLeft_71 ?_
          rw [n_cl, hv]
          refine C.iconst (nI 1) dX12_mostLeft_72 (by decide) ?_
          refine C.iadd dX12_mostLeft_73 ?_
          rw [nI_add]
          refine C.iast hS.a175 (n_in (by omega)) dX12_mostLeft_74 ?_
          rw [n_cl]
          refine C.iload_n dX12_mostLeft_75 3 rfl ?_
          refine C.aload_n dX12_mostLeft_76 0 rfl ?_
          refine C.getA fX12_98 dX12_mostLeft_77 hS.o0 hS.r0_11 ?_
          refine C.iload dX12_mostLeft_80 5 rfl ?_
          refine C.iald hS.a175 (n_in (by omega)) dX12_mostLeft_82 ?_
          rw [n_cl, mI_sI, if_pos ⟨rfl, rfl⟩]
          refine C.callSI lX12_390 dX12_mostLeft_83 (kj_maxI _ _) rfl rfl (Nat.le_of_ble_eq_true rfl) (Nat.zero_le _) (Nat.zero_le _) (Nat.le_of_ble_eq_true rfl) (fun x83 μ83 h83 => ?_)
          obtain ⟨rfl, hμ⟩ := h83
          subst hμ
          rw [hmax]
          refine C.istore_n (lv' := [(0, _), (1, _), (2, _), (3, _), (4, _), (5, _)]) dX12_mostLeft_86 (nLt hX rfl) rfl ?_
          refine C.iinc (lv' := [(0, _), (1, _), (2, _), (3, _), (4, _), (5, _)]) _ dX12_mostLeft_87 4 rfl rfl (nLt hX rfl) rfl ?_
          refine C.goto 38 dX12_mostLeft_90 rfl ?_
          first | exact hgo | exact AW.pick [0, 1, 2, 3, 4] rfl hgo
  have loop1 : ∀ (j i : Nat) (μ1 : Mm), i + j = nC (ldH h) → QX μ0 h L c μ1 → (∀ k, k < i → mI μ1 175 k = nI 0) → AW l G X 0 0 15 [(0, .ref (G.1 + 0)), (1, .int (nI hr)), (2, .int (nI (nC (ldH h)))), (3, .int (nI i))] [] μ1 := by
    intro j
    induction j with
    | zero =>
      intro i μ1 hi hQ1 hk
      have hS := hQ1.1.1.1.1.1
      refine C.iload_n dX12_mostLeft_15 3 rfl ?_
      refine C.iload_n dX12_mostLeft_16 2 rfl ?_
      refine C.icmp_ge 33 dX12_mostLeft_17 rfl (fun hc17 => ?_) (fun hc17 => ?_)
      · refine C.iconst (nI 0) dX12_mostLeft_33 (by decide) ?_
        refine C.istore_n (lv' := [(0, _), (1, _), (2, _), (3, _)]) dX12_mostLeft_34 (nLt hX rfl) rfl ?_
        refine C.iconst (nI 0) dX12_mostLeft_35 (by decide) ?_
        refine C.istore (lv' := [(0, _), (1, _), (2, _), (3, _), (4, _)]) dX12_mostLeft_36 (nLt hX rfl) rfl ?_
        exact loop2 _ 0 0 μ1 (Nat.zero_add _) hQ1 (fun k q => hk k (by omega)) (mxF_0 (fun c => rfl) 49).symm
      · exact absurd (n_nle hc17 (by omega) (by omega)) (by omega)
    | succ j ih =>
      intro i μ1 hi hQ1 hk
      have hS := hQ1.1.1.1.1.1
      have hgo := ih (i + 1) (sI μ1 175 i (nI 0)) (by omega) (hQ1.left _ _) (fun k q => by
        rw [mI_sI]
        by_cases e : k = i
        · rw [if_pos ⟨rfl, e⟩]
        · rw [if_neg (fun z => e z.2)]; exact hk k (by omega))
      rw [← nI_1 i] at hgo
      refine C.iload_n dX12_mostLeft_15 3 rfl ?_
      refine C.iload_n dX12_mostLeft_16 2 rfl ?_
      refine C.icmp_ge 33 dX12_mostLeft_17 rfl (fun hc17 => ?_) (fun hc17 => ?_)
      · exact absurd (n_le hc17 (by omega) (by omega)) (by omega)
      · refine C.aload_n dX12_mostLeft_20 0 rfl ?_
        refine C.getA fX12_98 dX12_mostLeft_21 hS.o0 hS.r0_11 ?_
        refine C.iload_n dX12_mostLeft_24 3 rfl ?_
        refine C.iconst (nI 0) dX12_mostLeft_25 (by decide) ?_
        refine C.iast hS.a175 (n_in (by omega)) dX12_mostLeft_26 ?_
        rw [n_cl]
        refine C.iinc (lv' := [(0, _), (1, _), (2, _), (3, _)]) _ dX12_mostLeft_27 3 rfl rfl (nLt hX rfl) rfl ?_
        refine C.goto 15 dX12_mostLeft_30 rfl ?_
        exact hgo
  refine C.bipush (nI 49) dX12_mostLeft_0 (by decide) ?_
  refine C.aload_n dX12_mostLeft_2 0 rfl ?_
  refine C.getO fX12_54 dX12_mostLeft_3 hS.o0 hg ?_
  refine C.callVI lX12_320 dX12_mostLeft_6 (kl_cellCount hR.o (hR.r (by decide)) hR.1.2.2.2.1.1) hR.o rfl rfl (Nat.le_of_ble_eq_true rfl) (Nat.zero_le _) (Nat.zero_le _) (Nat.le_of_ble_eq_true rfl) (fun x6 μ6 h6 => ?_)
  obtain ⟨rfl, hμ⟩ := h6
  subst hμ
  refine C.callSI lX12_330 dX12_mostLeft_9 (kj_minI _ _) rfl rfl (Nat.le_of_ble_eq_true rfl) (Nat.zero_le _) (Nat.zero_le _) (Nat.le_of_ble_eq_true rfl) (fun x9 μ9 h9 => ?_)
  obtain ⟨rfl, hμ⟩ := h9
  subst hμ
  rw [hmin]
  refine C.istore_n (lv' := [(0, _), (1, _), (2, _)]) dX12_mostLeft_12 (nLt hX rfl) rfl ?_
  refine C.iconst (nI 0) dX12_mostLeft_13 (by decide) ?_
  refine C.istore_n (lv' := [(0, _), (1, _), (2, _), (3, _)]) dX12_mostLeft_14 (nLt hX rfl) rfl ?_
  exact loop1 _ 0 _ (Nat.zero_add _) hQ (fun k q => absurd q (Nat.not_lt_zero k))
theorem kx_tells (hC : ClsRel μ h) (hH : HOk h) (x : Int32) : AMet l G 7 0 0 mtX12_tells [.ref (G.1 + 0), .int x] μ (qI (fun z μ' => z = tellsA h x ∧ PX μ h μ')) := by
  refine AMet.of (by decide) (Nat.le_of_ble_eq_true rfl) (fun X C hX hnm hq => ?_)
  have hS := hC.1.1.1
  obtain ⟨L, c, hL⟩ := hC.2.2.2
  have hg := hL.1
  have hR := hL.2.1
  have hd7 := hH.d7
  unfold tellsA at hq
  have main : 0 < (ldH h).1.1 → ∀ jx, jx < 2 → x = nI jx → AW l G X 0 0 21 [(0, .ref (G.1 + 0)), (1, .int x)] [] μ := by
    intro hp jx hjx ex
    subst ex
    rw [if_pos hp, inN_n (by omega) (by omega), if_pos hjx] at hq
    have hW := hH.wfP hp
    have h49 := hW.n49
    have hw7 := hW.w7
    have hh7 := hW.h7
    have h4 : 4 ≤ nC (ldH h) := by unfold nC; exact Nat.mul_le_mul hw7.1 hh7.1
    generalize hK : tellR h = K at hq
    have fin : ∀ (i : Int32) (v : Nat) (μ1 : Mm), QX μ h L c μ1 → (K.1 ≠ none → v = K.2) → (∀ b, K.1 = some b → b < 12) → AW l G X 0 0 79 [(0, .ref (G.1 + 0)), (1, .int (nI jx)), (2, .int (opI K.1)), (3, .int (nI v)), (4, .int i)] [] μ1 := by
      intro i v μ1 hQ1 hv hb
      have hS := hQ1.1.1.1.1.1
      refine C.iload_n dX12_tells_79 1 rfl ?_
      refine C.if_eq 88 dX12_tells_80 rfl (fun hc80 => ?_) (fun hc80 => ?_)
      · have hj0 : jx = 0 := n_eq (b := 0) hc80
        subst hj0
        refine C.iload_n dX12_tells_88 2 rfl ?_
        refine C.goto 93 dX12_tells_89 rfl ?_
        refine C.iret hq dX12_tells_93 ?_
        refine ⟨?_, hQ1.1⟩
        cases hk : K.1 with
        | none => first | rfl | (rw [hk] at hc85; exact absurd rfl hc85)
        | some b => first | (exact (if_pos rfl).symm) | (rw [hv (by rw [hk]; exact fun z => by cases z)]; exact (if_neg hj0).symm) | (rw [hk] at hc85; exact absurd hc85 (n_m1 (by have := hb b hk; omega)))
      · have hj0 : ¬ jx = 0 := fun z => hc80 (by rw [z]; rfl)
        refine C.iload_n dX12_tells_83 2 rfl ?_
        refine C.iconst (-1) dX12_tells_84 (by decide) ?_
        refine C.icmp_ne 92 dX12_tells_85 rfl (fun hc85 => ?_) (fun hc85 => ?_)
        · refine C.iload_n dX12_tells_92 3 rfl ?_
          refine C.iret hq dX12_tells_93 ?_
          refine ⟨?_, hQ1.1⟩
          cases hk : K.1 with
          | none => first | rfl | (rw [hk] at hc85; exact absurd rfl hc85)
          | some b => first | (exact (if_pos rfl).symm) | (rw [hv (by rw [hk]; exact fun z => by cases z)]; exact (if_neg hj0).symm) | (rw [hk] at hc85; exact absurd hc85 (n_m1 (by have := hb b hk; omega)))
        · refine C.iload_n dX12_tells_88 2 rfl ?_
          refine C.goto 93 dX12_tells_89 rfl ?_
          refine C.iret hq dX12_tells_93 ?_
          refine ⟨?_, hQ1.1⟩
          cases hk : K.1 with
          | none => first | rfl | (rw [hk] at hc85; exact absurd rfl hc85)
          | some b => first | (exact (if_pos rfl).symm) | (rw [hv (by rw [hk]; exact fun z => by cases z)]; exact (if_neg hj0).symm) | (rw [hk] at hc85; exact absurd hc85 (n_m1 (by have := hb b hk; omega)))
    have loopA : tlN h (nC (ldH h)) = 0 → ∀ (j i : Nat) (μ1 : Mm), i + j = 12 → QX μ h L c μ1 → AW l G X 0 0 36 [(0, .ref (G.1 + 0)), (1, .int (nI jx)), (2, .int (-1)), (3, .int (nI (nC (ldH h) + 1))), (4, .int (nI i))] [] μ1 := by
      intro h0 j
      have hKn : K = (none, 0) := by rw [← hK]; unfold tellR; exact if_neg (fun z => by unfold nC at h0; omega)
      have hf : ∀ i v μ1, QX μ h L c μ1 → AW l G X 0 0 79 [(0, .ref (G.1 + 0)), (1, .int (nI jx)), (2, .int (-1)), (3, .int (nI v)), (4, .int i)] [] μ1 := fun i v μ1 hQ1 => by
        have := fin i v μ1 hQ1 (by rw [hKn]; exact fun z => absurd rfl z) (by rw [hKn]; exact fun b z => by cases z)
        rw [hKn] at this
        exact this
      induction j with
      | zero =>
        intro i μ1 hi hQ1
        have hS := hQ1.1.1.1.1.1
        refine C.iload dX12_tells_36 4 rfl ?_
        refine C.bipush (nI 12) dX12_tells_38 (by decide) ?_
        refine C.icmp_ge 79 dX12_tells_40 rfl (fun hc40 => ?_) (fun hc40 => ?_)
        · exact hf _ _ _ hQ1
        · exact absurd (n_nle hc40 (by omega) (by omega)) (by omega)
      | succ j ih =>
        intro i μ1 hi hQ1
        have hS := hQ1.1.1.1.1.1
        refine C.iload dX12_tells_36 4 rfl ?_
        refine C.bipush (nI 12) dX12_tells_38 (by decide) ?_
        refine C.icmp_ge 79 dX12_tells_40 rfl (fun hc40 => ?_) (fun hc40 => ?_)
        · exact absurd (n_le hc40 (by omega) (by omega)) (by omega)
        · refine C.iload_n dX12_tells_43 3 rfl ?_
          refine C.iconst (nI 1) dX12_tells_44 (by decide) ?_
          refine C.icmp_le 79 dX12_tells_45 rfl (fun hc45 => ?_) (fun hc45 => ?_)
          · exact absurd (n_le hc45 (by omega) (by omega)) (by omega)
          · refine C.aload_n dX12_tells_48 0 rfl ?_
            refine C.iload dX12_tells_49 4 rfl ?_
            refine C.callVI lX12_351 dX12_tells_51 (kx_mostLeft hQ1 hH hW (hr := i) (by omega)) hS.o0 rfl rfl (Nat.le_of_ble_eq_true rfl) (Nat.zero_le _) (Nat.zero_le _) (Nat.le_of_ble_eq_true rfl) (fun x51 μ51 h51 => ?_)
            obtain ⟨hz, hQ2⟩ := h51
            rw [tellM_0 h0] at hz
            subst hz
            have hgo := ih (i + 1) μ51 (by omega) hQ2
            rw [← nI_1 i] at hgo
            refine C.istore (lv' := [(0, _), (1, _), (2, _), (3, _), (4, _), (5, _)]) dX12_tells_54 (nLt hX rfl) rfl ?_
            refine C.iload dX12_tells_56 5 rfl ?_
            refine C.if_le 73 dX12_tells_58 rfl (fun hc58 => ?_) (fun hc58 => ?_)
            · refine C.iinc (lv' := [(0, _), (1, _), (2, _), (3, _), (4, _), (5, _)]) _ dX12_tells_73 4 rfl rfl (nLt hX rfl) rfl ?_
              refine C.goto 36 dX12_tells_76 rfl ?_
              exact AW.pick [0, 1, 2, 3, 4] rfl hgo
            · exact absurd (by decide) hc58
    have loopB : 0 < tlN h (nC (ldH h)) → ∀ (j i : Nat) (a : Option Nat × Nat) (μ1 : Mm), i + j = 12 → QX μ h L c μ1 → (a.1 = none → a.2 = nC (ldH h) + 1) → 1 ≤ a.2 → a.2 ≤ nC (ldH h) + 1 → (∀ b, a.1 = some b → b < 12) → hrL (tellM h) j i a = K → (j = 0 → a.1 ≠ none) → AW l G X 0 0 36 [(0, .ref (G.1 + 0)), (1, .int (nI jx)), (2, .int (opI a.1)), (3, .int (nI a.2)), (4, .int (nI i))] [] μ1 := by
      intro h0 j
      have hm1 : ∀ hr, 1 ≤ tellM h hr := fun hr => tellM_1 h0 hr (fun k q => clOk_lt hW (rF_ok hW (cK_okL hw7.2 q) hr))
      have hml : ∀ hr, tellM h hr ≤ nC (ldH h) := fun hr => tellM_le hr
      induction j with
      | zero =>
        intro i a μ1 hi hQ1 a1 a2 a3 a4 ev _
        have hS := hQ1.1.1.1.1.1
        have e : a = K := ev
        subst e
        refine C.iload dX12_tells_36 4 rfl ?_
        refine C.bipush (nI 12) dX12_tells_38 (by decide) ?_
        refine C.icmp_ge 79 dX12_tells_40 rfl (fun hc40 => ?_) (fun hc40 => ?_)
        · exact fin _ _ _ hQ1 (fun _ => rfl) a4
        · exact absurd (n_nle hc40 (by omega) (by omega)) (by omega)
      | succ j ih =>
        intro i a μ1 hi hQ1 a1 a2 a3 a4 ev _
        have hS := hQ1.1.1.1.1.1
        have hm1i := hm1 i
        have hmli := hml i
        refine C.iload dX12_tells_36 4 rfl ?_
        refine C.bipush (nI 12) dX12_tells_38 (by decide) ?_
        refine C.icmp_ge 79 dX12_tells_40 rfl (fun hc40 => ?_) (fun hc40 => ?_)
        · exact absurd (n_le hc40 (by omega) (by omega)) (by omega)
        · refine C.iload_n dX12_tells_43 3 rfl ?_
          refine C.iconst (nI 1) dX12_tells_44 (by decide) ?_
          refine C.icmp_le 79 dX12_tells_45 rfl (fun hc45 => ?_) (fun hc45 => ?_)
          · have h45 := n_le hc45 (by omega) (by omega)
            have hK2 : a = K := by
              cases hb : a.1 with
              | none => have := a1 hb; omega
              | some b =>
                have e : a = (some b, a.2) := by rw [← hb]
                rw [e, hrL_stay (fun k => Nat.le_trans h45 (hm1 k))] at ev
                exact e.trans ev
            subst hK2
            exact fin _ _ _ hQ1 (fun _ => rfl) a4
          · have h45 := n_nle hc45 (by omega) (by omega)
            unfold hrL hrS at ev
            refine C.aload_n dX12_tells_48 0 rfl ?_
            refine C.iload dX12_tells_49 4 rfl ?_
            refine C.callVI lX12_351 dX12_tells_51 (kx_mostLeft hQ1 hH hW (hr := i) (by omega)) hS.o0 rfl rfl (Nat.le_of_ble_eq_true rfl) (Nat.zero_le _) (Nat.zero_le _) (Nat.le_of_ble_eq_true rfl) (fun x51 μ51 h51 => ?_)
            obtain ⟨rfl, hQ2⟩ := h51
            refine C.istore (lv' := [(0, _), (1, _), (2, _), (3, _), (4, _), (5, _)]) dX12_tells_54 (nLt hX rfl) rfl ?_
            refine C.iload dX12_tells_56 5 rfl ?_
            refine C.if_le 73 dX12_tells_58 rfl (fun hc58 => ?_) (fun hc58 => ?_)
            · exact absurd (n_le (b := 0) hc58 (by omega) (by omega)) (by omega)
            · refine C.iload dX12_tells_61 5 rfl ?_
              refine C.iload_n dX12_tells_63 3 rfl ?_
              refine C.icmp_ge 73 dX12_tells_64 rfl (fun hc64 => ?_) (fun hc64 => ?_)
              · have h64 := n_le hc64 (by omega) (by omega)
                have hne : a.1 ≠ none := fun z => by have := a1 z; omega
                rw [if_pos ⟨hne, h64⟩] at ev
                have hgo := ih (i + 1) a μ51 (by omega) hQ2 a1 a2 a3 a4 ev (fun _ => hne)
                rw [← nI_1 i] at hgo
                refine C.iinc (lv' := [(0, _), (1, _), (2, _), (3, _), (4, _), (5, _)]) _ dX12_tells_73 4 rfl rfl (nLt hX rfl) rfl ?_
                refine C.goto 36 dX12_tells_76 rfl ?_
                exact AW.pick [0, 1, 2, 3, 4] rfl hgo
              · have h64 := n_nle hc64 (by omega) (by omega)
                rw [if_neg (fun z => by omega)] at ev
                have hgo := ih (i + 1) (some i, tellM h i) μ51 (by omega) hQ2 (fun z => by cases z) (by show 1 ≤ tellM h i; omega) (by show tellM h i ≤ _; omega) (fun b z => by cases z; omega) ev (fun _ z => by cases z)
                rw [← nI_1 i] at hgo
                refine C.iload dX12_tells_67 4 rfl ?_
                refine C.istore_n (lv' := [(0, _), (1, _), (2, _), (3, _), (4, _), (5, _)]) dX12_tells_69 (nLt hX rfl) rfl ?_
                refine C.iload dX12_tells_70 5 rfl ?_
                refine C.istore_n (lv' := [(0, _), (1, _), (2, _), (3, _), (4, _), (5, _)]) dX12_tells_72 (nLt hX rfl) rfl ?_
                refine C.iinc (lv' := [(0, _), (1, _), (2, _), (3, _), (4, _), (5, _)]) _ dX12_tells_73 4 rfl rfl (nLt hX rfl) rfl ?_
                refine C.goto 36 dX12_tells_76 rfl ?_
                exact AW.pick [0, 1, 2, 3, 4] rfl hgo
    refine C.iconst (-1) dX12_tells_21 (by decide) ?_
    refine C.istore_n (lv' := [(0, _), (1, _), (2, _)]) dX12_tells_22 (nLt hX rfl) rfl ?_
    refine C.aload_n dX12_tells_23 0 rfl ?_
    refine C.getO fX12_54 dX12_tells_24 hS.o0 hg ?_
    refine C.callVI lX12_320 dX12_tells_27 (kl_cellCount hR.o (hR.r (by decide)) hR.1.2.2.2.1.1) hR.o rfl rfl (Nat.le_of_ble_eq_true rfl) (Nat.zero_le _) (Nat.zero_le _) (Nat.le_of_ble_eq_true rfl) (fun x27 μ27 h27 => ?_)
    obtain ⟨rfl, hμ⟩ := h27
    subst hμ
    refine C.iconst (nI 1) dX12_tells_30 (by decide) ?_
    refine C.iadd dX12_tells_31 ?_
    rw [nI_add]
    refine C.istore_n (lv' := [(0, _), (1, _), (2, _), (3, _)]) dX12_tells_32 (nLt hX rfl) rfl ?_
    refine C.iconst (nI 0) dX12_tells_33 (by decide) ?_
    refine C.istore (lv' := [(0, _), (1, _), (2, _), (3, _), (4, _)]) dX12_tells_34 (nLt hX rfl) rfl ?_
    rcases Nat.eq_zero_or_pos (tlN h (nC (ldH h))) with h0 | h0
    · exact loopA h0 12 0 _ rfl ⟨hC.self, hL⟩
    · refine loopB h0 12 0 (none, nC (ldH h) + 1) _ rfl ⟨hC.self, hL⟩ (fun _ => rfl) (Nat.le_add_left _ _) (Nat.le_refl _) (fun b z => by cases z) ?_ (fun z => by cases z)
      rw [← hK]
      unfold tellR
      rw [if_pos (show 0 < tlN h ((ldH h).1.1 * (ldH h).1.2.1) from h0)]
      unfold hrL hrS
      rw [if_neg (fun z => z.1 rfl), if_neg (fun z => z.1 rfl)]
  refine C.aload_n dX12_tells_0 0 rfl ?_
  refine C.getO fX12_54 dX12_tells_1 hS.o0 hg ?_
  refine C.callVI lX12_271 dX12_tells_4 (kl_stands hR.o hR.2.1.1.1 (by omega)) hR.o rfl rfl (Nat.le_of_ble_eq_true rfl) (Nat.zero_le _) (Nat.zero_le _) (Nat.le_of_ble_eq_true rfl) (fun x4 μ4 h4 => ?_)
  obtain ⟨rfl, hμ⟩ := h4
  subst hμ
  refine C.if_eq 19 dX12_tells_7 rfl (fun hc7 => ?_) (fun hc7 => ?_)
  · have h0 : ¬ 0 < (ldH h).1.1 := of_decide_eq_false ((bI_0 _).mp hc7)
    rw [if_neg h0] at hq
    refine C.iconst (-1) dX12_tells_19 (by decide) ?_
    refine C.iret hq dX12_tells_20 ?_
    exact ⟨rfl, hC.self⟩
  · have hp : 0 < (ldH h).1.1 := of_decide_eq_true (b_t hc7)
    refine C.iload_n dX12_tells_10 1 rfl ?_
    refine C.if_eq 21 dX12_tells_11 rfl (fun hc11 => ?_) (fun hc11 => ?_)
    · first | exact main hp 0 (by decide) hc11 | exact main hp 1 (by decide) hc16
    · refine C.iload_n dX12_tells_14 1 rfl ?_
      refine C.iconst (nI 1) dX12_tells_15 (by decide) ?_
      refine C.icmp_eq 21 dX12_tells_16 rfl (fun hc16 => ?_) (fun hc16 => ?_)
      · first | exact main hp 0 (by decide) hc11 | exact main hp 1 (by decide) hc16
      · have hn : inN x 2 = none := by
          cases hin : inN x 2 with
          | none => rfl
          | some o =>
            obtain ⟨ho, eo⟩ := inN_some (by decide) hin
            rcases (show o = 0 ∨ o = 1 by omega) with rfl | rfl
            · exact absurd eo hc11
            · exact absurd eo hc16
        rw [if_pos hp, hn] at hq
        refine C.iconst (-1) dX12_tells_19 (by decide) ?_
        refine C.iret hq dX12_tells_20 ?_
        exact ⟨rfl, hC.self⟩
end KXB
