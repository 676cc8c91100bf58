/-! the class: feed, end, see -/
section TPU
variable {μ μ' : Mm} {h : Hs}
theorem ClsRel.tape {tp : List Nat} (hC : ClsRel μ h) (t : CsT μ' tp) (f : TpF μ μ') : PX μ (tp, flH h, rfH h, ldH h, stH h, psH h, rwH h, ocH h, sdH h) μ' := by
  have e : ∀ a k, a ≠ 1 → a ≠ 2 → mI μ' a k = mI μ a k := fun a k q1 q2 => f.2 a k q2 (fun z => q1 z.1)
  exact hC.up (h' := (tp, flH h, rfH h, ldH h, stH h, psH h, rwH h, ocH h, sdH h)) ⟨f.1, fun k => e _ _ (by omega) (by omega), fun a k q => e a k (by unfold InL at q; omega) (by unfold InL at q; omega)⟩ rfl t (hC.1.2.2.1.of (e _ _ (by omega) (by omega)) (e _ _ (by omega) (by omega))) (hC.1.2.2.2.of (fun k => e _ _ (by omega) (by omega))) (hC.2.1.1.of (fun a k q1 q2 => e a k (by omega) (by omega))) (hC.2.1.2.of (fun a k q1 q2 => e a k (by omega) (by omega))) (hC.2.2.1.1.of (e _ _ (by omega) (by omega)) (fun k => e _ _ (by omega) (by omega))) (hC.2.2.1.2.1.of (e _ _ (by omega) (by omega)) (fun k => e _ _ (by omega) (by omega))) (hC.2.2.1.2.2.of (e _ _ (by omega) (by omega)))
theorem CsT.take {tp : List Nat} (t : CsT μ tp) {n : Nat} (hn : n ≤ tp.length) : CsT (sI μ 1 1 (nI n)) (tp.take n) ∧ TpF μ (sI μ 1 1 (nI n)) := by
  refine ⟨⟨?_, ?_, fun j x q => ?_⟩, rfl, fun a k q1 q2 => by rw [mI_sI, if_neg q2]⟩
  · rw [mI_sI, if_pos ⟨rfl, rfl⟩, List.length_take, Nat.min_eq_left hn]
  · rw [List.length_take]; have := t.2.1; omega
  · rw [mI_sI, if_neg (by omega)]
    rw [List.getElem?_take] at q
    by_cases hj : j < n
    · rw [if_pos hj] at q; exact t.2.2 j x q
    · rw [if_neg hj] at q; cases q
theorem CsT.zero {tp : List Nat} (t : CsT μ tp) : CsT (sI μ 1 1 (nI 0)) [] ∧ TpF μ (sI μ 1 1 (nI 0)) := by
  have := t.take (n := 0) (by omega)
  rw [List.take_zero] at this
  exact this
theorem TpF.trans {μ'' : Mm} (a : TpF μ μ') (b : TpF μ' μ'') : TpF μ μ'' := ⟨b.1.trans a.1, fun x k q1 q2 => (b.2 x k q1 q2).trans (a.2 x k q1 q2)⟩
theorem fdB_eq (tp : List Nat) (a b c d e : Int32) : tp ++ [byN a 0, byN a 1, byN a 2, byN a 3] ++ [byN b 0, byN b 1, byN b 2, byN b 3] ++ [byN c 0, byN c 1, byN c 2, byN c 3] ++ [byN d 0, byN d 1, byN d 2, byN d 3] ++ [byN e 0, byN e 1, byN e 2, byN e 3] = tp ++ fdB a b c d e := by
  rw [List.append_assoc, List.append_assoc, List.append_assoc, List.append_assoc]
  rfl
theorem all_lt {f : Nat → Bool} {i n : Nat} (hi : i ≤ n) (q : (List.range i).all f = false) : (List.range n).all f = false := by
  cases hz : (List.range n).all f with
  | false => rfl
  | true =>
    rw [List.all_eq_true] at hz
    have : (List.range i).all f = true := List.all_eq_true.mpr (fun x hx => hz x (List.mem_range.mpr (by have := List.mem_range.mp hx; omega)))
    rw [this] at q
    cases q
end TPU
section KXS
variable {l : Launch} {G : Gm} {μ : Mm} {h : Hs}

theorem kx_feed (hC : ClsRel μ h) (a b c d e : Int32) : AMet l G 1 0 0 mtX12_feed [.ref (G.1 + 0), .int a, .int b, .int c, .int d, .int e] μ (qI (fun y μ' => y = feedA h ∧ PX μ (feedH h a b c d e) μ')) := by
  refine AMet.of (by decide) (Nat.le_of_ble_eq_true rfl) (fun X C hX hnm hq => ?_)
  have hS := hC.1.1.1
  have hT := hC.1.2.1
  have h1600 := hT.2.1
  have hS0 := hS
  unfold feedA feedH at hq
  refine C.aload_n dX12_feed_0 0 rfl ?_
  refine C.getO fX12_12 dX12_feed_1 hS.o0 hS.r0_0 ?_
  refine C.getI fX12_115 dX12_feed_4 hS.o1 ?_
  refine C.bipush (nI 20) dX12_feed_7 (by decide) ?_
  refine C.iadd dX12_feed_9 ?_
  refine C.sipush (nI 1600) dX12_feed_10 (by decide) ?_
  rw [hT.1, nI_add]
  refine C.icmp_le 22 dX12_feed_13 rfl (fun hc13 => ?_) (fun hc13 => ?_)
  · have hle := n_le hc13
    rw [if_pos hle, if_pos hle] at hq
    refine C.aload_n dX12_feed_22 0 rfl ?_
    refine C.getO fX12_12 dX12_feed_23 hS.o0 hS.r0_0 ?_
    refine C.iload_n dX12_feed_26 1 rfl ?_
    refine C.callVV lX12_122 dX12_feed_27 (kt_add hS hT (by omega) a) hS.o1 rfl rfl (Nat.le_of_ble_eq_true rfl) (Nat.zero_le _) (Nat.zero_le _) (Nat.le_of_ble_eq_true rfl) (fun μ27 h27 => ?_)
    obtain ⟨t1, f1⟩ := h27
    have hS : ShC μ27 := hS0.of (by rw [f1.1])
    refine C.aload_n dX12_feed_30 0 rfl ?_
    refine C.getO fX12_12 dX12_feed_31 hS.o0 hS.r0_0 ?_
    refine C.iload_n dX12_feed_34 2 rfl ?_
    refine C.callVV lX12_122 dX12_feed_35 (kt_add hS t1 (by simp; omega) b) hS.o1 rfl rfl (Nat.le_of_ble_eq_true rfl) (Nat.zero_le _) (Nat.zero_le _) (Nat.le_of_ble_eq_true rfl) (fun μ35 h35 => ?_)
    obtain ⟨t2, f2⟩ := h35
    have f2 := f1.trans f2
    have hS : ShC μ35 := hS0.of (by rw [f2.1])
    refine C.aload_n dX12_feed_38 0 rfl ?_
    refine C.getO fX12_12 dX12_feed_39 hS.o0 hS.r0_0 ?_
    refine C.iload_n dX12_feed_42 3 rfl ?_
    refine C.callVV lX12_122 dX12_feed_43 (kt_add hS t2 (by simp; omega) c) hS.o1 rfl rfl (Nat.le_of_ble_eq_true rfl) (Nat.zero_le _) (Nat.zero_le _) (Nat.le_of_ble_eq_true rfl) (fun μ43 h43 => ?_)
    obtain ⟨t3, f3⟩ := h43
    have f3 := f2.trans f3
    have hS : ShC μ43 := hS0.of (by rw [f3.1])
    refine C.aload_n dX12_feed_46 0 rfl ?_
    refine C.getO fX12_12 dX12_feed_47 hS.o0 hS.r0_0 ?_
    refine C.iload dX12_feed_50 4 rfl ?_
    refine C.callVV lX12_122 dX12_feed_52 (kt_add hS t3 (by simp; omega) d) hS.o1 rfl rfl (Nat.le_of_ble_eq_true rfl) (Nat.zero_le _) (Nat.zero_le _) (Nat.le_of_ble_eq_true rfl) (fun μ52 h52 => ?_)
    obtain ⟨t4, f4⟩ := h52
    have f4 := f3.trans f4
    have hS : ShC μ52 := hS0.of (by rw [f4.1])
    refine C.aload_n dX12_feed_55 0 rfl ?_
    refine C.getO fX12_12 dX12_feed_56 hS.o0 hS.r0_0 ?_
    refine C.iload dX12_feed_59 5 rfl ?_
    refine C.callVV lX12_122 dX12_feed_61 (kt_add hS t4 (by simp; omega) e) hS.o1 rfl rfl (Nat.le_of_ble_eq_true rfl) (Nat.zero_le _) (Nat.zero_le _) (Nat.le_of_ble_eq_true rfl) (fun μ61 h61 => ?_)
    obtain ⟨t5, f5⟩ := h61
    have f5 := f4.trans f5
    have hS : ShC μ61 := hS0.of (by rw [f5.1])
    rw [fdB_eq] at t5
    refine C.aload_n dX12_feed_64 0 rfl ?_
    refine C.getO fX12_12 dX12_feed_65 hS.o0 hS.r0_0 ?_
    refine C.getI fX12_115 dX12_feed_68 hS.o1 ?_
    refine C.iret hq dX12_feed_71 ?_
    exact ⟨t5.1.trans (by rw [List.length_append]; rfl), hC.tape t5 f5⟩
  · have hgt := n_nle hc13
    rw [if_neg (by omega), if_neg (by omega)] at hq
    refine C.aload_n dX12_feed_16 0 rfl ?_
    refine C.iconst (nI 0) dX12_feed_17 (by decide) ?_
    refine C.callVI lX12_118 dX12_feed_18 (kx_refuse hC (j := 0) (by decide)) hS.o0 rfl rfl (Nat.le_of_ble_eq_true rfl) (Nat.zero_le _) (Nat.zero_le _) (Nat.le_of_ble_eq_true rfl) (fun x18 μ18 h18 => ?_)
    obtain ⟨rfl, hPX⟩ := h18
    refine C.iret hq dX12_feed_21 ?_
    exact ⟨rfl, hPX⟩
theorem kx_end (hC : ClsRel μ h) (x : Int32) : AMet l G 1 0 0 mtX12_end [.ref (G.1 + 0), .int x] μ (qI (fun y μ' => y = endA h x ∧ PX μ (endH h x) μ')) := by
  refine AMet.of (by decide) (Nat.le_of_ble_eq_true rfl) (fun X C hX hnm hq => ?_)
  have hS := hC.1.1.1
  have hT := hC.1.2.1
  have h1600 := hT.2.1
  unfold endA endH at hq
  have no : inN x ((tpH h).length + 1) = none → AW l G X 0 0 15 [(0, .ref (G.1 + 0)), (1, .int x)] [] μ := by
    intro hn
    rw [hn] at hq
    refine C.aload_n dX12_end_15 0 rfl ?_
    refine C.iconst (nI 0) dX12_end_16 (by decide) ?_
    refine C.callVI lX12_126 dX12_end_17 (kx_denies hC (j := 0) (by decide)) hS.o0 rfl rfl (Nat.le_of_ble_eq_true rfl) (Nat.zero_le _) (Nat.zero_le _) (Nat.le_of_ble_eq_true rfl) (fun x17 μ17 h17 => ?_)
    obtain ⟨rfl, hPX⟩ := h17
    refine C.zret hq dX12_end_20 (by decide) ?_
    exact ⟨rfl, hPX⟩
  refine C.iload_n dX12_end_0 1 rfl ?_
  refine C.if_lt 15 dX12_end_1 rfl (fun hc1 => ?_) (fun hc1 => ?_)
  · exact no (inN_f (Or.inl hc1))
  · refine C.iload_n dX12_end_4 1 rfl ?_
    refine C.aload_n dX12_end_5 0 rfl ?_
    refine C.getO fX12_12 dX12_end_6 hS.o0 hS.r0_0 ?_
    refine C.getI fX12_115 dX12_end_9 hS.o1 ?_
    rw [hT.1]
    refine C.icmp_le 21 dX12_end_12 rfl (fun hc12 => ?_) (fun hc12 => ?_)
    · obtain ⟨j, hj, ej, e6⟩ := inN_t (x := x) (n := (tpH h).length + 1) (by omega) hc1 (fun z => by rw [i_le, nI_tI (by omega)] at z; rw [i_le, nI_tI (by omega)] at hc12; omega)
      rw [e6] at hq
      subst ej
      refine C.aload_n dX12_end_21 0 rfl ?_
      refine C.getO fX12_12 dX12_end_22 hS.o0 hS.r0_0 ?_
      refine C.iload_n dX12_end_25 1 rfl ?_
      refine C.putI fX12_115 (Or.inl rfl) dX12_end_26 hS.o1 ?_
      refine C.iconst (nI 1) dX12_end_29 (by decide) ?_
      refine C.zret hq dX12_end_30 (by decide) ?_
      exact ⟨rfl, hC.tape (hT.take (by omega)).1 (hT.take (by omega)).2⟩
    · exact no (inN_f (Or.inr (by rw [i_le, nI_tI (by omega)] at hc12; rw [i_le, nI_tI (by omega)]; omega)))
theorem kx_keepSeen (hC : ClsRel μ h) (hH : HOk h) (hok : seeOk h = true) : AMet l G 1 0 0 mtX12_keepSeen [.ref (G.1 + 0), .int (nI ((tpH h).length / 3))] μ (qV (fun μ' => CsW μ' (ldH h) (seeR h) ∧ μ'.2 = μ.2 ∧ ∀ a k, a ≠ 174 → ¬ (a = 0 ∧ k = 16) → mI μ' a k = mI μ a k)) := by
  refine AMet.of (by decide) (Nat.le_of_ble_eq_true rfl) (fun X C hX hnm hq => ?_)
  have hS0 := hC.1.1.1
  have hT0 := hC.1.2.1
  have h1600 := hT0.2.1
  obtain ⟨L, c, hL0⟩ := hC.2.2.2
  have hd7 := hH.d7
  unfold seeOk seeB at hok
  rw [Bool.and_eq_true, Bool.and_eq_true, decide_eq_true_iff, decide_eq_true_iff, List.all_eq_true] at hok
  obtain ⟨⟨hw, h0, h3, h12⟩, hall⟩ := hok
  have loop : ∀ (j i : Nat) (μ1 : Mm), i + j = (tpH h).length / 3 → μ1.2 = μ.2 → (∀ a k, a ≠ 174 → mI μ1 a k = mI μ a k) → (∀ k, k < i → mI μ1 174 (2 * k) = nI (txL (tpH h) (3 * k)) ∧ mI μ1 174 (2 * k + 1) = nI (kC (ldH h) (txL (tpH h) (3 * k + 1) + 7 * txL (tpH h) (3 * k + 2)))) → AW l G X 0 0 2 [(0, .ref (G.1 + 0)), (1, .int (nI ((tpH h).length / 3))), (2, .int (nI i))] [] μ1 := by
    intro j
    induction j with
    | zero =>
      intro i μ1 hi e2 eI hk
      have hS : ShC μ1 := hS0.of (by rw [e2])
      refine C.iload_n dX12_keepSeen_2 2 rfl ?_
      refine C.iload_n dX12_keepSeen_3 1 rfl ?_
      refine C.icmp_ge 72 dX12_keepSeen_4 rfl (fun hc4 => ?_) (fun hc4 => ?_)
      · refine C.aload_n dX12_keepSeen_72 0 rfl ?_
        refine C.iload_n dX12_keepSeen_73 1 rfl ?_
        refine C.putI fX12_144 (Or.inl rfl) dX12_keepSeen_74 hS.o0 ?_
        refine C.vret hq dX12_keepSeen_77 ?_
        refine ⟨⟨?_, fun k x q => ?_⟩, e2, fun a k q1 q2 => by rw [mI_sI, if_neg q2]; exact eI a k q1⟩
        · rw [mI_sI, if_pos ⟨rfl, rfl⟩]; unfold seeR; rw [List.length_map, List.length_range]
        · unfold seeR at q
          rw [List.getElem?_map] at q
          by_cases hkn : k < (tpH h).length / 3
          · rw [List.getElem?_range hkn] at q
            injection q with q
            subst q
            rw [mI_sI, if_neg (by omega), mI_sI, if_neg (by omega)]
            exact hk k (by omega)
          · rw [List.getElem?_eq_none (by rw [List.length_range]; omega)] at q; cases q
      · exact absurd (n_nle hc4 (by omega) (by omega)) (by omega)
    | succ j ih =>
      intro i μ1 hi e2 eI hk
      have hS : ShC μ1 := hS0.of (by rw [e2])
      have hT : CsT μ1 (tpH h) := hT0.of (eI _ _ (by omega)) (fun k => eI _ _ (by omega))
      have hL : CsL μ1 L c (ldH h) := hL0.of e2 (fun a k q => eI a k (by unfold InL at q; omega))
      have hg := hL.1
      have hR := hL.2.1
      have hgi := hall i (List.mem_range.mpr (by omega))
      unfold seeG at hgi
      rw [Bool.and_eq_true, Bool.and_eq_true, decide_eq_true_iff, decide_eq_true_iff, decide_eq_true_iff] at hgi
      obtain ⟨g1, g2, g3⟩ := hgi
      have hb : i < 12 := by omega
      have hkc : txL (tpH h) (3 * i + 2) * (ldH h).1.1 + txL (tpH h) (3 * i + 1) = kC (ldH h) (txL (tpH h) (3 * i + 1) + 7 * txL (tpH h) (3 * i + 2)) := by
        unfold kC
        rw [show (txL (tpH h) (3 * i + 1) + 7 * txL (tpH h) (3 * i + 2)) / 7 = txL (tpH h) (3 * i + 2) by omega, show (txL (tpH h) (3 * i + 1) + 7 * txL (tpH h) (3 * i + 2)) % 7 = txL (tpH h) (3 * i + 1) by omega]
      have e3 : ∀ a k, a ≠ 174 → mI (sI μ1 174 (2 * i) (nI (txL (tpH h) (3 * i)))) a k = mI μ1 a k := fun a k q => by rw [mI_sI, if_neg (fun z => q z.1)]
      have hT2 : CsT (sI μ1 174 (2 * i) (nI (txL (tpH h) (3 * i)))) (tpH h) := hT.of (e3 _ _ (by omega)) (fun k => e3 _ _ (by omega))
      have hL2 : CsL (sI μ1 174 (2 * i) (nI (txL (tpH h) (3 * i)))) L c (ldH h) := hL.of rfl (fun a k q => e3 a k (by unfold InL at q; omega))
      have hS2 : ShC (sI μ1 174 (2 * i) (nI (txL (tpH h) (3 * i)))) := hS.of rfl
      have hg2 := hL2.1
      refine C.iload_n dX12_keepSeen_2 2 rfl ?_
      refine C.iload_n dX12_keepSeen_3 1 rfl ?_
      refine C.icmp_ge 72 dX12_keepSeen_4 rfl (fun hc4 => ?_) (fun hc4 => ?_)
      · exact absurd (n_le hc4 (by omega) (by omega)) (by omega)
      · refine C.aload_n dX12_keepSeen_7 0 rfl ?_
        refine C.getA fX12_94 dX12_keepSeen_8 hS.o0 hS.r0_10 ?_
        refine C.iload_n dX12_keepSeen_11 2 rfl ?_
        refine C.iconst (nI 2) dX12_keepSeen_12 (by decide) ?_
        refine C.imul dX12_keepSeen_13 ?_
        refine C.aload_n dX12_keepSeen_14 0 rfl ?_
        refine C.getO fX12_12 dX12_keepSeen_15 hS.o0 hS.r0_0 ?_
        refine C.iload_n dX12_keepSeen_18 2 rfl ?_
        refine C.iconst (nI 3) dX12_keepSeen_19 (by decide) ?_
        refine C.imul dX12_keepSeen_20 ?_
        rw [pk_mul i 2, pk_mul i 3, Nat.mul_comm i 2, Nat.mul_comm i 3]
        refine C.callVI lX12_342 dX12_keepSeen_21 (kt_atN hS hT (k := 3 * i) (by omega)) hS.o1 rfl rfl (Nat.le_of_ble_eq_true rfl) (Nat.zero_le _) (Nat.zero_le _) (Nat.le_of_ble_eq_true rfl) (fun x21 μ21 h21 => ?_)
        obtain ⟨rfl, hμ⟩ := h21
        subst hμ
        refine C.iast hS.a174 (n_in (by omega)) dX12_keepSeen_24 ?_
        rw [n_cl]
        refine C.aload_n dX12_keepSeen_25 0 rfl ?_
        refine C.getA fX12_94 dX12_keepSeen_26 hS.o0 hS.r0_10 ?_
        refine C.iload_n dX12_keepSeen_29 2 rfl ?_
        refine C.iconst (nI 2) dX12_keepSeen_30 (by decide) ?_
        refine C.imul dX12_keepSeen_31 ?_
        refine C.iconst (nI 1) dX12_keepSeen_32 (by decide) ?_
        refine C.iadd dX12_keepSeen_33 ?_
        refine C.aload_n dX12_keepSeen_34 0 rfl ?_
        refine C.getO fX12_54 dX12_keepSeen_35 hS.o0 hg ?_
        refine C.aload_n dX12_keepSeen_38 0 rfl ?_
        refine C.getO fX12_12 dX12_keepSeen_39 hS.o0 hS.r0_0 ?_
        refine C.iload_n dX12_keepSeen_42 2 rfl ?_
        refine C.iconst (nI 3) dX12_keepSeen_43 (by decide) ?_
        refine C.imul dX12_keepSeen_44 ?_
        refine C.iconst (nI 1) dX12_keepSeen_45 (by decide) ?_
        refine C.iadd dX12_keepSeen_46 ?_
        rw [pk_mul i 2, pk_mul i 3, Nat.mul_comm i 2, Nat.mul_comm i 3, nI_add, nI_add]
        refine C.callVI lX12_342 dX12_keepSeen_47 (kt_atN hS2 hT2 (k := 3 * i + 1) (by omega)) hS.o1 rfl rfl (Nat.le_of_ble_eq_true rfl) (Nat.zero_le _) (Nat.zero_le _) (Nat.le_of_ble_eq_true rfl) (fun x47 μ47 h47 => ?_)
        obtain ⟨rfl, hμ⟩ := h47
        subst hμ
        refine C.aload_n dX12_keepSeen_50 0 rfl ?_
        refine C.getO fX12_12 dX12_keepSeen_51 hS.o0 hS.r0_0 ?_
        refine C.iload_n dX12_keepSeen_54 2 rfl ?_
        refine C.iconst (nI 3) dX12_keepSeen_55 (by decide) ?_
        refine C.imul dX12_keepSeen_56 ?_
        refine C.iconst (nI 2) dX12_keepSeen_57 (by decide) ?_
        refine C.iadd dX12_keepSeen_58 ?_
        rw [pk_mul i 3, Nat.mul_comm i 3, nI_add]
        refine C.callVI lX12_342 dX12_keepSeen_59 (kt_atN hS2 hT2 (k := 3 * i + 2) (by omega)) hS.o1 rfl rfl (Nat.le_of_ble_eq_true rfl) (Nat.zero_le _) (Nat.zero_le _) (Nat.le_of_ble_eq_true rfl) (fun x59 μ59 h59 => ?_)
        obtain ⟨rfl, hμ⟩ := h59
        subst hμ
        refine C.callVI lX12_213 dX12_keepSeen_62 (kl_cellAt hL2.2.1.o (nI (txL (tpH h) (3 * i + 1))) (nI (txL (tpH h) (3 * i + 2)))) hR.o rfl rfl (Nat.le_of_ble_eq_true rfl) (Nat.zero_le _) (Nat.zero_le _) (Nat.le_of_ble_eq_true rfl) (fun x62 μ62 h62 => ?_)
        obtain ⟨rfl, hμ⟩ := h62
        subst hμ
        rw [hL2.2.1.2.1.1.1, pk_mul, nI_add, hkc]
        refine C.iast hS.a174 (n_in (by omega)) dX12_keepSeen_65 ?_
        rw [n_cl]
        refine C.iinc (lv' := [(0, _), (1, _), (2, _)]) _ dX12_keepSeen_66 2 rfl rfl (nLt hX rfl) rfl ?_
        refine C.goto 2 dX12_keepSeen_69 rfl ?_
        rw [show ∀ z, nI z + Int32.ofInt 1 = nI (z + 1) from fun z => nI_1 z]
        refine ih (i + 1) _ (by omega) e2 (fun a k q => ?_) (fun k q => ?_)
        · rw [mI_sI, if_neg (fun z => q z.1)]; exact (e3 a k q).trans (eI a k q)
        · rw [mI_sI, mI_sI, mI_sI, mI_sI]
          by_cases hki : k = i
          · subst hki
            rw [if_neg (by omega), if_pos ⟨rfl, rfl⟩, if_pos ⟨rfl, rfl⟩]
            exact ⟨rfl, rfl⟩
          · rw [if_neg (by omega), if_neg (by omega), if_neg (by omega), if_neg (by omega)]
            exact hk k (by omega)
  refine C.iconst (nI 0) dX12_keepSeen_0 (by decide) ?_
  refine C.istore_n (lv' := [(0, _), (1, _), (2, _)]) dX12_keepSeen_1 (nLt hX rfl) rfl ?_
  exact loop _ 0 μ (Nat.zero_add _) rfl (fun _ _ _ => rfl) (fun k q => absurd q (Nat.not_lt_zero k))
theorem kx_see (hC : ClsRel μ h) (hH : HOk h) : AMet l G 2 0 0 mtX12_see [.ref (G.1 + 0)] μ (qI (fun y μ' => y = seeA h ∧ PX μ (seeH h) μ')) := by
  refine AMet.of (by decide) (Nat.le_of_ble_eq_true rfl) (fun X C hX hnm hq => ?_)
  have hS := hC.1.1.1
  have hT := hC.1.2.1
  have h1600 := hT.2.1
  obtain ⟨L, c, hL⟩ := hC.2.2.2
  have hg := hL.1
  have hR := hL.2.1
  have hd7 := hH.d7
  unfold seeA seeH at hq
  have fin : ∀ (b : Bool) (i : Int32), seeOk h = b → AW l G X 0 0 122 [(0, .ref (G.1 + 0)), (1, .int (nI ((tpH h).length / 3))), (2, .int (bI b)), (3, .int i)] [] μ := by
    intro b i hb
    rw [hb] at hq
    cases b with
    | true =>
      refine C.iload_n dX12_see_122 2 rfl ?_
      refine C.if_eq 131 dX12_see_123 rfl (fun hc123 => ?_) (fun hc123 => ?_)
      · exact absurd hc123 (by decide)
      · refine C.aload_n dX12_see_126 0 rfl ?_
        refine C.iload_n dX12_see_127 1 rfl ?_
        refine C.callVV lX12_345 dX12_see_128 (kx_keepSeen hC hH hb) hS.o0 rfl rfl (Nat.le_of_ble_eq_true rfl) (Nat.zero_le _) (Nat.zero_le _) (Nat.le_of_ble_eq_true rfl) (fun μ128 h128 => ?_)
        obtain ⟨k1, k2, k3⟩ := h128
        have hS : ShC μ128 := hS.of (by rw [k2])
        have hT2 : CsT μ128 (tpH h) := hT.of (k3 _ _ (by omega) (by omega)) (fun k => k3 _ _ (by omega) (by omega))
        refine C.aload_n dX12_see_131 0 rfl ?_
        refine C.getO fX12_12 dX12_see_132 hS.o0 hS.r0_0 ?_
        refine C.iconst (nI 0) dX12_see_135 (by decide) ?_
        refine C.putI fX12_115 (Or.inl rfl) dX12_see_136 hS.o1 ?_
        refine C.iload_n dX12_see_139 2 rfl ?_
        refine C.if_eq 147 dX12_see_140 rfl (fun hc140 => ?_) (fun hc140 => ?_)
        · exact absurd hc140 (by decide)
        · refine C.iload_n dX12_see_143 1 rfl ?_
          refine C.goto 152 dX12_see_144 rfl ?_
          refine C.iret hq dX12_see_152 ?_
          have e : ∀ a k, a ≠ 1 → a ≠ 174 → ¬ (a = 0 ∧ k = 16) → mI (sI μ128 1 1 (nI 0)) a k = mI μ a k := fun a k q1 q2 q3 => by rw [mI_sI, if_neg (fun z => q1 z.1)]; exact k3 a k q2 q3
          exact ⟨rfl, hC.up (h' := ([], flH h, rfH h, ldH h, stH h, psH h, seeR h, ocH h, sdH h)) ⟨k2, fun k => e _ _ (by omega) (by omega) (by omega), fun a k q => e a k (by unfold InL at q; omega) (by unfold InL at q; omega) (by unfold InL at q; omega)⟩ rfl hT2.zero.1 (hC.1.2.2.1.of (e _ _ (by omega) (by omega) (by omega)) (e _ _ (by omega) (by omega) (by omega))) (hC.1.2.2.2.of (fun k => e _ _ (by omega) (by omega) (by omega))) (hC.2.1.1.of (fun a k q1 q2 => e a k (by omega) (by omega) (by omega))) (hC.2.1.2.of (fun a k q1 q2 => e a k (by omega) (by omega) (by omega))) (k1.of (by rw [mI_sI, if_neg (by omega)]) (fun k => by rw [mI_sI, if_neg (by omega)])) (hC.2.2.1.2.1.of (e _ _ (by omega) (by omega) (by omega)) (fun k => e _ _ (by omega) (by omega) (by omega))) (hC.2.2.1.2.2.of (e _ _ (by omega) (by omega) (by omega)))⟩
    | false =>
      have hP := hC.tape hT.zero.1 hT.zero.2
      refine C.iload_n dX12_see_122 2 rfl ?_
      refine C.if_eq 131 dX12_see_123 rfl (fun hc123 => ?_) (fun hc123 => ?_)
      · refine C.aload_n dX12_see_131 0 rfl ?_
        refine C.getO fX12_12 dX12_see_132 hS.o0 hS.r0_0 ?_
        refine C.iconst (nI 0) dX12_see_135 (by decide) ?_
        refine C.putI fX12_115 (Or.inl rfl) dX12_see_136 hS.o1 ?_
        refine C.iload_n dX12_see_139 2 rfl ?_
        refine C.if_eq 147 dX12_see_140 rfl (fun hc140 => ?_) (fun hc140 => ?_)
        · refine C.aload_n dX12_see_147 0 rfl ?_
          refine C.iconst (nI 1) dX12_see_148 (by decide) ?_
          refine C.callVI lX12_118 dX12_see_149 (kx_refuse hP.1 (j := 1) (by decide)) hS.o0 rfl rfl (Nat.le_of_ble_eq_true rfl) (Nat.zero_le _) (Nat.zero_le _) (Nat.le_of_ble_eq_true rfl) (fun x149 μ149 h149 => ?_)
          obtain ⟨rfl, hPX⟩ := h149
          refine C.iret hq dX12_see_152 ?_
          exact ⟨rfl, hP.trans hPX⟩
        · exact absurd rfl hc140
      · exact absurd rfl hc123
  have loop : ∀ (j i : Nat) (b : Bool), i + j = (tpH h).length / 3 → (seeB h && (List.range i).all (seeG h)) = b → AW l G X 0 0 52 [(0, .ref (G.1 + 0)), (1, .int (nI ((tpH h).length / 3))), (2, .int (bI b)), (3, .int (nI i))] [] μ := by
    clear hq
    intro j
    induction j with
    | zero =>
      intro i b hi hb
      refine C.iload_n dX12_see_52 3 rfl ?_
      refine C.iload_n dX12_see_53 1 rfl ?_
      refine C.icmp_ge 122 dX12_see_54 rfl (fun hc54 => ?_) (fun hc54 => ?_)
      · exact fin b _ (by rw [← hb]; unfold seeOk; rw [← hi]; rfl)
      · exact absurd (n_nle hc54 (by omega) (by omega)) (by omega)
    | succ j ih =>
      intro i b hi hb
      cases b with
      | false =>
        refine C.iload_n dX12_see_52 3 rfl ?_
        refine C.iload_n dX12_see_53 1 rfl ?_
        refine C.icmp_ge 122 dX12_see_54 rfl (fun hc54 => ?_) (fun hc54 => ?_)
        · exact absurd (n_le hc54 (by omega) (by omega)) (by omega)
        · refine C.iload_n dX12_see_57 2 rfl ?_
          refine C.if_eq 122 dX12_see_58 rfl (fun hc58 => ?_) (fun hc58 => ?_)
          · refine fin false _ ?_
            unfold seeOk
            rw [Bool.and_eq_false_iff] at hb ⊢
            exact hb.imp id (all_lt (by omega))
          · exact absurd rfl hc58
      | true =>
        rw [Bool.and_eq_true] at hb
        obtain ⟨hb1, hb2⟩ := hb
        have hb3 := hb1
        unfold seeB at hb3
        rw [Bool.and_eq_true, decide_eq_true_iff, decide_eq_true_iff] at hb3
        obtain ⟨hw, h0, h3, h12⟩ := hb3
        have hnx : ∀ g, seeG h i = g → (seeB h && (List.range (i + 1)).all (seeG h)) = g := fun g hg => by
          rw [List.range_succ, List.all_append, hb1, hb2]
          simp [hg]
        have v1 := (hT.2.2 (3 * i) _ (txL_q (by omega))).2
        have v2 := (hT.2.2 (3 * i + 1) _ (txL_q (by omega))).2
        have v3 := (hT.2.2 (3 * i + 2) _ (txL_q (by omega))).2
        refine C.iload_n dX12_see_52 3 rfl ?_
        refine C.iload_n dX12_see_53 1 rfl ?_
        refine C.icmp_ge 122 dX12_see_54 rfl (fun hc54 => ?_) (fun hc54 => ?_)
        · exact absurd (n_le hc54 (by omega) (by omega)) (by omega)
        · refine C.iload_n dX12_see_57 2 rfl ?_
          refine C.if_eq 122 dX12_see_58 rfl (fun hc58 => ?_) (fun hc58 => ?_)
          · exact absurd hc58 (by decide)
          · refine C.aload_n dX12_see_61 0 rfl ?_
            refine C.getO fX12_12 dX12_see_62 hS.o0 hS.r0_0 ?_
            refine C.iload_n dX12_see_65 3 rfl ?_
            refine C.iconst (nI 3) dX12_see_66 (by decide) ?_
            refine C.imul dX12_see_67 ?_
            rw [pk_mul i 3, Nat.mul_comm i 3]
            refine C.callVI lX12_342 dX12_see_68 (kt_atN hS hT (k := 3 * i) (by omega)) hS.o1 rfl rfl (Nat.le_of_ble_eq_true rfl) (Nat.zero_le _) (Nat.zero_le _) (Nat.le_of_ble_eq_true rfl) (fun x68 μ68 h68 => ?_)
            obtain ⟨rfl, hμ⟩ := h68
            subst hμ
            refine C.bipush (nI 12) dX12_see_71 (by decide) ?_
            refine C.icmp_ge 114 dX12_see_73 rfl (fun hc73 => ?_) (fun hc73 => ?_)
            · have h73 := n_le hc73
              have hgi : seeG h i = false := by unfold seeG; rw [decide_eq_false (by omega)]; rfl
              refine C.iconst (nI 0) dX12_see_114 (by decide) ?_
              refine C.istore_n (lv' := [(0, _), (1, _), (2, _), (3, _)]) dX12_see_115 (nLt hX rfl) rfl ?_
              refine C.iinc (lv' := [(0, _), (1, _), (2, _), (3, _)]) _ dX12_see_116 3 rfl rfl (nLt hX rfl) rfl ?_
              refine C.goto 52 dX12_see_119 rfl ?_
              rw [show ∀ z, nI z + Int32.ofInt 1 = nI (z + 1) from fun z => nI_1 z]
              exact ih (i + 1) _ (by omega) (hnx _ hgi)
            · have h73 := n_nle hc73
              refine C.aload_n dX12_see_76 0 rfl ?_
              refine C.getO fX12_54 dX12_see_77 hS.o0 hg ?_
              refine C.aload_n dX12_see_80 0 rfl ?_
              refine C.getO fX12_12 dX12_see_81 hS.o0 hS.r0_0 ?_
              refine C.iload_n dX12_see_84 3 rfl ?_
              refine C.iconst (nI 3) dX12_see_85 (by decide) ?_
              refine C.imul dX12_see_86 ?_
              refine C.iconst (nI 1) dX12_see_87 (by decide) ?_
              refine C.iadd dX12_see_88 ?_
              rw [pk_mul i 3, Nat.mul_comm i 3, nI_add]
              refine C.callVI lX12_342 dX12_see_89 (kt_atN hS hT (k := 3 * i + 1) (by omega)) hS.o1 rfl rfl (Nat.le_of_ble_eq_true rfl) (Nat.zero_le _) (Nat.zero_le _) (Nat.le_of_ble_eq_true rfl) (fun x89 μ89 h89 => ?_)
              obtain ⟨rfl, hμ⟩ := h89
              subst hμ
              refine C.aload_n dX12_see_92 0 rfl ?_
              refine C.getO fX12_12 dX12_see_93 hS.o0 hS.r0_0 ?_
              refine C.iload_n dX12_see_96 3 rfl ?_
              refine C.iconst (nI 3) dX12_see_97 (by decide) ?_
              refine C.imul dX12_see_98 ?_
              refine C.iconst (nI 2) dX12_see_99 (by decide) ?_
              refine C.iadd dX12_see_100 ?_
              rw [pk_mul i 3, Nat.mul_comm i 3, nI_add]
              refine C.callVI lX12_342 dX12_see_101 (kt_atN hS hT (k := 3 * i + 2) (by omega)) hS.o1 rfl rfl (Nat.le_of_ble_eq_true rfl) (Nat.zero_le _) (Nat.zero_le _) (Nat.le_of_ble_eq_true rfl) (fun x101 μ101 h101 => ?_)
              obtain ⟨rfl, hμ⟩ := h101
              subst hμ
              refine C.callVI lX12_209 dX12_see_104 (kl_holds hR.o hR.2.1.1.1 hR.2.1.1.2.1 (by omega) (by omega) (nI (txL (tpH h) (3 * i + 1))) (nI (txL (tpH h) (3 * i + 2)))) hR.o rfl rfl (Nat.le_of_ble_eq_true rfl) (Nat.zero_le _) (Nat.zero_le _) (Nat.le_of_ble_eq_true rfl) (fun x104 μ104 h104 => ?_)
              obtain ⟨hz, hμ⟩ := h104
              subst hμ
              subst hz
              have hso : ∀ a n : Nat, a < 256 → n < 1000 → (inN (nI a) n).isSome = decide (a < n) := fun a n q q2 => by
                rw [inN_n (by omega) (by omega)]
                by_cases z : a < n
                · rw [if_pos z, decide_eq_true z]; rfl
                · rw [if_neg z, decide_eq_false z]; rfl
              rw [hso _ _ v2 (by omega), hso _ _ v3 (by omega)]
              have hG : seeG h i = (decide (txL (tpH h) (3 * i + 1) < (ldH h).1.1) && decide (txL (tpH h) (3 * i + 2) < (ldH h).1.2.1)) := by unfold seeG; rw [decide_eq_true h73]; rfl
              rw [← hG]
              refine C.if_eq 114 dX12_see_107 rfl (fun hc107 => ?_) (fun hc107 => ?_)
              · have hgi : seeG h i = false := by cases hz : seeG h i with | false => rfl | true => rw [hz] at hc107; exact absurd hc107 (by decide)
                refine C.iconst (nI 0) dX12_see_114 (by decide) ?_
                refine C.istore_n (lv' := [(0, _), (1, _), (2, _), (3, _)]) dX12_see_115 (nLt hX rfl) rfl ?_
                refine C.iinc (lv' := [(0, _), (1, _), (2, _), (3, _)]) _ dX12_see_116 3 rfl rfl (nLt hX rfl) rfl ?_
                refine C.goto 52 dX12_see_119 rfl ?_
                rw [show ∀ z, nI z + Int32.ofInt 1 = nI (z + 1) from fun z => nI_1 z]
                exact ih (i + 1) _ (by omega) (hnx _ hgi)
              · have hgi : seeG h i = true := by cases hz : seeG h i with | true => rfl | false => rw [hz] at hc107; exact absurd rfl hc107
                refine C.iconst (nI 1) dX12_see_110 (by decide) ?_
                refine C.goto 115 dX12_see_111 rfl ?_
                refine C.istore_n (lv' := [(0, _), (1, _), (2, _), (3, _)]) dX12_see_115 (nLt hX rfl) rfl ?_
                refine C.iinc (lv' := [(0, _), (1, _), (2, _), (3, _)]) _ dX12_see_116 3 rfl rfl (nLt hX rfl) rfl ?_
                refine C.goto 52 dX12_see_119 rfl ?_
                rw [show ∀ z, nI z + Int32.ofInt 1 = nI (z + 1) from fun z => nI_1 z]
                exact ih (i + 1) _ (by omega) (hnx _ hgi)
  have go : ∀ b, seeB h = b → AW l G X 0 0 52 [(0, .ref (G.1 + 0)), (1, .int (nI ((tpH h).length / 3))), (2, .int (bI b)), (3, .int (nI 0))] [] μ := fun b hb => loop _ 0 b (Nat.zero_add _) (by rw [hb]; simp)
  refine C.aload_n dX12_see_0 0 rfl ?_
  refine C.getO fX12_12 dX12_see_1 hS.o0 hS.r0_0 ?_
  refine C.getI fX12_115 dX12_see_4 hS.o1 ?_
  refine C.iconst (nI 3) dX12_see_7 (by decide) ?_
  rw [hT.1]
  refine C.idiv dX12_see_8 (by decide) ?_
  rw [pk_div (by omega) (by decide) (by decide)]
  refine C.istore_n (lv' := [(0, _), (1, _)]) dX12_see_9 (nLt hX rfl) rfl ?_
  refine C.aload_n dX12_see_10 0 rfl ?_
  refine C.getO fX12_54 dX12_see_11 hS.o0 hg ?_
  refine C.callVI lX12_271 dX12_see_14 (kl_stands hR.o hR.2.1.1.1 (by omega)) hR.o rfl rfl (Nat.le_of_ble_eq_true rfl) (Nat.zero_le _) (Nat.zero_le _) (Nat.le_of_ble_eq_true rfl) (fun x14 μ14 h14 => ?_)
  obtain ⟨rfl, hμ⟩ := h14
  subst hμ
  refine C.if_eq 48 dX12_see_17 rfl (fun hc17 => ?_) (fun hc17 => ?_)
  · have hw : ¬ 0 < (ldH h).1.1 := fun z => by rw [decide_eq_true z] at hc17; exact absurd hc17 (by decide)
    have hb : seeB h = false := by unfold seeB; rw [decide_eq_false hw]; rfl
    refine C.iconst (nI 0) dX12_see_48 (by decide) ?_
    refine C.istore_n (lv' := [(0, _), (1, _), (2, _)]) dX12_see_49 (nLt hX rfl) rfl ?_
    refine C.iconst (nI 0) dX12_see_50 (by decide) ?_
    refine C.istore_n (lv' := [(0, _), (1, _), (2, _), (3, _)]) dX12_see_51 (nLt hX rfl) rfl ?_
    first | exact go false hb | exact go true hb
  · have hw : 0 < (ldH h).1.1 := Decidable.byContradiction (fun z => by rw [decide_eq_false z] at hc17; exact absurd rfl hc17)
    refine C.iload_n dX12_see_20 1 rfl ?_
    refine C.iconst (nI 1) dX12_see_21 (by decide) ?_
    refine C.icmp_lt 48 dX12_see_22 rfl (fun hc22 => ?_) (fun hc22 => ?_)
    · have h22 := n_lt hc22
      have hb : seeB h = false := by unfold seeB; rw [decide_eq_false (p := _ ∧ _) (by omega), Bool.and_false]
      refine C.iconst (nI 0) dX12_see_48 (by decide) ?_
      refine C.istore_n (lv' := [(0, _), (1, _), (2, _)]) dX12_see_49 (nLt hX rfl) rfl ?_
      refine C.iconst (nI 0) dX12_see_50 (by decide) ?_
      refine C.istore_n (lv' := [(0, _), (1, _), (2, _), (3, _)]) dX12_see_51 (nLt hX rfl) rfl ?_
      first | exact go false hb | exact go true hb
    · have h22 := n_nlt hc22
      refine C.iload_n dX12_see_25 1 rfl ?_
      refine C.bipush (nI 12) dX12_see_26 (by decide) ?_
      refine C.icmp_gt 48 dX12_see_28 rfl (fun hc28 => ?_) (fun hc28 => ?_)
      · have h28 := n_lt hc28
        have hb : seeB h = false := by unfold seeB; rw [decide_eq_false (p := _ ∧ _) (by omega), Bool.and_false]
        refine C.iconst (nI 0) dX12_see_48 (by decide) ?_
        refine C.istore_n (lv' := [(0, _), (1, _), (2, _)]) dX12_see_49 (nLt hX rfl) rfl ?_
        refine C.iconst (nI 0) dX12_see_50 (by decide) ?_
        refine C.istore_n (lv' := [(0, _), (1, _), (2, _), (3, _)]) dX12_see_51 (nLt hX rfl) rfl ?_
        first | exact go false hb | exact go true hb
      · have h28 := n_nlt hc28
        refine C.iload_n dX12_see_31 1 rfl ?_
        refine C.iconst (nI 3) dX12_see_32 (by decide) ?_
        refine C.imul dX12_see_33 ?_
        refine C.aload_n dX12_see_34 0 rfl ?_
        refine C.getO fX12_12 dX12_see_35 hS.o0 hS.r0_0 ?_
        refine C.getI fX12_115 dX12_see_38 hS.o1 ?_
        rw [pk_mul, hT.1]
        refine C.icmp_ne 48 dX12_see_41 rfl (fun hc41 => ?_) (fun hc41 => ?_)
        · have h41 := n_ne hc41
          have hb : seeB h = false := by unfold seeB; rw [decide_eq_false (p := _ ∧ _) (by omega), Bool.and_false]
          refine C.iconst (nI 0) dX12_see_48 (by decide) ?_
          refine C.istore_n (lv' := [(0, _), (1, _), (2, _)]) dX12_see_49 (nLt hX rfl) rfl ?_
          refine C.iconst (nI 0) dX12_see_50 (by decide) ?_
          refine C.istore_n (lv' := [(0, _), (1, _), (2, _), (3, _)]) dX12_see_51 (nLt hX rfl) rfl ?_
          first | exact go false hb | exact go true hb
        · have h41 := n_eq hc41
          have hb : seeB h = true := by unfold seeB; rw [decide_eq_true hw, decide_eq_true (p := _ ∧ _) (by omega)]; rfl
          refine C.iconst (nI 1) dX12_see_44 (by decide) ?_
          refine C.goto 49 dX12_see_45 rfl ?_
          refine C.istore_n (lv' := [(0, _), (1, _), (2, _)]) dX12_see_49 (nLt hX rfl) rfl ?_
          refine C.iconst (nI 0) dX12_see_50 (by decide) ?_
          refine C.istore_n (lv' := [(0, _), (1, _), (2, _), (3, _)]) dX12_see_51 (nLt hX rfl) rfl ?_
          first | exact go false hb | exact go true hb
end KXS
