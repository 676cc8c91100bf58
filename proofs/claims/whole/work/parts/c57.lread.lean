/-! the class: a chapel, a bell, a walker read -/
section KLR
variable {l : Launch} {G : Gm} {μ : Mm} {tp : List Nat} {s : Ps} {L : Nat} {f g : Nat → Nat} {d : Ld}
theorem RqF.rd {μ μ' : Mm} {tx : Nat → Nat} {e : Nat} {s : Ps} (h : RD μ tx e s) (hI : ∀ k, mI μ' 3 k = mI μ 3 k) : RD μ' tx e s := h.ph hI
theorem rChap_2 {tx : Nat → Nat} {e : Nat} {bg : Int32} (hl : d.2.1.length < 10) : (rChap tx e d s bg).2 = mBadN (mCell tx e s (nI d.1.1) (nI d.1.2.1)).2 (d.2.1.any (fun x => decide (x = nn (mCell tx e s (nI d.1.1) (nI d.1.2.1)).1)) || decide (nn (mCell tx e s (nI d.1.1) (nI d.1.2.1)).1 = d.1.2.2)) := by
  unfold rChap
  rw [mFull_n (by omega) (by omega)]
  dsimp only
  by_cases hz : s.2.2.1 = 0
  · rw [if_pos hz]
    split <;> rfl
  · rw [if_neg hz]
    have e1 : (mCell tx e s (nI d.1.1) (nI d.1.2.1)).2 = s := by
      unfold mCell mNum
      simp only [if_neg hz]
    rw [e1, mBadN_b hz]
theorem rChap_1 {tx : Nat → Nat} {e : Nat} {bg : Int32} (hl : d.2.1.length < 10) (h : (rChap tx e d s bg).2.2.2.1 = 0) : (rChap tx e d s bg).1 = (d.1, d.2.1 ++ [nn (mCell tx e s (nI d.1.1) (nI d.1.2.1)).1], d.2.2) := by
  have h2 := h
  rw [rChap_2 hl] at h2
  have hz : s.2.2.1 = 0 := mCell_bad _ _ _ (mBadN_bad _ _ h2).1
  unfold rChap
  rw [mFull_n (by omega) (by omega)]
  dsimp only
  rw [if_pos hz, if_pos h2]

theorem kr_readChapel (hC : CsB μ) (hT : CsT μ tp) (hR : RD μ (txL tp) tp.length s) (hP : PsOk tp.length s) (hG : LgR μ L f g d) (hW : Wf d) (hl : d.2.1.length < 10) (bg : Int32) : AMet l G 3 0 0 mtX3_readChapel [.ref (G.1 + 7), .ref (G.1 + L)] μ (qV (fun μ' => StQ μ tp L f g (rChap (txL tp) tp.length d s bg) μ')) := by
  refine AMet.of (by decide) (Nat.le_of_ble_eq_true rfl) (fun X C hX hnm hq => ?_)
  have hS := hC.1
  have hO := hG.o
  have hL := hG.2.1
  have hW7 := hW.1.2.1
  have hW2 := hW.1.1
  have hH7 := hW.1.2.2.2.1
  have hH2 := hW.1.2.2.1
  have h49 := hW.n49.2
  have i0 : mI μ L 0 = nI d.1.1 := hG.1.2.1.1.1
  have i1 : mI μ L 1 = nI d.1.2.1 := hG.1.2.1.1.2.1
  have i2 : mI μ L 2 = nI (kC d d.1.2.2) := hG.1.2.1.1.2.2
  have l10 : mL μ L 10 = lN (chB d) := hG.1.2.2.1.1
  have m79 : ∀ (M : Mm) (x y : Nat) (v2 v3 v4 : Int32), x < d.1.1 → y < d.1.2.1 → RqF μ M → RD M (txL tp) tp.length (rChap (txL tp) tp.length d s bg).2 → ((rChap (txL tp) tp.length d s bg).2.2.2.1 = 0 → x + 7 * y ∉ d.2.1 ∧ (rChap (txL tp) tp.length d s bg).1 = (d.1, d.2.1 ++ [x + 7 * y], d.2.2)) → AW l G X 0 0 79 [(0, .ref (G.1 + 7)), (1, .ref (G.1 + L)), (2, .int v2), (3, .int v3), (4, .int v4), (5, .int (nI (kC d (x + 7 * y))))] [] M := by
    intro M x y v2 v3 v4 hx hy hq' hRD hok
    have hcl : clOk d (x + 7 * y) := clOk_xy hx hy hW7
    have hkl := kC_lt hcl
    have hO : isO M L 2 := hO.grw (Grw.of (by rw [hq'.1]))
    have l10 : mL M L 10 = lN (chB d) := by unfold mL; rw [hq'.1]; exact l10
    refine C.aload_n dX3_readChapel_79 1 rfl ?_
    refine C.dup dX3_readChapel_80 rfl ?_
    refine C.getL fX3_111 dX3_readChapel_81 hO ?_
    rw [l10]
    refine C.lconst (lN 1) dX3_readChapel_84 (by decide) ?_
    refine C.iload dX3_readChapel_85 5 rfl ?_
    refine C.lshl dX3_readChapel_87 ?_
    rw [wb_shl 1 (by omega), Nat.one_mul]
    refine C.lor dX3_readChapel_88 ?_
    rw [fb_orL]
    refine C.putL fX3_111 (Or.inl rfl) dX3_readChapel_89 hO ?_
    refine C.vret hq dX3_readChapel_92 ?_
    have hp3 : PsOk tp.length (rChap (txL tp) tp.length d s bg).2 := by rw [rChap_2 hl]; exact (hP.cell _ _).badN _
    refine ⟨hRD.ph (fun k => rfl), hp3, (LnF.q L hq').trans (LnF.w (fun a k _ => rfl) (fun a k q => by rw [mL_sL, if_neg (by omega)]) rfl), hO, hq'.2 _ _ (by omega), fun hz => ?_⟩
    obtain ⟨o1, o2⟩ := hok hz
    rw [o2]
    exact (hq'.lg hG).chap hW7 hcl o1
  refine C.aload_n dX3_readChapel_0 0 rfl ?_
  refine C.getO fX3_9 dX3_readChapel_1 hS.o7 hS.r7_0 ?_
  refine C.iconst (nI 0) dX3_readChapel_4 (by decide) ?_
  refine C.aload_n dX3_readChapel_5 1 rfl ?_
  refine C.getI fX3_132 dX3_readChapel_6 hO ?_
  rw [i0]
  refine C.iconst (nI 1) dX3_readChapel_9 (by decide) ?_
  refine C.isub dX3_readChapel_10 ?_
  refine C.callVI lX3_56 dX3_readChapel_11 (kw_takeNumber hS hT hR (nI 0) (nI d.1.1 - nI 1)) hS.o3 rfl rfl (Nat.le_of_ble_eq_true rfl) (Nat.zero_le _) (Nat.zero_le _) (Nat.le_of_ble_eq_true rfl) (fun x11 μ11 h11 => ?_)
  obtain ⟨h11a, h11b, h11c⟩ := h11
  have hS := h11c.sh hS
  have hO := hO.grw (Grw.of (show μ11.2.2.2 = μ.2.2.2 by rw [h11c.1]))
  have i0' : mI μ11 L 0 = nI d.1.1 := (h11c.2 _ _ (by omega)).trans i0
  have i1' : mI μ11 L 1 = nI d.1.2.1 := (h11c.2 _ _ (by omega)).trans i1
  refine C.istore_n (lv' := [(0, _), (1, _), (2, _)]) dX3_readChapel_14 (nLt hX rfl) rfl ?_
  refine C.aload_n dX3_readChapel_15 0 rfl ?_
  refine C.getO fX3_9 dX3_readChapel_16 hS.o7 hS.r7_0 ?_
  refine C.getI fX3_32 dX3_readChapel_19 hS.o3 ?_
  refine C.istore_n (lv' := [(0, _), (1, _), (2, _), (3, _)]) dX3_readChapel_22 (nLt hX rfl) rfl ?_
  refine C.aload_n dX3_readChapel_23 0 rfl ?_
  refine C.getO fX3_9 dX3_readChapel_24 hS.o7 hS.r7_0 ?_
  refine C.iconst (nI 0) dX3_readChapel_27 (by decide) ?_
  refine C.aload_n dX3_readChapel_28 1 rfl ?_
  refine C.getI fX3_135 dX3_readChapel_29 hO ?_
  rw [i1']
  refine C.iconst (nI 1) dX3_readChapel_32 (by decide) ?_
  refine C.isub dX3_readChapel_33 ?_
  refine C.callVI lX3_56 dX3_readChapel_34 (kw_takeNumber hS (h11c.t hT) h11b (nI 0) (nI d.1.2.1 - nI 1)) hS.o3 rfl rfl (Nat.le_of_ble_eq_true rfl) (Nat.zero_le _) (Nat.zero_le _) (Nat.le_of_ble_eq_true rfl) (fun x34 μ34 h34 => ?_)
  obtain ⟨h34a, h34b, h34c⟩ := h34
  have hS := h34c.sh hS
  have hq34 := h11c.trans h34c
  have hO := hO.grw (Grw.of (show μ34.2.2.2 = μ11.2.2.2 by rw [h34c.1]))
  have i0'' : mI μ34 L 0 = nI d.1.1 := (h34c.2 _ _ (by omega)).trans i0'
  have i2' : mI μ34 L 2 = nI (kC d d.1.2.2) := (hq34.2 _ _ (by omega)).trans i2
  have l10' : mL μ34 L 10 = lN (chB d) := by unfold mL; rw [hq34.1]; exact l10
  have hx : ∃ x, x < d.1.1 ∧ x11 = nI x ∧ ((mNum (txL tp) tp.length s (nI 0) (nI d.1.1 - nI 1)).2.2.2.1 = 0 → (mNum (txL tp) tp.length s (nI 0) (nI d.1.1 - nI 1)).1 = nI x) := by
    rw [pk_sub (by omega)] at h11a ⊢
    by_cases hz : (mNum (txL tp) tp.length s (nI 0) (nI (d.1.1 - 1))).2.2.2.1 = 0
    · obtain ⟨v, -, q2, -, q4⟩ := mNum_ok s (by omega) (by omega) hz
      rw [if_pos hz, q4] at h11a
      exact ⟨v, by omega, h11a, fun _ => q4⟩
    · rw [if_neg hz] at h11a
      exact ⟨0, by omega, h11a, fun q => absurd q hz⟩
  have hnp : (mNum (txL tp) tp.length (mNum (txL tp) tp.length s (nI 0) (nI d.1.1 - nI 1)).2 (nI 0) (nI d.1.2.1 - nI 1)).2.2.2.1 = 0 → (mNum (txL tp) tp.length (mNum (txL tp) tp.length s (nI 0) (nI d.1.1 - nI 1)).2 (nI 0) (nI d.1.2.1 - nI 1)).2.2.2.2.2.1 = mI μ11 3 4 := fun z => by rw [mNum_np z]; exact ((h11b.1 (mNum_bad _ _ _ z)).2.2.1).symm
  have hcell : ∀ x y, (mNum (txL tp) tp.length (mNum (txL tp) tp.length s (nI 0) (nI d.1.1 - nI 1)).2 (nI 0) (nI d.1.2.1 - nI 1)).2.2.2.1 = 0 → (mNum (txL tp) tp.length s (nI 0) (nI d.1.1 - nI 1)).1 = nI x → (mNum (txL tp) tp.length (mNum (txL tp) tp.length s (nI 0) (nI d.1.1 - nI 1)).2 (nI 0) (nI d.1.2.1 - nI 1)).1 = nI y → x < 7 → y < 7 → nn (mCell (txL tp) tp.length s (nI d.1.1) (nI d.1.2.1)).1 = x + 7 * y := by
    intro x y q1 q2 q3 q4 q5
    unfold mCell
    dsimp only
    rw [if_pos q1, q2, q3, pk_mul, nI_add, nn_nI (by omega)]
  have hs2 : (mCell (txL tp) tp.length s (nI d.1.1) (nI d.1.2.1)).2 = (mNum (txL tp) tp.length (mNum (txL tp) tp.length s (nI 0) (nI d.1.1 - nI 1)).2 (nI 0) (nI d.1.2.1 - nI 1)).2 := rfl
  have hy : ∃ y, y < d.1.2.1 ∧ x34 = nI y ∧ ((mNum (txL tp) tp.length (mNum (txL tp) tp.length s (nI 0) (nI d.1.1 - nI 1)).2 (nI 0) (nI d.1.2.1 - nI 1)).2.2.2.1 = 0 → (mNum (txL tp) tp.length (mNum (txL tp) tp.length s (nI 0) (nI d.1.1 - nI 1)).2 (nI 0) (nI d.1.2.1 - nI 1)).1 = nI y) := by
    generalize (mNum (txL tp) tp.length s (nI 0) (nI d.1.1 - nI 1)).2 = s2 at h34a ⊢
    rw [pk_sub (by omega)] at h34a ⊢
    by_cases hz : (mNum (txL tp) tp.length s2 (nI 0) (nI (d.1.2.1 - 1))).2.2.2.1 = 0
    · obtain ⟨v, -, q2, -, q4⟩ := mNum_ok s2 (by omega) (by omega) hz
      rw [if_pos hz, q4] at h34a
      exact ⟨v, by omega, h34a, fun _ => q4⟩
    · rw [if_neg hz] at h34a
      exact ⟨0, by omega, h34a, fun q => absurd q hz⟩
  obtain ⟨x, hx1, hx2, hx3⟩ := hx
  obtain ⟨y, hy1, hy2, hy3⟩ := hy
  have hcl : clOk d (x + 7 * y) := clOk_xy hx1 hy1 hW7
  have hkl := kC_lt hcl
  have hc2 := rChap_2 (tx := txL tp) (e := tp.length) (s := s) (bg := bg) hl
  have hc1 := fun z => rChap_1 (tx := txL tp) (e := tp.length) (s := s) (bg := bg) hl z
  rw [hs2] at hc2
  generalize hE2 : mNum (txL tp) tp.length (mNum (txL tp) tp.length s (nI 0) (nI d.1.1 - nI 1)).2 (nI 0) (nI d.1.2.1 - nI 1) = e2 at *
  have hb : e2.2.2.2.1 = 0 → (d.2.1.any (fun x => decide (x = nn (mCell (txL tp) tp.length s (nI d.1.1) (nI d.1.2.1)).1)) || decide (nn (mCell (txL tp) tp.length s (nI d.1.1) (nI d.1.2.1)).1 = d.1.2.2)) = (decide (x + 7 * y ∈ d.2.1) || decide (x + 7 * y = d.1.2.2)) := by
    intro z
    have z1 : (mNum (txL tp) tp.length s (nI 0) (nI d.1.1 - nI 1)).2.2.2.1 = 0 := mNum_bad (tx := txL tp) (e := tp.length) _ (nI 0) (nI d.1.2.1 - nI 1) (by rw [hE2]; exact z)
    rw [hcell x y z (hx3 z1) (hy3 z) (by omega) (by omega), any_mem]
  have hno : e2.2.2.2.1 = 0 → nn (mCell (txL tp) tp.length s (nI d.1.1) (nI d.1.2.1)).1 = x + 7 * y := by
    intro z
    have z1 : (mNum (txL tp) tp.length s (nI 0) (nI d.1.1 - nI 1)).2.2.2.1 = 0 := mNum_bad (tx := txL tp) (e := tp.length) _ (nI 0) (nI d.1.2.1 - nI 1) (by rw [hE2]; exact z)
    exact hcell x y z (hx3 z1) (hy3 z) (by omega) (by omega)
  refine C.istore (lv' := [(0, _), (1, _), (2, _), (3, _), (4, _)]) dX3_readChapel_37 (nLt hX rfl) rfl ?_
  refine C.aload_n dX3_readChapel_39 1 rfl ?_
  refine C.iload_n dX3_readChapel_40 2 rfl ?_
  refine C.iload dX3_readChapel_41 4 rfl ?_
  refine C.callVI lX3_138 dX3_readChapel_43 (kl_cellAt hO _ _) hO rfl rfl (Nat.le_of_ble_eq_true rfl) (Nat.zero_le _) (Nat.zero_le _) (Nat.le_of_ble_eq_true rfl) (fun x43 μ43 h43 => ?_)
  obtain ⟨rfl, hμ⟩ := h43
  subst hμ
  rw [i0'', hx2, hy2, pk_mul, nI_add, ← kC_xy (d := d) (x := x) (y := y) (by omega)]
  refine C.istore (lv' := [(0, _), (1, _), (2, _), (3, _), (4, _), (5, _)]) dX3_readChapel_46 (nLt hX rfl) rfl ?_
  refine C.iload dX3_readChapel_48 5 rfl ?_
  refine C.aload_n dX3_readChapel_50 1 rfl ?_
  refine C.getI fX3_148 dX3_readChapel_51 hO ?_
  rw [i2']
  refine C.icmp_eq 70 dX3_readChapel_54 rfl (fun hc54 => ?_) (fun hc54 => ?_)
  · refine C.aload_n dX3_readChapel_70 0 rfl ?_
    refine C.getO fX3_9 dX3_readChapel_71 hS.o7 hS.r7_0 ?_
    refine C.iconst (nI 2) dX3_readChapel_74 (by decide) ?_
    refine C.iload_n dX3_readChapel_75 3 rfl ?_
    refine C.callVV lX3_36 dX3_readChapel_76 (kw_fail hS h34b (by decide)) hS.o3 rfl rfl (Nat.le_of_ble_eq_true rfl) (Nat.zero_le _) (Nat.zero_le _) (Nat.le_of_ble_eq_true rfl) (fun μ76 h76 => ?_)
    have hbt : (decide (x + 7 * y ∈ d.2.1) || decide (x + 7 * y = d.1.2.2)) = true := by
      first
      | (have hw1 := kC_lt hW.1.2.2.2.2
         have q := n_eq hc54 (by omega) (by omega)
         rw [decide_eq_true (kC_inj hcl hW.1.2.2.2.2 q), Bool.or_true])
      | (cases hq9 : decide (x + 7 * y ∈ d.2.1) with
         | true => rfl
         | false => rw [hq9] at hc67; exact absurd hc67 (by decide))
    refine m79 _ x y _ _ _ hx1 hy1 (hq34.trans h76.2) ?_ ?_
    · rw [hc2]
      by_cases z : e2.2.2.2.1 = 0
      · rw [hb z, hbt]
        show RD _ _ _ (mFail e2.2 (nI 2) e2.2.2.2.2.2.1)
        rw [hnp z]
        exact h76.1
      · rw [mBadN_b z]
        exact h76.1.failB z
    · intro z
      have z2 := mBadN_bad _ _ (hc2 ▸ z)
      rw [hb z2.1, hbt] at z2
      exact absurd z2.2 (by decide)
  · refine C.aload_n dX3_readChapel_57 1 rfl ?_
    refine C.getL fX3_111 dX3_readChapel_58 hO ?_
    refine C.iload dX3_readChapel_61 5 rfl ?_
    rw [l10']
    refine C.callSNI nn_mtX12_bitOf ns_mtX12_bitOf C.hK.2.1.2.2.2.2.1 dX3_readChapel_63 (kc_bitOf (chB_lt h49) (by omega)) rfl rfl (Nat.le_of_ble_eq_true rfl) (Nat.zero_le _) (Nat.zero_le _) (Nat.le_of_ble_eq_true rfl) (fun x63 μ63 h63 => ?_)
    obtain ⟨rfl, hμ⟩ := h63
    subst hμ
    rw [chB_tb hcl]
    refine C.iconst (nI 1) dX3_readChapel_66 (by decide) ?_
    refine C.icmp_ne 79 dX3_readChapel_67 rfl (fun hc67 => ?_) (fun hc67 => ?_)
    · refine m79 _ x y _ _ _ hx1 hy1 hq34 ?_ ?_
      · rw [hc2]
        by_cases z : e2.2.2.2.1 = 0
        · rw [hb z, decide_eq_false (fun q => hc67 (by rw [decide_eq_true q]; rfl)), decide_eq_false (fun q => hc54 (by rw [q]))]
          exact h34b
        · rw [mBadN_b z]
          exact h34b
      · intro z
        have z2 := (mBadN_bad _ _ (hc2 ▸ z)).1
        refine ⟨fun q => hc67 (by rw [decide_eq_true q]; rfl), ?_⟩
        rw [hc1 z, hno z2]
    · refine C.aload_n dX3_readChapel_70 0 rfl ?_
      refine C.getO fX3_9 dX3_readChapel_71 hS.o7 hS.r7_0 ?_
      refine C.iconst (nI 2) dX3_readChapel_74 (by decide) ?_
      refine C.iload_n dX3_readChapel_75 3 rfl ?_
      refine C.callVV lX3_36 dX3_readChapel_76 (kw_fail hS h34b (by decide)) hS.o3 rfl rfl (Nat.le_of_ble_eq_true rfl) (Nat.zero_le _) (Nat.zero_le _) (Nat.le_of_ble_eq_true rfl) (fun μ76 h76 => ?_)
      have hbt : (decide (x + 7 * y ∈ d.2.1) || decide (x + 7 * y = d.1.2.2)) = true := by
        first
        | (have hw1 := kC_lt hW.1.2.2.2.2
           have q := n_eq hc54 (by omega) (by omega)
           rw [decide_eq_true (kC_inj hcl hW.1.2.2.2.2 q), Bool.or_true])
        | (cases hq9 : decide (x + 7 * y ∈ d.2.1) with
           | true => rfl
           | false => rw [hq9] at hc67; exact absurd hc67 (by decide))
      refine m79 _ x y _ _ _ hx1 hy1 (hq34.trans h76.2) ?_ ?_
      · rw [hc2]
        by_cases z : e2.2.2.2.1 = 0
        · rw [hb z, hbt]
          show RD _ _ _ (mFail e2.2 (nI 2) e2.2.2.2.2.2.1)
          rw [hnp z]
          exact h76.1
        · rw [mBadN_b z]
          exact h76.1.failB z
      · intro z
        have z2 := mBadN_bad _ _ (hc2 ▸ z)
        rw [hb z2.1, hbt] at z2
        exact absurd z2.2 (by decide)
theorem rBell_2 {tx : Nat → Nat} {e : Nat} {bg : Int32} (hl : d.2.2.1.length < 5) : (rBell tx e d s bg).2 = (mNum tx e (mAsks tx e (mCell tx e (mAsks tx e (rNew tx e d s).2 wAt) (nI d.1.1) (nI d.1.2.1)).2 wRope) (nI 0) (nI 99)).2 := by
  unfold rBell
  rw [mFull_n (by omega) (by omega)]
  dsimp only
  by_cases hz : s.2.2.1 = 0
  · rw [if_pos hz]
    generalize mNum tx e (mAsks tx e (mCell tx e (mAsks tx e (rNew tx e d s).2 wAt) (nI d.1.1) (nI d.1.2.1)).2 wRope) (nI 0) (nI 99) = r4
    by_cases h4 : r4.2.2.2.1 = 0
    · rw [if_pos h4]
    · rw [if_neg h4]
  · rw [if_neg hz]
    have e1 : (rNew tx e d s).2 = s := by
      unfold rNew mName
      simp only [if_neg hz]
      exact mDup_b hz _
    have e2 : (mCell tx e s (nI d.1.1) (nI d.1.2.1)).2 = s := by
      unfold mCell mNum
      simp only [if_neg hz]
    have e3 : (mNum tx e s (nI 0) (nI 99)).2 = s := by
      unfold mNum
      simp only [if_neg hz]
    rw [e1, asks_bad hz, e2, asks_bad hz, e3]
theorem rBell_1 {tx : Nat → Nat} {e : Nat} {bg : Int32} (hl : d.2.2.1.length < 5) (hz : s.2.2.1 = 0) (h : (rBell tx e d s bg).2.2.2.1 = 0) : (rBell tx e d s bg).1 = (d.1, d.2.1, d.2.2.1 ++ [((rNew tx e d s).1, nn (mCell tx e (mAsks tx e (rNew tx e d s).2 wAt) (nI d.1.1) (nI d.1.2.1)).1, nn (mNum tx e (mAsks tx e (mCell tx e (mAsks tx e (rNew tx e d s).2 wAt) (nI d.1.1) (nI d.1.2.1)).2 wRope) (nI 0) (nI 99)).1)], d.2.2.2) := by
  rw [rBell_2 hl] at h
  unfold rBell
  rw [mFull_n (by omega) (by omega)]
  dsimp only
  rw [if_pos hz, if_pos h]
theorem rNew_bad {tx : Nat → Nat} {e : Nat} (h : (rNew tx e d s).2.2.2.1 = 0) : s.2.2.1 = 0 := mName_bad s (mDup_bad _ _ h).1
theorem PsOk.new {tx : Nat → Nat} {e : Nat} (h : PsOk e s) : PsOk e (rNew tx e d s).2 := h.name.dup _
theorem PsOk.le {e : Nat} (h : PsOk e s) : s.2.2.1 = 0 → s.1 ≤ e := fun z => (h z).1
theorem kr_readBell (hC : CsB μ) (hT : CsT μ tp) (hR : RD μ (txL tp) tp.length s) (hP : PsOk tp.length s) (hG : LgR μ L f g d) (hW : Wf d) (hl : d.2.2.1.length < 5) (bg : Int32) : AMet l G 4 0 0 mtX3_readBell [.ref (G.1 + 7), .ref (G.1 + L)] μ (qV (fun μ' => StQ μ tp L f g (rBell (txL tp) tp.length d s bg) μ')) := by
  refine AMet.of (by decide) (Nat.le_of_ble_eq_true rfl) (fun X C hX hnm hq => ?_)
  have hS := hC.1
  have hL := hG.2.1
  have hW7 := hW.1.2.1
  have hW2 := hW.1.1
  have hH7 := hW.1.2.2.2.1
  have hH2 := hW.1.2.2.1
  have h6 := hW.2.2.2.1.1
  have hP1 : PsOk tp.length (rNew (txL tp) tp.length d s).2 := hP.new
  have hP2 := hP1.asks (tx := txL tp) wAt
  have hP3 := hP2.cell (tx := txL tp) (nI d.1.1) (nI d.1.2.1)
  have hP4 := hP3.asks (tx := txL tp) wRope
  have hP5 := hP4.num' (tx := txL tp) hP4.le (nI 0) (nI 99)
  refine C.aload_n dX3_readBell_0 0 rfl ?_
  refine C.aload_n dX3_readBell_1 1 rfl ?_
  refine C.callVI lX3_155 dX3_readBell_2 (kr_takeNewName hC hT hR hG.1 hL (by omega) h6) hS.o7 rfl rfl (Nat.le_of_ble_eq_true rfl) (Nat.zero_le _) (Nat.zero_le _) (Nat.le_of_ble_eq_true rfl) (fun x2 μ2 h2 => ?_)
  obtain ⟨r2, q2, n2⟩ := h2
  have hS := q2.sh hS
  have hC := (LnF.q L q2).b hL hC
  have hT := q2.t hT
  refine C.istore_n (lv' := [(0, _), (1, _), (2, _)]) dX3_readBell_5 (nLt hX rfl) rfl ?_
  refine C.aload_n dX3_readBell_6 0 rfl ?_
  refine C.getO fX3_9 dX3_readBell_7 hS.o7 hS.r7_0 ?_
  refine C.iconst (nI 5) dX3_readBell_10 (by decide) ?_
  refine C.callVV lX3_53 dX3_readBell_11 (kw_needWord (w := 5) hC hT r2 (by omega)) hS.o3 rfl rfl (Nat.le_of_ble_eq_true rfl) (Nat.zero_le _) (Nat.zero_le _) (Nat.le_of_ble_eq_true rfl) (fun μ11 h11 => ?_)
  rw [show keyL.getD 5 [] = wAt from rfl] at h11
  obtain ⟨r11, q11⟩ := h11
  have hS := q11.sh hS
  have hC := (LnF.q L q11).b hL hC
  have hT := q11.t hT
  have q11' := q2.trans q11
  have hG' := q11'.lg hG
  refine C.aload_n dX3_readBell_14 0 rfl ?_
  refine C.aload_n dX3_readBell_15 1 rfl ?_
  refine C.callVI lX3_159 dX3_readBell_16 (kr_takeCell hC hT r11 hG'.o hG'.1.2.1.1.1 hG'.1.2.1.1.2.1 hL (by omega) (by omega)) hS.o7 rfl rfl (Nat.le_of_ble_eq_true rfl) (Nat.zero_le _) (Nat.zero_le _) (Nat.le_of_ble_eq_true rfl) (fun x16 μ16 h16 => ?_)
  obtain ⟨r16, q16, x, y, hx, hy, z16, c16⟩ := h16
  have hS := q16.sh hS
  have hC := (LnF.q L q16).b hL hC
  have hT := q16.t hT
  refine C.istore_n (lv' := [(0, _), (1, _), (2, _), (3, _)]) dX3_readBell_19 (nLt hX rfl) rfl ?_
  refine C.aload_n dX3_readBell_20 0 rfl ?_
  refine C.getO fX3_9 dX3_readBell_21 hS.o7 hS.r7_0 ?_
  refine C.bipush (nI 6) dX3_readBell_24 (by decide) ?_
  refine C.callVV lX3_53 dX3_readBell_26 (kw_needWord (w := 6) hC hT r16 (by omega)) hS.o3 rfl rfl (Nat.le_of_ble_eq_true rfl) (Nat.zero_le _) (Nat.zero_le _) (Nat.le_of_ble_eq_true rfl) (fun μ26 h26 => ?_)
  rw [show keyL.getD 6 [] = wRope from rfl] at h26
  obtain ⟨r26, q26⟩ := h26
  have hS := q26.sh hS
  have hC := (LnF.q L q26).b hL hC
  have hT := q26.t hT
  refine C.aload_n dX3_readBell_29 1 rfl ?_
  refine C.iload_n dX3_readBell_30 2 rfl ?_
  refine C.iload_n dX3_readBell_31 3 rfl ?_
  refine C.aload_n dX3_readBell_32 0 rfl ?_
  refine C.getO fX3_9 dX3_readBell_33 hS.o7 hS.r7_0 ?_
  refine C.iconst (nI 0) dX3_readBell_36 (by decide) ?_
  refine C.bipush (nI 99) dX3_readBell_37 (by decide) ?_
  refine C.callVI lX3_56 dX3_readBell_39 (kw_takeNumber hS hT r26 (nI 0) (nI 99)) hS.o3 rfl rfl (Nat.le_of_ble_eq_true rfl) (Nat.zero_le _) (Nat.zero_le _) (Nat.le_of_ble_eq_true rfl) (fun x39 μ39 h39 => ?_)
  obtain ⟨z39, r39, q39⟩ := h39
  have hq9 := ((q11'.trans q16).trans q26).trans q39
  have hG9 := hq9.lg hG
  refine C.callVV lX3_162 dX3_readBell_42 (kl_addBell hG9 hl _ _ _) hG9.o rfl rfl (Nat.le_of_ble_eq_true rfl) (Nat.zero_le _) (Nat.zero_le _) (Nat.le_of_ble_eq_true rfl) (fun μ42 h42 => ?_)
  subst h42
  refine C.vret hq dX3_readBell_45 ?_
  have e2 := rBell_2 (tx := txL tp) (e := tp.length) (s := s) (bg := bg) hl
  refine ⟨?_, by rw [e2]; exact hP5, (LnF.q L hq9).trans (LnF.w (fun a k ha => by rw [mI_sI, if_neg (by omega), mI_sI, if_neg (by omega), mI_sI, if_neg (by omega), mI_sI, if_neg (by omega)]) (fun a k _ => rfl) rfl), hG9.o, by rw [mI_sI, if_neg (by omega), mI_sI, if_neg (by omega), mI_sI, if_neg (by omega), mI_sI, if_neg (by omega)]; exact hq9.2 _ _ (by omega), fun hz => ?_⟩
  · rw [e2]
    exact r39.ph (fun k => by rw [mI_sI, if_neg (by omega), mI_sI, if_neg (by omega), mI_sI, if_neg (by omega), mI_sI, if_neg (by omega)])
  · have hz9 := hz
    rw [e2] at hz9
    have b4 := mNum_bad _ _ _ hz9
    have b3 := mAsks_bad _ _ b4
    have b2 := mCell_bad _ _ _ b3
    have b1 := mAsks_bad _ _ b2
    have b0 := rNew_bad b1
    obtain ⟨v, -, v2, v3, v4⟩ := mNum_ok _ (by omega) (by omega) hz9
    have z39' : x39 = nI v := by rw [z39, if_pos hz9, v4]
    rw [rBell_1 hl b0 hz, c16 b3, v4, nn_nI (by omega), nn_nI (by omega), z16, z39', ← kC_xy (d := d) (x := x) (y := y) (by omega)]
    exact hG9.bell hl (n2 b1)
theorem rWalk_2 {tx : Nat → Nat} {e : Nat} {bg : Int32} (hl : d.2.2.2.1.length < 6) : (rWalk tx e d s bg).2 = (mNum tx e (mAsks tx e (mCell tx e (mAsks tx e (mCell tx e (mAsks tx e (rNew tx e d s).2 wFrom) (nI d.1.1) (nI d.1.2.1)).2 wTo) (nI d.1.1) (nI d.1.2.1)).2 wDoes) (nI 0) (nI 3)).2 := by
  unfold rWalk
  rw [mFull_n (by omega) (by omega)]
  dsimp only
  by_cases hz : s.2.2.1 = 0
  · rw [if_pos hz]
    generalize mNum tx e (mAsks tx e (mCell tx e (mAsks tx e (mCell tx e (mAsks tx e (rNew tx e d s).2 wFrom) (nI d.1.1) (nI d.1.2.1)).2 wTo) (nI d.1.1) (nI d.1.2.1)).2 wDoes) (nI 0) (nI 3) = r4
    by_cases h4 : r4.2.2.2.1 = 0
    · rw [if_pos h4]
    · rw [if_neg h4]
  · rw [if_neg hz]
    have e1 : (rNew tx e d s).2 = s := by
      unfold rNew mName
      simp only [if_neg hz]
      exact mDup_b hz _
    have e2 : (mCell tx e s (nI d.1.1) (nI d.1.2.1)).2 = s := by
      unfold mCell mNum
      simp only [if_neg hz]
    have e3 : (mNum tx e s (nI 0) (nI 3)).2 = s := by
      unfold mNum
      simp only [if_neg hz]
    rw [e1, asks_bad hz, e2, asks_bad hz, e2, asks_bad hz, e3]
theorem rWalk_1 {tx : Nat → Nat} {e : Nat} {bg : Int32} (hl : d.2.2.2.1.length < 6) (hz : s.2.2.1 = 0) (h : (rWalk tx e d s bg).2.2.2.1 = 0) : (rWalk tx e d s bg).1 = (d.1, d.2.1, d.2.2.1, d.2.2.2.1 ++ [((rNew tx e d s).1, nn (mCell tx e (mAsks tx e (rNew tx e d s).2 wFrom) (nI d.1.1) (nI d.1.2.1)).1, nn (mCell tx e (mAsks tx e (mCell tx e (mAsks tx e (rNew tx e d s).2 wFrom) (nI d.1.1) (nI d.1.2.1)).2 wTo) (nI d.1.1) (nI d.1.2.1)).1, nn (mNum tx e (mAsks tx e (mCell tx e (mAsks tx e (mCell tx e (mAsks tx e (rNew tx e d s).2 wFrom) (nI d.1.1) (nI d.1.2.1)).2 wTo) (nI d.1.1) (nI d.1.2.1)).2 wDoes) (nI 0) (nI 3)).1)], d.2.2.2.2) := by
  rw [rWalk_2 hl] at h
  unfold rWalk
  rw [mFull_n (by omega) (by omega)]
  dsimp only
  rw [if_pos hz, if_pos h]
theorem kr_readWalker (hC : CsB μ) (hT : CsT μ tp) (hR : RD μ (txL tp) tp.length s) (hP : PsOk tp.length s) (hG : LgR μ L f g d) (hW : Wf d) (hl : d.2.2.2.1.length < 6) (bg : Int32) : AMet l G 4 0 0 mtX3_readWalker [.ref (G.1 + 7), .ref (G.1 + L)] μ (qV (fun μ' => StQ μ tp L f g (rWalk (txL tp) tp.length d s bg) μ')) := by
  refine AMet.of (by decide) (Nat.le_of_ble_eq_true rfl) (fun X C hX hnm hq => ?_)
  have hS := hC.1
  have hL := hG.2.1
  have hW7 := hW.1.2.1
  have hW2 := hW.1.1
  have hH7 := hW.1.2.2.2.1
  have hH2 := hW.1.2.2.1
  have h5 := hW.2.2.1.1
  have hP1 : PsOk tp.length (rNew (txL tp) tp.length d s).2 := hP.new
  have hP2 := hP1.asks (tx := txL tp) wFrom
  have hP3 := hP2.cell (tx := txL tp) (nI d.1.1) (nI d.1.2.1)
  have hP4 := hP3.asks (tx := txL tp) wTo
  have hP5 := hP4.cell (tx := txL tp) (nI d.1.1) (nI d.1.2.1)
  have hP6 := hP5.asks (tx := txL tp) wDoes
  have hP7 := hP6.num' (tx := txL tp) hP6.le (nI 0) (nI 3)
  refine C.aload_n dX3_readWalker_0 0 rfl ?_
  refine C.aload_n dX3_readWalker_1 1 rfl ?_
  refine C.callVI lX3_155 dX3_readWalker_2 (kr_takeNewName hC hT hR hG.1 hL h5 (by omega)) hS.o7 rfl rfl (Nat.le_of_ble_eq_true rfl) (Nat.zero_le _) (Nat.zero_le _) (Nat.le_of_ble_eq_true rfl) (fun x2 μ2 h2 => ?_)
  obtain ⟨r2, q2, n2⟩ := h2
  have hS := q2.sh hS
  have hC := (LnF.q L q2).b hL hC
  have hT := q2.t hT
  refine C.istore_n (lv' := [(0, _), (1, _), (2, _)]) dX3_readWalker_5 (nLt hX rfl) rfl ?_
  refine C.aload_n dX3_readWalker_6 0 rfl ?_
  refine C.getO fX3_9 dX3_readWalker_7 hS.o7 hS.r7_0 ?_
  refine C.bipush (nI 8) dX3_readWalker_10 (by decide) ?_
  refine C.callVV lX3_53 dX3_readWalker_12 (kw_needWord (w := 8) hC hT r2 (by omega)) hS.o3 rfl rfl (Nat.le_of_ble_eq_true rfl) (Nat.zero_le _) (Nat.zero_le _) (Nat.le_of_ble_eq_true rfl) (fun μ12 h12 => ?_)
  rw [show keyL.getD 8 [] = wFrom from rfl] at h12
  obtain ⟨r11, q11⟩ := h12
  have hS := q11.sh hS
  have hC := (LnF.q L q11).b hL hC
  have hT := q11.t hT
  have q11' := q2.trans q11
  have hG' := q11'.lg hG
  refine C.aload_n dX3_readWalker_15 0 rfl ?_
  refine C.aload_n dX3_readWalker_16 1 rfl ?_
  refine C.callVI lX3_159 dX3_readWalker_17 (kr_takeCell hC hT r11 hG'.o hG'.1.2.1.1.1 hG'.1.2.1.1.2.1 hL (by omega) (by omega)) hS.o7 rfl rfl (Nat.le_of_ble_eq_true rfl) (Nat.zero_le _) (Nat.zero_le _) (Nat.le_of_ble_eq_true rfl) (fun x17 μ17 h17 => ?_)
  obtain ⟨r16, q16, x, y, hx, hy, z16, c16⟩ := h17
  have hS := q16.sh hS
  have hC := (LnF.q L q16).b hL hC
  have hT := q16.t hT
  refine C.istore_n (lv' := [(0, _), (1, _), (2, _), (3, _)]) dX3_readWalker_20 (nLt hX rfl) rfl ?_
  refine C.aload_n dX3_readWalker_21 0 rfl ?_
  refine C.getO fX3_9 dX3_readWalker_22 hS.o7 hS.r7_0 ?_
  refine C.bipush (nI 9) dX3_readWalker_25 (by decide) ?_
  refine C.callVV lX3_53 dX3_readWalker_27 (kw_needWord (w := 9) hC hT r16 (by omega)) hS.o3 rfl rfl (Nat.le_of_ble_eq_true rfl) (Nat.zero_le _) (Nat.zero_le _) (Nat.le_of_ble_eq_true rfl) (fun μ27 h27 => ?_)
  rw [show keyL.getD 9 [] = wTo from rfl] at h27
  obtain ⟨r26, q26⟩ := h27
  have hS := q26.sh hS
  have hC := (LnF.q L q26).b hL hC
  have hT := q26.t hT
  have q26' := (q11'.trans q16).trans q26
  have hG2 := q26'.lg hG
  refine C.aload_n dX3_readWalker_30 0 rfl ?_
  refine C.aload_n dX3_readWalker_31 1 rfl ?_
  refine C.callVI lX3_159 dX3_readWalker_32 (kr_takeCell hC hT r26 hG2.o hG2.1.2.1.1.1 hG2.1.2.1.1.2.1 hL (by omega) (by omega)) hS.o7 rfl rfl (Nat.le_of_ble_eq_true rfl) (Nat.zero_le _) (Nat.zero_le _) (Nat.le_of_ble_eq_true rfl) (fun x32 μ32 h32 => ?_)
  obtain ⟨r32, q32, x2', y2', hx2, hy2, z32, c32⟩ := h32
  have hS := q32.sh hS
  have hC := (LnF.q L q32).b hL hC
  have hT := q32.t hT
  refine C.istore (lv' := [(0, _), (1, _), (2, _), (3, _), (4, _)]) dX3_readWalker_35 (nLt hX rfl) rfl ?_
  refine C.aload_n dX3_readWalker_37 0 rfl ?_
  refine C.getO fX3_9 dX3_readWalker_38 hS.o7 hS.r7_0 ?_
  refine C.bipush (nI 10) dX3_readWalker_41 (by decide) ?_
  refine C.callVV lX3_53 dX3_readWalker_43 (kw_needWord (w := 10) hC hT r32 (by omega)) hS.o3 rfl rfl (Nat.le_of_ble_eq_true rfl) (Nat.zero_le _) (Nat.zero_le _) (Nat.le_of_ble_eq_true rfl) (fun μ43 h43 => ?_)
  rw [show keyL.getD 10 [] = wDoes from rfl] at h43
  obtain ⟨r43, q43⟩ := h43
  have hS := q43.sh hS
  have hC := (LnF.q L q43).b hL hC
  have hT := q43.t hT
  refine C.aload_n dX3_readWalker_46 1 rfl ?_
  refine C.iload_n dX3_readWalker_47 2 rfl ?_
  refine C.iload_n dX3_readWalker_48 3 rfl ?_
  refine C.iload dX3_readWalker_49 4 rfl ?_
  refine C.aload_n dX3_readWalker_51 0 rfl ?_
  refine C.getO fX3_9 dX3_readWalker_52 hS.o7 hS.r7_0 ?_
  refine C.iconst (nI 0) dX3_readWalker_55 (by decide) ?_
  refine C.iconst (nI 3) dX3_readWalker_56 (by decide) ?_
  refine C.callVI lX3_56 dX3_readWalker_57 (kw_takeNumber hS hT r43 (nI 0) (nI 3)) hS.o3 rfl rfl (Nat.le_of_ble_eq_true rfl) (Nat.zero_le _) (Nat.zero_le _) (Nat.le_of_ble_eq_true rfl) (fun x57 μ57 h57 => ?_)
  obtain ⟨z57, r57, q57⟩ := h57
  have hq9 := ((q26'.trans q32).trans q43).trans q57
  have hG9 := hq9.lg hG
  have hc1 : clOk d (x + 7 * y) := clOk_xy hx hy hW7
  have hc2 : clOk d (x2' + 7 * y2') := clOk_xy hx2 hy2 hW7
  rw [z16, z32, ← kC_xy (d := d) (x := x) (y := y) (by omega), ← kC_xy (d := d) (x := x2') (y := y2') (by omega)]
  refine C.callVV lX3_165 dX3_readWalker_60 (kl_addWalker hG9 hW hl _ hc1 hc2 _) hG9.o rfl rfl (Nat.le_of_ble_eq_true rfl) (Nat.zero_le _) (Nat.zero_le _) (Nat.le_of_ble_eq_true rfl) (fun μ60 h60 => ?_)
  refine C.vret hq dX3_readWalker_63 ?_
  have e2 := rWalk_2 (tx := txL tp) (e := tp.length) (s := s) (bg := bg) hl
  have hww := h60
  obtain ⟨p1, p2, p3, p4, p5, p6, p7⟩ := h60
  refine ⟨?_, by rw [e2]; exact hP7, (LnF.q L hq9).trans (LnF.w (fun a k ha => p7 a k (by omega) (by omega) (by omega) (by omega) (by omega)) (fun a k _ => by unfold mL; rw [p1]) (by rw [p1])), hG9.o.grw (Grw.of (by rw [p1])), (p7 L 16 (by omega) (by omega) (by omega) (by omega) (by omega)).trans (hq9.2 _ _ (by omega)), fun hz => ?_⟩
  · rw [e2]
    exact r57.ph (fun k => p7 3 k (by omega) (by omega) (by omega) (by omega) (by omega))
  · have hz9 := hz
    rw [e2] at hz9
    have b6 := mNum_bad _ _ _ hz9
    have b5 := mAsks_bad _ _ b6
    have b4 := mCell_bad _ _ _ b5
    have b3 := mAsks_bad _ _ b4
    have b2 := mCell_bad _ _ _ b3
    have b1 := mAsks_bad _ _ b2
    have b0 := rNew_bad b1
    obtain ⟨v, -, v2, v3, v4⟩ := mNum_ok _ (by omega) (by omega) hz9
    have z57' : x57 = nI v := by rw [z57, if_pos hz9, v4]
    rw [z57'] at hww
    rw [rWalk_1 hl b0 hz, c16 b3, c32 b5, v4, nn_nI (by omega), nn_nI (by omega), nn_nI (by omega)]
    refine hG9.walk hl (n2 b1) (fun k hk => ?_) hww
    unfold wkC
    rw [wkX_n, wkY_n]
    have f1 : walkF (d.1, d.2.1, d.2.2.1, d.2.2.2.1 ++ [((rNew (txL tp) tp.length d s).1, x + 7 * y, x2' + 7 * y2', v)], d.2.2.2.2) d.2.2.2.1.length = x + 7 * y := by unfold walkF; simp
    have f2 : walkT (d.1, d.2.1, d.2.2.1, d.2.2.2.1 ++ [((rNew (txL tp) tp.length d s).1, x + 7 * y, x2' + 7 * y2', v)], d.2.2.2.2) d.2.2.2.1.length = x2' + 7 * y2' := by unfold walkT; simp
    rw [f1, f2, kC_xy (nrS_lt (by omega) (by omega))]
end KLR
