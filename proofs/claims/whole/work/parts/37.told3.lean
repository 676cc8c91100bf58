/-! the reference: the land's statements -/

section KM7
variable {l : Launch} {G : Gm} {μ : Mm} {tx : Nat → Nat} {e : Nat}
/-- the letters of the words in the reference's rows -/
abbrev wLand : List Nat := [108, 97, 110, 100]
abbrev wBy : List Nat := [98, 121]
abbrev wHunt : List Nat := [104, 117, 110, 116]
abbrev wAt : List Nat := [97, 116]
abbrev wRope : List Nat := [114, 111, 112, 101]
abbrev wFrom : List Nat := [102, 114, 111, 109]
abbrev wTo : List Nat := [116, 111]
abbrev wDoes : List Nat := [100, 111, 101, 115]
/-- landTold: the sides and the start are laid, then the state of the reading -/
def mLandS (tx : Nat → Nat) (e : Nat) (s : Ps) : Int32 × Int32 × Int32 × Ps :=
  let r1 := mNum tx e (mAsks tx e s wLand) (nI 2) (nI 7)
  let r2 := mNum tx e (mAsks tx e r1.2 wBy) (nI 2) (nI 7)
  let r3 := mCell tx e (mAsks tx e r2.2 wHunt) r1.1 r2.1
  (r1.1, r2.1, r3.1, mAskSign tx e r3.2 (nI 59))
def mLandM (tx : Nat → Nat) (e : Nat) (μ : Mm) (s : Ps) : Mm := pw (sI (sI (sI μ 215 0 (mLandS tx e s).1) 215 1 (mLandS tx e s).2.1) 215 2 (mLandS tx e s).2.2.1) (mLandS tx e s).2.2.2
theorem kp_landTold (hS : ShM μ) (hW : WdM μ) (hT : TxM μ tx e) {s : Ps} (hp : s.1 ≤ e) : AMet l G 4 0 0 mtX13_landTold [.ref (G.1 + 179)] (pw μ s) (qV (fun μ' => μ' = mLandM tx e μ s)) := by
  refine AMet.of (by decide) (Nat.le_of_ble_eq_true rfl) (fun X C hX hnm hq => ?_)
  have hS1 := hS
  have hS : ShM (pw μ s) := hS1.pw _
  have w215 : wdT.all (fun q => q.1 != 215) = true := by decide +kernel
  have p1 := mAsks_le (tx := tx) wLand hp
  have p2 := mNum_le (tx := tx) (nI 2) (nI 7) p1
  generalize hr1 : mNum tx e (mAsks tx e s wLand) (nI 2) (nI 7) = r1 at p2
  have p3 := mAsks_le (tx := tx) wBy p2
  have p4 := mNum_le (tx := tx) (nI 2) (nI 7) p3
  generalize hr2 : mNum tx e (mAsks tx e r1.2 wBy) (nI 2) (nI 7) = r2 at p4
  have p5 := mAsks_le (tx := tx) wHunt p4
  have p6 := mCell_le (tx := tx) r1.1 r2.1 p5
  generalize hr3 : mCell tx e (mAsks tx e r2.2 wHunt) r1.1 r2.1 = r3 at p6
  have hT1 : TxM (sI μ 215 0 r1.1) tx e := hT.st (by decide) (by decide)
  have hW1 : WdM (sI μ 215 0 r1.1) := hW.st w215
  have hT2 : TxM (sI (sI μ 215 0 r1.1) 215 1 r2.1) tx e := hT1.st (by decide) (by decide)
  have hW2 : WdM (sI (sI μ 215 0 r1.1) 215 1 r2.1) := hW1.st w215
  have hS2 : ShM (sI μ 215 0 r1.1) := hS1
  have hS3 : ShM (sI (sI μ 215 0 r1.1) 215 1 r2.1) := hS1
  have hT3 : TxM (sI (sI (sI μ 215 0 r1.1) 215 1 r2.1) 215 2 r3.1) tx e := hT2.st (by decide) (by decide)
  refine C.aload_n dX13_landTold_0 0 rfl ?_
  refine C.aload_n dX13_landTold_1 0 rfl ?_
  refine C.getA fX13_20 dX13_landTold_2 hS.o hS.r11 ?_
  refine C.callVV lX13_337 dX13_landTold_5 (kp_asks hS1 hW hT hp (List.mem_of_getElem? (l := wdT) (i := 0) rfl)) hS.o rfl rfl (Nat.le_of_ble_eq_true rfl) (Nat.zero_le _) (Nat.zero_le _) (Nat.le_of_ble_eq_true rfl) (fun μ5 h5 => ?_)
  subst h5
  refine C.aload_n dX13_landTold_8 0 rfl ?_
  refine C.getA fX13_120 dX13_landTold_9 hS.o hS.r45 ?_
  refine C.iconst (nI 0) dX13_landTold_12 (by decide) ?_
  refine C.aload_n dX13_landTold_13 0 rfl ?_
  refine C.iconst (nI 2) dX13_landTold_14 (by decide) ?_
  refine C.bipush (nI 7) dX13_landTold_15 (by decide) ?_
  refine C.callVI lX13_333 dX13_landTold_17 (kp_number hS1 hT p1 _ _) hS.o rfl rfl (Nat.le_of_ble_eq_true rfl) (Nat.zero_le _) (Nat.zero_le _) (Nat.le_of_ble_eq_true rfl) (fun x17 μ17 h17 => ?_)
  obtain ⟨rfl, rfl⟩ := h17
  rw [hr1]
  refine C.iast hS.a45 (n_in (by decide)) dX13_landTold_20 ?_
  rw [n_cl, pw_a _ _ (by decide)]
  refine C.aload_n dX13_landTold_21 0 rfl ?_
  refine C.aload_n dX13_landTold_22 0 rfl ?_
  refine C.getA fX13_24 dX13_landTold_23 hS.o hS.r12 ?_
  refine C.callVV lX13_337 dX13_landTold_26 (kp_asks hS2 hW1 hT1 p2 (List.mem_of_getElem? (l := wdT) (i := 1) rfl)) hS.o rfl rfl (Nat.le_of_ble_eq_true rfl) (Nat.zero_le _) (Nat.zero_le _) (Nat.le_of_ble_eq_true rfl) (fun μ26 h26 => ?_)
  subst h26
  refine C.aload_n dX13_landTold_29 0 rfl ?_
  refine C.getA fX13_120 dX13_landTold_30 hS.o hS.r45 ?_
  refine C.iconst (nI 1) dX13_landTold_33 (by decide) ?_
  refine C.aload_n dX13_landTold_34 0 rfl ?_
  refine C.iconst (nI 2) dX13_landTold_35 (by decide) ?_
  refine C.bipush (nI 7) dX13_landTold_36 (by decide) ?_
  refine C.callVI lX13_333 dX13_landTold_38 (kp_number hS2 hT1 p3 _ _) hS.o rfl rfl (Nat.le_of_ble_eq_true rfl) (Nat.zero_le _) (Nat.zero_le _) (Nat.le_of_ble_eq_true rfl) (fun x38 μ38 h38 => ?_)
  obtain ⟨rfl, rfl⟩ := h38
  rw [hr2]
  refine C.iast hS.a45 (n_in (by decide)) dX13_landTold_41 ?_
  rw [n_cl, pw_a _ _ (by decide)]
  refine C.aload_n dX13_landTold_42 0 rfl ?_
  refine C.aload_n dX13_landTold_43 0 rfl ?_
  refine C.getA fX13_27 dX13_landTold_44 hS.o hS.r13 ?_
  refine C.callVV lX13_337 dX13_landTold_47 (kp_asks hS3 hW2 hT2 p4 (List.mem_of_getElem? (l := wdT) (i := 2) rfl)) hS.o rfl rfl (Nat.le_of_ble_eq_true rfl) (Nat.zero_le _) (Nat.zero_le _) (Nat.le_of_ble_eq_true rfl) (fun μ47 h47 => ?_)
  subst h47
  refine C.aload_n dX13_landTold_50 0 rfl ?_
  refine C.getA fX13_120 dX13_landTold_51 hS.o hS.r45 ?_
  refine C.iconst (nI 2) dX13_landTold_54 (by decide) ?_
  refine C.aload_n dX13_landTold_55 0 rfl ?_
  refine C.callVI lX13_341 dX13_landTold_56 (kp_cellTold hS3 hT2 p5) hS.o rfl rfl (Nat.le_of_ble_eq_true rfl) (Nat.zero_le _) (Nat.zero_le _) (Nat.le_of_ble_eq_true rfl) (fun x56 μ56 h56 => ?_)
  obtain ⟨rfl, rfl⟩ := h56
  have e0 : mI (sI (sI μ 215 0 r1.1) 215 1 r2.1) 215 0 = r1.1 := by simp [mI_sI]
  have e1 : mI (sI (sI μ 215 0 r1.1) 215 1 r2.1) 215 1 = r2.1 := by simp [mI_sI]
  rw [e0, e1, hr3]
  refine C.iast hS.a45 (n_in (by decide)) dX13_landTold_59 ?_
  rw [n_cl, pw_a _ _ (by decide)]
  refine C.aload_n dX13_landTold_60 0 rfl ?_
  refine C.bipush (nI 59) dX13_landTold_61 (by decide) ?_
  refine C.callVV lX13_344 dX13_landTold_63 (kp_asksSign (μ := sI (sI (sI μ 215 0 r1.1) 215 1 r2.1) 215 2 r3.1) hS1 hT3 p6 _) hS.o rfl rfl (Nat.le_of_ble_eq_true rfl) (Nat.zero_le _) (Nat.zero_le _) (Nat.le_of_ble_eq_true rfl) (fun μ63 h63 => ?_)
  subst h63
  refine C.vret hq dX13_landTold_66 ?_
  unfold mLandM mLandS
  simp only [hr1, hr2, hr3]
/-- bellTold -/
def mBellM (tx : Nat → Nat) (e : Nat) (μ : Mm) (s : Ps) (begun : Int32) (nb nw : Nat) : Mm :=
  let s1 := mFull s (nI nb) (nI 5) begun
  let r2 := mNewN tx e s1 (mL μ 217) nb nw
  let r3 := mCell tx e (mAsks tx e r2.2 wAt) (mI μ 215 0) (mI μ 215 1)
  let r4 := mNum tx e (mAsks tx e r3.2 wRope) (nI 0) (nI 99)
  if s1.2.2.1 = 0 then (if r4.2.2.2.1 = 0 then pw (sI (sI (sI (sL μ 217 nb (lN r2.1)) 219 (2 * nb) r3.1) 219 (2 * nb + 1) r4.1) 216 0 (nI (nb + 1))) r4.2 else pw μ r4.2) else pw μ s1
theorem kp_bellTold (hS : ShM μ) (hW : WdM μ) (hT : TxM μ tx e) {s : Ps} (hp : s.1 ≤ e) {nb nw : Nat} (hnb : mI μ 216 0 = nI nb) (hnw : mI μ 216 1 = nI nw) (hb5 : nb ≤ 5) (hw6 : nw ≤ 6) (begun : Int32) : AMet l G 5 0 0 mtX13_bellTold [.ref (G.1 + 179), .int begun] (pw μ s) (qV (fun μ' => μ' = mBellM tx e μ s begun nb nw)) := by
  refine AMet.of (by decide) (Nat.le_of_ble_eq_true rfl) (fun X C hX hnm hq => ?_)
  have hS1 := hS
  have hS : ShM (pw μ s) := hS1.pw _
  have q0 : (mFull s (nI nb) (nI 5) begun).1 ≤ e := by rw [mFull_1]; exact hp
  generalize hs1 : mFull s (nI nb) (nI 5) begun = s1 at q0
  have p1 := mNewN_le (tx := tx) (mL μ 217) nb nw q0
  generalize hr2 : mNewN tx e s1 (mL μ 217) nb nw = r2 at p1
  have p2 := mAsks_le (tx := tx) wAt p1
  have p3 := mCell_le (tx := tx) (mI μ 215 0) (mI μ 215 1) p2
  generalize hr3 : mCell tx e (mAsks tx e r2.2 wAt) (mI μ 215 0) (mI μ 215 1) = r3 at p3
  have p4 := mAsks_le (tx := tx) wRope p3
  generalize hr4 : mNum tx e (mAsks tx e r3.2 wRope) (nI 0) (nI 99) = r4
  have hlt5 : s1.2.2.1 = 0 → nb < 5 := fun h => by
    rcases Nat.lt_or_ge nb 5 with q | q
    · exact q
    · exfalso
      have hn5 : nb = 5 := by omega
      rw [← hs1] at h
      unfold mFull mFail at h
      by_cases h0 : s.2.2.1 = 0
      · rw [if_pos ⟨h0, by rw [hn5]⟩, if_pos h0] at h
        exact absurd h (by decide : ¬ nI 5 = 0)
      · rw [if_neg (fun z => h0 z.1)] at h
        exact h0 h
  have r216 : ∀ s : Ps, mI (pw μ s) 216 0 = nI nb := fun s => by rw [pw_off _ _ (Or.inl (by decide))]; exact hnb
  refine C.aload_n dX13_bellTold_0 0 rfl ?_
  refine C.iconst (nI 0) dX13_bellTold_1 (by decide) ?_
  refine C.iconst (nI 5) dX13_bellTold_2 (by decide) ?_
  refine C.iload_n dX13_bellTold_3 1 rfl ?_
  refine C.callVI lX13_348 dX13_bellTold_4 (kp_isFull hS1 s (k := 0) (by decide) _ _) hS.o rfl rfl (Nat.le_of_ble_eq_true rfl) (Nat.zero_le _) (Nat.zero_le _) (Nat.le_of_ble_eq_true rfl) (fun x4 μ4 h4 => ?_)
  obtain ⟨rfl, rfl⟩ := h4
  rw [hnb, hs1]
  refine C.if_eq 11 dX13_bellTold_7 rfl (fun hc7 => ?_) (fun hc7 => ?_)
  · have hbd : s1.2.2.1 = 0 := by by_cases h : s1.2.2.1 = 0; exact h; rw [if_neg h] at hc7; exact absurd hc7 (by decide)
    have hlt := hlt5 hbd
    refine C.aload_n dX13_bellTold_11 0 rfl ?_
    refine C.callVL lX13_352 dX13_bellTold_12 (kp_newName hS1 hW hT q0 hnb hnw (by omega) hw6) hS.o rfl rfl (Nat.le_of_ble_eq_true rfl) (Nat.zero_le _) (Nat.zero_le _) (Nat.le_of_ble_eq_true rfl) (fun x12 μ12 h12 => ?_)
    obtain ⟨rfl, rfl⟩ := h12
    rw [hr2]
    refine C.lstore_n (lv' := [(0, _), (1, _), (2, _)]) dX13_bellTold_15 (nLt hX rfl) rfl ?_
    refine C.aload_n dX13_bellTold_16 0 rfl ?_
    refine C.aload_n dX13_bellTold_17 0 rfl ?_
    refine C.getA fX13_36 dX13_bellTold_18 hS.o hS.r16 ?_
    refine C.callVV lX13_337 dX13_bellTold_21 (kp_asks hS1 hW hT p1 (List.mem_of_getElem? (l := wdT) (i := 5) rfl)) hS.o rfl rfl (Nat.le_of_ble_eq_true rfl) (Nat.zero_le _) (Nat.zero_le _) (Nat.le_of_ble_eq_true rfl) (fun μ21 h21 => ?_)
    subst h21
    refine C.aload_n dX13_bellTold_24 0 rfl ?_
    refine C.callVI lX13_341 dX13_bellTold_25 (kp_cellTold hS1 hT p2) hS.o rfl rfl (Nat.le_of_ble_eq_true rfl) (Nat.zero_le _) (Nat.zero_le _) (Nat.le_of_ble_eq_true rfl) (fun x25 μ25 h25 => ?_)
    obtain ⟨rfl, rfl⟩ := h25
    rw [hr3]
    refine C.istore (lv' := [(0, _), (1, _), (2, _), (4, _)]) dX13_bellTold_28 (nLt hX rfl) rfl ?_
    refine C.aload_n dX13_bellTold_30 0 rfl ?_
    refine C.aload_n dX13_bellTold_31 0 rfl ?_
    refine C.getA fX13_39 dX13_bellTold_32 hS.o hS.r17 ?_
    refine C.callVV lX13_337 dX13_bellTold_35 (kp_asks hS1 hW hT p3 (List.mem_of_getElem? (l := wdT) (i := 6) rfl)) hS.o rfl rfl (Nat.le_of_ble_eq_true rfl) (Nat.zero_le _) (Nat.zero_le _) (Nat.le_of_ble_eq_true rfl) (fun μ35 h35 => ?_)
    subst h35
    refine C.aload_n dX13_bellTold_38 0 rfl ?_
    refine C.iconst (nI 0) dX13_bellTold_39 (by decide) ?_
    refine C.bipush (nI 99) dX13_bellTold_40 (by decide) ?_
    refine C.callVI lX13_333 dX13_bellTold_42 (kp_number hS1 hT p4 _ _) hS.o rfl rfl (Nat.le_of_ble_eq_true rfl) (Nat.zero_le _) (Nat.zero_le _) (Nat.le_of_ble_eq_true rfl) (fun x42 μ42 h42 => ?_)
    obtain ⟨rfl, rfl⟩ := h42
    rw [hr4]
    refine C.istore (lv' := [(0, _), (1, _), (2, _), (4, _), (5, _)]) dX13_bellTold_45 (nLt hX rfl) rfl ?_
    refine C.aload_n dX13_bellTold_47 0 rfl ?_
    refine C.getI fX13_264 dX13_bellTold_48 hS.o ?_
    rw [pw_5]
    refine C.if_eq 55 dX13_bellTold_51 rfl (fun hc51 => ?_) (fun hc51 => ?_)
    · refine C.aload_n dX13_bellTold_55 0 rfl ?_
      refine C.getA fX13_126 dX13_bellTold_56 hS.o hS.r47 ?_
      refine C.aload_n dX13_bellTold_59 0 rfl ?_
      refine C.getA fX13_123 dX13_bellTold_60 hS.o hS.r46 ?_
      refine C.iconst (nI 0) dX13_bellTold_63 (by decide) ?_
      refine C.iald hS.a46 (n_in (by decide)) dX13_bellTold_64 ?_
      rw [n_cl, r216]
      refine C.lload_n dX13_bellTold_65 2 rfl ?_
      refine C.last hS.a47 (n_in (by omega)) dX13_bellTold_66 ?_
      rw [n_cl, pw_L]
      have r216 : ∀ s : Ps, mI (pw (sL μ 217 nb (lN r2.1)) s) 216 0 = nI nb := fun s => by rw [pw_off _ _ (Or.inl (by decide))]; exact hnb
      refine C.aload_n dX13_bellTold_67 0 rfl ?_
      refine C.getA fX13_133 dX13_bellTold_68 hS.o hS.r49 ?_
      refine C.iconst (nI 2) dX13_bellTold_71 (by decide) ?_
      refine C.aload_n dX13_bellTold_72 0 rfl ?_
      refine C.getA fX13_123 dX13_bellTold_73 hS.o hS.r46 ?_
      refine C.iconst (nI 0) dX13_bellTold_76 (by decide) ?_
      refine C.iald hS.a46 (n_in (by decide)) dX13_bellTold_77 ?_
      rw [n_cl, r216]
      refine C.imul dX13_bellTold_78 ?_
      rw [pk_mul]
      refine C.iload dX13_bellTold_79 3 rfl ?_
      refine C.iast hS.a49 (n_in (by omega)) dX13_bellTold_81 ?_
      rw [n_cl, pw_a _ _ (by decide)]
      have r216 : ∀ s : Ps, mI (pw (sI (sL μ 217 nb (lN r2.1)) 219 (2 * nb) r3.1) s) 216 0 = nI nb := fun s => by rw [pw_off _ _ (Or.inl (by decide)), mI_sI, if_neg (by omega)]; exact hnb
      refine C.aload_n dX13_bellTold_82 0 rfl ?_
      refine C.getA fX13_133 dX13_bellTold_83 hS.o hS.r49 ?_
      refine C.iconst (nI 2) dX13_bellTold_86 (by decide) ?_
      refine C.aload_n dX13_bellTold_87 0 rfl ?_
      refine C.getA fX13_123 dX13_bellTold_88 hS.o hS.r46 ?_
      refine C.iconst (nI 0) dX13_bellTold_91 (by decide) ?_
      refine C.iald hS.a46 (n_in (by decide)) dX13_bellTold_92 ?_
      rw [n_cl, r216]
      refine C.imul dX13_bellTold_93 ?_
      rw [pk_mul]
      refine C.iconst (nI 1) dX13_bellTold_94 (by decide) ?_
      refine C.iadd dX13_bellTold_95 ?_
      rw [nI_add]
      refine C.iload dX13_bellTold_96 4 rfl ?_
      refine C.iast hS.a49 (n_in (by omega)) dX13_bellTold_98 ?_
      rw [n_cl, pw_a _ _ (by decide)]
      have r216 : ∀ s : Ps, mI (pw (sI (sI (sL μ 217 nb (lN r2.1)) 219 (2 * nb) r3.1) 219 (2 * nb + 1) r4.1) s) 216 0 = nI nb := fun s => by rw [pw_off _ _ (Or.inl (by decide)), mI_sI, if_neg (by omega), mI_sI, if_neg (by omega)]; exact hnb
      refine C.aload_n dX13_bellTold_99 0 rfl ?_
      refine C.getA fX13_123 dX13_bellTold_100 hS.o hS.r46 ?_
      refine C.iconst (nI 0) dX13_bellTold_103 (by decide) ?_
      refine C.dup2 dX13_bellTold_104 rfl rfl ?_
      refine C.iald hS.a46 (n_in (by decide)) dX13_bellTold_105 ?_
      rw [n_cl, r216]
      refine C.iconst (nI 1) dX13_bellTold_106 (by decide) ?_
      refine C.iadd dX13_bellTold_107 ?_
      rw [nI_add]
      refine C.iast hS.a46 (n_in (by decide)) dX13_bellTold_108 ?_
      rw [n_cl, pw_a _ _ (by decide)]
      refine C.vret hq dX13_bellTold_109 ?_
      unfold mBellM
      simp only [hs1, hr2, hr3, hr4]
      rw [if_pos hbd, if_pos hc51]
    · refine C.vret hq dX13_bellTold_54 ?_
      unfold mBellM
      simp only [hs1, hr2, hr3, hr4]
      rw [if_pos hbd, if_neg hc51]
  · have hbd : ¬ s1.2.2.1 = 0 := fun h => hc7 (by rw [if_pos h]; rfl)
    refine C.vret hq dX13_bellTold_10 ?_
    unfold mBellM
    simp only [hs1]
    rw [if_neg hbd]
/-- walkerTold -/
def mWalkM (tx : Nat → Nat) (e : Nat) (μ : Mm) (s : Ps) (begun : Int32) (nb nw : Nat) : Mm :=
  let s1 := mFull s (nI nw) (nI 6) begun
  let r2 := mNewN tx e s1 (mL μ 217) nb nw
  let r3 := mCell tx e (mAsks tx e r2.2 wFrom) (mI μ 215 0) (mI μ 215 1)
  let r4 := mCell tx e (mAsks tx e r3.2 wTo) (mI μ 215 0) (mI μ 215 1)
  let r5 := mNum tx e (mAsks tx e r4.2 wDoes) (nI 0) (nI 3)
  if s1.2.2.1 = 0 then (if r5.2.2.2.1 = 0 then pw (sI (sI (sI (sI (sL μ 217 (6 + nw) (lN r2.1)) 220 (5 * nw) r3.1) 220 (5 * nw + 1) r4.1) 220 (5 * nw + 2) r5.1) 216 1 (nI (nw + 1))) r5.2 else pw μ r5.2) else pw μ s1
theorem kp_walkerTold (hS : ShM μ) (hW : WdM μ) (hT : TxM μ tx e) {s : Ps} (hp : s.1 ≤ e) {nb nw : Nat} (hnb : mI μ 216 0 = nI nb) (hnw : mI μ 216 1 = nI nw) (hb5 : nb ≤ 5) (hw6 : nw ≤ 6) (begun : Int32) : AMet l G 5 0 0 mtX13_walkerTold [.ref (G.1 + 179), .int begun] (pw μ s) (qV (fun μ' => μ' = mWalkM tx e μ s begun nb nw)) := by
  refine AMet.of (by decide) (Nat.le_of_ble_eq_true rfl) (fun X C hX hnm hq => ?_)
  have hS1 := hS
  have hS : ShM (pw μ s) := hS1.pw _
  have q0 : (mFull s (nI nw) (nI 6) begun).1 ≤ e := by rw [mFull_1]; exact hp
  generalize hs1 : mFull s (nI nw) (nI 6) begun = s1 at q0
  have p1 := mNewN_le (tx := tx) (mL μ 217) nb nw q0
  generalize hr2 : mNewN tx e s1 (mL μ 217) nb nw = r2 at p1
  have p2 := mAsks_le (tx := tx) wFrom p1
  have p3 := mCell_le (tx := tx) (mI μ 215 0) (mI μ 215 1) p2
  generalize hr3 : mCell tx e (mAsks tx e r2.2 wFrom) (mI μ 215 0) (mI μ 215 1) = r3 at p3
  have p4 := mAsks_le (tx := tx) wTo p3
  have p5 := mCell_le (tx := tx) (mI μ 215 0) (mI μ 215 1) p4
  generalize hr4 : mCell tx e (mAsks tx e r3.2 wTo) (mI μ 215 0) (mI μ 215 1) = r4 at p5
  have p6 := mAsks_le (tx := tx) wDoes p5
  generalize hr5 : mNum tx e (mAsks tx e r4.2 wDoes) (nI 0) (nI 3) = r5
  have hlt5 : s1.2.2.1 = 0 → nw < 6 := fun h => by
    rcases Nat.lt_or_ge nw 6 with q | q
    · exact q
    · exfalso
      have hn5 : nw = 6 := by omega
      rw [← hs1] at h
      unfold mFull mFail at h
      by_cases h0 : s.2.2.1 = 0
      · rw [if_pos ⟨h0, by rw [hn5]⟩, if_pos h0] at h
        exact absurd h (by decide : ¬ nI 5 = 0)
      · rw [if_neg (fun z => h0 z.1)] at h
        exact h0 h
  have r216 : ∀ s : Ps, mI (pw μ s) 216 1 = nI nw := fun s => by rw [pw_off _ _ (Or.inl (by decide))]; exact hnw
  refine C.aload_n dX13_walkerTold_0 0 rfl ?_
  refine C.iconst (nI 1) dX13_walkerTold_1 (by decide) ?_
  refine C.bipush (nI 6) dX13_walkerTold_2 (by decide) ?_
  refine C.iload_n dX13_walkerTold_4 1 rfl ?_
  refine C.callVI lX13_348 dX13_walkerTold_5 (kp_isFull hS1 s (k := 1) (by decide) _ _) hS.o rfl rfl (Nat.le_of_ble_eq_true rfl) (Nat.zero_le _) (Nat.zero_le _) (Nat.le_of_ble_eq_true rfl) (fun x5 μ5 h5 => ?_)
  obtain ⟨rfl, rfl⟩ := h5
  rw [hnw, hs1]
  refine C.if_eq 12 dX13_walkerTold_8 rfl (fun hc8 => ?_) (fun hc8 => ?_)
  · have hbd : s1.2.2.1 = 0 := by by_cases h : s1.2.2.1 = 0; exact h; rw [if_neg h] at hc8; exact absurd hc8 (by decide)
    have hlt := hlt5 hbd
    refine C.aload_n dX13_walkerTold_12 0 rfl ?_
    refine C.callVL lX13_352 dX13_walkerTold_13 (kp_newName hS1 hW hT q0 hnb hnw (by omega) hw6) hS.o rfl rfl (Nat.le_of_ble_eq_true rfl) (Nat.zero_le _) (Nat.zero_le _) (Nat.le_of_ble_eq_true rfl) (fun x13 μ13 h13 => ?_)
    obtain ⟨rfl, rfl⟩ := h13
    rw [hr2]
    refine C.lstore_n (lv' := [(0, _), (1, _), (2, _)]) dX13_walkerTold_16 (nLt hX rfl) rfl ?_
    refine C.aload_n dX13_walkerTold_17 0 rfl ?_
    refine C.aload_n dX13_walkerTold_18 0 rfl ?_
    refine C.getA fX13_45 dX13_walkerTold_19 hS.o hS.r19 ?_
    refine C.callVV lX13_337 dX13_walkerTold_22 (kp_asks hS1 hW hT p1 (List.mem_of_getElem? (l := wdT) (i := 8) rfl)) hS.o rfl rfl (Nat.le_of_ble_eq_true rfl) (Nat.zero_le _) (Nat.zero_le _) (Nat.le_of_ble_eq_true rfl) (fun μ22 h22 => ?_)
    subst h22
    refine C.aload_n dX13_walkerTold_25 0 rfl ?_
    refine C.callVI lX13_341 dX13_walkerTold_26 (kp_cellTold hS1 hT p2) hS.o rfl rfl (Nat.le_of_ble_eq_true rfl) (Nat.zero_le _) (Nat.zero_le _) (Nat.le_of_ble_eq_true rfl) (fun x26 μ26 h26 => ?_)
    obtain ⟨rfl, rfl⟩ := h26
    rw [hr3]
    refine C.istore (lv' := [(0, _), (1, _), (2, _), (4, _)]) dX13_walkerTold_29 (nLt hX rfl) rfl ?_
    refine C.aload_n dX13_walkerTold_31 0 rfl ?_
    refine C.aload_n dX13_walkerTold_32 0 rfl ?_
    refine C.getA fX13_48 dX13_walkerTold_33 hS.o hS.r20 ?_
    refine C.callVV lX13_337 dX13_walkerTold_36 (kp_asks hS1 hW hT p3 (List.mem_of_getElem? (l := wdT) (i := 9) rfl)) hS.o rfl rfl (Nat.le_of_ble_eq_true rfl) (Nat.zero_le _) (Nat.zero_le _) (Nat.le_of_ble_eq_true rfl) (fun μ36 h36 => ?_)
    subst h36
    refine C.aload_n dX13_walkerTold_39 0 rfl ?_
    refine C.callVI lX13_341 dX13_walkerTold_40 (kp_cellTold hS1 hT p4) hS.o rfl rfl (Nat.le_of_ble_eq_true rfl) (Nat.zero_le _) (Nat.zero_le _) (Nat.le_of_ble_eq_true rfl) (fun x40 μ40 h40 => ?_)
    obtain ⟨rfl, rfl⟩ := h40
    rw [hr4]
    refine C.istore (lv' := [(0, _), (1, _), (2, _), (4, _), (5, _)]) dX13_walkerTold_43 (nLt hX rfl) rfl ?_
    refine C.aload_n dX13_walkerTold_45 0 rfl ?_
    refine C.aload_n dX13_walkerTold_46 0 rfl ?_
    refine C.getA fX13_51 dX13_walkerTold_47 hS.o hS.r21 ?_
    refine C.callVV lX13_337 dX13_walkerTold_50 (kp_asks hS1 hW hT p5 (List.mem_of_getElem? (l := wdT) (i := 10) rfl)) hS.o rfl rfl (Nat.le_of_ble_eq_true rfl) (Nat.zero_le _) (Nat.zero_le _) (Nat.le_of_ble_eq_true rfl) (fun μ50 h50 => ?_)
    subst h50
    refine C.aload_n dX13_walkerTold_53 0 rfl ?_
    refine C.iconst (nI 0) dX13_walkerTold_54 (by decide) ?_
    refine C.iconst (nI 3) dX13_walkerTold_55 (by decide) ?_
    refine C.callVI lX13_333 dX13_walkerTold_56 (kp_number hS1 hT p6 _ _) hS.o rfl rfl (Nat.le_of_ble_eq_true rfl) (Nat.zero_le _) (Nat.zero_le _) (Nat.le_of_ble_eq_true rfl) (fun x56 μ56 h56 => ?_)
    obtain ⟨rfl, rfl⟩ := h56
    rw [hr5]
    refine C.istore (lv' := [(0, _), (1, _), (2, _), (4, _), (5, _), (6, _)]) dX13_walkerTold_59 (nLt hX rfl) rfl ?_
    refine C.aload_n dX13_walkerTold_61 0 rfl ?_
    refine C.getI fX13_264 dX13_walkerTold_62 hS.o ?_
    rw [pw_5]
    refine C.if_eq 69 dX13_walkerTold_65 rfl (fun hc65 => ?_) (fun hc65 => ?_)
    · refine C.aload_n dX13_walkerTold_69 0 rfl ?_
      refine C.getA fX13_126 dX13_walkerTold_70 hS.o hS.r47 ?_
      refine C.bipush (nI 6) dX13_walkerTold_73 (by decide) ?_
      refine C.aload_n dX13_walkerTold_75 0 rfl ?_
      refine C.getA fX13_123 dX13_walkerTold_76 hS.o hS.r46 ?_
      refine C.iconst (nI 1) dX13_walkerTold_79 (by decide) ?_
      refine C.iald hS.a46 (n_in (by decide)) dX13_walkerTold_80 ?_
      rw [n_cl, r216]
      refine C.iadd dX13_walkerTold_81 ?_
      rw [nI_add]
      refine C.lload_n dX13_walkerTold_82 2 rfl ?_
      refine C.last hS.a47 (n_in (by omega)) dX13_walkerTold_83 ?_
      rw [n_cl, pw_L]
      have r216 : ∀ s : Ps, mI (pw (sL μ 217 (6 + nw) (lN r2.1)) s) 216 1 = nI nw := fun s => by rw [pw_off _ _ (Or.inl (by decide))]; exact hnw
      refine C.iconst (nI 5) dX13_walkerTold_84 (by decide) ?_
      refine C.aload_n dX13_walkerTold_85 0 rfl ?_
      refine C.getA fX13_123 dX13_walkerTold_86 hS.o hS.r46 ?_
      refine C.iconst (nI 1) dX13_walkerTold_89 (by decide) ?_
      refine C.iald hS.a46 (n_in (by decide)) dX13_walkerTold_90 ?_
      rw [n_cl, r216]
      refine C.imul dX13_walkerTold_91 ?_
      rw [pk_mul]
      refine C.istore (lv' := [(0, _), (1, _), (2, _), (4, _), (5, _), (6, _), (7, _)]) dX13_walkerTold_92 (nLt hX rfl) rfl ?_
      refine C.aload_n dX13_walkerTold_94 0 rfl ?_
      refine C.getA fX13_136 dX13_walkerTold_95 hS.o hS.r50 ?_
      refine C.iload dX13_walkerTold_98 6 rfl ?_
      refine C.iload dX13_walkerTold_100 3 rfl ?_
      refine C.iast hS.a50 (n_in (by omega)) dX13_walkerTold_102 ?_
      rw [n_cl, pw_a _ _ (by decide)]
      refine C.aload_n dX13_walkerTold_103 0 rfl ?_
      refine C.getA fX13_136 dX13_walkerTold_104 hS.o hS.r50 ?_
      refine C.iload dX13_walkerTold_107 6 rfl ?_
      refine C.iconst (nI 1) dX13_walkerTold_109 (by decide) ?_
      refine C.iadd dX13_walkerTold_110 ?_
      rw [nI_add]
      refine C.iload dX13_walkerTold_111 4 rfl ?_
      refine C.iast hS.a50 (n_in (by omega)) dX13_walkerTold_113 ?_
      rw [n_cl, pw_a _ _ (by decide)]
      refine C.aload_n dX13_walkerTold_114 0 rfl ?_
      refine C.getA fX13_136 dX13_walkerTold_115 hS.o hS.r50 ?_
      refine C.iload dX13_walkerTold_118 6 rfl ?_
      refine C.iconst (nI 2) dX13_walkerTold_120 (by decide) ?_
      refine C.iadd dX13_walkerTold_121 ?_
      rw [nI_add]
      refine C.iload dX13_walkerTold_122 5 rfl ?_
      refine C.iast hS.a50 (n_in (by omega)) dX13_walkerTold_124 ?_
      rw [n_cl, pw_a _ _ (by decide)]
      have r216 : ∀ s : Ps, mI (pw (sI (sI (sI (sL μ 217 (6 + nw) (lN r2.1)) 220 (5 * nw) r3.1) 220 (5 * nw + 1) r4.1) 220 (5 * nw + 2) r5.1) s) 216 1 = nI nw := fun s => by rw [pw_off _ _ (Or.inl (by decide)), mI_sI, if_neg (by omega), mI_sI, if_neg (by omega), mI_sI, if_neg (by omega)]; exact hnw
      refine C.aload_n dX13_walkerTold_125 0 rfl ?_
      refine C.getA fX13_123 dX13_walkerTold_126 hS.o hS.r46 ?_
      refine C.iconst (nI 1) dX13_walkerTold_129 (by decide) ?_
      refine C.dup2 dX13_walkerTold_130 rfl rfl ?_
      refine C.iald hS.a46 (n_in (by decide)) dX13_walkerTold_131 ?_
      rw [n_cl, r216]
      refine C.iconst (nI 1) dX13_walkerTold_132 (by decide) ?_
      refine C.iadd dX13_walkerTold_133 ?_
      rw [nI_add]
      refine C.iast hS.a46 (n_in (by decide)) dX13_walkerTold_134 ?_
      rw [n_cl, pw_a _ _ (by decide)]
      refine C.vret hq dX13_walkerTold_135 ?_
      unfold mWalkM
      simp only [hs1, hr2, hr3, hr4, hr5]
      rw [if_pos hbd, if_pos hc65]
    · refine C.vret hq dX13_walkerTold_68 ?_
      unfold mWalkM
      simp only [hs1, hr2, hr3, hr4, hr5]
      rw [if_pos hbd, if_neg hc65]
  · have hbd : ¬ s1.2.2.1 = 0 := fun h => hc8 (by rw [if_pos h]; rfl)
    refine C.vret hq dX13_walkerTold_11 ?_
    unfold mWalkM
    simp only [hs1]
    rw [if_neg hbd]
end KM7
