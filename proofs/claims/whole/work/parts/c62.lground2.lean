/-! the class: the ground of a land is read -/
section KRG
variable {l : Launch} {G : Gm} {μ : Mm} {tp : List Nat} {s : Ps} {L : Nat} {f g : Nat → Nat} {d : Ld}
theorem LgR.st16 (h : LgR μ L f g d) (v : Int32) : LgR (sI μ L 16 v) L f g d := by
  have hk := h.dk (μ' := sI μ L 16 v) rfl (fun a k ha => by rw [mI_sI, if_neg (by omega)])
  obtain ⟨⟨s1, ⟨i1, i2, i3⟩, b1, e1, w1, k1, n1⟩, h2, h3⟩ := h
  have hL : ∀ k, k ≠ 16 → mI (sI μ L 16 v) L k = mI μ L k := fun k q => by rw [mI_sI, if_neg (by omega)]
  have hO : ∀ a k, a ≠ L → mI (sI μ L 16 v) a k = mI μ a k := fun a k q => by rw [mI_sI, if_neg (by omega)]
  refine ⟨⟨s1.of rfl rfl, ⟨⟨(hL 0 (by omega)).trans i1.1, (hL 1 (by omega)).trans i1.2.1, (hL 2 (by omega)).trans i1.2.2⟩, ⟨(hL 11 (by omega)).trans i2.1, (hL 12 (by omega)).trans i2.2⟩, (hL 13 (by omega)).trans i3.1, (hL 14 (by omega)).trans i3.2.1, (hL 15 (by omega)).trans i3.2.2⟩, b1, fun i y hy => ?_, fun i y hy => ?_, hk, n1⟩, h2, h3⟩
  · obtain ⟨z0, z1, z2, z3⟩ := e1 i y hy
    refine ⟨z0, (hO (L + 1) i (by omega)).trans z1, (hO (L + 2) i (by omega)).trans z2, ?_⟩
    show nmR y.1 (mI _ (L + 13) i)
    rw [hO (L + 13) i (by omega)]
    exact z3
  · obtain ⟨z0, z1, z2, z3, z4⟩ := w1 i y hy
    refine ⟨z0, (hO (L + 3) i (by omega)).trans z1, (hO (L + 4) i (by omega)).trans z2, ?_, fun t ht => ?_⟩
    · show nmR y.1 (mI _ (L + 14) i)
      rw [hO (L + 14) i (by omega)]
      exact z3
    · have := z4 t ht
      rw [cLk_20 z0] at this ⊢
      rw [hO _ t (by omega)]
      exact this
theorem InP.start (M : Mm) : InP (nM M 2 20) (mN M) 1 [] [] [] (fun _ => 0) (nM M 2 20) := ⟨⟨rfl, Grw.refl _, isO_nM M 2 20, by omega⟩, fun a ha => ⟨fun _ => rfl, fun _ => rfl, fun _ => rfl⟩, by simp, by simp, by simp, fun k => by rw [mI_nM, if_pos rfl], fun k => by rw [mL_nM, if_pos rfl], fun a h1 h2 => by omega⟩
/-- a number that was taken, or 0 -/
theorem taken {tx : Nat → Nat} {e : Nat} {s : Ps} {lo hi : Nat} {x : Int32} (hhi : hi < 1000) (hlo : lo ≤ hi) (h : x = (if (mNum tx e s (nI lo) (nI hi)).2.2.2.1 = 0 then (mNum tx e s (nI lo) (nI hi)).1 else nI 0)) : ∃ v, v ≤ hi ∧ x = nI v ∧ ((mNum tx e s (nI lo) (nI hi)).2.2.2.1 = 0 → lo ≤ v ∧ (mNum tx e s (nI lo) (nI hi)).1 = nI v) := by
  by_cases hz : (mNum tx e s (nI lo) (nI hi)).2.2.2.1 = 0
  · obtain ⟨v, q1, q2, -, q4⟩ := mNum_ok s (by omega) (by omega) hz
    rw [if_pos hz, q4] at h
    exact ⟨v, q2, h, fun _ => ⟨q1, q4⟩⟩
  · rw [if_neg hz] at h
    exact ⟨0, by omega, h, fun q => absurd q hz⟩
theorem mNum_hi {tx : Nat → Nat} {e : Nat} {s : Ps} (hb : ¬ s.2.2.1 = 0) (lo hi : Int32) : mNum tx e s lo hi = (nI 0, s) := by
  unfold mNum
  rw [if_neg hb]
def GrQ (μ : Mm) (tp : List Nat) (L : Nat) (R : Int32 × Int32 × Int32 × Ps) (μ' : Mm) : Prop := RD μ' (txL tp) tp.length R.2.2.2 ∧ PsOk tp.length R.2.2.2 ∧ LnF L μ μ' ∧ isO μ' L 2 ∧ mI μ' L 16 = nI 1 ∧ mN μ' = L + 18 ∧ (R.2.2.2.2.2.1 = 0 → LgR μ' L (fun _ => L + 16) (fun _ => L + 17) (dZ (nn R.1) (nn R.2.1) (nn R.2.2.1)) ∧ Wf (dZ (nn R.1) (nn R.2.1) (nn R.2.2.1)))

theorem kr_readGround (hC : CsB μ) (hT : CsT μ tp) (hR : RD μ (txL tp) tp.length s) (hP : PsOk tp.length s) : AMet l G 4 18 185 mtX3_readGround [.ref (G.1 + 7)] μ (qR G.1 (fun r μ' => r = mN μ ∧ GrQ μ tp (mN μ) (mLandS (txL tp) tp.length s) μ')) := by
  refine AMet.of (by decide) (Nat.le_of_ble_eq_true rfl) (fun X C hX hnm hq => ?_)
  have hS := hC.1
  have hN := hC.2.2
  have hP1 := hP.asks (tx := txL tp) wLand
  have hP2 := hP1.num' (tx := txL tp) hP1.le (nI 2) (nI 7)
  have hP3 := hP2.asks (tx := txL tp) wBy
  have hP4 := hP3.num' (tx := txL tp) hP3.le (nI 2) (nI 7)
  have hP5 := hP4.asks (tx := txL tp) wHunt
  refine C.aload_n dX3_readGround_0 0 rfl ?_
  refine C.getO fX3_9 dX3_readGround_1 hS.o7 hS.r7_0 ?_
  refine C.iconst (nI 0) dX3_readGround_4 (by decide) ?_
  refine C.callVV lX3_53 dX3_readGround_5 (kw_needWord (w := 0) hC hT hR (by omega)) hS.o3 rfl rfl (Nat.le_of_ble_eq_true rfl) (Nat.zero_le _) (Nat.zero_le _) (Nat.le_of_ble_eq_true rfl) (fun μ5 h5 => ?_)
  rw [show keyL.getD 0 [] = wLand from rfl] at h5
  obtain ⟨r5, q5⟩ := h5
  have hS := q5.sh hS
  have hC := (LnF.q 259 q5).b (by omega) hC
  have hT := q5.t hT
  refine C.aload_n dX3_readGround_8 0 rfl ?_
  refine C.getO fX3_9 dX3_readGround_9 hS.o7 hS.r7_0 ?_
  refine C.iconst (nI 2) dX3_readGround_12 (by decide) ?_
  refine C.bipush (nI 7) dX3_readGround_13 (by decide) ?_
  refine C.callVI lX3_56 dX3_readGround_15 (kw_takeNumber hS hT r5 (nI 2) (nI 7)) hS.o3 rfl rfl (Nat.le_of_ble_eq_true rfl) (Nat.zero_le _) (Nat.zero_le _) (Nat.le_of_ble_eq_true rfl) (fun x15 μ15 h15 => ?_)
  obtain ⟨z15, r15, q15⟩ := h15
  obtain ⟨W, hW1, hW2, hW3⟩ := taken (by omega) (by omega) z15
  have hS := q15.sh hS
  have hC := (LnF.q 259 q15).b (by omega) hC
  have hT := q15.t hT
  refine C.istore_n (lv' := [(0, _), (1, _)]) dX3_readGround_18 (nLt hX rfl) rfl ?_
  refine C.aload_n dX3_readGround_19 0 rfl ?_
  refine C.getO fX3_9 dX3_readGround_20 hS.o7 hS.r7_0 ?_
  refine C.iconst (nI 1) dX3_readGround_23 (by decide) ?_
  refine C.callVV lX3_53 dX3_readGround_24 (kw_needWord (w := 1) hC hT r15 (by omega)) hS.o3 rfl rfl (Nat.le_of_ble_eq_true rfl) (Nat.zero_le _) (Nat.zero_le _) (Nat.le_of_ble_eq_true rfl) (fun μ24 h24 => ?_)
  rw [show keyL.getD 1 [] = wBy from rfl] at h24
  obtain ⟨r24, q24⟩ := h24
  have hS := q24.sh hS
  have hC := (LnF.q 259 q24).b (by omega) hC
  have hT := q24.t hT
  refine C.aload_n dX3_readGround_27 0 rfl ?_
  refine C.getO fX3_9 dX3_readGround_28 hS.o7 hS.r7_0 ?_
  refine C.iconst (nI 2) dX3_readGround_31 (by decide) ?_
  refine C.bipush (nI 7) dX3_readGround_32 (by decide) ?_
  refine C.callVI lX3_56 dX3_readGround_34 (kw_takeNumber hS hT r24 (nI 2) (nI 7)) hS.o3 rfl rfl (Nat.le_of_ble_eq_true rfl) (Nat.zero_le _) (Nat.zero_le _) (Nat.le_of_ble_eq_true rfl) (fun x34 μ34 h34 => ?_)
  obtain ⟨z34, r34, q34⟩ := h34
  obtain ⟨H, hH1, hH2, hH3⟩ := taken (by omega) (by omega) z34
  have hS := q34.sh hS
  have hC := (LnF.q 259 q34).b (by omega) hC
  have hT := q34.t hT
  refine C.istore_n (lv' := [(0, _), (1, _), (2, _)]) dX3_readGround_37 (nLt hX rfl) rfl ?_
  refine C.aload_n dX3_readGround_38 0 rfl ?_
  refine C.getO fX3_9 dX3_readGround_39 hS.o7 hS.r7_0 ?_
  refine C.iconst (nI 2) dX3_readGround_42 (by decide) ?_
  refine C.callVV lX3_53 dX3_readGround_43 (kw_needWord (w := 2) hC hT r34 (by omega)) hS.o3 rfl rfl (Nat.le_of_ble_eq_true rfl) (Nat.zero_le _) (Nat.zero_le _) (Nat.le_of_ble_eq_true rfl) (fun μ43 h43 => ?_)
  rw [show keyL.getD 2 [] = wHunt from rfl] at h43
  obtain ⟨r43, q43⟩ := h43
  have hS := q43.sh hS
  have hC := (LnF.q 259 q43).b (by omega) hC
  have hT := q43.t hT
  rw [hW2, hH2]
  have hq43 := (((q5.trans q15).trans q24).trans q34).trans q43
  generalize hR1 : mNum (txL tp) tp.length (mAsks (txL tp) tp.length s wLand) (nI 2) (nI 7) = R1 at *
  generalize hR2 : mNum (txL tp) tp.length (mAsks (txL tp) tp.length R1.2 wBy) (nI 2) (nI 7) = R2 at *
  generalize hS3 : mAsks (txL tp) tp.length R2.2 wHunt = s3 at *
  have hb32 : s3.2.2.1 = 0 → R2.2.2.2.1 = 0 := fun z => mAsks_bad (tx := txL tp) (e := tp.length) _ wHunt (by rw [hS3]; exact z)
  have hb21 : R2.2.2.2.1 = 0 → R1.2.2.2.1 = 0 := fun z => mAsks_bad (tx := txL tp) (e := tp.length) _ wBy (mNum_bad (tx := txL tp) (e := tp.length) _ (nI 2) (nI 7) (by rw [hR2]; exact z))
  have hM : mLandS (txL tp) tp.length s = (R1.1, R2.1, (mCell (txL tp) tp.length s3 R1.1 R2.1).1, mAskSign (txL tp) tp.length (mCell (txL tp) tp.length s3 R1.1 R2.1).2 (nI 59)) := by
    unfold mLandS
    rw [hR1]
    dsimp only
    rw [hR2, hS3]
  have hc1 : mNum (txL tp) tp.length s3 (nI 0) (nI W - nI 1) = mNum (txL tp) tp.length s3 (nI 0) (R1.1 - nI 1) := by
    by_cases z : s3.2.2.1 = 0
    · rw [(hW3 (hb21 (hb32 z))).2]
    · rw [mNum_hi z, mNum_hi z]
  generalize hS4 : mNum (txL tp) tp.length s3 (nI 0) (R1.1 - nI 1) = S4 at *
  have hb43 : S4.2.2.2.1 = 0 → s3.2.2.1 = 0 := fun z => mNum_bad (tx := txL tp) (e := tp.length) _ (nI 0) (R1.1 - nI 1) (by rw [hS4]; exact z)
  have hc2 : mNum (txL tp) tp.length S4.2 (nI 0) (nI H - nI 1) = mNum (txL tp) tp.length S4.2 (nI 0) (R2.1 - nI 1) := by
    by_cases z : S4.2.2.2.1 = 0
    · rw [(hH3 (hb32 (hb43 z))).2]
    · rw [mNum_hi z, mNum_hi z]
  have hmc : (mCell (txL tp) tp.length s3 R1.1 R2.1) = ((if (mNum (txL tp) tp.length S4.2 (nI 0) (R2.1 - nI 1)).2.2.2.1 = 0 then S4.1 + nI 7 * (mNum (txL tp) tp.length S4.2 (nI 0) (R2.1 - nI 1)).1 else nI 0), (mNum (txL tp) tp.length S4.2 (nI 0) (R2.1 - nI 1)).2) := by
    unfold mCell
    rw [hS4]
  refine C.aload_n dX3_readGround_46 0 rfl ?_
  refine C.getO fX3_9 dX3_readGround_47 hS.o7 hS.r7_0 ?_
  refine C.iconst (nI 0) dX3_readGround_50 (by decide) ?_
  refine C.iload_n dX3_readGround_51 1 rfl ?_
  refine C.iconst (nI 1) dX3_readGround_52 (by decide) ?_
  refine C.isub dX3_readGround_53 ?_
  refine C.callVI lX3_56 dX3_readGround_54 (kw_takeNumber hS hT r43 (nI 0) (nI W - nI 1)) hS.o3 rfl rfl (Nat.le_of_ble_eq_true rfl) (Nat.zero_le _) (Nat.zero_le _) (Nat.le_of_ble_eq_true rfl) (fun x54 μ54 h54 => ?_)
  obtain ⟨z54, r54, q54⟩ := h54
  rw [hc1] at z54 r54
  have hS := q54.sh hS
  have hC := (LnF.q 259 q54).b (by omega) hC
  have hT := q54.t hT
  refine C.istore_n (lv' := [(0, _), (1, _), (2, _), (3, _)]) dX3_readGround_57 (nLt hX rfl) rfl ?_
  refine C.aload_n dX3_readGround_58 0 rfl ?_
  refine C.getO fX3_9 dX3_readGround_59 hS.o7 hS.r7_0 ?_
  refine C.iconst (nI 0) dX3_readGround_62 (by decide) ?_
  refine C.iload_n dX3_readGround_63 2 rfl ?_
  refine C.iconst (nI 1) dX3_readGround_64 (by decide) ?_
  refine C.isub dX3_readGround_65 ?_
  refine C.callVI lX3_56 dX3_readGround_66 (kw_takeNumber hS hT r54 (nI 0) (nI H - nI 1)) hS.o3 rfl rfl (Nat.le_of_ble_eq_true rfl) (Nat.zero_le _) (Nat.zero_le _) (Nat.le_of_ble_eq_true rfl) (fun x66 μ66 h66 => ?_)
  obtain ⟨z66, r66, q66⟩ := h66
  rw [hc2] at z66 r66
  generalize hS5 : mNum (txL tp) tp.length S4.2 (nI 0) (R2.1 - nI 1) = S5 at *
  have hb54 : S5.2.2.2.1 = 0 → S4.2.2.2.1 = 0 := fun z => mNum_bad (tx := txL tp) (e := tp.length) _ (nI 0) (R2.1 - nI 1) (by rw [hS5]; exact z)
  have hS := q66.sh hS
  have hC := (LnF.q 259 q66).b (by omega) hC
  have hT := q66.t hT
  have hP6 : PsOk tp.length S4.2 := by rw [← hS4]; exact hP5.num' hP5.le _ _
  have hP7 : PsOk tp.length S5.2 := by rw [← hS5]; exact hP6.num' hP6.le _ _
  refine C.istore (lv' := [(0, _), (1, _), (2, _), (3, _), (4, _)]) dX3_readGround_69 (nLt hX rfl) rfl ?_
  refine C.aload_n dX3_readGround_71 0 rfl ?_
  refine C.getO fX3_9 dX3_readGround_72 hS.o7 hS.r7_0 ?_
  refine C.bipush (nI 59) dX3_readGround_75 (by decide) ?_
  refine C.callVV lX3_44 dX3_readGround_77 (kw_needSign hS hT r66 hP7 (c := 59) (by omega) (by decide) (by decide)) hS.o3 rfl rfl (Nat.le_of_ble_eq_true rfl) (Nat.zero_le _) (Nat.zero_le _) (Nat.le_of_ble_eq_true rfl) (fun μ77 h77 => ?_)
  obtain ⟨r77, q77⟩ := h77
  have hS := q77.sh hS
  have hC := (LnF.q 259 q77).b (by omega) hC
  have hT := q77.t hT
  have hP8 : PsOk tp.length (mAskSign (txL tp) tp.length S5.2 (nI 59)) := hP7.ask hT.by (by omega) (by decide) (by decide)
  have hq77 := ((hq43.trans q54).trans q66).trans q77
  have n77 : mN μ77 = mN μ := by unfold mN; rw [hq77.1]
  have hx54 : ∃ v, x54 = nI v ∧ (S4.2.2.2.1 = 0 → v < W ∧ S4.1 = nI v) := by
    by_cases z : S4.2.2.2.1 = 0
    · have hw2 := hW3 (hb21 (hb32 (hb43 z)))
      have z' := z
      rw [← hS4, hw2.2, pk_sub (by omega)] at z'
      obtain ⟨v, -, q2, -, q4⟩ := mNum_ok s3 (by omega) (by omega) z'
      rw [if_pos z] at z54
      have e4 : S4.1 = nI v := by rw [← hS4, hw2.2, pk_sub (by omega)]; exact q4
      exact ⟨v, by rw [z54, e4], fun _ => ⟨by omega, e4⟩⟩
    · rw [if_neg z] at z54
      exact ⟨0, z54, fun q => absurd q z⟩
  have hx66 : ∃ v, x66 = nI v ∧ (S5.2.2.2.1 = 0 → v < H ∧ S5.1 = nI v) := by
    by_cases z : S5.2.2.2.1 = 0
    · have hw2 := hH3 (hb32 (hb43 (hb54 z)))
      have z' := z
      rw [← hS5, hw2.2, pk_sub (by omega)] at z'
      obtain ⟨v, -, q2, -, q4⟩ := mNum_ok S4.2 (by omega) (by omega) z'
      rw [if_pos z] at z66
      have e4 : S5.1 = nI v := by rw [← hS5, hw2.2, pk_sub (by omega)]; exact q4
      exact ⟨v, by rw [z66, e4], fun _ => ⟨by omega, e4⟩⟩
    · rw [if_neg z] at z66
      exact ⟨0, z66, fun q => absurd q z⟩
  obtain ⟨x, hx1, hx2⟩ := hx54
  obtain ⟨y, hy1, hy2⟩ := hx66
  refine C.new (c := 2) rfl nX3_49 dX3_readGround_80 (by omega) (by rw [show nF 2 = 20 from rfl]; omega) ?_
  rw [show nF 2 = 20 from rfl]
  refine C.dup dX3_readGround_83 rfl ?_
  refine C.iload_n dX3_readGround_84 1 rfl ?_
  refine C.iload_n dX3_readGround_85 2 rfl ?_
  refine C.iload dX3_readGround_86 4 rfl ?_
  refine C.iload_n dX3_readGround_88 1 rfl ?_
  refine C.imul dX3_readGround_89 ?_
  refine C.iload_n dX3_readGround_90 3 rfl ?_
  refine C.iadd dX3_readGround_91 ?_
  refine C.callIV lX3_60 dX3_readGround_92 (kl_init (InP.start μ77) hW1 hH1) rfl rfl (Nat.le_of_ble_eq_true rfl) (by omega) (by omega) (Nat.le_of_ble_eq_true rfl) (fun μ92 h92 => ?_)
  refine C.aret hq dX3_readGround_95 ?_
  have hq := h92
  obtain ⟨⟨m1, m2, m3⟩, m4, -, -, -, -, m5, -, -, -⟩ := h92
  rw [n77] at m1 m3 m4 m5 hq
  have hfr : LnF (mN μ) μ μ92 := (LnF.q (mN μ) hq77).trans ⟨(Grw.new μ77 2 20).trans m2, fun a ha => ⟨fun k => ((m4 a ha).2.1 k).trans (by rw [mL_nM, if_neg (by omega)]), fun k => ((m4 a ha).2.2 k).trans (by rw [mR_nM, if_neg (by omega)]), fun k _ _ _ => ((m4 a ha).1 k).trans (by rw [mI_nM, if_neg (by omega)])⟩⟩
  refine ⟨n77, ?_⟩
  rw [hM, hmc]
  refine ⟨r77.ph (fun k => ((m4 3 (by omega)).1 k).trans (by rw [mI_nM, if_neg (by omega)])), hP8, hfr, m3, m5.2.2.2.2.2.2.2.2, m1, fun hz => ?_⟩
  have z5 : S5.2.2.2.1 = 0 := mAskSign_bad _ _ hz
  have z4 := hb54 z5
  obtain ⟨w1, w2⟩ := hW3 (hb21 (hb32 (hb43 z4)))
  obtain ⟨v1, v2⟩ := hH3 (hb32 (hb43 z4))
  obtain ⟨x1, x2⟩ := hx2 z4
  obtain ⟨y1, y2⟩ := hy2 z5
  dsimp only
  rw [if_pos z5, w2, v2, x2, y2, pk_mul, nI_add, nn_nI (by omega), nn_nI (by omega), nn_nI (by omega)]
  refine ⟨hq.lg hN ?_, ⟨⟨w1, hW1, v1, hH1, clOk_xy (d := dZ W H (x + 7 * y)) x1 y1 hW1⟩, ⟨Nat.zero_le _, fun z q => by simp [dZ] at q⟩, ⟨Nat.zero_le _, fun z q => by simp [dZ] at q⟩, ⟨Nat.zero_le _, fun z q => by simp [dZ] at q⟩, by show 1 ≤ 12; omega, by show 12 ≤ 99; omega, by show 20 ≤ 999; omega, by show 0 ≤ 100; omega⟩⟩
  rw [hx1, hy1, pk_mul, nI_add, kC_xy (by omega)]
  rfl
end KRG
