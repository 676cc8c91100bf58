/-! the class: tokens taken -/
section KTK
variable {l : Launch} {G : Gm} {μ : Mm} {tp : List Nat} {s : Ps}
theorem RD.bad {tx : Nat → Nat} {e : Nat} (h : RD μ tx e s) (hb : ¬ s.2.2.1 = 0) {s' : Ps} (e1 : s'.2.2.1 = s.2.2.1) (e2 : s'.2.2.2.1 = s.2.2.2.1) : RD μ tx e s' := by
  obtain ⟨h1, h2, h3⟩ := h.2 hb
  exact ⟨fun z => absurd (e1.symm.trans z) hb, fun _ => ⟨h1.trans e1.symm, h2.trans e2.symm, h3⟩⟩
theorem kw_adv (hS : ShC μ) (hT : CsT μ tp) (hR : RD μ (txL tp) tp.length s) (h0 : s.2.2.1 = 0) {t kd : Nat} (ht : t ≤ tp.length) (hkd : kd ≤ 3) (h2 : mI μ 3 2 = nI kd) (h5 : mI μ 3 5 = nI t) {s' : Ps} (e1 : s'.1 = t) (e0 : s'.2.2.1 = 0) (hc : ((kd = 1 ∨ kd = 2) ∧ sk (txL tp) tp.length t = t) ↔ nI (sk (txL tp) tp.length t) = s'.2.1) : AMet l G 1 0 0 mtX8_advance [.ref (G.1 + 3)] μ (qV (fun μ' => RD μ' (txL tp) tp.length s' ∧ RqF μ μ')) :=
  (kq_advance hS hT ht hkd h2 h5).monoV (fun μ' q => ⟨hR.adv h0 q.1 (by rw [e1]; exact q.2) (by rw [e1]; exact hc) e0, RqF.of q.1⟩)
/-- after a sign -/
theorem kw_advS (hS : ShC μ) (hT : CsT μ tp) (hR : RD μ (txL tp) tp.length s) (hP : PsOk tp.length s) (hs : sHas (txL tp) tp.length s) {s' : Ps} (e1 : s'.1 = sk (txL tp) tp.length s.1 + 1) (e2 : s'.2.1 = s.2.1) (e3 : s'.2.2.1 = s.2.2.1) : AMet l G 1 0 0 mtX8_advance [.ref (G.1 + 3)] μ (qV (fun μ' => RD μ' (txL tp) tp.length s' ∧ RqF μ μ')) := by
  obtain ⟨h0, hp, hL, hD⟩ := hs
  obtain ⟨k2, k3, k5⟩ := (hR.1 h0).2.2.2.2.2.2.2 hp hL hD
  have h1600 := hT.2.1
  have hle := sk_le (tx := txL tp) (hP h0).1
  have hle2 := sk_le (tx := txL tp) (e := tp.length) (p := sk (txL tp) tp.length s.1 + 1) (by omega)
  refine kw_adv hS hT hR h0 (by omega) (Nat.le_refl 3) k2 k5 e1 (e3.trans h0) ⟨fun z => by omega, fun z => ?_⟩
  rw [e2] at z
  rcases (hP h0).2.1 with q | ⟨m, hm, q⟩
  · rw [q] at z; exact absurd z (n_m1 (by omega))
  · rw [q] at z
    have := n_eq z (by omega) (by omega)
    omega
theorem kw_advW (hS : ShC μ) (hT : CsT μ tp) (hR : RD μ (txL tp) tp.length s) (hs : wHas (txL tp) tp.length s) {s' : Ps} (e1 : s'.1 = wl (txL tp) tp.length (sk (txL tp) tp.length s.1)) (e2 : s'.2.1 = nI (wl (txL tp) tp.length (sk (txL tp) tp.length s.1))) (e3 : s'.2.2.1 = s.2.2.1) : AMet l G 1 0 0 mtX8_advance [.ref (G.1 + 3)] μ (qV (fun μ' => RD μ' (txL tp) tp.length s' ∧ RqF μ μ')) := by
  obtain ⟨h0, hp, hL, ht⟩ := hs
  obtain ⟨k2, k3, k5⟩ := (hR.1 h0).2.2.2.2.2.1 hp hL ht
  have h1600 := hT.2.1
  have hwp := wl_pos hp hL
  have hle2 := sk_le (tx := txL tp) (e := tp.length) (p := wl (txL tp) tp.length (sk (txL tp) tp.length s.1)) (by omega)
  refine kw_adv hS hT hR h0 (by omega) (by omega) k2 k5 e1 (e3.trans h0) ⟨fun z => by rw [z.2, e2], fun z => ⟨Or.inl rfl, ?_⟩⟩
  rw [e2] at z
  exact n_eq z (by omega) (by omega)
theorem kw_advD (hS : ShC μ) (hT : CsT μ tp) (hR : RD μ (txL tp) tp.length s) (hs : dHas (txL tp) tp.length s) {s' : Ps} (e1 : s'.1 = dl (txL tp) tp.length (sk (txL tp) tp.length s.1)) (e2 : s'.2.1 = nI (dl (txL tp) tp.length (sk (txL tp) tp.length s.1))) (e3 : s'.2.2.1 = s.2.2.1) : AMet l G 1 0 0 mtX8_advance [.ref (G.1 + 3)] μ (qV (fun μ' => RD μ' (txL tp) tp.length s' ∧ RqF μ μ')) := by
  obtain ⟨h0, hp, hL, ht⟩ := hs
  obtain ⟨k2, k3, k5⟩ := (hR.1 h0).2.2.2.2.2.2.1 hp hL ht
  have h1600 := hT.2.1
  have hwp := dl_pos hp hL
  have hle2 := sk_le (tx := txL tp) (e := tp.length) (p := dl (txL tp) tp.length (sk (txL tp) tp.length s.1)) (by omega)
  refine kw_adv hS hT hR h0 (by omega) (by omega) k2 k5 e1 (e3.trans h0) ⟨fun z => by rw [z.2, e2], fun z => ⟨Or.inr rfl, ?_⟩⟩
  rw [e2] at z
  exact n_eq z (by omega) (by omega)
/-- what a sign found means -/
theorem sign_has {tx : Nat → Nat} {e c : Nat} (hb : ∀ k, k < e → tx k < 256) (hc : c < 256) (hL : isL c = false) (hD : isD c = false) (h : (mSign tx e s (nI c)).1 = true) : sHas tx e s ∧ (mSign tx e s (nI c)).2 = (sk tx e s.1 + 1, s.2) := by
  unfold mSign at h ⊢
  by_cases h0 : s.2.2.1 = 0
  · rw [if_pos h0] at h ⊢
    by_cases hq : chr tx e (sk tx e s.1) = nI c
    · rw [if_pos hq]
      refine ⟨?_, rfl⟩
      unfold chr at hq
      by_cases hp : sk tx e s.1 < e
      · rw [if_pos hp] at hq
        have b := hb _ hp
        have ee := n_eq hq (by omega) (by omega)
        exact ⟨h0, hp, by rw [ee]; exact hL, by rw [ee]; exact hD⟩
      · rw [if_neg hp] at hq
        exact absurd hq.symm (n_m1 (by omega))
    · rw [if_neg hq] at h; cases h
  · rw [if_neg h0] at h; cases h
theorem here_has {tx : Nat → Nat} {e : Nat} {ws : List Nat} (h : (mHere tx e s ws).1 = true) : wHas tx e s ∧ tok tx e (sk tx e s.1) = ws := by
  unfold mHere at h
  by_cases h0 : s.2.2.1 = 0
  · rw [if_pos h0] at h
    unfold hereW at h
    dsimp only at h
    rw [Bool.and_eq_true, Bool.and_eq_true, Bool.and_eq_true, decide_eq_true_iff, decide_eq_true_iff, Bool.not_eq_true', decide_eq_false_iff_not] at h
    exact ⟨⟨h0, h.1.1.1, h.1.1.2, h.1.2⟩, h.2⟩
  · rw [if_neg h0] at h; cases h
theorem asks_no {tx : Nat → Nat} {e : Nat} {ws : List Nat} (h0 : s.2.2.1 = 0) (hz : (mHere tx e s ws).1 = false) : mAsks tx e s ws = mFail (mLook tx e s) (nI 1) (nI (sk tx e s.1)) := by
  have he : (mHere tx e s ws).2 = mLook tx e s := by unfold mHere; rw [if_pos h0]
  have ht : mTakes tx e s ws = (false, mLook tx e s) := by
    unfold mTakes
    rw [if_neg (by rw [hz]; decide), he]
  unfold mAsks
  rw [if_pos h0, ht]
  rfl
theorem asks_yes {tx : Nat → Nat} {e : Nat} {ws : List Nat} (h0 : s.2.2.1 = 0) (hz : (mHere tx e s ws).1 = true) : mAsks tx e s ws = (sk tx e s.1 + ws.length, nI (sk tx e s.1 + ws.length), s.2.2) := by
  have he : (mHere tx e s ws).2 = mLook tx e s := by unfold mHere; rw [if_pos h0]
  have ht : mTakes tx e s ws = (true, (sk tx e s.1 + ws.length, nI (sk tx e s.1 + ws.length), s.2.2)) := by
    unfold mTakes
    rw [if_pos hz, he]
    rfl
  unfold mAsks
  rw [if_pos h0, ht]
  rfl
theorem asks_bad {tx : Nat → Nat} {e : Nat} {ws : List Nat} (h0 : ¬ s.2.2.1 = 0) : mAsks tx e s ws = s := by
  unfold mAsks
  rw [if_neg h0]
theorem RD.failL {tx : Nat → Nat} {e : Nat} (h : RD μ tx e (mFail s (nI 1) (nI (sk tx e s.1)))) (h0 : s.2.2.1 = 0) : RD μ tx e (mFail (mLook tx e s) (nI 1) (nI (sk tx e s.1))) := by
  unfold mFail at h ⊢
  rw [if_pos h0] at h
  rw [if_pos (show (mLook tx e s).2.2.1 = 0 from h0)]
  exact h.bad (by show ¬ nI 1 = 0; decide) rfl rfl
theorem RD.failB {tx : Nat → Nat} {e : Nat} {k pl : Int32} (h : RD μ tx e (mFail s k pl)) (h0 : ¬ s.2.2.1 = 0) : RD μ tx e s := by
  unfold mFail at h
  rw [if_neg h0] at h
  exact h
theorem CsT.by {tp : List Nat} (hT : CsT μ tp) : ∀ k, k < tp.length → txL tp k < 256 := fun k q => (hT.2.2 k _ (txL_q q)).2

theorem kw_needSign (hS : ShC μ) (hT : CsT μ tp) (hR : RD μ (txL tp) tp.length s) (hP : PsOk tp.length s) {c : Nat} (hc : c < 128) (hL : isL c = false) (hD : isD c = false) : AMet l G 2 0 0 mtX8_needSign [.ref (G.1 + 3), .int (nI c)] μ (qV (fun μ' => RD μ' (txL tp) tp.length (mAskSign (txL tp) tp.length s (nI c)) ∧ RqF μ μ')) := by
  refine AMet.of (by decide) (Nat.le_of_ble_eq_true rfl) (fun X C hX hnm hq => ?_)
  unfold mAskSign at hq
  refine C.aload_n dX8_needSign_0 0 rfl ?_
  refine C.iload_n dX8_needSign_1 1 rfl ?_
  refine C.callVI lX8_76 dX8_needSign_2 (kw_isSign hS hT hR hc hL hD) hS.o3 rfl rfl (Nat.le_of_ble_eq_true rfl) (Nat.zero_le _) (Nat.zero_le _) (Nat.le_of_ble_eq_true rfl) (fun x2 μ2 h2 => ?_)
  obtain ⟨rfl, hμ⟩ := h2
  subst hμ
  refine C.if_eq 15 dX8_needSign_5 rfl (fun hc5 => ?_) (fun hc5 => ?_)
  · have hz := (bI_0 _).mp hc5
    refine C.aload_n dX8_needSign_15 0 rfl ?_
    refine C.iconst (nI 1) dX8_needSign_16 (by decide) ?_
    refine C.aload_n dX8_needSign_17 0 rfl ?_
    refine C.getI fX8_57 dX8_needSign_18 hS.o3 ?_
    refine C.callVV lX8_60 dX8_needSign_21 (kw_failF hS hR) hS.o3 rfl rfl (Nat.le_of_ble_eq_true rfl) (Nat.zero_le _) (Nat.zero_le _) (Nat.le_of_ble_eq_true rfl) (fun μ21 h21 => ?_)
    refine C.vret hq dX8_needSign_24 ?_
    first | exact h9 | skip
    try
      refine ⟨?_, h21.2⟩
      by_cases h0 : s.2.2.1 = 0
      · rw [if_pos h0, hz]
        have he : (mSign (txL tp) tp.length s (nI c)).2 = mLook (txL tp) tp.length s := by
          unfold mSign at hz ⊢
          rw [if_pos h0] at hz ⊢
          by_cases hq2 : chr (txL tp) tp.length (sk (txL tp) tp.length s.1) = nI c
          · rw [if_pos hq2] at hz; cases hz
          · rw [if_neg hq2]
        rw [if_neg (by decide), he]
        have h21 := h21.1
        unfold mFail at h21 ⊢
        rw [if_pos h0] at h21
        rw [if_pos (show (mLook (txL tp) tp.length s).2.2.1 = 0 from h0)]
        exact h21.bad (by show ¬ nI 1 = 0; decide) rfl rfl
      · rw [if_neg h0]
        have h21 := h21.1
        unfold mFail at h21
        rw [if_neg h0] at h21
        exact h21
  · have hz := b_t hc5
    obtain ⟨hs, he⟩ := sign_has hT.by (by omega) hL hD hz
    rw [if_pos hs.1, if_pos hz, he] at hq
    refine C.aload_n dX8_needSign_8 0 rfl ?_
    refine C.callVV lX8_54 dX8_needSign_9 (kw_advS hS hT hR hP hs (s' := (sk (txL tp) tp.length s.1 + 1, s.2)) rfl rfl rfl) hS.o3 rfl rfl (Nat.le_of_ble_eq_true rfl) (Nat.zero_le _) (Nat.zero_le _) (Nat.le_of_ble_eq_true rfl) (fun μ9 h9 => ?_)
    refine C.goto 24 dX8_needSign_12 rfl ?_
    refine C.vret hq dX8_needSign_24 ?_
    first | exact h9 | skip
    try
      refine ⟨?_, h21.2⟩
      by_cases h0 : s.2.2.1 = 0
      · rw [if_pos h0, hz]
        have he : (mSign (txL tp) tp.length s (nI c)).2 = mLook (txL tp) tp.length s := by
          unfold mSign at hz ⊢
          rw [if_pos h0] at hz ⊢
          by_cases hq2 : chr (txL tp) tp.length (sk (txL tp) tp.length s.1) = nI c
          · rw [if_pos hq2] at hz; cases hz
          · rw [if_neg hq2]
        rw [if_neg (by decide), he]
        have h21 := h21.1
        unfold mFail at h21 ⊢
        rw [if_pos h0] at h21
        rw [if_pos (show (mLook (txL tp) tp.length s).2.2.1 = 0 from h0)]
        exact h21.bad (by show ¬ nI 1 = 0; decide) rfl rfl
      · rw [if_neg h0]
        have h21 := h21.1
        unfold mFail at h21
        rw [if_neg h0] at h21
        exact h21
theorem kw_needWord (hC : CsB μ) (hT : CsT μ tp) (hR : RD μ (txL tp) tp.length s) {w : Nat} (hw : w < 39) : AMet l G 2 0 0 mtX8_needWord [.ref (G.1 + 3), .int (nI w)] μ (qV (fun μ' => RD μ' (txL tp) tp.length (mAsks (txL tp) tp.length s (keyL.getD w [])) ∧ RqF μ μ')) := by
  refine AMet.of (by decide) (Nat.le_of_ble_eq_true rfl) (fun X C hX hnm hq => ?_)
  have hS := hC.1
  refine C.aload_n dX8_needWord_0 0 rfl ?_
  refine C.iload_n dX8_needWord_1 1 rfl ?_
  refine C.callVI lX8_80 dX8_needWord_2 (kw_isWord hC hT hR hw) hS.o3 rfl rfl (Nat.le_of_ble_eq_true rfl) (Nat.zero_le _) (Nat.zero_le _) (Nat.le_of_ble_eq_true rfl) (fun x2 μ2 h2 => ?_)
  obtain ⟨rfl, hμ⟩ := h2
  subst hμ
  refine C.if_eq 15 dX8_needWord_5 rfl (fun hc5 => ?_) (fun hc5 => ?_)
  · have hz := (bI_0 _).mp hc5
    refine C.aload_n dX8_needWord_15 0 rfl ?_
    refine C.iconst (nI 1) dX8_needWord_16 (by decide) ?_
    refine C.aload_n dX8_needWord_17 0 rfl ?_
    refine C.getI fX8_57 dX8_needWord_18 hS.o3 ?_
    refine C.callVV lX8_60 dX8_needWord_21 (kw_failF hS hR) hS.o3 rfl rfl (Nat.le_of_ble_eq_true rfl) (Nat.zero_le _) (Nat.zero_le _) (Nat.le_of_ble_eq_true rfl) (fun μ21 h21 => ?_)
    refine C.vret hq dX8_needWord_24 ?_
    first | exact h9 | skip
    try
      refine ⟨?_, h21.2⟩
      by_cases h0 : s.2.2.1 = 0
      · rw [asks_no h0 hz]; exact h21.1.failL h0
      · rw [asks_bad h0]; exact h21.1.failB h0
  · have hz := b_t hc5
    obtain ⟨hs, he⟩ := here_has hz
    have hwp := wl_pos hs.2.1 hs.2.2.1
    have hln : sk (txL tp) tp.length s.1 + (keyL.getD w []).length = wl (txL tp) tp.length (sk (txL tp) tp.length s.1) := by rw [← he, tok_len]; omega
    rw [asks_yes hs.1 hz] at hq
    refine C.aload_n dX8_needWord_8 0 rfl ?_
    refine C.callVV lX8_54 dX8_needWord_9 (kw_advW hS hT hR hs (s' := (sk (txL tp) tp.length s.1 + (keyL.getD w []).length, nI (sk (txL tp) tp.length s.1 + (keyL.getD w []).length), s.2.2)) hln (by rw [← hln]) rfl) hS.o3 rfl rfl (Nat.le_of_ble_eq_true rfl) (Nat.zero_le _) (Nat.zero_le _) (Nat.le_of_ble_eq_true rfl) (fun μ9 h9 => ?_)
    refine C.goto 24 dX8_needWord_12 rfl ?_
    refine C.vret hq dX8_needWord_24 ?_
    first | exact h9 | skip
    try
      refine ⟨?_, h21.2⟩
      by_cases h0 : s.2.2.1 = 0
      · rw [asks_no h0 hz]; exact h21.1.failL h0
      · rw [asks_bad h0]; exact h21.1.failB h0
theorem kw_takeNumber (hS : ShC μ) (hT : CsT μ tp) (hR : RD μ (txL tp) tp.length s) (lo hi : Int32) : AMet l G 2 0 0 mtX8_takeNumber [.ref (G.1 + 3), .int lo, .int hi] μ (qI (fun z μ' => z = (if (mNum (txL tp) tp.length s lo hi).2.2.2.1 = 0 then (mNum (txL tp) tp.length s lo hi).1 else nI 0) ∧ RD μ' (txL tp) tp.length (mNum (txL tp) tp.length s lo hi).2 ∧ RqF μ μ')) := by
  refine AMet.of (by decide) (Nat.le_of_ble_eq_true rfl) (fun X C hX hnm hq => ?_)
  have h1600 := hT.2.1
  obtain ⟨kd, k1, k2, -, -, k3, -⟩ := hR.kd
  unfold dHas at k3
  generalize hN : mNum (txL tp) tp.length s lo hi = N at hq
  unfold mNum at hN
  refine C.aload_n dX8_takeNumber_0 0 rfl ?_
  refine C.getI fX8_48 dX8_takeNumber_1 hS.o3 ?_
  rw [k2]
  refine C.iconst (nI 2) dX8_takeNumber_4 (by decide) ?_
  refine C.icmp_eq 20 dX8_takeNumber_5 rfl (fun hc5 => ?_) (fun hc5 => ?_)
  · have hk := n_eq hc5 (by omega) (by omega)
    obtain ⟨z1, z2, z3, z4⟩ := k3.mp hk
    rw [if_pos z1, if_pos ⟨z2, z3, z4⟩] at hN
    have hall := (hR.1 z1).2.2
    obtain ⟨q2, q3, q5⟩ := hall.2.2.2.2.1 z2 z3 z4
    have hdp := dl_pos z2 z3
    have h4 := hall.1
    have hs : dHas (txL tp) tp.length s := ⟨z1, z2, z3, z4⟩
    generalize hp : sk (txL tp) tp.length s.1 = p at *
    have hsub : nI (dl (txL tp) tp.length p) - nI p = nI (dl (txL tp) tp.length p - p) := by
      rw [show nI (dl (txL tp) tp.length p) = nI (dl (txL tp) tp.length p - p) + nI p by rw [nI_add]; congr 1; omega]
      simp
    refine C.aload_n dX8_takeNumber_20 0 rfl ?_
    refine C.getI fX8_51 dX8_takeNumber_21 hS.o3 ?_
    refine C.aload_n dX8_takeNumber_24 0 rfl ?_
    refine C.getI fX8_57 dX8_takeNumber_25 hS.o3 ?_
    rw [q5, h4]
    refine C.isub dX8_takeNumber_28 ?_
    rw [hsub]
    refine C.iconst (nI 4) dX8_takeNumber_29 (by decide) ?_
    refine C.icmp_le 47 dX8_takeNumber_30 rfl (fun hc30 => ?_) (fun hc30 => ?_)
    · have h30 := n_le hc30 (by omega) (by omega)
      rw [if_pos (by omega)] at hN
      rw [show min 4 (dl (txL tp) tp.length p - p) = dl (txL tp) tp.length p - p by omega] at q3
      generalize dval (txL tp) p (dl (txL tp) tp.length p - p) = v at *
      have r69 : ¬ (lo ≤ nI v ∧ nI v ≤ hi) → ∀ μ', (RD μ' (txL tp) tp.length (mFail s (nI 2) (nI p)) ∧ RqF μ μ') → (nI 0 = (if N.2.2.2.1 = 0 then N.1 else nI 0) ∧ RD μ' (txL tp) tp.length N.2 ∧ RqF μ μ') := fun hno μ' h41 => by
        rw [if_neg hno] at hN
        subst hN
        refine ⟨rfl, ?_, h41.2⟩
        have := h41.1
        unfold mFail at this
        rw [if_pos z1] at this
        exact this.bad (by show ¬ nI 2 = 0; decide) rfl rfl
      refine C.aload_n dX8_takeNumber_47 0 rfl ?_
      refine C.getI fX8_73 dX8_takeNumber_48 hS.o3 ?_
      rw [q3]
      refine C.iload_n dX8_takeNumber_51 1 rfl ?_
      refine C.icmp_lt 63 dX8_takeNumber_52 rfl (fun hc52 => ?_) (fun hc52 => ?_)
      · refine C.aload_n dX8_takeNumber_63 0 rfl ?_
        refine C.iconst (nI 2) dX8_takeNumber_64 (by decide) ?_
        refine C.aload_n dX8_takeNumber_65 0 rfl ?_
        refine C.getI fX8_57 dX8_takeNumber_66 hS.o3 ?_
        rw [h4]
        refine C.callVV lX8_60 dX8_takeNumber_69 (kw_fail hS hR (by decide)) hS.o3 rfl rfl (Nat.le_of_ble_eq_true rfl) (Nat.zero_le _) (Nat.zero_le _) (Nat.le_of_ble_eq_true rfl) (fun μ69 h69 => ?_)
        refine C.goto 86 dX8_takeNumber_72 rfl ?_
        refine C.iconst (nI 0) dX8_takeNumber_86 (by decide) ?_
        refine C.iret hq dX8_takeNumber_87 ?_
        first | (exact (by
          refine ⟨?_, ?_, h14.2⟩
          · by_cases h0 : s.2.2.1 = 0
            · rw [if_pos h0, if_neg (fun z => hne (k3.mpr ⟨h0, z.1, z.2.1, z.2.2⟩))] at hN
              subst hN
              exact (ite_self _).symm
            · rw [if_neg h0] at hN
              subst hN
              exact (ite_self _).symm
          · by_cases h0 : s.2.2.1 = 0
            · rw [if_pos h0, if_neg (fun z => hne (k3.mpr ⟨h0, z.1, z.2.1, z.2.2⟩))] at hN
              subst hN
              exact h14.1.failL h0
            · rw [if_neg h0] at hN
              subst hN
              exact h14.1.failB h0)) | skip
        try (exact r41 _ h41)
        try (exact r69 (fun z => absurd z.1 (Int32.not_le.mpr hc52)) _ h69)
        try (exact r69 (fun z => hc60 z.2) _ h69)
      · refine C.aload_n dX8_takeNumber_55 0 rfl ?_
        refine C.getI fX8_73 dX8_takeNumber_56 hS.o3 ?_
        rw [q3]
        refine C.iload_n dX8_takeNumber_59 2 rfl ?_
        refine C.icmp_le 75 dX8_takeNumber_60 rfl (fun hc60 => ?_) (fun hc60 => ?_)
        · refine C.aload_n dX8_takeNumber_75 0 rfl ?_
          refine C.getI fX8_73 dX8_takeNumber_76 hS.o3 ?_
          rw [q3]
          refine C.istore_n (lv' := [(0, _), (1, _), (2, _), (3, _)]) dX8_takeNumber_79 (nLt hX rfl) rfl ?_
          refine C.aload_n dX8_takeNumber_80 0 rfl ?_
          refine C.callVV lX8_54 dX8_takeNumber_81 (kw_advD hS hT hR hs (s' := (dl (txL tp) tp.length p, nI (dl (txL tp) tp.length p), s.2.2.1, s.2.2.2.1, nI p, s.2.2.2.2.2)) (by rw [hp]) (by rw [hp]) rfl) hS.o3 rfl rfl (Nat.le_of_ble_eq_true rfl) (Nat.zero_le _) (Nat.zero_le _) (Nat.le_of_ble_eq_true rfl) (fun μ81 h81 => ?_)
          refine C.iload_n dX8_takeNumber_84 3 rfl ?_
          refine C.iret hq dX8_takeNumber_85 ?_
          rw [if_pos ⟨Int32.not_lt.mp hc52, hc60⟩] at hN
          subst hN
          exact ⟨(if_pos z1).symm, h81⟩
        · refine C.aload_n dX8_takeNumber_63 0 rfl ?_
          refine C.iconst (nI 2) dX8_takeNumber_64 (by decide) ?_
          refine C.aload_n dX8_takeNumber_65 0 rfl ?_
          refine C.getI fX8_57 dX8_takeNumber_66 hS.o3 ?_
          rw [h4]
          refine C.callVV lX8_60 dX8_takeNumber_69 (kw_fail hS hR (by decide)) hS.o3 rfl rfl (Nat.le_of_ble_eq_true rfl) (Nat.zero_le _) (Nat.zero_le _) (Nat.le_of_ble_eq_true rfl) (fun μ69 h69 => ?_)
          refine C.goto 86 dX8_takeNumber_72 rfl ?_
          refine C.iconst (nI 0) dX8_takeNumber_86 (by decide) ?_
          refine C.iret hq dX8_takeNumber_87 ?_
          first | (exact (by
            refine ⟨?_, ?_, h14.2⟩
            · by_cases h0 : s.2.2.1 = 0
              · rw [if_pos h0, if_neg (fun z => hne (k3.mpr ⟨h0, z.1, z.2.1, z.2.2⟩))] at hN
                subst hN
                exact (ite_self _).symm
              · rw [if_neg h0] at hN
                subst hN
                exact (ite_self _).symm
            · by_cases h0 : s.2.2.1 = 0
              · rw [if_pos h0, if_neg (fun z => hne (k3.mpr ⟨h0, z.1, z.2.1, z.2.2⟩))] at hN
                subst hN
                exact h14.1.failL h0
              · rw [if_neg h0] at hN
                subst hN
                exact h14.1.failB h0)) | skip
          try (exact r41 _ h41)
          try (exact r69 (fun z => absurd z.1 (Int32.not_le.mpr hc52)) _ h69)
          try (exact r69 (fun z => hc60 z.2) _ h69)
    · have h30 := n_nle hc30 (by omega) (by omega)
      rw [if_neg (by omega)] at hN
      have r41 : ∀ μ', (RD μ' (txL tp) tp.length (mFail s (nI 1) (nI (p + 4))) ∧ RqF μ μ') → (nI 0 = (if N.2.2.2.1 = 0 then N.1 else nI 0) ∧ RD μ' (txL tp) tp.length N.2 ∧ RqF μ μ') := fun μ' h41 => by
        subst hN
        refine ⟨rfl, ?_, h41.2⟩
        have := h41.1
        unfold mFail at this
        rw [if_pos z1] at this
        exact this.bad (by show ¬ nI 1 = 0; decide) rfl rfl
      refine C.aload_n dX8_takeNumber_33 0 rfl ?_
      refine C.iconst (nI 1) dX8_takeNumber_34 (by decide) ?_
      refine C.aload_n dX8_takeNumber_35 0 rfl ?_
      refine C.getI fX8_57 dX8_takeNumber_36 hS.o3 ?_
      refine C.iconst (nI 4) dX8_takeNumber_39 (by decide) ?_
      refine C.iadd dX8_takeNumber_40 ?_
      rw [h4, nI_add]
      refine C.callVV lX8_60 dX8_takeNumber_41 (kw_fail hS hR (by decide)) hS.o3 rfl rfl (Nat.le_of_ble_eq_true rfl) (Nat.zero_le _) (Nat.zero_le _) (Nat.le_of_ble_eq_true rfl) (fun μ41 h41 => ?_)
      refine C.goto 86 dX8_takeNumber_44 rfl ?_
      refine C.iconst (nI 0) dX8_takeNumber_86 (by decide) ?_
      refine C.iret hq dX8_takeNumber_87 ?_
      first | (exact (by
        refine ⟨?_, ?_, h14.2⟩
        · by_cases h0 : s.2.2.1 = 0
          · rw [if_pos h0, if_neg (fun z => hne (k3.mpr ⟨h0, z.1, z.2.1, z.2.2⟩))] at hN
            subst hN
            exact (ite_self _).symm
          · rw [if_neg h0] at hN
            subst hN
            exact (ite_self _).symm
        · by_cases h0 : s.2.2.1 = 0
          · rw [if_pos h0, if_neg (fun z => hne (k3.mpr ⟨h0, z.1, z.2.1, z.2.2⟩))] at hN
            subst hN
            exact h14.1.failL h0
          · rw [if_neg h0] at hN
            subst hN
            exact h14.1.failB h0)) | skip
      try (exact r41 _ h41)
      try (exact r69 (fun z => absurd z.1 (Int32.not_le.mpr hc52)) _ h69)
      try (exact r69 (fun z => hc60 z.2) _ h69)
  · have hne := n_ne hc5
    refine C.aload_n dX8_takeNumber_8 0 rfl ?_
    refine C.iconst (nI 1) dX8_takeNumber_9 (by decide) ?_
    refine C.aload_n dX8_takeNumber_10 0 rfl ?_
    refine C.getI fX8_57 dX8_takeNumber_11 hS.o3 ?_
    refine C.callVV lX8_60 dX8_takeNumber_14 (kw_failF hS hR) hS.o3 rfl rfl (Nat.le_of_ble_eq_true rfl) (Nat.zero_le _) (Nat.zero_le _) (Nat.le_of_ble_eq_true rfl) (fun μ14 h14 => ?_)
    refine C.goto 86 dX8_takeNumber_17 rfl ?_
    refine C.iconst (nI 0) dX8_takeNumber_86 (by decide) ?_
    refine C.iret hq dX8_takeNumber_87 ?_
    first | (exact (by
      refine ⟨?_, ?_, h14.2⟩
      · by_cases h0 : s.2.2.1 = 0
        · rw [if_pos h0, if_neg (fun z => hne (k3.mpr ⟨h0, z.1, z.2.1, z.2.2⟩))] at hN
          subst hN
          exact (ite_self _).symm
        · rw [if_neg h0] at hN
          subst hN
          exact (ite_self _).symm
      · by_cases h0 : s.2.2.1 = 0
        · rw [if_pos h0, if_neg (fun z => hne (k3.mpr ⟨h0, z.1, z.2.1, z.2.2⟩))] at hN
          subst hN
          exact h14.1.failL h0
        · rw [if_neg h0] at hN
          subst hN
          exact h14.1.failB h0)) | skip
    try (exact r41 _ h41)
    try (exact r69 (fun z => absurd z.1 (Int32.not_le.mpr hc52)) _ h69)
    try (exact r69 (fun z => hc60 z.2) _ h69)
end KTK
