/-! the class: frames of the reading of a land; a cell, a new name -/
def LnF (L : Nat) (μ μ' : Mm) : Prop := Grw μ μ' ∧ ∀ a, a < L → (∀ k, mL μ' a k = mL μ a k) ∧ (∀ k, mR μ' a k = mR μ a k) ∧ (∀ k, a ≠ 3 → a ≠ 6 → ¬ (a = 5 ∧ 2 ≤ k) → mI μ' a k = mI μ a k)
section LNF
variable {L : Nat} {μ μ' μ'' : Mm} {tp : List Nat}
theorem LnF.refl (L : Nat) (μ : Mm) : LnF L μ μ := ⟨Grw.refl μ, fun _ _ => ⟨fun _ => rfl, fun _ => rfl, fun _ _ _ _ => rfl⟩⟩
theorem LnF.trans (h : LnF L μ μ') (h2 : LnF L μ' μ'') : LnF L μ μ'' := ⟨h.1.trans h2.1, fun a ha => ⟨fun k => ((h2.2 a ha).1 k).trans ((h.2 a ha).1 k), fun k => ((h2.2 a ha).2.1 k).trans ((h.2 a ha).2.1 k), fun k q1 q2 q3 => ((h2.2 a ha).2.2 k q1 q2 q3).trans ((h.2 a ha).2.2 k q1 q2 q3)⟩⟩
theorem LnF.q (L : Nat) (h : RqF μ μ') : LnF L μ μ' := ⟨Grw.of (by rw [h.1]), fun a _ => ⟨fun k => by unfold mL; rw [h.1], fun k => by unfold mR; rw [h.1], fun k q1 _ _ => h.2 a k q1⟩⟩
theorem LnF.b (h : LnF L μ μ') (hL : 259 ≤ L) (hB : CsB μ) : CsB μ' := by
  obtain ⟨b1, b2, b3⟩ := hB
  exact ⟨b1.grw h.1 (fun a k q _ => (h.2 a (by omega)).2.1 k), fun i hi => ((h.2 4 (by omega)).2.2 i (by omega) (by omega) (by omega)).trans (b2 i hi), Nat.le_trans b3 h.1.1⟩
theorem LnF.t (h : LnF L μ μ') (hL : 259 ≤ L) (hT : CsT μ tp) : CsT μ' tp := hT.of ((h.2 1 (by omega)).2.2 1 (by omega) (by omega) (by omega)) (fun k => (h.2 2 (by omega)).2.2 k (by omega) (by omega) (by omega))
/-- only this land's own cells are written -/
theorem LnF.w (h : ∀ a k, a < L → mI μ' a k = mI μ a k) (hL : ∀ a k, a < L → mL μ' a k = mL μ a k) (e : μ'.2.2 = μ.2.2) : LnF L μ μ' := ⟨Grw.of (by rw [e]), fun a ha => ⟨fun k => hL a k ha, fun k => by unfold mR; rw [e], fun k _ _ _ => h a k ha⟩⟩
end LNF
theorem RqF.ld {μ μ' : Mm} (h : RqF μ μ') {L : Nat} {c : Lc} {d : Ld} (hR : LdR μ L c d) : LdR μ' L c d := hR.same (Grw.of (by rw [h.1])) (fun a _ ha => ⟨fun k => h.2 a k (by unfold InL at ha; omega), fun k => by unfold mL; rw [h.1], fun k => by unfold mR; rw [h.1]⟩)
theorem RqF.lg {μ μ' : Mm} (h : RqF μ μ') {L : Nat} {f g : Nat → Nat} {d : Ld} (hR : LgR μ L f g d) : LgR μ' L f g d := ⟨h.ld hR.1, hR.2.1, hR.2.2⟩
section PSK
variable {tx : Nat → Nat} {e : Nat} {s : Ps}
theorem PsOk.num' (h : PsOk e s) (hs : s.2.2.1 = 0 → s.1 ≤ e) (lo hi : Int32) : PsOk e (mNum tx e s lo hi).2 := by
  by_cases hb : (mNum tx e s lo hi).2.2.2.1 = 0
  · have hz := mNum_bad s lo hi hb
    by_cases hd : dHas tx e s
    · exact h.num hd
    · rw [mNum_nd hz hd] at hb
      exact absurd hb (mFail_0 _ _ _ (by decide))
  · exact PsOk.bad hb
theorem PsOk.asks (h : PsOk e s) (ws : List Nat) : PsOk e (mAsks tx e s ws) := by
  by_cases hz : s.2.2.1 = 0
  · cases hh : (mHere tx e s ws).1 with
    | true =>
      obtain ⟨hw, ht⟩ := here_has hh
      have h1 := tok_len (tx := tx) (e := e) (p := sk tx e s.1)
      have h2 := wl_pos hw.2.1 hw.2.2.1
      rw [ht] at h1
      rw [asks_yes hz hh]
      exact h.word hw (by omega)
    | false =>
      rw [asks_no hz hh]
      exact PsOk.bad (mFail_0 _ _ _ (by decide))
  · rw [asks_bad hz]
    exact h
theorem PsOk.name (h : PsOk e s) : PsOk e (mName tx e s).2 := by
  unfold mName
  by_cases hz : s.2.2.1 = 0
  · rw [if_pos hz]
    by_cases h1 : sk tx e s.1 < e ∧ isL (tx (sk tx e s.1)) = true ∧ ¬ nI (sk tx e s.1) = s.2.1 ∧ isOwn tx e (sk tx e s.1) s.2.1 = false
    · rw [if_pos h1]
      by_cases h2 : wl tx e (sk tx e s.1) ≤ sk tx e s.1 + 6
      · rw [if_pos h2]
        exact h.word ⟨hz, h1.1, h1.2.1, h1.2.2.1⟩ (wl_pos h1.1 h1.2.1).2
      · rw [if_neg h2]
        exact PsOk.bad (by show ¬ nI 1 = 0; decide)
    · rw [if_neg h1]
      exact PsOk.bad (mFail_0 _ _ _ (by decide))
  · rw [if_neg hz]
    exact h
theorem PsOk.cell (h : PsOk e s) (a b : Int32) : PsOk e (mCell tx e s a b).2 := by
  unfold mCell
  refine PsOk.num' (PsOk.num' h (fun z => (h z).1) _ _) (fun z => ?_) _ _
  exact mNum_le _ _ (h (mNum_bad _ _ _ z)).1
theorem PsOk.dup (h : PsOk e s) (b : Bool) : PsOk e (mDup s b) := by
  unfold mDup
  split
  · exact h.fail (by decide)
  · exact h
theorem PsOk.badN (h : PsOk e s) (b : Bool) : PsOk e (mBadN s b) := by
  unfold mBadN
  split
  · exact h.fail (by decide)
  · exact h
theorem mDup_b (hb : ¬ s.2.2.1 = 0) (b : Bool) : mDup s b = s := by
  unfold mDup mFail
  rw [if_neg hb]
  split <;> rfl
theorem mName_mp (h : (mName tx e s).2.2.2.1 = 0) : (mName tx e s).2.2.2.2.2.2 = nI (sk tx e s.1) := by
  have hz := mName_bad s h
  unfold mName at h ⊢
  rw [if_pos hz] at h ⊢
  by_cases h1 : sk tx e s.1 < e ∧ isL (tx (sk tx e s.1)) = true ∧ ¬ nI (sk tx e s.1) = s.2.1 ∧ isOwn tx e (sk tx e s.1) s.2.1 = false
  · rw [if_pos h1] at h ⊢
    by_cases h2 : wl tx e (sk tx e s.1) ≤ sk tx e s.1 + 6
    · rw [if_pos h2]
    · rw [if_neg h2]
  · rw [if_neg h1] at h
    exact absurd h (mFail_0 _ _ _ (by decide))
end PSK
section KTC
variable {l : Launch} {G : Gm} {μ : Mm} {tp : List Nat} {s : Ps} {L : Nat} {c : Lc} {d : Ld}

theorem kr_takeCell (hC : CsB μ) (hT : CsT μ tp) (hR : RD μ (txL tp) tp.length s) (hO : isO μ L 2) {W H : Nat} (hW : mI μ L 0 = nI W) (hH : mI μ L 1 = nI H) (hL : 259 ≤ L) (hW7 : 0 < W ∧ W ≤ 7) (hH7 : 0 < H ∧ H ≤ 7) : AMet l G 3 0 0 mtX3_takeCell [.ref (G.1 + 7), .ref (G.1 + L)] μ (qI (fun z μ' => RD μ' (txL tp) tp.length (mCell (txL tp) tp.length s (nI W) (nI H)).2 ∧ RqF μ μ' ∧ ∃ x y, x < W ∧ y < H ∧ z = nI (y * W + x) ∧ ((mCell (txL tp) tp.length s (nI W) (nI H)).2.2.2.1 = 0 → (mCell (txL tp) tp.length s (nI W) (nI H)).1 = nI (x + 7 * y)))) := by
  refine AMet.of (by decide) (Nat.le_of_ble_eq_true rfl) (fun X C hX hnm hq => ?_)
  have hS := hC.1
  refine C.aload_n dX3_takeCell_0 0 rfl ?_
  refine C.getO fX3_9 dX3_takeCell_1 hS.o7 hS.r7_0 ?_
  refine C.iconst (nI 0) dX3_takeCell_4 (by decide) ?_
  refine C.aload_n dX3_takeCell_5 1 rfl ?_
  refine C.getI fX3_132 dX3_takeCell_6 hO ?_
  rw [hW]
  refine C.iconst (nI 1) dX3_takeCell_9 (by decide) ?_
  refine C.isub dX3_takeCell_10 ?_
  refine C.callVI lX3_56 dX3_takeCell_11 (kw_takeNumber hS hT hR (nI 0) (nI W - nI 1)) hS.o3 rfl rfl (Nat.le_of_ble_eq_true rfl) (Nat.zero_le _) (Nat.zero_le _) (Nat.le_of_ble_eq_true rfl) (fun x11 μ11 h11 => ?_)
  obtain ⟨h11a, h11b, h11c⟩ := h11
  have hS := h11c.sh hS
  have hO := hO.grw (Grw.of (show μ11.2.2.2 = μ.2.2.2 by rw [h11c.1]))
  have hW' : mI μ11 L 0 = nI W := (h11c.2 _ _ (by omega)).trans hW
  have hH' : mI μ11 L 1 = nI H := (h11c.2 _ _ (by omega)).trans hH
  refine C.istore_n (lv' := [(0, _), (1, _), (2, _)]) dX3_takeCell_14 (nLt hX rfl) rfl ?_
  refine C.aload_n dX3_takeCell_15 0 rfl ?_
  refine C.getO fX3_9 dX3_takeCell_16 hS.o7 hS.r7_0 ?_
  refine C.iconst (nI 0) dX3_takeCell_19 (by decide) ?_
  refine C.aload_n dX3_takeCell_20 1 rfl ?_
  refine C.getI fX3_135 dX3_takeCell_21 hO ?_
  rw [hH']
  refine C.iconst (nI 1) dX3_takeCell_24 (by decide) ?_
  refine C.isub dX3_takeCell_25 ?_
  refine C.callVI lX3_56 dX3_takeCell_26 (kw_takeNumber hS (h11c.t hT) h11b (nI 0) (nI H - nI 1)) hS.o3 rfl rfl (Nat.le_of_ble_eq_true rfl) (Nat.zero_le _) (Nat.zero_le _) (Nat.le_of_ble_eq_true rfl) (fun x26 μ26 h26 => ?_)
  obtain ⟨h26a, h26b, h26c⟩ := h26
  have hS := h26c.sh hS
  have hO := hO.grw (Grw.of (show μ26.2.2.2 = μ11.2.2.2 by rw [h26c.1]))
  have hW' : mI μ26 L 0 = nI W := (h26c.2 _ _ (by omega)).trans hW'
  refine C.istore_n (lv' := [(0, _), (1, _), (2, _), (3, _)]) dX3_takeCell_29 (nLt hX rfl) rfl ?_
  refine C.aload_n dX3_takeCell_30 1 rfl ?_
  refine C.iload_n dX3_takeCell_31 2 rfl ?_
  refine C.iload_n dX3_takeCell_32 3 rfl ?_
  refine C.callVI lX3_138 dX3_takeCell_33 (kl_cellAt hO _ _) hO rfl rfl (Nat.le_of_ble_eq_true rfl) (Nat.zero_le _) (Nat.zero_le _) (Nat.le_of_ble_eq_true rfl) (fun x33 μ33 h33 => ?_)
  obtain ⟨rfl, hμ⟩ := h33
  subst hμ
  refine C.iret hq dX3_takeCell_36 ?_
  have hx : ∃ x, x < W ∧ x11 = nI x ∧ ((mNum (txL tp) tp.length s (nI 0) (nI W - nI 1)).2.2.2.1 = 0 → (mNum (txL tp) tp.length s (nI 0) (nI W - nI 1)).1 = nI x) := by
    rw [pk_sub (by omega)] at h11a ⊢
    by_cases hz : (mNum (txL tp) tp.length s (nI 0) (nI (W - 1))).2.2.2.1 = 0
    · obtain ⟨v, -, q2, -, q4⟩ := mNum_ok s (by omega) (by omega) hz
      rw [if_pos hz, q4] at h11a
      exact ⟨v, by omega, h11a, fun _ => q4⟩
    · rw [if_neg hz] at h11a
      exact ⟨0, by omega, h11a, fun q => absurd q hz⟩
  have hy : ∃ y, y < H ∧ x26 = nI y ∧ ((mNum (txL tp) tp.length (mNum (txL tp) tp.length s (nI 0) (nI W - nI 1)).2 (nI 0) (nI H - nI 1)).2.2.2.1 = 0 → (mNum (txL tp) tp.length (mNum (txL tp) tp.length s (nI 0) (nI W - nI 1)).2 (nI 0) (nI H - nI 1)).1 = nI y) := by
    generalize (mNum (txL tp) tp.length s (nI 0) (nI W - nI 1)).2 = s2 at h26a h26b ⊢
    rw [pk_sub (by omega)] at h26a ⊢
    by_cases hz : (mNum (txL tp) tp.length s2 (nI 0) (nI (H - 1))).2.2.2.1 = 0
    · obtain ⟨v, -, q2, -, q4⟩ := mNum_ok s2 (by omega) (by omega) hz
      rw [if_pos hz, q4] at h26a
      exact ⟨v, by omega, h26a, fun _ => q4⟩
    · rw [if_neg hz] at h26a
      exact ⟨0, by omega, h26a, fun q => absurd q hz⟩
  obtain ⟨x, hx1, hx2, hx3⟩ := hx
  obtain ⟨y, hy1, hy2, hy3⟩ := hy
  refine ⟨h26b, h11c.trans h26c, x, y, hx1, hy1, by rw [hx2, hy2, hW', pk_mul, nI_add], fun hz => ?_⟩
  unfold mCell at hz ⊢
  dsimp only at hz ⊢
  rw [if_pos hz, hx3 (mNum_bad _ _ _ hz), hy3 hz, pk_mul, nI_add]
theorem kr_takeNewName (hC : CsB μ) (hT : CsT μ tp) (hR : RD μ (txL tp) tp.length s) (hL : LdR μ L c d) (h259 : 259 ≤ L) (h5 : d.2.2.1.length ≤ 5) (h6 : d.2.2.2.1.length ≤ 6) : AMet l G 3 0 0 mtX3_takeNewName [.ref (G.1 + 7), .ref (G.1 + L)] μ (qI (fun z μ' => RD μ' (txL tp) tp.length (rNew (txL tp) tp.length d s).2 ∧ RqF μ μ' ∧ ((rNew (txL tp) tp.length d s).2.2.2.1 = 0 → nmR (rNew (txL tp) tp.length d s).1 z))) := by
  refine AMet.of (by decide) (Nat.le_of_ble_eq_true rfl) (fun X C hX hnm hq => ?_)
  have hS := hC.1
  refine C.aload_n dX3_takeNewName_0 0 rfl ?_
  refine C.getO fX3_9 dX3_takeNewName_1 hS.o7 hS.r7_0 ?_
  refine C.getI fX3_32 dX3_takeNewName_4 hS.o3 ?_
  refine C.istore_n (lv' := [(0, _), (1, _), (2, _)]) dX3_takeNewName_7 (nLt hX rfl) rfl ?_
  refine C.aload_n dX3_takeNewName_8 0 rfl ?_
  refine C.getO fX3_9 dX3_takeNewName_9 hS.o7 hS.r7_0 ?_
  refine C.callVI lX3_141 dX3_takeNewName_12 (kw_takeName hC hT hR) hS.o3 rfl rfl (Nat.le_of_ble_eq_true rfl) (Nat.zero_le _) (Nat.zero_le _) (Nat.le_of_ble_eq_true rfl) (fun x12 μ12 h12 => ?_)
  obtain ⟨h12a, h12b, h12c, h12d⟩ := h12
  have hS := h12d.sh hS
  have hL := h12d.ld hL
  have key : (mName (txL tp) tp.length s).2.2.2.1 = 0 → ((List.range d.2.2.1.length).any (fun k => decide (mI μ12 (c 26) k = x12)) || (List.range d.2.2.2.1.length).any (fun k => decide (mI μ12 (c 27) k = x12))) = nmD d (mName (txL tp) tp.length s).1 := by
    intro hz
    have hx := h12a hz
    unfold nmD
    rw [any_idx (L := d.2.2.1) (fun i y hy => decide_eq_decide.mpr ((hL.2.2.2.1 i y hy).2.2.2.eq hx)), any_idx (L := d.2.2.2.1) (fun i y hy => decide_eq_decide.mpr ((hL.2.2.2.2.1 i y hy).2.2.2.1.eq hx))]
  refine C.istore_n (lv' := [(0, _), (1, _), (2, _), (3, _)]) dX3_takeNewName_15 (nLt hX rfl) rfl ?_
  refine C.aload_n dX3_takeNewName_16 1 rfl ?_
  refine C.iload_n dX3_takeNewName_17 3 rfl ?_
  refine C.callVI lX3_144 dX3_takeNewName_18 (kl_hasName hL h5 h6 x12) hL.o rfl rfl (Nat.le_of_ble_eq_true rfl) (Nat.zero_le _) (Nat.zero_le _) (Nat.le_of_ble_eq_true rfl) (fun x18 μ18 h18 => ?_)
  obtain ⟨h18a, hμ⟩ := h18
  subst hμ
  refine C.if_eq 33 dX3_takeNewName_21 rfl (fun hc21 => ?_) (fun hc21 => ?_)
  · rw [h18a] at hc21
    have hbf := (bI_0 _).mp hc21
    refine C.iload_n dX3_takeNewName_33 3 rfl ?_
    refine C.iret hq dX3_takeNewName_34 ?_
    unfold rNew
    dsimp only
    by_cases hz : (mName (txL tp) tp.length s).2.2.2.1 = 0
    · have hkey := key hz
      first
      | (rw [hbf] at hkey
         rw [← hkey]
         exact ⟨h12c, h12d, h12a⟩)
      | (rw [hbt] at hkey
         rw [← hkey]
         have e1 : mDup (mName (txL tp) tp.length s).2 true = mFail (mName (txL tp) tp.length s).2 (nI 3) (mI μ 3 4) := by
           rw [((hR.1 (mName_bad s hz)).2.2).1, ← mName_mp hz]
           rfl
         rw [e1]
         exact ⟨h30.1, h12d.trans h30.2, fun q => absurd q (mFail_0 _ _ _ (by decide))⟩)
    · rw [mDup_b hz]
      first
      | exact ⟨h12c, h12d, fun q => absurd q hz⟩
      | exact ⟨h30.1.failB hz, h12d.trans h30.2, fun q => absurd q hz⟩
  · rw [h18a] at hc21
    have hbt := b_t hc21
    refine C.aload_n dX3_takeNewName_24 0 rfl ?_
    refine C.getO fX3_9 dX3_takeNewName_25 hS.o7 hS.r7_0 ?_
    refine C.iconst (nI 3) dX3_takeNewName_28 (by decide) ?_
    refine C.iload_n dX3_takeNewName_29 2 rfl ?_
    refine C.callVV lX3_36 dX3_takeNewName_30 (kw_fail hS h12c (by decide)) hS.o3 rfl rfl (Nat.le_of_ble_eq_true rfl) (Nat.zero_le _) (Nat.zero_le _) (Nat.le_of_ble_eq_true rfl) (fun μ30 h30 => ?_)
    refine C.iload_n dX3_takeNewName_33 3 rfl ?_
    refine C.iret hq dX3_takeNewName_34 ?_
    unfold rNew
    dsimp only
    by_cases hz : (mName (txL tp) tp.length s).2.2.2.1 = 0
    · have hkey := key hz
      first
      | (rw [hbf] at hkey
         rw [← hkey]
         exact ⟨h12c, h12d, h12a⟩)
      | (rw [hbt] at hkey
         rw [← hkey]
         have e1 : mDup (mName (txL tp) tp.length s).2 true = mFail (mName (txL tp) tp.length s).2 (nI 3) (mI μ 3 4) := by
           rw [((hR.1 (mName_bad s hz)).2.2).1, ← mName_mp hz]
           rfl
         rw [e1]
         exact ⟨h30.1, h12d.trans h30.2, fun q => absurd q (mFail_0 _ _ _ (by decide))⟩)
    · rw [mDup_b hz]
      first
      | exact ⟨h12c, h12d, fun q => absurd q hz⟩
      | exact ⟨h30.1.failB hz, h12d.trans h30.2, fun q => absurd q hz⟩
end KTC
