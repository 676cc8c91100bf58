/-! the class: the ground of a land; what a statement keeps -/
def kcr (d : Ld) : Nat := (if d.2.2.2.2.2 0 = none then 1 else 0) + (if d.2.2.2.2.2 1 = none then 1 else 0) + (if d.2.2.2.2.2 2 = none then 1 else 0)
section RBP
variable {tx : Nat → Nat} {e : Nat} {s : Ps} {d : Ld}
theorem nt_sign (he : e ≤ 1600) (h : PsOk e s) {c : Int32} (hc : ¬ c = -1) (hz : (mAskSign tx e s c).2.2.1 = 0) : ¬ nI (sk tx e (mAskSign tx e s c).1) = (mAskSign tx e s c).2.1 := by
  have hs := mAskSign_bad s c hz
  by_cases hq : chr tx e (sk tx e s.1) = c
  · have hlt : sk tx e s.1 < e := by
      unfold chr at hq
      by_cases q : sk tx e s.1 < e
      · exact q
      · rw [if_neg q] at hq
        exact absurd hq.symm hc
    obtain ⟨h1, h2, -⟩ := h hs
    have h3 := sk_le (tx := tx) h1
    rw [askS_y hs hq]
    have h4 := sk_le (tx := tx) (show sk tx e s.1 + 1 ≤ e by omega)
    dsimp only
    intro z
    rcases h2 with q | ⟨m, q1, q2⟩
    · rw [q] at z
      exact n_m1 (by omega) z
    · rw [q2] at z
      have := n_eq z (by omega) (by omega)
      omega
  · rw [askS_n hs hq] at hz
    exact absurd hz (mFail_0 _ _ _ (by decide))
theorem ask_eq {s' : Ps} (h : Peq tx e s s') (hz : s.2.2.1 = 0) (hs : s.1 ≤ e) (c : Int32) : mAskSign tx e s' c = mAskSign tx e s c := by
  obtain ⟨h1, h2, h3⟩ := h
  have h4 := h3 hz
  have hz' : s'.2.2.1 = 0 := by rw [h1]; exact hz
  have e1 : sk tx e s'.1 = sk tx e s.1 := (congrArg Prod.fst h4 : (mLook tx e s').1 = (mLook tx e s).1)
  have e2 : s'.2 = s.2 := (congrArg Prod.snd h4 : (mLook tx e s').2 = (mLook tx e s).2)
  by_cases hq : chr tx e (sk tx e s.1) = c
  · rw [askS_y hz hq, askS_y hz' (by rw [e1]; exact hq), e1, e2]
  · rw [askS_n hz hq, askS_n hz' (by rw [e1]; exact hq), e1, h4]
theorem qSt_le (d : Ld) (o : Option Nat) : qSt d o ≤ kcr d := by
  cases o with
  | none => exact Nat.zero_le _
  | some w =>
    unfold qSt kcr
    dsimp only
    by_cases h : 11 ≤ w ∧ w ≤ 13 ∧ (d.2.2.2.2.2 (w - 11)).isNone = true
    · rw [if_pos h]
      have h3 := Option.isNone_iff_eq_none.mp h.2.2
      rcases (show w = 11 ∨ w = 12 ∨ w = 13 by omega) with q | q | q <;> subst q
      · rw [if_pos (show d.2.2.2.2.2 0 = none from h3)]; omega
      · rw [if_pos (show d.2.2.2.2.2 1 = none from h3)]; omega
      · rw [if_pos (show d.2.2.2.2.2 2 = none from h3)]; omega
    · rw [if_neg h]
      exact Nat.zero_le _
theorem rBody_kp (he : e ≤ 1600) (hz : s.2.2.1 = 0) (hs : s.1 ≤ e) (hW : Wf d) (h : (rBody tx e d (mLook tx e s)).2.2.2.1 = 0) : Wf (rBody tx e d (mLook tx e s)).1 ∧ kcr (rBody tx e d (mLook tx e s)).1 + qSt d (wdO tx e s) ≤ kcr d := by
  have hq0 : ∀ w, wdO tx e s = some w → ¬ (11 ≤ w ∧ w ≤ 13) → qSt d (wdO tx e s) = 0 := by
    intro w q1 q2
    rw [q1]
    show (if 11 ≤ w ∧ w ≤ 13 ∧ (d.2.2.2.2.2 (w - 11)).isNone = true then 1 else 0) = 0
    rw [if_neg (fun z => q2 ⟨z.1, z.2.1⟩)]
  have htoo : tooM d (wdO tx e s) = false := by
    cases q : tooM d (wdO tx e s) with
    | false => rfl
    | true =>
      have := (rb_too (d := d) hz hs hW q).1
      rw [this] at h
      exact absurd h (by decide)
  have hdf : ∃ w, wdO tx e s = some w ∧ (w = 3 ∨ w = 4 ∨ w = 7 ∨ (11 ≤ w ∧ w ≤ 16)) := by
    apply Classical.byContradiction
    intro hn
    have := (rb_d (d := d) hz hs (fun w q1 q2 => hn ⟨w, q1, q2⟩)).1
    rw [this] at h
    exact absurd h (by decide)
  obtain ⟨w, hw, hw2⟩ := hdf
  rw [hw] at htoo
  have h1 := hW.1
  have hz1 : (wAf tx e s).2.2.1 = 0 := hz
  rcases hw2 with q | q | q | q
  · subst q
    have hl : d.2.1.length < 10 := Nat.not_le.mp (fun q => by have : decide (10 ≤ d.2.1.length) = false := htoo; rw [decide_eq_true q] at this; exact absurd this (by decide))
    rw [hq0 3 hw (by omega)]
    rw [rb_3 hz hw] at h ⊢
    have hz2 := (mBadN_bad _ _ (by rw [← rChap_2 hl]; exact h)).1
    obtain ⟨x, y, hx, hy, hxy⟩ := mCell_ok _ (by omega) (by omega) hz2
    rw [rChap_1 hl h, hxy, nn_nI (by omega)]
    refine ⟨⟨hW.1, ⟨by simp; omega, fun z hzm => ?_⟩, hW.2.2⟩, Nat.le_refl _⟩
    rcases List.mem_append.mp hzm with m | m
    · exact hW.2.1.2 z m
    · rw [List.mem_singleton.mp m]
      exact clOk_xy hx hy h1.2.1
  · subst q
    have hl : d.2.2.1.length < 5 := Nat.not_le.mp (fun q => by have : decide (5 ≤ d.2.2.1.length) = false := htoo; rw [decide_eq_true q] at this; exact absurd this (by decide))
    rw [hq0 4 hw (by omega)]
    rw [rb_4 hz hw] at h ⊢
    have hz9 := h
    rw [rBell_2 hl] at hz9
    have b4 := mNum_bad _ _ _ hz9
    have b3 := mAsks_bad _ _ b4
    obtain ⟨x, y, hx, hy, hxy⟩ := mCell_ok _ (by omega) (by omega) b3
    obtain ⟨v, -, v2, v3, v4⟩ := mNum_ok _ (by omega) (by omega) hz9
    have hnm : (rNew tx e d (wAf tx e s)).1 < 27 ^ 6 := mName_lt _
    rw [rBell_1 hl hz1 h, hxy, v4, nn_nI (by omega), nn_nI (by omega)]
    refine ⟨⟨hW.1, hW.2.1, ⟨by simp; omega, fun z hzm => ?_⟩, hW.2.2.2⟩, Nat.le_refl _⟩
    rcases List.mem_append.mp hzm with m | m
    · exact hW.2.2.1.2 z m
    · rw [List.mem_singleton.mp m]
      exact ⟨hnm, clOk_xy hx hy h1.2.1, by dsimp only; omega⟩
  · subst q
    have hl : d.2.2.2.1.length < 6 := Nat.not_le.mp (fun q => by have : decide (6 ≤ d.2.2.2.1.length) = false := htoo; rw [decide_eq_true q] at this; exact absurd this (by decide))
    rw [hq0 7 hw (by omega)]
    rw [rb_7 hz hw] at h ⊢
    have hz9 := h
    rw [rWalk_2 hl] at hz9
    have b6 := mNum_bad _ _ _ hz9
    have b5 := mAsks_bad _ _ b6
    have b4 := mCell_bad _ _ _ b5
    have b3 := mAsks_bad _ _ b4
    obtain ⟨x, y, hx, hy, hxy⟩ := mCell_ok _ (by omega) (by omega) b3
    obtain ⟨x2, y2, hx2, hy2, hxy2⟩ := mCell_ok _ (by omega) (by omega) b5
    obtain ⟨v, -, v2, v3, v4⟩ := mNum_ok _ (by omega) (by omega) hz9
    have hnm : (rNew tx e d (wAf tx e s)).1 < 27 ^ 6 := mName_lt _
    rw [rWalk_1 hl hz1 h, hxy, hxy2, v4, nn_nI (by omega), nn_nI (by omega), nn_nI (by omega)]
    refine ⟨⟨hW.1, hW.2.1, hW.2.2.1, ⟨by simp; omega, fun z hzm => ?_⟩, hW.2.2.2.2⟩, Nat.le_refl _⟩
    rcases List.mem_append.mp hzm with m | m
    · exact hW.2.2.2.1.2 z m
    · rw [List.mem_singleton.mp m]
      exact ⟨hnm, clOk_xy hx hy h1.2.1, clOk_xy hx2 hy2 h1.2.1, by dsimp only; omega⟩
  · by_cases hc : w ≤ 13
    · obtain ⟨v, hv⟩ : ∃ v, w = 11 + v := ⟨w - 11, by omega⟩
      subst hv
      have hv3 : v < 3 := by omega
      have hnn : d.2.2.2.2.2 v = none := by
        rcases (show v = 0 ∨ v = 1 ∨ v = 2 by omega) with q | q | q <;> subst q
        · have : (d.2.2.2.2.2 0).isSome = false := htoo
          cases q : d.2.2.2.2.2 0 with
          | none => rfl
          | some z => rw [q] at this; exact absurd this (by simp)
        · have : (d.2.2.2.2.2 1).isSome = false := htoo
          cases q : d.2.2.2.2.2 1 with
          | none => rfl
          | some z => rw [q] at this; exact absurd this (by simp)
        · have : (d.2.2.2.2.2 2).isSome = false := htoo
          cases q : d.2.2.2.2.2 2 with
          | none => rfl
          | some z => rw [q] at this; exact absurd this (by simp)
      rw [rb_c hz hv3 hw] at h ⊢
      rw [rCode_1 hnn h, hw]
      refine ⟨hW, ?_⟩
      have hq1 : qSt d (some (11 + v)) = 1 := by
        show (if 11 ≤ 11 + v ∧ 11 + v ≤ 13 ∧ (d.2.2.2.2.2 (11 + v - 11)).isNone = true then 1 else 0) = 1
        rw [Nat.add_sub_cancel_left, hnn, if_pos ⟨by omega, by omega, rfl⟩]
      rw [hq1]
      unfold kcr
      dsimp only
      rcases (show v = 0 ∨ v = 1 ∨ v = 2 by omega) with q | q | q <;> subst q <;> simp [hnn] <;> omega
    · rw [hq0 w hw (by omega)]
      rcases (show w = 14 ∨ w = 15 ∨ w = 16 by omega) with q | q | q <;> subst q
      · rw [rb_14 hz hw] at h ⊢
        obtain ⟨v, v1, v2, v3, v4⟩ := mNum_ok (tx := tx) (e := e) (wAf tx e s) (lo := 1) (hi := 99) (by omega) (by omega) h
        unfold rSet setD
        dsimp only
        rw [v4, nn_nI (by omega)]
        exact ⟨⟨hW.1, hW.2.1, hW.2.2.1, hW.2.2.2.1, v1, v2, hW.2.2.2.2.2.2⟩, Nat.le_refl _⟩
      · rw [rb_15 hz hw] at h ⊢
        obtain ⟨v, v1, v2, v3, v4⟩ := mNum_ok (tx := tx) (e := e) (wAf tx e s) (lo := 0) (hi := 999) (by omega) (by omega) h
        unfold rSet setD
        dsimp only
        rw [v4, nn_nI (by omega)]
        exact ⟨⟨hW.1, hW.2.1, hW.2.2.1, hW.2.2.2.1, hW.2.2.2.2.1, hW.2.2.2.2.2.1, v2, hW.2.2.2.2.2.2.2⟩, Nat.le_refl _⟩
      · rw [rb_16 hz hs hw] at h ⊢
        obtain ⟨v, v1, v2, v3, v4⟩ := mNum_ok (tx := tx) (e := e) (wAf tx e s) (lo := 0) (hi := 100) (by omega) (by omega) h
        unfold rSet setD
        dsimp only
        rw [v4, nn_nI (by omega)]
        exact ⟨⟨hW.1, hW.2.1, hW.2.2.1, hW.2.2.2.1, hW.2.2.2.2.1, hW.2.2.2.2.2.1, hW.2.2.2.2.2.2.1, v2⟩, Nat.le_refl _⟩
end RBP
