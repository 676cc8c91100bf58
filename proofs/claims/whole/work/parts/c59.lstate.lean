/-! the class: one statement of a land -/
def Peq (tx : Nat → Nat) (e : Nat) (s s' : Ps) : Prop := s'.2.2.1 = s.2.2.1 ∧ s'.2.2.2.1 = s.2.2.2.1 ∧ (s.2.2.1 = 0 → mLook tx e s' = mLook tx e s)
def SrQ (μ : Mm) (tp : List Nat) (L : Nat) (r : Ld × Ps) (μ' : Mm) : Prop := ∃ (f' g' : Nat → Nat) (s' : Ps), RD μ' (txL tp) tp.length s' ∧ PsOk tp.length s' ∧ Peq (txL tp) tp.length r.2 s' ∧ LnF L μ μ' ∧ isO μ' L 2 ∧ mI μ' L 16 = mI μ L 16 ∧ (r.2.2.2.1 = 0 → LgR μ' L f' g' r.1)
theorem StQ.s {μ μ1 μ' : Mm} {tp : List Nat} {L : Nat} {f g : Nat → Nat} {r : Ld × Ps} (h : StQ μ1 tp L f g r μ') (hL : 259 ≤ L) (hq : RqF μ μ1) : SrQ μ tp L r μ' := by
  obtain ⟨h1, h2, h3, h4, h5, h6⟩ := h
  exact ⟨f, g, r.2, h1, h2, ⟨rfl, rfl, fun _ => rfl⟩, (LnF.q L hq).trans h3, h4, h5.trans (hq.2 _ _ (by omega)), h6⟩
section RBO
variable {tx : Nat → Nat} {e : Nat} {s : Ps} {d : Ld}
theorem rBody_o (hz : s.2.2.1 = 0) : rBody tx e d (mLook tx e s) = if wdO tx e s = some 3 then rChap tx e d (tkS (mLook tx e s) 6) (nI (sk tx e s.1)) else if wdO tx e s = some 4 then rBell tx e d (tkS (mLook tx e s) 4) (nI (sk tx e s.1)) else if wdO tx e s = some 7 then rWalk tx e d (tkS (mLook tx e s) 6) (nI (sk tx e s.1)) else if wdO tx e s = some 11 then rCode tx e 0 d (tkS (mLook tx e s) 5) (nI (sk tx e s.1)) else if wdO tx e s = some 12 then rCode tx e 1 d (tkS (mLook tx e s) 4) (nI (sk tx e s.1)) else if wdO tx e s = some 13 then rCode tx e 2 d (tkS (mLook tx e s) 5) (nI (sk tx e s.1)) else if wdO tx e s = some 14 then rSet tx e 0 1 99 d (tkS (mLook tx e s) 4) else if wdO tx e s = some 15 then rSet tx e 1 0 999 d (tkS (mLook tx e s) 4) else rSet tx e 2 0 100 d (mAsks tx e (mLook tx e s) wStorm) := by
  have kk : ∀ i, i < 39 → (hereW tx e (mLook tx e s).1 (mLook tx e s).2.1 (keyL.getD i []) = true) = (wdO tx e s = some i) := fun i hi => by
    rw [show hereW tx e (mLook tx e s).1 (mLook tx e s).2.1 (keyL.getD i []) = decide (wdO tx e s = some i) from here_wd hz hi, decide_eq_true_eq]
  unfold rBody
  simp only [show (hereW tx e (mLook tx e s).1 (mLook tx e s).2.1 wChapel = true) = _ from kk 3 (by omega), show (hereW tx e (mLook tx e s).1 (mLook tx e s).2.1 wBell = true) = _ from kk 4 (by omega), show (hereW tx e (mLook tx e s).1 (mLook tx e s).2.1 wWalker = true) = _ from kk 7 (by omega), show (hereW tx e (mLook tx e s).1 (mLook tx e s).2.1 wRides = true) = _ from kk 11 (by omega), show (hereW tx e (mLook tx e s).1 (mLook tx e s).2.1 wPays = true) = _ from kk 12 (by omega), show (hereW tx e (mLook tx e s).1 (mLook tx e s).2.1 wKeeps = true) = _ from kk 13 (by omega), show (hereW tx e (mLook tx e s).1 (mLook tx e s).2.1 wYear = true) = _ from kk 14 (by omega), show (hereW tx e (mLook tx e s).1 (mLook tx e s).2.1 wHarm = true) = _ from kk 15 (by omega)]
  rfl
theorem rb_3 (hz : s.2.2.1 = 0) (h : wdO tx e s = some 3) : rBody tx e d (mLook tx e s) = rChap tx e d (wAf tx e s) (nI (sk tx e s.1)) := by
  rw [rBody_o hz, if_pos h, wd_af h]
  rfl
theorem rb_4 (hz : s.2.2.1 = 0) (h : wdO tx e s = some 4) : rBody tx e d (mLook tx e s) = rBell tx e d (wAf tx e s) (nI (sk tx e s.1)) := by
  rw [rBody_o hz, h, if_neg (by simp), if_pos rfl, wd_af h]
  rfl
theorem rb_7 (hz : s.2.2.1 = 0) (h : wdO tx e s = some 7) : rBody tx e d (mLook tx e s) = rWalk tx e d (wAf tx e s) (nI (sk tx e s.1)) := by
  rw [rBody_o hz, h, if_neg (by simp), if_neg (by simp), if_pos rfl, wd_af h]
  rfl
theorem rb_c (hz : s.2.2.1 = 0) {w : Nat} (hw : w < 3) (h : wdO tx e s = some (11 + w)) : rBody tx e d (mLook tx e s) = rCode tx e w d (wAf tx e s) (nI (sk tx e s.1)) := by
  rcases (show w = 0 ∨ w = 1 ∨ w = 2 by omega) with q | q | q <;> subst q
  · rw [rBody_o hz, h, if_neg (by simp), if_neg (by simp), if_neg (by simp), if_pos rfl, wd_af h]
    rfl
  · rw [rBody_o hz, h, if_neg (by simp), if_neg (by simp), if_neg (by simp), if_neg (by simp), if_pos rfl, wd_af h]
    rfl
  · rw [rBody_o hz, h, if_neg (by simp), if_neg (by simp), if_neg (by simp), if_neg (by simp), if_neg (by simp), if_pos rfl, wd_af h]
    rfl
theorem rb_14 (hz : s.2.2.1 = 0) (h : wdO tx e s = some 14) : rBody tx e d (mLook tx e s) = rSet tx e 0 1 99 d (wAf tx e s) := by
  rw [rBody_o hz, h, if_neg (by simp), if_neg (by simp), if_neg (by simp), if_neg (by simp), if_neg (by simp), if_neg (by simp), if_pos rfl, wd_af h]
  rfl
theorem rb_15 (hz : s.2.2.1 = 0) (h : wdO tx e s = some 15) : rBody tx e d (mLook tx e s) = rSet tx e 1 0 999 d (wAf tx e s) := by
  rw [rBody_o hz, h, if_neg (by simp), if_neg (by simp), if_neg (by simp), if_neg (by simp), if_neg (by simp), if_neg (by simp), if_neg (by simp), if_pos rfl, wd_af h]
  rfl
theorem rb_16 (hz : s.2.2.1 = 0) (hs : s.1 ≤ e) (h : wdO tx e s = some 16) : rBody tx e d (mLook tx e s) = rSet tx e 2 0 100 d (wAf tx e s) := by
  rw [rBody_o hz, h, if_neg (by simp), if_neg (by simp), if_neg (by simp), if_neg (by simp), if_neg (by simp), if_neg (by simp), if_neg (by simp), if_neg (by simp), ← asks_wd hz hs h]
  rfl
theorem rb_d (hz : s.2.2.1 = 0) (hs : s.1 ≤ e) (h : ∀ w, wdO tx e s = some w → ¬ (w = 3 ∨ w = 4 ∨ w = 7 ∨ (11 ≤ w ∧ w ≤ 16))) : (rBody tx e d (mLook tx e s)).2.2.2.1 = nI 1 ∧ (rBody tx e d (mLook tx e s)).2.2.2.2.1 = nI (sk tx e s.1) := by
  have hn : ∀ w, (w = 3 ∨ w = 4 ∨ w = 7 ∨ (11 ≤ w ∧ w ≤ 16)) → ¬ wdO tx e s = some w := fun w q z => h w z q
  have h1 : sk tx e (mLook tx e s).1 = sk tx e s.1 := sk_sk hs
  rw [rBody_o hz, if_neg (hn 3 (by omega)), if_neg (hn 4 (by omega)), if_neg (hn 7 (by omega)), if_neg (hn 11 (by omega)), if_neg (hn 12 (by omega)), if_neg (hn 13 (by omega)), if_neg (hn 14 (by omega)), if_neg (hn 15 (by omega))]
  have h2 : (mHere tx e (mLook tx e s) wStorm).1 = false := by
    rw [here_W (s := mLook tx e s) hz, h1, show hereW tx e (sk tx e s.1) (mLook tx e s).2.1 wStorm = decide (wdO tx e s = some 16) from here_wd (i := 16) hz (by omega)]
    exact decide_eq_false (hn 16 (by omega))
  rw [asks_no (s := mLook tx e s) hz h2, h1, mLook_look hs]
  have hb : ¬ (mFail (mLook tx e s) (nI 1) (nI (sk tx e s.1))).2.2.1 = 0 := mFail_0 _ _ _ (by decide)
  have e1 : (rSet tx e 2 0 100 d (mFail (mLook tx e s) (nI 1) (nI (sk tx e s.1)))).2 = mFail (mLook tx e s) (nI 1) (nI (sk tx e s.1)) := by
    unfold rSet mNum
    simp only [if_neg hb]
  rw [e1, mFail_z (s := mLook tx e s) hz]
  exact ⟨rfl, rfl⟩
theorem rCode_2 {w : Nat} {bg : Int32} (h : d.2.2.2.2.2 w = none) : (rCode tx e w d s bg).2 = (rdCode tx e w s).2 := by
  unfold rCode
  rw [if_pos h]
  by_cases hz : (rdCode tx e w s).2.2.2.1 = 0
  · rw [if_pos hz]
  · rw [if_neg hz]
theorem rCode_1 {w : Nat} {bg : Int32} (h : d.2.2.2.2.2 w = none) (hz : (rCode tx e w d s bg).2.2.2.1 = 0) : (rCode tx e w d s bg).1 = (d.1, d.2.1, d.2.2.1, d.2.2.2.1, d.2.2.2.2.1, fun v => if v = w then some (rdCode tx e w s).1.1 else d.2.2.2.2.2 v) := by
  rw [rCode_2 h] at hz
  unfold rCode
  rw [if_pos h, if_pos hz]
theorem rb_too (hz : s.2.2.1 = 0) (hs : s.1 ≤ e) (hW : Wf d) (h : tooM d (wdO tx e s) = true) : (rBody tx e d (mLook tx e s)).2.2.2.1 = nI 5 ∧ (rBody tx e d (mLook tx e s)).2.2.2.2.1 = nI (sk tx e s.1) := by
  cases ho : wdO tx e s with
  | none => rw [ho] at h; exact absurd h Bool.false_ne_true
  | some w =>
    have hz' : (wAf tx e s).2.2.1 = 0 := hz
    have hfull : ∀ (a b : Nat) (bg : Int32), a = b → mFull (wAf tx e s) (nI a) (nI b) bg = mFail (wAf tx e s) (nI 5) bg := by
      intro a b bg q
      unfold mFull
      rw [if_pos ⟨hz', by rw [q]⟩]
    have hb : ¬ (mFail (wAf tx e s) (nI 5) (nI (sk tx e s.1))).2.2.1 = 0 := mFail_0 _ _ _ (by decide)
    rw [ho] at h
    unfold tooM at h
    dsimp only at h
    by_cases h3 : w = 3
    · subst h3
      rw [if_pos rfl, decide_eq_true_eq] at h
      have := hW.2.1.1
      rw [rb_3 hz ho]
      unfold rChap
      rw [hfull _ _ _ (show d.2.1.length = 10 by omega)]
      dsimp only
      rw [if_neg hb, mFail_z hz']
      exact ⟨rfl, rfl⟩
    · rw [if_neg h3] at h
      by_cases h4 : w = 4
      · subst h4
        rw [if_pos rfl, decide_eq_true_eq] at h
        have := hW.2.2.1.1
        rw [rb_4 hz ho]
        unfold rBell
        rw [hfull _ _ _ (show d.2.2.1.length = 5 by omega)]
        dsimp only
        rw [if_neg hb, mFail_z hz']
        exact ⟨rfl, rfl⟩
      · rw [if_neg h4] at h
        by_cases h7 : w = 7
        · subst h7
          rw [if_pos rfl, decide_eq_true_eq] at h
          have := hW.2.2.2.1.1
          rw [rb_7 hz ho]
          unfold rWalk
          rw [hfull _ _ _ (show d.2.2.2.1.length = 6 by omega)]
          dsimp only
          rw [if_neg hb, mFail_z hz']
          exact ⟨rfl, rfl⟩
        · rw [if_neg h7] at h
          have hc : ∃ v, v < 3 ∧ w = 11 + v ∧ (d.2.2.2.2.2 v).isSome = true := by
            by_cases h11 : w = 11
            · rw [if_pos h11] at h; exact ⟨0, by omega, by omega, h⟩
            · rw [if_neg h11] at h
              by_cases h12 : w = 12
              · rw [if_pos h12] at h; exact ⟨1, by omega, by omega, h⟩
              · rw [if_neg h12] at h
                by_cases h13 : w = 13
                · rw [if_pos h13] at h; exact ⟨2, by omega, by omega, h⟩
                · rw [if_neg h13] at h; exact absurd h (by decide)
          obtain ⟨v, hv, hw, hsm⟩ := hc
          rw [hw] at ho
          rw [rb_c hz hv ho]
          unfold rCode
          rw [if_neg (fun q => by rw [q] at hsm; exact absurd hsm (by decide)), mFail_z hz']
          exact ⟨rfl, rfl⟩
end RBO
/-- a code was read into the land -/
theorem SrQ_code {μ μ1 μ' : Mm} {tp : List Nat} {L w m r : Nat} {f g : Nat → Nat} {d : Ld} {s1 : Ps} {bg : Int32} (hq : RqF μ μ1) (hB : CsB μ1) (hG : LgR μ1 L f g d) (hL17 : L + 17 < mN μ1) (hw : w < 3) (hnone : d.2.2.2.2.2 w = none) (hrd : RdP μ1 tp m (cRd (txL tp) tp.length w s1) r μ') (hd : Rdg (txL tp) tp.length (alW w) false (decide (w = 2)) (rdCode (txL tp) tp.length w s1) s1 (cRd (txL tp) tp.length w s1)) : SrQ μ tp L (rCode (txL tp) tp.length w d s1 bg) (sR μ' L (17 + w) (some r)) := by
  obtain ⟨⟨a1, a2, a3⟩, a4, a5, a6, a7, a8, a9, a10, a11⟩ := hrd.fr (L := L) hB (by omega)
  obtain ⟨d1, d2, d3⟩ := hd
  have hL := hG.2.1
  have hl16 := cRd_le (tx := txL tp) (e := tp.length) w s1
  generalize cRd (txL tp) tp.length w s1 = v at *
  have e2 := rCode_2 (tx := txL tp) (e := tp.length) (s := s1) (bg := bg) hnone
  refine ⟨upF f w r, upF g w (mN μ1), v.2, a2.ph (fun k => rfl), a3, ?_, (LnF.q L hq).trans (a1.trans ⟨Grw.of rfl, fun a ha => ⟨fun k => rfl, fun k => by rw [mR_sR, if_neg (by omega)], fun k _ _ _ => rfl⟩⟩), hG.o.grw a1.1, ?_, fun hz => ?_⟩
  · rw [e2]
    exact ⟨d1.symm, d2.symm, fun z => ((d3 (d1 ▸ z)).2.1).symm⟩
  · show mI μ' L 16 = _
    rw [(a4 L (by omega) (by omega) (by omega) (by omega)).1]
    exact hq.2 _ _ (by omega)
  · have hz2 : v.2.2.2.1 = 0 := by rw [← d1, ← e2]; exact hz
    obtain ⟨z1, z2, z3, z4, z5, z6, z7, z8⟩ := d3 hz2
    rw [rCode_1 hnone hz, z1]
    have hG' : LgR μ' L f g d := ⟨hG.1.same a1.1 (fun a q1 q2 => a4 a q1 (by unfold InL at q2; omega) (by unfold InL at q2; omega) (by unfold InL at q2; omega)), hG.2.1, hG.2.2⟩
    exact hG'.put hw ⟨a7, a8, v.1.1, a9, hl16, a10, by rw [a11, z7], rfl, z5, z8⟩ (by omega) (by omega)
