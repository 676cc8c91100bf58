/-! products and sums of the class against the yard -/
def Wp (ws : List Int32) (bs : Nat) : Prop := bs ≤ ws.length
def Wm (ws : List Int32) (bs : Nat) : Prop := bs ≤ ws.length ∧ qE ws bs ∧ ∀ w r, ws = w :: r → mulS w = false
def Wa (ws : List Int32) (bs : Nat) : Prop := bs ≤ ws.length ∧ qE ws bs ∧ ∀ w r, ws = w :: r → addS w = false
section SM2
variable {tx : Nat → Nat} {e : Nat} {tk : Int32} {al : Nat → Bool} {q : Bool}
theorem cSg_eq {a b x y : Nat} {s : Ps} (hz : s.2.2.1 = 0) : cSg a b x y tx e s = if chr tx e (sk tx e s.1) = nI a then some (x, (sk tx e s.1 + 1, s.2)) else if chr tx e (sk tx e s.1) = nI b then some (y, (sk tx e s.1 + 1, s.2)) else none := by
  unfold cSg mSign
  simp only [if_pos hz]
  by_cases c1 : chr tx e (sk tx e s.1) = nI a
  · simp only [if_pos c1]
    rfl
  · by_cases c2 : chr tx e (sk tx e s.1) = nI b
    · simp only [if_neg c1, if_pos c2]
      rfl
    · simp only [if_neg c1, if_neg c2]
      rfl
theorem cSg_bad {a b x y : Nat} {s : Ps} (hz : ¬ s.2.2.1 = 0) : cSg a b x y tx e s = none := by
  unfold cSg mSign
  simp only [if_neg hz]
  rfl
theorem cSg_some {a b x y z : Nat} {s s' : Ps} (hz : s.2.2.1 = 0) (h : cSg a b x y tx e s = some (z, s')) : s' = (sk tx e s.1 + 1, s.2) ∧ ((chr tx e (sk tx e s.1) = nI a ∧ z = x) ∨ (chr tx e (sk tx e s.1) = nI b ∧ z = y)) := by
  rw [cSg_eq hz] at h
  by_cases c1 : chr tx e (sk tx e s.1) = nI a
  · rw [if_pos c1] at h
    simp only [Option.some.injEq, Prod.mk.injEq] at h
    exact ⟨h.2.symm, Or.inl ⟨c1, h.1.symm⟩⟩
  · rw [if_neg c1] at h
    by_cases c2 : chr tx e (sk tx e s.1) = nI b
    · rw [if_pos c2] at h
      simp only [Option.some.injEq, Prod.mk.injEq] at h
      exact ⟨h.2.symm, Or.inr ⟨c2, h.1.symm⟩⟩
    · rw [if_neg c2] at h
      exact absurd h (by simp)
theorem cSg_none {a b x y : Nat} {s : Ps} (hz : s.2.2.1 = 0) (h : cSg a b x y tx e s = none) : ¬ chr tx e (sk tx e s.1) = nI a ∧ ¬ chr tx e (sk tx e s.1) = nI b := by
  rw [cSg_eq hz] at h
  by_cases c1 : chr tx e (sk tx e s.1) = nI a
  · rw [if_pos c1] at h
    exact absurd h (by simp)
  · rw [if_neg c1] at h
    refine ⟨c1, fun c2 => ?_⟩
    rw [if_pos c2] at h
    exact absurd h (by simp)
theorem cSg_adv {a b x y z : Nat} {s s' : Ps} (ha : a < 256) (hb : b < 256) (hz : s.2.2.1 = 0) (hs : s.1 ≤ e) (h : cSg a b x y tx e s = some (z, s')) : s'.2.2.1 = 0 ∧ s.1 < s'.1 ∧ s'.1 ≤ e := by
  obtain ⟨h1, h2⟩ := cSg_some hz h
  have h3 := sk_le (tx := tx) hs
  have h4 : sk tx e s.1 < e := by
    rcases h2 with h | h
    · exact chr_lt h.1 (by omega)
    · exact chr_lt h.1 (by omega)
  subst h1
  exact ⟨hz, by dsimp only; omega, by dsimp only; omega⟩
theorem TyS_j {n : Nat} (h1 : 1 ≤ n) (h2 : n ≤ 6) (ts : List Bool) : TyS al q n (false :: false :: ts) (false :: ts) := Or.inr (Or.inr (Or.inr (Or.inr (Or.inr (Or.inl ⟨h1, h2, ts, rfl, rfl⟩)))))
theorem prod_sm (he : e ≤ 1600) {P : Pt → Pt} {op : Int32} {D : Nat} (hP : SmO e (yA tx e tk) (yB tx e tk) Wp P op (fun _ => True) (TyP al q false D)) : SmO e (yA tx e tk) (yB tx e tk) Wm (cProd tx e P) op (fun s => True ∧ cSg 42 47 3 4 tx e s = none) (TyP al q false (D + 1)) := by
  have hx : ∀ {s0 : Ps} {x : Nat} {s' : Ps}, s0.2.2.1 = 0 → cSg 42 47 3 4 tx e s0 = some (x, s') → x = 3 ∨ x = 4 := by
    intro s0 x s' hz h
    rcases (cSg_some hz h).2 with h | h
    · exact Or.inl h.2
    · exact Or.inr h.2
  refine loop_sm he hP (fun ws bs h => h.1) (fun s hb => cSg_bad hb) ?_ ?_ ?_ ?_
  · intro s x s' hz hs h
    obtain ⟨h1, h2, h3⟩ := cSg_adv (by omega) (by omega) hz hs h
    have := hx hz h
    exact ⟨h1, h2, h3, by omega, fun ts => TyS_j (by omega) (by omega) ts⟩
  · intro s x s' cs ws bs hz hs _ h w
    obtain ⟨h1, h2⟩ := cSg_some hz h
    rw [h1]
    refine yB_mul w.2.1 w.2.2 hz hs ?_
    rcases h2 with h | h
    · exact Or.inl ⟨h.1, by rw [h.2]⟩
    · exact Or.inr ⟨h.1, by rw [h.2]⟩
  · intro s0 x s' s cs ws bs hz0 h hz hs _ w
    have hm : mulS (nI x) = true := by rcases hx hz0 h with h | h <;> rw [h] <;> decide
    have ha : addS (nI x) = true := by rcases hx hz0 h with h | h <;> rw [h] <;> decide
    exact yB_drop ha (Or.inl hm) w.2.1 w.1 hz hs
  · intro s0 x s' ws bs hz0 h w
    have := w.1
    show bs ≤ (nI x :: ws).length
    simp only [List.length_cons]
    omega
theorem sums_sm (he : e ≤ 1600) {P : Pt → Pt} {op : Int32} {D : Nat} (hP : SmO e (yA tx e tk) (yB tx e tk) Wp P op (fun _ => True) (TyP al q false D)) : SmO e (yA tx e tk) (yB tx e tk) Wa (cSums tx e P) op (fun s => (True ∧ cSg 42 47 3 4 tx e s = none) ∧ cSg 43 45 1 2 tx e s = none) (TyP al q false (D + 2)) := by
  have hx : ∀ {s0 : Ps} {x : Nat} {s' : Ps}, s0.2.2.1 = 0 → cSg 43 45 1 2 tx e s0 = some (x, s') → x = 1 ∨ x = 2 := by
    intro s0 x s' hz h
    rcases (cSg_some hz h).2 with h | h
    · exact Or.inl h.2
    · exact Or.inr h.2
  refine loop_sm (D := D + 1) he (prod_sm he hP) (fun ws bs h => ⟨h.1, h.2.1, fun w r q => ?_⟩) (fun s hb => cSg_bad hb) ?_ ?_ ?_ ?_
  · have := h.2.2 w r q
    unfold addS at this
    unfold mulS
    simp only [Bool.or_eq_false_iff] at this ⊢
    exact this.1.1
  · intro s x s' hz hs h
    obtain ⟨h1, h2, h3⟩ := cSg_adv (by omega) (by omega) hz hs h
    have := hx hz h
    exact ⟨h1, h2, h3, by omega, fun ts => TyS_j (by omega) (by omega) ts⟩
  · intro s x s' cs ws bs hz hs _ h w
    obtain ⟨h1, h2⟩ := cSg_some hz h
    rw [h1]
    refine yB_add w.2.1 w.2.2 hz hs ?_
    rcases h2 with h | h
    · exact Or.inl ⟨h.1, by rw [h.2]⟩
    · exact Or.inr ⟨h.1, by rw [h.2]⟩
  · intro s0 x s' s cs ws bs hz0 h hz hs hN w
    have ha : addS (nI x) = true := by rcases hx hz0 h with h | h <;> rw [h] <;> decide
    exact yB_drop ha (Or.inr (cSg_none hz hN.2)) w.2.1 w.1 hz hs
  · intro s0 x s' ws bs hz0 h w
    have := w.1
    refine ⟨by simp only [List.length_cons]; omega, qE_hd ?_, fun v r q => ?_⟩
    · rcases hx hz0 h with h | h <;> rw [h] <;> decide
    · simp only [List.cons.injEq] at q
      rw [← q.1]
      rcases hx hz0 h with h | h <;> rw [h] <;> decide
end SM2
/-! words: which one is here -/
theorem key_inj : ∀ i j : Fin 39, keyL.getD i.val [] = keyL.getD j.val [] → i = j := by decide +kernel
section WDS
variable {tx : Nat → Nat} {e : Nat} {tk : Int32} {s : Ps}
theorem here_W (hz : s.2.2.1 = 0) (ws : List Nat) : (mHere tx e s ws).1 = hereW tx e (sk tx e s.1) s.2.1 ws := by
  unfold mHere
  rw [if_pos hz]
theorem wd_tok {w : Nat} (h : wdO tx e s = some w) : tok tx e (sk tx e s.1) = keyL.getD w [] := by
  obtain ⟨-, -, h3⟩ := fsF_lt _ _ _ h
  exact (here_has h3).2
theorem here_wd (hz : s.2.2.1 = 0) {i : Nat} (hi : i < 39) : hereW tx e (sk tx e s.1) s.2.1 (keyL.getD i []) = decide (wdO tx e s = some i) := by
  rw [← here_W hz]
  by_cases hw : wdO tx e s = some i
  · rw [decide_eq_true hw]
    obtain ⟨-, -, h3⟩ := fsF_lt _ _ _ hw
    exact h3
  · rw [decide_eq_false hw]
    cases hh : (mHere tx e s (keyL.getD i [])).1 with
    | false => rfl
    | true =>
      exfalso
      obtain ⟨j, h1, -⟩ := fsF_ex (f := fun i => (mHere tx e s (keyL.getD i [])).1) 39 0 i (by omega) (by omega) hh
      have h2 : wdO tx e s = some j := h1
      have h3 := wd_tok h2
      rw [(here_has hh).2] at h3
      obtain ⟨-, h4⟩ := wdO_has h2
      have h5 := key_inj ⟨i, hi⟩ ⟨j, h4⟩ h3
      simp only [Fin.mk.injEq] at h5
      rw [← h5] at h2
      exact hw h2
theorem wd_af {w : Nat} (h : wdO tx e s = some w) : wAf tx e s = (sk tx e s.1 + (keyL.getD w []).length, nI (sk tx e s.1 + (keyL.getD w []).length), s.2.2) := by
  obtain ⟨⟨-, h1, h2, -⟩, -⟩ := wdO_has h
  have h3 := tok_len (tx := tx) (e := e) (p := sk tx e s.1)
  have h4 := wl_pos h1 h2
  rw [wd_tok h] at h3
  unfold wAf
  rw [show wl tx e (sk tx e s.1) = sk tx e s.1 + (keyL.getD w []).length by omega]
theorem fIdx_r (hz : s.2.2.1 = 0) : ∀ (n i : Nat), 17 + i + n ≤ 39 → fIdx tx e (sk tx e s.1) s.2.1 ((List.range' i n).map (fun j => keyL.getD (17 + j) [])) i = match wdO tx e s with
    | some w => if 17 + i ≤ w ∧ w < 17 + i + n then nI (w - 17) else -1
    | none => -1
  | 0, i, h => by
    cases wdO tx e s with
    | none => rfl
    | some w =>
      dsimp only
      rw [if_neg (by omega)]
      rfl
  | n + 1, i, h => by
    rw [List.range'_succ, List.map_cons]
    unfold fIdx
    rw [here_wd hz (by omega), fIdx_r hz n (i + 1) (by omega)]
    cases wdO tx e s with
    | none => rfl
    | some w =>
      dsimp only
      by_cases hw : w = 17 + i
      · rw [if_pos (by simp [hw]), if_pos (by omega), hw, Nat.add_sub_cancel_left]
      · rw [if_neg (by simp [hw])]
        by_cases h2 : 17 + i ≤ w ∧ w < 17 + i + (n + 1)
        · rw [if_pos h2, if_pos (by omega)]
        · rw [if_neg h2, if_neg (by omega)]
theorem partL_r : partL = (List.range' 0 10).map (fun j => keyL.getD (17 + j) []) := by decide +kernel
theorem fIdx_wd (hz : s.2.2.1 = 0) : fIdx tx e (sk tx e s.1) s.2.1 partL 0 = match wdO tx e s with
    | some w => if 17 ≤ w ∧ w ≤ 26 then nI (w - 17) else -1
    | none => -1 := by
  rw [partL_r, fIdx_r hz 10 0 (by omega)]
  cases wdO tx e s with
  | none => rfl
  | some w =>
    dsimp only
    by_cases h : 17 ≤ w ∧ w ≤ 26
    · rw [if_pos (by omega), if_pos h]
    · rw [if_neg (by omega), if_neg h]
theorem pTry_no {t : Tt} (hz : t.2.2.2.1 = 0) (h1 : ¬ chr tx e (sk tx e t.2.1) = nI 40) (h2 : ¬ wdO tx e t.2 = some 31) (h3 : ¬ wdO tx e t.2 = some 32) (h4 : ¬ (wdO tx e t.2 = some 26 ∧ alw tk (nI 9) = true)) : (pTry tx e tk t).1 = false := by
  have k1 : hereW tx e (sk tx e t.2.1) t.2.2.1 wMin = decide (wdO tx e t.2 = some 31) := here_wd (i := 31) hz (by omega)
  have k2 : hereW tx e (sk tx e t.2.1) t.2.2.1 wMax = decide (wdO tx e t.2 = some 32) := here_wd (i := 32) hz (by omega)
  have k3 : hereW tx e (sk tx e t.2.1) t.2.2.1 wNear = decide (wdO tx e t.2 = some 26) := here_wd (i := 26) hz (by omega)
  unfold pTry
  dsimp only
  rw [if_neg (show ¬ chr tx e (mLook tx e t.2).1 = nI 40 from h1), if_neg, if_neg]
  · show ¬ nearOk tx e tk (sk tx e t.2.1) t.2.2.1 = true
    unfold nearOk
    rw [k3]
    intro q
    simp only [Bool.and_eq_true, decide_eq_true_eq] at q
    exact h4 q
  · show ¬ (hereW tx e (sk tx e t.2.1) t.2.2.1 wMin = true ∨ hereW tx e (sk tx e t.2.1) t.2.2.1 wMax = true)
    rw [k1, k2]
    simp [h2, h3]
theorem pTry_par {t : Tt} (h1 : chr tx e (sk tx e t.2.1) = nI 40) : pTry tx e tk t = (true, ((opn (nI 20) (nI (sk tx e t.2.1)) (t.1, mLook tx e t.2)).1, (sk tx e t.2.1 + 1, (opn (nI 20) (nI (sk tx e t.2.1)) (t.1, mLook tx e t.2)).2.2))) := by
  unfold pTry
  dsimp only
  rw [if_pos (show chr tx e (mLook tx e t.2).1 = nI 40 from h1)]
  rfl
theorem pTry_mm {t : Tt} (hz : t.2.2.2.1 = 0) (h1 : ¬ chr tx e (sk tx e t.2.1) = nI 40) (h2 : wdO tx e t.2 = some 31 ∨ wdO tx e t.2 = some 32) : pTry tx e tk t = (true, pMM tx e t.1 (mLook tx e t.2)) := by
  have k1 : hereW tx e (sk tx e t.2.1) t.2.2.1 wMin = decide (wdO tx e t.2 = some 31) := here_wd (i := 31) hz (by omega)
  have k2 : hereW tx e (sk tx e t.2.1) t.2.2.1 wMax = decide (wdO tx e t.2 = some 32) := here_wd (i := 32) hz (by omega)
  unfold pTry
  dsimp only
  rw [if_neg (show ¬ chr tx e (mLook tx e t.2).1 = nI 40 from h1), if_pos]
  show hereW tx e (sk tx e t.2.1) t.2.2.1 wMin = true ∨ hereW tx e (sk tx e t.2.1) t.2.2.1 wMax = true
  rw [k1, k2]
  simpa using h2
theorem pTry_near {t : Tt} (hz : t.2.2.2.1 = 0) (h1 : ¬ chr tx e (sk tx e t.2.1) = nI 40) (h2 : wdO tx e t.2 = some 26) (h3 : alw tk (nI 9) = true) : pTry tx e tk t = (true, ((opn (nI 60) (nI (sk tx e t.2.1)) (t.1, mLook tx e t.2)).1, mAsks tx e (opn (nI 60) (nI (sk tx e t.2.1)) (t.1, mLook tx e t.2)).2 wNear)) := by
  have k1 : hereW tx e (sk tx e t.2.1) t.2.2.1 wMin = decide (wdO tx e t.2 = some 31) := here_wd (i := 31) hz (by omega)
  have k2 : hereW tx e (sk tx e t.2.1) t.2.2.1 wMax = decide (wdO tx e t.2 = some 32) := here_wd (i := 32) hz (by omega)
  have k3 : hereW tx e (sk tx e t.2.1) t.2.2.1 wNear = decide (wdO tx e t.2 = some 26) := here_wd (i := 26) hz (by omega)
  unfold pTry
  dsimp only
  rw [if_neg (show ¬ chr tx e (mLook tx e t.2).1 = nI 40 from h1), if_neg, if_pos]
  · rfl
  · show nearOk tx e tk (sk tx e t.2.1) t.2.2.1 = true
    unfold nearOk
    rw [k3, h2, h3]
    rfl
  · show ¬ (hereW tx e (sk tx e t.2.1) t.2.2.1 wMin = true ∨ hereW tx e (sk tx e t.2.1) t.2.2.1 wMax = true)
    rw [k1, k2, h2]
    simp
theorem mNum_look (hz : s.2.2.1 = 0) (hs : s.1 ≤ e) (lo hi : Int32) : mNum tx e (mLook tx e s) lo hi = mNum tx e s lo hi := by
  have h1 : sk tx e (mLook tx e s).1 = sk tx e s.1 := sk_sk hs
  unfold mNum
  rw [h1, mLook_look hs, if_pos hz, if_pos (show (mLook tx e s).2.2.1 = 0 from hz)]
  rfl
theorem opn_6 {v pl : Int32} {t : Tt} (hz : t.2.2.2.1 = 0) (h : t.1.2.2.1 = nI 6) : opn v pl t = (t.1, mFail t.2 (nI 4) pl) := by
  unfold opn
  rw [if_pos hz, if_pos h]
theorem opn_k {v pl : Int32} {t : Tt} (hz : t.2.2.2.1 = 0) (h : ¬ t.1.2.2.1 = nI 6) : opn v pl t = ((t.1.1, v :: t.1.2.1, t.1.2.2.1 + nI 1, t.1.2.2.2), t.2) := by
  unfold opn
  rw [if_pos hz, if_neg h]
theorem mFail_z {k pl : Int32} (hz : s.2.2.1 = 0) : mFail s k pl = (s.1, s.2.1, k, pl, s.2.2.2.2.1, s.2.2.2.2.2) := if_pos hz
theorem sgn_eq (hz : s.2.2.1 = 0) (c : Int32) : (mSign tx e s c).1 = decide (chr tx e (sk tx e s.1) = c) := by
  unfold mSign
  rw [if_pos hz]
  by_cases h : chr tx e (sk tx e s.1) = c
  · rw [if_pos h, decide_eq_true h]
  · rw [if_neg h, decide_eq_false h]
theorem askS_y (hz : s.2.2.1 = 0) {c : Int32} (h : chr tx e (sk tx e s.1) = c) : mAskSign tx e s c = (sk tx e s.1 + 1, s.2) := by
  unfold mAskSign mSign
  simp only [if_pos hz, if_pos h]
  rfl
theorem askS_n (hz : s.2.2.1 = 0) {c : Int32} (h : ¬ chr tx e (sk tx e s.1) = c) : mAskSign tx e s c = mFail (mLook tx e s) (nI 1) (nI (sk tx e s.1)) := by
  unfold mAskSign mSign
  simp only [if_pos hz, if_neg h]
  rfl
theorem askS_b (hz : ¬ s.2.2.1 = 0) (c : Int32) : mAskSign tx e s c = s := by
  unfold mAskSign
  rw [if_neg hz]
end WDS
