/-! the reference: sums; within the rows -/

abbrev tln (t : Tt) : Nat := t.1.1.length + t.1.2.1.length
def IV (e k : Nat) (t : Tt) : Prop := t.2.1 ≤ e ∧ t.1.2.2.2 < 1700 ∧ tln t ≤ e + 2 ∧ (t.2.2.2.1 = 0 → tln t + k ≤ t.2.1)
/-- what a step may do -/
def ST (e : Nat) (t t' : Tt) : Prop := t'.2.1 ≤ e ∧ t'.1.2.2.2 = t.1.2.2.2 ∧ t.2.1 ≤ t'.2.1
section PIV
variable {tx : Nat → Nat} {e k : Nat} {tk : Int32} {t : Tt}
theorem mFail_0 (s : Ps) (k p : Int32) (hk : k ≠ 0) : (mFail s k p).2.2.1 ≠ 0 := by
  unfold mFail
  split
  · exact hk
  · assumption
theorem opn_bad (v pl : Int32) (t : Tt) (h : (opn v pl t).2.2.2.1 = 0) : t.2.2.2.1 = 0 := by
  unfold opn at h
  split at h
  · assumption
  · assumption
theorem mAskSign_bad (s : Ps) (c : Int32) (h : (mAskSign tx e s c).2.2.1 = 0) : s.2.2.1 = 0 := by
  unfold mAskSign at h
  split at h
  · assumption
  · assumption
theorem mTakes_bad (s : Ps) (ws : List Nat) : (mTakes tx e s ws).2.2.2.1 = s.2.2.1 := by
  unfold mTakes
  have : (mHere tx e s ws).2.2.2.1 = s.2.2.1 := by unfold mHere; split <;> rfl
  split
  · exact this
  · exact this
theorem mTakes_adv (s : Ps) (ws : List Nat) (hp : s.1 ≤ e) (h : (mTakes tx e s ws).1 = true) : s.1 + ws.length ≤ (mTakes tx e s ws).2.1 := by
  have h1 := sk_le (tx := tx) hp
  unfold mTakes at h ⊢
  split at h
  · rename_i hh
    rw [if_pos hh]
    have : (mHere tx e s ws).2.1 = sk tx e s.1 := by
      unfold mHere at hh ⊢
      split at hh
      · rename_i hb
        rw [if_pos hb]; rfl
      · cases hh
    dsimp only
    omega
  · cases h
theorem pTry_iv (hz : t.2.2.2.1 = 0) (hp : t.2.1 ≤ e) : tln (pTry tx e tk t).2 ≤ tln t + 1 ∧ ST e t (pTry tx e tk t).2 ∧ ((pTry tx e tk t).1 = true → (pTry tx e tk t).2.2.2.2.1 = 0 → t.2.1 + 1 ≤ (pTry tx e tk t).2.2.1) ∧ ((pTry tx e tk t).1 = false → (pTry tx e tk t).2 = (t.1, mLook tx e t.2)) := by
  have h1 := sk_le (tx := tx) hp
  have hs1 : (mLook tx e t.2).1 = sk tx e t.2.1 := rfl
  have hz1 : (mLook tx e t.2).2.2.1 = 0 := hz
  unfold pTry
  dsimp only
  generalize mLook tx e t.2 = s1 at hs1 hz1 ⊢
  have hp1 : s1.1 ≤ e := by omega
  split
  · rename_i hc
    have hl := chr_lt hc (by decide)
    have o := opn_len (nI 20) (nI s1.1) (t.1, s1)
    dsimp only at o
    exact ⟨o.1, ⟨by dsimp only; omega, o.2, by dsimp only; omega⟩, fun _ _ => by dsimp only; omega, fun h => by cases h⟩
  · split
    · rename_i hmm
      have key : ∀ s2 : Ps, s2.1 ≤ e → s1.1 ≤ s2.1 → (s2.2.2.1 = 0 → s1.1 + 1 ≤ s2.1) → ∀ v : Int32,
          tln (((if chr tx e (mLook tx e s2).1 = nI 40 then opn v (nI (mLook tx e s2).1) (t.1, mLook tx e s2) else (t.1, mLook tx e s2)).1, mAskSign tx e (if chr tx e (mLook tx e s2).1 = nI 40 then opn v (nI (mLook tx e s2).1) (t.1, mLook tx e s2) else (t.1, mLook tx e s2)).2 (nI 40)) : Tt) ≤ tln t + 1 ∧
          ST e t ((if chr tx e (mLook tx e s2).1 = nI 40 then opn v (nI (mLook tx e s2).1) (t.1, mLook tx e s2) else (t.1, mLook tx e s2)).1, mAskSign tx e (if chr tx e (mLook tx e s2).1 = nI 40 then opn v (nI (mLook tx e s2).1) (t.1, mLook tx e s2) else (t.1, mLook tx e s2)).2 (nI 40)) ∧
          ((mAskSign tx e (if chr tx e (mLook tx e s2).1 = nI 40 then opn v (nI (mLook tx e s2).1) (t.1, mLook tx e s2) else (t.1, mLook tx e s2)).2 (nI 40)).2.2.1 = 0 → t.2.1 + 1 ≤ (mAskSign tx e (if chr tx e (mLook tx e s2).1 = nI 40 then opn v (nI (mLook tx e s2).1) (t.1, mLook tx e s2) else (t.1, mLook tx e s2)).2 (nI 40)).1) := by
        intro s2 h2 h3 h4 v
        have h5 := sk_le (tx := tx) h2
        generalize hu : (if chr tx e (mLook tx e s2).1 = nI 40 then opn v (nI (mLook tx e s2).1) (t.1, mLook tx e s2) else (t.1, mLook tx e s2)) = u
        have hu1 : u.2.1 = sk tx e s2.1 ∧ tln u ≤ tln t + 1 ∧ u.1.2.2.2 = t.1.2.2.2 ∧ (u.2.2.2.1 = 0 → s2.2.2.1 = 0) := by
          rw [← hu]
          split
          · have o := opn_len v (nI (mLook tx e s2).1) (t.1, mLook tx e s2)
            exact ⟨by rw [opn_1]; rfl, o.1, o.2, fun h => opn_bad _ _ _ h⟩
          · exact ⟨rfl, by dsimp only [tln]; omega, rfl, fun h => h⟩
        have g1 := mAskSign_ge (tx := tx) (e := e) u.2 (nI 40) (by omega)
        have g2 := mAskSign_le (tx := tx) (e := e) (s := u.2) (c := 40) (by decide) (by omega)
        refine ⟨hu1.2.1, ⟨g2, hu1.2.2.1, by dsimp only; omega⟩, fun h => ?_⟩
        have := h4 (hu1.2.2.2 (mAskSign_bad _ _ h))
        omega
      unfold pMM
      dsimp only
      have kk := key (if (mTakes tx e s1 wMin).1 = true then (mTakes tx e s1 wMin).2 else mAsks tx e (mTakes tx e s1 wMin).2 wMax) (by
          split
          · exact mTakes_le _ hp1
          · exact mAsks_le _ (mTakes_le _ hp1)) (by
          have a1 := mTakes_ge (tx := tx) s1 wMin hp1
          split
          · exact a1
          · have a2 := mAsks_ge (tx := tx) (mTakes tx e s1 wMin).2 wMax (mTakes_le _ hp1)
            omega) (by
          have a1 := mTakes_ge (tx := tx) s1 wMin hp1
          split
          · rename_i ht
            intro _
            have := mTakes_adv s1 wMin hp1 ht
            simp only [List.length_cons, List.length_nil] at this
            omega
          · intro hb
            have := mAsks_adv (tx := tx) (mTakes tx e s1 wMin).2 wMax (mTakes_le _ hp1) (by decide) hb
            omega) (if (mTakes tx e s1 wMin).1 = true then nI 21 else nI 22)
      exact ⟨kk.1, kk.2.1, fun _ => kk.2.2, fun h => by cases h⟩
    · split
      · have o := opn_len (nI 60) (nI s1.1) (t.1, s1)
        have o1 := opn_1 (nI 60) (nI s1.1) (t.1, s1)
        dsimp only at o o1
        have g1 := mAsks_ge (tx := tx) (opn (nI 60) (nI s1.1) (t.1, s1)).2 wNear (by rw [o1]; exact hp1)
        have g2 := mAsks_le (tx := tx) (s := (opn (nI 60) (nI s1.1) (t.1, s1)).2) wNear (by rw [o1]; exact hp1)
        refine ⟨o.1, ⟨g2, o.2, by dsimp only; omega⟩, fun _ hb => ?_, fun h => by cases h⟩
        have := mAsks_adv (tx := tx) (opn (nI 60) (nI s1.1) (t.1, s1)).2 wNear (by rw [o1]; exact hp1) (by decide) hb
        dsimp only
        omega
      · exact ⟨by dsimp only [tln]; omega, ⟨hp1, rfl, by dsimp only; omega⟩, (fun h => by cases h), fun _ => rfl⟩
theorem pLoop_iv : ∀ (n : Nat) (t : Tt), IV e k t → IV e k (pLoop tx e tk n t) ∧ ST e t (pLoop tx e tk n t)
  | 0, t, h => ⟨h, h.1, rfl, Nat.le_refl _⟩
  | n + 1, t, h => by
    unfold pLoop
    split
    · rename_i hz
      obtain ⟨a1, ⟨a2, a3, a4⟩, a5, a6⟩ := pTry_iv (tx := tx) (tk := tk) hz h.1
      have hl := h.2.2.2 hz
      split
      · rename_i ht
        obtain ⟨b1, b2, b3, b4⟩ := pLoop_iv n (pTry tx e tk t).2 ⟨a2, by rw [a3]; exact h.2.1, by have := h.1; omega, fun hb => by have := a5 ht hb; omega⟩
        exact ⟨b1, b2, by rw [b3, a3], by omega⟩
      · rename_i ht
        have hx := a6 (by simpa using ht)
        rw [hx] at a2 a3 a4 ⊢
        dsimp only at a2 a3 a4
        exact ⟨⟨a2, h.2.1, h.2.2.1, fun _ => by show tln t + k ≤ (mLook tx e t.2).1; omega⟩, a2, rfl, a4⟩
    · exact ⟨h, h.1, rfl, Nat.le_refl _⟩
theorem partL_pos (i : Nat) (hi : i < 10) : 0 < (partL.getD i []).length := by
  rcases (show i = 0 ∨ i = 1 ∨ i = 2 ∨ i = 3 ∨ i = 4 ∨ i = 5 ∨ i = 6 ∨ i = 7 ∨ i = 8 ∨ i = 9 by omega) with rfl | rfl | rfl | rfl | rfl | rfl | rfl | rfl | rfl | rfl <;> decide
theorem pIdx_rng (s : Ps) : pIdx tx e tk s = -1 ∨ ∃ j, j < 9 ∧ pIdx tx e tk s = nI j := by
  unfold pIdx
  split
  · rename_i h
    rcases fIdx_rng (tx := tx) (e := e) s.1 s.2.1 partL 0 with h1 | ⟨j, -, h2, h3⟩
    · exact Or.inl h1
    · have hl : partL.length = 10 := by decide +kernel
      refine Or.inr ⟨j, ?_, h3⟩
      rw [h3] at h
      exact n_lt h.2.1
  · exact Or.inl rfl
theorem pLast_iv (hz : t.2.2.2.1 = 0) (h : IV e k t) : IV e k (pLast tx e tk t) ∧ ST e t (pLast tx e tk t) ∧ ((pLast tx e tk t).2.2.2.1 = 0 → t.2.1 + 1 ≤ (pLast tx e tk t).2.1) := by
  obtain ⟨h1, h2, h3, h4⟩ := h
  have hl := h4 hz
  have key : ∀ (v : Int32) (s2 : Ps), s2.1 ≤ e → t.2.1 ≤ s2.1 → (s2.2.2.1 = 0 → t.2.1 + 1 ≤ s2.1) → IV e k (qEnd ((t.1.1 ++ [v], t.1.2), s2)) ∧ ST e t (qEnd ((t.1.1 ++ [v], t.1.2), s2)) ∧ ((qEnd ((t.1.1 ++ [v], t.1.2), s2)).2.2.2.1 = 0 → t.2.1 + 1 ≤ (qEnd ((t.1.1 ++ [v], t.1.2), s2)).2.1) := by
    intro v s2 g1 g2 g3
    obtain ⟨q1, q2⟩ := qEnd_2 ((t.1.1 ++ [v], t.1.2), s2)
    have q3 := qEnd_len ((t.1.1 ++ [v], t.1.2), s2)
    simp only [List.length_append, List.length_cons, List.length_nil] at q1 q2 q3
    refine ⟨⟨by rw [q1]; exact g1, by rw [q2]; exact h2, by dsimp only [tln] at hl ⊢; omega, fun hb => ?_⟩, ⟨by rw [q1]; exact g1, q2, by rw [q1]; exact g2⟩, fun hb => ?_⟩
    · rw [q1] at hb ⊢
      have := g3 hb
      dsimp only [tln] at hl ⊢
      omega
    · rw [q1] at hb ⊢
      exact g3 hb
  unfold pLast
  split
  · have g := mNum_ge (tx := tx) t.2 (nI 0) (nI 9999) h1
    exact key _ _ (mNum_le _ _ h1) g.1 g.2
  · rename_i hi
    rcases pIdx_rng (tx := tx) (e := e) (tk := tk) t.2 with h9 | ⟨j, hj, h9⟩
    · exact absurd h9 hi
    · rw [h9, n_cl]
      exact key _ _ (mAsks_le _ h1) (mAsks_ge _ _ h1) (fun hb => mAsks_adv _ _ h1 (partL_pos j (by omega)) hb)
theorem pPart_iv (hz : t.2.2.2.1 = 0) (h : IV e k t) : IV e k (pPart tx e tk t) ∧ ST e t (pPart tx e tk t) ∧ ((pPart tx e tk t).2.2.2.1 = 0 → t.2.1 + 1 ≤ (pPart tx e tk t).2.1) := by
  obtain ⟨a1, a2, a3, a4⟩ := pLoop_iv (tx := tx) (tk := tk) (e + 2 - t.2.1) t h
  unfold pPart
  split
  · rename_i hb
    obtain ⟨b1, ⟨b2, b3, b4⟩, b5⟩ := pLast_iv (tx := tx) (tk := tk) hb a1
    exact ⟨b1, ⟨b2, by rw [b3, a3], by omega⟩, fun h => by have := b5 h; omega⟩
  · rename_i hb
    exact ⟨a1, ⟨a2, a3, a4⟩, fun h => absurd h hb⟩
theorem gCl1_iv {p : Nat} {d : List Int32 × List Int32} (hd : 0 < d.2.length) (hl : d.1.length + d.2.length = tln t) (hp : p < e) (hpt : t.2.1 ≤ p) (h : IV e k t) : IV e k (gCl1 p t d) ∧ ST e t (gCl1 p t d) ∧ (gCl1 p t d).2.2.2.1 = t.2.2.2.1 := by
  obtain ⟨h1, h2, h3, h4⟩ := h
  unfold gCl1
  generalize hc : (if d.2.headD 0 = nI 20 then d.1 else d.1 ++ [if d.2.headD 0 = nI 23 then nI 5 else nI 6]) = cs
  have hcl : cs.length ≤ d.1.length + 1 := by rw [← hc]; split <;> simp
  obtain ⟨q1, q2⟩ := qEnd_2 ((cs, d.2.tail, t.1.2.2.1 - nI 1, t.1.2.2.2), (p + 1, t.2.2))
  have q3 := qEnd_len ((cs, d.2.tail, t.1.2.2.1 - nI 1, t.1.2.2.2), (p + 1, t.2.2))
  simp only [List.length_tail] at q1 q2 q3
  refine ⟨⟨by rw [q1]; exact hp, by rw [q2]; exact h2, by dsimp only [tln] at hl h3 ⊢; omega, fun hb => ?_⟩, ⟨by rw [q1]; exact hp, q2, by rw [q1]; show t.2.1 ≤ p + 1; omega⟩, by rw [q1]⟩
  rw [q1] at hb ⊢
  have := h4 hb
  dsimp only [tln] at hl this ⊢
  omega
theorem gClose_iv : ∀ (n : Nat) (t : Tt), IV e k t → IV e k (gClose tx e n t) ∧ ST e t (gClose tx e n t) ∧ (gClose tx e n t).2.2.2.1 = t.2.2.2.1
  | 0, t, h => by
    have h1 := sk_le (tx := tx) h.1
    exact ⟨⟨h1.2, h.2.1, h.2.2.1, fun hb => by have := h.2.2.2 hb; show tln t + k ≤ sk tx e t.2.1; omega⟩, ⟨h1.2, rfl, h1.1⟩, rfl⟩
  | n + 1, t, h => by
    have h1 := sk_le (tx := tx) h.1
    unfold gClose
    split
    · rename_i hc
      have hcl3 : qBrk t.1.2.1 t.1.2.2.2 = nI 20 ∨ qBrk t.1.2.1 t.1.2.2.2 = nI 23 ∨ qBrk t.1.2.1 t.1.2.2.2 = nI 24 := by simpa [clB, or_assoc] using hc.2
      obtain ⟨cs', ws', hd, hb', -⟩ := qDown_brk t.1.2.1 t.1.1 t.1.2.2.2 (by rcases hcl3 with h | h | h <;> rw [h] <;> decide)
      have hln := qDown_len t.1.2.1 t.1.1 t.1.2.2.2
      obtain ⟨a1, ⟨a2, a3, a4⟩, a5⟩ := gCl1_iv (t := t) (e := e) (p := sk tx e t.2.1) (d := qDown t.1.1 t.1.2.1 t.1.2.2.2) (by rw [hd]; simp) hln (chr_lt hc.1 (by decide)) h1.1 h
      obtain ⟨b1, ⟨b2, b3, b4⟩, b5⟩ := gClose_iv n _ a1
      exact ⟨b1, ⟨b2, by rw [b3, a3], by omega⟩, by rw [b5, a5]⟩
    · exact ⟨⟨h1.2, h.2.1, h.2.2.1, fun hb => by have := h.2.2.2 hb; show tln t + k ≤ sk tx e t.2.1; omega⟩, ⟨h1.2, rfl, h1.1⟩, rfl⟩
theorem mSign_bad (s : Ps) (c : Int32) : (mSign tx e s c).2.2.2.1 = s.2.2.1 := by
  unfold mSign
  split
  · split <;> rfl
  · rfl
theorem gTk_iv {s : Ps} {a b : Nat} (ha : a < 256) (hb : b < 256) (hp : s.1 ≤ e) : (gTk tx e s (nI a) (nI b)).2.2.1 ≤ e ∧ s.1 ≤ (gTk tx e s (nI a) (nI b)).2.2.1 ∧ (gTk tx e s (nI a) (nI b)).2.2.2.2.1 = s.2.2.1 ∧ ((gTk tx e s (nI a) (nI b)).1 = true → s.1 + 1 ≤ (gTk tx e s (nI a) (nI b)).2.2.1) := by
  have adv : ∀ (s : Ps) (c : Int32), s.1 ≤ e → (mSign tx e s c).1 = true → s.1 + 1 ≤ (mSign tx e s c).2.1 := by
    intro s c hp h
    have h1 := sk_le (tx := tx) hp
    unfold mSign at h ⊢
    split at h
    · rename_i hz
      split at h
      · rename_i hc
        rw [if_pos hz, if_pos hc]
        dsimp only
        omega
      · cases h
    · cases h
  have g1 := mSign_le (tx := tx) (s := s) (c := a) (by omega) hp
  have g2 := mSign_ge (tx := tx) s (nI a) hp
  have g3 := mSign_le (tx := tx) (s := (mSign tx e s (nI a)).2) (c := b) (by omega) g1
  have g4 := mSign_ge (tx := tx) (mSign tx e s (nI a)).2 (nI b) g1
  unfold gTk
  split
  · rename_i h
    exact ⟨g1, g2, mSign_bad _ _, fun _ => adv _ _ hp h⟩
  · exact ⟨g3, by dsimp only; omega, by dsimp only; rw [mSign_bad, mSign_bad], fun h => by have := adv _ _ g1 h; dsimp only; omega⟩
theorem gBr_iv (hz : t.2.2.2.1 = 0) (h : IV e k t) : IV e k (gBr tx e t).2 ∧ ST e t (gBr tx e t).2 ∧ ((gBr tx e t).1 = true → (gBr tx e t).2.2.2.2.1 = 0) := by
  obtain ⟨h1, h2, h3, h4⟩ := h
  have hl := h4 hz
  have g1 := mAskSign_ge (tx := tx) t.2 (nI 44) h1
  have g2 := mAskSign_le (tx := tx) (s := t.2) (c := 44) (by decide) h1
  unfold gBr
  split
  · rename_i hw
    split
    · rename_i hb
      obtain ⟨cs', ws', hd, hb', -⟩ := qDown_brk t.1.2.1 t.1.1 t.1.2.2.2 (by rcases hw with h | h <;> rw [h] <;> decide)
      have hln := qDown_len t.1.2.1 t.1.1 t.1.2.2.2
      rw [hd] at hln ⊢
      simp only [List.length_cons] at hln
      exact ⟨⟨g2, h2, by dsimp only [tln, List.tail_cons, List.length_cons] at hl ⊢; omega, fun _ => by dsimp only [tln, List.tail_cons, List.length_cons] at hl ⊢; omega⟩, ⟨g2, rfl, g1⟩, fun _ => hb⟩
    · rename_i hb
      exact ⟨⟨g2, h2, h3, fun h => absurd h hb⟩, ⟨g2, rfl, g1⟩, fun h => by cases h⟩
  · split
    · exact ⟨⟨h1, h2, h3, h4⟩, ⟨h1, rfl, Nat.le_refl _⟩, fun h => by cases h⟩
    · exact ⟨⟨by rw [mFail_1]; exact h1, h2, h3, fun h => absurd h (mFail_0 _ _ _ (by decide))⟩, ⟨by rw [mFail_1]; exact h1, rfl, by rw [mFail_1]; exact Nat.le_refl _⟩, fun h => by cases h⟩
theorem gPlus_iv (hz : t.2.2.2.1 = 0) (h : IV e k t) : IV e k (gPlus tx e t).2 ∧ ST e t (gPlus tx e t).2 ∧ ((gPlus tx e t).1 = true → (gPlus tx e t).2.2.2.2.1 = 0) := by
  obtain ⟨g1, g2, g3, g4⟩ := gTk_iv (tx := tx) (s := t.2) (a := 43) (b := 45) (by decide) (by decide) h.1
  obtain ⟨h1, h2, h3, h4⟩ := h
  have hl := h4 hz
  unfold gPlus
  split
  · rename_i hb
    have := g4 hb
    have hq := qTop_len addS t.1.2.1 t.1.1
    exact ⟨⟨g1, h2, by dsimp only [tln, List.length_cons] at hl ⊢; omega, fun _ => by dsimp only [tln, List.length_cons] at hl ⊢; omega⟩, ⟨g1, rfl, g2⟩, fun _ => by dsimp only; rw [g3]; exact hz⟩
  · obtain ⟨b1, ⟨b2, b3, b4⟩, b5⟩ := gBr_iv (tx := tx) (k := k) (t := (t.1, (gTk tx e t.2 (nI 43) (nI 45)).2.2)) (by dsimp only; rw [g3]; exact hz) ⟨g1, h2, h3, fun _ => by dsimp only [tln] at hl ⊢; omega⟩
    exact ⟨b1, ⟨b2, b3, by dsimp only at b4; omega⟩, b5⟩
theorem gRest_iv (hz : t.2.2.2.1 = 0) (h : IV e k t) : IV e k (gRest tx e t).2 ∧ ST e t (gRest tx e t).2 ∧ ((gRest tx e t).1 = true → (gRest tx e t).2.2.2.2.1 = 0) := by
  obtain ⟨g1, g2, g3, g4⟩ := gTk_iv (tx := tx) (s := t.2) (a := 42) (b := 47) (by decide) (by decide) h.1
  obtain ⟨h1, h2, h3, h4⟩ := h
  have hl := h4 hz
  unfold gRest
  split
  · rename_i hb
    have := g4 hb
    have hq := qTop_len mulS t.1.2.1 t.1.1
    exact ⟨⟨g1, h2, by dsimp only [tln, List.length_cons] at hl ⊢; omega, fun _ => by dsimp only [tln, List.length_cons] at hl ⊢; omega⟩, ⟨g1, rfl, g2⟩, fun _ => by dsimp only; rw [g3]; exact hz⟩
  · obtain ⟨b1, ⟨b2, b3, b4⟩, b5⟩ := gPlus_iv (tx := tx) (k := k) (t := (t.1, (gTk tx e t.2 (nI 42) (nI 47)).2.2)) (by dsimp only; rw [g3]; exact hz) ⟨g1, h2, h3, fun _ => by dsimp only [tln] at hl ⊢; omega⟩
    exact ⟨b1, ⟨b2, b3, by dsimp only at b4; omega⟩, b5⟩
theorem gOn_iv (hz : t.2.2.2.1 = 0) (h : IV e k t) : IV e k (gOn tx e t).2 ∧ ST e t (gOn tx e t).2 ∧ ((gOn tx e t).1 = true → (gOn tx e t).2.2.2.2.1 = 0) := by
  obtain ⟨a1, ⟨a2, a3, a4⟩, a5⟩ := gClose_iv (tx := tx) (e + 1 - t.2.1) t h
  obtain ⟨b1, ⟨b2, b3, b4⟩, b5⟩ := gRest_iv (tx := tx) (t := gClose tx e (e + 1 - t.2.1) t) (by rw [a5]; exact hz) a1
  exact ⟨b1, ⟨b2, by rw [← a3]; exact b3, Nat.le_trans a4 b4⟩, b5⟩
end PIV
def qAllD : List Int32 → List Int32 → Nat → List Int32 × List Int32
  | cs, [], _ => (cs, [])
  | cs, w :: ws, bs => if bs ≤ ws.length then qAllD (cs ++ [w]) ws bs else (cs, w :: ws)
theorem qAllD_len : ∀ (ws cs : List Int32) (bs : Nat), (qAllD cs ws bs).1.length + (qAllD cs ws bs).2.length = cs.length + ws.length
  | [], cs, bs => rfl
  | w :: ws, cs, bs => by
    unfold qAllD
    split
    · rw [qAllD_len ws]; simp; omega
    · rfl
def sLoop (tx : Nat → Nat) (e : Nat) (tk : Int32) : Nat → Tt → Tt
  | 0, t => t
  | n + 1, t => if (pPart tx e tk t).2.2.2.1 = 0 then (if (gOn tx e (pPart tx e tk t)).1 then sLoop tx e tk n (gOn tx e (pPart tx e tk t)).2 else (gOn tx e (pPart tx e tk t)).2) else pPart tx e tk t
def tAll (t : Tt) : Tt := if t.2.2.2.1 = 0 then (((qAllD t.1.1 t.1.2.1 t.1.2.2.2).1, (qAllD t.1.1 t.1.2.1 t.1.2.2.2).2, t.1.2.2), t.2) else t
def tBs (b : Nat) (t : Tt) : Tt := ((t.1.1, t.1.2.1, t.1.2.2.1, b), t.2)
def sSums (tx : Nat → Nat) (e : Nat) (tk : Int32) (t : Tt) : Tt := tBs t.1.2.2.2 (tAll (sLoop tx e tk (e + 2 - t.2.1) (tBs t.1.2.1.length t)))
section KMQ6
variable {l : Launch} {G : Gm} {μ μ1 : Mm} {q : Qt} {s : Ps} {tx : Nat → Nat} {e k : Nat}
theorem sLoop_iv {tk : Int32} : ∀ (n : Nat) (t : Tt), t.2.2.2.1 = 0 → IV e k t → IV e k (sLoop tx e tk (n + 1) t) ∧ ST e t (sLoop tx e tk (n + 1) t) ∧ ((sLoop tx e tk (n + 1) t).2.2.2.1 = 0 → t.2.1 + 1 ≤ (sLoop tx e tk (n + 1) t).2.1) := by
  intro n
  induction n with
  | zero =>
    intro t hz h
    obtain ⟨a1, ⟨a2, a3, a4⟩, a5⟩ := pPart_iv (tx := tx) (tk := tk) hz h
    unfold sLoop
    split
    · rename_i hb
      obtain ⟨b1, ⟨b2, b3, b4⟩, b5⟩ := gOn_iv (tx := tx) hb a1
      have := a5 hb
      unfold sLoop
      split <;> exact ⟨b1, ⟨b2, by rw [b3, a3], by omega⟩, fun _ => by omega⟩
    · exact ⟨a1, ⟨a2, a3, a4⟩, a5⟩
  | succ n ih =>
    intro t hz h
    obtain ⟨a1, ⟨a2, a3, a4⟩, a5⟩ := pPart_iv (tx := tx) (tk := tk) hz h
    unfold sLoop
    split
    · rename_i hb
      obtain ⟨b1, ⟨b2, b3, b4⟩, b5⟩ := gOn_iv (tx := tx) hb a1
      have := a5 hb
      split
      · rename_i hg
        obtain ⟨c1, ⟨c2, c3, c4⟩, c5⟩ := ih _ (b5 hg) b1
        exact ⟨c1, ⟨c2, by rw [c3, b3, a3], by omega⟩, fun _ => by omega⟩
      · exact ⟨b1, ⟨b2, by rw [b3, a3], by omega⟩, fun _ => by omega⟩
    · exact ⟨a1, ⟨a2, a3, a4⟩, a5⟩
theorem tAll_iv {t : Tt} (h : IV e k t) : IV e k (tAll t) ∧ ST e t (tAll t) ∧ (tAll t).2 = t.2 := by
  unfold tAll
  split
  · have := qAllD_len t.1.2.1 t.1.1 t.1.2.2.2
    exact ⟨⟨h.1, h.2.1, by have := h.2.2.1; dsimp only [tln] at this ⊢; omega, fun hb => by have := h.2.2.2 hb; dsimp only [tln] at this ⊢; omega⟩, ⟨h.1, rfl, Nat.le_refl _⟩, rfl⟩
  · exact ⟨h, ⟨h.1, rfl, Nat.le_refl _⟩, rfl⟩
theorem sSums_iv {tk : Int32} {t : Tt} (he : e ≤ 1600) (hz : t.2.2.2.1 = 0) (h : IV e k t) : IV e k (sSums tx e tk t) ∧ ST e t (sSums tx e tk t) ∧ ((sSums tx e tk t).2.2.2.1 = 0 → t.2.1 + 1 ≤ (sSums tx e tk t).2.1) := by
  have h0 : IV e k (tBs t.1.2.1.length t) := ⟨h.1, by have := h.2.2.1; dsimp only [tln] at this; show t.1.2.1.length < 1700; omega, h.2.2.1, h.2.2.2⟩
  have hle := h.1
  obtain ⟨n, hn⟩ : ∃ n, e + 2 - t.2.1 = n + 1 := ⟨e + 1 - t.2.1, by omega⟩
  unfold sSums
  rw [hn]
  obtain ⟨a1, ⟨a2, a3, a4⟩, a5⟩ := sLoop_iv (tx := tx) (tk := tk) n (tBs t.1.2.1.length t) hz h0
  generalize sLoop tx e tk (n + 1) (tBs t.1.2.1.length t) = u at a1 a2 a3 a4 a5 ⊢
  obtain ⟨b1, ⟨b2, b3, b4⟩, b5⟩ := tAll_iv a1
  generalize tAll u = v at b1 b2 b3 b4 b5 ⊢
  exact ⟨⟨b1.1, h.2.1, b1.2.2.1, b1.2.2.2⟩, ⟨b2, rfl, Nat.le_trans a4 b4⟩, fun hb => by
    have : u.2.2.2.1 = 0 := by rw [← b5]; exact hb
    exact Nat.le_trans (a5 this) b4⟩
theorem kq_sums (hS : ShM μ) (hW : WdM μ) (hT : TxM μ tx e) (hQ : QM μ μ1 q s) (hz : s.2.2.1 = 0) (hI : IV e k (q, s)) : AMet l G 6 0 0 mtX13_qSums [.ref (G.1 + 179)] μ1 (qV (fun μ' => QM μ μ' (sSums tx e (mI μ 179 58) (q, s)).1 (sSums tx e (mI μ 179 58) (q, s)).2)) := by
  refine AMet.of (by decide) (Nat.le_of_ble_eq_true rfl) (fun X C hX hnm hq => ?_)
  have hS1 := hS
  have he := hT.2.1
  generalize htk : mI μ 179 58 = tk at hq
  generalize hK : sSums tx e tk (q, s) = K at hq
  obtain ⟨cs0, ws0, op0, bs0⟩ := q
  have all : ∀ (ws cs : List Int32) (op : Int32) (bs : Nat) (s : Ps) (x : Int32) (μ1 : Mm), QM μ μ1 (cs, ws, op, bs) s → cs.length + ws.length < 1690 → bs < 1700 → tBs bs0 (tAll ((cs, ws, op, bs), s)) = K → AW l G X 0 0 53 [(0, .ref (G.1 + 179)), (1, .int (nI bs0)), (2, .int x)] [] μ1 := by
    intro ws
    induction ws with
    | nil =>
      intro cs op bs s x μ1 hQ hl hbs hk
      have hS : ShM μ1 := hQ.sh hS1
      have hb := hQ.2.2.1.2.2.2
      have hw := hQ.2.2.1.2.1
      dsimp only at hb hw
      have hk2 : ((cs, [], op, bs0), s) = K := by rw [← hk]; unfold tBs tAll; split <;> rfl
      refine C.aload_n dX13_qSums_53 0 rfl ?_
      refine C.getI fX13_264 dX13_qSums_54 hS.o ?_
      refine C.if_ne 78 dX13_qSums_57 rfl (fun hc57 => ?_) (fun hc57 => ?_)
      · refine C.aload_n dX13_qSums_78 0 rfl ?_
        refine C.iload_n dX13_qSums_79 1 rfl ?_
        refine C.putI fX13_364 (Or.inl rfl) dX13_qSums_80 hS.o ?_
        refine C.vret hq dX13_qSums_83 ?_
        rw [← hk2]
        exact hQ.base bs0
      · refine C.aload_n dX13_qSums_60 0 rfl ?_
        refine C.getI fX13_358 dX13_qSums_61 hS.o ?_
        refine C.aload_n dX13_qSums_64 0 rfl ?_
        refine C.getI fX13_364 dX13_qSums_65 hS.o ?_
        rw [hw, hb]
        refine C.icmp_le 78 dX13_qSums_68 rfl (fun hc68 => ?_) (fun hc68 => ?_)
        · refine C.aload_n dX13_qSums_78 0 rfl ?_
          refine C.iload_n dX13_qSums_79 1 rfl ?_
          refine C.putI fX13_364 (Or.inl rfl) dX13_qSums_80 hS.o ?_
          refine C.vret hq dX13_qSums_83 ?_
          rw [← hk2]
          exact hQ.base bs0
        · have := n_nle (a := ([] : List Int32).length) hc68; simp at this
    | cons w ws ih =>
      intro cs op bs s x μ1 hQ hl hbs hk
      have hS : ShM μ1 := hQ.sh hS1
      have hb := hQ.2.2.1.2.2.2
      have hw := hQ.2.2.1.2.1
      have hbd := hQ.2.1.2.2.1
      simp only [List.length_cons] at hb hw hl
      have m78 : ((cs, w :: ws, op, bs0), s) = K → AW l G X 0 0 78 [(0, .ref (G.1 + 179)), (1, .int (nI bs0)), (2, .int x)] [] μ1 := by
        intro hk2
        refine C.aload_n dX13_qSums_78 0 rfl ?_
        refine C.iload_n dX13_qSums_79 1 rfl ?_
        refine C.putI fX13_364 (Or.inl rfl) dX13_qSums_80 hS.o ?_
        refine C.vret hq dX13_qSums_83 ?_
        rw [← hk2]
        exact hQ.base bs0
      refine C.aload_n dX13_qSums_53 0 rfl ?_
      refine C.getI fX13_264 dX13_qSums_54 hS.o ?_
      rw [hbd]
      refine C.if_ne 78 dX13_qSums_57 rfl (fun hc57 => ?_) (fun hc57 => ?_)
      · exact m78 (by rw [← hk]; unfold tBs tAll; rw [if_neg hc57])
      · refine C.aload_n dX13_qSums_60 0 rfl ?_
        refine C.getI fX13_358 dX13_qSums_61 hS.o ?_
        refine C.aload_n dX13_qSums_64 0 rfl ?_
        refine C.getI fX13_364 dX13_qSums_65 hS.o ?_
        rw [hw, hb]
        refine C.icmp_le 78 dX13_qSums_68 rfl (fun hc68 => ?_) (fun hc68 => ?_)
        · have hle := n_le hc68
          exact m78 (by rw [← hk]; unfold tBs tAll qAllD; rw [if_pos hc57]; dsimp only; rw [if_neg (by omega)])
        · have hgt := n_nle hc68
          refine C.aload_n dX13_qSums_71 0 rfl ?_
          refine C.callVV lX13_614 dX13_qSums_72 (kq_qDrops hS1 hQ (by omega) (by omega)) hS.o rfl rfl (Nat.le_of_ble_eq_true rfl) (Nat.zero_le _) (Nat.zero_le _) (Nat.le_of_ble_eq_true rfl) (fun μ72 h72 => ?_)
          refine C.goto 53 dX13_qSums_75 rfl ?_
          exact ih _ _ _ _ _ _ h72 (by simp; omega) hbs (by rw [← hk]; unfold tBs tAll; rw [if_pos hc57, if_pos hc57]; dsimp only; rw [show qAllD cs (w :: ws) bs = qAllD (cs ++ [w]) ws bs by rw [qAllD, if_pos (by omega)]])
  have fin : ∀ (t : Tt) (x : Int32) (μ1 : Mm), IV e k t → QM μ μ1 t.1 t.2 → tBs bs0 (tAll t) = K → AW l G X 0 0 53 [(0, .ref (G.1 + 179)), (1, .int (nI bs0)), (2, .int x)] [] μ1 := by
    intro t x μ1 hI hQ hk
    obtain ⟨⟨cs, ws, op, bs⟩, s⟩ := t
    exact all _ _ _ _ _ _ _ hQ (by have := hI.2.2.1; dsimp only [tln] at this; omega) hI.2.1 hk
  have out : ∀ (t : Tt) (μ1 : Mm), IV e k t → QM μ μ1 t.1 t.2 → tBs bs0 (tAll t) = K → AW l G X 0 0 15 [(0, .ref (G.1 + 179)), (1, .int (nI bs0)), (2, .int (nI 0))] [] μ1 := by
    intro t μ1 hI hQ hk
    have hS : ShM μ1 := hQ.sh hS1
    refine C.iload_n dX13_qSums_15 2 rfl ?_
    refine C.if_eq 53 dX13_qSums_16 rfl (fun hc16 => ?_) (fun hc16 => ?_)
    · exact fin _ _ _ hI hQ hk
    · exact absurd rfl hc16
  have loop : ∀ (n : Nat) (t : Tt) (μ1 : Mm), IV e k t → t.2.2.2.1 = 0 → QM μ μ1 t.1 t.2 → e + 1 - t.2.1 < n → tBs bs0 (tAll (sLoop tx e tk n t)) = K → AW l G X 0 0 15 [(0, .ref (G.1 + 179)), (1, .int (nI bs0)), (2, .int (nI 1))] [] μ1 := by
    intro n
    induction n with
    | zero => intro t μ1 _ _ _ h; omega
    | succ n ih =>
      intro t μ1 hI hz hQ hn hk
      obtain ⟨q2, s2⟩ := t
      obtain ⟨a1, ⟨a2, a3, a4⟩, a5⟩ := pPart_iv (tx := tx) (tk := tk) hz hI
      have m48 : ∀ (t : Tt) (μ1 : Mm), IV e k t → QM μ μ1 t.1 t.2 → tBs bs0 (tAll t) = K → AW l G X 0 0 48 [(0, .ref (G.1 + 179)), (1, .int (nI bs0)), (2, .int (nI 1))] [] μ1 := by
        intro t μ1 hI hQ hk
        have hS : ShM μ1 := hQ.sh hS1
        refine C.iconst (nI 0) dX13_qSums_48 (by decide) ?_
        refine C.istore_n (lv' := [(0, _), (1, _), (2, _)]) dX13_qSums_49 (nLt hX rfl) rfl ?_
        refine C.goto 15 dX13_qSums_50 rfl ?_
        exact out _ _ hI hQ hk
      have hS : ShM μ1 := hQ.sh hS1
      have hbd := hQ.2.1.2.2.1
      unfold sLoop at hk
      refine C.iload_n dX13_qSums_15 2 rfl ?_
      refine C.if_eq 53 dX13_qSums_16 rfl (fun hc16 => ?_) (fun hc16 => ?_)
      · exact absurd hc16 (by decide)
      · refine C.aload_n dX13_qSums_19 0 rfl ?_
        refine C.getI fX13_264 dX13_qSums_20 hS.o ?_
        rw [hbd]
        refine C.if_ne 53 dX13_qSums_23 rfl (fun hc23 => ?_) (fun hc23 => ?_)
        · exact absurd hz hc23
        · refine C.aload_n dX13_qSums_26 0 rfl ?_
          refine C.callVV lX13_644 dX13_qSums_27 (kq_part hS1 hW hT hQ ⟨by have := hI.2.2.2 hz; dsimp only [tln] at this ⊢; omega, hI.1, hI.2.1⟩) hS.o rfl rfl (Nat.le_of_ble_eq_true rfl) (Nat.zero_le _) (Nat.zero_le _) (Nat.le_of_ble_eq_true rfl) (fun μ27 h27 => ?_)
          rw [htk] at h27
          have hS : ShM μ27 := h27.sh hS1
          refine C.aload_n dX13_qSums_30 0 rfl ?_
          refine C.getI fX13_264 dX13_qSums_31 hS.o ?_
          rw [h27.2.1.2.2.1]
          generalize pPart tx e tk (q2, s2) = u at a1 a2 a3 a4 a5 hk h27
          refine C.if_ne 48 dX13_qSums_34 rfl (fun hc34 => ?_) (fun hc34 => ?_)
          · rw [if_neg hc34] at hk
            exact m48 _ _ a1 h27 hk
          · rw [if_pos hc34] at hk
            obtain ⟨b1, ⟨b2, b3, b4⟩, b5⟩ := gOn_iv (tx := tx) hc34 a1
            have := a5 hc34
            refine C.aload_n dX13_qSums_37 0 rfl ?_
            refine C.callVI lX13_647 dX13_qSums_38 (kq_on hS1 hT h27 hc34 a1.1 (by have := a1.2.2.1; dsimp only [tln] at this; omega) a1.2.1) hS.o rfl rfl (Nat.le_of_ble_eq_true rfl) (Nat.zero_le _) (Nat.zero_le _) (Nat.le_of_ble_eq_true rfl) (fun x38 μ38 h38 => ?_)
            obtain ⟨rfl, hQ3⟩ := h38
            have hS : ShM μ38 := hQ3.sh hS1
            refine C.if_eq 48 dX13_qSums_41 rfl (fun hc41 => ?_) (fun hc41 => ?_)
            · rw [if_neg (by rw [(bI_0 _).mp hc41]; decide)] at hk
              exact m48 _ _ b1 hQ3 hk
            · have hg := b_t hc41
              rw [if_pos hg] at hk
              refine C.iconst (nI 1) dX13_qSums_44 (by decide) ?_
              refine C.goto 49 dX13_qSums_45 rfl ?_
              refine C.istore_n (lv' := [(0, _), (1, _), (2, _)]) dX13_qSums_49 (nLt hX rfl) rfl ?_
              refine C.goto 15 dX13_qSums_50 rfl ?_
              exact ih _ _ b1 (b5 hg) hQ3 (by dsimp only at this hn; omega) hk
  have hw := hQ.2.2.1.2.1
  have hb := hQ.2.2.1.2.2.2
  have hS : ShM μ1 := hQ.sh hS1
  dsimp only at hw hb
  have hle : s.1 ≤ e := hI.1
  have hI0 : IV e k (tBs ws0.length ((cs0, ws0, op0, bs0), s)) := ⟨hI.1, by have := hI.2.2.1; dsimp only [tln] at this; show ws0.length < 1700; omega, hI.2.2.1, hI.2.2.2⟩
  refine C.aload_n dX13_qSums_0 0 rfl ?_
  refine C.getI fX13_364 dX13_qSums_1 hS.o ?_
  rw [hb]
  refine C.istore_n (lv' := [(0, _), (1, _)]) dX13_qSums_4 (nLt hX rfl) rfl ?_
  refine C.aload_n dX13_qSums_5 0 rfl ?_
  refine C.aload_n dX13_qSums_6 0 rfl ?_
  refine C.getI fX13_358 dX13_qSums_7 hS.o ?_
  rw [hw]
  refine C.putI fX13_364 (Or.inl rfl) dX13_qSums_10 hS.o ?_
  refine C.iconst (nI 1) dX13_qSums_13 (by decide) ?_
  refine C.istore_n (lv' := [(0, _), (1, _), (2, _)]) dX13_qSums_14 (nLt hX rfl) rfl ?_
  exact loop (e + 2 - s.1) (tBs ws0.length ((cs0, ws0, op0, bs0), s)) _ hI0 hz (hQ.base ws0.length) (by show e + 1 - s.1 < _; omega) hK
end KMQ6
