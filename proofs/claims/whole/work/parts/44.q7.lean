/-! the reference: tests -/

abbrev wAll : List Nat := [97, 108, 108]
abbrev wNot : List Nat := [110, 111, 116]
abbrev wAnd : List Nat := [97, 110, 100]
abbrev wOr : List Nat := [111, 114]
def cmpS (c : Int32) : Bool := decide (c = nI 60) || decide (c = nI 62) || decide (c = nI 61)
def cmpC (c : Int32) : Int32 := if c = nI 60 then nI 7 else if c = nI 62 then nI 8 else nI 9
def tCode (v : Int32) (t : Tt) : Tt := ((t.1.1 ++ [v], t.1.2), t.2)
/-- behind the first sum -/
def fCmp (tx : Nat → Nat) (e : Nat) (tk : Int32) (t : Tt) : Tt := if cmpS (chr tx e (sk tx e t.2.1)) then tCode (cmpC (chr tx e (sk tx e t.2.1))) (sSums tx e tk (t.1, (sk tx e t.2.1 + 1, t.2.2))) else (t.1, mFail (mLook tx e t.2) (nI 1) (nI (sk tx e t.2.1)))
def fFact (tx : Nat → Nat) (e : Nat) (tk : Int32) (t : Tt) : Tt :=
  if (mTakes tx e t.2 wAll).1 then tCode (nI 13) (t.1, (mTakes tx e t.2 wAll).2)
  else if (sSums tx e tk (t.1, (mTakes tx e t.2 wAll).2)).2.2.2.1 = 0 then fCmp tx e tk (sSums tx e tk (t.1, (mTakes tx e t.2 wAll).2)) else sSums tx e tk (t.1, (mTakes tx e t.2 wAll).2)
def qNot (t : Tt) : Tt := if t.2.2.2.1 = 0 then (((qNots t.1.1 t.1.2.1 t.1.2.2.1).1, (qNots t.1.1 t.1.2.1 t.1.2.2.1).2.1, (qNots t.1.1 t.1.2.1 t.1.2.2.1).2.2, t.1.2.2.2), t.2) else t
def sqS (w : Int32) : Bool := !decide (w = nI 25)
def andS (w : Int32) : Bool := decide (w = nI 10)
def orS (w : Int32) : Bool := decide (w = nI 10) || decide (w = nI 11)
def gCT (tx : Nat → Nat) (e : Nat) : Nat → Tt → Tt
  | 0, t => (t.1, mLook tx e t.2)
  | n + 1, t => if chr tx e (sk tx e t.2.1) = nI 93 ∧ nI 25 ∈ t.1.2.1 then gCT tx e n (qNot (((qTop sqS t.1.1 t.1.2.1).1, (qTop sqS t.1.1 t.1.2.1).2.tail, t.1.2.2.1 - nI 1, t.1.2.2.2), (sk tx e t.2.1 + 1, t.2.2))) else (t.1, mLook tx e t.2)
def gOr (tx : Nat → Nat) (e : Nat) (t : Tt) : Bool × Tt :=
  if (mTakes tx e t.2 wOr).1 then (true, (((qTop orS t.1.1 t.1.2.1).1, nI 11 :: (qTop orS t.1.1 t.1.2.1).2, t.1.2.2), (mTakes tx e t.2 wOr).2))
  else if nI 25 ∈ t.1.2.1 then (false, (t.1, mFail (mTakes tx e t.2 wOr).2 (nI 1) (nI (mTakes tx e t.2 wOr).2.1))) else (false, (t.1, (mTakes tx e t.2 wOr).2))
def gAnd (tx : Nat → Nat) (e : Nat) (t : Tt) : Bool × Tt :=
  if (mTakes tx e t.2 wAnd).1 then (true, (((qTop andS t.1.1 t.1.2.1).1, nI 10 :: (qTop andS t.1.1 t.1.2.1).2, t.1.2.2), (mTakes tx e t.2 wAnd).2))
  else gOr tx e (t.1, (mTakes tx e t.2 wAnd).2)
def gOnT (tx : Nat → Nat) (e : Nat) (t : Tt) : Bool × Tt := gAnd tx e (gCT tx e (e + 1 - t.2.1) t)
def tTry (tx : Nat → Nat) (e : Nat) (tk : Int32) (t : Tt) : Bool × Tt :=
  if (qNot (fFact tx e tk t)).2.2.2.1 = 0 then gOnT tx e (qNot (fFact tx e tk t)) else (false, qNot (fFact tx e tk t))
def tLoop (tx : Nat → Nat) (e : Nat) (tk : Int32) : Nat → Tt → Tt
  | 0, t => t
  | n + 1, t => if t.2.2.2.1 = 0 then (
      if chr tx e (sk tx e t.2.1) = nI 91 then tLoop tx e tk n ((opn (nI 25) (nI (sk tx e t.2.1)) (t.1, mLook tx e t.2)).1, (sk tx e t.2.1 + 1, (opn (nI 25) (nI (sk tx e t.2.1)) (t.1, mLook tx e t.2)).2.2))
      else if hereW tx e (sk tx e t.2.1) t.2.2.1 wNot = true then tLoop tx e tk n ((opn (nI 12) (nI (sk tx e t.2.1)) (t.1, mLook tx e t.2)).1, mAsks tx e (opn (nI 12) (nI (sk tx e t.2.1)) (t.1, mLook tx e t.2)).2 wNot)
      else if (tTry tx e tk (t.1, mLook tx e t.2)).1 then tLoop tx e tk n (tTry tx e tk (t.1, mLook tx e t.2)).2 else (tTry tx e tk (t.1, mLook tx e t.2)).2) else t
def tTest (tx : Nat → Nat) (e : Nat) (tk : Int32) (t : Tt) : Tt :=
  let u := tLoop tx e tk (e + 2 - t.2.1) t
  if u.2.2.2.1 = 0 then (((qAllD u.1.1 u.1.2.1 0).1, (qAllD u.1.1 u.1.2.1 0).2, u.1.2.2), u.2) else u
section TIV
variable {tx : Nat → Nat} {e k : Nat} {tk : Int32} {t : Tt}
theorem mLook_iv (h : IV e k t) : IV e k (t.1, mLook tx e t.2) ∧ ST e t (t.1, mLook tx e t.2) := by
  have h1 := sk_le (tx := tx) h.1
  exact ⟨⟨h1.2, h.2.1, h.2.2.1, fun hb => by have := h.2.2.2 hb; show tln t + k ≤ sk tx e t.2.1; omega⟩, ⟨h1.2, rfl, h1.1⟩⟩
theorem mTakes_iv (ws : List Nat) (h : IV e k t) : IV e k (t.1, (mTakes tx e t.2 ws).2) ∧ ST e t (t.1, (mTakes tx e t.2 ws).2) := by
  have g1 := mTakes_ge (tx := tx) t.2 ws h.1
  have g2 := mTakes_le (tx := tx) (s := t.2) ws h.1
  exact ⟨⟨g2, h.2.1, h.2.2.1, fun hb => by have := h.2.2.2 (by rw [← mTakes_bad (tx := tx) (e := e) t.2 ws]; exact hb); show tln t + k ≤ (mTakes tx e t.2 ws).2.1; omega⟩, ⟨g2, rfl, g1⟩⟩
/-- the weaker bound, behind a code told with a fault -/
def IW (e k : Nat) (t : Tt) : Prop := t.2.1 ≤ e ∧ t.1.2.2.2 < 1700 ∧ tln t ≤ e + 4 ∧ (t.2.2.2.1 = 0 → tln t + k ≤ t.2.1)
theorem IV.w (h : IV e k t) : IW e k t := ⟨h.1, h.2.1, by have := h.2.2.1; omega, fun hb => by have := h.2.2.2 hb; omega⟩
theorem IW.v (h : IW e k t) (hz : t.2.2.2.1 = 0) : IV e k t := ⟨h.1, h.2.1, by have := h.2.2.2 hz; have := h.1; omega, h.2.2.2⟩
theorem fCmp_iv (he : e ≤ 1600) (hz : t.2.2.2.1 = 0) (h : IV e k t) : IW e k (fCmp tx e tk t) ∧ ST e t (fCmp tx e tk t) := by
  have h1 := sk_le (tx := tx) h.1
  obtain ⟨g1, g2, g3, g4⟩ := h
  have hl := g4 hz
  unfold fCmp
  split
  · rename_i hc
    have hlt : sk tx e t.2.1 < e := by
      unfold cmpS chr at hc
      split at hc
      · assumption
      · exact absurd hc (by decide)
    obtain ⟨a1, ⟨a2, a3, a4⟩, a5⟩ := sSums_iv (tx := tx) (tk := tk) (k := k + 1) (t := (t.1, (sk tx e t.2.1 + 1, t.2.2))) he hz ⟨by dsimp only; omega, g2, g3, fun _ => by dsimp only [tln] at hl ⊢; omega⟩
    generalize sSums tx e tk (t.1, (sk tx e t.2.1 + 1, t.2.2)) = u at a1 a2 a3 a4 a5 ⊢
    dsimp only at a4 a5
    have a6 := a1.2.2.1
    refine ⟨⟨a2, by unfold tCode; exact a1.2.1, by unfold tCode; dsimp only [tln] at a6 ⊢; simp; omega, fun hb => ?_⟩, ⟨a2, by unfold tCode; exact a3, by unfold tCode; dsimp only; omega⟩⟩
    have b1 := a1.2.2.2 hb
    unfold tCode
    dsimp only [tln] at b1 ⊢
    simp
    omega
  · exact ⟨⟨by rw [mFail_1]; exact h1.2, g2, by dsimp only [tln] at g3 ⊢; omega, fun h => absurd h (mFail_0 _ _ _ (by decide))⟩, ⟨by rw [mFail_1]; exact h1.2, rfl, by rw [mFail_1]; exact h1.1⟩⟩
theorem fFact_iv (he : e ≤ 1600) (hz : t.2.2.2.1 = 0) (h : IV e k t) : IW e k (fFact tx e tk t) ∧ ST e t (fFact tx e tk t) ∧ ((fFact tx e tk t).2.2.2.1 = 0 → t.2.1 + 1 ≤ (fFact tx e tk t).2.1) := by
  obtain ⟨m1, m2, m3, m4⟩ := mTakes_iv (tx := tx) wAll h
  have mb := mTakes_bad (tx := tx) (e := e) t.2 wAll
  dsimp only at m2 m4
  unfold fFact
  split
  · rename_i hb
    have ha := mTakes_adv t.2 wAll h.1 hb
    simp only [List.length_cons, List.length_nil] at ha
    have hl := h.2.2.2 hz
    unfold tCode
    exact ⟨⟨m2, h.2.1, by have := h.2.2.1; dsimp only [tln] at this ⊢; simp; omega, fun _ => by dsimp only [tln] at hl ⊢; simp; omega⟩, ⟨m2, rfl, m4⟩, fun _ => by dsimp only; omega⟩
  · obtain ⟨a1, ⟨a2, a3, a4⟩, a5⟩ := sSums_iv (tx := tx) (tk := tk) he (by dsimp only; rw [mb]; exact hz) m1
    generalize sSums tx e tk (t.1, (mTakes tx e t.2 wAll).2) = u at a1 a2 a3 a4 a5 ⊢
    dsimp only at a3 a4 a5
    split
    · rename_i hb
      obtain ⟨b1, b2, b3, b4⟩ := fCmp_iv (tx := tx) (tk := tk) he hb a1
      have := a5 hb
      exact ⟨b1, ⟨b2, by rw [b3, a3], by omega⟩, fun _ => by omega⟩
    · rename_i hb
      exact ⟨a1.w, ⟨a2, a3, by omega⟩, fun h => absurd h hb⟩
theorem qNot_2 (t : Tt) : (qNot t).2 = t.2 ∧ (qNot t).1.2.2.2 = t.1.2.2.2 ∧ tln (qNot t) = tln t := by
  unfold qNot
  split
  · exact ⟨rfl, rfl, qNots_len _ _ _⟩
  · exact ⟨rfl, rfl, rfl⟩
theorem qNot_iw (h : IW e k t) : IW e k (qNot t) := by
  obtain ⟨a, b, c⟩ := qNot_2 t
  exact ⟨by rw [a]; exact h.1, by rw [b]; exact h.2.1, by rw [c]; exact h.2.2.1, by rw [a, c]; exact h.2.2.2⟩
theorem qNot_iv (h : IV e k t) : IV e k (qNot t) := by
  obtain ⟨a, b, c⟩ := qNot_2 t
  exact ⟨by rw [a]; exact h.1, by rw [b]; exact h.2.1, by rw [c]; exact h.2.2.1, by rw [a, c]; exact h.2.2.2⟩
theorem qTop_sq : ∀ (ws cs : List Int32), nI 25 ∈ ws → ∃ cs' ws', qTop sqS cs ws = (cs', nI 25 :: ws')
  | [], cs, h => by cases h
  | w :: ws, cs, h => by
    unfold qTop
    by_cases hw : w = nI 25
    · rw [if_neg (by simp [sqS, hw])]
      exact ⟨cs, ws, by rw [hw]⟩
    · rw [if_pos (by simp [sqS, hw])]
      exact qTop_sq ws _ ((List.mem_cons.mp h).resolve_left (fun q => hw q.symm))
theorem gCT_iv : ∀ (n : Nat) (t : Tt), IV e k t → IV e k (gCT tx e n t) ∧ ST e t (gCT tx e n t) ∧ (gCT tx e n t).2.2.2.1 = t.2.2.2.1
  | 0, t, h => ⟨(mLook_iv h).1, (mLook_iv h).2, rfl⟩
  | n + 1, t, h => by
    have h1 := sk_le (tx := tx) h.1
    unfold gCT
    split
    · rename_i hc
      have hlt := chr_lt hc.1 (by decide)
      obtain ⟨cs', ws', hd⟩ := qTop_sq t.1.2.1 t.1.1 hc.2
      have hln := qTop_len sqS t.1.2.1 t.1.1
      rw [hd] at hln ⊢
      simp only [List.length_cons] at hln
      have c1 : IV e k ((cs', ws', t.1.2.2.1 - nI 1, t.1.2.2.2), (sk tx e t.2.1 + 1, t.2.2)) := ⟨by dsimp only; omega, h.2.1, by have := h.2.2.1; dsimp only [tln] at this ⊢; omega, fun hb => by have := h.2.2.2 hb; dsimp only [tln] at this ⊢; omega⟩
      obtain ⟨q1, q2, q3⟩ := qNot_2 ((cs', ws', t.1.2.2.1 - nI 1, t.1.2.2.2), (sk tx e t.2.1 + 1, t.2.2))
      obtain ⟨b1, ⟨b2, b3, b4⟩, b5⟩ := gCT_iv n _ (qNot_iv c1)
      simp only [List.tail_cons]
      generalize qNot ((cs', ws', t.1.2.2.1 - nI 1, t.1.2.2.2), (sk tx e t.2.1 + 1, t.2.2)) = u at q1 q2 q3 b1 b2 b3 b4 b5 ⊢
      exact ⟨b1, ⟨b2, by rw [b3, q2], by rw [q1] at b4; dsimp only at b4; omega⟩, by rw [b5, q1]⟩
    · exact ⟨(mLook_iv h).1, (mLook_iv h).2, rfl⟩
theorem gOr_iv (hz : t.2.2.2.1 = 0) (h : IV e k t) : IV e k (gOr tx e t).2 ∧ ST e t (gOr tx e t).2 ∧ ((gOr tx e t).1 = true → (gOr tx e t).2.2.2.2.1 = 0) := by
  obtain ⟨m1, m2, m3, m4⟩ := mTakes_iv (tx := tx) wOr h
  have mb := mTakes_bad (tx := tx) (e := e) t.2 wOr
  have hl := h.2.2.2 hz
  dsimp only at m2 m4
  unfold gOr
  split
  · rename_i hb
    have ha := mTakes_adv t.2 wOr h.1 hb
    simp only [List.length_cons, List.length_nil] at ha
    have hq := qTop_len orS t.1.2.1 t.1.1
    exact ⟨⟨m2, h.2.1, by dsimp only [tln, List.length_cons] at hl ⊢; omega, fun _ => by dsimp only [tln, List.length_cons] at hl ⊢; omega⟩, ⟨m2, rfl, m4⟩, fun _ => by dsimp only; rw [mb]; exact hz⟩
  · split
    · exact ⟨⟨by rw [mFail_1]; exact m2, h.2.1, h.2.2.1, fun h => absurd h (mFail_0 _ _ _ (by decide))⟩, ⟨by rw [mFail_1]; exact m2, rfl, by rw [mFail_1]; exact m4⟩, fun h => by cases h⟩
    · exact ⟨m1, ⟨m2, m3, m4⟩, fun h => by cases h⟩
theorem gAnd_iv (hz : t.2.2.2.1 = 0) (h : IV e k t) : IV e k (gAnd tx e t).2 ∧ ST e t (gAnd tx e t).2 ∧ ((gAnd tx e t).1 = true → (gAnd tx e t).2.2.2.2.1 = 0) := by
  obtain ⟨m1, m2, m3, m4⟩ := mTakes_iv (tx := tx) wAnd h
  have mb := mTakes_bad (tx := tx) (e := e) t.2 wAnd
  have hl := h.2.2.2 hz
  dsimp only at m2 m4
  unfold gAnd
  split
  · rename_i hb
    have ha := mTakes_adv t.2 wAnd h.1 hb
    simp only [List.length_cons, List.length_nil] at ha
    have hq := qTop_len andS t.1.2.1 t.1.1
    exact ⟨⟨m2, h.2.1, by dsimp only [tln, List.length_cons] at hl ⊢; omega, fun _ => by dsimp only [tln, List.length_cons] at hl ⊢; omega⟩, ⟨m2, rfl, m4⟩, fun _ => by dsimp only; rw [mb]; exact hz⟩
  · obtain ⟨b1, ⟨b2, b3, b4⟩, b5⟩ := gOr_iv (tx := tx) (t := (t.1, (mTakes tx e t.2 wAnd).2)) (by dsimp only; rw [mb]; exact hz) m1
    exact ⟨b1, ⟨b2, b3, by dsimp only at b4; omega⟩, b5⟩
theorem gOnT_iv (hz : t.2.2.2.1 = 0) (h : IV e k t) : IV e k (gOnT tx e t).2 ∧ ST e t (gOnT tx e t).2 ∧ ((gOnT tx e t).1 = true → (gOnT tx e t).2.2.2.2.1 = 0) := by
  obtain ⟨a1, ⟨a2, a3, a4⟩, a5⟩ := gCT_iv (tx := tx) (e + 1 - t.2.1) t h
  obtain ⟨b1, ⟨b2, b3, b4⟩, b5⟩ := gAnd_iv (tx := tx) (t := gCT tx e (e + 1 - t.2.1) t) (by rw [a5]; exact hz) a1
  exact ⟨b1, ⟨b2, by rw [← a3]; exact b3, Nat.le_trans a4 b4⟩, b5⟩
theorem tTry_iv (he : e ≤ 1600) (hz : t.2.2.2.1 = 0) (h : IV e k t) : IW e k (tTry tx e tk t).2 ∧ ST e t (tTry tx e tk t).2 ∧ ((tTry tx e tk t).1 = true → (tTry tx e tk t).2.2.2.2.1 = 0) ∧ ((tTry tx e tk t).2.2.2.2.1 = 0 → t.2.1 + 1 ≤ (tTry tx e tk t).2.2.1) := by
  obtain ⟨a1, ⟨a2, a3, a4⟩, a5⟩ := fFact_iv (tx := tx) (tk := tk) he hz h
  obtain ⟨q1, q2, q3⟩ := qNot_2 (fFact tx e tk t)
  have a6 := qNot_iw a1
  unfold tTry
  generalize qNot (fFact tx e tk t) = u at q1 q2 q3 a6 ⊢
  generalize fFact tx e tk t = v at a1 a2 a3 a4 a5 q1 q2 q3
  split
  · rename_i hb
    obtain ⟨b1, ⟨b2, b3, b4⟩, b5⟩ := gOnT_iv (tx := tx) hb (a6.v hb)
    rw [q1] at b4 hb
    have := a5 hb
    exact ⟨b1.w, ⟨b2, by rw [b3, q2, a3], by omega⟩, b5, fun _ => by omega⟩
  · rename_i hb
    exact ⟨a6, ⟨a6.1, by rw [q2, a3], by rw [q1]; exact a4⟩, (fun h => by cases h), fun h => absurd h hb⟩
theorem tLoop_iv (he : e ≤ 1600) : ∀ (n : Nat) (t : Tt), IW e k t → IW e k (tLoop tx e tk n t) ∧ ST e t (tLoop tx e tk n t)
  | 0, t, h => ⟨h, h.1, rfl, Nat.le_refl _⟩
  | n + 1, t, h => by
    unfold tLoop
    split
    · rename_i hz
      have hv := h.v hz
      obtain ⟨l1, l2, l3, l4⟩ := mLook_iv (tx := tx) hv
      have hl := hv.2.2.2 hz
      dsimp only at l2 l4
      have hsk : (mLook tx e t.2).1 = sk tx e t.2.1 := rfl
      split
      · rename_i hc
        have hlt := chr_lt hc (by decide)
        have o := opn_len (nI 25) (nI (sk tx e t.2.1)) (t.1, mLook tx e t.2)
        have o1 := opn_1 (nI 25) (nI (sk tx e t.2.1)) (t.1, mLook tx e t.2)
        generalize opn (nI 25) (nI (sk tx e t.2.1)) (t.1, mLook tx e t.2) = u at o o1 ⊢
        dsimp only at o o1
        obtain ⟨b1, b2, b3, b4⟩ := tLoop_iv he n (u.1, (sk tx e t.2.1 + 1, u.2.2)) ⟨by dsimp only; omega, by dsimp only; rw [o.2]; exact h.2.1, by dsimp only [tln] at hl ⊢; omega, fun _ => by dsimp only [tln] at hl ⊢; omega⟩
        exact ⟨b1, b2, by rw [b3]; exact o.2, by dsimp only at b4; omega⟩
      · split
        · have o := opn_len (nI 12) (nI (sk tx e t.2.1)) (t.1, mLook tx e t.2)
          have o1 := opn_1 (nI 12) (nI (sk tx e t.2.1)) (t.1, mLook tx e t.2)
          generalize opn (nI 12) (nI (sk tx e t.2.1)) (t.1, mLook tx e t.2) = u at o o1 ⊢
          dsimp only at o o1
          have hu : u.2.1 ≤ e := by omega
          have g1 := mAsks_ge (tx := tx) u.2 wNot hu
          have g2 := mAsks_le (tx := tx) (s := u.2) wNot hu
          obtain ⟨b1, b2, b3, b4⟩ := tLoop_iv he n (u.1, mAsks tx e u.2 wNot) ⟨g2, by dsimp only; rw [o.2]; exact h.2.1, by dsimp only [tln] at hl ⊢; omega, fun hb => by have := mAsks_adv u.2 wNot hu (by decide) hb; dsimp only [tln] at hl ⊢; omega⟩
          exact ⟨b1, b2, by rw [b3]; exact o.2, by dsimp only at b4; omega⟩
        · obtain ⟨a1, ⟨a2, a3, a4⟩, a5, a6⟩ := tTry_iv (tx := tx) (tk := tk) (t := (t.1, mLook tx e t.2)) he hz l1
          generalize tTry tx e tk (t.1, mLook tx e t.2) = u at a1 a2 a3 a4 a5 a6 ⊢
          dsimp only at a3 a4
          split
          · obtain ⟨b1, b2, b3, b4⟩ := tLoop_iv he n u.2 a1
            exact ⟨b1, b2, by rw [b3, a3], by omega⟩
          · exact ⟨a1, a2, a3, by omega⟩
    · exact ⟨h, h.1, rfl, Nat.le_refl _⟩
end TIV
section KMQ7
variable {l : Launch} {G : Gm} {μ μ1 : Mm} {q : Qt} {s : Ps} {tx : Nat → Nat} {e k : Nat}
theorem kq_sums' {t : Tt} (hS : ShM μ) (hW : WdM μ) (hT : TxM μ tx e) {tk : Int32} (htk : mI μ 179 58 = tk) (hQ : QM μ μ1 t.1 t.2) (hz : t.2.2.2.1 = 0) (hI : IV e k t) : AMet l G 6 0 0 mtX13_qSums [.ref (G.1 + 179)] μ1 (qV (fun μ' => QM μ μ' (sSums tx e tk t).1 (sSums tx e tk t).2)) := by
  have h := kq_sums (l := l) (G := G) hS hW hT hQ hz hI
  rw [htk] at h
  exact h
theorem kq_nots {t : Tt} (hS : ShM μ) (hQ : QM μ μ1 t.1 t.2) (hl : tln t < 1690) : AMet l G 2 0 0 mtX13_qDropsNots [.ref (G.1 + 179)] μ1 (qV (fun μ' => QM μ μ' (qNot t).1 (qNot t).2)) :=
  (kq_qNots hS hQ (by dsimp only [tln] at hl; omega)).monoV (fun μ' h => by
    unfold qNot
    split at h
    · rename_i hb
      rw [if_pos hb]; exact h
    · rename_i hb
      rw [if_neg hb]; exact h)
theorem cmpS_lt {p : Nat} (h : cmpS (chr tx e p) = true) : p < e := by
  unfold cmpS chr at h
  split at h
  · assumption
  · exact absurd h (by decide)
theorem kq_fact {t : Tt} (hS : ShM μ) (hW : WdM μ) (hT : TxM μ tx e) {tk : Int32} (htk : mI μ 179 58 = tk) (hQ : QM μ μ1 t.1 t.2) (hz : t.2.2.2.1 = 0) (hI : IV e k t) : AMet l G 7 0 0 mtX13_qFact [.ref (G.1 + 179)] μ1 (qV (fun μ' => QM μ μ' (fFact tx e tk t).1 (fFact tx e tk t).2)) := by
  refine AMet.of (by decide) (Nat.le_of_ble_eq_true rfl) (fun X C hX hnm hq => ?_)
  have hS1 := hS
  have he := hT.2.1
  generalize hK : fFact tx e tk t = K at hq
  unfold fFact at hK
  obtain ⟨m1, m2, m3, m4⟩ := mTakes_iv (tx := tx) wAll hI
  have mb := mTakes_bad (tx := tx) (e := e) t.2 wAll
  dsimp only at m2 m4
  have hS : ShM μ1 := hQ.sh hS1
  have m63 : ∀ (u : Tt) (μ1 : Mm), IV e k u → u.2.2.2.1 = 0 → QM μ μ1 u.1 (mLook tx e u.2) → cmpS (chr tx e (sk tx e u.2.1)) = true → fCmp tx e tk u = K → AW l G X 0 0 63 [(0, .ref (G.1 + 179)), (1, .int (chr tx e (sk tx e u.2.1)))] [] μ1 := by
    intro u μ1 hI hz hQ hc hk
    have hlt := cmpS_lt hc
    have h1 := sk_le (tx := tx) hI.1
    have hl := hI.2.2.2 hz
    have hS : ShM μ1 := hQ.sh hS1
    have hat : mI μ1 179 2 = nI (sk tx e u.2.1) := hQ.2.1.1
    have hQ2 := hQ.at (sk tx e u.2.1 + 1)
    unfold fCmp at hk
    rw [if_pos hc] at hk
    have hI2 : IV e (k + 1) (u.1, (sk tx e u.2.1 + 1, u.2.2)) := ⟨by dsimp only; omega, hI.2.1, hI.2.2.1, fun _ => by dsimp only [tln] at hl ⊢; omega⟩
    obtain ⟨a1, ⟨a2, a3, a4⟩, a5⟩ := sSums_iv (tx := tx) (tk := tk) he (t := (u.1, (sk tx e u.2.1 + 1, u.2.2))) hz hI2
    have a6 := a1.2.2.1
    dsimp only [tln] at a6
    generalize hch : chr tx e (sk tx e u.2.1) = c at hk
    unfold cmpC at hk
    refine C.aload_n dX13_qFact_63 0 rfl ?_
    refine C.dup dX13_qFact_64 rfl ?_
    refine C.getI fX13_270 dX13_qFact_65 hS.o ?_
    rw [hat]
    refine C.iconst (nI 1) dX13_qFact_68 (by decide) ?_
    refine C.iadd dX13_qFact_69 ?_
    rw [nI_add]
    refine C.putI fX13_270 (Or.inl rfl) dX13_qFact_70 hS.o ?_
    refine C.aload_n dX13_qFact_73 0 rfl ?_
    refine C.callVV lX13_370 dX13_qFact_74 (kq_sums' (t := (u.1, (sk tx e u.2.1 + 1, u.2.2))) hS1 hW hT htk hQ2 hz hI2) hS.o rfl rfl (Nat.le_of_ble_eq_true rfl) (Nat.zero_le _) (Nat.zero_le _) (Nat.le_of_ble_eq_true rfl) (fun μ74 h74 => ?_)
    generalize sSums tx e tk (u.1, (sk tx e u.2.1 + 1, u.2.2)) = v at hk h74 a6
    have hS : ShM μ74 := h74.sh hS1
    refine C.aload_n dX13_qFact_77 0 rfl ?_
    refine C.iload_n dX13_qFact_78 1 rfl ?_
    refine C.bipush (nI 60) dX13_qFact_79 (by decide) ?_
    refine C.icmp_ne 89 dX13_qFact_81 rfl (fun hc81 => ?_) (fun hc81 => ?_)
    · rw [if_neg hc81] at hk
      refine C.iload_n dX13_qFact_89 1 rfl ?_
      refine C.bipush (nI 62) dX13_qFact_90 (by decide) ?_
      refine C.icmp_ne 100 dX13_qFact_92 rfl (fun hc92 => ?_) (fun hc92 => ?_)
      · rw [if_neg hc92] at hk
        refine C.bipush (nI 9) dX13_qFact_100 (by decide) ?_
        refine C.callVV lX13_608 dX13_qFact_102 (kq_qCode hS1 h74 (by omega) _) hS.o rfl rfl (Nat.le_of_ble_eq_true rfl) (Nat.zero_le _) (Nat.zero_le _) (Nat.le_of_ble_eq_true rfl) (fun μ102 h102 => ?_)
        refine C.vret hq dX13_qFact_105 ?_
        rw [← hk]
        exact h102
      · rw [if_pos hc92] at hk
        refine C.bipush (nI 8) dX13_qFact_95 (by decide) ?_
        refine C.goto 102 dX13_qFact_97 rfl ?_
        refine C.callVV lX13_608 dX13_qFact_102 (kq_qCode hS1 h74 (by omega) _) hS.o rfl rfl (Nat.le_of_ble_eq_true rfl) (Nat.zero_le _) (Nat.zero_le _) (Nat.le_of_ble_eq_true rfl) (fun μ102 h102 => ?_)
        refine C.vret hq dX13_qFact_105 ?_
        rw [← hk]
        exact h102
    · rw [if_pos hc81] at hk
      refine C.bipush (nI 7) dX13_qFact_84 (by decide) ?_
      refine C.goto 102 dX13_qFact_86 rfl ?_
      refine C.callVV lX13_608 dX13_qFact_102 (kq_qCode hS1 h74 (by omega) _) hS.o rfl rfl (Nat.le_of_ble_eq_true rfl) (Nat.zero_le _) (Nat.zero_le _) (Nat.le_of_ble_eq_true rfl) (fun μ102 h102 => ?_)
      refine C.vret hq dX13_qFact_105 ?_
      rw [← hk]
      exact h102
  by_cases ht : (mTakes tx e t.2 wAll).1 = true
  · rw [if_pos ht] at hK
    refine C.aload_n dX13_qFact_0 0 rfl ?_
    refine C.aload_n dX13_qFact_1 0 rfl ?_
    refine C.getA fX13_210 dX13_qFact_2 hS.o hS.r88 ?_
    refine C.callVI lX13_291 dX13_qFact_5 (kq_takes hS1 hW hT hQ hI.1 (List.mem_of_getElem? (l := wdT) (i := 42) rfl)) hS.o rfl rfl (Nat.le_of_ble_eq_true rfl) (Nat.zero_le _) (Nat.zero_le _) (Nat.le_of_ble_eq_true rfl) (fun x5 μ5 h5 => ?_)
    obtain ⟨rfl, hQ2⟩ := h5
    have hS : ShM μ5 := hQ2.sh hS1
    refine C.if_eq 18 dX13_qFact_8 rfl (fun hc8 => ?_) (fun hc8 => ?_)
    · rw [ht] at hc8; exact absurd hc8 (by decide)
    · refine C.aload_n dX13_qFact_11 0 rfl ?_
      refine C.bipush (nI 13) dX13_qFact_12 (by decide) ?_
      refine C.callVV lX13_608 dX13_qFact_14 (kq_qCode hS1 hQ2 (by have := hI.2.2.1; dsimp only [tln] at this; omega) _) hS.o rfl rfl (Nat.le_of_ble_eq_true rfl) (Nat.zero_le _) (Nat.zero_le _) (Nat.le_of_ble_eq_true rfl) (fun μ14 h14 => ?_)
      refine C.vret hq dX13_qFact_17 ?_
      rw [← hK]
      exact h14
  · rw [if_neg ht] at hK
    obtain ⟨a1, ⟨a2, a3, a4⟩, a5⟩ := sSums_iv (tx := tx) (tk := tk) he (by dsimp only; rw [mb]; exact hz) m1
    have hz2 : ((t.1, (mTakes tx e t.2 wAll).2) : Tt).2.2.2.1 = 0 := by dsimp only; rw [mb]; exact hz
    refine C.aload_n dX13_qFact_0 0 rfl ?_
    refine C.aload_n dX13_qFact_1 0 rfl ?_
    refine C.getA fX13_210 dX13_qFact_2 hS.o hS.r88 ?_
    refine C.callVI lX13_291 dX13_qFact_5 (kq_takes hS1 hW hT hQ hI.1 (List.mem_of_getElem? (l := wdT) (i := 42) rfl)) hS.o rfl rfl (Nat.le_of_ble_eq_true rfl) (Nat.zero_le _) (Nat.zero_le _) (Nat.le_of_ble_eq_true rfl) (fun x5 μ5 h5 => ?_)
    obtain ⟨rfl, hQ2⟩ := h5
    have hS : ShM μ5 := hQ2.sh hS1
    refine C.if_eq 18 dX13_qFact_8 rfl (fun hc8 => ?_) (fun hc8 => ?_)
    · refine C.aload_n dX13_qFact_18 0 rfl ?_
      refine C.callVV lX13_370 dX13_qFact_19 (kq_sums' (t := (t.1, (mTakes tx e t.2 wAll).2)) hS1 hW hT htk hQ2 hz2 m1) hS.o rfl rfl (Nat.le_of_ble_eq_true rfl) (Nat.zero_le _) (Nat.zero_le _) (Nat.le_of_ble_eq_true rfl) (fun μ19 h19 => ?_)
      generalize sSums tx e tk (t.1, (mTakes tx e t.2 wAll).2) = v at hK h19 a1 a2 a3 a4 a5
      have hS : ShM μ19 := h19.sh hS1
      refine C.aload_n dX13_qFact_22 0 rfl ?_
      refine C.getI fX13_264 dX13_qFact_23 hS.o ?_
      rw [h19.2.1.2.2.1]
      refine C.if_eq 30 dX13_qFact_26 rfl (fun hc26 => ?_) (fun hc26 => ?_)
      · rw [if_pos hc26] at hK
        refine C.aload_n dX13_qFact_30 0 rfl ?_
        refine C.callVI lX13_276 dX13_qFact_31 (kq_look hS1 hT h19 a1.1) hS.o rfl rfl (Nat.le_of_ble_eq_true rfl) (Nat.zero_le _) (Nat.zero_le _) (Nat.le_of_ble_eq_true rfl) (fun x31 μ31 h31 => ?_)
        obtain ⟨rfl, hQ3⟩ := h31
        have hS : ShM μ31 := hQ3.sh hS1
        refine C.istore_n (lv' := [(0, _), (1, _)]) dX13_qFact_34 (nLt hX rfl) rfl ?_
        refine C.iload_n dX13_qFact_35 1 rfl ?_
        refine C.bipush (nI 60) dX13_qFact_36 (by decide) ?_
        refine C.icmp_eq 63 dX13_qFact_38 rfl (fun hc38 => ?_) (fun hc38 => ?_)
        · exact m63 v _ a1 hc26 hQ3 (by simp [cmpS, hc38]) hK
        · refine C.iload_n dX13_qFact_41 1 rfl ?_
          refine C.bipush (nI 62) dX13_qFact_42 (by decide) ?_
          refine C.icmp_eq 63 dX13_qFact_44 rfl (fun hc44 => ?_) (fun hc44 => ?_)
          · exact m63 v _ a1 hc26 hQ3 (by simp [cmpS, hc44]) hK
          · refine C.iload_n dX13_qFact_47 1 rfl ?_
            refine C.bipush (nI 61) dX13_qFact_48 (by decide) ?_
            refine C.icmp_eq 63 dX13_qFact_50 rfl (fun hc50 => ?_) (fun hc50 => ?_)
            · exact m63 v _ a1 hc26 hQ3 (by simp [cmpS, hc50]) hK
            · have hn : ¬ cmpS (chr tx e (sk tx e v.2.1)) = true := by simp [cmpS, hc38, hc44, hc50]
              unfold fCmp at hK
              rw [if_neg hn] at hK
              refine C.aload_n dX13_qFact_53 0 rfl ?_
              refine C.iconst (nI 1) dX13_qFact_54 (by decide) ?_
              refine C.aload_n dX13_qFact_55 0 rfl ?_
              refine C.getI fX13_270 dX13_qFact_56 hS.o ?_
              rw [show mI μ31 179 2 = nI (sk tx e v.2.1) from hQ3.2.1.1]
              refine C.callVV lX13_294 dX13_qFact_59 (kq_fail hS1 hQ3 _ _) hS.o rfl rfl (Nat.le_of_ble_eq_true rfl) (Nat.zero_le _) (Nat.zero_le _) (Nat.le_of_ble_eq_true rfl) (fun μ59 h59 => ?_)
              refine C.vret hq dX13_qFact_62 ?_
              rw [← hK]
              exact h59
      · rw [if_neg hc26] at hK
        refine C.vret hq dX13_qFact_29 ?_
        rw [← hK]
        exact h19
    · exact absurd (b_t hc8) ht
end KMQ7
