/-! the reference's yard of tests, without counting -/
def tF (u : Tt) : Tt := if u.2.2.2.1 = 0 then (((qAllD u.1.1 u.1.2.1 0).1, (qAllD u.1.1 u.1.2.1 0).2, u.1.2.2), u.2) else u
def tSt (tx : Nat → Nat) (e : Nat) (tk : Int32) (t : Tt) : Bool × Tt :=
  if chr tx e (sk tx e t.2.1) = nI 91 then (true, ((opn (nI 25) (nI (sk tx e t.2.1)) (t.1, mLook tx e t.2)).1, (sk tx e t.2.1 + 1, (opn (nI 25) (nI (sk tx e t.2.1)) (t.1, mLook tx e t.2)).2.2)))
  else if hereW tx e (sk tx e t.2.1) t.2.2.1 wNot = true then (true, ((opn (nI 12) (nI (sk tx e t.2.1)) (t.1, mLook tx e t.2)).1, mAsks tx e (opn (nI 12) (nI (sk tx e t.2.1)) (t.1, mLook tx e t.2)).2 wNot))
  else tTry tx e tk (t.1, mLook tx e t.2)
def zF (tx : Nat → Nat) (e : Nat) (tk : Int32) (g : Bool × Tt) : (Qt × Ps) ⊕ (Int32 × Int32) := yR tx e (tF (if g.1 then tLoop tx e tk (e + 2 - g.2.2.1) g.2 else g.2))
def zA (tx : Nat → Nat) (e : Nat) (tk : Int32) (t : Tt) : (Qt × Ps) ⊕ (Int32 × Int32) := yR tx e (tF (tLoop tx e tk (e + 2 - t.2.1) t))
def zB (tx : Nat → Nat) (e : Nat) (tk : Int32) (t : Tt) : (Qt × Ps) ⊕ (Int32 × Int32) := zF tx e tk (gOnT tx e (qNot t))
section TYD
variable {tx : Nat → Nat} {e : Nat} {tk : Int32}
theorem tF_bad {t : Tt} (h : ¬ t.2.2.2.1 = 0) : tF t = t := if_neg h
theorem tLoop_s (n : Nat) (t : Tt) : tLoop tx e tk (n + 1) t = if t.2.2.2.1 = 0 then (if (tSt tx e tk t).1 then tLoop tx e tk n (tSt tx e tk t).2 else (tSt tx e tk t).2) else t := by
  conv => lhs; unfold tLoop
  unfold tSt
  by_cases hz : t.2.2.2.1 = 0
  · rw [if_pos hz, if_pos hz]
    by_cases h1 : chr tx e (sk tx e t.2.1) = nI 91
    · simp only [if_pos h1]
      rfl
    · simp only [if_neg h1]
      by_cases h2 : hereW tx e (sk tx e t.2.1) t.2.2.1 wNot = true
      · simp only [if_pos h2]
        rfl
      · simp only [if_neg h2]
  · rw [if_neg hz, if_neg hz]
theorem tLoop_bad (n : Nat) {t : Tt} (hb : ¬ t.2.2.2.1 = 0) : tLoop tx e tk n t = t := by
  cases n with
  | zero => rfl
  | succ n => rw [tLoop_s, if_neg hb]
theorem tSt_iv (he : e ≤ 1600) {t : Tt} (hz : t.2.2.2.1 = 0) (h : IV e 0 t) : IW e 0 (tSt tx e tk t).2 ∧ ((tSt tx e tk t).1 = true → (tSt tx e tk t).2.2.2.2.1 = 0 → t.2.1 + 1 ≤ (tSt tx e tk t).2.2.1) := by
  obtain ⟨l1, l2, l3, l4⟩ := mLook_iv (tx := tx) h
  have hl := h.2.2.2 hz
  dsimp only at l2 l4
  have hsk : (mLook tx e t.2).1 = sk tx e t.2.1 := rfl
  unfold tSt
  by_cases hc : chr tx e (sk tx e t.2.1) = nI 91
  · rw [if_pos hc]
    have hlt := chr_lt hc (by decide)
    have o := opn_len (nI 25) (nI (sk tx e t.2.1)) (t.1, mLook tx e t.2)
    generalize opn (nI 25) (nI (sk tx e t.2.1)) (t.1, mLook tx e t.2) = u at o ⊢
    dsimp only at o ⊢
    refine ⟨⟨by dsimp only; omega, by dsimp only; rw [o.2]; exact h.2.1, by dsimp only [tln] at hl ⊢; omega, fun _ => by dsimp only [tln] at hl ⊢; omega⟩, fun _ _ => by omega⟩
  · rw [if_neg hc]
    by_cases hn : hereW tx e (sk tx e t.2.1) t.2.2.1 wNot = true
    · rw [if_pos hn]
      have o := opn_len (nI 12) (nI (sk tx e t.2.1)) (t.1, mLook tx e t.2)
      have o1 := opn_1 (nI 12) (nI (sk tx e t.2.1)) (t.1, mLook tx e t.2)
      generalize opn (nI 12) (nI (sk tx e t.2.1)) (t.1, mLook tx e t.2) = u at o o1 ⊢
      dsimp only at o o1 ⊢
      have hu : u.2.1 ≤ e := by omega
      have g1 := mAsks_ge (tx := tx) u.2 wNot hu
      have g2 := mAsks_le (tx := tx) (s := u.2) wNot hu
      refine ⟨⟨g2, by dsimp only; rw [o.2]; exact h.2.1, by dsimp only [tln] at hl ⊢; omega, fun hb => by have := mAsks_adv u.2 wNot hu (by decide) hb; dsimp only [tln] at hl ⊢; omega⟩, fun _ hb => by have := mAsks_adv u.2 wNot hu (by decide) hb; omega⟩
    · rw [if_neg hn]
      obtain ⟨a1, ⟨a2, a3, a4⟩, a5, a6⟩ := tTry_iv (tx := tx) (tk := tk) (t := (t.1, mLook tx e t.2)) he hz l1
      refine ⟨a1, fun _ hb => ?_⟩
      have := a6 hb
      dsimp only at this
      omega
theorem tLoop_fuel (he : e ≤ 1600) : ∀ (n m : Nat) (t : Tt), IW e 0 t → e + 1 ≤ n + t.2.1 → e + 1 ≤ m + t.2.1 → tLoop tx e tk n t = tLoop tx e tk m t
  | 0, m, t, h, h1, h2 => absurd h1 (by have := h.1; omega)
  | n + 1, 0, t, h, h1, h2 => absurd h2 (by have := h.1; omega)
  | n + 1, m + 1, t, h, h1, h2 => by
    rw [tLoop_s, tLoop_s]
    by_cases hz : t.2.2.2.1 = 0
    · rw [if_pos hz, if_pos hz]
      obtain ⟨i1, i2⟩ := tSt_iv (tx := tx) (tk := tk) he hz (h.v hz)
      by_cases hp : (tSt tx e tk t).1 = true
      · rw [if_pos hp, if_pos hp]
        by_cases hb : (tSt tx e tk t).2.2.2.2.1 = 0
        · have := i2 hp hb
          exact tLoop_fuel he n m _ i1 (by omega) (by omega)
        · rw [tLoop_bad n hb, tLoop_bad m hb]
      · rw [if_neg hp, if_neg hp]
    · rw [if_neg hz, if_neg hz]
theorem zA_go (he : e ≤ 1600) {t t' : Tt} (hz : t.2.2.2.1 = 0) (h : IV e 0 t) (hp : tSt tx e tk t = (true, t')) (hb : t'.2.2.2.1 = 0) : zA tx e tk t = zA tx e tk t' := by
  obtain ⟨i1, i2⟩ := tSt_iv (tx := tx) (tk := tk) he hz h
  have hle := h.1
  rw [hp] at i1 i2
  have h3 := i2 rfl hb
  have h4 := i1.1
  dsimp only at h3 h4
  unfold zA
  rw [show e + 2 - t.2.1 = (e + 1 - t.2.1) + 1 by omega, tLoop_s, if_pos hz, hp, if_pos rfl, tLoop_fuel he (e + 1 - t.2.1) (e + 2 - t'.2.1) t' i1 (by omega) (by omega)]
theorem zA_bad {t t' : Tt} (hz : t.2.2.2.1 = 0) (h : t.2.1 ≤ e) (hp : tSt tx e tk t = (true, t')) (hb : ¬ t'.2.2.2.1 = 0) : zA tx e tk t = .inr (t'.2.2.2.1, t'.2.2.2.2.1) := by
  unfold zA
  rw [show e + 2 - t.2.1 = (e + 1 - t.2.1) + 1 by omega, tLoop_s, if_pos hz, hp, if_pos rfl]
  dsimp only
  rw [tLoop_bad _ hb, tF_bad hb, yR_bad hb]
theorem zF_bad {q : Qt} {s : Ps} (h : ¬ s.2.2.1 = 0) : zF tx e tk (false, (q, s)) = .inr (s.2.2.1, s.2.2.2.1) := by
  unfold zF
  rw [if_neg Bool.false_ne_true, tF_bad (t := (q, s)) h, yR_bad (t := (q, s)) h]
theorem zF_true (t : Tt) : zF tx e tk (true, t) = zA tx e tk t := by
  unfold zF zA
  rw [if_pos rfl]
theorem zF_end {cs ws : List Int32} {op : Int32} {bs : Nat} {s : Ps} (h : s.2.2.1 = 0) : zF tx e tk (false, ((cs, ws, op, bs), s)) = .inl (((qAllD cs ws 0).1, (qAllD cs ws 0).2, op, bs), mLook tx e s) := by
  unfold zF
  rw [if_neg Bool.false_ne_true]
  unfold tF
  rw [if_pos (show (((cs, ws, op, bs), s) : Tt).2.2.2.1 = 0 from h)]
  unfold yR
  rw [if_pos h]
/-- a fact is read here -/
theorem zA_fact (he : e ≤ 1600) {t : Tt} (hz : t.2.2.2.1 = 0) (h : IV e 0 t) (h1 : ¬ chr tx e (sk tx e t.2.1) = nI 91) (h2 : ¬ wdO tx e t.2 = some 29) {f : Tt} (hf : fFact tx e tk (t.1, mLook tx e t.2) = f) : zA tx e tk t = if f.2.2.2.1 = 0 then zB tx e tk f else .inr (f.2.2.2.1, f.2.2.2.2.1) := by
  have k1 : hereW tx e (sk tx e t.2.1) t.2.2.1 wNot = decide (wdO tx e t.2 = some 29) := here_wd (i := 29) hz (by omega)
  have hs : tSt tx e tk t = tTry tx e tk (t.1, mLook tx e t.2) := by
    unfold tSt
    rw [if_neg h1, if_neg (by rw [k1]; simp [h2])]
  have l1 := (mLook_iv (tx := tx) h).1
  obtain ⟨-, -, a5, -⟩ := tTry_iv (tx := tx) (tk := tk) (t := (t.1, mLook tx e t.2)) he hz l1
  have hq := (qNot_2 f).1
  have ht : tTry tx e tk (t.1, mLook tx e t.2) = if (qNot f).2.2.2.1 = 0 then gOnT tx e (qNot f) else (false, qNot f) := by
    unfold tTry
    rw [hf]
  by_cases hb : f.2.2.2.1 = 0
  · have hb' : (qNot f).2.2.2.1 = 0 := by rw [hq]; exact hb
    rw [if_pos hb'] at ht
    rw [if_pos hb]
    unfold zB
    by_cases hg : (gOnT tx e (qNot f)).1 = true
    · have e1 : tSt tx e tk t = (true, (gOnT tx e (qNot f)).2) := by rw [hs, ht]; exact Prod.ext hg rfl
      have e2 : gOnT tx e (qNot f) = (true, (gOnT tx e (qNot f)).2) := Prod.ext hg rfl
      rw [zA_go he hz h e1 (by have := a5 (by rw [ht]; exact hg); rw [ht] at this; exact this)]
      conv => rhs; rw [e2]
      rw [zF_true]
    · have hle := h.1
      unfold zA zF
      rw [show e + 2 - t.2.1 = (e + 1 - t.2.1) + 1 by omega, tLoop_s, if_pos hz, hs, ht, if_neg hg, if_neg hg]
  · have hb' : ¬ (qNot f).2.2.2.1 = 0 := by rw [hq]; exact hb
    rw [if_neg hb'] at ht
    rw [if_neg hb]
    have hle := h.1
    unfold zA
    rw [show e + 2 - t.2.1 = (e + 1 - t.2.1) + 1 by omega, tLoop_s, if_pos hz, hs, ht, if_neg (by simp), tF_bad (t := qNot f) hb', yR_bad (t := qNot f) hb', hq]
/-- no not waits on top -/
def qN (ws : List Int32) : Prop := ∀ w r, ws = w :: r → ¬ w = nI 12
theorem qN_hd {w : Int32} {ws : List Int32} (h : ¬ w = nI 12) : qN (w :: ws) := by
  intro v r z
  simp only [List.cons.injEq] at z
  rw [← z.1]
  exact h
theorem qNot_id {cs ws : List Int32} {op : Int32} {bs : Nat} {s : Ps} (h : qN ws) : qNot ((cs, ws, op, bs), s) = ((cs, ws, op, bs), s) := by
  have : qNots cs ws op = (cs, ws, op) := by
    cases ws with
    | nil => rfl
    | cons w r =>
      unfold qNots
      rw [if_neg (h w r rfl)]
  unfold qNot
  dsimp only
  rw [this]
  split <;> rfl
theorem zB_12 {cs ws : List Int32} {op : Int32} {bs : Nat} {s : Ps} (hz : s.2.2.1 = 0) : zB tx e tk ((cs, nI 12 :: ws, op, bs), s) = zB tx e tk ((cs ++ [nI 12], ws, op - nI 1, bs), s) := by
  unfold zB
  have : qNot ((cs, nI 12 :: ws, op, bs), s) = qNot ((cs ++ [nI 12], ws, op - nI 1, bs), s) := by
    unfold qNot
    dsimp only
    rw [if_pos hz, if_pos hz]
    conv => lhs; unfold qNots
    rw [if_pos rfl]
  rw [this]
theorem gCT_s (n : Nat) (t : Tt) : gCT tx e (n + 1) t = if chr tx e (sk tx e t.2.1) = nI 93 ∧ nI 25 ∈ t.1.2.1 then gCT tx e n (qNot (((qTop sqS t.1.1 t.1.2.1).1, (qTop sqS t.1.1 t.1.2.1).2.tail, t.1.2.2.1 - nI 1, t.1.2.2.2), (sk tx e t.2.1 + 1, t.2.2))) else (t.1, mLook tx e t.2) := rfl
theorem gCT_no (n : Nat) {t : Tt} (h : ¬ (chr tx e (sk tx e t.2.1) = nI 93 ∧ nI 25 ∈ t.1.2.1)) : gCT tx e n t = (t.1, mLook tx e t.2) := by
  cases n with
  | zero => rfl
  | succ n => rw [gCT_s, if_neg h]
theorem gCT_fuel : ∀ (n m : Nat) (t : Tt), t.2.1 ≤ e → e ≤ n + t.2.1 → e ≤ m + t.2.1 → gCT tx e n t = gCT tx e m t := by
  intro n
  induction n with
  | zero =>
    intro m t h h1 h2
    have := sk_le (tx := tx) h
    rw [gCT_no m (fun q => by have := chr_lt q.1 (by omega); omega), gCT_no 0 (fun q => by have := chr_lt q.1 (by omega); omega)]
  | succ n ih =>
    intro m t h h1 h2
    have := sk_le (tx := tx) h
    by_cases hc : chr tx e (sk tx e t.2.1) = nI 93 ∧ nI 25 ∈ t.1.2.1
    · have hlt := chr_lt hc.1 (by omega)
      cases m with
      | zero => omega
      | succ m =>
        rw [gCT_s, gCT_s, if_pos hc, if_pos hc]
        exact ih m _ (by rw [(qNot_2 _).1]; dsimp only; omega) (by rw [(qNot_2 _).1]; dsimp only; omega) (by rw [(qNot_2 _).1]; dsimp only; omega)
    · rw [gCT_no _ hc, gCT_no _ hc]
theorem gOnT_close {t : Tt} (h : t.2.1 ≤ e) (hc : chr tx e (sk tx e t.2.1) = nI 93) (hb : nI 25 ∈ t.1.2.1) : gOnT tx e t = gOnT tx e (qNot (((qTop sqS t.1.1 t.1.2.1).1, (qTop sqS t.1.1 t.1.2.1).2.tail, t.1.2.2.1 - nI 1, t.1.2.2.2), (sk tx e t.2.1 + 1, t.2.2))) := by
  have h1 := sk_le (tx := tx) h
  have hlt := chr_lt hc (by omega)
  unfold gOnT
  rw [show e + 1 - t.2.1 = (e - t.2.1) + 1 by omega, gCT_s, if_pos ⟨hc, hb⟩, (qNot_2 _).1]
  dsimp only
  rw [gCT_fuel (e - t.2.1) (e + 1 - (sk tx e t.2.1 + 1)) _ (by rw [(qNot_2 _).1]; dsimp only; omega) (by rw [(qNot_2 _).1]; dsimp only; omega) (by rw [(qNot_2 _).1]; dsimp only; omega)]
theorem gOnT_no {t : Tt} (hc : ¬ (chr tx e (sk tx e t.2.1) = nI 93 ∧ nI 25 ∈ t.1.2.1)) : gOnT tx e t = gAnd tx e (t.1, mLook tx e t.2) := by
  unfold gOnT
  rw [gCT_no _ hc]
theorem zB_cl {cs ws : List Int32} {op : Int32} {bs : Nat} {s : Ps} (hs : s.1 ≤ e) (hc : chr tx e (sk tx e s.1) = nI 93) : zB tx e tk ((cs, nI 25 :: ws, op, bs), s) = zB tx e tk ((cs, ws, op - nI 1, bs), (sk tx e s.1 + 1, s.2)) := by
  have hq : qTop sqS cs (nI 25 :: ws) = (cs, nI 25 :: ws) := qTop_id (fun w r z => by simp only [List.cons.injEq] at z; rw [← z.1]; decide)
  unfold zB
  rw [qNot_id (qN_hd (by decide)), gOnT_close (t := ((cs, nI 25 :: ws, op, bs), s)) hs hc (by simp)]
  dsimp only
  rw [hq]
  rfl
theorem takes_wd {s : Ps} (hz : s.2.2.1 = 0) (hs : s.1 ≤ e) {i : Nat} (hi : i < 39) : mTakes tx e (mLook tx e s) (keyL.getD i []) = if wdO tx e s = some i then (true, wAf tx e s) else (false, mLook tx e s) := by
  have h1 : sk tx e (mLook tx e s).1 = (mLook tx e s).1 := sk_sk hs
  have h2 : hereW tx e (mLook tx e s).1 (mLook tx e s).2.1 (keyL.getD i []) = decide (wdO tx e s = some i) := here_wd hz hi
  by_cases h : wdO tx e s = some i
  · rw [if_pos h, mTakes_t (mLook tx e s) hz h1 _ (by rw [h2]; exact decide_eq_true h), wd_af h]
    rfl
  · rw [if_neg h, mTakes_f (mLook tx e s) hz h1 _ (by rw [h2]; simp [h])]
theorem zB_eq {q : Qt} {s s' : Ps} (hz : s.2.2.1 = 0) (hs : s.1 ≤ e) (hs' : s'.1 ≤ e) (h : mLook tx e s' = mLook tx e s) : zB tx e tk (q, s') = zB tx e tk (q, s) := by
  have h1 : sk tx e s'.1 = sk tx e s.1 := (congrArg Prod.fst h : (mLook tx e s').1 = (mLook tx e s).1)
  have h2 : s'.2 = s.2 := (congrArg Prod.snd h : (mLook tx e s').2 = (mLook tx e s).2)
  have hz' : s'.2.2.1 = 0 := by rw [h2]; exact hz
  unfold zB
  have e1 : qNot (q, s) = ((qNot (q, s)).1, s) := Prod.ext rfl (qNot_2 _).1
  have e2 : qNot (q, s') = ((qNot (q, s)).1, s') := by
    refine Prod.ext ?_ (qNot_2 _).1
    unfold qNot
    dsimp only
    rw [if_pos hz, if_pos hz']
  rw [e1, e2]
  generalize (qNot (q, s)).1 = q'
  by_cases hc : chr tx e (sk tx e s.1) = nI 93 ∧ nI 25 ∈ q'.2.1
  · rw [gOnT_close (t := (q', s)) hs hc.1 hc.2, gOnT_close (t := (q', s')) hs' (by show chr tx e (sk tx e s'.1) = nI 93; rw [h1]; exact hc.1) hc.2]
    dsimp only
    rw [h1, h2]
  · rw [gOnT_no (t := (q', s)) hc, gOnT_no (t := (q', s')) (by show ¬ (chr tx e (sk tx e s'.1) = nI 93 ∧ nI 25 ∈ q'.2.1); rw [h1]; exact hc)]
    dsimp only
    rw [h]
theorem zB_and {cs ws : List Int32} {op : Int32} {bs : Nat} {s : Ps} (hq : qN ws) (hS : ∀ w r, ws = w :: r → andS w = false) (hz : s.2.2.1 = 0) (hs : s.1 ≤ e) (hw : wdO tx e s = some 28) : zB tx e tk ((cs, ws, op, bs), s) = zA tx e tk ((cs, nI 10 :: ws, op, bs), wAf tx e s) := by
  unfold zB
  rw [qNot_id hq, gOnT_no (t := ((cs, ws, op, bs), s)) (fun z => chr_wd hw (by omega) z.1), ← zF_true]
  unfold gAnd
  dsimp only
  rw [show wAnd = keyL.getD 28 [] from rfl, takes_wd hz hs (by omega), if_pos hw, qTop_id hS]
  rfl
theorem zB_or {cs ws : List Int32} {op : Int32} {bs : Nat} {s : Ps} (hq : qN ws) (hS : ∀ w r, ws = w :: r → orS w = false) (hz : s.2.2.1 = 0) (hs : s.1 ≤ e) (hw : wdO tx e s = some 27) : zB tx e tk ((cs, ws, op, bs), s) = zA tx e tk ((cs, nI 11 :: ws, op, bs), wAf tx e s) := by
  have h28 : ¬ wdO tx e s = some 28 := by rw [hw]; simp
  unfold zB
  rw [qNot_id hq, gOnT_no (t := ((cs, ws, op, bs), s)) (fun z => chr_wd hw (by omega) z.1), ← zF_true]
  unfold gAnd
  dsimp only
  rw [show wAnd = keyL.getD 28 [] from rfl, takes_wd hz hs (by omega), if_neg h28, if_neg Bool.false_ne_true]
  unfold gOr
  dsimp only
  rw [show wOr = keyL.getD 27 [] from rfl, takes_wd hz hs (by omega), if_pos hw, qTop_id hS]
  rfl
/-- behind a fact with no joining word -/
theorem zB_no {cs ws : List Int32} {op : Int32} {bs : Nat} {s : Ps} (hq : qN ws) (hz : s.2.2.1 = 0) (hs : s.1 ≤ e) (hc : ¬ (chr tx e (sk tx e s.1) = nI 93 ∧ nI 25 ∈ ws)) (h1 : ¬ wdO tx e s = some 28) (h2 : ¬ wdO tx e s = some 27) : zB tx e tk ((cs, ws, op, bs), s) = if nI 25 ∈ ws then .inr (nI 1, nI (sk tx e s.1)) else .inl (((qAllD cs ws 0).1, (qAllD cs ws 0).2, op, bs), mLook tx e s) := by
  unfold zB
  rw [qNot_id hq, gOnT_no (t := ((cs, ws, op, bs), s)) hc]
  unfold gAnd
  dsimp only
  rw [show wAnd = keyL.getD 28 [] from rfl, takes_wd hz hs (by omega), if_neg h1, if_neg Bool.false_ne_true]
  unfold gOr
  dsimp only
  rw [show wOr = keyL.getD 27 [] from rfl, takes_wd hz hs (by omega), if_neg h2, if_neg Bool.false_ne_true]
  by_cases hm : nI 25 ∈ ws
  · rw [if_pos hm, if_pos hm, zF_bad (mFail_0 _ _ _ (by decide)), mFail_z (s := mLook tx e s) hz]
    rfl
  · rw [if_neg hm, if_neg hm, zF_end (s := mLook tx e s) hz, mLook_look hs]
theorem zB_drop {cs ws : List Int32} {w op : Int32} {bs : Nat} {s : Ps} (hS : orS w = true) (hm : andS w = true ∨ ¬ wdO tx e s = some 28) (hq : qN ws) (hz : s.2.2.1 = 0) (hs : s.1 ≤ e) : zB tx e tk ((cs, w :: ws, op, bs), s) = zB tx e tk ((cs ++ [w], ws, op, bs), s) := by
  have hw : w = nI 10 ∨ w = nI 11 := by
    unfold orS at hS
    simpa only [Bool.or_eq_true, decide_eq_true_eq] using hS
  have h12 : ¬ w = nI 12 := by rcases hw with h | h <;> rw [h] <;> decide
  have h25 : nI 25 ∈ w :: ws ↔ nI 25 ∈ ws := by
    rw [List.mem_cons]
    constructor
    · intro z
      rcases z with z | z
      · rcases hw with h | h <;> rw [h] at z <;> exact absurd z (by decide)
      · exact z
    · exact Or.inr
  have d1 : qTop sqS cs (w :: ws) = qTop sqS (cs ++ [w]) ws := by
    conv => lhs; unfold qTop
    rw [if_pos (by rcases hw with h | h <;> rw [h] <;> decide)]
  have d2 : qTop orS cs (w :: ws) = qTop orS (cs ++ [w]) ws := by
    conv => lhs; unfold qTop
    rw [if_pos hS]
  have a1 : qAllD cs (w :: ws) 0 = qAllD (cs ++ [w]) ws 0 := by
    conv => lhs; unfold qAllD
    rw [if_pos (Nat.zero_le _)]
  unfold zB
  rw [qNot_id (qN_hd h12), qNot_id hq]
  by_cases hc : chr tx e (sk tx e s.1) = nI 93 ∧ nI 25 ∈ ws
  · rw [gOnT_close (t := ((cs, w :: ws, op, bs), s)) hs hc.1 (h25.mpr hc.2), gOnT_close (t := ((cs ++ [w], ws, op, bs), s)) hs hc.1 hc.2]
    dsimp only
    rw [d1]
  · rw [gOnT_no (t := ((cs, w :: ws, op, bs), s)) (by show ¬ (chr tx e (sk tx e s.1) = nI 93 ∧ nI 25 ∈ w :: ws); rw [h25]; exact hc), gOnT_no (t := ((cs ++ [w], ws, op, bs), s)) hc]
    unfold gAnd
    dsimp only
    rw [show wAnd = keyL.getD 28 [] from rfl, takes_wd hz hs (by omega)]
    by_cases h28 : wdO tx e s = some 28
    · have hmw : andS w = true := by
        rcases hm with h | h
        · exact h
        · exact absurd h28 h
      have d3 : qTop andS cs (w :: ws) = qTop andS (cs ++ [w]) ws := by
        conv => lhs; unfold qTop
        rw [if_pos hmw]
      rw [if_pos h28, d3]
      rfl
    · rw [if_neg h28, if_neg Bool.false_ne_true, if_neg Bool.false_ne_true]
      unfold gOr
      dsimp only
      rw [show wOr = keyL.getD 27 [] from rfl, takes_wd hz hs (by omega)]
      by_cases h27 : wdO tx e s = some 27
      · rw [if_pos h27, d2]
        rfl
      · rw [if_neg h27, if_neg Bool.false_ne_true, if_neg Bool.false_ne_true]
        by_cases hm : nI 25 ∈ ws
        · rw [if_pos hm, if_pos (h25.mpr hm), zF_bad (mFail_0 _ _ _ (by decide)), zF_bad (mFail_0 _ _ _ (by decide))]
        · rw [if_neg hm, if_neg (fun z => hm (h25.mp z)), zF_end (s := mLook tx e s) hz, zF_end (s := mLook tx e s) hz, a1]
end TYD
