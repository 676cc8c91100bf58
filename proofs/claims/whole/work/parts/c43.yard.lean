/-! the reference's yard of sums, without counting: what it comes to from a place where a part is asked, and from behind a part -/
def yR (tx : Nat → Nat) (e : Nat) (t : Tt) : (Qt × Ps) ⊕ (Int32 × Int32) := if t.2.2.2.1 = 0 then .inl (t.1, mLook tx e t.2) else .inr (t.2.2.2.1, t.2.2.2.2.1)
def yF (tx : Nat → Nat) (e : Nat) (tk : Int32) (g : Bool × Tt) : (Qt × Ps) ⊕ (Int32 × Int32) := yR tx e (tAll (if g.1 then sLoop tx e tk (e + 2 - g.2.2.1) g.2 else g.2))
def yA (tx : Nat → Nat) (e : Nat) (tk : Int32) (t : Tt) : (Qt × Ps) ⊕ (Int32 × Int32) := yR tx e (tAll (sLoop tx e tk (e + 2 - t.2.1) t))
def yB (tx : Nat → Nat) (e : Nat) (tk : Int32) (t : Tt) : (Qt × Ps) ⊕ (Int32 × Int32) := yF tx e tk (gOn tx e (qEnd t))
section YRD
variable {tx : Nat → Nat} {e : Nat} {tk : Int32}
theorem yR_bad {t : Tt} (h : ¬ t.2.2.2.1 = 0) : yR tx e t = .inr (t.2.2.2.1, t.2.2.2.2.1) := if_neg h
theorem tAll_bad {t : Tt} (h : ¬ t.2.2.2.1 = 0) : tAll t = t := if_neg h
theorem mLook_look {s : Ps} (h : s.1 ≤ e) : mLook tx e (mLook tx e s) = mLook tx e s := Prod.ext (sk_sk h) rfl
theorem pLoop_s (n : Nat) (t : Tt) : pLoop tx e tk (n + 1) t = if t.2.2.2.1 = 0 then (if (pTry tx e tk t).1 then pLoop tx e tk n (pTry tx e tk t).2 else (pTry tx e tk t).2) else t := rfl
theorem sLoop_s (n : Nat) (t : Tt) : sLoop tx e tk (n + 1) t = if (pPart tx e tk t).2.2.2.1 = 0 then (if (gOn tx e (pPart tx e tk t)).1 then sLoop tx e tk n (gOn tx e (pPart tx e tk t)).2 else (gOn tx e (pPart tx e tk t)).2) else pPart tx e tk t := rfl
theorem pLoop_bad (n : Nat) {t : Tt} (hb : ¬ t.2.2.2.1 = 0) : pLoop tx e tk n t = t := by
  cases n with
  | zero => rfl
  | succ n => rw [pLoop_s, if_neg hb]
theorem pLoop_fuel : ∀ (n m : Nat) (t : Tt), t.2.1 ≤ e → e + 1 ≤ n + t.2.1 → e + 1 ≤ m + t.2.1 → pLoop tx e tk n t = pLoop tx e tk m t
  | 0, m, t, h, h1, h2 => absurd h1 (by omega)
  | n + 1, 0, t, h, h1, h2 => absurd h2 (by omega)
  | n + 1, m + 1, t, h, h1, h2 => by
    rw [pLoop_s, pLoop_s]
    by_cases hz : t.2.2.2.1 = 0
    · rw [if_pos hz, if_pos hz]
      obtain ⟨-, i2, i3, -⟩ := pTry_iv (tx := tx) (tk := tk) hz h
      by_cases hp : (pTry tx e tk t).1 = true
      · rw [if_pos hp, if_pos hp]
        by_cases hb : (pTry tx e tk t).2.2.2.2.1 = 0
        · have := i3 hp hb
          exact pLoop_fuel n m _ i2.1 (by omega) (by omega)
        · rw [pLoop_bad n hb, pLoop_bad m hb]
      · rw [if_neg hp, if_neg hp]
    · rw [if_neg hz, if_neg hz]
theorem sLoop_fuel : ∀ (n m : Nat) (t : Tt), t.2.2.2.1 = 0 → IV e 0 t → e + 1 ≤ n + t.2.1 → e + 1 ≤ m + t.2.1 → sLoop tx e tk n t = sLoop tx e tk m t
  | 0, m, t, hz, h, h1, h2 => absurd h1 (by have := h.1; omega)
  | n + 1, 0, t, hz, h, h1, h2 => absurd h2 (by have := h.1; omega)
  | n + 1, m + 1, t, hz, h, h1, h2 => by
    rw [sLoop_s, sLoop_s]
    obtain ⟨p1, p2, p3⟩ := pPart_iv (tx := tx) (tk := tk) hz h
    by_cases hp : (pPart tx e tk t).2.2.2.1 = 0
    · rw [if_pos hp, if_pos hp]
      obtain ⟨g1, g2, g3⟩ := gOn_iv (tx := tx) hp p1
      by_cases hg : (gOn tx e (pPart tx e tk t)).1 = true
      · rw [if_pos hg, if_pos hg]
        have := p3 hp
        have := g2.2.2
        exact sLoop_fuel n m _ (g3 hg) g1 (by omega) (by omega)
      · rw [if_neg hg, if_neg hg]
    · rw [if_neg hp, if_neg hp]
theorem pPart_go {t : Tt} (hz : t.2.2.2.1 = 0) (h : t.2.1 ≤ e) (hp : (pTry tx e tk t).1 = true) (hb : (pTry tx e tk t).2.2.2.2.1 = 0) : pPart tx e tk t = pPart tx e tk (pTry tx e tk t).2 := by
  obtain ⟨-, i2, i3, -⟩ := pTry_iv (tx := tx) (tk := tk) hz h
  have := i3 hp hb
  have := i2.1
  have key : pLoop tx e tk (e + 2 - t.2.1) t = pLoop tx e tk (e + 2 - (pTry tx e tk t).2.2.1) (pTry tx e tk t).2 := by
    rw [show e + 2 - t.2.1 = (e + 1 - t.2.1) + 1 by omega, pLoop_s, if_pos hz, if_pos hp]
    exact pLoop_fuel _ _ _ i2.1 (by omega) (by omega)
  unfold pPart
  rw [key]
theorem pPart_bad {t : Tt} (hz : t.2.2.2.1 = 0) (h : t.2.1 ≤ e) (hp : (pTry tx e tk t).1 = true) (hb : ¬ (pTry tx e tk t).2.2.2.2.1 = 0) : pPart tx e tk t = (pTry tx e tk t).2 := by
  have key : pLoop tx e tk (e + 2 - t.2.1) t = (pTry tx e tk t).2 := by
    rw [show e + 2 - t.2.1 = (e + 1 - t.2.1) + 1 by omega, pLoop_s, if_pos hz, if_pos hp, pLoop_bad _ hb]
  unfold pPart
  rw [key, if_neg hb]
theorem pPart_last {t : Tt} (hz : t.2.2.2.1 = 0) (h : t.2.1 ≤ e) (hp : (pTry tx e tk t).1 = false) : pPart tx e tk t = pLast tx e tk (t.1, mLook tx e t.2) := by
  obtain ⟨-, -, -, i4⟩ := pTry_iv (tx := tx) (tk := tk) hz h
  have key : pLoop tx e tk (e + 2 - t.2.1) t = (t.1, mLook tx e t.2) := by
    rw [show e + 2 - t.2.1 = (e + 1 - t.2.1) + 1 by omega, pLoop_s, if_pos hz, if_neg (by rw [hp]; decide), i4 hp]
  unfold pPart
  rw [key, if_pos (show ((t.1, mLook tx e t.2) : Tt).2.2.2.1 = 0 from hz)]
theorem yA_s {t : Tt} (hz : t.2.2.2.1 = 0) (h : IV e 0 t) : yA tx e tk t = if (pPart tx e tk t).2.2.2.1 = 0 then yF tx e tk (gOn tx e (pPart tx e tk t)) else .inr ((pPart tx e tk t).2.2.2.1, (pPart tx e tk t).2.2.2.2.1) := by
  have hle := h.1
  obtain ⟨p1, p2, p3⟩ := pPart_iv (tx := tx) (tk := tk) hz h
  unfold yA
  rw [show e + 2 - t.2.1 = (e + 1 - t.2.1) + 1 by omega, sLoop_s]
  by_cases hp : (pPart tx e tk t).2.2.2.1 = 0
  · rw [if_pos hp, if_pos hp]
    obtain ⟨g1, g2, g3⟩ := gOn_iv (tx := tx) hp p1
    unfold yF
    by_cases hg : (gOn tx e (pPart tx e tk t)).1 = true
    · rw [if_pos hg, if_pos hg]
      have := p3 hp
      have := g2.2.2
      have := g1.1
      rw [sLoop_fuel (tk := tk) (e + 1 - t.2.1) (e + 2 - (gOn tx e (pPart tx e tk t)).2.2.1) _ (g3 hg) g1 (by omega) (by omega)]
    · rw [if_neg hg, if_neg hg]
  · rw [if_neg hp, if_neg hp, tAll_bad hp, yR_bad hp]
theorem pTry_IV {t : Tt} (hz : t.2.2.2.1 = 0) (h : IV e 0 t) (hp : (pTry tx e tk t).1 = true) (hb : (pTry tx e tk t).2.2.2.2.1 = 0) : IV e 0 (pTry tx e tk t).2 := by
  obtain ⟨i1, i2, i3, -⟩ := pTry_iv (tx := tx) (tk := tk) hz h.1
  have := i3 hp hb
  have := h.2.2.2 hz
  have := i2.1
  refine ⟨i2.1, by rw [i2.2.1]; exact h.2.1, by omega, fun _ => by omega⟩
theorem yA_go {t : Tt} (hz : t.2.2.2.1 = 0) (h : IV e 0 t) {t' : Tt} (hp : pTry tx e tk t = (true, t')) (hb : t'.2.2.2.1 = 0) : yA tx e tk t = yA tx e tk t' := by
  have h1 : (pTry tx e tk t).1 = true := by rw [hp]
  have h2 : (pTry tx e tk t).2 = t' := by rw [hp]
  have h3 : IV e 0 t' := by rw [← h2]; exact pTry_IV hz h h1 (by rw [h2]; exact hb)
  rw [yA_s hz h, yA_s hb h3, pPart_go hz h.1 h1 (by rw [h2]; exact hb), h2]
theorem yA_bad {t : Tt} (hz : t.2.2.2.1 = 0) (h : IV e 0 t) {t' : Tt} (hp : pTry tx e tk t = (true, t')) (hb : ¬ t'.2.2.2.1 = 0) : yA tx e tk t = .inr (t'.2.2.2.1, t'.2.2.2.2.1) := by
  have h1 : (pTry tx e tk t).1 = true := by rw [hp]
  have h2 : (pTry tx e tk t).2 = t' := by rw [hp]
  rw [yA_s hz h, pPart_bad hz h.1 h1 (by rw [h2]; exact hb), h2, if_neg hb]
theorem qEnd_bad {t : Tt} (h : ¬ t.2.2.2.1 = 0) : qEnd t = t := if_neg h
/-- the last of a part: no bracket, no near is here -/
theorem yA_last {t t' : Tt} (hz : t.2.2.2.1 = 0) (h : IV e 0 t) (hp : (pTry tx e tk t).1 = false) (hl : pLast tx e tk (t.1, mLook tx e t.2) = qEnd t') : yA tx e tk t = if t'.2.2.2.1 = 0 then yB tx e tk t' else .inr (t'.2.2.2.1, t'.2.2.2.2.1) := by
  rw [yA_s hz h, pPart_last hz h.1 hp, hl]
  by_cases hb : t'.2.2.2.1 = 0
  · rw [if_pos hb, if_pos (by rw [(qEnd_2 t').1]; exact hb)]
    rfl
  · rw [if_neg hb, qEnd_bad hb, if_neg hb]
theorem gClose_s (n : Nat) (t : Tt) : gClose tx e (n + 1) t = if chr tx e (sk tx e t.2.1) = nI 41 ∧ clB (qBrk t.1.2.1 t.1.2.2.2) = true then gClose tx e n (gCl1 (sk tx e t.2.1) t (qDown t.1.1 t.1.2.1 t.1.2.2.2)) else (t.1, mLook tx e t.2) := rfl
theorem gCl1_1 (p : Nat) (t : Tt) (d : List Int32 × List Int32) : (gCl1 p t d).2.1 = p + 1 := by
  unfold gCl1
  rw [(qEnd_2 _).1]
theorem gClose_no (n : Nat) {t : Tt} (h : ¬ (chr tx e (sk tx e t.2.1) = nI 41 ∧ clB (qBrk t.1.2.1 t.1.2.2.2) = true)) : gClose tx e n t = (t.1, mLook tx e t.2) := by
  cases n with
  | zero => rfl
  | succ n => rw [gClose_s, if_neg h]
theorem gClose_fuel : ∀ (n m : Nat) (t : Tt), t.2.1 ≤ e → e ≤ n + t.2.1 → e ≤ m + t.2.1 → gClose tx e n t = gClose tx e m t := by
  intro n
  induction n with
  | zero =>
    intro m t h h1 h2
    have := sk_le (tx := tx) h
    rw [gClose_no m (fun q => by have := chr_lt q.1 (by omega); omega), gClose_no 0 (fun q => by have := chr_lt q.1 (by omega); omega)]
  | succ n ih =>
    intro m t h h1 h2
    have := sk_le (tx := tx) h
    by_cases hc : chr tx e (sk tx e t.2.1) = nI 41 ∧ clB (qBrk t.1.2.1 t.1.2.2.2) = true
    · have hlt := chr_lt hc.1 (by omega)
      cases m with
      | zero => omega
      | succ m =>
        rw [gClose_s, gClose_s, if_pos hc, if_pos hc]
        exact ih m _ (by rw [gCl1_1]; omega) (by rw [gCl1_1]; omega) (by rw [gCl1_1]; omega)
    · rw [gClose_no _ hc, gClose_no _ hc]
theorem gOn_close {t : Tt} (h : t.2.1 ≤ e) (hc : chr tx e (sk tx e t.2.1) = nI 41) (hb : clB (qBrk t.1.2.1 t.1.2.2.2) = true) : gOn tx e t = gOn tx e (gCl1 (sk tx e t.2.1) t (qDown t.1.1 t.1.2.1 t.1.2.2.2)) := by
  have h1 := sk_le (tx := tx) h
  have hlt := chr_lt hc (by omega)
  unfold gOn
  rw [show e + 1 - t.2.1 = (e - t.2.1) + 1 by omega, gClose_s, if_pos ⟨hc, hb⟩]
  rw [gClose_fuel (e - t.2.1) (e + 1 - (gCl1 (sk tx e t.2.1) t (qDown t.1.1 t.1.2.1 t.1.2.2.2)).2.1) _ (by rw [gCl1_1]; omega) (by rw [gCl1_1]; omega) (by rw [gCl1_1]; omega)]
theorem gOn_no {t : Tt} (hc : ¬ (chr tx e (sk tx e t.2.1) = nI 41 ∧ clB (qBrk t.1.2.1 t.1.2.2.2) = true)) : gOn tx e t = gRest tx e (t.1, mLook tx e t.2) := by
  unfold gOn
  rw [gClose_no _ hc]
/-- what waits on top is no near -/
def qE (ws : List Int32) (bs : Nat) : Prop := ∀ w r, ws = w :: r → bs ≤ r.length → ¬ nI 60 ≤ w
theorem qEnds_id {cs ws : List Int32} {op : Int32} {bs : Nat} (h : qE ws bs) : qEnds cs ws op bs = (cs, ws, op) := by
  cases ws with
  | nil => rfl
  | cons w r =>
    unfold qEnds
    rw [if_neg (fun q => h w r rfl q.1 q.2)]
theorem qEnd_id {cs ws : List Int32} {op : Int32} {bs : Nat} {s : Ps} (h : qE ws bs) : qEnd ((cs, ws, op, bs), s) = ((cs, ws, op, bs), s) := by
  unfold qEnd
  dsimp only
  rw [qEnds_id h]
  split <;> rfl
theorem qTop_id {S : Int32 → Bool} {cs ws : List Int32} (h : ∀ w r, ws = w :: r → S w = false) : qTop S cs ws = (cs, ws) := by
  cases ws with
  | nil => rfl
  | cons w r =>
    unfold qTop
    rw [h w r rfl]
    rfl
theorem yB_60 {cs ws : List Int32} {op : Int32} {bs : Nat} {s : Ps} (hb : bs ≤ ws.length) (hz : s.2.2.1 = 0) : yB tx e tk ((cs, nI 60 :: ws, op, bs), s) = yB tx e tk ((cs ++ [nI 60], ws, op - nI 1, bs), s) := by
  unfold yB
  have : qEnd ((cs, nI 60 :: ws, op, bs), s) = qEnd ((cs ++ [nI 60], ws, op - nI 1, bs), s) := by
    unfold qEnd
    dsimp only
    rw [if_pos hz, if_pos hz]
    conv => lhs; unfold qEnds
    rw [if_pos ⟨hb, by decide⟩]
  rw [this]
theorem qBrk_hd {w : Int32} {ws : List Int32} {bs : Nat} (hb : bs ≤ ws.length) (hw : isBr w = true) : qBrk (w :: ws) bs = w := by
  unfold qBrk
  rw [if_pos hb, if_pos hw]
theorem qDown_hd {cs : List Int32} {w : Int32} {ws : List Int32} {bs : Nat} (hw : isBr w = true) : qDown cs (w :: ws) bs = (cs, w :: ws) := by
  unfold qDown
  rw [if_neg (fun q => by rw [hw] at q; exact absurd q.2 (by decide))]
theorem qE_hd {w : Int32} {ws : List Int32} {bs : Nat} (h : ¬ nI 60 ≤ w) : qE (w :: ws) bs := by
  intro v r q _
  simp only [List.cons.injEq] at q
  rw [← q.1]
  exact h
theorem yB_cl {cs ws : List Int32} {x op : Int32} {bs : Nat} {s : Ps} (hx : x = nI 20 ∨ x = nI 23 ∨ x = nI 24) (hb : bs ≤ ws.length) (hs : s.1 ≤ e) (hc : chr tx e (sk tx e s.1) = nI 41) : yB tx e tk ((cs, x :: ws, op, bs), s) = yB tx e tk ((if x = nI 20 then cs else cs ++ [if x = nI 23 then nI 5 else nI 6], ws, op - nI 1, bs), (sk tx e s.1 + 1, s.2)) := by
  have hbr : isBr x = true := by rcases hx with h | h | h <;> rw [h] <;> decide
  have h60 : ¬ nI 60 ≤ x := by rcases hx with h | h | h <;> rw [h] <;> decide
  have hcl : clB x = true := by rcases hx with h | h | h <;> rw [h] <;> decide
  unfold yB
  rw [qEnd_id (qE_hd h60), gOn_close (t := ((cs, x :: ws, op, bs), s)) hs hc (by show clB (qBrk (x :: ws) bs) = true; rw [qBrk_hd hb hbr]; exact hcl)]
  show yF tx e tk (gOn tx e (gCl1 (sk tx e s.1) ((cs, x :: ws, op, bs), s) (qDown cs (x :: ws) bs))) = _
  rw [qDown_hd hbr]
  rfl
theorem gTk_1 {s : Ps} {a b : Int32} (hz : s.2.2.1 = 0) (hs : s.1 ≤ e) (h : chr tx e (sk tx e s.1) = a) : gTk tx e (mLook tx e s) a b = (true, true, (sk tx e s.1 + 1, s.2)) := by
  simp [gTk, mSign, mLook, sk_sk hs, hz, h]
theorem gTk_2 {s : Ps} {a b : Int32} (hz : s.2.2.1 = 0) (hs : s.1 ≤ e) (h1 : ¬ chr tx e (sk tx e s.1) = a) (h : chr tx e (sk tx e s.1) = b) : gTk tx e (mLook tx e s) a b = (true, false, (sk tx e s.1 + 1, s.2)) := by
  rw [← h] at *
  simp [gTk, mSign, mLook, sk_sk hs, hz, h1]
theorem gTk_0 {s : Ps} {a b : Int32} (hz : s.2.2.1 = 0) (hs : s.1 ≤ e) (h1 : ¬ chr tx e (sk tx e s.1) = a) (h : ¬ chr tx e (sk tx e s.1) = b) : gTk tx e (mLook tx e s) a b = (false, false, mLook tx e s) := by
  simp [gTk, mSign, mLook, sk_sk hs, hz, h1, h]
end YRD
