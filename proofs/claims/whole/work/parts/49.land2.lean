/-! a land, told: its statements -/

def nmD (d : Ld) (v : Nat) : Bool := d.2.2.1.any (fun x => decide (x.1 = v)) || d.2.2.2.1.any (fun x => decide (x.1 = v))
def rNew (tx : Nat → Nat) (e : Nat) (d : Ld) (s : Ps) : Nat × Ps := ((mName tx e s).1, mDup (mName tx e s).2 (nmD d (mName tx e s).1))
def rBell (tx : Nat → Nat) (e : Nat) (d : Ld) (s : Ps) (bg : Int32) : Ld × Ps :=
  let s1 := mFull s (nI d.2.2.1.length) (nI 5) bg
  let r2 := rNew tx e d s1
  let r3 := mCell tx e (mAsks tx e r2.2 wAt) (nI d.1.1) (nI d.1.2.1)
  let r4 := mNum tx e (mAsks tx e r3.2 wRope) (nI 0) (nI 99)
  if s1.2.2.1 = 0 then (if r4.2.2.2.1 = 0 then ((d.1, d.2.1, d.2.2.1 ++ [(r2.1, nn r3.1, nn r4.1)], d.2.2.2), r4.2) else (d, r4.2)) else (d, s1)
def rWalk (tx : Nat → Nat) (e : Nat) (d : Ld) (s : Ps) (bg : Int32) : Ld × Ps :=
  let s1 := mFull s (nI d.2.2.2.1.length) (nI 6) bg
  let r2 := rNew tx e d s1
  let r3 := mCell tx e (mAsks tx e r2.2 wFrom) (nI d.1.1) (nI d.1.2.1)
  let r4 := mCell tx e (mAsks tx e r3.2 wTo) (nI d.1.1) (nI d.1.2.1)
  let r5 := mNum tx e (mAsks tx e r4.2 wDoes) (nI 0) (nI 3)
  if s1.2.2.1 = 0 then (if r5.2.2.2.1 = 0 then ((d.1, d.2.1, d.2.2.1, d.2.2.2.1 ++ [(r2.1, nn r3.1, nn r4.1, nn r5.1)], d.2.2.2.2), r5.2) else (d, r5.2)) else (d, s1)
def rChap (tx : Nat → Nat) (e : Nat) (d : Ld) (s : Ps) (bg : Int32) : Ld × Ps :=
  let s1 := mFull s (nI d.2.1.length) (nI 10) bg
  let r := mCell tx e s1 (nI d.1.1) (nI d.1.2.1)
  let s3 := mBadN r.2 (d.2.1.any (fun x => decide (x = nn r.1)) || decide (nn r.1 = d.1.2.2))
  if s1.2.2.1 = 0 then (if s3.2.2.1 = 0 then ((d.1, d.2.1 ++ [nn r.1], d.2.2), s3) else (d, s3)) else (d, s1)
def rCode (tx : Nat → Nat) (e : Nat) (w : Nat) (d : Ld) (s : Ps) (bg : Int32) : Ld × Ps :=
  if d.2.2.2.2.2 w = none then (if (rdCode tx e w s).2.2.2.1 = 0 then ((d.1, d.2.1, d.2.2.1, d.2.2.2.1, d.2.2.2.2.1, fun v => if v = w then some (rdCode tx e w s).1.1 else d.2.2.2.2.2 v), (rdCode tx e w s).2) else (d, (rdCode tx e w s).2))
  else (d, mFail s (nI 5) bg)
def setD (d : Ld) (j v : Nat) : Ld := (d.1, d.2.1, d.2.2.1, d.2.2.2.1, (if j = 0 then v else d.2.2.2.2.1.1, if j = 1 then v else d.2.2.2.2.1.2.1, if j = 2 then v else d.2.2.2.2.1.2.2), d.2.2.2.2.2)
def rSet (tx : Nat → Nat) (e : Nat) (j lo hi : Nat) (d : Ld) (s : Ps) : Ld × Ps := (setD d j (nn (mNum tx e s (nI lo) (nI hi)).1), (mNum tx e s (nI lo) (nI hi)).2)
theorem any_idx {α : Type} {L : List α} {f : Nat → Bool} {p : α → Bool} (h : ∀ i x, L[i]? = some x → f i = p x) : (List.range L.length).any f = L.any p := by
  rw [Bool.eq_iff_iff, List.any_eq_true, List.any_eq_true]
  constructor
  · rintro ⟨i, hi, hf⟩
    have hi' := List.mem_range.mp hi
    have hx := List.getElem?_eq_getElem hi'
    exact ⟨L[i], List.getElem_mem _, by rw [← h i _ hx]; exact hf⟩
  · rintro ⟨x, hx, hp⟩
    obtain ⟨i, hi, he⟩ := List.getElem_of_mem hx
    exact ⟨i, List.mem_range.mpr hi, by rw [h i x (by rw [List.getElem?_eq_getElem hi, he])]; exact hp⟩
section TMS
variable {μ0 μ : Mm} {tx : Nat → Nat} {e st : Nat} {d : Ld} {s : Ps}
theorem q_mem {α : Type} {L : List α} {y : α} {i : Nat} (h : L[i]? = some y) : y ∈ L := List.mem_of_getElem? h
theorem nmD_eq {c : Nat} (hL : LmH μ 0 c d) (hW : Wf d) {v : Nat} (hv : v < 27 ^ 6) : (dk (mL μ 217) 0 d.2.2.1.length (lN v) || dk (mL μ 217) 6 d.2.2.2.1.length (lN v)) = nmD d v := by
  unfold nmD dk
  rw [any_idx (L := d.2.2.1) (p := fun x => decide (x.1 = v)) (fun i x hx => ?_), any_idx (L := d.2.2.2.1) (p := fun x => decide (x.1 = v)) (fun i x hx => ?_)]
  · have h1 := (hL.2.2.2.1 i x hx).1
    have h2 := (hW.2.2.2.1.2 x (q_mem hx)).1
    rw [show (12 * 0 + (6 + i)) = 6 + i by omega] at h1
    rw [h1]
    exact decide_eq_decide.mpr (lN_eq (by omega) (by omega))
  · have h1 := (hL.2.2.1 i x hx).1
    have h2 := (hW.2.2.1.2 x (q_mem hx)).1
    rw [show (12 * 0 + i) = 0 + i by omega] at h1
    rw [h1]
    exact decide_eq_decide.mpr (lN_eq (by omega) (by omega))
theorem clOk_xy {x y : Nat} (hx : x < d.1.1) (hy : y < d.1.2.1) (h7 : d.1.1 ≤ 7) : clOk d (x + 7 * y) := by
  unfold clOk
  omega
theorem nn_nI {v : Nat} (h : v < 2147483648) : nn (nI v) = v := n_cl h
theorem pw_offA (μ : Mm) (s : Ps) {a k : Nat} (h : a ≠ 179) : mI (pw μ s) a k = mI μ a k := pw_off _ _ (Or.inl h)
theorem TM.bad {s' : Ps} {d' : Ld} {st' : Nat} (h : TM μ0 μ d st s) (hb : ¬ s'.2.2.1 = 0) : TM μ0 (pw μ s') d' st' s' := ⟨h.1.pw _, Pf.pw _ _, fun q => absurd q hb⟩
theorem tm_bell (hM : TM μ0 μ d st s) (hz : s.2.2.1 = 0) (hp : s.1 ≤ e) (bg : Int32) : TM μ0 (mBellM tx e μ s bg d.2.2.1.length d.2.2.2.1.length) (rBell tx e d s bg).1 st (rBell tx e d s bg).2 := by
  obtain ⟨hF, hP, hG⟩ := id hM
  obtain ⟨hWf, hst, h56, c, hc, hcs, hL⟩ := hG hz
  have hsx : mI μ 215 0 = nI d.1.1 := hL.1.1.1
  have hsy : mI μ 215 1 = nI d.1.2.1 := hL.1.1.2.1
  unfold mBellM rBell
  dsimp only
  have e2 : ∀ s1, mNewN tx e s1 (mL μ 217) d.2.2.1.length d.2.2.2.1.length = rNew tx e d s1 := fun s1 => by
    unfold mNewN rNew
    rw [nmD_eq hL hWf (mName_lt _)]
  simp only [e2, hsx, hsy]
  by_cases hb1 : (mFull s (nI d.2.2.1.length) (nI 5) bg).2.2.1 = 0
  · obtain ⟨-, e1, hne⟩ := mFull_bad _ _ _ _ hb1
    simp only [e1]
    rw [if_pos hz, if_pos hz]
    have hnb : d.2.2.1.length < 5 := by
      have := hWf.2.2.1.1
      rcases Nat.lt_or_ge d.2.2.1.length 5 with q | q
      · exact q
      · exact absurd (by rw [show d.2.2.1.length = 5 by omega]) hne
    have hv2 : (rNew tx e d s).1 < 27 ^ 6 := mName_lt s
    have hl2 : (rNew tx e d s).2.1 ≤ e := by unfold rNew; dsimp only; rw [mDup_1]; exact mName_le hp
    have hg2 : s.1 ≤ (rNew tx e d s).2.1 := by unfold rNew; dsimp only; rw [mDup_1]; exact mName_ge s hp
    generalize rNew tx e d s = r2 at hv2 hl2 hg2 ⊢
    have hl3 := mAsks_le (tx := tx) wAt hl2
    have hg3 := mAsks_ge (tx := tx) r2.2 wAt hl2
    have hk3 := mCell_ok (tx := tx) (e := e) (mAsks tx e r2.2 wAt) (a := d.1.1) (b := d.1.2.1) (by have := hWf.1; omega) (by have := hWf.1; omega)
    have hl4 := mCell_le (tx := tx) (nI d.1.1) (nI d.1.2.1) hl3
    have hg4 := mCell_ge (tx := tx) (mAsks tx e r2.2 wAt) (nI d.1.1) (nI d.1.2.1) hl3
    generalize mCell tx e (mAsks tx e r2.2 wAt) (nI d.1.1) (nI d.1.2.1) = r3 at hk3 hl4 hg4 ⊢
    have hl5 := mAsks_le (tx := tx) wRope hl4
    have hg5 := mAsks_ge (tx := tx) r3.2 wRope hl4
    have hb5 := mAsks_bad (tx := tx) (e := e) r3.2 wRope
    have hk4 := mNum_ok (tx := tx) (e := e) (mAsks tx e r3.2 wRope) (lo := 0) (hi := 99) (by decide) (by decide)
    have hb6 := mNum_bad (tx := tx) (e := e) (mAsks tx e r3.2 wRope) (nI 0) (nI 99)
    have hg6 := (mNum_ge (tx := tx) (mAsks tx e r3.2 wRope) (nI 0) (nI 99) hl5).1
    generalize mNum tx e (mAsks tx e r3.2 wRope) (nI 0) (nI 99) = r4 at hk4 hb6 hg6 ⊢
    by_cases hb : r4.2.2.2.1 = 0
    · rw [if_pos hb, if_pos hb]
      obtain ⟨v, -, hv, -, e4⟩ := hk4 hb
      obtain ⟨x, y, hx, hy, e3⟩ := hk3 (hb5 (hb6 hb))
      have w7 : d.1.1 ≤ 7 ∧ d.1.2.1 ≤ 7 := ⟨hWf.1.2.1, hWf.1.2.2.2.1⟩
      rw [e4, e3, nn_nI (by omega), nn_nI (by omega)]
      have hoff : ∀ a k, a ≠ 179 → ¬ (a = 216 ∧ k = 0) → ¬ (a = 219 ∧ (k = 2 * d.2.2.1.length ∨ k = 2 * d.2.2.1.length + 1)) → mI (pw (sI (sI (sI (sL μ 217 d.2.2.1.length (lN r2.1)) 219 (2 * d.2.2.1.length) (nI (x + 7 * y))) 219 (2 * d.2.2.1.length + 1) (nI v)) 216 0 (nI (d.2.2.1.length + 1))) r4.2) a k = mI μ a k := fun a k h1 h2 h3 => by
        rw [pw_offA _ _ h1, mI_sI, if_neg h2, mI_sI, if_neg (by omega), mI_sI, if_neg (by omega)]; rfl
      have hfo : ∀ k, k = 55 ∨ k = 56 → mI (pw (sI (sI (sI (sL μ 217 d.2.2.1.length (lN r2.1)) 219 (2 * d.2.2.1.length) (nI (x + 7 * y))) 219 (2 * d.2.2.1.length + 1) (nI v)) 216 0 (nI (d.2.2.1.length + 1))) r4.2) 179 k = mI μ 179 k := fun k hk => by
        rw [pw_off _ _ (Or.inr (by omega)), mI_sI, if_neg (by omega), mI_sI, if_neg (by omega), mI_sI, if_neg (by omega)]; rfl
      have hfl : ∀ k, k ≠ d.2.2.1.length → mL (pw (sI (sI (sI (sL μ 217 d.2.2.1.length (lN r2.1)) 219 (2 * d.2.2.1.length) (nI (x + 7 * y))) 219 (2 * d.2.2.1.length + 1) (nI v)) 216 0 (nI (d.2.2.1.length + 1))) r4.2) 217 k = mL μ 217 k := fun k hk => by
        show (if 217 = 217 ∧ k = d.2.2.1.length then _ else mL μ 217 k) = _
        rw [if_neg (by omega)]
      refine ⟨((((hM.1.stL (by omega) _).st (by unfold TchI; omega) _).st (by unfold TchI; omega) _).st (by unfold TchI; omega) _).pw _, Pf.pw _ _, fun _ => ⟨⟨hWf.1, hWf.2.1, ⟨by simp; omega, fun z hz => ?_⟩, hWf.2.2.2.1, hWf.2.2.2.2⟩, hst, by rw [hfo 56 (Or.inr rfl)]; exact h56, c, by rw [hfo 55 (Or.inl rfl)]; exact hc, by dsimp only; omega, ⟨⟨?_, ?_, ?_⟩, ?_, ?_, ?_, ?_⟩⟩⟩
      · rcases List.mem_append.mp hz with q | q
        · exact hWf.2.2.1.2 z q
        · rw [List.mem_singleton.mp q]
          exact ⟨hv2, clOk_xy hx hy hWf.1.2.1, hv⟩
      · exact ⟨by rw [hoff _ _ (by decide) (by omega) (by omega)]; exact hL.1.1.1, by rw [hoff _ _ (by decide) (by omega) (by omega)]; exact hL.1.1.2.1, by rw [hoff _ _ (by decide) (by omega) (by omega)]; exact hL.1.1.2.2⟩
      · refine ⟨?_, by rw [hoff _ _ (by decide) (by omega) (by omega)]; exact hL.1.2.1.2.1, by rw [hoff _ _ (by decide) (by omega) (by omega)]; exact hL.1.2.1.2.2⟩
        rw [pw_offA _ _ (by decide), mI_sI, if_pos ⟨rfl, rfl⟩]
        simp
      · exact ⟨by rw [hoff _ _ (by decide) (by omega) (by omega)]; exact hL.1.2.2.1, by rw [hoff _ _ (by decide) (by omega) (by omega)]; exact hL.1.2.2.2.1, by rw [hoff _ _ (by decide) (by omega) (by omega)]; exact hL.1.2.2.2.2⟩
      · exact fun i z hz => by rw [hoff _ _ (by decide) (by omega) (by omega)]; exact hL.2.1 i z hz
      · intro i z hz
        rcases app1 hz with ⟨hi, q⟩ | ⟨hi, q⟩
        · rw [hfl _ (by omega), hoff _ _ (by decide) (by omega) (by omega), hoff _ _ (by decide) (by omega) (by omega)]
          exact hL.2.2.1 i z q
        · subst q
          rw [hi]
          refine ⟨?_, ?_, ?_⟩
          · show (if 217 = 217 ∧ 12 * 0 + d.2.2.1.length = d.2.2.1.length then _ else _) = _
            rw [if_pos (by omega)]
          · rw [pw_offA _ _ (by decide), mI_sI, if_neg (by omega), mI_sI, if_neg (by omega), mI_sI, if_pos (by omega)]
          · rw [pw_offA _ _ (by decide), mI_sI, if_neg (by omega), mI_sI, if_pos (by omega)]
      · intro i z hz
        have := q_lt hz
        rw [hfl _ (by omega), hoff _ _ (by decide) (by omega) (by omega), hoff _ _ (by decide) (by omega) (by omega), hoff _ _ (by decide) (by omega) (by omega)]
        exact hL.2.2.2.1 i z hz
      · intro w hw
        obtain ⟨k1, k2⟩ := hL.2.2.2.2 w hw
        refine ⟨fun q => by rw [hoff _ _ (by decide) (by omega) (by omega)]; exact k1 q, fun cs q => ?_⟩
        obtain ⟨f, f1, f2, f3, f4⟩ := k2 cs q
        exact ⟨f, f1, by rw [hoff _ _ (by decide) (by omega) (by omega)]; exact f2, by rw [hoff _ _ (by decide) (by omega) (by omega)]; exact f3, fun i hi => by rw [hoff _ _ (by decide) (by omega) (by omega)]; exact f4 i hi⟩
    · rw [if_neg hb, if_neg hb]
      exact hM.bad hb
  · rw [if_neg hb1, if_neg hb1]
    exact hM.bad hb1
theorem tm_walk (hM : TM μ0 μ d st s) (hz : s.2.2.1 = 0) (hp : s.1 ≤ e) (bg : Int32) : TM μ0 (mWalkM tx e μ s bg d.2.2.1.length d.2.2.2.1.length) (rWalk tx e d s bg).1 st (rWalk tx e d s bg).2 := by
  obtain ⟨hF, hP, hG⟩ := id hM
  obtain ⟨hWf, hst, h56, c, hc, hcs, hL⟩ := hG hz
  have hsx : mI μ 215 0 = nI d.1.1 := hL.1.1.1
  have hsy : mI μ 215 1 = nI d.1.2.1 := hL.1.1.2.1
  unfold mWalkM rWalk
  dsimp only
  have e2 : ∀ s1, mNewN tx e s1 (mL μ 217) d.2.2.1.length d.2.2.2.1.length = rNew tx e d s1 := fun s1 => by
    unfold mNewN rNew
    rw [nmD_eq hL hWf (mName_lt _)]
  simp only [e2, hsx, hsy]
  by_cases hb1 : (mFull s (nI d.2.2.2.1.length) (nI 6) bg).2.2.1 = 0
  · obtain ⟨-, e1, hne⟩ := mFull_bad _ _ _ _ hb1
    simp only [e1]
    rw [if_pos hz, if_pos hz]
    have hnb : d.2.2.2.1.length < 6 := by
      have := hWf.2.2.2.1.1
      rcases Nat.lt_or_ge d.2.2.2.1.length 6 with q | q
      · exact q
      · exact absurd (by rw [show d.2.2.2.1.length = 6 by omega]) hne
    have hv2 : (rNew tx e d s).1 < 27 ^ 6 := mName_lt s
    have hl2 : (rNew tx e d s).2.1 ≤ e := by unfold rNew; dsimp only; rw [mDup_1]; exact mName_le hp
    have hg2 : s.1 ≤ (rNew tx e d s).2.1 := by unfold rNew; dsimp only; rw [mDup_1]; exact mName_ge s hp
    generalize rNew tx e d s = r2 at hv2 hl2 hg2 ⊢
    have hl3 := mAsks_le (tx := tx) wFrom hl2
    have hg3 := mAsks_ge (tx := tx) r2.2 wFrom hl2
    have hk3 := mCell_ok (tx := tx) (e := e) (mAsks tx e r2.2 wFrom) (a := d.1.1) (b := d.1.2.1) (by have := hWf.1; omega) (by have := hWf.1; omega)
    have hl4 := mCell_le (tx := tx) (nI d.1.1) (nI d.1.2.1) hl3
    have hg4 := mCell_ge (tx := tx) (mAsks tx e r2.2 wFrom) (nI d.1.1) (nI d.1.2.1) hl3
    generalize mCell tx e (mAsks tx e r2.2 wFrom) (nI d.1.1) (nI d.1.2.1) = r3 at hk3 hl4 hg4 ⊢
    have hl5 := mAsks_le (tx := tx) wTo hl4
    have hg5 := mAsks_ge (tx := tx) r3.2 wTo hl4
    have hb5 := mAsks_bad (tx := tx) (e := e) r3.2 wTo
    have hk4 := mCell_ok (tx := tx) (e := e) (mAsks tx e r3.2 wTo) (a := d.1.1) (b := d.1.2.1) (by have := hWf.1; omega) (by have := hWf.1; omega)
    have hb6 := mCell_bad (tx := tx) (e := e) (mAsks tx e r3.2 wTo) (nI d.1.1) (nI d.1.2.1)
    have hl6 := mCell_le (tx := tx) (nI d.1.1) (nI d.1.2.1) hl5
    have hg6 := mCell_ge (tx := tx) (mAsks tx e r3.2 wTo) (nI d.1.1) (nI d.1.2.1) hl5
    generalize mCell tx e (mAsks tx e r3.2 wTo) (nI d.1.1) (nI d.1.2.1) = r4 at hk4 hb6 hl6 hg6 ⊢
    have hl7 := mAsks_le (tx := tx) wDoes hl6
    have hg7 := mAsks_ge (tx := tx) r4.2 wDoes hl6
    have hb7 := mAsks_bad (tx := tx) (e := e) r4.2 wDoes
    have hk5 := mNum_ok (tx := tx) (e := e) (mAsks tx e r4.2 wDoes) (lo := 0) (hi := 3) (by decide) (by decide)
    have hb8 := mNum_bad (tx := tx) (e := e) (mAsks tx e r4.2 wDoes) (nI 0) (nI 3)
    have hg8 := (mNum_ge (tx := tx) (mAsks tx e r4.2 wDoes) (nI 0) (nI 3) hl7).1
    generalize mNum tx e (mAsks tx e r4.2 wDoes) (nI 0) (nI 3) = r5 at hk5 hb8 hg8 ⊢
    by_cases hb : r5.2.2.2.1 = 0
    · rw [if_pos hb, if_pos hb]
      obtain ⟨v, -, hv, -, e5⟩ := hk5 hb
      have hr4 := hb7 (hb8 hb)
      obtain ⟨x2, y2, hx2, hy2, e4⟩ := hk4 hr4
      obtain ⟨x, y, hx, hy, e3⟩ := hk3 (hb5 (hb6 hr4))
      have w7 : d.1.1 ≤ 7 ∧ d.1.2.1 ≤ 7 := ⟨hWf.1.2.1, hWf.1.2.2.2.1⟩
      rw [e5, e4, e3, nn_nI (by omega), nn_nI (by omega), nn_nI (by omega)]
      generalize hMm : pw (sI (sI (sI (sI (sL μ 217 (6 + d.2.2.2.1.length) (lN r2.1)) 220 (5 * d.2.2.2.1.length) (nI (x + 7 * y))) 220 (5 * d.2.2.2.1.length + 1) (nI (x2 + 7 * y2))) 220 (5 * d.2.2.2.1.length + 2) (nI v)) 216 1 (nI (d.2.2.2.1.length + 1))) r5.2 = M
      have hoff : ∀ a k, a ≠ 179 → ¬ (a = 216 ∧ k = 1) → ¬ (a = 220 ∧ (k = 5 * d.2.2.2.1.length ∨ k = 5 * d.2.2.2.1.length + 1 ∨ k = 5 * d.2.2.2.1.length + 2)) → mI M a k = mI μ a k := fun a k h1 h2 h3 => by
        rw [← hMm, pw_offA _ _ h1, mI_sI, if_neg h2, mI_sI, if_neg (by omega), mI_sI, if_neg (by omega), mI_sI, if_neg (by omega)]; rfl
      have hfo : ∀ k, k = 55 ∨ k = 56 → mI M 179 k = mI μ 179 k := fun k hk => by
        rw [← hMm, pw_off _ _ (Or.inr (by omega)), mI_sI, if_neg (by omega), mI_sI, if_neg (by omega), mI_sI, if_neg (by omega), mI_sI, if_neg (by omega)]; rfl
      have hfl : ∀ k, k ≠ 6 + d.2.2.2.1.length → mL M 217 k = mL μ 217 k := fun k hk => by
        rw [← hMm]
        show (if 217 = 217 ∧ k = 6 + d.2.2.2.1.length then _ else mL μ 217 k) = _
        rw [if_neg (by omega)]
      refine ⟨by rw [← hMm]; exact (((((hM.1.stL (by omega) _).st (by unfold TchI; omega) _).st (by unfold TchI; omega) _).st (by unfold TchI; omega) _).st (by unfold TchI; omega) _).pw _, by rw [← hMm]; exact Pf.pw _ _, fun _ => ⟨⟨hWf.1, hWf.2.1, hWf.2.2.1, ⟨by simp; omega, fun z hz => ?_⟩, hWf.2.2.2.2⟩, hst, by rw [hfo 56 (Or.inr rfl)]; exact h56, c, by rw [hfo 55 (Or.inl rfl)]; exact hc, by dsimp only; omega, ⟨⟨?_, ?_, ?_⟩, ?_, ?_, ?_, ?_⟩⟩⟩
      · rcases List.mem_append.mp hz with q | q
        · exact hWf.2.2.2.1.2 z q
        · rw [List.mem_singleton.mp q]
          exact ⟨hv2, clOk_xy hx hy hWf.1.2.1, clOk_xy hx2 hy2 hWf.1.2.1, hv⟩
      · exact ⟨by rw [hoff _ _ (by decide) (by omega) (by omega)]; exact hL.1.1.1, by rw [hoff _ _ (by decide) (by omega) (by omega)]; exact hL.1.1.2.1, by rw [hoff _ _ (by decide) (by omega) (by omega)]; exact hL.1.1.2.2⟩
      · refine ⟨by rw [hoff _ _ (by decide) (by omega) (by omega)]; exact hL.1.2.1.1, ?_, by rw [hoff _ _ (by decide) (by omega) (by omega)]; exact hL.1.2.1.2.2⟩
        rw [← hMm, pw_offA _ _ (by decide), mI_sI, if_pos ⟨rfl, rfl⟩]
        simp
      · exact ⟨by rw [hoff _ _ (by decide) (by omega) (by omega)]; exact hL.1.2.2.1, by rw [hoff _ _ (by decide) (by omega) (by omega)]; exact hL.1.2.2.2.1, by rw [hoff _ _ (by decide) (by omega) (by omega)]; exact hL.1.2.2.2.2⟩
      · exact fun i z hz => by rw [hoff _ _ (by decide) (by omega) (by omega)]; exact hL.2.1 i z hz
      · intro i z hz
        have := q_lt hz
        have := hWf.2.2.1.1
        dsimp only at *
        rw [hfl _ (by omega), hoff _ _ (by decide) (by omega) (by omega), hoff _ _ (by decide) (by omega) (by omega)]
        exact hL.2.2.1 i z hz
      · intro i z hz
        rcases app1 hz with ⟨hi, q⟩ | ⟨hi, q⟩
        · rw [hfl _ (by omega), hoff _ _ (by decide) (by omega) (by omega), hoff _ _ (by decide) (by omega) (by omega), hoff _ _ (by decide) (by omega) (by omega)]
          exact hL.2.2.2.1 i z q
        · subst q
          rw [hi, ← hMm]
          refine ⟨?_, ?_, ?_, ?_⟩
          · show (if 217 = 217 ∧ 12 * 0 + (6 + d.2.2.2.1.length) = 6 + d.2.2.2.1.length then _ else _) = _
            rw [if_pos (by omega)]
          · rw [pw_offA _ _ (by decide), mI_sI, if_neg (by omega), mI_sI, if_neg (by omega), mI_sI, if_neg (by omega), mI_sI, if_pos (by omega)]
          · rw [pw_offA _ _ (by decide), mI_sI, if_neg (by omega), mI_sI, if_neg (by omega), mI_sI, if_pos (by omega)]
          · rw [pw_offA _ _ (by decide), mI_sI, if_neg (by omega), mI_sI, if_pos (by omega)]
      · intro w hw
        obtain ⟨k1, k2⟩ := hL.2.2.2.2 w hw
        refine ⟨fun q => by rw [hoff _ _ (by decide) (by omega) (by omega)]; exact k1 q, fun cs q => ?_⟩
        obtain ⟨f, f1, f2, f3, f4⟩ := k2 cs q
        exact ⟨f, f1, by rw [hoff _ _ (by decide) (by omega) (by omega)]; exact f2, by rw [hoff _ _ (by decide) (by omega) (by omega)]; exact f3, fun i hi => by rw [hoff _ _ (by decide) (by omega) (by omega)]; exact f4 i hi⟩
    · rw [if_neg hb, if_neg hb]
      exact hM.bad hb
  · rw [if_neg hb1, if_neg hb1]
    exact hM.bad hb1
theorem tm_chap (hM : TM μ0 μ d st s) (hz : s.2.2.1 = 0) (hp : s.1 ≤ e) (bg : Int32) : TM μ0 (mChapM tx e μ s bg d.2.1.length) (rChap tx e d s bg).1 st (rChap tx e d s bg).2 := by
  obtain ⟨hF, hP, hG⟩ := id hM
  obtain ⟨hWf, hst, h56, c, hc, hcs, hL⟩ := hG hz
  have hsx : mI μ 215 0 = nI d.1.1 := hL.1.1.1
  have hsy : mI μ 215 1 = nI d.1.2.1 := hL.1.1.2.1
  have hsh : mI μ 215 2 = nI d.1.2.2 := hL.1.1.2.2
  have w7 : d.1.1 ≤ 7 ∧ d.1.2.1 ≤ 7 := ⟨hWf.1.2.1, hWf.1.2.2.2.1⟩
  have clB : ∀ c, clOk d c → c < 49 := fun c h => by unfold clOk at h; omega
  unfold mChapM rChap
  dsimp only
  simp only [hsx, hsy, hsh]
  by_cases hb1 : (mFull s (nI d.2.1.length) (nI 10) bg).2.2.1 = 0
  · obtain ⟨-, e1, hne⟩ := mFull_bad _ _ _ _ hb1
    simp only [e1]
    rw [if_pos hz, if_pos hz]
    have hnb : d.2.1.length < 10 := by
      have := hWf.2.1.1
      rcases Nat.lt_or_ge d.2.1.length 10 with q | q
      · exact q
      · exact absurd (by rw [show d.2.1.length = 10 by omega]) hne
    have hk3 := mCell_ok (tx := tx) (e := e) s (a := d.1.1) (b := d.1.2.1) (by have := hWf.1; omega) (by have := hWf.1; omega)
    have hv3 := mCell_v (tx := tx) (e := e) s (nI d.1.1) (nI d.1.2.1)
    have hl4 := mCell_le (tx := tx) (nI d.1.1) (nI d.1.2.1) hp
    have hg4 := mCell_ge (tx := tx) s (nI d.1.1) (nI d.1.2.1) hp
    generalize mCell tx e s (nI d.1.1) (nI d.1.2.1) = r at hk3 hl4 hg4 hv3 ⊢
    obtain ⟨v, hv, ev⟩ := hv3
    have hdup : (cdk (mI μ 218) d.2.1.length r.1 || decide (r.1 = nI d.1.2.2)) = (d.2.1.any (fun x => decide (x = nn r.1)) || decide (nn r.1 = d.1.2.2)) := by
      unfold cdk
      rw [ev, nn_nI (by omega), any_idx (L := d.2.1) (p := fun x => decide (x = v)) (fun i x hx => ?_)]
      · congr 1
        have := clB _ hWf.1.2.2.2.2
        exact decide_eq_decide.mpr (nI_eq (by omega) (by omega))
      · have h1 := hL.2.1 i x hx
        have h2 := clB _ (hWf.2.1.2 x (q_mem hx))
        rw [show (10 * 0 + i) = i by omega] at h1
        rw [h1]
        exact decide_eq_decide.mpr (nI_eq (by omega) (by omega))
    rw [hdup]
    generalize hB : (d.2.1.any (fun x => decide (x = nn r.1)) || decide (nn r.1 = d.1.2.2)) = B
    have hb1' := mBadN_1 r.2 B
    have hbb := mBadN_bad r.2 B
    generalize mBadN r.2 B = s3 at hb1' hbb ⊢
    by_cases hb : s3.2.2.1 = 0
    · rw [if_pos hb, if_pos hb]
      obtain ⟨x, y, hx, hy, e3⟩ := hk3 (hbb hb).1
      rw [e3, nn_nI (by omega)]
      generalize hMm : pw (sI (sI μ 218 d.2.1.length (nI (x + 7 * y))) 216 2 (nI (d.2.1.length + 1))) s3 = M
      have hoff : ∀ a k, a ≠ 179 → ¬ (a = 216 ∧ k = 2) → ¬ (a = 218 ∧ k = d.2.1.length) → mI M a k = mI μ a k := fun a k h1 h2 h3 => by
        rw [← hMm, pw_offA _ _ h1, mI_sI, if_neg h2, mI_sI, if_neg h3]
      have hfo : ∀ k, k = 55 ∨ k = 56 → mI M 179 k = mI μ 179 k := fun k hk => by
        rw [← hMm, pw_off _ _ (Or.inr (by omega)), mI_sI, if_neg (by omega), mI_sI, if_neg (by omega)]
      have hfl : ∀ k, mL M 217 k = mL μ 217 k := fun k => by rw [← hMm]; rfl
      refine ⟨by rw [← hMm]; exact ((hM.1.st (by unfold TchI; omega) _).st (by unfold TchI; omega) _).pw _, by rw [← hMm]; exact Pf.pw _ _, fun _ => ⟨⟨hWf.1, ⟨by simp; omega, fun z hz => ?_⟩, hWf.2.2⟩, hst, by rw [hfo 56 (Or.inr rfl)]; exact h56, c, by rw [hfo 55 (Or.inl rfl)]; exact hc, by dsimp only; omega, ⟨⟨?_, ?_, ?_⟩, ?_, ?_, ?_, ?_⟩⟩⟩
      · rcases List.mem_append.mp hz with q | q
        · exact hWf.2.1.2 z q
        · rw [List.mem_singleton.mp q]
          exact clOk_xy hx hy hWf.1.2.1
      · exact ⟨by rw [hoff _ _ (by decide) (by omega) (by omega)]; exact hL.1.1.1, by rw [hoff _ _ (by decide) (by omega) (by omega)]; exact hL.1.1.2.1, by rw [hoff _ _ (by decide) (by omega) (by omega)]; exact hL.1.1.2.2⟩
      · refine ⟨by rw [hoff _ _ (by decide) (by omega) (by omega)]; exact hL.1.2.1.1, by rw [hoff _ _ (by decide) (by omega) (by omega)]; exact hL.1.2.1.2.1, ?_⟩
        rw [← hMm, pw_offA _ _ (by decide), mI_sI, if_pos ⟨rfl, rfl⟩]
        simp
      · exact ⟨by rw [hoff _ _ (by decide) (by omega) (by omega)]; exact hL.1.2.2.1, by rw [hoff _ _ (by decide) (by omega) (by omega)]; exact hL.1.2.2.2.1, by rw [hoff _ _ (by decide) (by omega) (by omega)]; exact hL.1.2.2.2.2⟩
      · intro i z hz
        rcases app1 hz with ⟨hi, q⟩ | ⟨hi, q⟩
        · rw [hoff _ _ (by decide) (by omega) (by omega)]
          exact hL.2.1 i z q
        · subst q
          rw [hi, ← hMm, pw_offA _ _ (by decide), mI_sI, if_neg (by omega), mI_sI, if_pos (by omega)]
      · intro i z hz
        rw [hfl _, hoff _ _ (by decide) (by omega) (by omega), hoff _ _ (by decide) (by omega) (by omega)]
        exact hL.2.2.1 i z hz
      · intro i z hz
        rw [hfl _, hoff _ _ (by decide) (by omega) (by omega), hoff _ _ (by decide) (by omega) (by omega), hoff _ _ (by decide) (by omega) (by omega)]
        exact hL.2.2.2.1 i z hz
      · intro w hw
        obtain ⟨k1, k2⟩ := hL.2.2.2.2 w hw
        refine ⟨fun q => by rw [hoff _ _ (by decide) (by omega) (by omega)]; exact k1 q, fun cs q => ?_⟩
        obtain ⟨f, f1, f2, f3, f4⟩ := k2 cs q
        exact ⟨f, f1, by rw [hoff _ _ (by decide) (by omega) (by omega)]; exact f2, by rw [hoff _ _ (by decide) (by omega) (by omega)]; exact f3, fun i hi => by rw [hoff _ _ (by decide) (by omega) (by omega)]; exact f4 i hi⟩
    · rw [if_neg hb, if_neg hb]
      exact hM.bad hb
  · rw [if_neg hb1, if_neg hb1]
    exact hM.bad hb1
/-- codes -/
theorem tm_code {w c : Nat} {μ' : Mm} (he : e ≤ 1600) (hw : w < 3) (hM : TM μ0 μ d st s) (hz : s.2.2.1 = 0) (hp : s.1 ≤ e) (bg : Int32) (hc : mI μ 179 55 = nI c) (hcs : c ≤ s.1) (h : CdP μ μ' w c (codeT tx e w s (mI μ 222 w = -1) bg)) : TM μ0 μ' (rCode tx e w d s bg).1 st (rCode tx e w d s bg).2 := by
  obtain ⟨hF, hP, hG⟩ := id hM
  obtain ⟨hWf, hst, h56, c', hc', hcs', hL⟩ := hG hz
  have hcc : c = c' := n_eq (by rw [← hc, hc'])
  subst hcc
  obtain ⟨⟨f1, f2, f3, f4⟩, g1, g2⟩ := h
  obtain ⟨i1, i2⟩ := rdCode_iv (tx := tx) (w := w) he hz hp
  have hfr : mI μ 222 w = -1 ↔ d.2.2.2.2.2 w = none := by
    obtain ⟨k1, k2⟩ := hL.2.2.2.2 w hw
    rw [show 3 * 0 + w = w by omega] at k1 k2
    constructor
    · intro h
      cases hn : d.2.2.2.2.2 w with
      | none => rfl
      | some cs =>
        obtain ⟨f, q1, q2, -, -⟩ := k2 cs hn
        rw [q2] at h
        exact absurd h (n_m1 (by omega))
    · exact k1
  have hfr2 : FR μ0 μ' := hF.trans ⟨by rw [f1], fun a k _ => by show μ'.2.1 a k = μ.2.1 a k; rw [f1], fun a k q => by
    by_cases ha : a = 179
    · subst ha
      exact f3 k (by unfold TchI at q; omega) (by unfold TchI at q; omega) (by unfold TchI at q; omega) (by unfold TchI at q; omega) (by unfold TchI at q; omega) (by unfold TchI at q; omega) (by unfold TchI at q; omega) (by unfold TchI at q; omega) (by unfold TchI at q; omega) (by unfold TchI at q; omega) (by unfold TchI at q; omega) (by unfold TchI at q; omega)
    · by_cases hb : a = 222 ∨ a = 223 ∨ a = 224
      · by_cases hzz : (codeT tx e w s (mI μ 222 w = -1) bg).2.2.2.1 = 0
        · obtain ⟨-, -, -, k4, -, k6⟩ := g1 hzz
          unfold codeT at hzz k6
          by_cases hq : mI μ 222 w = -1
          · rw [if_pos hq] at hzz k6
            have := i1.2.2.2 hzz
            have := i1.1
            dsimp only [tln] at *
            rcases hb with h | h | h
            · subst h; exact (k4 k (by unfold TchI at q; omega)).1
            · subst h; exact (k4 k (by unfold TchI at q; omega)).2
            · subst h; exact k6 k (by unfold TchI at q; omega)
          · rw [if_neg hq] at hzz
            exact absurd hzz (mFail_0 _ _ _ (by decide))
        · exact g2 hzz a k hb
      · exact f2 a k ha (by unfold TchI at q; omega) (by unfold TchI at q; omega) (by omega) (by omega) (by omega)⟩
  unfold rCode
  unfold codeT at f4 g1 g2
  by_cases hq : mI μ 222 w = -1
  · rw [if_pos hq] at f4 g1 g2
    rw [if_pos (hfr.mp hq)]
    by_cases hb : (rdCode tx e w s).2.2.2.1 = 0
    · rw [if_pos hb]
      obtain ⟨k1, k2, k3, k4, k5, k6⟩ := g1 hb
      have hln := i1.2.2.2 hb
      have hle := i1.1
      dsimp only [tln] at hln
      have hA : ∀ a k, a = 215 ∨ a = 216 ∨ a = 218 ∨ a = 219 ∨ a = 220 ∨ a = 221 → mI μ' a k = mI μ a k := fun a k h => f2 a k (by omega) (by omega) (by omega) (by omega) (by omega) (by omega)
      have hLl : mL μ' = mL μ := by unfold mL; rw [f1]
      refine ⟨hfr2, f4, fun _ => ⟨hWf, hst, by rw [f3 56 (by decide) (by decide) (by decide) (by decide) (by decide) (by decide) (by decide) (by decide) (by decide) (by decide) (by decide) (by decide)]; exact h56, c + (rdCode tx e w s).1.1.length, k1, by dsimp only; omega, ⟨⟨?_, ?_, ?_⟩, ?_, ?_, ?_, ?_⟩⟩⟩
      · exact ⟨by rw [hA _ _ (by decide)]; exact hL.1.1.1, by rw [hA _ _ (by decide)]; exact hL.1.1.2.1, by rw [hA _ _ (by decide)]; exact hL.1.1.2.2⟩
      · exact ⟨by rw [hA _ _ (by decide)]; exact hL.1.2.1.1, by rw [hA _ _ (by decide)]; exact hL.1.2.1.2.1, by rw [hA _ _ (by decide)]; exact hL.1.2.1.2.2⟩
      · exact ⟨by rw [hA _ _ (by decide)]; exact hL.1.2.2.1, by rw [hA _ _ (by decide)]; exact hL.1.2.2.2.1, by rw [hA _ _ (by decide)]; exact hL.1.2.2.2.2⟩
      · exact fun i z hz => by rw [hA _ _ (by decide)]; exact hL.2.1 i z hz
      · exact fun i z hz => by rw [hA _ _ (by decide), hA _ _ (by decide), hLl]; exact hL.2.2.1 i z hz
      · exact fun i z hz => by rw [hA _ _ (by decide), hA _ _ (by decide), hA _ _ (by decide), hLl]; exact hL.2.2.2.1 i z hz
      · intro v hv
        dsimp only
        by_cases hvw : v = w
        · subst hvw
          rw [if_pos rfl]
          refine ⟨fun q => by (cases q), fun cs q => ?_⟩
          have q2 : (rdCode tx e v s).1.1 = cs := Option.some.inj q
          refine ⟨c, by rw [← q2]; omega, by rw [show 3 * 0 + v = v by omega]; exact k2, by rw [show 3 * 0 + v = v by omega, ← q2]; exact k3, fun i hi => ?_⟩
          rw [show 1600 * 0 + (c + i) = c + i by omega, ← q2]
          exact k5 i (by rw [q2]; exact hi)
        · rw [if_neg hvw]
          obtain ⟨l1, l2⟩ := hL.2.2.2.2 v hv
          refine ⟨fun q => by rw [show 3 * 0 + v = v by omega, (k4 v hvw).1]; have := l1 q; rw [show 3 * 0 + v = v by omega] at this; exact this, fun cs q => ?_⟩
          obtain ⟨f, m1, m2, m3, m4⟩ := l2 cs q
          rw [show 3 * 0 + v = v by omega] at m2 m3 ⊢
          exact ⟨f, by omega, by rw [(k4 v hvw).1]; exact m2, by rw [(k4 v hvw).2]; exact m3, fun i hi => by rw [k6 _ (by omega)]; exact m4 i hi⟩
    · rw [if_neg hb]
      exact ⟨hfr2, f4, fun q => absurd q hb⟩
  · rw [if_neg hq] at f4
    rw [if_neg (fun z => hq (hfr.mpr z))]
    exact ⟨hfr2, f4, fun q => absurd q (mFail_0 _ _ _ (by decide))⟩
/-- a setting -/
theorem tm_set {j lo hi : Nat} (hj : j < 3) (hh : (j = 0 ∧ lo = 1 ∧ hi = 99) ∨ (j = 1 ∧ lo = 0 ∧ hi = 999) ∨ (j = 2 ∧ lo = 0 ∧ hi = 100)) (hM : TM μ0 μ d st s) (hp : s.1 ≤ e) : TM μ0 (sI (pw μ (mNum tx e s (nI lo) (nI hi)).2) 221 j (mNum tx e s (nI lo) (nI hi)).1) (rSet tx e j lo hi d s).1 st (rSet tx e j lo hi d s).2 := by
  obtain ⟨hF, hP, hG⟩ := id hM
  unfold rSet
  dsimp only
  have hk := mNum_ok (tx := tx) (e := e) s (lo := lo) (hi := hi) (by omega) (by omega)
  have hb := mNum_bad (tx := tx) (e := e) s (nI lo) (nI hi)
  have hg := (mNum_ge (tx := tx) s (nI lo) (nI hi) hp).1
  generalize mNum tx e s (nI lo) (nI hi) = r at hk hb hg ⊢
  rw [pw_a _ _ (by decide)]
  refine ⟨(hF.st (by unfold TchI; omega) _).pw _, Pf.pw _ _, fun hz2 => ?_⟩
  obtain ⟨hWf, hst, h56, c, hc, hcs, hL⟩ := hG (hb hz2)
  obtain ⟨v, hv1, hv2, -, ev⟩ := hk hz2
  rw [ev, nn_nI (by omega)]
  have hoff : ∀ a k, a ≠ 179 → ¬ (a = 221 ∧ k = j) → mI (pw (sI μ 221 j (nI v)) r.2) a k = mI μ a k := fun a k h1 h2 => by rw [pw_offA _ _ h1, mI_sI, if_neg h2]
  have hfo : ∀ k, k = 55 ∨ k = 56 → mI (pw (sI μ 221 j (nI v)) r.2) 179 k = mI μ 179 k := fun k hk => by rw [pw_off _ _ (Or.inr (by omega)), mI_sI, if_neg (by omega)]
  have hon : ∀ k w, mI μ 221 k = nI w → mI (pw (sI μ 221 j (nI v)) r.2) 221 k = nI (if j = k then v else w) := fun k w q => by
    rw [pw_offA _ _ (by decide), mI_sI]
    by_cases hjk : j = k
    · rw [if_pos ⟨rfl, hjk.symm⟩, if_pos hjk]
    · rw [if_neg (fun z => hjk z.2.symm), if_neg hjk]; exact q
  refine ⟨⟨hWf.1, hWf.2.1, hWf.2.2.1, hWf.2.2.2.1, ?_⟩, hst, by rw [hfo 56 (Or.inr rfl)]; exact h56, c, by rw [hfo 55 (Or.inl rfl)]; exact hc, by omega, ⟨⟨?_, ?_, ?_⟩, ?_, ?_, ?_, ?_⟩⟩
  · have := hWf.2.2.2.2
    unfold setD
    dsimp only
    rcases hh with ⟨h, h2, h3⟩ | ⟨h, h2, h3⟩ | ⟨h, h2, h3⟩ <;> subst h <;> simp <;> omega
  · exact ⟨by rw [hoff _ _ (by decide) (by omega)]; exact hL.1.1.1, by rw [hoff _ _ (by decide) (by omega)]; exact hL.1.1.2.1, by rw [hoff _ _ (by decide) (by omega)]; exact hL.1.1.2.2⟩
  · exact ⟨by rw [hoff _ _ (by decide) (by omega)]; exact hL.1.2.1.1, by rw [hoff _ _ (by decide) (by omega)]; exact hL.1.2.1.2.1, by rw [hoff _ _ (by decide) (by omega)]; exact hL.1.2.1.2.2⟩
  · exact ⟨hon _ _ hL.1.2.2.1, hon _ _ hL.1.2.2.2.1, hon _ _ hL.1.2.2.2.2⟩
  · exact fun i z hz => by rw [hoff _ _ (by decide) (by omega)]; exact hL.2.1 i z hz
  · exact fun i z hz => by rw [hoff _ _ (by decide) (by omega), hoff _ _ (by decide) (by omega)]; exact hL.2.2.1 i z hz
  · exact fun i z hz => by rw [hoff _ _ (by decide) (by omega), hoff _ _ (by decide) (by omega), hoff _ _ (by decide) (by omega)]; exact hL.2.2.2.1 i z hz
  · intro w hw
    obtain ⟨k1, k2⟩ := hL.2.2.2.2 w hw
    refine ⟨fun q => by rw [hoff _ _ (by decide) (by omega)]; exact k1 q, fun cs q => ?_⟩
    obtain ⟨f, f1, f2, f3, f4⟩ := k2 cs q
    exact ⟨f, f1, by rw [hoff _ _ (by decide) (by omega)]; exact f2, by rw [hoff _ _ (by decide) (by omega)]; exact f3, fun i hi => by rw [hoff _ _ (by decide) (by omega)]; exact f4 i hi⟩
end TMS
