/-! what waits and is joined next may as well be told at once; loops of the class against the yard -/
section YR2
variable {tx : Nat → Nat} {e : Nat} {tk : Int32}
theorem yF_bad {q : Qt} {s : Ps} (h : ¬ s.2.2.1 = 0) : yF tx e tk (false, (q, s)) = .inr (s.2.2.1, s.2.2.2.1) := by
  unfold yF
  rw [if_neg Bool.false_ne_true, tAll_bad (t := (q, s)) h, yR_bad (t := (q, s)) h]
theorem yF_end {cs ws : List Int32} {op : Int32} {bs : Nat} {s : Ps} (h : s.2.2.1 = 0) : yF tx e tk (false, ((cs, ws, op, bs), s)) = .inl (((qAllD cs ws bs).1, (qAllD cs ws bs).2, op, bs), mLook tx e s) := by
  unfold yF
  rw [if_neg Bool.false_ne_true]
  unfold tAll
  rw [if_pos (show (((cs, ws, op, bs), s) : Tt).2.2.2.1 = 0 from h)]
  unfold yR
  rw [if_pos h]
theorem yF_true (t : Tt) : yF tx e tk (true, t) = yA tx e tk t := by
  unfold yF yA
  rw [if_pos rfl]
theorem gTk_n {s : Ps} {a b : Int32} (hz : s.2.2.1 = 0) (hs : s.1 ≤ e) (h : ¬ (gTk tx e (mLook tx e s) a b).1 = true) : gTk tx e (mLook tx e s) a b = (false, false, mLook tx e s) := by
  by_cases c1 : chr tx e (sk tx e s.1) = a
  · exact absurd (by rw [gTk_1 hz hs c1]) h
  · by_cases c2 : chr tx e (sk tx e s.1) = b
    · exact absurd (by rw [gTk_2 hz hs c1 c2]) h
    · exact gTk_0 hz hs c1 c2
theorem yB_drop {cs ws : List Int32} {w op : Int32} {bs : Nat} {s : Ps} (hS : addS w = true) (hm : mulS w = true ∨ (¬ chr tx e (sk tx e s.1) = nI 42 ∧ ¬ chr tx e (sk tx e s.1) = nI 47)) (hq : qE ws bs) (hb : bs ≤ ws.length) (hz : s.2.2.1 = 0) (hs : s.1 ≤ e) : yB tx e tk ((cs, w :: ws, op, bs), s) = yB tx e tk ((cs ++ [w], ws, op, bs), s) := by
  have hw : w = nI 3 ∨ w = nI 4 ∨ w = nI 1 ∨ w = nI 2 := by
    unfold addS at hS
    simp only [Bool.or_eq_true, decide_eq_true_eq] at hS
    rcases hS with ((h | h) | h) | h <;> simp [h]
  have hbr : isBr w = false := by rcases hw with h | h | h | h <;> rw [h] <;> decide
  have h60 : ¬ nI 60 ≤ w := by rcases hw with h | h | h | h <;> rw [h] <;> decide
  have b1 : qBrk (w :: ws) bs = qBrk ws bs := by
    conv => lhs; unfold qBrk
    rw [if_pos hb, if_neg (by rw [hbr]; decide)]
  have d1 : qDown cs (w :: ws) bs = qDown (cs ++ [w]) ws bs := by
    conv => lhs; unfold qDown
    rw [if_pos ⟨hb, hbr⟩]
  have a1 : qAllD cs (w :: ws) bs = qAllD (cs ++ [w]) ws bs := by
    conv => lhs; unfold qAllD
    rw [if_pos hb]
  have t2 : qTop addS cs (w :: ws) = qTop addS (cs ++ [w]) ws := by
    conv => lhs; unfold qTop
    rw [if_pos hS]
  unfold yB
  rw [qEnd_id (qE_hd h60), qEnd_id hq]
  by_cases hc : chr tx e (sk tx e s.1) = nI 41 ∧ clB (qBrk ws bs) = true
  · rw [gOn_close (t := ((cs, w :: ws, op, bs), s)) hs hc.1 (by show clB (qBrk (w :: ws) bs) = true; rw [b1]; exact hc.2), gOn_close (t := ((cs ++ [w], ws, op, bs), s)) hs hc.1 hc.2]
    show yF tx e tk (gOn tx e (gCl1 (sk tx e s.1) ((cs, w :: ws, op, bs), s) (qDown cs (w :: ws) bs))) = yF tx e tk (gOn tx e (gCl1 (sk tx e s.1) ((cs ++ [w], ws, op, bs), s) (qDown (cs ++ [w]) ws bs)))
    rw [d1]
    rfl
  · rw [gOn_no (t := ((cs, w :: ws, op, bs), s)) (by show ¬ (chr tx e (sk tx e s.1) = nI 41 ∧ clB (qBrk (w :: ws) bs) = true); rw [b1]; exact hc), gOn_no (t := ((cs ++ [w], ws, op, bs), s)) hc]
    show yF tx e tk (gRest tx e ((cs, w :: ws, op, bs), mLook tx e s)) = yF tx e tk (gRest tx e ((cs ++ [w], ws, op, bs), mLook tx e s))
    unfold gRest
    dsimp only
    by_cases h1 : (gTk tx e (mLook tx e s) (nI 42) (nI 47)).1 = true
    · rw [if_pos h1, if_pos h1]
      have hmw : mulS w = true := by
        rcases hm with h | h
        · exact h
        · rw [gTk_0 hz hs h.1 h.2] at h1
          exact absurd h1 Bool.false_ne_true
      have t1 : qTop mulS cs (w :: ws) = qTop mulS (cs ++ [w]) ws := by
        conv => lhs; unfold qTop
        rw [if_pos hmw]
      rw [t1]
    · rw [if_neg h1, if_neg h1, gTk_n hz hs h1]
      dsimp only
      unfold gPlus
      dsimp only
      by_cases h2 : (gTk tx e (mLook tx e s) (nI 43) (nI 45)).1 = true
      · rw [if_pos h2, if_pos h2, t2]
      · rw [if_neg h2, if_neg h2, gTk_n hz hs h2]
        dsimp only
        unfold gBr
        dsimp only
        rw [b1, d1]
        by_cases c3 : qBrk ws bs = nI 21 ∨ qBrk ws bs = nI 22
        · rw [if_pos c3, if_pos c3]
          by_cases c4 : (mAskSign tx e (mLook tx e s) (nI 44)).2.2.1 = 0
          · rw [if_pos c4, if_pos c4]
          · rw [if_neg c4, if_neg c4, yF_bad c4, yF_bad c4]
        · rw [if_neg c3, if_neg c3]
          by_cases c5 : qBrk ws bs = -1
          · rw [if_pos c5, if_pos c5, yF_end (s := mLook tx e s) hz, yF_end (s := mLook tx e s) hz, a1]
          · rw [if_neg c5, if_neg c5, yF_bad (mFail_0 _ _ _ (by decide)), yF_bad (mFail_0 _ _ _ (by decide))]
theorem yB_mul {cs ws : List Int32} {x op : Int32} {bs : Nat} {s : Ps} (hq : qE ws bs) (hS : ∀ w r, ws = w :: r → mulS w = false) (hz : s.2.2.1 = 0) (hs : s.1 ≤ e) (hc : (chr tx e (sk tx e s.1) = nI 42 ∧ x = nI 3) ∨ (chr tx e (sk tx e s.1) = nI 47 ∧ x = nI 4)) : yB tx e tk ((cs, ws, op, bs), s) = yA tx e tk ((cs, x :: ws, op, bs), (sk tx e s.1 + 1, s.2)) := by
  unfold yB
  rw [qEnd_id hq, gOn_no (t := ((cs, ws, op, bs), s)) (fun q => by rcases hc with h | h <;> · have := h.1.symm.trans q.1; exact absurd this (by decide)), ← yF_true]
  unfold gRest
  dsimp only
  rw [qTop_id hS]
  rcases hc with h | h
  · rw [gTk_1 hz hs h.1, h.2]
    rfl
  · rw [gTk_2 hz hs (by rw [h.1]; decide) h.1, h.2]
    rfl
theorem yB_add {cs ws : List Int32} {x op : Int32} {bs : Nat} {s : Ps} (hq : qE ws bs) (hS : ∀ w r, ws = w :: r → addS w = false) (hz : s.2.2.1 = 0) (hs : s.1 ≤ e) (hc : (chr tx e (sk tx e s.1) = nI 43 ∧ x = nI 1) ∨ (chr tx e (sk tx e s.1) = nI 45 ∧ x = nI 2)) : yB tx e tk ((cs, ws, op, bs), s) = yA tx e tk ((cs, x :: ws, op, bs), (sk tx e s.1 + 1, s.2)) := by
  have n1 : ¬ chr tx e (sk tx e s.1) = nI 42 := by rcases hc with h | h <;> rw [h.1] <;> decide
  have n2 : ¬ chr tx e (sk tx e s.1) = nI 47 := by rcases hc with h | h <;> rw [h.1] <;> decide
  have n3 : ¬ chr tx e (sk tx e s.1) = nI 41 := by rcases hc with h | h <;> rw [h.1] <;> decide
  unfold yB
  rw [qEnd_id hq, gOn_no (t := ((cs, ws, op, bs), s)) (fun q => n3 q.1), ← yF_true]
  unfold gRest
  dsimp only
  rw [gTk_0 hz hs n1 n2, if_neg Bool.false_ne_true]
  unfold gPlus
  dsimp only
  rw [qTop_id hS]
  rcases hc with h | h
  · rw [gTk_1 hz hs h.1, h.2]
    rfl
  · rw [gTk_2 hz hs (by rw [h.1]; decide) h.1, h.2]
    rfl
/-- no joining sign is next: what follows is the bracket's -/
theorem yB_br {cs ws : List Int32} {op : Int32} {bs : Nat} {s : Ps} (hq : qE ws bs) (hz : s.2.2.1 = 0) (hs : s.1 ≤ e) (n0 : ¬ (chr tx e (sk tx e s.1) = nI 41 ∧ clB (qBrk ws bs) = true)) (n1 : ¬ chr tx e (sk tx e s.1) = nI 42) (n2 : ¬ chr tx e (sk tx e s.1) = nI 47) (n3 : ¬ chr tx e (sk tx e s.1) = nI 43) (n4 : ¬ chr tx e (sk tx e s.1) = nI 45) : yB tx e tk ((cs, ws, op, bs), s) = yF tx e tk (gBr tx e ((cs, ws, op, bs), mLook tx e s)) := by
  unfold yB
  rw [qEnd_id hq, gOn_no (t := ((cs, ws, op, bs), s)) n0]
  unfold gRest
  dsimp only
  rw [gTk_0 hz hs n1 n2, if_neg Bool.false_ne_true]
  unfold gPlus
  dsimp only
  rw [gTk_0 hz hs n3 n4, if_neg Bool.false_ne_true]
end YR2
/-- what a reading tells: its codes, the night, how far it went -/
def yC (B : Tt → (Qt × Ps) ⊕ (Int32 × Int32)) (u : Pt) (ws : List Int32) (op : Int32) (bs : Nat) : (Qt × Ps) ⊕ (Int32 × Int32) := if u.2.2.2.1 = 0 then B ((u.1.1.map nI, ws, op, bs), u.2) else .inr (u.2.2.2.1, u.2.2.2.2.1)
def AdL (e : Nat) (T : List Nat → Prop) (u u' : Pt) : Prop := u'.2.1 ≤ e ∧ ∃ l : List Nat, u'.1 = (u.1.1 ++ l, u.1.2 || decide (41 ∈ l)) ∧ l.length + u.2.1 ≤ u'.2.1 ∧ T l
def TyP (al : Nat → Bool) (q b : Bool) (D : Nat) (l : List Nat) : Prop := l ≠ [] ∧ ∀ ts : List Bool, ts.length + D ≤ 64 → TyR al q l ts (b :: ts)
def TyL (al : Nat → Bool) (q b : Bool) (D : Nat) (l : List Nat) : Prop := ∀ ts : List Bool, ts.length + 1 + D ≤ 64 → TyR al q l (b :: ts) (b :: ts)
abbrev SmU (e : Nat) (A B : Tt → (Qt × Ps) ⊕ (Int32 × Int32)) (W : List Int32 → Nat → Prop) (op : Int32) (NX : Ps → Prop) (T : List Nat → Prop) (u v : Pt) : Prop := (v.2.2.2.1 = 0 → AdL e T u v ∧ NX v.2) ∧ ∀ ws bs, W ws bs → bs < 1700 → u.1.1.length + ws.length ≤ u.2.1 → A ((u.1.1.map nI, ws, op, bs), u.2) = yC B v ws op bs
def SmO (e : Nat) (A B : Tt → (Qt × Ps) ⊕ (Int32 × Int32)) (W : List Int32 → Nat → Prop) (P : Pt → Pt) (op : Int32) (NX : Ps → Prop) (T : List Nat → Prop) : Prop := ∀ u : Pt, u.2.2.2.1 = 0 → u.2.1 ≤ e → u.1.1.length ≤ u.2.1 → SmU e A B W op NX T u (P u)
section SIM
variable {e : Nat} {A B : Tt → (Qt × Ps) ⊕ (Int32 × Int32)} {W W' : List Int32 → Nat → Prop} {P : Pt → Pt} {op : Int32} {NX : Ps → Prop} {al : Nat → Bool} {q b : Bool} {D : Nat} {c : Ps → Option (Nat × Ps)}
theorem yC_ok {u : Pt} {ws : List Int32} {bs : Nat} (h : u.2.2.2.1 = 0) : yC B u ws op bs = B ((u.1.1.map nI, ws, op, bs), u.2) := if_pos h
theorem yC_bad {u : Pt} {ws : List Int32} {bs : Nat} (h : ¬ u.2.2.2.1 = 0) : yC B u ws op bs = .inr (u.2.2.2.1, u.2.2.2.2.1) := if_neg h
theorem cLoop_bad (hcb : ∀ s : Ps, ¬ s.2.2.1 = 0 → c s = none) (k : Nat) {u : Pt} (h : ¬ u.2.2.2.1 = 0) : cLoop c P k u = u := by
  cases k with
  | zero => rfl
  | succ k =>
    unfold cLoop
    rw [hcb u.2 h]
theorem cLoop_n {k : Nat} {u : Pt} (h : c u.2 = none) : cLoop c P (k + 1) u = u := by
  unfold cLoop
  rw [h]
theorem cLoop_c {k : Nat} {u : Pt} {x : Nat} {s' : Ps} (h : c u.2 = some (x, s')) : cLoop c P (k + 1) u = cLoop c P k (cPut (P (u.1, s')) x) := by
  conv => lhs; unfold cLoop
  rw [h]
theorem cPut_in {u : Pt} {x : Nat} (h : u.1.1.length < 1600) : cPut u x = ((u.1.1 ++ [x], u.1.2), u.2) := if_pos h
theorem loop_sim (he : e ≤ 1600) (hP : SmO e A B W' P op NX (TyP al q b D)) (hcb : ∀ s : Ps, ¬ s.2.2.1 = 0 → c s = none)
    (hcs : ∀ (s : Ps) x s', s.2.2.1 = 0 → s.1 ≤ e → c s = some (x, s') → s'.2.2.1 = 0 ∧ s.1 < s'.1 ∧ s'.1 ≤ e ∧ ¬ x = 41 ∧ ∀ ts, TyS al q x (b :: b :: ts) (b :: ts))
    (hst : ∀ (s : Ps) x s' cs ws bs, s.2.2.1 = 0 → s.1 ≤ e → NX s → c s = some (x, s') → W ws bs → B ((cs, ws, op, bs), s) = A ((cs, nI x :: ws, op, bs), s'))
    (hdr : ∀ (s0 : Ps) x s' (s : Ps) cs ws bs, s0.2.2.1 = 0 → c s0 = some (x, s') → s.2.2.1 = 0 → s.1 ≤ e → NX s → W ws bs → B ((cs, nI x :: ws, op, bs), s) = B ((cs ++ [nI x], ws, op, bs), s))
    (hW : ∀ (s0 : Ps) x s' ws bs, s0.2.2.1 = 0 → c s0 = some (x, s') → W ws bs → W' (nI x :: ws) bs) :
    ∀ (k : Nat) (u : Pt), u.2.2.2.1 = 0 → u.2.1 ≤ e → u.1.1.length ≤ u.2.1 → NX u.2 → e + 1 ≤ k + u.2.1 →
      ((cLoop c P k u).2.2.2.1 = 0 → AdL e (TyL al q b D) u (cLoop c P k u) ∧ NX (cLoop c P k u).2 ∧ c (cLoop c P k u).2 = none) ∧
      ∀ ws bs, W ws bs → bs < 1700 → u.1.1.length + ws.length ≤ u.2.1 → B ((u.1.1.map nI, ws, op, bs), u.2) = yC B (cLoop c P k u) ws op bs := by
  intro k
  induction k with
  | zero =>
    intro u hz hle hln hN hk
    omega
  | succ k ih =>
    intro u hz hle hln hN hk
    cases hc : c u.2 with
    | none =>
      rw [cLoop_n hc]
      refine ⟨fun _ => ⟨⟨hle, [], by simp, by simp, fun ts _ => rfl⟩, hN, hc⟩, fun ws bs _ _ _ => (yC_ok hz).symm⟩
    | some r =>
      obtain ⟨x, s'⟩ := r
      rw [cLoop_c hc]
      obtain ⟨z1, z2, z3, z4, z5⟩ := hcs u.2 x s' hz hle hc
      obtain ⟨p1, p2⟩ := hP (u.1, s') z1 z3 (by dsimp only; omega)
      dsimp only at p1 p2
      generalize hv : P (u.1, s') = v at p1 p2 ⊢
      by_cases hvz : v.2.2.2.1 = 0
      · obtain ⟨⟨a1, l, a2, a3, a4⟩, a5⟩ := p1 hvz
        dsimp only at a2 a3
        have e1 : v.1.1 = u.1.1 ++ l := by rw [a2]
        have e2 : v.1.2 = (u.1.2 || decide (41 ∈ l)) := by rw [a2]
        have e3 : v.1.1.length = u.1.1.length + l.length := by rw [e1, List.length_append]
        have hlt : v.1.1.length < 1600 := by omega
        rw [cPut_in hlt]
        obtain ⟨i1, i2⟩ := ih ((v.1.1 ++ [x], v.1.2), v.2) hvz a1 (by simp only [List.length_append, List.length_cons, List.length_nil]; omega) a5 (by dsimp only; omega)
        refine ⟨fun hr => ?_, fun ws bs w1 w2 w3 => ?_⟩
        · obtain ⟨⟨j1, l2, j2, j3, j4⟩, j5, j6⟩ := i1 hr
          dsimp only at j2 j3
          refine ⟨⟨j1, l ++ [x] ++ l2, ?_, ?_, fun ts ht => ?_⟩, j5, j6⟩
          · rw [j2, e1, e2]
            simp [Bool.or_assoc, Ne.symm z4]
          · simp only [List.length_append, List.length_cons, List.length_nil]
            omega
          · refine TyR.app (TyR.app (a4.2 (b :: ts) (by simp only [List.length_cons]; omega)) (TyR.one (z5 ts) (by simp only [List.length_cons]; omega))) (j4 ts ht)
        · rw [hst u.2 x s' _ ws bs hz hle hN hc w1, p2 (nI x :: ws) bs (hW u.2 x s' ws bs hz hc w1) w2 (by simp only [List.length_cons]; omega), yC_ok hvz, hdr u.2 x s' v.2 _ ws bs hz hc hvz a1 a5 w1]
          rw [← i2 ws bs w1 w2 (by simp only [List.length_append, List.length_cons, List.length_nil]; omega)]
          simp
      · have hb : ¬ (cPut v x).2.2.2.1 = 0 := by rw [cPut_2]; exact hvz
        rw [cLoop_bad hcb k hb]
        refine ⟨fun hr => absurd hr hb, fun ws bs w1 w2 w3 => ?_⟩
        rw [hst u.2 x s' _ ws bs hz hle hN hc w1, p2 (nI x :: ws) bs (hW u.2 x s' ws bs hz hc w1) w2 (by simp only [List.length_cons]; omega), yC_bad hvz, yC_bad hb, cPut_2]
theorem loop_sm (he : e ≤ 1600) (hP : SmO e A B W' P op NX (TyP al q b D)) (hWW : ∀ ws bs, W ws bs → W' ws bs) (hcb : ∀ s : Ps, ¬ s.2.2.1 = 0 → c s = none)
    (hcs : ∀ (s : Ps) x s', s.2.2.1 = 0 → s.1 ≤ e → c s = some (x, s') → s'.2.2.1 = 0 ∧ s.1 < s'.1 ∧ s'.1 ≤ e ∧ ¬ x = 41 ∧ ∀ ts, TyS al q x (b :: b :: ts) (b :: ts))
    (hst : ∀ (s : Ps) x s' cs ws bs, s.2.2.1 = 0 → s.1 ≤ e → NX s → c s = some (x, s') → W ws bs → B ((cs, ws, op, bs), s) = A ((cs, nI x :: ws, op, bs), s'))
    (hdr : ∀ (s0 : Ps) x s' (s : Ps) cs ws bs, s0.2.2.1 = 0 → c s0 = some (x, s') → s.2.2.1 = 0 → s.1 ≤ e → NX s → W ws bs → B ((cs, nI x :: ws, op, bs), s) = B ((cs ++ [nI x], ws, op, bs), s))
    (hW : ∀ (s0 : Ps) x s' ws bs, s0.2.2.1 = 0 → c s0 = some (x, s') → W ws bs → W' (nI x :: ws) bs) :
    SmO e A B W (fun u => cLoop c P 1600 (P u)) op (fun s => NX s ∧ c s = none) (TyP al q b (D + 1)) := by
  intro u hz hle hln
  dsimp only
  obtain ⟨p1, p2⟩ := hP u hz hle hln
  generalize hv : P u = v at p1 p2 ⊢
  by_cases hvz : v.2.2.2.1 = 0
  · obtain ⟨⟨a1, l, a2, a3, a4⟩, a5⟩ := p1 hvz
    have e1 : v.1.1 = u.1.1 ++ l := by rw [a2]
    have e2 : v.1.2 = (u.1.2 || decide (41 ∈ l)) := by rw [a2]
    have e3 : v.1.1.length = u.1.1.length + l.length := by rw [e1, List.length_append]
    have hpos : 0 < l.length := List.length_pos_iff.mpr a4.1
    obtain ⟨i1, i2⟩ := loop_sim he hP hcb hcs hst hdr hW 1600 v hvz a1 (by omega) a5 (by omega)
    refine ⟨fun hr => ?_, fun ws bs w1 w2 w3 => ?_⟩
    · obtain ⟨⟨j1, l2, j2, j3, j4⟩, j5, j6⟩ := i1 hr
      refine ⟨⟨j1, l ++ l2, ?_, ?_, ?_, fun ts ht => ?_⟩, j5, j6⟩
      · rw [j2, e1, e2]
        simp [Bool.or_assoc]
      · simp only [List.length_append]
        omega
      · simp [a4.1]
      · exact TyR.app (a4.2 ts (by omega)) (j4 ts (by omega))
    · rw [p2 ws bs (hWW ws bs w1) w2 w3, yC_ok hvz, ← i2 ws bs w1 w2 (by omega)]
  · rw [cLoop_bad hcb 1600 hvz]
    refine ⟨fun hr => absurd hr hvz, fun ws bs w1 w2 w3 => ?_⟩
    rw [p2 ws bs (hWW ws bs w1) w2 w3]
end SIM
