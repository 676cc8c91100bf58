/-! facts and tests of the class against the yard -/
def Wt (ws : List Int32) (_ : Nat) : Prop := ∀ w r, ws = w :: r → addS w = false
def Wb (ws : List Int32) (bs : Nat) : Prop := Wt ws bs ∧ qN ws ∧ ∀ w r, ws = w :: r → andS w = false
def We (ws : List Int32) (bs : Nat) : Prop := Wt ws bs ∧ qN ws ∧ ∀ w r, ws = w :: r → orS w = false
section TSM
variable {tx : Nat → Nat} {e : Nat} {tk : Int32} {al : Nat → Bool} {q : Bool} {m : Nat} {u : Pt} {D E op : Nat}
theorem hd_of {S : Int32 → Bool} {x : Int32} {ws : List Int32} (h : S x = false) : ∀ w r, x :: ws = w :: r → S w = false := by
  intro w r z
  simp only [List.cons.injEq] at z
  rw [← z.1]
  exact h
theorem cWd_eq {s : Ps} (hz : s.2.2.1 = 0) {w x : Nat} (hw : w < 39) : cWd w x tx e s = if wdO tx e s = some w then some (x, wAf tx e s) else none := by
  unfold cWd
  rw [here_W hz, here_wd hz hw]
  by_cases h : wdO tx e s = some w
  · rw [if_pos (decide_eq_true h), if_pos h]
  · rw [if_neg (by simp [h]), if_neg h]
theorem cWd_bad {s : Ps} (hz : ¬ s.2.2.1 = 0) {w x : Nat} : cWd w x tx e s = none := by
  unfold cWd
  rw [here_no (fun z => hz z.1)]
  rfl
theorem cWd_some {s s' : Ps} (hz : s.2.2.1 = 0) {w x y : Nat} (hw : w < 39) (h : cWd w x tx e s = some (y, s')) : wdO tx e s = some w ∧ y = x ∧ s' = wAf tx e s := by
  rw [cWd_eq hz hw] at h
  by_cases hh : wdO tx e s = some w
  · rw [if_pos hh] at h
    simp only [Option.some.injEq, Prod.mk.injEq] at h
    exact ⟨hh, h.1.symm, h.2.symm⟩
  · rw [if_neg hh] at h
    exact absurd h (by simp)
theorem cWd_none {s : Ps} (hz : s.2.2.1 = 0) {w x : Nat} (hw : w < 39) (h : cWd w x tx e s = none) : ¬ wdO tx e s = some w := by
  intro hh
  rw [cWd_eq hz hw, if_pos hh] at h
  exact absurd h (by simp)
theorem TyS_b {n : Nat} (h1 : 10 ≤ n) (h2 : n ≤ 11) (ts : List Bool) : TyS al q n (true :: true :: ts) (true :: ts) := Or.inr (Or.inr (Or.inr (Or.inr (Or.inr (Or.inr (Or.inr ⟨h1, h2, ts, rfl, rfl⟩))))))
theorem both_sm (he : e ≤ 1600) {F : Pt → Pt} {op : Int32} (hF : SmO e (zA tx e tk) (zB tx e tk) Wt F op (fun _ => True) (TyP al q true D)) : SmO e (zA tx e tk) (zB tx e tk) Wb (cBoth tx e F) op (fun s => True ∧ cWd 28 10 tx e s = none) (TyP al q true (D + 1)) := by
  refine loop_sm he hF (fun ws bs h => h.1) (fun s hb => cWd_bad hb) ?_ ?_ ?_ ?_
  · intro s x s' hz hs h
    obtain ⟨h1, h2, h3⟩ := cWd_some hz (by omega) h
    obtain ⟨f1, f2, f3⟩ := wAf_le hs h1
    subst h2 h3
    exact ⟨f3.trans hz, f1, f2, by omega, fun ts => TyS_b (by omega) (by omega) ts⟩
  · intro s x s' cs ws bs hz hs _ h w
    obtain ⟨h1, h2, h3⟩ := cWd_some hz (by omega) h
    subst h2 h3
    exact zB_and w.2.1 w.2.2 hz hs h1
  · intro s0 x s' s cs ws bs hz0 h hz hs _ w
    obtain ⟨h1, h2, h3⟩ := cWd_some hz0 (by omega) h
    subst h2
    exact zB_drop (by decide) (Or.inl (by decide)) w.2.1 hz hs
  · intro s0 x s' ws bs hz0 h w
    obtain ⟨h1, h2, h3⟩ := cWd_some hz0 (by omega) h
    subst h2
    exact hd_of (by decide)
theorem tests_sm (he : e ≤ 1600) {F : Pt → Pt} {op : Int32} (hF : SmO e (zA tx e tk) (zB tx e tk) Wt F op (fun _ => True) (TyP al q true D)) : SmO e (zA tx e tk) (zB tx e tk) We (cEith tx e (cBoth tx e F)) op (fun s => (True ∧ cWd 28 10 tx e s = none) ∧ cWd 27 11 tx e s = none) (TyP al q true (D + 2)) := by
  refine loop_sm (D := D + 1) he (both_sm he hF) (fun ws bs h => ⟨h.1, h.2.1, fun w r z => ?_⟩) (fun s hb => cWd_bad hb) ?_ ?_ ?_ ?_
  · have := h.2.2 w r z
    unfold orS at this
    unfold andS
    simp only [Bool.or_eq_false_iff] at this
    exact this.1
  · intro s x s' hz hs h
    obtain ⟨h1, h2, h3⟩ := cWd_some hz (by omega) h
    obtain ⟨f1, f2, f3⟩ := wAf_le hs h1
    subst h2 h3
    exact ⟨f3.trans hz, f1, f2, by omega, fun ts => TyS_b (by omega) (by omega) ts⟩
  · intro s x s' cs ws bs hz hs _ h w
    obtain ⟨h1, h2, h3⟩ := cWd_some hz (by omega) h
    subst h2 h3
    exact zB_or w.2.1 w.2.2 hz hs h1
  · intro s0 x s' s cs ws bs hz0 h hz hs hN w
    obtain ⟨h1, h2, h3⟩ := cWd_some hz0 (by omega) h
    subst h2
    exact zB_drop (by decide) (Or.inr (cWd_none hz (by omega) hN.2)) w.2.1 hz hs
  · intro s0 x s' ws bs hz0 h w
    obtain ⟨h1, h2, h3⟩ := cWd_some hz0 (by omega) h
    subst h2
    exact ⟨hd_of (by decide), qN_hd (by decide), hd_of (by decide)⟩
theorem TyP.mono {b : Bool} {l : List Nat} (h : TyP al q b D l) (hD : D ≤ E) : TyP al q b E l := ⟨h.1, fun ts ht => h.2 ts (by omega)⟩
theorem tSt_not {t : Tt} (hz : t.2.2.2.1 = 0) (h : wdO tx e t.2 = some 29) : tSt tx e tk t = (true, ((opn (nI 12) (nI (sk tx e t.2.1)) (t.1, mLook tx e t.2)).1, mAsks tx e (opn (nI 12) (nI (sk tx e t.2.1)) (t.1, mLook tx e t.2)).2 wNot)) := by
  have k1 : hereW tx e (sk tx e t.2.1) t.2.2.1 wNot = decide (wdO tx e t.2 = some 29) := here_wd (i := 29) hz (by omega)
  unfold tSt
  rw [if_neg (chr_wd h (by omega)), if_pos (by rw [k1]; exact decide_eq_true h)]
theorem tSt_sq {t : Tt} (h : chr tx e (sk tx e t.2.1) = nI 91) : tSt tx e tk t = (true, ((opn (nI 25) (nI (sk tx e t.2.1)) (t.1, mLook tx e t.2)).1, (sk tx e t.2.1 + 1, (opn (nI 25) (nI (sk tx e t.2.1)) (t.1, mLook tx e t.2)).2.2))) := if_pos h
theorem fact_notN (hz : u.2.2.2.1 = 0) (hle : u.2.1 ≤ e) (hw : wdO tx e u.2 = some 29) : SmU e (zA tx e tk) (zB tx e tk) Wt (nI 6) (fun _ => True) (TyP al q true E) u (u.1, mFail u.2 (nI 4) (nI (sk tx e u.2.1))) := by
  refine smU_fail hz (by decide) (fun ws bs _ w2 w3 => ?_)
  have h6 := opn_6 (v := nI 12) (pl := nI (sk tx e u.2.1)) (t := ((u.1.1.map nI, ws, nI 6, bs), mLook tx e u.2)) hz rfl
  have hp := tSt_not (tk := tk) (t := ((u.1.1.map nI, ws, nI 6, bs), u.2)) hz hw
  dsimp only at h6 hp
  have hb : ¬ (mFail (mLook tx e u.2) (nI 4) (nI (sk tx e u.2.1))).2.2.1 = 0 := mFail_0 _ _ _ (by decide)
  rw [h6] at hp
  dsimp only at hp
  rw [asks_bad hb] at hp
  rw [zA_bad hz hle hp hb, mFail_z (s := mLook tx e u.2) hz]
theorem fact_not (he : e ≤ 1600) (hop : op < 6) (hz : u.2.2.2.1 = 0) (hle : u.2.1 ≤ e) (hln : u.1.1.length ≤ u.2.1) (hw : wdO tx e u.2 = some 29) (hE : D + 2 ≤ E) {F : Pt → Pt} (hF : SmO e (zA tx e tk) (zB tx e tk) Wt F (nI (op + 1)) (fun _ => True) (TyP al q true D)) : SmU e (zA tx e tk) (zB tx e tk) Wt (nI op) (fun _ => True) (TyP al q true E) u (cPut (F (u.1, wAf tx e u.2)) 12) := by
  obtain ⟨f1, f2, f3⟩ := wAf_le hle hw
  have hz' : (wAf tx e u.2).2.2.1 = 0 := f3.trans hz
  obtain ⟨p1, p2⟩ := hF (u.1, wAf tx e u.2) hz' f2 (by dsimp only; omega)
  generalize hv : F (u.1, wAf tx e u.2) = v at p1 p2 ⊢
  have hA : ∀ ws bs, Wt ws bs → bs < 1700 → u.1.1.length + ws.length ≤ u.2.1 → zA tx e tk ((u.1.1.map nI, ws, nI op, bs), u.2) = yC (zB tx e tk) v (nI 12 :: ws) (nI (op + 1)) bs := by
    intro ws bs w1 w2 w3
    have hk := opn_k (v := nI 12) (pl := nI (sk tx e u.2.1)) (t := ((u.1.1.map nI, ws, nI op, bs), mLook tx e u.2)) hz (n_op hop)
    have hp := tSt_not (tk := tk) (t := ((u.1.1.map nI, ws, nI op, bs), u.2)) hz hw
    dsimp only at hk hp
    rw [hk, nI_add] at hp
    dsimp only at hp
    rw [show wNot = keyL.getD 29 [] from rfl, asks_wd hz hle hw] at hp
    rw [zA_go he hz (IV_mk hle w2 (by simpa using w3)) hp hz']
    exact p2 (nI 12 :: ws) bs (hd_of (by decide)) w2 (by simp only [List.length_cons]; omega)
  by_cases hvz : v.2.2.2.1 = 0
  · obtain ⟨⟨a1, l, a2, a3, a4⟩, -⟩ := p1 hvz
    dsimp only at a2 a3
    have e1 : v.1.1 = u.1.1 ++ l := by rw [a2]
    have e2 : v.1.2 = (u.1.2 || decide (41 ∈ l)) := by rw [a2]
    have e3 : v.1.1.length = u.1.1.length + l.length := by rw [e1, List.length_append]
    rw [cPut_in (u := v) (by omega)]
    refine ⟨fun _ => ⟨⟨a1, l ++ [12], ?_, ?_, by simp, fun ts ht => TyR.app (a4.2 ts (by omega)) (TyR.one (Or.inr (Or.inr (Or.inr (Or.inr (Or.inl ⟨rfl, ts, rfl, rfl⟩))))) (by simp only [List.length_cons]; omega))⟩, trivial⟩, fun ws bs w1 w2 w3 => ?_⟩
    · rw [e1, e2]
      simp
    · simp only [List.length_append, List.length_cons, List.length_nil]
      omega
    · rw [hA ws bs w1 w2 w3, yC_ok hvz, zB_12 hvz, pk_sub (by omega), Nat.add_sub_cancel, yC_ok (u := ((v.1.1 ++ [12], v.1.2), v.2)) hvz]
      simp
  · have hb : ¬ (cPut v 12).2.2.2.1 = 0 := by rw [cPut_2]; exact hvz
    refine ⟨fun z => absurd z hb, fun ws bs w1 w2 w3 => ?_⟩
    rw [hA ws bs w1 w2 w3, yC_bad hvz, yC_bad hb, cPut_2]
theorem fact_sqN (hz : u.2.2.2.1 = 0) (hle : u.2.1 ≤ e) (hc : chr tx e (sk tx e u.2.1) = nI 91) : SmU e (zA tx e tk) (zB tx e tk) Wt (nI 6) (fun _ => True) (TyP al q true E) u (u.1, mFail u.2 (nI 4) (nI (sk tx e u.2.1))) := by
  refine smU_fail hz (by decide) (fun ws bs _ w2 w3 => ?_)
  have h6 := opn_6 (v := nI 25) (pl := nI (sk tx e u.2.1)) (t := ((u.1.1.map nI, ws, nI 6, bs), mLook tx e u.2)) hz rfl
  have hp := tSt_sq (tk := tk) (t := ((u.1.1.map nI, ws, nI 6, bs), u.2)) hc
  dsimp only at h6 hp
  have hb : ¬ (mFail (mLook tx e u.2) (nI 4) (nI (sk tx e u.2.1))).2.2.1 = 0 := mFail_0 _ _ _ (by decide)
  rw [h6] at hp
  dsimp only at hp
  rw [zA_bad hz hle hp hb, mFail_z (s := mLook tx e u.2) hz]
theorem fact_sq (he : e ≤ 1600) (hop : op < 6) (hz : u.2.2.2.1 = 0) (hle : u.2.1 ≤ e) (hln : u.1.1.length ≤ u.2.1) (hc : chr tx e (sk tx e u.2.1) = nI 91) (hE : D + 2 ≤ E) {F : Pt → Pt} (hF : SmO e (zA tx e tk) (zB tx e tk) Wt F (nI (op + 1)) (fun _ => True) (TyP al q true D)) : SmU e (zA tx e tk) (zB tx e tk) Wt (nI op) (fun _ => True) (TyP al q true E) u (cNd tx e 93 (cEith tx e (cBoth tx e F) (u.1, (sk tx e u.2.1 + 1, u.2.2)))) := by
  have hsk := sk_le (tx := tx) hle
  have hlt := chr_lt hc (by omega)
  obtain ⟨p1, p2⟩ := tests_sm he hF (u.1, (sk tx e u.2.1 + 1, u.2.2)) hz (by dsimp only; omega) (by dsimp only; omega)
  generalize hv : cEith tx e (cBoth tx e F) (u.1, (sk tx e u.2.1 + 1, u.2.2)) = v at p1 p2 ⊢
  have hA : ∀ ws bs, Wt ws bs → bs < 1700 → u.1.1.length + ws.length ≤ u.2.1 → zA tx e tk ((u.1.1.map nI, ws, nI op, bs), u.2) = yC (zB tx e tk) v (nI 25 :: ws) (nI (op + 1)) bs := by
    intro ws bs w1 w2 w3
    have hk := opn_k (v := nI 25) (pl := nI (sk tx e u.2.1)) (t := ((u.1.1.map nI, ws, nI op, bs), mLook tx e u.2)) hz (n_op hop)
    have hp := tSt_sq (tk := tk) (t := ((u.1.1.map nI, ws, nI op, bs), u.2)) hc
    dsimp only at hk hp
    rw [hk, nI_add] at hp
    rw [zA_go he hz (IV_mk hle w2 (by simpa using w3)) hp hz]
    exact p2 (nI 25 :: ws) bs ⟨hd_of (by decide), qN_hd (by decide), hd_of (by decide)⟩ w2 (by simp only [List.length_cons]; omega)
  unfold cNd
  by_cases hvz : v.2.2.2.1 = 0
  · obtain ⟨⟨a1, l, a2, a3, a4⟩, a5⟩ := p1 hvz
    dsimp only at a2 a3
    have hk2 := sk_le (tx := tx) a1
    by_cases hc2 : chr tx e (sk tx e v.2.1) = nI 93
    · have hlt2 := chr_lt hc2 (by omega)
      rw [askS_y hvz hc2]
      refine ⟨fun _ => ⟨⟨by dsimp only; omega, l, a2, by dsimp only; omega, a4.1, fun ts ht => a4.2 ts (by omega)⟩, trivial⟩, fun ws bs w1 w2 w3 => ?_⟩
      rw [hA ws bs w1 w2 w3, yC_ok hvz, zB_cl a1 hc2, pk_sub (by omega), Nat.add_sub_cancel]
      exact (yC_ok (B := zB tx e tk) (u := (v.1, (sk tx e v.2.1 + 1, v.2.2))) hvz).symm
    · rw [askS_n hvz hc2]
      refine smU_fail (s := mLook tx e v.2) hvz (by decide) (fun ws bs w1 w2 w3 => ?_)
      rw [hA ws bs w1 w2 w3, yC_ok hvz, zB_no (qN_hd (by decide)) hvz a1 (fun z => hc2 z.1) (cWd_none hvz (by omega) a5.1.2) (cWd_none hvz (by omega) a5.2), if_pos (by simp)]
  · rw [askS_b hvz]
    refine ⟨fun z => absurd z hvz, fun ws bs w1 w2 w3 => ?_⟩
    rw [hA ws bs w1 w2 w3, yC_bad hvz, yC_bad (u := (v.1, v.2)) hvz]
theorem fact_all (he : e ≤ 1600) (hE : 1 ≤ E) (hz : u.2.2.2.1 = 0) (hle : u.2.1 ≤ e) (hln : u.1.1.length ≤ u.2.1) (hw : wdO tx e u.2 = some 30) : SmU e (zA tx e tk) (zB tx e tk) Wt (nI op) (fun _ => True) (TyP al q true E) u (cPut (u.1, wAf tx e u.2) 13) := by
  obtain ⟨f1, f2, f3⟩ := wAf_le hle hw
  have hlt : u.1.1.length < 1600 := by omega
  have hz' : (wAf tx e u.2).2.2.1 = 0 := f3.trans hz
  rw [cPut_in (u := (u.1, wAf tx e u.2)) hlt]
  refine ⟨fun _ => ⟨⟨f2, [13], by simp, ?_, by simp, fun ts ht => TyR.one (Or.inr (Or.inr (Or.inr (Or.inl ⟨rfl, rfl⟩)))) (by simp only [List.length_cons]; omega)⟩, trivial⟩, fun ws bs _ w2 w3 => ?_⟩
  · simp only [List.length_cons, List.length_nil]
    omega
  · have hf : fFact tx e tk ((u.1.1.map nI, ws, nI op, bs), mLook tx e u.2) = ((u.1.1.map nI ++ [nI 13], ws, nI op, bs), wAf tx e u.2) := by
      unfold fFact
      dsimp only
      rw [show wAll = keyL.getD 30 [] from rfl, takes_wd hz hle (by omega), if_pos hw]
      rfl
    rw [zA_fact he hz (IV_mk hle w2 (by simpa using w3)) (chr_wd hw (by omega)) (by rw [hw]; simp) hf, if_pos hz', yC_ok (u := ((u.1.1 ++ [13], u.1.2), wAf tx e u.2)) hz']
    simp
theorem fCmp_y {X : Tt} {qt : Qt} {s : Ps} (x1 : X.1 = qt) (x3 : mLook tx e X.2 = mLook tx e s) (hc : cmpS (chr tx e (sk tx e s.1)) = true) : fCmp tx e tk X = tCode (cmpC (chr tx e (sk tx e s.1))) (sSums tx e tk (qt, (sk tx e s.1 + 1, s.2))) := by
  have e1 : sk tx e X.2.1 = sk tx e s.1 := (congrArg Prod.fst x3 : (mLook tx e X.2).1 = (mLook tx e s).1)
  have e2 : X.2.2 = s.2 := (congrArg Prod.snd x3 : (mLook tx e X.2).2 = (mLook tx e s).2)
  unfold fCmp
  rw [e1, if_pos hc, x1, e2]
theorem fCmp_n {X : Tt} {qt : Qt} {s : Ps} (x1 : X.1 = qt) (x3 : mLook tx e X.2 = mLook tx e s) (hc : ¬ cmpS (chr tx e (sk tx e s.1)) = true) : fCmp tx e tk X = (qt, mFail (mLook tx e s) (nI 1) (nI (sk tx e s.1))) := by
  have e1 : sk tx e X.2.1 = sk tx e s.1 := (congrArg Prod.fst x3 : (mLook tx e X.2).1 = (mLook tx e s).1)
  unfold fCmp
  rw [e1, if_neg hc, x1, x3]
theorem at_le {s s' : Ps} (hs : s.1 ≤ e) (h : mLook tx e s' = mLook tx e s) : s'.1 ≤ e := by
  have e1 : sk tx e s'.1 = sk tx e s.1 := (congrArg Prod.fst h : (mLook tx e s').1 = (mLook tx e s).1)
  have := sk_le (tx := tx) hs
  rcases Nat.lt_or_ge e s'.1 with hh | hh
  · rw [sk_stop (fun z => by omega)] at e1
    omega
  · exact hh
theorem cCmp_bad {v : Pt} (hz : ¬ v.2.2.2.1 = 0) (S : Pt → Pt) : cCmp tx e v S = v := by
  have h (c : Int32) : (mSign tx e v.2 c).1 = false := by
    unfold mSign
    rw [if_neg hz]
  unfold cCmp
  rw [h, h, h, if_neg Bool.false_ne_true, if_neg Bool.false_ne_true, if_neg Bool.false_ne_true]
  unfold mFail
  rw [if_neg hz]
theorem cCmp_y {v : Pt} (hz : v.2.2.2.1 = 0) (S : Pt → Pt) (hc : cmpS (chr tx e (sk tx e v.2.1)) = true) : ∃ c, 7 ≤ c ∧ c ≤ 9 ∧ cmpC (chr tx e (sk tx e v.2.1)) = nI c ∧ cCmp tx e v S = cPut (S (v.1, (sk tx e v.2.1 + 1, v.2.2))) c := by
  unfold cCmp cmpC
  rw [sgn_eq hz, sgn_eq hz, sgn_eq hz]
  by_cases h1 : chr tx e (sk tx e v.2.1) = nI 60
  · exact ⟨7, by omega, by omega, by rw [if_pos h1], by rw [if_pos (decide_eq_true h1)]⟩
  · by_cases h2 : chr tx e (sk tx e v.2.1) = nI 62
    · exact ⟨8, by omega, by omega, by rw [if_neg h1, if_pos h2], by rw [if_neg (by simp [h1]), if_pos (decide_eq_true h2)]⟩
    · have h3 : chr tx e (sk tx e v.2.1) = nI 61 := by
        unfold cmpS at hc
        simp only [Bool.or_eq_true, decide_eq_true_eq] at hc
        rcases hc with (h | h) | h
        · exact absurd h h1
        · exact absurd h h2
        · exact h
      exact ⟨9, by omega, by omega, by rw [if_neg h1, if_neg h2], by rw [if_neg (by simp [h1]), if_neg (by simp [h2]), if_pos (decide_eq_true h3)]⟩
theorem cCmp_n {v : Pt} (hz : v.2.2.2.1 = 0) (S : Pt → Pt) (hc : ¬ cmpS (chr tx e (sk tx e v.2.1)) = true) : cCmp tx e v S = (v.1, mFail v.2 (nI 1) (nI (sk tx e v.2.1))) := by
  unfold cmpS at hc
  simp only [Bool.or_eq_true, decide_eq_true_eq, not_or] at hc
  unfold cCmp
  rw [sgn_eq hz, sgn_eq hz, sgn_eq hz, if_neg (by simp [hc.1.1]), if_neg (by simp [hc.1.2]), if_neg (by simp [hc.2])]
theorem fact_cmp (he : e ≤ 1600) {P : Pt → Pt} (hP : SmO e (yA tx e tk) (yB tx e tk) Wp P (nI op) (fun _ => True) (TyP al q false D)) (hE : D + 3 ≤ E) (hz : u.2.2.2.1 = 0) (hle : u.2.1 ≤ e) (hln : u.1.1.length ≤ u.2.1) (h1 : ¬ chr tx e (sk tx e u.2.1) = nI 91) (h29 : ¬ wdO tx e u.2 = some 29) (h30 : ¬ wdO tx e u.2 = some 30) : SmU e (zA tx e tk) (zB tx e tk) Wt (nI op) (fun _ => True) (TyP al q true E) u (cCmp tx e (cSums tx e P u) (cSums tx e P)) := by
  obtain ⟨p1, -⟩ := sums_sm he hP u hz hle hln
  have top : ∀ (ws : List Int32) (bs : Nat), Wt ws bs → u.1.1.length + ws.length ≤ u.2.1 → yR tx e (sSums tx e tk ((u.1.1.map nI, ws, nI op, bs), mLook tx e u.2)) = yC (fun t => .inl (t.1, mLook tx e t.2)) (cSums tx e P u) ws (nI op) bs := fun ws bs w1 w3 => sums_top he hP hz hle w1 w3 (Or.inr rfl)
  have hff : ∀ (ws : List Int32) (bs : Nat), fFact tx e tk ((u.1.1.map nI, ws, nI op, bs), mLook tx e u.2) = if (sSums tx e tk ((u.1.1.map nI, ws, nI op, bs), mLook tx e u.2)).2.2.2.1 = 0 then fCmp tx e tk (sSums tx e tk ((u.1.1.map nI, ws, nI op, bs), mLook tx e u.2)) else sSums tx e tk ((u.1.1.map nI, ws, nI op, bs), mLook tx e u.2) := by
    intro ws bs
    unfold fFact
    dsimp only
    rw [show wAll = keyL.getD 30 [] from rfl, takes_wd hz hle (by omega), if_neg h30, if_neg Bool.false_ne_true]
  generalize cSums tx e P u = v at p1 top ⊢
  by_cases hvz : v.2.2.2.1 = 0
  · obtain ⟨⟨a1, l, a2, a3, a4⟩, -⟩ := p1 hvz
    have e1 : v.1.1 = u.1.1 ++ l := by rw [a2]
    have e2 : v.1.2 = (u.1.2 || decide (41 ∈ l)) := by rw [a2]
    have e3 : v.1.1.length = u.1.1.length + l.length := by rw [e1, List.length_append]
    have hk2 := sk_le (tx := tx) a1
    have hX : ∀ (ws : List Int32) (bs : Nat), Wt ws bs → u.1.1.length + ws.length ≤ u.2.1 → (sSums tx e tk ((u.1.1.map nI, ws, nI op, bs), mLook tx e u.2)).2.2.2.1 = 0 ∧ (sSums tx e tk ((u.1.1.map nI, ws, nI op, bs), mLook tx e u.2)).1 = (v.1.1.map nI, ws, nI op, bs) ∧ mLook tx e (sSums tx e tk ((u.1.1.map nI, ws, nI op, bs), mLook tx e u.2)).2 = mLook tx e v.2 := by
      intro ws bs w1 w3
      have := top ws bs w1 w3
      rw [yC_ok hvz] at this
      exact yR_inl this
    by_cases hc : cmpS (chr tx e (sk tx e v.2.1)) = true
    · have hlt := cmpS_lt hc
      obtain ⟨c, c1, c2, c3, c4⟩ := cCmp_y hvz (cSums tx e P) hc
      rw [c4]
      obtain ⟨r1, -⟩ := sums_sm he hP (v.1, (sk tx e v.2.1 + 1, v.2.2)) hvz (by dsimp only; omega) (by dsimp only; omega)
      have top2 : ∀ (ws : List Int32) (bs : Nat), Wt ws bs → u.1.1.length + ws.length ≤ u.2.1 → yR tx e (sSums tx e tk ((v.1.1.map nI, ws, nI op, bs), (sk tx e v.2.1 + 1, v.2.2))) = yC (fun t => .inl (t.1, mLook tx e t.2)) (cSums tx e P (v.1, (sk tx e v.2.1 + 1, v.2.2))) ws (nI op) bs := fun ws bs w1 w3 => sums_top (u := (v.1, (sk tx e v.2.1 + 1, v.2.2))) he hP hvz (by dsimp only; omega) w1 (by dsimp only; omega) (Or.inl rfl)
      generalize cSums tx e P (v.1, (sk tx e v.2.1 + 1, v.2.2)) = y at r1 top2 ⊢
      have hZ : ∀ (ws : List Int32) (bs : Nat), Wt ws bs → bs < 1700 → u.1.1.length + ws.length ≤ u.2.1 → zA tx e tk ((u.1.1.map nI, ws, nI op, bs), u.2) = if (sSums tx e tk ((v.1.1.map nI, ws, nI op, bs), (sk tx e v.2.1 + 1, v.2.2))).2.2.2.1 = 0 then zB tx e tk (tCode (nI c) (sSums tx e tk ((v.1.1.map nI, ws, nI op, bs), (sk tx e v.2.1 + 1, v.2.2)))) else .inr ((sSums tx e tk ((v.1.1.map nI, ws, nI op, bs), (sk tx e v.2.1 + 1, v.2.2))).2.2.2.1, (sSums tx e tk ((v.1.1.map nI, ws, nI op, bs), (sk tx e v.2.1 + 1, v.2.2))).2.2.2.2.1) := by
        intro ws bs w1 w2 w3
        obtain ⟨x1, x2, x3⟩ := hX ws bs w1 w3
        have fe := hff ws bs
        rw [if_pos x1, fCmp_y x2 x3 hc, c3] at fe
        rw [zA_fact he hz (IV_mk hle w2 (by simpa using w3)) h1 h29 fe]
        generalize sSums tx e tk ((v.1.1.map nI, ws, nI op, bs), (sk tx e v.2.1 + 1, v.2.2)) = Y
        rfl
      by_cases hyz : y.2.2.2.1 = 0
      · obtain ⟨⟨b1, l2, b2, b3, b4⟩, -⟩ := r1 hyz
        dsimp only at b2 b3
        have g1 : y.1.1 = v.1.1 ++ l2 := by rw [b2]
        have g2 : y.1.2 = (v.1.2 || decide (41 ∈ l2)) := by rw [b2]
        have g3 : y.1.1.length = v.1.1.length + l2.length := by rw [g1, List.length_append]
        rw [cPut_in (u := y) (by omega)]
        refine ⟨fun _ => ⟨⟨b1, l ++ l2 ++ [c], ?_, ?_, by simp, fun ts ht => ?_⟩, trivial⟩, fun ws bs w1 w2 w3 => ?_⟩
        · rw [g1, g2, e1, e2]
          have : ¬ 41 = c := by omega
          simp [this, Bool.or_assoc]
        · simp only [List.length_append, List.length_cons, List.length_nil]
          omega
        · exact TyR.app (TyR.app (a4.2 ts (by omega)) (b4.2 (false :: ts) (by simp only [List.length_cons]; omega))) (TyR.one (Or.inr (Or.inr (Or.inr (Or.inr (Or.inr (Or.inr (Or.inl ⟨c1, c2, ts, rfl, rfl⟩))))))) (by simp only [List.length_cons]; omega))
        · have h2 := top2 ws bs w1 w3
          rw [yC_ok hyz] at h2
          obtain ⟨y1, y2, y3⟩ := yR_inl h2
          rw [hZ ws bs w1 w2 w3, if_pos y1, yC_ok (u := ((y.1.1 ++ [c], y.1.2), y.2)) hyz]
          unfold tCode
          rw [y2]
          dsimp only at y3 ⊢
          rw [zB_eq hyz b1 (at_le b1 y3) y3]
          simp
      · have hb : ¬ (cPut y c).2.2.2.1 = 0 := by rw [cPut_2]; exact hyz
        refine ⟨fun z => absurd z hb, fun ws bs w1 w2 w3 => ?_⟩
        have h2 := top2 ws bs w1 w3
        rw [yC_bad hyz] at h2
        obtain ⟨y1, y2, y3⟩ := yR_inr h2
        rw [hZ ws bs w1 w2 w3, if_neg y1, yC_bad hb, cPut_2, y2, y3]
    · rw [cCmp_n hvz _ hc]
      refine smU_fail hvz (by decide) (fun ws bs w1 w2 w3 => ?_)
      obtain ⟨x1, x2, x3⟩ := hX ws bs w1 w3
      have fe := hff ws bs
      rw [if_pos x1, fCmp_n x2 x3 hc] at fe
      rw [zA_fact he hz (IV_mk hle w2 (by simpa using w3)) h1 h29 fe, if_neg (mFail_0 _ _ _ (by decide))]
      show Sum.inr ((mFail (mLook tx e v.2) (nI 1) (nI (sk tx e v.2.1))).2.2.1, (mFail (mLook tx e v.2) (nI 1) (nI (sk tx e v.2.1))).2.2.2.1) = _
      rw [mFail_z (s := mLook tx e v.2) hvz]
  · rw [cCmp_bad hvz]
    refine ⟨fun z => absurd z hvz, fun ws bs w1 w2 w3 => ?_⟩
    have h2 := top ws bs w1 w3
    rw [yC_bad hvz] at h2
    obtain ⟨x1, x2, x3⟩ := yR_inr h2
    have fe := hff ws bs
    rw [if_neg x1] at fe
    rw [zA_fact he hz (IV_mk hle w2 (by simpa using w3)) h1 h29 fe, if_neg x1, yC_bad hvz, x2, x3]
theorem fact_sm (he : e ≤ 1600) {P : Pt → Pt} (hP : SmO e (yA tx e tk) (yB tx e tk) Wp P (nI op) (fun _ => True) (TyP al q false D)) (hE : D + 3 ≤ E) {o : Option (Pt → Pt)} (hN : o = none → op = 6) (hS : ∀ F, o = some F → op < 6 ∧ ∃ D', D' + 2 ≤ E ∧ SmO e (zA tx e tk) (zB tx e tk) Wt F (nI (op + 1)) (fun _ => True) (TyP al q true D')) : SmO e (zA tx e tk) (zB tx e tk) Wt (cFact1 tx e (cSums tx e P) o) (nI op) (fun _ => True) (TyP al q true E) := by
  intro u hz hle hln
  unfold cFact1
  rw [here_W hz, here_W hz, here_wd hz (by omega), here_wd hz (by omega), sgn_eq hz]
  by_cases h29 : wdO tx e u.2 = some 29
  · rw [if_pos (decide_eq_true h29)]
    cases o with
    | none =>
      have h6 := hN rfl
      subst h6
      exact fact_notN hz hle h29
    | some F =>
      obtain ⟨g1, D', g2, g3⟩ := hS F rfl
      exact fact_not he g1 hz hle hln h29 g2 g3
  · rw [if_neg (by simp [h29])]
    by_cases hc : chr tx e (sk tx e u.2.1) = nI 91
    · rw [if_pos (decide_eq_true hc)]
      cases o with
      | none =>
        have h6 := hN rfl
        subst h6
        exact fact_sqN hz hle hc
      | some F =>
        obtain ⟨g1, D', g2, g3⟩ := hS F rfl
        exact fact_sq he g1 hz hle hln hc g2 g3
    · rw [if_neg (by simp [hc])]
      by_cases h30 : wdO tx e u.2 = some 30
      · rw [if_pos (decide_eq_true h30)]
        exact fact_all he (by omega) hz hle hln h30
      · rw [if_neg (by simp [h30])]
        exact fact_cmp he hP hE hz hle hln hc h29 h30
theorem fc_sm (he : e ≤ 1600) (hM : ∀ k, k < 10 → m.testBit k = alw tk (nI k)) (hal : ∀ k, k < 9 → alw tk (nI k) = true → al k = true) (hq9 : alw tk (nI 9) = true → q = true) : ∀ n, n ≤ 6 → SmO e (zA tx e tk) (zB tx e tk) Wt (cFc tx e m n) (nI (6 - n)) (fun _ => True) (TyP al q true (3 * n + 6))
  | 0, _ => fact_sm he (pt_sm he hM hal hq9 0 (by omega)) (by omega) (fun _ => rfl) (fun F z => by simp at z)
  | n + 1, h => by
    refine fact_sm (o := some (cFc tx e m n)) he (pt_sm he hM hal hq9 (n + 1) h) (by omega) (fun z => by simp at z) (fun F z => ?_)
    simp only [Option.some.injEq] at z
    subst z
    refine ⟨by omega, 3 * n + 6, by omega, ?_⟩
    rw [show 6 - (n + 1) + 1 = 6 - n by omega]
    exact fc_sm he hM hal hq9 n (by omega)
/-- a text read as a sum or as a test: class and yard read the same -/
def Rdg (tx : Nat → Nat) (e : Nat) (al : Nat → Bool) (q b : Bool) (t : Tt) (s : Ps) (v : Pt) : Prop := t.2.2.2.1 = v.2.2.2.1 ∧ t.2.2.2.2.1 = v.2.2.2.2.1 ∧ (v.2.2.2.1 = 0 → t.1.1 = v.1.1.map nI ∧ mLook tx e t.2 = mLook tx e v.2 ∧ v.2.1 ≤ e ∧ s.1 ≤ v.2.1 ∧ v.1.1 ≠ [] ∧ v.1.1.length + s.1 ≤ v.2.1 ∧ v.1.2 = decide (41 ∈ v.1.1) ∧ TyR al q v.1.1 [] [b])
theorem rdg_of {b : Bool} {s : Ps} {t : Tt} {v : Pt} {op : Int32} (hD : D ≤ 64) (hR : yR tx e t = yC (fun t => .inl (t.1, mLook tx e t.2)) v [] op 0) (h : v.2.2.2.1 = 0 → AdL e (TyP al q b D) (([], false), s) v) : Rdg tx e al q b t s v := by
  by_cases hz : v.2.2.2.1 = 0
  · rw [yC_ok hz] at hR
    obtain ⟨x1, x2, x3⟩ := yR_inl hR
    obtain ⟨a1, l, a2, a3, a4⟩ := h hz
    dsimp only at a2 a3 x3
    have e1 : v.1.1 = l := by rw [a2]; rfl
    have e2 : v.1.2 = decide (41 ∈ l) := by rw [a2]; rfl
    have e4 : t.2.2 = v.2.2 := (congrArg Prod.snd x3 : (mLook tx e t.2).2 = (mLook tx e v.2).2)
    refine ⟨by rw [e4], by rw [e4], fun _ => ⟨by rw [x2], x3, a1, by omega, by rw [e1]; exact a4.1, by rw [e1]; exact a3, by rw [e1]; exact e2, by rw [e1]; exact a4.2 [] (by simp only [List.length_nil]; omega)⟩⟩
  · rw [yC_bad hz] at hR
    obtain ⟨x1, x2, x3⟩ := yR_inr hR
    exact ⟨x2, x3, fun z => absurd z hz⟩
theorem rdg_sums (he : e ≤ 1600) (hM : ∀ k, k < 10 → m.testBit k = alw tk (nI k)) (hal : ∀ k, k < 9 → alw tk (nI k) = true → al k = true) (hq9 : alw tk (nI 9) = true → q = true) {s : Ps} (hz : s.2.2.1 = 0) (hs : s.1 ≤ e) : Rdg tx e al q false (sSums tx e tk (t0 s)) s (cSums tx e (cPt tx e m 6) (([], false), s)) :=
  rdg_of (D := 3 * 6 + 3 + 2) (by omega) (sums_top (u := (([], false), s)) he (pt_sm he hM hal hq9 6 (by omega)) hz hs (fun w r z => by simp at z) (Nat.zero_le _) (Or.inl rfl)) (fun z => ((sums_sm (tx := tx) (tk := tk) (q := q) he (pt_sm he hM hal hq9 6 (by omega)) (([], false), s) hz hs (Nat.zero_le _)).1 z).1)
theorem rdg_test (he : e ≤ 1600) (hM : ∀ k, k < 10 → m.testBit k = alw tk (nI k)) (hal : ∀ k, k < 9 → alw tk (nI k) = true → al k = true) (hq9 : alw tk (nI 9) = true → q = true) {s : Ps} (hz : s.2.2.1 = 0) (hs : s.1 ≤ e) : Rdg tx e al q true (tTest tx e tk (t0 s)) s (cTests tx e (cFc tx e m 6) (([], false), s)) := by
  obtain ⟨p1, p2⟩ := tests_sm he (fc_sm he hM hal hq9 6 (by omega)) (([], false), s) hz hs (Nat.zero_le _)
  have h2 := p2 [] 0 ⟨fun w r z => by simp at z, fun w r z => by simp at z, fun w r z => by simp at z⟩ (by omega) (Nat.zero_le _)
  have hA : yR tx e (tTest tx e tk (t0 s)) = zA tx e tk (([], [], nI 0, 0), s) := rfl
  refine rdg_of (D := 3 * 6 + 6 + 2) (op := nI (6 - 6)) (by omega) (hA.trans (h2.trans ?_)) (fun z => (p1 z).1)
  unfold cTests
  by_cases hvz : (cEith tx e (cBoth tx e (cFc tx e m 6)) (([], false), s)).2.2.2.1 = 0
  · obtain ⟨⟨a1, -⟩, a5⟩ := p1 hvz
    rw [yC_ok hvz, yC_ok hvz, zB_no (fun w r z => by simp at z) hvz a1 (fun z => by simp at z) (cWd_none hvz (by omega) a5.1.2) (cWd_none hvz (by omega) a5.2), if_neg (by simp)]
    rfl
  · rw [yC_bad hvz, yC_bad hvz]
end TSM
