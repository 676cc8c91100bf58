/-! a pair of the class against the yard; all levels of parts; a sum read whole -/
def pU (tx : Nat → Nat) (e : Nat) (x : Int32) (q : Qt) (s3 : Ps) : Tt := if chr tx e s3.1 = nI 40 then opn x (nI s3.1) (q, s3) else (q, s3)
section PRR
variable {tx : Nat → Nat} {e : Nat} {tk : Int32} {al : Nat → Bool} {q : Bool} {m : Nat} {u : Pt} {D op : Nat}
theorem pMM_31 {s : Ps} (hz : s.2.2.1 = 0) (hs : s.1 ≤ e) (qt : Qt) (h : wdO tx e s = some 31) : pMM tx e qt (mLook tx e s) = ((pU tx e (nI 21) qt (mLook tx e (wAf tx e s))).1, mAskSign tx e (pU tx e (nI 21) qt (mLook tx e (wAf tx e s))).2 (nI 40)) := by
  have h1 : sk tx e (mLook tx e s).1 = (mLook tx e s).1 := sk_sk hs
  have h2 : hereW tx e (mLook tx e s).1 (mLook tx e s).2.1 wMin = true := (here_wd (i := 31) hz (by omega)).trans (decide_eq_true h)
  have h3 : mTakes tx e (mLook tx e s) wMin = (true, wAf tx e s) := by
    rw [mTakes_t (mLook tx e s) hz h1 wMin h2, wd_af h]
    rfl
  unfold pMM
  rw [h3]
  rfl
theorem pMM_32 {s : Ps} (hz : s.2.2.1 = 0) (hs : s.1 ≤ e) (qt : Qt) (h : wdO tx e s = some 32) : pMM tx e qt (mLook tx e s) = ((pU tx e (nI 22) qt (mLook tx e (wAf tx e s))).1, mAskSign tx e (pU tx e (nI 22) qt (mLook tx e (wAf tx e s))).2 (nI 40)) := by
  have h1 : sk tx e (mLook tx e s).1 = (mLook tx e s).1 := sk_sk hs
  have h2 : ¬ hereW tx e (mLook tx e s).1 (mLook tx e s).2.1 wMin = true := by
    rw [show hereW tx e (mLook tx e s).1 (mLook tx e s).2.1 wMin = decide (wdO tx e s = some 31) from here_wd (i := 31) hz (by omega), h]
    decide
  have h3 : mTakes tx e (mLook tx e s) wMin = (false, mLook tx e s) := mTakes_f (mLook tx e s) hz h1 wMin h2
  have h4 : mAsks tx e (mLook tx e s) wMax = wAf tx e s := asks_wd hz hs h
  unfold pMM
  rw [h3]
  dsimp only
  rw [h4]
  rfl
theorem yB_cm {cs ws : List Int32} {x op : Int32} {bs : Nat} {s : Ps} (hx : x = nI 21 ∨ x = nI 22) (hb : bs ≤ ws.length) (hz : s.2.2.1 = 0) (hs : s.1 ≤ e) (hc : chr tx e (sk tx e s.1) = nI 44) : yB tx e tk ((cs, x :: ws, op, bs), s) = yA tx e tk ((cs, (x + nI 2) :: ws, op, bs), (sk tx e s.1 + 1, s.2)) := by
  have hbr : isBr x = true := by rcases hx with h | h <;> rw [h] <;> decide
  have h60 : ¬ nI 60 ≤ x := by rcases hx with h | h <;> rw [h] <;> decide
  have h1 : sk tx e (mLook tx e s).1 = sk tx e s.1 := sk_sk hs
  rw [yB_br (qE_hd h60) hz hs (fun z => by rw [hc] at z; exact absurd z.1 (by decide)) (by rw [hc]; decide) (by rw [hc]; decide) (by rw [hc]; decide) (by rw [hc]; decide)]
  unfold gBr
  dsimp only
  rw [qBrk_hd hb hbr, qDown_hd hbr, if_pos hx, askS_y (s := mLook tx e s) hz (by rw [h1]; exact hc), h1, if_pos (show ((sk tx e s.1 + 1, (mLook tx e s).2) : Ps).2.2.1 = 0 from hz), yF_true]
  rfl
theorem yB_cn {cs ws : List Int32} {x op : Int32} {bs : Nat} {s : Ps} (hx : x = nI 21 ∨ x = nI 22) (hb : bs ≤ ws.length) (hz : s.2.2.1 = 0) (hs : s.1 ≤ e) (hc : ¬ chr tx e (sk tx e s.1) = nI 44) (hN : (True ∧ cSg 42 47 3 4 tx e s = none) ∧ cSg 43 45 1 2 tx e s = none) : yB tx e tk ((cs, x :: ws, op, bs), s) = .inr (nI 1, nI (sk tx e s.1)) := by
  have hbr : isBr x = true := by rcases hx with h | h <;> rw [h] <;> decide
  have h60 : ¬ nI 60 ≤ x := by rcases hx with h | h <;> rw [h] <;> decide
  have hcl : clB x = false := by rcases hx with h | h <;> rw [h] <;> decide
  have h1 : sk tx e (mLook tx e s).1 = sk tx e s.1 := sk_sk hs
  obtain ⟨n1, n2⟩ := cSg_none hz hN.1.2
  obtain ⟨n3, n4⟩ := cSg_none hz hN.2
  rw [yB_br (qE_hd h60) hz hs (fun z => by rw [qBrk_hd hb hbr, hcl] at z; exact absurd z.2 (by decide)) n1 n2 n3 n4]
  unfold gBr
  dsimp only
  rw [qBrk_hd hb hbr, if_pos hx, askS_n (s := mLook tx e s) hz (by rw [h1]; exact hc), if_neg (mFail_0 _ _ _ (by decide)), yF_bad (mFail_0 _ _ _ (by decide)), mFail_z (s := mLook tx e (mLook tx e s)) hz, h1]
theorem cPart1_bad (hz : ¬ u.2.2.2.1 = 0) (o : Option (Pt → Pt)) : cPart1 tx e m o u = u := by
  have h1 : ¬ dHasB tx e u.2 = true := fun z => hz (dHasB_iff.mp z).1
  have h2 : (mSign tx e u.2 (nI 40)).1 = false := by
    unfold mSign
    rw [if_neg hz]
  have h3 : wdO tx e u.2 = none := wdO_no (fun z => hz z.1)
  unfold cPart1
  rw [if_neg h1, h2, h3, if_neg Bool.false_ne_true]
  show (u.1, mFail u.2 (nI 1) (nI (sk tx e u.2.1))) = u
  unfold mFail
  rw [if_neg hz]
theorem cPt_bad (n : Nat) (hz : ¬ u.2.2.2.1 = 0) : cPt tx e m n u = u := by
  cases n with
  | zero => exact cPart1_bad hz _
  | succ n => exact cPart1_bad hz _
theorem cSums_bad {P : Pt → Pt} (hPb : ∀ u : Pt, ¬ u.2.2.2.1 = 0 → P u = u) (hz : ¬ u.2.2.2.1 = 0) : cSums tx e P u = u := by
  unfold cSums cSum cProd
  rw [hPb u hz, cLoop_bad (fun s hb => cSg_bad hb) _ hz, cLoop_bad (fun s hb => cSg_bad hb) _ hz]
theorem part_pair (he : e ≤ 1600) (hz : u.2.2.2.1 = 0) (hle : u.2.1 ≤ e) (hln : u.1.1.length ≤ u.2.1) {w x n : Nat} (hx : (w = 31 ∧ x = 21 ∧ n = 5) ∨ (w = 32 ∧ x = 22 ∧ n = 6)) (hw : wdO tx e u.2 = some w) (hop : op ≤ 6) {o : Option (Pt → Pt)} (hN : o = none → op = 6) (hS : ∀ P, o = some P → op < 6 ∧ (∀ u : Pt, ¬ u.2.2.2.1 = 0 → P u = u) ∧ SmO e (yA tx e tk) (yB tx e tk) Wp P (nI (op + 1)) (fun _ => True) (TyP al q false D)) : SmU e (yA tx e tk) (yB tx e tk) Wp (nI op) (fun _ => True) (TyP al q false (D + 3)) u (cPair tx e (o.map (cSums tx e)) n (u.1, wAf tx e u.2)) := by
  obtain ⟨f1, f2, f3⟩ := wAf_le hle hw
  have hz' : (wAf tx e u.2).2.2.1 = 0 := f3.trans hz
  have hx2 : nI x = nI 21 ∨ nI x = nI 22 := by
    rcases hx with h | h
    · exact Or.inl (by rw [h.2.1])
    · exact Or.inr (by rw [h.2.1])
  have hx3 : nI x + nI 2 = nI 20 ∨ nI x + nI 2 = nI 23 ∨ nI x + nI 2 = nI 24 := by
    rcases hx with h | h
    · rw [h.2.1]; exact Or.inr (Or.inl (by decide))
    · rw [h.2.1]; exact Or.inr (Or.inr (by decide))
  have hx4 : ¬ nI x + nI 2 = nI 20 ∧ (if nI x + nI 2 = nI 23 then nI 5 else nI 6) = nI n := by
    rcases hx with h | h
    · rw [h.2.1, h.2.2]; decide
    · rw [h.2.1, h.2.2]; decide
  have hp : ∀ ws bs, pTry tx e tk ((u.1.1.map nI, ws, nI op, bs), u.2) = (true, ((pU tx e (nI x) (u.1.1.map nI, ws, nI op, bs) (mLook tx e (wAf tx e u.2))).1, mAskSign tx e (pU tx e (nI x) (u.1.1.map nI, ws, nI op, bs) (mLook tx e (wAf tx e u.2))).2 (nI 40))) := by
    intro ws bs
    rcases hx with h | h
    · rw [h.1] at hw
      rw [pTry_mm hz (chr_wd hw (by omega)) (Or.inl hw), pMM_31 hz hle _ hw, h.2.1]
    · rw [h.1] at hw
      rw [pTry_mm hz (chr_wd hw (by omega)) (Or.inr hw), pMM_32 hz hle _ hw, h.2.1]
  generalize hs1 : wAf tx e u.2 = s1 at f1 f2 hz' hp ⊢
  have hk1 : sk tx e (mLook tx e s1).1 = sk tx e s1.1 := sk_sk f2
  have hsk := sk_le (tx := tx) f2
  unfold cPair
  dsimp only
  rw [sgn_eq hz']
  by_cases hc : chr tx e (sk tx e s1.1) = nI 40
  · have hlt := chr_lt hc (by omega)
    rw [if_pos (decide_eq_true hc)]
    have hpU : ∀ qt, pU tx e (nI x) qt (mLook tx e s1) = opn (nI x) (nI (sk tx e s1.1)) (qt, mLook tx e s1) := fun qt => if_pos hc
    cases o with
    | none =>
      have h6 := hN rfl
      subst h6
      show SmU e (yA tx e tk) (yB tx e tk) Wp (nI 6) (fun _ => True) (TyP al q false (D + 3)) u (u.1, mFail s1 (nI 4) (nI (sk tx e s1.1)))
      refine smU_fail hz' (by decide) (fun ws bs _ w2 w3 => ?_)
      have hb : ¬ (mFail (mLook tx e s1) (nI 4) (nI (sk tx e s1.1))).2.2.1 = 0 := mFail_0 _ _ _ (by decide)
      have hp := hp ws bs
      rw [hpU, opn_6 hz' rfl] at hp
      dsimp only at hp
      rw [askS_b hb] at hp
      rw [yA_bad hz (IV_mk hle w2 (by simpa using w3)) hp hb, mFail_z (s := mLook tx e s1) hz']
    | some P =>
      obtain ⟨hop6, hPb, hP⟩ := hS P rfl
      show SmU e (yA tx e tk) (yB tx e tk) Wp (nI op) (fun _ => True) (TyP al q false (D + 3)) u (cPut (cNd tx e 41 (cSums tx e P (cNd tx e 44 (cSums tx e P (u.1, (sk tx e s1.1 + 1, s1.2)))))) n)
      obtain ⟨p1, p2⟩ := sums_sm he hP (u.1, (sk tx e s1.1 + 1, s1.2)) hz' (by dsimp only; omega) (by dsimp only; omega)
      generalize hv : cSums tx e P (u.1, (sk tx e s1.1 + 1, s1.2)) = v at p1 p2 ⊢
      have hA : ∀ ws bs, Wp ws bs → bs < 1700 → u.1.1.length + ws.length ≤ u.2.1 → yA tx e tk ((u.1.1.map nI, ws, nI op, bs), u.2) = yC (yB tx e tk) v (nI x :: ws) (nI (op + 1)) bs := by
        intro ws bs w1 w2 w3
        have hp := hp ws bs
        rw [hpU, opn_k hz' (n_op hop6)] at hp
        dsimp only at hp
        rw [nI_add, askS_y (s := mLook tx e s1) hz' (by rw [hk1]; exact hc), hk1] at hp
        rw [yA_go hz (IV_mk hle w2 (by simpa using w3)) hp hz']
        exact p2 (nI x :: ws) bs (Wa_hd (by rcases hx2 with h | h <;> rw [h] <;> decide) (by rcases hx2 with h | h <;> rw [h] <;> decide) w1) w2 (by simp only [List.length_cons]; omega)
      by_cases hvz : v.2.2.2.1 = 0
      · obtain ⟨⟨a1, l, a2, a3, a4⟩, a5⟩ := p1 hvz
        dsimp only at a2 a3
        have e1 : v.1.1 = u.1.1 ++ l := by rw [a2]
        have e2 : v.1.2 = (u.1.2 || decide (41 ∈ l)) := by rw [a2]
        have e3 : v.1.1.length = u.1.1.length + l.length := by rw [e1, List.length_append]
        have hk2 := sk_le (tx := tx) a1
        by_cases hc2 : chr tx e (sk tx e v.2.1) = nI 44
        · have hlt2 := chr_lt hc2 (by omega)
          rw [show cNd tx e 44 v = (v.1, (sk tx e v.2.1 + 1, v.2.2)) by unfold cNd; rw [askS_y hvz hc2]]
          obtain ⟨r1, r2⟩ := sums_sm he hP (v.1, (sk tx e v.2.1 + 1, v.2.2)) hvz (by dsimp only; omega) (by dsimp only; omega)
          generalize hy : cSums tx e P (v.1, (sk tx e v.2.1 + 1, v.2.2)) = y at r1 r2 ⊢
          have hB : ∀ ws bs, Wp ws bs → bs < 1700 → u.1.1.length + ws.length ≤ u.2.1 → yA tx e tk ((u.1.1.map nI, ws, nI op, bs), u.2) = yC (yB tx e tk) y ((nI x + nI 2) :: ws) (nI (op + 1)) bs := by
            intro ws bs w1 w2 w3
            rw [hA ws bs w1 w2 w3, yC_ok hvz, yB_cm hx2 w1 hvz a1 hc2]
            exact r2 ((nI x + nI 2) :: ws) bs (Wa_hd (by rcases hx3 with h | h | h <;> rw [h] <;> decide) (by rcases hx3 with h | h | h <;> rw [h] <;> decide) w1) w2 (by simp only [List.length_cons]; omega)
          by_cases hyz : y.2.2.2.1 = 0
          · obtain ⟨⟨b1, l2, b2, b3, b4⟩, b5⟩ := r1 hyz
            dsimp only at b2 b3
            have g1 : y.1.1 = v.1.1 ++ l2 := by rw [b2]
            have g2 : y.1.2 = (v.1.2 || decide (41 ∈ l2)) := by rw [b2]
            have g3 : y.1.1.length = v.1.1.length + l2.length := by rw [g1, List.length_append]
            have hk3 := sk_le (tx := tx) b1
            by_cases hc3 : chr tx e (sk tx e y.2.1) = nI 41
            · have hlt3 := chr_lt hc3 (by omega)
              rw [show cNd tx e 41 y = (y.1, (sk tx e y.2.1 + 1, y.2.2)) by unfold cNd; rw [askS_y hyz hc3], cPut_in (u := (y.1, (sk tx e y.2.1 + 1, y.2.2))) (by dsimp only; omega)]
              refine ⟨fun _ => ⟨⟨by dsimp only; omega, l ++ l2 ++ [n], ?_, ?_, by simp, fun ts ht => ?_⟩, trivial⟩, fun ws bs w1 w2 w3 => ?_⟩
              · dsimp only
                rw [g1, g2, e1, e2]
                have : ¬ 41 = n := by omega
                simp [this, Bool.or_assoc]
              · simp only [List.length_append, List.length_cons, List.length_nil]
                omega
              · exact TyR.app (TyR.app (a4.2 ts (by omega)) (b4.2 (false :: ts) (by simp only [List.length_cons]; omega))) (TyR.one (TyS_j (by omega) (by omega) ts) (by simp only [List.length_cons]; omega))
              · rw [hB ws bs w1 w2 w3, yC_ok hyz, yB_cl hx3 w1 b1 hc3, if_neg hx4.1, hx4.2, pk_sub (by omega), Nat.add_sub_cancel, yC_ok (u := ((y.1.1 ++ [n], y.1.2), (sk tx e y.2.1 + 1, y.2.2))) hyz]
                simp
            · have hbad : ¬ (mFail (mLook tx e y.2) (nI 1) (nI (sk tx e y.2.1))).2.2.1 = 0 := mFail_0 _ _ _ (by decide)
              rw [show cNd tx e 41 y = (y.1, mFail (mLook tx e y.2) (nI 1) (nI (sk tx e y.2.1))) by unfold cNd; rw [askS_n hyz hc3]]
              rw [show cPut (y.1, mFail (mLook tx e y.2) (nI 1) (nI (sk tx e y.2.1))) n = ((cPut (y.1, mFail (mLook tx e y.2) (nI 1) (nI (sk tx e y.2.1))) n).1, mFail (mLook tx e y.2) (nI 1) (nI (sk tx e y.2.1))) from Prod.ext rfl (cPut_2 _ _)]
              refine smU_fail (s := mLook tx e y.2) hyz (by decide) (fun ws bs w1 w2 w3 => ?_)
              rw [hB ws bs w1 w2 w3, yC_ok hyz, yB_nb hx3 w1 hyz b1 hc3 b5]
          · rw [show cNd tx e 41 y = y by unfold cNd; rw [askS_b hyz]]
            have hb : ¬ (cPut y n).2.2.2.1 = 0 := by rw [cPut_2]; exact hyz
            refine ⟨fun z => absurd z hb, fun ws bs w1 w2 w3 => ?_⟩
            rw [hB ws bs w1 w2 w3, yC_bad hyz, yC_bad hb, cPut_2]
        · have hbad : ¬ (mFail (mLook tx e v.2) (nI 1) (nI (sk tx e v.2.1))).2.2.1 = 0 := mFail_0 _ _ _ (by decide)
          rw [show cNd tx e 44 v = (v.1, mFail (mLook tx e v.2) (nI 1) (nI (sk tx e v.2.1))) by unfold cNd; rw [askS_n hvz hc2]]
          rw [cSums_bad (u := (v.1, mFail (mLook tx e v.2) (nI 1) (nI (sk tx e v.2.1)))) hPb hbad]
          rw [show cNd tx e 41 (v.1, mFail (mLook tx e v.2) (nI 1) (nI (sk tx e v.2.1))) = (v.1, mFail (mLook tx e v.2) (nI 1) (nI (sk tx e v.2.1))) by unfold cNd; rw [askS_b hbad]]
          rw [show cPut (v.1, mFail (mLook tx e v.2) (nI 1) (nI (sk tx e v.2.1))) n = ((cPut (v.1, mFail (mLook tx e v.2) (nI 1) (nI (sk tx e v.2.1))) n).1, mFail (mLook tx e v.2) (nI 1) (nI (sk tx e v.2.1))) from Prod.ext rfl (cPut_2 _ _)]
          refine smU_fail (s := mLook tx e v.2) hvz (by decide) (fun ws bs w1 w2 w3 => ?_)
          rw [hA ws bs w1 w2 w3, yC_ok hvz, yB_cn hx2 w1 hvz a1 hc2 a5]
      · rw [show cNd tx e 44 v = v by unfold cNd; rw [askS_b hvz], cSums_bad hPb hvz, show cNd tx e 41 v = v by unfold cNd; rw [askS_b hvz]]
        have hb : ¬ (cPut v n).2.2.2.1 = 0 := by rw [cPut_2]; exact hvz
        refine ⟨fun z => absurd z hb, fun ws bs w1 w2 w3 => ?_⟩
        rw [hA ws bs w1 w2 w3, yC_bad hvz, yC_bad hb, cPut_2]
  · rw [if_neg (by simp [hc])]
    refine smU_fail hz' (by decide) (fun ws bs _ w2 w3 => ?_)
    have hpU : pU tx e (nI x) (u.1.1.map nI, ws, nI op, bs) (mLook tx e s1) = ((u.1.1.map nI, ws, nI op, bs), mLook tx e s1) := if_neg hc
    have hb : ¬ (mFail (mLook tx e (mLook tx e s1)) (nI 1) (nI (sk tx e (mLook tx e s1).1))).2.2.1 = 0 := mFail_0 _ _ _ (by decide)
    have hp := hp ws bs
    rw [hpU] at hp
    dsimp only at hp
    rw [askS_n (s := mLook tx e s1) hz' (by rw [hk1]; exact hc)] at hp
    rw [yA_bad hz (IV_mk hle w2 (by simpa using w3)) hp hb, mFail_z (s := mLook tx e (mLook tx e s1)) hz', hk1]
theorem part_sm (he : e ≤ 1600) (hM : ∀ k, k < 10 → m.testBit k = alw tk (nI k)) (hal : ∀ k, k < 9 → alw tk (nI k) = true → al k = true) (hq9 : alw tk (nI 9) = true → q = true) (hop : op ≤ 6) {o : Option (Pt → Pt)} (hN : o = none → op = 6) (hS : ∀ P, o = some P → op < 6 ∧ (∀ u : Pt, ¬ u.2.2.2.1 = 0 → P u = u) ∧ SmO e (yA tx e tk) (yB tx e tk) Wp P (nI (op + 1)) (fun _ => True) (TyP al q false D)) : SmO e (yA tx e tk) (yB tx e tk) Wp (cPart1 tx e m o) (nI op) (fun _ => True) (TyP al q false (D + 3)) := by
  intro u hz hle hln
  unfold cPart1
  by_cases hd : dHasB tx e u.2 = true
  · rw [if_pos hd]
    exact part_num he hz hle hln (dHasB_iff.mp hd)
  · rw [if_neg hd, sgn_eq hz]
    have hd' : ¬ dHas tx e u.2 := fun z => hd (dHasB_iff.mpr z)
    by_cases hc : chr tx e (sk tx e u.2.1) = nI 40
    · rw [if_pos (decide_eq_true hc)]
      cases o with
      | none =>
        have h6 := hN rfl
        subst h6
        exact part_parN hz hle hc
      | some P =>
        obtain ⟨h1, -, h2⟩ := hS P rfl
        exact part_par he h1 hz hle hln hc h2
    · rw [if_neg (by simp [hc])]
      cases hw : wdO tx e u.2 with
      | none =>
        exact part_fail hz hle hd' hc (by rw [hw]; simp) (by rw [hw]; simp) (fun w z => by rw [hw] at z; simp at z)
      | some w =>
        unfold cWord
        dsimp only
        by_cases h31 : w = 31
        · rw [if_pos h31]
          exact part_pair he hz hle hln (Or.inl ⟨h31, rfl, rfl⟩) hw hop hN hS
        · rw [if_neg h31]
          by_cases h32 : w = 32
          · rw [if_pos h32]
            exact part_pair he hz hle hln (Or.inr ⟨h32, rfl, rfl⟩) hw hop hN hS
          · rw [if_neg h32]
            by_cases hp : isPt m (some w) = true
            · rw [if_pos hp]
              unfold isPt at hp
              simp only [Bool.and_eq_true, decide_eq_true_eq] at hp
              obtain ⟨⟨h17, h26⟩, hb⟩ := hp
              rw [hM (w - 17) (by omega)] at hb
              by_cases hn : w = 26
              · subst hn
                rw [if_pos rfl]
                cases o with
                | none =>
                  have h6 := hN rfl
                  subst h6
                  exact part_nearN hz hle hw hb
                | some P =>
                  obtain ⟨h1, -, h2⟩ := hS P rfl
                  exact part_near he h1 hz hle hln hw hb (hq9 hb) h2
              · rw [if_neg hn]
                exact part_val he hal hz hle hln hw h17 (by omega) hb
            · rw [if_neg hp]
              refine part_fail hz hle hd' hc (by rw [hw]; simp [h31]) (by rw [hw]; simp [h32]) (fun w' z h17 h26 => ?_)
              rw [hw] at z
              simp only [Option.some.injEq] at z
              subst z
              rw [← hM (w - 17) (by omega)]
              unfold isPt at hp
              cases hb : m.testBit (w - 17) with
              | false => rfl
              | true =>
                exfalso
                apply hp
                simp [h17, h26, hb]
theorem pt_sm (he : e ≤ 1600) (hM : ∀ k, k < 10 → m.testBit k = alw tk (nI k)) (hal : ∀ k, k < 9 → alw tk (nI k) = true → al k = true) (hq9 : alw tk (nI 9) = true → q = true) : ∀ n, n ≤ 6 → SmO e (yA tx e tk) (yB tx e tk) Wp (cPt tx e m n) (nI (6 - n)) (fun _ => True) (TyP al q false (3 * n + 3))
  | 0, _ => part_sm (D := 0) he hM hal hq9 (by omega) (fun _ => rfl) (fun P z => by simp at z)
  | n + 1, h => by
    refine part_sm (D := 3 * n + 3) (o := some (cPt tx e m n)) he hM hal hq9 (by omega) (fun z => by simp at z) (fun P z => ?_)
    simp only [Option.some.injEq] at z
    subst z
    refine ⟨by omega, fun u hz => cPt_bad n hz, ?_⟩
    rw [show 6 - (n + 1) + 1 = 6 - n by omega]
    exact pt_sm he hM hal hq9 n (by omega)
theorem yR_inl {t : Tt} {qt : Qt} {s : Ps} (h : yR tx e t = .inl (qt, s)) : t.2.2.2.1 = 0 ∧ t.1 = qt ∧ mLook tx e t.2 = s := by
  unfold yR at h
  by_cases hz : t.2.2.2.1 = 0
  · rw [if_pos hz] at h
    simp only [Sum.inl.injEq, Prod.mk.injEq] at h
    exact ⟨hz, h.1, h.2⟩
  · rw [if_neg hz] at h
    exact absurd h (by simp)
theorem yR_inr {t : Tt} {k pl : Int32} (h : yR tx e t = .inr (k, pl)) : ¬ t.2.2.2.1 = 0 ∧ t.2.2.2.1 = k ∧ t.2.2.2.2.1 = pl := by
  unfold yR at h
  by_cases hz : t.2.2.2.1 = 0
  · rw [if_pos hz] at h
    exact absurd h (by simp)
  · rw [if_neg hz] at h
    simp only [Sum.inr.injEq, Prod.mk.injEq] at h
    exact ⟨hz, h.1, h.2⟩
theorem qBrk_bs (ws : List Int32) : qBrk ws ws.length = -1 := by
  cases ws with
  | nil => rfl
  | cons w r =>
    unfold qBrk
    rw [if_neg (by simp only [List.length_cons]; omega)]
theorem qAllD_bs (cs ws : List Int32) : qAllD cs ws ws.length = (cs, ws) := by
  cases ws with
  | nil => rfl
  | cons w r =>
    unfold qAllD
    rw [if_neg (by simp only [List.length_cons]; omega)]
theorem pTry_look {t : Tt} (h : t.2.1 ≤ e) : pTry tx e tk (t.1, mLook tx e t.2) = pTry tx e tk t := by
  unfold pTry
  dsimp only
  rw [mLook_look h]
theorem yA_look {t : Tt} (hz : t.2.2.2.1 = 0) (h : IV e 0 t) : yA tx e tk (t.1, mLook tx e t.2) = yA tx e tk t := by
  have h1 := (mLook_iv (tx := tx) h).1
  have h2 := pTry_look (tx := tx) (tk := tk) h.1
  cases hp : pTry tx e tk t with
  | mk b t' =>
    cases b with
    | true =>
      by_cases hb : t'.2.2.2.1 = 0
      · rw [yA_go hz h hp hb, yA_go (t := (t.1, mLook tx e t.2)) hz h1 (h2.trans hp) hb]
      · rw [yA_bad hz h hp hb, yA_bad (t := (t.1, mLook tx e t.2)) hz h1 (h2.trans hp) hb]
    | false =>
      have e1 : (pTry tx e tk t).1 = false := by rw [hp]
      have e2 : (pTry tx e tk (t.1, mLook tx e t.2)).1 = false := by rw [h2, hp]
      rw [yA_s hz h, yA_s (t := (t.1, mLook tx e t.2)) hz h1, pPart_last hz h.1 e1, pPart_last (t := (t.1, mLook tx e t.2)) hz h1.1 e2]
      dsimp only
      rw [mLook_look h.1]
/-- a sum: what the yard comes to is what the class reads -/
theorem sums_top (he : e ≤ 1600) {P : Pt → Pt} {op : Int32} (hP : SmO e (yA tx e tk) (yB tx e tk) Wp P op (fun _ => True) (TyP al q false D)) (hz : u.2.2.2.1 = 0) (hle : u.2.1 ≤ e) {ws : List Int32} {b0 : Nat} (hb : ∀ w r, ws = w :: r → addS w = false) (hl : u.1.1.length + ws.length ≤ u.2.1) {s' : Ps} (hs : s' = u.2 ∨ s' = mLook tx e u.2) : yR tx e (sSums tx e tk ((u.1.1.map nI, ws, op, b0), s')) = yC (fun t => .inl (t.1, mLook tx e t.2)) (cSums tx e P u) ws op b0 := by
  obtain ⟨p1, p2⟩ := sums_sm he hP u hz hle (by omega)
  have h2 := p2 ws ws.length ⟨Nat.le_refl _, fun w r z h => by rw [z] at h; simp only [List.length_cons] at h; omega, hb⟩ (by omega) hl
  have h3 : yA tx e tk ((u.1.1.map nI, ws, op, ws.length), s') = yA tx e tk ((u.1.1.map nI, ws, op, ws.length), u.2) := by
    rcases hs with h | h
    · rw [h]
    · rw [h]
      exact yA_look (t := ((u.1.1.map nI, ws, op, ws.length), u.2)) hz (IV_mk hle (by omega) (by simpa using hl))
  rw [← h3] at h2
  unfold sSums
  unfold yA at h2
  show yR tx e (tBs b0 (tAll (sLoop tx e tk (e + 2 - s'.1) ((u.1.1.map nI, ws, op, ws.length), s')))) = _
  change yR tx e (tAll (sLoop tx e tk (e + 2 - s'.1) ((u.1.1.map nI, ws, op, ws.length), s'))) = _ at h2
  generalize tAll (sLoop tx e tk (e + 2 - s'.1) ((u.1.1.map nI, ws, op, ws.length), s')) = X at h2 ⊢
  generalize cSums tx e P u = v at p1 h2 ⊢
  by_cases hvz : v.2.2.2.1 = 0
  · obtain ⟨⟨a1, -⟩, a5⟩ := p1 hvz
    obtain ⟨n1, n2⟩ := cSg_none hvz a5.1.2
    obtain ⟨n3, n4⟩ := cSg_none hvz a5.2
    rw [yC_ok hvz, yB_br (fun w r z h => by rw [z] at h; simp only [List.length_cons] at h; omega) hvz a1 (fun z => by rw [qBrk_bs] at z; exact absurd z.2 (by decide)) n1 n2 n3 n4] at h2
    unfold gBr at h2
    dsimp only at h2
    rw [qBrk_bs, if_neg (by decide), if_pos rfl, yF_end (s := mLook tx e v.2) hvz, qAllD_bs, mLook_look a1] at h2
    obtain ⟨x1, x2, x3⟩ := yR_inl h2
    rw [yC_ok hvz]
    unfold yR
    rw [if_pos (show (tBs b0 X).2.2.2.1 = 0 from x1)]
    unfold tBs
    dsimp only
    rw [x2, x3]
  · rw [yC_bad hvz] at h2
    obtain ⟨x1, x2, x3⟩ := yR_inr h2
    rw [yC_bad hvz, ← x2, ← x3]
    exact yR_bad (t := tBs b0 X) x1
end PRR
