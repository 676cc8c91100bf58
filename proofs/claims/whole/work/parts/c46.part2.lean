/-! a part of the class against the yard -/
theorem partL_k : ∀ i : Fin 10, partL.getD i.val [] = keyL.getD (17 + i.val) [] := by decide +kernel
theorem key_pos : ∀ i : Fin 39, 0 < (keyL.getD i.val []).length := by decide +kernel
section PRT
variable {tx : Nat → Nat} {e : Nat} {tk : Int32} {al : Nat → Bool} {q : Bool} {m : Nat} {u : Pt} {D op : Nat}
theorem IV_mk {cs ws : List Int32} {op : Int32} {bs : Nat} {s : Ps} (hs : s.1 ≤ e) (hb : bs < 1700) (hl : cs.length + ws.length ≤ s.1) : IV e 0 ((cs, ws, op, bs), s) := ⟨hs, hb, by show cs.length + ws.length ≤ e + 2; omega, fun _ => by show cs.length + ws.length + 0 ≤ s.1; omega⟩
theorem smU_fail {A B : Tt → (Qt × Ps) ⊕ (Int32 × Int32)} {W : List Int32 → Nat → Prop} {op : Int32} {NX : Ps → Prop} {T : List Nat → Prop} {cc : List Nat × Bool} {s : Ps} {k pl : Int32} (hz : s.2.2.1 = 0) (hk : ¬ k = 0) (h : ∀ ws bs, W ws bs → bs < 1700 → u.1.1.length + ws.length ≤ u.2.1 → A ((u.1.1.map nI, ws, op, bs), u.2) = .inr (k, pl)) : SmU e A B W op NX T u (cc, mFail s k pl) := by
  have hb : ¬ (mFail s k pl).2.2.1 = 0 := mFail_0 _ _ _ hk
  refine ⟨fun q => absurd q hb, fun ws bs w1 w2 w3 => ?_⟩
  rw [h ws bs w1 w2 w3, yC_bad (u := (cc, mFail s k pl)) hb]
  show _ = Sum.inr ((mFail s k pl).2.2.1, (mFail s k pl).2.2.2.1)
  rw [mFail_z hz]
theorem pIdx_wd {s : Ps} (hz : s.2.2.1 = 0) : pIdx tx e tk (mLook tx e s) = match wdO tx e s with
    | some w => if 17 ≤ w ∧ w ≤ 25 ∧ alw tk (nI (w - 17)) = true then nI (w - 17) else -1
    | none => -1 := by
  have key : ∀ x, fIdx tx e (sk tx e s.1) s.2.1 partL 0 = x → pIdx tx e tk (mLook tx e s) = if nI 0 ≤ x ∧ x < nI 9 ∧ alw tk x = true then x else -1 := by
    intro x hx
    subst hx
    rfl
  have hf := fIdx_wd (tx := tx) (e := e) hz
  cases hw : wdO tx e s with
  | none =>
    rw [hw] at hf
    dsimp only at hf ⊢
    rw [key _ hf]
    split <;> rfl
  | some w =>
    rw [hw] at hf
    dsimp only at hf ⊢
    by_cases h : 17 ≤ w ∧ w ≤ 26
    · rw [if_pos h] at hf
      rw [key _ hf]
      by_cases h2 : w ≤ 25 ∧ alw tk (nI (w - 17)) = true
      · rw [if_pos ⟨(nI_leI (by omega) (by omega)).mpr (by omega), (nI_ltI (by omega) (by omega)).mpr (by omega), h2.2⟩, if_pos ⟨h.1, h2⟩]
      · rw [if_neg (fun z => h2 ⟨by have := n_lt z.2.1; omega, z.2.2⟩), if_neg (fun z => h2 z.2)]
    · rw [if_neg h] at hf
      rw [key _ hf, if_neg (c := 17 ≤ w ∧ w ≤ 25 ∧ alw tk (nI (w - 17)) = true) (fun z => h ⟨z.1, by omega⟩)]
      split <;> rfl
theorem mNum_nd {s : Ps} (hz : s.2.2.1 = 0) (h : ¬ dHas tx e s) (lo hi : Int32) : mNum tx e s lo hi = (nI 0, mFail (mLook tx e s) (nI 1) (nI (sk tx e s.1))) := by
  unfold mNum
  rw [if_pos hz, if_neg (fun z => h ⟨hz, z⟩)]
theorem asks_wd {s : Ps} (hz : s.2.2.1 = 0) (hs : s.1 ≤ e) {w : Nat} (h : wdO tx e s = some w) : mAsks tx e (mLook tx e s) (keyL.getD w []) = wAf tx e s := by
  have h1 : sk tx e (mLook tx e s).1 = sk tx e s.1 := sk_sk hs
  obtain ⟨-, h2⟩ := wdO_has h
  rw [asks_yes (s := mLook tx e s) hz (by rw [here_W (s := mLook tx e s) hz, h1]; exact (here_wd hz h2).trans (decide_eq_true h)), h1, wd_af h]
  rfl
theorem wAf_le {s : Ps} {w : Nat} (hs : s.1 ≤ e) (h : wdO tx e s = some w) : s.1 < (wAf tx e s).1 ∧ (wAf tx e s).1 ≤ e ∧ (wAf tx e s).2.2.1 = s.2.2.1 := by
  obtain ⟨⟨-, h1, h2, -⟩, -⟩ := wdO_has h
  have h4 := wl_pos h1 h2
  have h5 := sk_le (tx := tx) hs
  exact ⟨by show s.1 < wl tx e (sk tx e s.1); omega, h4.2, rfl⟩
theorem chr_wd {s : Ps} {w c : Nat} (h : wdO tx e s = some w) (hc : c < 97) : ¬ chr tx e (sk tx e s.1) = nI c := by
  obtain ⟨⟨-, h1, h2, -⟩, -⟩ := wdO_has h
  intro z
  unfold chr at z
  rw [if_pos h1] at z
  have h5 := isL_le h2
  have := n_eq z (by omega) (by omega)
  omega
theorem part_num (he : e ≤ 1600) (hz : u.2.2.2.1 = 0) (hle : u.2.1 ≤ e) (hln : u.1.1.length ≤ u.2.1) (hd : dHas tx e u.2) : SmU e (yA tx e tk) (yB tx e tk) Wp (nI op) (fun _ => True) (TyP al q false (D + 3)) u (cPut (u.1, (mNum tx e u.2 (nI 0) (nI 9999)).2) (1000 + nn (nuV tx e u.2))) := by
  have hw : wdO tx e u.2 = none := wdO_no (fun z => by have := LnD z.2.2.1; rw [hd.2.2.1] at this; exact absurd this (by decide))
  have hc : ¬ chr tx e (sk tx e u.2.1) = nI 40 := by
    intro z
    unfold chr at z
    rw [if_pos hd.2.1] at z
    have h5 := isD_le hd.2.2.1
    have := n_eq z (by omega) (by omega)
    omega
  obtain ⟨nu, hn1, hn2⟩ := nuV_lt hd
  have hsk := sk_le (tx := tx) hle
  have hlt : u.1.1.length < 1600 := by have := hd.2.1; omega
  rw [hn2, nn_nI (by omega), cPut_in (u := (u.1, (mNum tx e u.2 (nI 0) (nI 9999)).2)) hlt]
  have hP : ∀ ws bs, bs < 1700 → u.1.1.length + ws.length ≤ u.2.1 → yA tx e tk ((u.1.1.map nI, ws, nI op, bs), u.2) = if (mNum tx e u.2 (nI 0) (nI 9999)).2.2.2.1 = 0 then yB tx e tk ((u.1.1.map nI ++ [nI 1000 + (mNum tx e u.2 (nI 0) (nI 9999)).1], ws, nI op, bs), (mNum tx e u.2 (nI 0) (nI 9999)).2) else .inr ((mNum tx e u.2 (nI 0) (nI 9999)).2.2.2.1, (mNum tx e u.2 (nI 0) (nI 9999)).2.2.2.2.1) := by
    intro ws bs w2 w3
    refine yA_last (t' := ((u.1.1.map nI ++ [nI 1000 + (mNum tx e u.2 (nI 0) (nI 9999)).1], ws, nI op, bs), (mNum tx e u.2 (nI 0) (nI 9999)).2)) hz (IV_mk hle w2 (by simpa using w3)) (pTry_no hz hc (by rw [hw]; simp) (by rw [hw]; simp) (by rw [hw]; simp)) ?_
    have hp : pIdx tx e tk (mLook tx e u.2) = -1 := by rw [pIdx_wd hz, hw]
    unfold pLast
    dsimp only
    rw [if_pos hp, mNum_look hz hle]
  by_cases hm : (mNum tx e u.2 (nI 0) (nI 9999)).2.2.2.1 = 0
  · refine ⟨fun _ => ⟨⟨mNum_le _ _ hle, [1000 + nu], ?_, ?_, by simp, fun ts ht => TyR.one (Or.inl ⟨by omega, by omega, rfl⟩) (by simp only [List.length_cons]; omega)⟩, trivial⟩, fun ws bs _ w2 w3 => ?_⟩
    · have : ¬ 41 = 1000 + nu := by omega
      simp [this]
    · have := (mNum_ge (tx := tx) u.2 (nI 0) (nI 9999) hle).2 hm
      simp only [List.length_cons, List.length_nil]
      omega
    · unfold nuV at hn2
      rw [if_pos hm] at hn2
      rw [hP ws bs w2 w3, if_pos hm, yC_ok (u := ((u.1.1 ++ [1000 + nu], u.1.2), (mNum tx e u.2 (nI 0) (nI 9999)).2)) hm, hn2, nI_add]
      simp
  · refine ⟨fun z => absurd z hm, fun ws bs _ w2 w3 => ?_⟩
    rw [hP ws bs w2 w3, if_neg hm, yC_bad (u := ((u.1.1 ++ [1000 + nu], u.1.2), (mNum tx e u.2 (nI 0) (nI 9999)).2)) hm]
theorem part_val (he : e ≤ 1600) (hal : ∀ k, k < 9 → alw tk (nI k) = true → al k = true) (hz : u.2.2.2.1 = 0) (hle : u.2.1 ≤ e) (hln : u.1.1.length ≤ u.2.1) {w : Nat} (hw : wdO tx e u.2 = some w) (h1 : 17 ≤ w) (h2 : w ≤ 25) (ha : alw tk (nI (w - 17)) = true) : SmU e (yA tx e tk) (yB tx e tk) Wp (nI op) (fun _ => True) (TyP al q false (D + 3)) u (cPut ((u.1.1, u.1.2 || decide (w = 18)), wAf tx e u.2) (40 + (w - 17))) := by
  obtain ⟨f1, f2, f3⟩ := wAf_le hle hw
  have hlt : u.1.1.length < 1600 := by omega
  have hz' : (wAf tx e u.2).2.2.1 = 0 := f3.trans hz
  rw [cPut_in (u := ((u.1.1, u.1.2 || decide (w = 18)), wAf tx e u.2)) hlt]
  refine ⟨fun _ => ⟨⟨f2, [40 + (w - 17)], ?_, ?_, by simp, fun ts ht => TyR.one (Or.inr (Or.inr (Or.inl ⟨by omega, by omega, ?_, rfl⟩))) (by simp only [List.length_cons]; omega)⟩, trivial⟩, fun ws bs _ w2 w3 => ?_⟩
  · have : (41 = 40 + (w - 17)) ↔ w = 18 := by omega
    simp [this]
  · simp only [List.length_cons, List.length_nil]
    omega
  · rw [show 40 + (w - 17) - 40 = w - 17 by omega]
    exact hal _ (by omega) ha
  · have hp : pIdx tx e tk (mLook tx e u.2) = nI (w - 17) := by
      rw [pIdx_wd hz, hw]
      exact if_pos ⟨h1, h2, ha⟩
    have hpl := partL_k ⟨w - 17, by omega⟩
    dsimp only at hpl
    rw [show 17 + (w - 17) = w by omega] at hpl
    rw [yA_last (t' := ((u.1.1.map nI ++ [nI 40 + nI (w - 17)], ws, nI op, bs), wAf tx e u.2)) hz (IV_mk hle w2 (by simpa using w3)) (pTry_no hz (chr_wd hw (by omega)) (by rw [hw]; simp; omega) (by rw [hw]; simp; omega) (by rw [hw]; simp; omega)) (by
      unfold pLast
      dsimp only
      rw [hp, if_neg (n_m1 (by omega)), n_cl (by omega), hpl, asks_wd hz hle hw]), if_pos hz', yC_ok (u := ((u.1.1 ++ [40 + (w - 17)], u.1.2 || decide (w = 18)), wAf tx e u.2)) hz', nI_add]
    simp
theorem part_fail (hz : u.2.2.2.1 = 0) (hle : u.2.1 ≤ e) (hd : ¬ dHas tx e u.2) (hc : ¬ chr tx e (sk tx e u.2.1) = nI 40) (h1 : ¬ wdO tx e u.2 = some 31) (h2 : ¬ wdO tx e u.2 = some 32) (h3 : ∀ w, wdO tx e u.2 = some w → 17 ≤ w → w ≤ 26 → alw tk (nI (w - 17)) = false) : SmU e (yA tx e tk) (yB tx e tk) Wp (nI op) (fun _ => True) (TyP al q false (D + 3)) u (u.1, mFail u.2 (nI 1) (nI (sk tx e u.2.1))) := by
  refine smU_fail hz (by decide) (fun ws bs _ w2 w3 => ?_)
  have hp : pIdx tx e tk (mLook tx e u.2) = -1 := by
    rw [pIdx_wd hz]
    cases hw : wdO tx e u.2 with
    | none => rfl
    | some w =>
      dsimp only
      rw [if_neg (fun z => by have := h3 w hw z.1 (by omega); rw [z.2.2] at this; exact absurd this (by decide))]
  rw [yA_last (t' := ((u.1.1.map nI ++ [nI 1000 + nI 0], ws, nI op, bs), mFail (mLook tx e u.2) (nI 1) (nI (sk tx e u.2.1)))) hz (IV_mk hle w2 (by simpa using w3)) (pTry_no hz hc h1 h2 (fun z => by have := h3 26 z.1 (by omega) (by omega); rw [z.2] at this; exact absurd this (by decide))) (by
    unfold pLast
    dsimp only
    rw [if_pos hp, mNum_look hz hle, mNum_nd hz hd]), if_neg (mFail_0 _ _ _ (by decide))]
  show Sum.inr ((mFail (mLook tx e u.2) (nI 1) (nI (sk tx e u.2.1))).2.2.1, (mFail (mLook tx e u.2) (nI 1) (nI (sk tx e u.2.1))).2.2.2.1) = _
  rw [mFail_z (s := mLook tx e u.2) hz]
theorem part_parN (hz : u.2.2.2.1 = 0) (hle : u.2.1 ≤ e) (hc : chr tx e (sk tx e u.2.1) = nI 40) : SmU e (yA tx e tk) (yB tx e tk) Wp (nI 6) (fun _ => True) (TyP al q false (D + 3)) u (u.1, mFail u.2 (nI 4) (nI (sk tx e u.2.1))) := by
  refine smU_fail hz (by decide) (fun ws bs _ w2 w3 => ?_)
  have h6 := opn_6 (v := nI 20) (pl := nI (sk tx e u.2.1)) (t := ((u.1.1.map nI, ws, nI 6, bs), mLook tx e u.2)) hz rfl
  rw [yA_bad (t := ((u.1.1.map nI, ws, nI 6, bs), u.2)) hz (IV_mk hle w2 (by simpa using w3)) (pTry_par hc) (by
    show ¬ (opn (nI 20) (nI (sk tx e u.2.1)) ((u.1.1.map nI, ws, nI 6, bs), mLook tx e u.2)).2.2.2.1 = 0
    rw [h6]
    exact mFail_0 _ _ _ (by decide))]
  show Sum.inr ((opn (nI 20) (nI (sk tx e u.2.1)) ((u.1.1.map nI, ws, nI 6, bs), mLook tx e u.2)).2.2.2.1, (opn (nI 20) (nI (sk tx e u.2.1)) ((u.1.1.map nI, ws, nI 6, bs), mLook tx e u.2)).2.2.2.2.1) = _
  rw [h6]
  show Sum.inr ((mFail (mLook tx e u.2) (nI 4) (nI (sk tx e u.2.1))).2.2.1, (mFail (mLook tx e u.2) (nI 4) (nI (sk tx e u.2.1))).2.2.2.1) = _
  rw [mFail_z (s := mLook tx e u.2) hz]
theorem n_op {op : Nat} (h : op < 6) : ¬ nI op = nI 6 := fun z => by have := n_eq z (by omega) (by omega); omega
theorem Wa_hd {x : Int32} {ws : List Int32} {bs : Nat} (h1 : ¬ nI 60 ≤ x) (h2 : addS x = false) (hb : bs ≤ ws.length) : Wa (x :: ws) bs := ⟨by simp only [List.length_cons]; omega, qE_hd h1, fun w r z => by simp only [List.cons.injEq] at z; rw [← z.1]; exact h2⟩
/-- behind a sum in a bracket there is no bracket's sign: a fault -/
theorem yB_nb {cs ws : List Int32} {x op : Int32} {bs : Nat} {s : Ps} (hx : x = nI 20 ∨ x = nI 23 ∨ x = nI 24) (hb : bs ≤ ws.length) (hz : s.2.2.1 = 0) (hs : s.1 ≤ e) (n0 : ¬ chr tx e (sk tx e s.1) = nI 41) (hN : (True ∧ cSg 42 47 3 4 tx e s = none) ∧ cSg 43 45 1 2 tx e s = none) : yB tx e tk ((cs, x :: ws, op, bs), s) = .inr (nI 1, nI (sk tx e s.1)) := by
  have hbr : isBr x = true := by rcases hx with h | h | h <;> rw [h] <;> decide
  have h60 : ¬ nI 60 ≤ x := by rcases hx with h | h | h <;> rw [h] <;> decide
  have hn : ¬ (x = nI 21 ∨ x = nI 22) := by rcases hx with h | h | h <;> rw [h] <;> decide
  have hm : ¬ x = -1 := by rcases hx with h | h | h <;> rw [h] <;> decide
  obtain ⟨n1, n2⟩ := cSg_none hz hN.1.2
  obtain ⟨n3, n4⟩ := cSg_none hz hN.2
  rw [yB_br (qE_hd h60) hz hs (fun z => n0 z.1) n1 n2 n3 n4]
  unfold gBr
  dsimp only
  rw [qBrk_hd hb hbr, if_neg hn, if_neg hm, yF_bad (mFail_0 _ _ _ (by decide)), mFail_z (s := mLook tx e s) hz]
  rfl
theorem part_par (he : e ≤ 1600) (hop : op < 6) (hz : u.2.2.2.1 = 0) (hle : u.2.1 ≤ e) (hln : u.1.1.length ≤ u.2.1) (hc : chr tx e (sk tx e u.2.1) = nI 40) {P : Pt → Pt} (hP : SmO e (yA tx e tk) (yB tx e tk) Wp P (nI (op + 1)) (fun _ => True) (TyP al q false D)) : SmU e (yA tx e tk) (yB tx e tk) Wp (nI op) (fun _ => True) (TyP al q false (D + 3)) u (cNd tx e 41 (cSums tx e P (u.1, (sk tx e u.2.1 + 1, u.2.2)))) := by
  have hsk := sk_le (tx := tx) hle
  have hlt := chr_lt hc (by omega)
  obtain ⟨p1, p2⟩ := sums_sm he hP (u.1, (sk tx e u.2.1 + 1, u.2.2)) hz (by dsimp only; omega) (by dsimp only; omega)
  generalize hv : cSums tx e P (u.1, (sk tx e u.2.1 + 1, u.2.2)) = v at p1 p2 ⊢
  have hA : ∀ ws bs, Wp ws bs → bs < 1700 → u.1.1.length + ws.length ≤ u.2.1 → yA tx e tk ((u.1.1.map nI, ws, nI op, bs), u.2) = yC (yB tx e tk) v (nI 20 :: ws) (nI (op + 1)) bs := by
    intro ws bs w1 w2 w3
    have hk := opn_k (v := nI 20) (pl := nI (sk tx e u.2.1)) (t := ((u.1.1.map nI, ws, nI op, bs), mLook tx e u.2)) hz (n_op hop)
    have hp := pTry_par (tk := tk) (t := ((u.1.1.map nI, ws, nI op, bs), u.2)) hc
    dsimp only at hk hp
    rw [hk, nI_add] at hp
    rw [yA_go hz (IV_mk hle w2 (by simpa using w3)) hp hz]
    exact p2 (nI 20 :: ws) bs (Wa_hd (by decide) (by decide) w1) w2 (by simp only [List.length_cons]; omega)
  unfold cNd
  by_cases hvz : v.2.2.2.1 = 0
  · obtain ⟨⟨a1, l, a2, a3, a4⟩, a5⟩ := p1 hvz
    dsimp only at a2 a3
    have hk2 := sk_le (tx := tx) a1
    by_cases hc2 : chr tx e (sk tx e v.2.1) = nI 41
    · have hlt2 := chr_lt hc2 (by omega)
      rw [askS_y hvz hc2]
      refine ⟨fun _ => ⟨⟨by dsimp only; omega, l, a2, by dsimp only; omega, a4.1, fun ts ht => a4.2 ts (by omega)⟩, trivial⟩, fun ws bs w1 w2 w3 => ?_⟩
      rw [hA ws bs w1 w2 w3, yC_ok hvz, yB_cl (Or.inl rfl) w1 a1 hc2, if_pos rfl, pk_sub (by omega), Nat.add_sub_cancel]
      exact (yC_ok (B := yB tx e tk) (u := (v.1, (sk tx e v.2.1 + 1, v.2.2))) hvz).symm
    · rw [askS_n hvz hc2]
      refine smU_fail (s := mLook tx e v.2) hvz (by decide) (fun ws bs w1 w2 w3 => ?_)
      rw [hA ws bs w1 w2 w3, yC_ok hvz, yB_nb (Or.inl rfl) w1 hvz a1 hc2 a5]
  · rw [askS_b hvz]
    refine ⟨fun z => absurd z hvz, fun ws bs w1 w2 w3 => ?_⟩
    rw [hA ws bs w1 w2 w3, yC_bad hvz, yC_bad (u := (v.1, v.2)) hvz]
theorem part_nearN (hz : u.2.2.2.1 = 0) (hle : u.2.1 ≤ e) (hw : wdO tx e u.2 = some 26) (ha : alw tk (nI 9) = true) : SmU e (yA tx e tk) (yB tx e tk) Wp (nI 6) (fun _ => True) (TyP al q false (D + 3)) u (u.1, mFail u.2 (nI 4) (nI (sk tx e u.2.1))) := by
  refine smU_fail hz (by decide) (fun ws bs _ w2 w3 => ?_)
  have h6 := opn_6 (v := nI 60) (pl := nI (sk tx e u.2.1)) (t := ((u.1.1.map nI, ws, nI 6, bs), mLook tx e u.2)) hz rfl
  have hp := pTry_near (tk := tk) (t := ((u.1.1.map nI, ws, nI 6, bs), u.2)) hz (chr_wd hw (by omega)) hw ha
  dsimp only at h6 hp
  have hb : ¬ (mFail (mLook tx e u.2) (nI 4) (nI (sk tx e u.2.1))).2.2.1 = 0 := mFail_0 _ _ _ (by decide)
  rw [h6] at hp
  dsimp only at hp
  rw [asks_bad hb] at hp
  rw [yA_bad hz (IV_mk hle w2 (by simpa using w3)) hp hb, mFail_z (s := mLook tx e u.2) hz]
theorem part_near (he : e ≤ 1600) (hop : op < 6) (hz : u.2.2.2.1 = 0) (hle : u.2.1 ≤ e) (hln : u.1.1.length ≤ u.2.1) (hw : wdO tx e u.2 = some 26) (ha : alw tk (nI 9) = true) (hq : q = true) {P : Pt → Pt} (hP : SmO e (yA tx e tk) (yB tx e tk) Wp P (nI (op + 1)) (fun _ => True) (TyP al q false D)) : SmU e (yA tx e tk) (yB tx e tk) Wp (nI op) (fun _ => True) (TyP al q false (D + 3)) u (cPut (P (u.1, wAf tx e u.2)) 60) := by
  obtain ⟨f1, f2, f3⟩ := wAf_le hle hw
  have hz' : (wAf tx e u.2).2.2.1 = 0 := f3.trans hz
  obtain ⟨p1, p2⟩ := hP (u.1, wAf tx e u.2) hz' f2 (by dsimp only; omega)
  generalize hv : P (u.1, wAf tx e u.2) = v at p1 p2 ⊢
  have hA : ∀ ws bs, Wp ws bs → bs < 1700 → u.1.1.length + ws.length ≤ u.2.1 → yA tx e tk ((u.1.1.map nI, ws, nI op, bs), u.2) = yC (yB tx e tk) v (nI 60 :: ws) (nI (op + 1)) bs := by
    intro ws bs w1 w2 w3
    have hk := opn_k (v := nI 60) (pl := nI (sk tx e u.2.1)) (t := ((u.1.1.map nI, ws, nI op, bs), mLook tx e u.2)) hz (n_op hop)
    have hp := pTry_near (tk := tk) (t := ((u.1.1.map nI, ws, nI op, bs), u.2)) hz (chr_wd hw (by omega)) hw ha
    dsimp only at hk hp
    rw [hk, nI_add] at hp
    dsimp only at hp
    rw [show wNear = keyL.getD 26 [] from rfl, asks_wd hz hle hw] at hp
    rw [yA_go hz (IV_mk hle w2 (by simpa using w3)) hp hz']
    have w1' : bs ≤ ws.length := w1
    exact p2 (nI 60 :: ws) bs (by show bs ≤ (nI 60 :: ws).length; simp only [List.length_cons]; omega) w2 (by simp only [List.length_cons]; omega)
  by_cases hvz : v.2.2.2.1 = 0
  · obtain ⟨⟨a1, l, a2, a3, a4⟩, -⟩ := p1 hvz
    dsimp only at a2 a3
    have e1 : v.1.1 = u.1.1 ++ l := by rw [a2]
    have e2 : v.1.2 = (u.1.2 || decide (41 ∈ l)) := by rw [a2]
    have e3 : v.1.1.length = u.1.1.length + l.length := by rw [e1, List.length_append]
    rw [cPut_in (u := v) (by omega)]
    refine ⟨fun _ => ⟨⟨a1, l ++ [60], ?_, ?_, by simp, fun ts ht => TyR.app (a4.2 ts (by omega)) (TyR.one (Or.inr (Or.inl ⟨hq, rfl, ts, rfl, rfl⟩)) (by simp only [List.length_cons]; omega))⟩, trivial⟩, fun ws bs w1 w2 w3 => ?_⟩
    · rw [e1, e2]
      simp
    · simp only [List.length_append, List.length_cons, List.length_nil]
      omega
    · rw [hA ws bs w1 w2 w3, yC_ok hvz, yB_60 w1 hvz, pk_sub (by omega), Nat.add_sub_cancel, yC_ok (u := ((v.1.1 ++ [60], v.1.2), v.2)) hvz]
      simp
  · have hb : ¬ (cPut v 60).2.2.2.1 = 0 := by rw [cPut_2]; exact hvz
    refine ⟨fun z => absurd z hb, fun ws bs w1 w2 w3 => ?_⟩
    rw [hA ws bs w1 w2 w3, yC_bad hvz, yC_bad hb, cPut_2]
end PRT
