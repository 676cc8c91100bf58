/-! the class: a question is read -/
def QnF (μ μ' : Mm) : Prop := Grw μ μ' ∧ ∀ a, a < mN μ → (∀ k, mL μ' a k = mL μ a k) ∧ (∀ k, ¬ (a = 8 ∧ k = 3) → mR μ' a k = mR μ a k) ∧ (∀ k, a ≠ 3 → a ≠ 6 → ¬ (a = 5 ∧ 2 ≤ k) → ¬ (a = 8 ∧ k = 2) → mI μ' a k = mI μ a k)
section QRP
variable {tx : Nat → Nat} {e : Nat} {s : Ps}
theorem takes_lk (hz : s.2.2.1 = 0) (hs : s.1 ≤ e) (ws : List Nat) : mTakes tx e s ws = mTakes tx e (mLook tx e s) ws := by
  have h1 : sk tx e (mLook tx e s).1 = sk tx e s.1 := sk_sk hs
  have h2 : mHere tx e (mLook tx e s) ws = mHere tx e s ws := by
    unfold mHere
    rw [if_pos hz, if_pos (show (mLook tx e s).2.2.1 = 0 from hz), h1, mLook_look hs]
    rfl
  unfold mTakes
  rw [h2]
theorem qkL_o (hz : s.2.2.1 = 0) (hs : s.1 ≤ e) : ∀ (n k : Nat), k + n = 5 → ∀ s', (s' = s ∨ s' = mLook tx e s) → qkL tx e ((List.range' k n).map (fun j => keyL.getD (33 + j) [])) k s' = match wdO tx e s with
    | some w => if 33 + k ≤ w ∧ w ≤ 38 then (w - 33, wAf tx e s) else (5, mFail (mLook tx e s) (nI 1) (nI (sk tx e s.1)))
    | none => (5, mFail (mLook tx e s) (nI 1) (nI (sk tx e s.1)))
  | 0, k, hk, s', hs' => by
    have hk5 : k = 5 := by omega
    subst hk5
    have ha : mAsks tx e s' wLeast = mAsks tx e (mLook tx e s) wLeast := by
      rcases hs' with h | h
      · rw [h]
        have h1 : sk tx e (mLook tx e s).1 = sk tx e s.1 := sk_sk hs
        unfold mAsks
        rw [takes_lk hz hs, if_pos hz, if_pos (show (mLook tx e s).2.2.1 = 0 from hz)]
      · rw [h]
    show (5, mAsks tx e s' wLeast) = _
    rw [ha]
    have h1 : sk tx e (mLook tx e s).1 = sk tx e s.1 := sk_sk hs
    by_cases h38 : wdO tx e s = some 38
    · rw [h38, show wLeast = keyL.getD 38 [] from rfl, asks_wd hz hs h38]
      rfl
    · have hh : (mHere tx e (mLook tx e s) wLeast).1 = false := by
        rw [here_W (s := mLook tx e s) hz, h1, show hereW tx e (sk tx e s.1) (mLook tx e s).2.1 wLeast = decide (wdO tx e s = some 38) from here_wd (i := 38) hz (by omega)]
        exact decide_eq_false h38
      rw [asks_no (s := mLook tx e s) hz hh, h1, mLook_look hs]
      cases hw : wdO tx e s with
      | none => rfl
      | some w =>
        dsimp only
        rw [if_neg (fun q => h38 (by rw [hw, show w = 38 by omega]))]
  | n + 1, k, hk, s', hs' => by
    rw [List.range'_succ, List.map_cons]
    unfold qkL
    have ht : mTakes tx e s' (keyL.getD (33 + k) []) = if wdO tx e s = some (33 + k) then (true, wAf tx e s) else (false, mLook tx e s) := by
      rcases hs' with h | h
      · rw [h, takes_lk hz hs, takes_wd hz hs (by omega)]
      · rw [h, takes_wd hz hs (by omega)]
    rw [ht]
    by_cases hw : wdO tx e s = some (33 + k)
    · rw [if_pos hw, hw, if_pos rfl]
      dsimp only
      rw [if_pos (by omega), Nat.add_sub_cancel_left]
    · rw [if_neg hw, if_neg Bool.false_ne_true, qkL_o hz hs n (k + 1) (by omega) (mLook tx e s) (Or.inr rfl)]
      cases hv : wdO tx e s with
      | none => rfl
      | some w =>
        dsimp only
        rw [hv] at hw
        simp only [Option.some.injEq] at hw
        by_cases h2 : 33 + k ≤ w ∧ w ≤ 38
        · rw [if_pos h2, if_pos (by omega)]
        · rw [if_neg h2, if_neg (by omega)]
theorem qkF_o (hz : s.2.2.1 = 0) (hs : s.1 ≤ e) : qkF tx e s = match wdO tx e s with
    | some w => if 33 ≤ w ∧ w ≤ 38 then (w - 33, wAf tx e s) else (5, mFail (mLook tx e s) (nI 1) (nI (sk tx e s.1)))
    | none => (5, mFail (mLook tx e s) (nI 1) (nI (sk tx e s.1))) := qkL_o hz hs 5 0 rfl s (Or.inl rfl)
theorem RD.fl {μ : Mm} (h : RD μ tx e s) (hp : PsOk e s) : mI μ 3 6 = s.2.2.1 ∧ mI μ 3 7 = s.2.2.2.1 := by
  by_cases z : s.2.2.1 = 0
  · exact ⟨by rw [(h.1 z).1, z]; rfl, by rw [(h.1 z).2.1, (hp z).2.2]⟩
  · exact ⟨(h.2 z).1, (h.2 z).2.1⟩
end QRP
section KQR
variable {l : Launch} {G : Gm} {μ : Mm} {tp : List Nat}
/-- what was read of a question -/
def QrQ (μ : Mm) (Q : Nat × Tt) (μ' : Mm) : Prop := QnF μ μ' ∧ (mI μ' 3 6 = Q.2.2.2.2.1 ∧ mI μ' 3 7 = Q.2.2.2.2.2.1) ∧ (Q.2.2.2.2.1 = 0 → Q.1 < 6 ∧ mI μ' 8 2 = nI (33 + Q.1) ∧ mR μ' 8 3 = some (mN μ + 1) ∧ CdR μ' (mN μ + 1) (mN μ) al2 true (decide (Q.1 < 3)) (some Q.2.1.1))
theorem askC_le (m : Nat) (s : Ps) : (cTests (txL tp) tp.length (cFc (txL tp) tp.length m 6) (([], false), s)).1.1.length ≤ 1600 ∧ (cSums (txL tp) tp.length (cPt (txL tp) tp.length m 6) (([], false), s)).1.1.length ≤ 1600 := ⟨cLoop_le (fun u h => cLoop_le (cFc_le 6) _ _ (cFc_le 6 u h)) _ _ (cLoop_le (cFc_le 6) _ _ (cFc_le 6 _ (Nat.zero_le _))), cSums_le (cPt_le 6) _ (Nat.zero_le _)⟩
/-- behind the reading of the code: is there more -/
theorem QrQ_end {μ1 μ2 μ3 : Mm} {s1 : Ps} {t : Tt} {v : Pt} {kd r : Nat} {b : Bool} (he : tp.length ≤ 1600) (hb : b = decide (kd < 3)) (hkd : kd < 6) (hN : mN μ1 = mN μ) (h259 : 259 ≤ mN μ) (hf : QnF μ μ1) (h82 : mI μ1 8 2 = nI (33 + kd)) (hd : Rdg (txL tp) tp.length al2 true b t s1 v) (hl : v.1.1.length ≤ 1600) (hrd : RdP μ1 tp 1023 v r μ2) (hB : CsB μ1) (hR3 : RD μ3 (txL tp) tp.length (if v.2.2.2.1 = 0 ∧ sk (txL tp) tp.length v.2.1 < tp.length then mFail v.2 (nI 1) (nI (sk (txL tp) tp.length v.2.1)) else v.2)) (hq : RqF (sR μ2 8 3 (some r)) μ3) : QrQ μ (kd, askE (txL tp) tp.length t) μ3 := by
  obtain ⟨⟨a1, a2, a3⟩, a4, a5, a6, a7, a8, a9, a10, a11⟩ := hrd.fr (L := 258) hB (by omega)
  obtain ⟨d1, d2, d3⟩ := hd
  have hb1 := hB.2.2
  have mI3 : ∀ a k, a ≠ 3 → mI μ3 a k = mI μ2 a k := fun a k q => hq.2 a k q
  have mL3 : ∀ a k, mL μ3 a k = mL μ2 a k := fun a k => by unfold mL; rw [hq.1]; rfl
  have mR3 : ∀ a k, ¬ (a = 8 ∧ k = 3) → mR μ3 a k = mR μ2 a k := fun a k q => by
    have : mR μ3 a k = mR (sR μ2 8 3 (some r)) a k := by unfold mR; rw [hq.1]
    rw [this, mR_sR, if_neg q]
  have mR38 : mR μ3 8 3 = some r := by
    have : mR μ3 8 3 = mR (sR μ2 8 3 (some r)) 8 3 := by unfold mR; rw [hq.1]
    rw [this, mR_sR, if_pos ⟨rfl, rfl⟩]
  have g23 : Grw μ2 μ3 := Grw.of (by rw [hq.1]; rfl)
  have hfr : QnF μ μ3 := by
    refine ⟨(hf.1.trans a1.1).trans g23, fun a ha => ⟨fun k => ?_, fun k q => ?_, fun k q1 q2 q3 q4 => ?_⟩⟩
    · rw [mL3, ← (hf.2 a ha).1 k]
      by_cases q : a = 3 ∨ a = 5 ∨ a = 6
      · exact (a1.2 a (by omega)).1 k
      · exact (a4 a (by omega) (by omega) (by omega) (by omega)).2.1 k
    · rw [mR3 a k q, ← (hf.2 a ha).2.1 k q]
      by_cases q : a = 3 ∨ a = 5 ∨ a = 6
      · exact (a1.2 a (by omega)).2.1 k
      · exact (a4 a (by omega) (by omega) (by omega) (by omega)).2.2 k
    · rw [mI3 a k q1, ← (hf.2 a ha).2.2 k q1 q2 q3 q4]
      by_cases q : a = 5
      · exact (a1.2 a (by omega)).2.2 k q1 q2 q3
      · exact (a4 a (by omega) q1 q q2).1 k
  refine ⟨hfr, ?_, ?_⟩
  · by_cases vz : v.2.2.2.1 = 0
    · obtain ⟨z1, z2, -⟩ := d3 vz
      have e1 : sk (txL tp) tp.length t.2.1 = sk (txL tp) tp.length v.2.1 := (congrArg Prod.fst z2 : (mLook (txL tp) tp.length t.2).1 = (mLook (txL tp) tp.length v.2).1)
      have tz : t.2.2.2.1 = 0 := d1.trans vz
      unfold askE
      dsimp only
      rw [if_pos tz, e1]
      by_cases hlt : sk (txL tp) tp.length v.2.1 < tp.length
      · rw [if_pos ⟨vz, hlt⟩] at hR3
        rw [if_pos hlt]
        obtain ⟨w1, w2⟩ := hR3.fl (a3.fail (by decide))
        rw [mFail_z vz] at w1 w2
        rw [mFail_z (s := mLook (txL tp) tp.length t.2) tz]
        exact ⟨w1, w2⟩
      · rw [if_neg (fun q => hlt q.2)] at hR3
        rw [if_neg hlt]
        obtain ⟨w1, w2⟩ := hR3.fl a3
        exact ⟨w1.trans d1.symm, w2.trans d2.symm⟩
    · rw [if_neg (fun q => vz q.1)] at hR3
      obtain ⟨w1, w2⟩ := hR3.fl a3
      unfold askE
      dsimp only
      rw [if_neg (fun q => vz (d1.symm.trans q))]
      exact ⟨w1.trans d1.symm, w2.trans d2.symm⟩
  · intro hz
    have vz : v.2.2.2.1 = 0 := by
      apply Classical.byContradiction
      intro q
      have tb : ¬ t.2.2.2.1 = 0 := fun y => q (d1.symm.trans y)
      have : (askE (txL tp) tp.length t) = t := by unfold askE; rw [if_neg tb]
      dsimp only at hz
      rw [this] at hz
      exact tb hz
    obtain ⟨z1, z2, z3, z4, z5, z6, z7, z8⟩ := d3 vz
    have tz : t.2.2.2.1 = 0 := d1.trans vz
    have ea : (askE (txL tp) tp.length t).1 = t.1 := by
      unfold askE
      rw [if_pos tz]
      split <;> rfl
    have er : r = mN μ + 1 := by rw [a5, hN]
    dsimp only
    rw [ea, z1, ← er, ← hN, ← hb]
    refine ⟨hkd, ?_, mR38, a7.grw g23, (mR3 _ _ (by omega)).trans a8, v.1.1, a9.grw g23, hl, fun j n q => (mI3 _ _ (by omega)).trans (a10 j n q), ?_, rfl, z5, z8⟩
    · rw [mI3 8 2 (by omega), (a4 8 (by omega) (by omega) (by omega) (by omega)).1]
      exact h82
    · rw [mI3 _ _ (by omega), a11, z7]
theorem QrQ_bad {μ3 : Mm} {s : Ps} {Q : Nat × Tt} (hf : QnF μ μ3) (hR : RD μ3 (txL tp) tp.length s) (hP : PsOk tp.length s) (h1 : s.2.2.1 = Q.2.2.2.2.1) (h2 : s.2.2.2.1 = Q.2.2.2.2.2.1) (hb : ¬ Q.2.2.2.2.1 = 0) : QrQ μ Q μ3 := by
  obtain ⟨w1, w2⟩ := hR.fl hP
  exact ⟨hf, ⟨w1.trans h1, w2.trans h2⟩, fun z => absurd z hb⟩
theorem QnF.q {μ' : Mm} (h : RqF μ μ') : QnF μ μ' := ⟨Grw.of (by rw [h.1]), fun a _ => ⟨fun k => by unfold mL; rw [h.1], fun k _ => by unfold mR; rw [h.1], fun k q1 _ _ _ => h.2 a k q1⟩⟩
theorem QnF.trans {μ' μ'' : Mm} (h : QnF μ μ') (h2 : QnF μ' μ'') : QnF μ μ'' := ⟨h.1.trans h2.1, fun a ha => ⟨fun k => ((h2.2 a (Nat.lt_of_lt_of_le ha h.1.1)).1 k).trans ((h.2 a ha).1 k), fun k q => ((h2.2 a (Nat.lt_of_lt_of_le ha h.1.1)).2.1 k q).trans ((h.2 a ha).2.1 k q), fun k q1 q2 q3 q4 => ((h2.2 a (Nat.lt_of_lt_of_le ha h.1.1)).2.2 k q1 q2 q3 q4).trans ((h.2 a ha).2.2 k q1 q2 q3 q4)⟩⟩
theorem QnF.b {μ' : Mm} (h : QnF μ μ') (hB : CsB μ) : CsB μ' := by
  obtain ⟨b1, b2, b3⟩ := hB
  exact ⟨b1.grw h.1 (fun a k q1 q2 => (h.2 a (by omega)).2.1 k (fun z => q2 (Or.inr (Or.inl z)))), fun i hi => ((h.2 4 (by omega)).2.2 i (by omega) (by omega) (by omega) (by omega)).trans (b2 i hi), Nat.le_trans b3 h.1.1⟩

theorem kq_read (hC : CsB μ) (hT : CsT μ tp) (np mp : Int32) {Q : Nat × Tt} (hQ : askT (txL tp) tp.length (0, -1, 0, -1, np, mp) = Q) : AMet l G 39 2 1602 mtX7_read [.ref (G.1 + 8)] μ (qV (fun μ' => QrQ μ Q μ')) := by
  refine AMet.of (by decide) (Nat.le_of_ble_eq_true rfl) (fun X C hX hnm hq => ?_)
  have hS := hC.1
  have h259 := hC.2.2
  have he := hT.2.1
  have hP0 : PsOk tp.length (0, -1, 0, -1, np, mp) := fun _ => ⟨Nat.zero_le _, Or.inl rfl, rfl⟩
  generalize hs0 : ((0, -1, 0, -1, np, mp) : Ps) = s0 at hQ hP0
  have hz : s0.2.2.1 = 0 := by rw [← hs0]
  have hs : s0.1 ≤ tp.length := by rw [← hs0]; exact Nat.zero_le _
  have h01 : s0.1 = 0 := by rw [← hs0]
  have h02 : s0.2.1 = -1 := by rw [← hs0]
  have hko := qkF_o (tx := txL tp) (e := tp.length) hz hs
  have hlen := askC_le (tp := tp) 1023 (wAf (txL tp) tp.length s0)
  generalize ho : wdO (txL tp) tp.length s0 = o at hko
  have ho39 : ∀ w, o = some w → w < 39 := fun w q => (wdO_has (ho.trans q)).2
  have hin : ∀ n : Nat, n < 39 → (opI o = nI n ↔ o = some n) := fun n hn => by
    cases o with
    | none => exact ⟨fun z => absurd z.symm (n_m1 (by omega)), fun z => absurd z (by simp)⟩
    | some w => exact ⟨fun z => by rw [show w = n from n_eq z (by have := ho39 w rfl; omega) (by omega)], fun z => by simp only [Option.some.injEq] at z; rw [z]; rfl⟩
  have m127 : ∀ (bc bs kd r : Nat) (M6 M2 : Mm) (s1 : Ps) (t : Tt) (v : Pt) (b : Bool), b = decide (kd < 3) → kd < 6 → mN M6 = mN μ → QnF μ M6 → mI M6 8 2 = nI (33 + kd) → Rdg (txL tp) tp.length al2 true b t s1 v → v.1.1.length ≤ 1600 → RdP M6 tp 1023 v r M2 → CsB M6 → Q = (kd, askE (txL tp) tp.length t) → AW l G X bc bs 127 [(0, .ref (G.1 + 8))] [] (sR M2 8 3 (some r)) := by
    intro bc bs kd r M6 M2 s1 t v b e1 e2 e3 e4 e5 e6 e7 e8 e9 e10
    obtain ⟨⟨a1, a2, a3⟩, a4, -⟩ := e8.fr (L := 258) e9 (by have := e9.2.2; omega)
    have hS : ShC (sR M2 8 3 (some r)) := e9.1.grw (a1.1.trans (Grw.of rfl)) (fun a k q1 q2 => by
      rw [mR_sR, if_neg (fun z => q2 (Or.inr (Or.inl z)))]
      exact (a1.2 a (by omega)).2.1 k)
    have rr : RD (sR M2 8 3 (some r)) (txL tp) tp.length v.2 := a2.ph (fun k => rfl)
    refine C.aload_n dX7_read_127 0 rfl ?_
    refine C.getO fX7_9 dX7_read_128 hS.o8 hS.r8_0 ?_
    refine C.callVI lX7_56 dX7_read_131 (kw_goesOn hS rr) hS.o3 rfl rfl (Nat.le_of_ble_eq_true rfl) (Nat.zero_le _) (Nat.zero_le _) (Nat.le_of_ble_eq_true rfl) (fun x131 μ131 h131 => ?_)
    obtain ⟨z131, hμ⟩ := h131
    rw [z131, hμ]
    refine C.if_eq 144 dX7_read_134 rfl (fun hc134 => ?_) (fun hc134 => ?_)
    · have hcf := (bI_0 _).mp hc134
      refine C.vret hq dX7_read_144 ?_
      rw [e10]
      first
      | (refine QrQ_end he e1 e2 e3 h259 e4 e5 e6 e7 e8 e9 ?_ h141.2
         rw [if_pos hct]
         exact h141.1)
      | (refine QrQ_end he e1 e2 e3 h259 e4 e5 e6 e7 e8 e9 ?_ (RqF.refl _)
         rw [if_neg (fun q => by rw [decide_eq_true q.1, decide_eq_true q.2] at hcf; exact absurd hcf (by decide))]
         exact rr)
    · have hct := b_t hc134
      simp only [Bool.and_eq_true, decide_eq_true_eq] at hct
      refine C.aload_n dX7_read_137 0 rfl ?_
      refine C.getO fX7_9 dX7_read_138 hS.o8 hS.r8_0 ?_
      refine C.callVV lX7_53 dX7_read_141 (kw_failHere hS rr) hS.o3 rfl rfl (Nat.le_of_ble_eq_true rfl) (Nat.zero_le _) (Nat.zero_le _) (Nat.le_of_ble_eq_true rfl) (fun μ141 h141 => ?_)
      refine C.vret hq dX7_read_144 ?_
      rw [e10]
      first
      | (refine QrQ_end he e1 e2 e3 h259 e4 e5 e6 e7 e8 e9 ?_ h141.2
         rw [if_pos hct]
         exact h141.1)
      | (refine QrQ_end he e1 e2 e3 h259 e4 e5 e6 e7 e8 e9 ?_ (RqF.refl _)
         rw [if_neg (fun q => by rw [decide_eq_true q.1, decide_eq_true q.2] at hcf; exact absurd hcf (by decide))]
         exact rr)
  have hadv : ∀ (M5 : Mm) (w : Nat), o = some w → CsB M5 → CsT M5 tp → RD M5 (txL tp) tp.length s0 → AMet l G 1 0 0 mtX8_advance [.ref (G.1 + 3)] M5 (qV (fun μ' => RD μ' (txL tp) tp.length (wAf (txL tp) tp.length s0) ∧ RqF M5 μ')) := fun M5 w q c1 c2 c3 => kw_advW c1.1 c2 c3 (wdO_has (ho.trans q)).1 rfl rfl rfl
  have hQk : ∀ kd, kd < 6 → o = some (33 + kd) → Q = (kd, askE (txL tp) tp.length (if kd < 3 then tTest (txL tp) tp.length (nI 2) (t0 (wAf (txL tp) tp.length s0)) else sSums (txL tp) tp.length (nI 2) (t0 (wAf (txL tp) tp.length s0)))) := by
    intro kd hkd hok
    have e1 : qkF (txL tp) tp.length s0 = (kd, wAf (txL tp) tp.length s0) := by
      rw [hko, hok]
      dsimp only
      rw [if_pos (by omega), Nat.add_sub_cancel_left]
    rw [← hQ]
    unfold askT askP
    rw [e1]
    dsimp only
    rw [if_pos (show (wAf (txL tp) tp.length s0).2.2.1 = 0 from hz)]
  have hz1 : (wAf (txL tp) tp.length s0).2.2.1 = 0 := hz
  have hle1 : ∀ w, o = some w → (wAf (txL tp) tp.length s0).1 ≤ tp.length ∧ PsOk tp.length (wAf (txL tp) tp.length s0) := fun w q => ⟨(wAf_le hs (ho.trans q)).2.1, hP0.waf (wdO_has (ho.trans q)).1⟩
  have m45 : ∀ (bc bs : Nat) (M5 : Mm), 2 ≤ bc → 1602 ≤ bs → ∀ kd, kd < 3 → o = some (33 + kd) → QnF μ M5 → CsB M5 → CsT M5 tp → RD M5 (txL tp) tp.length s0 → mI M5 8 2 = opI o → mN M5 = mN μ → AW l G X bc bs 45 [(0, .ref (G.1 + 8))] [] M5 := by
    intro bc bs M5 hbc hbs kd hkd hok f1 c1 c2 c3 c4 c5
    have hS := c1.1
    obtain ⟨l1, l2⟩ := hle1 _ hok
    refine C.aload_n dX7_read_45 0 rfl ?_
    refine C.getO fX7_9 dX7_read_46 hS.o8 hS.r8_0 ?_
    refine C.callVV lX7_41 dX7_read_49 (hadv M5 _ hok c1 c2 c3) hS.o3 rfl rfl (Nat.le_of_ble_eq_true rfl) (Nat.zero_le _) (Nat.zero_le _) (Nat.le_of_ble_eq_true rfl) (fun μ49 h49 => ?_)
    obtain ⟨r49, q49⟩ := h49
    have hS := q49.sh hS
    have d1 : CsB μ49 := (QnF.q q49).b c1
    refine C.aload_n dX7_read_52 0 rfl ?_
    refine C.aload_n dX7_read_53 0 rfl ?_
    refine C.getO fX7_15 dX7_read_54 hS.o8 hS.r8_1 ?_
    refine C.sipush (nI 1023) dX7_read_57 (by decide) ?_
    refine C.callVR lX7_44 dX7_read_60 (kf_readTest (m := 1023) d1 (q49.t c2) r49 l2 (by omega) rfl) hS.o5 rfl rfl (Nat.le_of_ble_eq_true rfl) (by omega) (by omega) (Nat.le_of_ble_eq_true rfl) (fun x60 μ60 h60 => ?_)
    refine C.putO fX7_24 (Or.inl rfl) dX7_read_63 (hS.o8.grw (h60.fr (L := 258) d1 (by have := d1.2.2; omega)).1.1.1) ?_
    refine C.goto 127 dX7_read_66 rfl ?_
    exact m127 _ _ kd _ μ49 _ (wAf (txL tp) tp.length s0) _ _ true (by rw [decide_eq_true hkd]) (by omega) (by unfold mN; rw [q49.1]; exact c5) (f1.trans (QnF.q q49)) (by rw [q49.2 _ _ (by omega), c4, hok]; rfl) (rdg_askT he hz1 l1) hlen.1 h60 d1 (by rw [hQk kd (by omega) hok, if_pos hkd])
  have m96 : ∀ (bc bs : Nat) (M5 : Mm), 2 ≤ bc → 1602 ≤ bs → ∀ kd, 3 ≤ kd → kd < 6 → o = some (33 + kd) → QnF μ M5 → CsB M5 → CsT M5 tp → RD M5 (txL tp) tp.length s0 → mI M5 8 2 = opI o → mN M5 = mN μ → AW l G X bc bs 96 [(0, .ref (G.1 + 8))] [] M5 := by
    intro bc bs M5 hbc hbs kd hkd3 hkd hok f1 c1 c2 c3 c4 c5
    have hS := c1.1
    obtain ⟨l1, l2⟩ := hle1 _ hok
    refine C.aload_n dX7_read_96 0 rfl ?_
    refine C.getO fX7_9 dX7_read_97 hS.o8 hS.r8_0 ?_
    refine C.callVV lX7_41 dX7_read_100 (hadv M5 _ hok c1 c2 c3) hS.o3 rfl rfl (Nat.le_of_ble_eq_true rfl) (Nat.zero_le _) (Nat.zero_le _) (Nat.le_of_ble_eq_true rfl) (fun μ100 h100 => ?_)
    obtain ⟨r49, q49⟩ := h100
    have hS := q49.sh hS
    have d1 : CsB μ100 := (QnF.q q49).b c1
    refine C.aload_n dX7_read_103 0 rfl ?_
    refine C.aload_n dX7_read_104 0 rfl ?_
    refine C.getO fX7_15 dX7_read_105 hS.o8 hS.r8_1 ?_
    refine C.sipush (nI 1023) dX7_read_108 (by decide) ?_
    refine C.callVR lX7_50 dX7_read_111 (kf_readSum (m := 1023) d1 (q49.t c2) r49 l2 (by omega) rfl) hS.o5 rfl rfl (Nat.le_of_ble_eq_true rfl) (by omega) (by omega) (Nat.le_of_ble_eq_true rfl) (fun x111 μ111 h111 => ?_)
    refine C.putO fX7_24 (Or.inl rfl) dX7_read_114 (hS.o8.grw (h111.fr (L := 258) d1 (by have := d1.2.2; omega)).1.1.1) ?_
    refine C.goto 127 dX7_read_117 rfl ?_
    exact m127 _ _ kd _ μ100 _ (wAf (txL tp) tp.length s0) _ _ false (by rw [decide_eq_false (by omega)]) hkd (by unfold mN; rw [q49.1]; exact c5) (f1.trans (QnF.q q49)) (by rw [q49.2 _ _ (by omega), c4, hok]; rfl) (rdg_askS he hz1 l1) hlen.2 h111 d1 (by rw [hQk kd hkd hok, if_neg (by omega)])
  refine C.aload_n dX7_read_0 0 rfl ?_
  refine C.getO fX7_9 dX7_read_1 hS.o8 hS.r8_0 ?_
  refine C.callVV lX7_28 dX7_read_4 (kw_start hS hT h01 h02 hz) hS.o3 rfl rfl (Nat.le_of_ble_eq_true rfl) (Nat.zero_le _) (Nat.zero_le _) (Nat.le_of_ble_eq_true rfl) (fun μ4 h4 => ?_)
  obtain ⟨r4, q4⟩ := h4
  have hS := q4.sh hS
  have hC4 := (LnF.q 259 q4).b (by omega) hC
  have hT4 := q4.t hT
  have n4 : mN μ4 = mN μ := by unfold mN; rw [q4.1]
  refine C.aload_n dX7_read_7 0 rfl ?_
  refine C.aload_n dX7_read_8 0 rfl ?_
  refine C.getO fX7_9 dX7_read_9 hS.o8 hS.r8_0 ?_
  refine C.callVI lX7_33 dX7_read_12 (kw_word hC4 hT4 r4) hS.o3 rfl rfl (Nat.le_of_ble_eq_true rfl) (Nat.zero_le _) (Nat.zero_le _) (Nat.le_of_ble_eq_true rfl) (fun x12 μ12 h12 => ?_)
  obtain ⟨rfl, hμ⟩ := h12
  subst hμ
  rw [ho]
  refine C.putI fX7_37 (Or.inl rfl) dX7_read_15 hS.o8 ?_
  have hF1 : QnF μ (sI μ12 8 2 (opI o)) := (QnF.q q4).trans ⟨Grw.of rfl, fun a _ => ⟨fun k => rfl, fun k _ => rfl, fun k _ _ _ q => by rw [mI_sI, if_neg q]⟩⟩
  have r5 : RD (sI μ12 8 2 (opI o)) (txL tp) tp.length s0 := r4.ph (fun k => by rw [mI_sI, if_neg (by omega)])
  have hC5 : CsB (sI μ12 8 2 (opI o)) := hF1.b hC
  have hT5 : CsT (sI μ12 8 2 (opI o)) tp := hT4.of (by rw [mI_sI, if_neg (by omega)]) (fun k => by rw [mI_sI, if_neg (by omega)])
  have v5 : mI (sI μ12 8 2 (opI o)) 8 2 = opI o := by rw [mI_sI, if_pos ⟨rfl, rfl⟩]
  have n5 : mN (sI μ12 8 2 (opI o)) = mN μ := n4
  have hS := hC5.1
  generalize sI μ12 8 2 (opI o) = M5 at *
  refine C.aload_n dX7_read_18 0 rfl ?_
  refine C.getI fX7_37 dX7_read_19 hS.o8 ?_
  rw [v5]
  refine C.bipush (nI 33) dX7_read_22 (by decide) ?_
  refine C.icmp_eq 45 dX7_read_24 rfl (fun hc24 => ?_) (fun hc24 => ?_)
  · first | exact m45 _ _ _ (by omega) (by omega) 0 (by omega) ((hin 33 (by omega)).mp hc24) hF1 hC5 hT5 r5 v5 n5 | exact m45 _ _ _ (by omega) (by omega) 1 (by omega) ((hin 34 (by omega)).mp hc33) hF1 hC5 hT5 r5 v5 n5 | exact m45 _ _ _ (by omega) (by omega) 2 (by omega) ((hin 35 (by omega)).mp hc42) hF1 hC5 hT5 r5 v5 n5
  · refine C.aload_n dX7_read_27 0 rfl ?_
    refine C.getI fX7_37 dX7_read_28 hS.o8 ?_
    rw [v5]
    refine C.bipush (nI 34) dX7_read_31 (by decide) ?_
    refine C.icmp_eq 45 dX7_read_33 rfl (fun hc33 => ?_) (fun hc33 => ?_)
    · first | exact m45 _ _ _ (by omega) (by omega) 0 (by omega) ((hin 33 (by omega)).mp hc24) hF1 hC5 hT5 r5 v5 n5 | exact m45 _ _ _ (by omega) (by omega) 1 (by omega) ((hin 34 (by omega)).mp hc33) hF1 hC5 hT5 r5 v5 n5 | exact m45 _ _ _ (by omega) (by omega) 2 (by omega) ((hin 35 (by omega)).mp hc42) hF1 hC5 hT5 r5 v5 n5
    · refine C.aload_n dX7_read_36 0 rfl ?_
      refine C.getI fX7_37 dX7_read_37 hS.o8 ?_
      rw [v5]
      refine C.bipush (nI 35) dX7_read_40 (by decide) ?_
      refine C.icmp_ne 69 dX7_read_42 rfl (fun hc42 => ?_) (fun hc42 => ?_)
      · refine C.aload_n dX7_read_69 0 rfl ?_
        refine C.getI fX7_37 dX7_read_70 hS.o8 ?_
        rw [v5]
        refine C.bipush (nI 36) dX7_read_73 (by decide) ?_
        refine C.icmp_eq 96 dX7_read_75 rfl (fun hc75 => ?_) (fun hc75 => ?_)
        · first | exact m96 _ _ _ (by omega) (by omega) 3 (by omega) (by omega) ((hin 36 (by omega)).mp hc75) hF1 hC5 hT5 r5 v5 n5 | exact m96 _ _ _ (by omega) (by omega) 4 (by omega) (by omega) ((hin 37 (by omega)).mp hc84) hF1 hC5 hT5 r5 v5 n5 | exact m96 _ _ _ (by omega) (by omega) 5 (by omega) (by omega) ((hin 38 (by omega)).mp hc93) hF1 hC5 hT5 r5 v5 n5
        · refine C.aload_n dX7_read_78 0 rfl ?_
          refine C.getI fX7_37 dX7_read_79 hS.o8 ?_
          rw [v5]
          refine C.bipush (nI 37) dX7_read_82 (by decide) ?_
          refine C.icmp_eq 96 dX7_read_84 rfl (fun hc84 => ?_) (fun hc84 => ?_)
          · first | exact m96 _ _ _ (by omega) (by omega) 3 (by omega) (by omega) ((hin 36 (by omega)).mp hc75) hF1 hC5 hT5 r5 v5 n5 | exact m96 _ _ _ (by omega) (by omega) 4 (by omega) (by omega) ((hin 37 (by omega)).mp hc84) hF1 hC5 hT5 r5 v5 n5 | exact m96 _ _ _ (by omega) (by omega) 5 (by omega) (by omega) ((hin 38 (by omega)).mp hc93) hF1 hC5 hT5 r5 v5 n5
          · refine C.aload_n dX7_read_87 0 rfl ?_
            refine C.getI fX7_37 dX7_read_88 hS.o8 ?_
            rw [v5]
            refine C.bipush (nI 38) dX7_read_91 (by decide) ?_
            refine C.icmp_ne 120 dX7_read_93 rfl (fun hc93 => ?_) (fun hc93 => ?_)
            · refine C.aload_n dX7_read_120 0 rfl ?_
              refine C.getO fX7_9 dX7_read_121 hS.o8 hS.r8_0 ?_
              refine C.callVV lX7_53 dX7_read_124 (kw_failHere hS r5) hS.o3 rfl rfl (Nat.le_of_ble_eq_true rfl) (Nat.zero_le _) (Nat.zero_le _) (Nat.le_of_ble_eq_true rfl) (fun μ124 h124 => ?_)
              have hqb : qkF (txL tp) tp.length s0 = (5, mFail (mLook (txL tp) tp.length s0) (nI 1) (nI (sk (txL tp) tp.length s0.1))) := by
                rw [hko]
                cases o with
                | none => rfl
                | some w =>
                  dsimp only
                  rw [if_neg (fun q => by
                    rcases (show w = 33 ∨ w = 34 ∨ w = 35 ∨ w = 36 ∨ w = 37 ∨ w = 38 by omega) with y | y | y | y | y | y <;> subst y
                    · exact hc24 rfl
                    · exact hc33 rfl
                    · exact hc42 rfl
                    · exact hc75 rfl
                    · exact hc84 rfl
                    · exact hc93 rfl)]
              have hbb : ¬ (mFail (mLook (txL tp) tp.length s0) (nI 1) (nI (sk (txL tp) tp.length s0.1))).2.2.1 = 0 := mFail_0 _ _ _ (by decide)
              have hQ2 : Q.2.2 = mFail (mLook (txL tp) tp.length s0) (nI 1) (nI (sk (txL tp) tp.length s0.1)) := by
                rw [← hQ]
                unfold askT askP
                rw [hqb]
                dsimp only
                rw [if_neg hbb]
                unfold askE
                rw [if_neg (show ¬ (t0 (mFail (mLook (txL tp) tp.length s0) (nI 1) (nI (sk (txL tp) tp.length s0.1)))).2.2.2.1 = 0 from hbb)]
                rfl
              obtain ⟨r124, q124⟩ := h124
              have hS := q124.sh hS
              have hb0 : ¬ (mFail s0 (nI 1) (nI (sk (txL tp) tp.length s0.1))).2.2.1 = 0 := mFail_0 _ _ _ (by decide)
              refine C.aload_n dX7_read_127 0 rfl ?_
              refine C.getO fX7_9 dX7_read_128 hS.o8 hS.r8_0 ?_
              refine C.callVI lX7_56 dX7_read_131 (kw_goesOn hS r124) hS.o3 rfl rfl (Nat.le_of_ble_eq_true rfl) (Nat.zero_le _) (Nat.zero_le _) (Nat.le_of_ble_eq_true rfl) (fun x131 μ131 h131 => ?_)
              obtain ⟨z131, hμ⟩ := h131
              subst hμ
              refine C.if_eq 144 dX7_read_134 rfl (fun hc134 => ?_) (fun hc134 => ?_)
              · refine C.vret hq dX7_read_144 ?_
                refine QrQ_bad (hF1.trans (QnF.q q124)) r124 (hP0.fail (by decide)) ?_ ?_ ?_
                · rw [hQ2, mFail_z hz, mFail_z (s := mLook (txL tp) tp.length s0) hz]
                · rw [hQ2, mFail_z hz, mFail_z (s := mLook (txL tp) tp.length s0) hz]
                · rw [hQ2]; exact hbb
              · rw [z131, decide_eq_false hb0] at hc134
                exact absurd rfl hc134
            · first | exact m96 _ _ _ (by omega) (by omega) 3 (by omega) (by omega) ((hin 36 (by omega)).mp hc75) hF1 hC5 hT5 r5 v5 n5 | exact m96 _ _ _ (by omega) (by omega) 4 (by omega) (by omega) ((hin 37 (by omega)).mp hc84) hF1 hC5 hT5 r5 v5 n5 | exact m96 _ _ _ (by omega) (by omega) 5 (by omega) (by omega) ((hin 38 (by omega)).mp hc93) hF1 hC5 hT5 r5 v5 n5
      · first | exact m45 _ _ _ (by omega) (by omega) 0 (by omega) ((hin 33 (by omega)).mp hc24) hF1 hC5 hT5 r5 v5 n5 | exact m45 _ _ _ (by omega) (by omega) 1 (by omega) ((hin 34 (by omega)).mp hc33) hF1 hC5 hT5 r5 v5 n5 | exact m45 _ _ _ (by omega) (by omega) 2 (by omega) ((hin 35 (by omega)).mp hc42) hF1 hC5 hT5 r5 v5 n5
end KQR
