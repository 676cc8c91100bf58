/-! the reference: one part -/

abbrev Tt : Type := Qt × Ps
abbrev wMin : List Nat := [109, 105, 110]
abbrev wMax : List Nat := [109, 97, 120]
abbrev wNear : List Nat := [110, 101, 97, 114]
def opn (v pl : Int32) (t : Tt) : Tt := if t.2.2.2.1 = 0 then (if t.1.2.2.1 = nI 6 then (t.1, mFail t.2 (nI 4) pl) else ((t.1.1, v :: t.1.2.1, t.1.2.2.1 + nI 1, t.1.2.2.2), t.2)) else t
def nearOk (tx : Nat → Nat) (e : Nat) (tk : Int32) (q : Nat) (en : Int32) : Bool := hereW tx e q en wNear && alw tk (nI 9)
/-- min and max -/
def pMM (tx : Nat → Nat) (e : Nat) (q : Qt) (s1 : Ps) : Tt :=
  let r := mTakes tx e s1 wMin
  let s3 := mLook tx e (if r.1 then r.2 else mAsks tx e r.2 wMax)
  let u : Tt := if chr tx e s3.1 = nI 40 then opn (if r.1 then nI 21 else nI 22) (nI s3.1) (q, s3) else (q, s3)
  (u.1, mAskSign tx e u.2 (nI 40))
/-- one turn: more is asked, and the state -/
def pTry (tx : Nat → Nat) (e : Nat) (tk : Int32) (t : Tt) : Bool × Tt :=
  let s1 := mLook tx e t.2
  if chr tx e s1.1 = nI 40 then (true, ((opn (nI 20) (nI s1.1) (t.1, s1)).1, (s1.1 + 1, (opn (nI 20) (nI s1.1) (t.1, s1)).2.2)))
  else if hereW tx e s1.1 s1.2.1 wMin = true ∨ hereW tx e s1.1 s1.2.1 wMax = true then (true, pMM tx e t.1 s1)
  else if nearOk tx e tk s1.1 s1.2.1 = true then (true, ((opn (nI 60) (nI s1.1) (t.1, s1)).1, mAsks tx e (opn (nI 60) (nI s1.1) (t.1, s1)).2 wNear))
  else (false, (t.1, s1))
def pLoop (tx : Nat → Nat) (e : Nat) (tk : Int32) : Nat → Tt → Tt
  | 0, t => t
  | n + 1, t => if t.2.2.2.1 = 0 then (if (pTry tx e tk t).1 then pLoop tx e tk n (pTry tx e tk t).2 else (pTry tx e tk t).2) else t
/-- a part's own word, or -1 -/
def pIdx (tx : Nat → Nat) (e : Nat) (tk : Int32) (s : Ps) : Int32 := if nI 0 ≤ fIdx tx e s.1 s.2.1 partL 0 ∧ fIdx tx e s.1 s.2.1 partL 0 < nI 9 ∧ alw tk (fIdx tx e s.1 s.2.1 partL 0) = true then fIdx tx e s.1 s.2.1 partL 0 else -1
def qEnd (t : Tt) : Tt := if t.2.2.2.1 = 0 then (((qEnds t.1.1 t.1.2.1 t.1.2.2.1 t.1.2.2.2).1, (qEnds t.1.1 t.1.2.1 t.1.2.2.1 t.1.2.2.2).2.1, (qEnds t.1.1 t.1.2.1 t.1.2.2.1 t.1.2.2.2).2.2, t.1.2.2.2), t.2) else t
def pLast (tx : Nat → Nat) (e : Nat) (tk : Int32) (t : Tt) : Tt :=
  if pIdx tx e tk t.2 = -1 then qEnd ((t.1.1 ++ [nI 1000 + (mNum tx e t.2 (nI 0) (nI 9999)).1], t.1.2), (mNum tx e t.2 (nI 0) (nI 9999)).2)
  else qEnd ((t.1.1 ++ [nI 40 + pIdx tx e tk t.2], t.1.2), mAsks tx e t.2 (partL.getD (pIdx tx e tk t.2).toNatClampNeg []))
def pPart (tx : Nat → Nat) (e : Nat) (tk : Int32) (t : Tt) : Tt := if (pLoop tx e tk (e + 2 - t.2.1) t).2.2.2.1 = 0 then pLast tx e tk (pLoop tx e tk (e + 2 - t.2.1) t) else pLoop tx e tk (e + 2 - t.2.1) t
/-- within the rows -/
def LB (e : Nat) (t : Tt) : Prop := t.1.1.length + t.1.2.1.length ≤ t.2.1 ∧ t.2.1 ≤ e ∧ t.1.2.2.2 < 1700
theorem opn_1 (v pl : Int32) (t : Tt) : (opn v pl t).2.1 = t.2.1 := by unfold opn; split; split; exact mFail_1 _ _ _; rfl; rfl
theorem opn_len (v pl : Int32) (t : Tt) : (opn v pl t).1.1.length + (opn v pl t).1.2.1.length ≤ t.1.1.length + t.1.2.1.length + 1 ∧ (opn v pl t).1.2.2.2 = t.1.2.2.2 := by
  unfold opn
  split
  · split
    · exact ⟨by dsimp only; omega, rfl⟩
    · exact ⟨by simp; omega, rfl⟩
  · exact ⟨by omega, rfl⟩
theorem hereW_len {tx : Nat → Nat} {e q : Nat} {en : Int32} {ws : List Nat} (h : hereW tx e q en ws = true) (hq : q ≤ e) : q + ws.length ≤ e := by
  unfold hereW at h
  simp only [Bool.and_eq_true, decide_eq_true_eq] at h
  have hl : ws.length = wl tx e q - q := by rw [← h.2]; simp [tok]
  have := rn_le (f := fun q => isL (tx q)) (e := e) (p := q) hq
  unfold wl at hl
  omega
section PTRY
variable {tx : Nat → Nat} {e : Nat} {tk : Int32} {t : Tt}
theorem chr_lt {p c : Nat} (h : chr tx e p = nI c) (hc : c < 2147483648) : p < e := by
  unfold chr at h
  split at h
  · assumption
  · exact absurd h.symm (n_m1 hc)
theorem mTakes_ge (s : Ps) (ws : List Nat) (hp : s.1 ≤ e) : s.1 ≤ (mTakes tx e s ws).2.1 := by
  have h1 := sk_le (tx := tx) hp
  unfold mTakes mHere mLook
  split
  · split
    · dsimp only; omega
    · dsimp only; omega
  · split
    · dsimp only; omega
    · exact Nat.le_refl _
theorem mAsks_ge (s : Ps) (ws : List Nat) (hp : s.1 ≤ e) : s.1 ≤ (mAsks tx e s ws).1 := by
  have h1 := mTakes_ge (tx := tx) s ws hp
  unfold mAsks
  split
  · split
    · exact h1
    · rw [mFail_1]; exact h1
  · exact Nat.le_refl _
theorem mSign_ge (s : Ps) (c : Int32) (hp : s.1 ≤ e) : s.1 ≤ (mSign tx e s c).2.1 := by
  have h1 := sk_le (tx := tx) hp
  unfold mSign mLook
  split
  · split
    · dsimp only; omega
    · dsimp only; omega
  · exact Nat.le_refl _
theorem mAskSign_ge (s : Ps) (c : Int32) (hp : s.1 ≤ e) : s.1 ≤ (mAskSign tx e s c).1 := by
  have h1 := mSign_ge (tx := tx) s c hp
  unfold mAskSign
  split
  · split
    · exact h1
    · rw [mFail_1]; exact h1
  · exact Nat.le_refl _
theorem mNum_ge (s : Ps) (lo hi : Int32) (hp : s.1 ≤ e) : s.1 ≤ (mNum tx e s lo hi).2.1 ∧ ((mNum tx e s lo hi).2.2.2.1 = 0 → s.1 + 1 ≤ (mNum tx e s lo hi).2.1) := by
  have h1 := sk_le (tx := tx) hp
  have h2 := rn_le (f := fun q => isD (tx q)) (e := e) (p := sk tx e s.1) h1.2
  unfold mNum
  split
  · rename_i hb
    split
    · rename_i hd
      have h3 : sk tx e s.1 + 1 ≤ dl tx e (sk tx e s.1) := by
        unfold dl
        rw [rn_step (f := fun q => isD (tx q)) hd.1 hd.2.1]
        exact (rn_le (by omega)).1
      split
      · dsimp only
        split
        · dsimp only; exact ⟨by omega, fun _ => by omega⟩
        · dsimp only; exact ⟨by omega, fun h => absurd (show nI 2 = 0 from h) (by decide)⟩
      · dsimp only; exact ⟨by omega, fun _ => by omega⟩
    · refine ⟨by rw [mFail_1]; exact h1.1, fun h => ?_⟩
      unfold mFail mLook at h
      rw [if_pos hb] at h
      exact absurd (show nI 1 = 0 from h) (by decide)
  · rename_i hb
    exact ⟨Nat.le_refl _, fun h => absurd h hb⟩
theorem mAsks_adv (s : Ps) (ws : List Nat) (hp : s.1 ≤ e) (hw : 0 < ws.length) (h : (mAsks tx e s ws).2.2.1 = 0) : s.1 + 1 ≤ (mAsks tx e s ws).1 := by
  have h1 := sk_le (tx := tx) hp
  unfold mAsks at h ⊢
  split at h
  · rename_i hb
    rw [if_pos hb]
    split at h
    · rename_i ht
      rw [if_pos ht]
      unfold mTakes at ht ⊢
      split at ht
      · rename_i hh
        rw [if_pos hh]
        unfold mHere mLook
        rw [if_pos hb]
        dsimp only
        omega
      · cases ht
    · exfalso
      rename_i ht
      unfold mFail at h
      split at h
      · exact absurd (show nI 1 = 0 from h) (by decide)
      · rename_i h2
        exact h2 h
  · rename_i hb
    exact absurd h hb
theorem mHere_at (s : Ps) (hb : s.2.2.1 = 0) (hk : sk tx e s.1 = s.1) (ws : List Nat) : mHere tx e s ws = (hereW tx e s.1 s.2.1 ws, s) := by
  unfold mHere mLook
  rw [if_pos hb, hk]
theorem mTakes_t (s : Ps) (hb : s.2.2.1 = 0) (hk : sk tx e s.1 = s.1) (ws : List Nat) (h : hereW tx e s.1 s.2.1 ws = true) : mTakes tx e s ws = (true, (s.1 + ws.length, nI (s.1 + ws.length), s.2.2)) := by
  unfold mTakes
  rw [mHere_at s hb hk, if_pos h]
theorem mTakes_f (s : Ps) (hb : s.2.2.1 = 0) (hk : sk tx e s.1 = s.1) (ws : List Nat) (h : ¬ hereW tx e s.1 s.2.1 ws = true) : mTakes tx e s ws = (false, s) := by
  unfold mTakes
  rw [mHere_at s hb hk, if_neg h]
end PTRY
section QMAT
variable {μ μ1 : Mm} {q : Qt} {s : Ps}
theorem QM.at (h : QM μ μ1 q s) (p' : Nat) : QM μ (sI μ1 179 2 (nI p')) q (p', s.2) := by
  have e1 : sI μ1 179 2 (nI p') = pw μ1 (p', s.2) := pw_ext (by simp [mI_sI]) (by rw [mI_sI, if_neg (by decide)]; exact h.2.1.2.1) (by rw [mI_sI, if_neg (by decide)]; exact h.2.1.2.2.1) (by rw [mI_sI, if_neg (by decide)]; exact h.2.1.2.2.2.1) (by rw [mI_sI, if_neg (by decide)]; exact h.2.1.2.2.2.2.1) (by rw [mI_sI, if_neg (by decide)]; exact h.2.1.2.2.2.2.2) (fun a k hk => by rw [mI_sI, if_neg (by omega)]) rfl
  rw [e1]
  exact h.ps _
end QMAT
section KMQ4
variable {l : Launch} {G : Gm} {μ μ1 : Mm} {q : Qt} {s : Ps} {tx : Nat → Nat} {e : Nat}
theorem kq_opens (hS : ShM μ) (hQ : QM μ μ1 q s) (hl : q.2.1.length < 1700) (v pl : Int32) : AMet l G 1 0 0 mtX13_qOpens [.ref (G.1 + 179), .int v, .int pl] μ1 (qV (fun μ' => QM μ μ' (opn v pl (q, s)).1 (opn v pl (q, s)).2)) :=
  (kq_qOpens hS hQ hl v pl).monoV (fun μ' h => by
    unfold opn
    dsimp only
    split at h
    · rename_i hb
      rw [if_pos hb]
      split at h
      · rename_i h6
        rw [if_pos h6]; exact h
      · rename_i h6
        rw [if_neg h6]; exact h
    · rename_i hb
      rw [if_neg hb]; exact h)
theorem kq_ends (hS : ShM μ) (hQ : QM μ μ1 q s) (hl : q.1.length + q.2.1.length < 1700) (hbs : q.2.2.2 < 1700) : AMet l G 2 0 0 mtX13_qEndsPart [.ref (G.1 + 179)] μ1 (qV (fun μ' => QM μ μ' (qEnd (q, s)).1 (qEnd (q, s)).2)) :=
  (kq_qEnds hS hQ hl hbs).monoV (fun μ' h => by
    unfold qEnd
    dsimp only
    split at h
    · rename_i hb
      rw [if_pos hb]; exact h
    · rename_i hb
      rw [if_neg hb]; exact h)
theorem fIdx_rng (q : Nat) (en : Int32) : ∀ (L : List (List Nat)) (i : Nat), fIdx tx e q en L i = -1 ∨ ∃ j, i ≤ j ∧ j < i + L.length ∧ fIdx tx e q en L i = nI j
  | [], i => Or.inl rfl
  | w :: r, i => by
    unfold fIdx
    split
    · exact Or.inr ⟨i, Nat.le_refl _, by simp, rfl⟩
    · rcases fIdx_rng q en r (i + 1) with h | ⟨j, h1, h2, h3⟩
      · exact Or.inl h
      · exact Or.inr ⟨j, by omega, by simp; omega, h3⟩
theorem fIdx_9 (q : Nat) (en : Int32) : fIdx tx e q en partL 0 = nI 9 → hereW tx e q en wNear = true := by
  intro h
  unfold partL at h
  simp only [wdT, List.drop, List.map, fIdx] at h
  repeat' split at h
  all_goals first | exact absurd h (by decide) | assumption
theorem fIdx_near (q : Nat) (en : Int32) (h : hereW tx e q en wNear = true) : fIdx tx e q en partL 0 = nI 9 := by
  have ht : tok tx e q = wNear := by
    unfold hereW at h
    simp only [Bool.and_eq_true, decide_eq_true_eq] at h
    exact h.2
  have hno : ∀ ws : List Nat, wNear ≠ ws → hereW tx e q en ws = false := fun ws hne => by
    unfold hereW
    rw [decide_eq_false (p := tok tx e q = ws) (by rw [ht]; exact hne)]
    simp
  unfold partL
  simp only [wdT, List.drop, List.map, fIdx]
  rw [hno _ (by decide), hno _ (by decide), hno _ (by decide), hno _ (by decide), hno _ (by decide), hno _ (by decide), hno _ (by decide), hno _ (by decide), hno _ (by decide)]
  simp [h]
/-- qWordOf(9, 10) tells whether 'near' is here and allowed -/
theorem near_of (tk : Int32) (q : Nat) (en : Int32) : (if nI 9 ≤ fIdx tx e q en partL 0 ∧ fIdx tx e q en partL 0 < nI 10 ∧ alw tk (fIdx tx e q en partL 0) = true then fIdx tx e q en partL 0 else -1) = if nearOk tx e tk q en = true then nI 9 else -1 := by
  unfold nearOk
  rcases fIdx_rng (tx := tx) (e := e) q en partL 0 with h | ⟨j, -, h2, h3⟩
  · rw [h, if_neg (fun z => absurd z.1 (by decide))]
    have hw : hereW tx e q en wNear = false := by
      cases hh : hereW tx e q en wNear
      · rfl
      · rw [fIdx_near q en hh] at h; exact absurd h (by decide)
    simp [hw]
  · have hl : partL.length = 10 := by decide +kernel
    rw [h3]
    by_cases h9 : j = 9
    · subst h9
      have hw := fIdx_9 (tx := tx) (e := e) q en h3
      rw [hw]
      by_cases ha : alw tk (nI 9) = true
      · rw [if_pos ⟨by decide, by decide, ha⟩]; simp [ha]
      · rw [if_neg (fun z => ha z.2.2)]; simp [ha]
    · rw [if_neg (fun z => by have := n_le z.1; omega)]
      have hw : hereW tx e q en wNear = false := by
        cases hh : hereW tx e q en wNear
        · rfl
        · rw [fIdx_near q en hh] at h3
          exact absurd (n_eq h3).symm h9
      simp [hw]
theorem kq_part (hS : ShM μ) (hW : WdM μ) (hT : TxM μ tx e) (hQ : QM μ μ1 q s) (hB : LB e (q, s)) : AMet l G 5 0 0 mtX13_qPartTold [.ref (G.1 + 179)] μ1 (qV (fun μ' => QM μ μ' (pPart tx e (mI μ 179 58) (q, s)).1 (pPart tx e (mI μ 179 58) (q, s)).2)) := by
  refine AMet.of (by decide) (Nat.le_of_ble_eq_true rfl) (fun X C hX hnm hq => ?_)
  have hS1 := hS
  have he := hT.2.1
  generalize htk : mI μ 179 58 = tk at hq
  generalize hK : pPart tx e tk (q, s) = K at hq
  -- behind the turns
  have fin : ∀ (t : Tt) (μ1 : Mm), QM μ μ1 t.1 t.2 → t.1.1.length + t.1.2.1.length ≤ 1650 → t.2.1 ≤ e → t.1.2.2.2 < 1700 → (sk tx e t.2.1 = t.2.1 ∨ ¬ t.2.2.2.1 = 0) → (if t.2.2.2.1 = 0 then pLast tx e tk t else t) = K → AW l G X 0 0 186 [(0, .ref (G.1 + 179))] [] μ1 := by
    intro t μ1 hQ hB1 hB2 hB3 hk hv
    obtain ⟨⟨cs, ws, op, bs⟩, s⟩ := t
    dsimp only at hQ hB1 hB2 hB3 hk hv
    have hS : ShM μ1 := hQ.sh hS1
    have hbd := hQ.2.1.2.2.1
    by_cases hz : s.2.2.1 = 0
    · have hk := hk.resolve_right (fun h => h hz)
      rw [if_pos hz] at hv
      unfold pLast at hv
      have key : ∀ (p : Int32) (q2 : Qt) (s2 : Ps) (μ2 : Mm), QM μ μ2 q2 s2 → q2.1.length + q2.2.1.length < 1700 → q2.2.2.2 < 1700 → qEnd (q2, s2) = K → AW l G X 0 0 240 [(0, .ref (G.1 + 179)), (2, .int p)] [] μ2 := by
        intro p q2 s2 μ2 hQ2 hl2 hb2 hv2
        have hS : ShM μ2 := hQ2.sh hS1
        refine C.aload_n dX13_qPartTold_240 0 rfl ?_
        refine C.callVV lX13_632 dX13_qPartTold_241 (kq_ends hS1 hQ2 hl2 hb2) hS.o rfl rfl (Nat.le_of_ble_eq_true rfl) (Nat.zero_le _) (Nat.zero_le _) (Nat.le_of_ble_eq_true rfl) (fun μ241 h241 => ?_)
        refine C.vret hq dX13_qPartTold_244 ?_
        rw [hv2] at h241
        exact h241
      have m212 : pIdx tx e tk s = -1 → AW l G X 0 0 212 [(0, .ref (G.1 + 179)), (2, .int (-1))] [] μ1 := by
        intro hi
        dsimp only at hv
        rw [if_pos hi] at hv
        refine C.aload_n dX13_qPartTold_212 0 rfl ?_
        refine C.iload_n dX13_qPartTold_213 1 rfl ?_
        refine C.iconst (-1) dX13_qPartTold_214 (by decide) ?_
        refine C.icmp_eq 225 dX13_qPartTold_215 rfl (fun hc215 => ?_) (fun hc215 => ?_)
        · refine C.sipush (nI 1000) dX13_qPartTold_225 (by decide) ?_
          refine C.aload_n dX13_qPartTold_228 0 rfl ?_
          refine C.iconst (nI 0) dX13_qPartTold_229 (by decide) ?_
          refine C.sipush (nI 9999) dX13_qPartTold_230 (by decide) ?_
          refine C.callVI lX13_333 dX13_qPartTold_233 (kq_number hS1 hT hQ hB2 _ _) hS.o rfl rfl (Nat.le_of_ble_eq_true rfl) (Nat.zero_le _) (Nat.zero_le _) (Nat.le_of_ble_eq_true rfl) (fun x233 μ233 h233 => ?_)
          obtain ⟨rfl, hQ3⟩ := h233
          have hS : ShM μ233 := hQ3.sh hS1
          refine C.iadd dX13_qPartTold_236 ?_
          refine C.callVV lX13_608 dX13_qPartTold_237 (kq_qCode hS1 hQ3 (by dsimp only; omega) _) hS.o rfl rfl (Nat.le_of_ble_eq_true rfl) (Nat.zero_le _) (Nat.zero_le _) (Nat.le_of_ble_eq_true rfl) (fun μ237 h237 => ?_)
          exact key _ _ _ _ h237 (by simp; omega) hB3 hv
        · exact absurd rfl hc215
      have n212 : ∀ (j : Nat) (μ2 : Mm), pIdx tx e tk s = nI j → j < 10 → QM μ μ2 (cs, ws, op, bs) (mAsks tx e s (partL.getD j [])) → AW l G X 0 0 212 [(0, .ref (G.1 + 179)), (2, .int (nI j))] [] μ2 := by
        intro j μ2 hi hj hQ3
        dsimp only at hv
        rw [hi, if_neg n_m1, n_cl] at hv
        have hS : ShM μ2 := hQ3.sh hS1
        refine C.aload_n dX13_qPartTold_212 0 rfl ?_
        refine C.iload_n dX13_qPartTold_213 1 rfl ?_
        refine C.iconst (-1) dX13_qPartTold_214 (by decide) ?_
        refine C.icmp_eq 225 dX13_qPartTold_215 rfl (fun hc215 => ?_) (fun hc215 => ?_)
        · exact absurd hc215 n_m1
        · refine C.bipush (nI 40) dX13_qPartTold_218 (by decide) ?_
          refine C.iload_n dX13_qPartTold_220 1 rfl ?_
          refine C.iadd dX13_qPartTold_221 ?_
          refine C.goto 237 dX13_qPartTold_222 rfl ?_
          refine C.callVV lX13_608 dX13_qPartTold_237 (kq_qCode hS1 hQ3 (by dsimp only; omega) _) hS.o rfl rfl (Nat.le_of_ble_eq_true rfl) (Nat.zero_le _) (Nat.zero_le _) (Nat.le_of_ble_eq_true rfl) (fun μ237 h237 => ?_)
          exact key _ _ _ _ h237 (by simp; omega) hB3 hv
      refine C.aload_n dX13_qPartTold_186 0 rfl ?_
      refine C.getI fX13_264 dX13_qPartTold_187 hS.o ?_
      rw [hbd]
      refine C.if_eq 194 dX13_qPartTold_190 rfl (fun hc190 => ?_) (fun hc190 => ?_)
      · refine C.aload_n dX13_qPartTold_194 0 rfl ?_
        refine C.iconst (nI 0) dX13_qPartTold_195 (by decide) ?_
        refine C.bipush (nI 9) dX13_qPartTold_196 (by decide) ?_
        refine C.callVI lX13_623 dX13_qPartTold_198 (kq_qWordOf hS1 hW hT hQ hB2 hz hk _ _) hS.o rfl rfl (Nat.le_of_ble_eq_true rfl) (Nat.zero_le _) (Nat.zero_le _) (Nat.le_of_ble_eq_true rfl) (fun x198 μ198 h198 => ?_)
        obtain ⟨rfl, hμ⟩ := h198
        subst hμ
        rw [htk]
        change AW l G X _ _ _ _ [Value.int (pIdx tx e tk s)] _
        refine C.istore_n (lv' := [(0, _), (2, _)]) dX13_qPartTold_201 (nLt hX rfl) rfl ?_
        refine C.iload_n dX13_qPartTold_202 1 rfl ?_
        refine C.iconst (-1) dX13_qPartTold_203 (by decide) ?_
        refine C.icmp_eq 212 dX13_qPartTold_204 rfl (fun hc204 => ?_) (fun hc204 => ?_)
        · rw [hc204]
          exact m212 hc204
        · obtain ⟨j, hj9, hji⟩ : ∃ j, j < 10 ∧ pIdx tx e tk s = nI j := by
            rcases fIdx_rng (tx := tx) (e := e) s.1 s.2.1 partL 0 with h | ⟨j, -, h2, h3⟩
            · exfalso
              apply hc204
              unfold pIdx
              rw [h, if_neg (fun z => absurd z.1 (by decide))]
            · have hl : partL.length = 10 := by decide +kernel
              refine ⟨j, by omega, ?_⟩
              unfold pIdx at hc204 ⊢
              split at hc204
              · rename_i hc
                rw [if_pos hc]; exact h3
              · exact absurd rfl hc204
          rw [hji]
          refine C.aload_n dX13_qPartTold_207 0 rfl ?_
          refine C.iload_n dX13_qPartTold_208 1 rfl ?_
          refine C.callVV lX13_629 dX13_qPartTold_209 (kq_qAsksWord hS1 hW hT hQ hB2 hj9) hS.o rfl rfl (Nat.le_of_ble_eq_true rfl) (Nat.zero_le _) (Nat.zero_le _) (Nat.le_of_ble_eq_true rfl) (fun μ209 h209 => ?_)
          exact n212 j _ hji hj9 h209
      · exact absurd hz hc190
    · rw [if_neg hz] at hv
      refine C.aload_n dX13_qPartTold_186 0 rfl ?_
      refine C.getI fX13_264 dX13_qPartTold_187 hS.o ?_
      rw [hbd]
      refine C.if_eq 194 dX13_qPartTold_190 rfl (fun hc190 => ?_) (fun hc190 => ?_)
      · exact absurd hc190 hz
      · refine C.vret hq dX13_qPartTold_193 ?_
        rw [← hv]
        exact hQ
  -- the turns
  have loop : ∀ (n : Nat) (t : Tt) (μ1 : Mm), QM μ μ1 t.1 t.2 → t.1.1.length + t.1.2.1.length ≤ 1640 → (t.2.2.2.1 = 0 → t.1.1.length + t.1.2.1.length ≤ t.2.1) → t.2.1 ≤ e → t.1.2.2.2 < 1700 → e + 1 - t.2.1 < n → (if (pLoop tx e tk n t).2.2.2.1 = 0 then pLast tx e tk (pLoop tx e tk n t) else pLoop tx e tk n t) = K → AW l G X 0 0 2 [(0, .ref (G.1 + 179)), (1, .int (nI 1))] [] μ1 := by
    intro n
    induction n with
    | zero => intro t μ1 _ _ _ _ _ h; omega
    | succ n ih =>
      intro t μ1 hQ hB1 hB0 hB2 hB3 hn hv
      obtain ⟨⟨cs, ws, op, bs⟩, s⟩ := t
      dsimp only at hQ hB1 hB0 hB2 hB3 hn
      unfold pLoop at hv
      dsimp only at hv
      have hS : ShM μ1 := hQ.sh hS1
      have hbd := hQ.2.1.2.2.1
      have h1 := sk_le (tx := tx) hB2
      have hss := sk_sk (tx := tx) hB2
      by_cases hz : s.2.2.1 = 0
      · have hB0 := hB0 hz
        rw [if_pos hz] at hv
        generalize hs1 : mLook tx e s = s1 at hv
        have hs1p : s1.1 = sk tx e s.1 := by rw [← hs1]; rfl
        have hs1e : s1.2.1 = s.2.1 := by rw [← hs1]; rfl
        have hz1 : s1.2.2.1 = 0 := by rw [← hs1]; exact hz
        have hk1 : sk tx e s1.1 = s1.1 := by rw [hs1p]; exact hss
        have hp1 : s1.1 ≤ e := by rw [hs1p]; exact h1.2
        -- one turn's state goes on
        have nxt : ∀ (t2 : Tt) (μ2 : Mm), pTry tx e tk ((cs, ws, op, bs), s) = (true, t2) → QM μ μ2 t2.1 t2.2 → t2.1.1.length + t2.1.2.1.length ≤ cs.length + ws.length + 1 → t2.2.1 ≤ e → t2.1.2.2.2 = bs → (t2.2.2.2.1 = 0 → s.1 + 1 ≤ t2.2.1) → AW l G X 0 0 2 [(0, .ref (G.1 + 179)), (1, .int (nI 1))] [] μ2 := by
          intro t2 μ2 ht hQ2 hl2 hp2 hb2 ha
          rw [ht] at hv
          dsimp only at hv
          rw [if_pos rfl] at hv
          by_cases hz2 : t2.2.2.2.1 = 0
          · exact ih t2 μ2 hQ2 (by omega) (fun _ => by have := ha hz2; omega) hp2 (by rw [hb2]; exact hB3) (by have := ha hz2; omega) hv
          · have hpl : ∀ n, pLoop tx e tk n t2 = t2 := fun n => by cases n; rfl; unfold pLoop; rw [if_neg hz2]
            rw [hpl] at hv
            have hS : ShM μ2 := hQ2.sh hS1
            have hbd2 := hQ2.2.1.2.2.1
            refine C.iload_n dX13_qPartTold_2 1 rfl ?_
            refine C.if_eq 186 dX13_qPartTold_3 rfl (fun hc3 => ?_) (fun hc3 => ?_)
            · exact absurd hc3 (by decide)
            · refine C.aload_n dX13_qPartTold_6 0 rfl ?_
              refine C.getI fX13_264 dX13_qPartTold_7 hS.o ?_
              rw [hbd2]
              refine C.if_ne 186 dX13_qPartTold_10 rfl (fun hc10 => ?_) (fun hc10 => ?_)
              · exact AW.pick [0] rfl (fin t2 μ2 hQ2 (by omega) hp2 (by rw [hb2]; exact hB3) (Or.inr hz2) hv)
              · exact absurd (by simpa using hc10) hz2
        have m144 : ∀ (x3 x4 x5 : Int32) (u : Tt) (μ2 : Mm), QM μ μ2 u.1 u.2 → u.2.1 ≤ e → u.1.1.length + u.1.2.1.length ≤ cs.length + ws.length + 1 → u.1.2.2.2 = bs → s.1 + 1 ≤ u.2.1 → pTry tx e tk ((cs, ws, op, bs), s) = (true, (u.1, mAskSign tx e u.2 (nI 40))) → AW l G X 0 0 144 [(0, .ref (G.1 + 179)), (1, .int (nI 1)), (2, .int (chr tx e s1.1)), (3, .int x3), (4, .int x4), (5, .int x5)] [] μ2 := by
          intro x3 x4 x5 u μ2 hQ2 hp2 hl2 hb2 ha ht
          have hS : ShM μ2 := hQ2.sh hS1
          refine C.aload_n dX13_qPartTold_144 0 rfl ?_
          refine C.bipush (nI 40) dX13_qPartTold_145 (by decide) ?_
          refine C.callVV lX13_344 dX13_qPartTold_147 (kq_asksSign hS1 hT hQ2 hp2 _) hS.o rfl rfl (Nat.le_of_ble_eq_true rfl) (Nat.zero_le _) (Nat.zero_le _) (Nat.le_of_ble_eq_true rfl) (fun μ147 h147 => ?_)
          refine C.goto 183 dX13_qPartTold_150 rfl ?_
          refine C.goto 2 dX13_qPartTold_183 rfl ?_
          exact AW.pick [0, 1] rfl (nxt _ _ ht h147 hl2 (mAskSign_le (by decide) hp2) hb2 (fun _ => by have := mAskSign_ge (tx := tx) u.2 (nI 40) hp2; dsimp only; omega))
        have m101 : ∀ (x3 : Int32) (b : Bool) (s2 : Ps) (μ2 : Mm), QM μ μ2 (cs, ws, op, bs) s2 → s2.1 ≤ e → s.1 + 1 ≤ s2.1 → pTry tx e tk ((cs, ws, op, bs), s) = (true, ((if chr tx e (mLook tx e s2).1 = nI 40 then opn (if b then nI 21 else nI 22) (nI (mLook tx e s2).1) ((cs, ws, op, bs), mLook tx e s2) else ((cs, ws, op, bs), mLook tx e s2)).1, mAskSign tx e (if chr tx e (mLook tx e s2).1 = nI 40 then opn (if b then nI 21 else nI 22) (nI (mLook tx e s2).1) ((cs, ws, op, bs), mLook tx e s2) else ((cs, ws, op, bs), mLook tx e s2)).2 (nI 40))) → AW l G X 0 0 101 [(0, .ref (G.1 + 179)), (1, .int (nI 1)), (2, .int (chr tx e s1.1)), (3, .int x3), (4, .int (bI b))] [] μ2 := by
          intro x3 b s2 μ2 hQ2 hp2 ha ht
          have hS : ShM μ2 := hQ2.sh hS1
          have h3 := sk_le (tx := tx) hp2
          have hlk : (mLook tx e s2).1 = sk tx e s2.1 := rfl
          have m139 : ∀ (v : Int32) (μ3 : Mm), v = (if b then nI 21 else nI 22) → QM μ μ3 (cs, ws, op, bs) (mLook tx e s2) → chr tx e (mLook tx e s2).1 = nI 40 → AW l G X 0 0 139 [(0, .ref (G.1 + 179)), (1, .int (nI 1)), (2, .int (chr tx e s1.1)), (3, .int x3), (4, .int (bI b)), (5, .int (nI (mLook tx e s2).1))] [.int v, .ref (G.1 + 179)] μ3 := by
            intro v μ3 hv3 hQ3 hc3
            rw [if_pos hc3, ← hv3] at ht
            have hS : ShM μ3 := hQ3.sh hS1
            have ol := opn_len v (nI (mLook tx e s2).1) ((cs, ws, op, bs), mLook tx e s2)
            have o1 := opn_1 v (nI (mLook tx e s2).1) ((cs, ws, op, bs), mLook tx e s2)
            dsimp only at ol o1
            refine C.iload dX13_qPartTold_139 5 rfl ?_
            refine C.callVV lX13_626 dX13_qPartTold_141 (kq_opens hS1 hQ3 (by dsimp only; omega) _ _) hS.o rfl rfl (Nat.le_of_ble_eq_true rfl) (Nat.zero_le _) (Nat.zero_le _) (Nat.le_of_ble_eq_true rfl) (fun μ141 h141 => ?_)
            exact m144 _ _ _ _ _ h141 (by rw [o1, hlk]; exact h3.2) ol.1 ol.2 (by rw [o1, hlk]; omega) ht
          have j118 : ∀ μ3 : Mm, QM μ μ3 (cs, ws, op, bs) (mLook tx e s2) → ¬ chr tx e (mLook tx e s2).1 = nI 40 → AW l G X 0 0 118 [(0, .ref (G.1 + 179)), (1, .int (nI 1)), (2, .int (chr tx e s1.1)), (3, .int x3), (4, .int (bI b))] [.int (-1)] μ3 := by
            intro μ3 hQ3 hc107
            rw [if_neg hc107] at ht
            have hS : ShM μ3 := hQ3.sh hS1
            refine C.istore (lv' := [(0, _), (1, _), (2, _), (3, _), (4, _), (5, _)]) dX13_qPartTold_118 (nLt hX rfl) rfl ?_
            refine C.iload dX13_qPartTold_120 5 rfl ?_
            refine C.iconst (-1) dX13_qPartTold_122 (by decide) ?_
            refine C.icmp_eq 144 dX13_qPartTold_123 rfl (fun hc123 => ?_) (fun hc123 => ?_)
            · exact m144 _ _ _ _ _ hQ3 (by show sk tx e s2.1 ≤ e; exact h3.2) (by dsimp only; omega) rfl (by show s.1 + 1 ≤ sk tx e s2.1; omega) ht
            · exact absurd rfl hc123
          have k118 : ∀ μ3 : Mm, QM μ μ3 (cs, ws, op, bs) (mLook tx e s2) → chr tx e (mLook tx e s2).1 = nI 40 → AW l G X 0 0 118 [(0, .ref (G.1 + 179)), (1, .int (nI 1)), (2, .int (chr tx e s1.1)), (3, .int x3), (4, .int (bI b))] [.int (nI (mLook tx e s2).1)] μ3 := by
            intro μ3 hQ3 hc40
            have hS : ShM μ3 := hQ3.sh hS1
            refine C.istore (lv' := [(0, _), (1, _), (2, _), (3, _), (4, _), (5, _)]) dX13_qPartTold_118 (nLt hX rfl) rfl ?_
            refine C.iload dX13_qPartTold_120 5 rfl ?_
            refine C.iconst (-1) dX13_qPartTold_122 (by decide) ?_
            refine C.icmp_eq 144 dX13_qPartTold_123 rfl (fun hc123 => ?_) (fun hc123 => ?_)
            · exact absurd hc123 (n_m1 (by rw [hlk]; omega))
            · refine C.aload_n dX13_qPartTold_126 0 rfl ?_
              refine C.iload dX13_qPartTold_127 4 rfl ?_
              refine C.if_eq 137 dX13_qPartTold_129 rfl (fun hc129 => ?_) (fun hc129 => ?_)
              · have hbf : b = false := (bI_0 b).mp hc129
                refine C.bipush (nI 22) dX13_qPartTold_137 (by decide) ?_
                first | exact m139 _ _ (by rw [hbf]; rfl) hQ3 hc40 | exact m139 _ _ (by rw [hbt]; rfl) hQ3 hc40
              · have hbt : b = true := by cases b; exact absurd rfl hc129; rfl
                refine C.bipush (nI 21) dX13_qPartTold_132 (by decide) ?_
                refine C.goto 139 dX13_qPartTold_134 rfl ?_
                first | exact m139 _ _ (by rw [hbf]; rfl) hQ3 hc40 | exact m139 _ _ (by rw [hbt]; rfl) hQ3 hc40
          refine C.aload_n dX13_qPartTold_101 0 rfl ?_
          refine C.callVI lX13_276 dX13_qPartTold_102 (kq_look hS1 hT hQ2 hp2) hS.o rfl rfl (Nat.le_of_ble_eq_true rfl) (Nat.zero_le _) (Nat.zero_le _) (Nat.le_of_ble_eq_true rfl) (fun x102 μ102 h102 => ?_)
          obtain ⟨rfl, hQ3⟩ := h102
          have hS : ShM μ102 := hQ3.sh hS1
          refine C.bipush (nI 40) dX13_qPartTold_105 (by decide) ?_
          refine C.icmp_ne 117 dX13_qPartTold_107 rfl (fun hc107 => ?_) (fun hc107 => ?_)
          · refine C.iconst (-1) dX13_qPartTold_117 (by decide) ?_
            first | exact j118 _ hQ3 hc107 | exact k118 _ hQ3 hc107
          · refine C.aload_n dX13_qPartTold_110 0 rfl ?_
            refine C.getI fX13_270 dX13_qPartTold_111 hS.o ?_
            rw [hQ3.2.1.1]
            refine C.goto 118 dX13_qPartTold_114 rfl ?_
            first | exact j118 _ hQ3 hc107 | exact k118 _ hQ3 hc107
        have hQl : cs.length + ws.length ≤ 1640 := hB1
        have m78 : ∀ (x3 : Int32) (μ2 : Mm), hereW tx e s1.1 s1.2.1 wMin = true ∨ hereW tx e s1.1 s1.2.1 wMax = true → ¬ chr tx e s1.1 = nI 40 → QM μ μ2 (cs, ws, op, bs) s1 → AW l G X 0 0 78 [(0, .ref (G.1 + 179)), (1, .int (nI 1)), (2, .int (chr tx e s1.1)), (3, .int x3)] [] μ2 := by
          intro x3 μ2 hmm hc hQ2
          have ht : pTry tx e tk ((cs, ws, op, bs), s) = (true, pMM tx e (cs, ws, op, bs) s1) := by
            unfold pTry
            dsimp only
            rw [hs1, if_neg hc, if_pos hmm]
          unfold pMM at ht
          dsimp only at ht
          have hS : ShM μ2 := hQ2.sh hS1
          by_cases hmin : hereW tx e s1.1 s1.2.1 wMin = true
          · have hmt := mTakes_t s1 hz1 hk1 wMin hmin
            have hl := hereW_len hmin hp1
            rw [hmt] at ht
            simp only [if_true] at ht
            refine C.aload_n dX13_qPartTold_78 0 rfl ?_
            refine C.aload_n dX13_qPartTold_79 0 rfl ?_
            refine C.getA fX13_213 dX13_qPartTold_80 hS.o hS.r89 ?_
            refine C.callVI lX13_291 dX13_qPartTold_83 (kq_takes hS1 hW hT hQ2 hp1 (List.mem_of_getElem? (l := wdT) (i := 43) rfl)) hS.o rfl rfl (Nat.le_of_ble_eq_true rfl) (Nat.zero_le _) (Nat.zero_le _) (Nat.le_of_ble_eq_true rfl) (fun x83 μ83 h83 => ?_)
            obtain ⟨rfl, hQ3⟩ := h83
            rw [hmt] at hQ3 ⊢
            have hS : ShM μ83 := hQ3.sh hS1
            refine C.istore (lv' := [(0, _), (1, _), (2, _), (3, _), (4, _)]) dX13_qPartTold_86 (nLt hX rfl) rfl ?_
            refine C.iload dX13_qPartTold_88 4 rfl ?_
            refine C.if_ne 101 dX13_qPartTold_90 rfl (fun hc90 => ?_) (fun hc90 => ?_)
            · exact m101 _ true _ _ hQ3 hl (by show s.1 + 1 ≤ s1.1 + 3; omega) ht
            · exact absurd (show bI true = 0 from hc90) (by decide)
          · have hmt := mTakes_f s1 hz1 hk1 wMin hmin
            have hmax := hmm.resolve_left hmin
            have hl := hereW_len hmax hp1
            have hma : mAsks tx e s1 wMax = (s1.1 + 3, nI (s1.1 + 3), s1.2.2) := by
              unfold mAsks
              rw [if_pos hz1, mTakes_t s1 hz1 hk1 wMax hmax]
              rfl
            rw [hmt] at ht
            simp only [Bool.false_eq_true, if_false] at ht
            rw [hma] at ht
            refine C.aload_n dX13_qPartTold_78 0 rfl ?_
            refine C.aload_n dX13_qPartTold_79 0 rfl ?_
            refine C.getA fX13_213 dX13_qPartTold_80 hS.o hS.r89 ?_
            refine C.callVI lX13_291 dX13_qPartTold_83 (kq_takes hS1 hW hT hQ2 hp1 (List.mem_of_getElem? (l := wdT) (i := 43) rfl)) hS.o rfl rfl (Nat.le_of_ble_eq_true rfl) (Nat.zero_le _) (Nat.zero_le _) (Nat.le_of_ble_eq_true rfl) (fun x83 μ83 h83 => ?_)
            obtain ⟨rfl, hQ3⟩ := h83
            rw [hmt] at hQ3 ⊢
            have hS : ShM μ83 := hQ3.sh hS1
            refine C.istore (lv' := [(0, _), (1, _), (2, _), (3, _), (4, _)]) dX13_qPartTold_86 (nLt hX rfl) rfl ?_
            refine C.iload dX13_qPartTold_88 4 rfl ?_
            refine C.if_ne 101 dX13_qPartTold_90 rfl (fun hc90 => ?_) (fun hc90 => ?_)
            · exact absurd (show bI false = 0 from rfl) hc90
            · refine C.aload_n dX13_qPartTold_93 0 rfl ?_
              refine C.aload_n dX13_qPartTold_94 0 rfl ?_
              refine C.getA fX13_216 dX13_qPartTold_95 hS.o hS.r90 ?_
              refine C.callVV lX13_337 dX13_qPartTold_98 (kq_asks hS1 hW hT hQ3 hp1 (List.mem_of_getElem? (l := wdT) (i := 44) rfl)) hS.o rfl rfl (Nat.le_of_ble_eq_true rfl) (Nat.zero_le _) (Nat.zero_le _) (Nat.le_of_ble_eq_true rfl) (fun μ98 h98 => ?_)
              rw [hma] at h98
              exact m101 _ false _ _ h98 hl (by show s.1 + 1 ≤ s1.1 + 3; omega) ht
        have m181 : ∀ (x3 : Int32) (μ2 : Mm), ¬ (hereW tx e s1.1 s1.2.1 wMin = true ∨ hereW tx e s1.1 s1.2.1 wMax = true) → ¬ chr tx e s1.1 = nI 40 → ¬ nearOk tx e tk s1.1 s1.2.1 = true → QM μ μ2 (cs, ws, op, bs) s1 → AW l G X 0 0 181 [(0, .ref (G.1 + 179)), (1, .int (nI 1)), (2, .int (chr tx e s1.1)), (3, .int x3)] [] μ2 := by
          intro x3 μ2 hmm hc hn hQ2
          have ht : pTry tx e tk ((cs, ws, op, bs), s) = (false, ((cs, ws, op, bs), s1)) := by
            unfold pTry
            dsimp only
            rw [hs1, if_neg hc, if_neg hmm, if_neg hn]
          rw [ht] at hv
          simp only [Bool.false_eq_true, if_false] at hv
          have hS : ShM μ2 := hQ2.sh hS1
          refine C.iconst (nI 0) dX13_qPartTold_181 (by decide) ?_
          refine C.istore_n (lv' := [(0, _), (1, _), (2, _), (3, _)]) dX13_qPartTold_182 (nLt hX rfl) rfl ?_
          refine C.goto 2 dX13_qPartTold_183 rfl ?_
          refine C.iload_n dX13_qPartTold_2 1 rfl ?_
          refine C.if_eq 186 dX13_qPartTold_3 rfl (fun hc3 => ?_) (fun hc3 => ?_)
          · exact AW.pick [0] rfl (fin ((cs, ws, op, bs), s1) μ2 hQ2 (by dsimp only; omega) hp1 hB3 (Or.inl hk1) hv)
          · exact absurd rfl hc3
        have tru : ∀ b : Bool, ¬ bI b = 0 → b = true := fun b h => by cases b; exact absurd rfl h; rfl
        have ol20 := opn_len (nI 20) (nI s1.1) ((cs, ws, op, bs), s1)
        have o120 := opn_1 (nI 20) (nI s1.1) ((cs, ws, op, bs), s1)
        have ol60 := opn_len (nI 60) (nI s1.1) ((cs, ws, op, bs), s1)
        have o160 := opn_1 (nI 60) (nI s1.1) ((cs, ws, op, bs), s1)
        dsimp only at ol20 o120 ol60 o160
        refine C.iload_n dX13_qPartTold_2 1 rfl ?_
        refine C.if_eq 186 dX13_qPartTold_3 rfl (fun hc3 => ?_) (fun hc3 => ?_)
        · exact absurd hc3 (by decide)
        · refine C.aload_n dX13_qPartTold_6 0 rfl ?_
          refine C.getI fX13_264 dX13_qPartTold_7 hS.o ?_
          rw [hbd]
          refine C.if_ne 186 dX13_qPartTold_10 rfl (fun hc10 => ?_) (fun hc10 => ?_)
          · exact absurd hz hc10
          · refine C.aload_n dX13_qPartTold_13 0 rfl ?_
            refine C.callVI lX13_276 dX13_qPartTold_14 (kq_look hS1 hT hQ hB2) hS.o rfl rfl (Nat.le_of_ble_eq_true rfl) (Nat.zero_le _) (Nat.zero_le _) (Nat.le_of_ble_eq_true rfl) (fun x14 μ14 h14 => ?_)
            obtain ⟨rfl, hQ1⟩ := h14
            rw [hs1] at hQ1
            rw [← hs1p]
            have hS : ShM μ14 := hQ1.sh hS1
            refine C.istore_n (lv' := [(0, _), (1, _), (2, _)]) dX13_qPartTold_17 (nLt hX rfl) rfl ?_
            refine C.aload_n dX13_qPartTold_18 0 rfl ?_
            refine C.bipush (nI 9) dX13_qPartTold_19 (by decide) ?_
            refine C.bipush (nI 10) dX13_qPartTold_21 (by decide) ?_
            refine C.callVI lX13_623 dX13_qPartTold_23 (kq_qWordOf hS1 hW hT hQ1 hp1 hz1 hk1 _ _) hS.o rfl rfl (Nat.le_of_ble_eq_true rfl) (Nat.zero_le _) (Nat.zero_le _) (Nat.le_of_ble_eq_true rfl) (fun x23 μ23 h23 => ?_)
            obtain ⟨rfl, hμ⟩ := h23
            subst hμ
            rw [htk, near_of]
            refine C.istore_n (lv' := [(0, _), (1, _), (2, _), (3, _)]) dX13_qPartTold_26 (nLt hX rfl) rfl ?_
            refine C.iload_n dX13_qPartTold_27 2 rfl ?_
            refine C.bipush (nI 40) dX13_qPartTold_28 (by decide) ?_
            refine C.icmp_ne 56 dX13_qPartTold_30 rfl (fun hc30 => ?_) (fun hc30 => ?_)
            · refine C.aload_n dX13_qPartTold_56 0 rfl ?_
              refine C.aload_n dX13_qPartTold_57 0 rfl ?_
              refine C.getA fX13_213 dX13_qPartTold_58 hS.o hS.r89 ?_
              refine C.callVI lX13_287 dX13_qPartTold_61 (kq_here0 hS1 hW hT hQ1 hp1 hz1 hk1 (List.mem_of_getElem? (l := wdT) (i := 43) rfl)) hS.o rfl rfl (Nat.le_of_ble_eq_true rfl) (Nat.zero_le _) (Nat.zero_le _) (Nat.le_of_ble_eq_true rfl) (fun x61 μ61 h61 => ?_)
              obtain ⟨rfl, hμ⟩ := h61
              subst hμ
              refine C.if_ne 78 dX13_qPartTold_64 rfl (fun hc64 => ?_) (fun hc64 => ?_)
              · exact m78 _ _ (Or.inl (tru _ hc64)) hc30 hQ1
              · refine C.aload_n dX13_qPartTold_67 0 rfl ?_
                refine C.aload_n dX13_qPartTold_68 0 rfl ?_
                refine C.getA fX13_216 dX13_qPartTold_69 hS.o hS.r90 ?_
                refine C.callVI lX13_287 dX13_qPartTold_72 (kq_here0 hS1 hW hT hQ1 hp1 hz1 hk1 (List.mem_of_getElem? (l := wdT) (i := 44) rfl)) hS.o rfl rfl (Nat.le_of_ble_eq_true rfl) (Nat.zero_le _) (Nat.zero_le _) (Nat.le_of_ble_eq_true rfl) (fun x72 μ72 h72 => ?_)
                obtain ⟨rfl, hμ⟩ := h72
                subst hμ
                refine C.if_eq 153 dX13_qPartTold_75 rfl (fun hc75 => ?_) (fun hc75 => ?_)
                · have hmm : ¬ (hereW tx e s1.1 s1.2.1 wMin = true ∨ hereW tx e s1.1 s1.2.1 wMax = true) := by
                    have h1 := (bI_0 _).mp hc64
                    have h2 := (bI_0 _).mp hc75
                    rw [h1, h2]
                    decide
                  refine C.iload_n dX13_qPartTold_153 3 rfl ?_
                  refine C.iconst (-1) dX13_qPartTold_154 (by decide) ?_
                  refine C.icmp_eq 181 dX13_qPartTold_155 rfl (fun hc155 => ?_) (fun hc155 => ?_)
                  · have hn : ¬ nearOk tx e tk s1.1 s1.2.1 = true := fun h => by rw [if_pos h] at hc155; exact absurd hc155 (by decide)
                    exact m181 _ _ hmm hc30 hn hQ1
                  · have hn : nearOk tx e tk s1.1 s1.2.1 = true := by
                      by_cases h : nearOk tx e tk s1.1 s1.2.1 = true
                      · exact h
                      · rw [if_neg h] at hc155; exact absurd rfl hc155
                    have ht : pTry tx e tk ((cs, ws, op, bs), s) = (true, ((opn (nI 60) (nI s1.1) ((cs, ws, op, bs), s1)).1, mAsks tx e (opn (nI 60) (nI s1.1) ((cs, ws, op, bs), s1)).2 wNear)) := by
                      unfold pTry
                      dsimp only
                      rw [hs1, if_neg hc30, if_neg hmm, if_pos hn]
                    rw [if_pos hn]
                    refine C.aload_n dX13_qPartTold_158 0 rfl ?_
                    refine C.bipush (nI 60) dX13_qPartTold_159 (by decide) ?_
                    refine C.iload_n dX13_qPartTold_161 3 rfl ?_
                    refine C.iadd dX13_qPartTold_162 ?_
                    refine C.bipush (nI 9) dX13_qPartTold_163 (by decide) ?_
                    refine C.isub dX13_qPartTold_165 ?_
                    rw [show nI 60 + nI 9 - nI 9 = nI 60 from by decide]
                    refine C.aload_n dX13_qPartTold_166 0 rfl ?_
                    refine C.getI fX13_270 dX13_qPartTold_167 hS.o ?_
                    rw [hQ1.2.1.1]
                    refine C.callVV lX13_626 dX13_qPartTold_170 (kq_opens hS1 hQ1 (by dsimp only; omega) _ _) hS.o rfl rfl (Nat.le_of_ble_eq_true rfl) (Nat.zero_le _) (Nat.zero_le _) (Nat.le_of_ble_eq_true rfl) (fun μ170 h170 => ?_)
                    have hS : ShM μ170 := h170.sh hS1
                    refine C.aload_n dX13_qPartTold_173 0 rfl ?_
                    refine C.iload_n dX13_qPartTold_174 3 rfl ?_
                    refine C.callVV lX13_629 dX13_qPartTold_175 (kq_qAsksWord hS1 hW hT h170 (by rw [o160]; exact hp1) (i := 9) (by decide)) hS.o rfl rfl (Nat.le_of_ble_eq_true rfl) (Nat.zero_le _) (Nat.zero_le _) (Nat.le_of_ble_eq_true rfl) (fun μ175 h175 => ?_)
                    refine C.goto 183 dX13_qPartTold_178 rfl ?_
                    refine C.goto 2 dX13_qPartTold_183 rfl ?_
                    first | exact AW.pick [0, 1] rfl (nxt _ _ ht (h40.at (s1.1 + 1)) ol20.1 (by show s1.1 + 1 ≤ e; omega) ol20.2 (fun _ => by show s.1 + 1 ≤ s1.1 + 1; omega)) | exact AW.pick [0, 1] rfl (nxt _ _ ht h175 ol60.1 (mAsks_le _ (by rw [o160]; exact hp1)) ol60.2 (fun hb => by have := mAsks_adv _ wNear (by rw [o160]; exact hp1) (by decide) hb; rw [o160] at this; dsimp only; omega))
                · exact m78 _ _ (Or.inr (tru _ hc75)) hc30 hQ1
            · have hc40 : chr tx e s1.1 = nI 40 := hc30
              have ht : pTry tx e tk ((cs, ws, op, bs), s) = (true, ((opn (nI 20) (nI s1.1) ((cs, ws, op, bs), s1)).1, (s1.1 + 1, (opn (nI 20) (nI s1.1) ((cs, ws, op, bs), s1)).2.2))) := by
                unfold pTry
                dsimp only
                rw [hs1, if_pos hc40]
              have hlt := chr_lt hc40 (by decide)
              refine C.aload_n dX13_qPartTold_33 0 rfl ?_
              refine C.bipush (nI 20) dX13_qPartTold_34 (by decide) ?_
              refine C.aload_n dX13_qPartTold_36 0 rfl ?_
              refine C.getI fX13_270 dX13_qPartTold_37 hS.o ?_
              rw [hQ1.2.1.1]
              refine C.callVV lX13_626 dX13_qPartTold_40 (kq_opens hS1 hQ1 (by dsimp only; omega) _ _) hS.o rfl rfl (Nat.le_of_ble_eq_true rfl) (Nat.zero_le _) (Nat.zero_le _) (Nat.le_of_ble_eq_true rfl) (fun μ40 h40 => ?_)
              have hS : ShM μ40 := h40.sh hS1
              refine C.aload_n dX13_qPartTold_43 0 rfl ?_
              refine C.dup dX13_qPartTold_44 rfl ?_
              refine C.getI fX13_270 dX13_qPartTold_45 hS.o ?_
              refine C.iconst (nI 1) dX13_qPartTold_48 (by decide) ?_
              rw [h40.2.1.1, o120]
              refine C.iadd dX13_qPartTold_49 ?_
              rw [nI_add]
              refine C.putI fX13_270 (Or.inl rfl) dX13_qPartTold_50 hS.o ?_
              refine C.goto 183 dX13_qPartTold_53 rfl ?_
              refine C.goto 2 dX13_qPartTold_183 rfl ?_
              first | exact AW.pick [0, 1] rfl (nxt _ _ ht (h40.at (s1.1 + 1)) ol20.1 (by show s1.1 + 1 ≤ e; omega) ol20.2 (fun _ => by show s.1 + 1 ≤ s1.1 + 1; omega)) | exact AW.pick [0, 1] rfl (nxt _ _ ht h175 ol60.1 (mAsks_le _ (by rw [o160]; exact hp1)) ol60.2 (fun hb => by have := mAsks_adv _ wNear (by rw [o160]; exact hp1) (by decide) hb; rw [o160] at this; dsimp only; omega))
      · rw [if_neg hz, if_neg hz] at hv
        refine C.iload_n dX13_qPartTold_2 1 rfl ?_
        refine C.if_eq 186 dX13_qPartTold_3 rfl (fun hc3 => ?_) (fun hc3 => ?_)
        · exact absurd hc3 (by decide)
        · refine C.aload_n dX13_qPartTold_6 0 rfl ?_
          refine C.getI fX13_264 dX13_qPartTold_7 hS.o ?_
          rw [hbd]
          refine C.if_ne 186 dX13_qPartTold_10 rfl (fun hc10 => ?_) (fun hc10 => ?_)
          · exact AW.pick [0] rfl (fin ((cs, ws, op, bs), s) μ1 hQ (by dsimp only; omega) hB2 hB3 (Or.inr hz) (by rw [if_neg hz]; exact hv))
          · exact absurd (by simpa using hc10) hz
  obtain ⟨b1, b2, b3⟩ := hB
  dsimp only at b1 b2 b3
  refine C.iconst (nI 1) dX13_qPartTold_0 (by decide) ?_
  refine C.istore_n (lv' := [(0, _), (1, _)]) dX13_qPartTold_1 (nLt hX rfl) rfl ?_
  exact loop (e + 2 - s.1) (q, s) μ1 hQ (by dsimp only; omega) (fun _ => b1) b2 b3 (by dsimp only; omega) hK
end KMQ4
