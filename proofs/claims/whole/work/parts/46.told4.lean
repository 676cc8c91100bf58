/-! the reference: chapels, codes -/

def cdk (f : Nat → Int32) (n : Nat) (v : Int32) : Bool := (List.range n).any (fun i => decide (f i = v))
theorem cdk_s (f : Nat → Int32) (n : Nat) (v : Int32) : cdk f (n + 1) v = (cdk f n v || decide (f n = v)) := by
  unfold cdk
  rw [List.range_succ, List.any_append]
  simp
def mBadN (s : Ps) (b : Bool) : Ps := if b then mFail s (nI 2) s.2.2.2.2.1 else s
theorem mBadN_10 (s : Ps) (b : Bool) : (mBadN s b).2.2.2.2.1 = s.2.2.2.2.1 := by unfold mBadN mFail; cases b <;> simp <;> split <;> rfl
theorem mBadN_s (s : Ps) (b c : Bool) : (if (mBadN s b).2.2.1 = 0 ∧ c = true then mFail (mBadN s b) (nI 2) s.2.2.2.2.1 else mBadN s b) = mBadN s (b || c) := by
  unfold mBadN mFail
  have h3 : ¬ (nI 2 = 0) := by decide
  by_cases h : s.2.2.1 = 0 <;> cases b <;> cases c <;> simp [h, h3]
theorem mBadN_1 (s : Ps) (b : Bool) : (mBadN s b).1 = s.1 := by unfold mBadN; cases b <;> simp [mFail_1]
/-- chapelTold -/
def mChapM (tx : Nat → Nat) (e : Nat) (μ : Mm) (s : Ps) (begun : Int32) (nc : Nat) : Mm :=
  let s1 := mFull s (nI nc) (nI 10) begun
  let r := mCell tx e s1 (mI μ 215 0) (mI μ 215 1)
  let s3 := mBadN r.2 (cdk (mI μ 218) nc r.1 || decide (r.1 = mI μ 215 2))
  if s1.2.2.1 = 0 then (if s3.2.2.1 = 0 then pw (sI (sI μ 218 nc r.1) 216 2 (nI (nc + 1))) s3 else pw μ s3) else pw μ s1
section KM8
variable {l : Launch} {G : Gm} {μ : Mm} {tx : Nat → Nat} {e : Nat}
theorem kp_chapelTold (hS : ShM μ) (hT : TxM μ tx e) {s : Ps} (hp : s.1 ≤ e) {nc : Nat} (hnc : mI μ 216 2 = nI nc) (hc10 : nc ≤ 10) (begun : Int32) : AMet l G 3 0 0 mtX13_chapelTold [.ref (G.1 + 179), .int begun] (pw μ s) (qV (fun μ' => μ' = mChapM tx e μ s begun nc)) := by
  refine AMet.of (by decide) (Nat.le_of_ble_eq_true rfl) (fun X C hX hnm hq => ?_)
  have hS1 := hS
  have hS : ShM (pw μ s) := hS1.pw _
  have q0 : (mFull s (nI nc) (nI 10) begun).1 ≤ e := by rw [mFull_1]; exact hp
  generalize hs1 : mFull s (nI nc) (nI 10) begun = s1 at q0
  have p1 := mCell_le (tx := tx) (mI μ 215 0) (mI μ 215 1) q0
  generalize hr : mCell tx e s1 (mI μ 215 0) (mI μ 215 1) = r at p1
  have hltc : s1.2.2.1 = 0 → nc < 10 := fun h => by
    rcases Nat.lt_or_ge nc 10 with q | q
    · exact q
    · exfalso
      have hn5 : nc = 10 := by omega
      rw [← hs1] at h
      unfold mFull mFail at h
      by_cases h0 : s.2.2.1 = 0
      · rw [if_pos ⟨h0, by rw [hn5]⟩, if_pos h0] at h
        exact absurd h (by decide : ¬ nI 5 = 0)
      · rw [if_neg (fun z => h0 z.1)] at h
        exact h0 h
  have r216 : ∀ s : Ps, mI (pw μ s) 216 2 = nI nc := fun s => by rw [pw_off _ _ (Or.inl (by decide))]; exact hnc
  have r218 : ∀ (s : Ps) (k : Nat), mI (pw μ s) 218 k = mI μ 218 k := fun s k => pw_off _ _ (Or.inl (by decide))
  have r215 : ∀ (s : Ps) (k : Nat), mI (pw μ s) 215 k = mI μ 215 k := fun s k => pw_off _ _ (Or.inl (by decide))
  have fin : ∀ (x3 : Int32) (s3 : Ps), s1.2.2.1 = 0 → s3 = mBadN r.2 (cdk (mI μ 218) nc r.1 || decide (r.1 = mI μ 215 2)) → AW l G X 0 0 87 [(0, .ref (G.1 + 179)), (1, .int begun), (2, .int r.1), (3, .int x3)] [] (pw μ s3) := by
    intro x3 s3 hbd h3
    have hlt := hltc hbd
    have hS : ShM (pw μ s3) := hS1.pw _
    refine C.aload_n dX13_chapelTold_87 0 rfl ?_
    refine C.getI fX13_264 dX13_chapelTold_88 hS.o ?_
    rw [pw_5]
    refine C.if_eq 95 dX13_chapelTold_91 rfl (fun hc91 => ?_) (fun hc91 => ?_)
    · refine C.aload_n dX13_chapelTold_95 0 rfl ?_
      refine C.getA fX13_130 dX13_chapelTold_96 hS.o hS.r48 ?_
      refine C.aload_n dX13_chapelTold_99 0 rfl ?_
      refine C.getA fX13_123 dX13_chapelTold_100 hS.o hS.r46 ?_
      refine C.iconst (nI 2) dX13_chapelTold_103 (by decide) ?_
      refine C.iald hS.a46 (n_in (by decide)) dX13_chapelTold_104 ?_
      rw [n_cl, r216]
      refine C.iload_n dX13_chapelTold_105 2 rfl ?_
      refine C.iast hS.a48 (n_in (by omega)) dX13_chapelTold_106 ?_
      rw [n_cl, pw_a _ _ (by decide)]
      refine C.aload_n dX13_chapelTold_107 0 rfl ?_
      refine C.getA fX13_123 dX13_chapelTold_108 hS.o hS.r46 ?_
      refine C.iconst (nI 2) dX13_chapelTold_111 (by decide) ?_
      refine C.dup2 dX13_chapelTold_112 rfl rfl ?_
      refine C.iald hS.a46 (n_in (by decide)) dX13_chapelTold_113 ?_
      rw [n_cl, show mI (pw (sI μ 218 nc r.1) s3) 216 2 = nI nc by rw [pw_off _ _ (Or.inl (by decide))]; exact hnc]
      refine C.iconst (nI 1) dX13_chapelTold_114 (by decide) ?_
      refine C.iadd dX13_chapelTold_115 ?_
      rw [nI_add]
      refine C.iast hS.a46 (n_in (by decide)) dX13_chapelTold_116 ?_
      rw [n_cl, pw_a _ _ (by decide)]
      refine C.vret hq dX13_chapelTold_117 ?_
      unfold mChapM
      simp only [hs1, hr, ← h3]
      rw [if_pos hbd, if_pos hc91]
    · refine C.vret hq dX13_chapelTold_94 ?_
      unfold mChapM
      simp only [hs1, hr, ← h3]
      rw [if_pos hbd, if_neg hc91]
  have loop : s1.2.2.1 = 0 → ∀ (n k : Nat), nc - k < n → k ≤ nc → AW l G X 0 0 19 [(0, .ref (G.1 + 179)), (1, .int begun), (2, .int r.1), (3, .int (nI k))] [] (pw μ (mBadN r.2 (cdk (mI μ 218) k r.1))) := by
    intro hbd n
    have hlt := hltc hbd
    induction n with
    | zero => intro k h; omega
    | succ n ih =>
      intro k hn hk
      generalize hsk : mBadN r.2 (cdk (mI μ 218) k r.1) = s2
      have hS : ShM (pw μ s2) := hS1.pw _
      have h10 : s2.2.2.2.2.1 = r.2.2.2.2.2.1 := by rw [← hsk, mBadN_10]
      have nxt : ∀ s3 : Ps, s3 = (if s2.2.2.1 = 0 ∧ decide (mI μ 218 k = r.1) = true then mFail s2 (nI 2) s2.2.2.2.2.1 else s2) → k < nc → AW l G X 0 0 55 [(0, .ref (G.1 + 179)), (1, .int begun), (2, .int r.1), (3, .int (nI k))] [] (pw μ s3) := by
        intro s3 h3 hlt
        have e1 : s3 = mBadN r.2 (cdk (mI μ 218) (k + 1) r.1) := by
          rw [h3, h10, ← hsk, mBadN_s, cdk_s]
        rw [e1]
        refine C.iinc (lv' := [(0, _), (1, _), (2, _), (3, _)]) _ dX13_chapelTold_55 3 rfl rfl (nLt hX rfl) rfl ?_
        refine C.goto 19 dX13_chapelTold_58 rfl ?_
        have := ih (k + 1) (by omega) (by omega)
        rw [← nI_1] at this
        exact this
      have lst : k = nc → AW l G X 0 0 61 [(0, .ref (G.1 + 179)), (1, .int begun), (2, .int r.1), (3, .int (nI k))] [] (pw μ s2) := by
        intro hkc
        subst hkc
        have f2 : ∀ s3 : Ps, s3 = (if s2.2.2.1 = 0 ∧ decide (r.1 = mI μ 215 2) = true then mFail s2 (nI 2) s2.2.2.2.2.1 else s2) → AW l G X 0 0 87 [(0, .ref (G.1 + 179)), (1, .int begun), (2, .int r.1), (3, .int (nI k))] [] (pw μ s3) := by
          intro s3 h3
          exact fin _ s3 hbd (by rw [h3, h10, ← hsk, mBadN_s])
        refine C.aload_n dX13_chapelTold_61 0 rfl ?_
        refine C.getI fX13_264 dX13_chapelTold_62 hS.o ?_
        rw [pw_5]
        refine C.if_ne 87 dX13_chapelTold_65 rfl (fun hc65 => ?_) (fun hc65 => ?_)
        · exact f2 s2 (by rw [if_neg (fun h => hc65 h.1)])
        · refine C.iload_n dX13_chapelTold_68 2 rfl ?_
          refine C.aload_n dX13_chapelTold_69 0 rfl ?_
          refine C.getA fX13_120 dX13_chapelTold_70 hS.o hS.r45 ?_
          refine C.iconst (nI 2) dX13_chapelTold_73 (by decide) ?_
          refine C.iald hS.a45 (n_in (by decide)) dX13_chapelTold_74 ?_
          rw [n_cl, r215]
          refine C.icmp_ne 87 dX13_chapelTold_75 rfl (fun hc75 => ?_) (fun hc75 => ?_)
          · exact f2 s2 (by rw [if_neg (fun h => hc75 (of_decide_eq_true h.2))])
          · refine C.aload_n dX13_chapelTold_78 0 rfl ?_
            refine C.iconst (nI 2) dX13_chapelTold_79 (by decide) ?_
            refine C.aload_n dX13_chapelTold_80 0 rfl ?_
            refine C.getI fX13_304 dX13_chapelTold_81 hS.o ?_
            rw [pw_10]
            refine C.callVV lX13_294 dX13_chapelTold_84 (kp_fail hS1 _ _ _) hS.o rfl rfl (Nat.le_of_ble_eq_true rfl) (Nat.zero_le _) (Nat.zero_le _) (Nat.le_of_ble_eq_true rfl) (fun μ84 h84 => ?_)
            subst h84
            exact f2 _ (by rw [if_pos ⟨hc65, decide_eq_true hc75⟩])
      refine C.iload_n dX13_chapelTold_19 3 rfl ?_
      refine C.aload_n dX13_chapelTold_20 0 rfl ?_
      refine C.getA fX13_123 dX13_chapelTold_21 hS.o hS.r46 ?_
      refine C.iconst (nI 2) dX13_chapelTold_24 (by decide) ?_
      refine C.iald hS.a46 (n_in (by decide)) dX13_chapelTold_25 ?_
      rw [n_cl, r216]
      refine C.icmp_ge 61 dX13_chapelTold_26 rfl (fun hc26 => ?_) (fun hc26 => ?_)
      · have hge := n_le hc26
        exact lst (by omega)
      · have hlt2 := n_nle hc26
        refine C.aload_n dX13_chapelTold_29 0 rfl ?_
        refine C.getI fX13_264 dX13_chapelTold_30 hS.o ?_
        rw [pw_5]
        refine C.if_ne 55 dX13_chapelTold_33 rfl (fun hc33 => ?_) (fun hc33 => ?_)
        · exact nxt s2 (by rw [if_neg (fun h => hc33 h.1)]) hlt2
        · refine C.aload_n dX13_chapelTold_36 0 rfl ?_
          refine C.getA fX13_130 dX13_chapelTold_37 hS.o hS.r48 ?_
          refine C.iload_n dX13_chapelTold_40 3 rfl ?_
          refine C.iald hS.a48 (n_in (by omega)) dX13_chapelTold_41 ?_
          rw [n_cl, r218]
          refine C.iload_n dX13_chapelTold_42 2 rfl ?_
          refine C.icmp_ne 55 dX13_chapelTold_43 rfl (fun hc43 => ?_) (fun hc43 => ?_)
          · exact nxt s2 (by rw [if_neg (fun h => hc43 (of_decide_eq_true h.2))]) hlt2
          · refine C.aload_n dX13_chapelTold_46 0 rfl ?_
            refine C.iconst (nI 2) dX13_chapelTold_47 (by decide) ?_
            refine C.aload_n dX13_chapelTold_48 0 rfl ?_
            refine C.getI fX13_304 dX13_chapelTold_49 hS.o ?_
            rw [pw_10]
            refine C.callVV lX13_294 dX13_chapelTold_52 (kp_fail hS1 _ _ _) hS.o rfl rfl (Nat.le_of_ble_eq_true rfl) (Nat.zero_le _) (Nat.zero_le _) (Nat.le_of_ble_eq_true rfl) (fun μ52 h52 => ?_)
            subst h52
            exact nxt _ (by rw [if_pos ⟨hc33, decide_eq_true hc43⟩]) hlt2
  refine C.aload_n dX13_chapelTold_0 0 rfl ?_
  refine C.iconst (nI 2) dX13_chapelTold_1 (by decide) ?_
  refine C.bipush (nI 10) dX13_chapelTold_2 (by decide) ?_
  refine C.iload_n dX13_chapelTold_4 1 rfl ?_
  refine C.callVI lX13_348 dX13_chapelTold_5 (kp_isFull hS1 s (k := 2) (by decide) _ _) hS.o rfl rfl (Nat.le_of_ble_eq_true rfl) (Nat.zero_le _) (Nat.zero_le _) (Nat.le_of_ble_eq_true rfl) (fun x5 μ5 h5 => ?_)
  obtain ⟨rfl, rfl⟩ := h5
  rw [hnc, hs1]
  refine C.if_eq 12 dX13_chapelTold_8 rfl (fun hc8 => ?_) (fun hc8 => ?_)
  · have hbd : s1.2.2.1 = 0 := by by_cases h : s1.2.2.1 = 0; exact h; rw [if_neg h] at hc8; exact absurd hc8 (by decide)
    refine C.aload_n dX13_chapelTold_12 0 rfl ?_
    refine C.callVI lX13_341 dX13_chapelTold_13 (kp_cellTold hS1 hT q0) hS.o rfl rfl (Nat.le_of_ble_eq_true rfl) (Nat.zero_le _) (Nat.zero_le _) (Nat.le_of_ble_eq_true rfl) (fun x13 μ13 h13 => ?_)
    obtain ⟨rfl, rfl⟩ := h13
    rw [hr]
    refine C.istore_n (lv' := [(0, _), (1, _), (2, _)]) dX13_chapelTold_16 (nLt hX rfl) rfl ?_
    refine C.iconst (nI 0) dX13_chapelTold_17 (by decide) ?_
    refine C.istore_n (lv' := [(0, _), (1, _), (2, _), (3, _)]) dX13_chapelTold_18 (nLt hX rfl) rfl ?_
    exact loop hbd (nc + 1) 0 (by omega) (by omega)
  · have hbd : ¬ s1.2.2.1 = 0 := fun h => hc8 (by rw [if_pos h]; rfl)
    refine C.vret hq dX13_chapelTold_11 ?_
    unfold mChapM
    simp only [hs1]
    rw [if_neg hbd]
end KM8
/-- what codesTold may touch beside the reading's fields -/
def t0 (s : Ps) : Tt := (([], [], nI 0, 0), s)
def rdCode (tx : Nat → Nat) (e : Nat) (w : Nat) (s : Ps) : Tt := if w = 2 then tTest tx e (nI 1) (t0 s) else sSums tx e (if w = 0 then nI 0 else nI 1) (t0 s)
/-- a memory with its reading's fields, all else but rows for codes as before -/
def CF (μ μ' : Mm) (s : Ps) : Prop := μ'.2 = μ.2 ∧ (∀ a k, a ≠ 179 → a ≠ 255 → a ≠ 256 → a ≠ 222 → a ≠ 223 → a ≠ 224 → mI μ' a k = mI μ a k) ∧ (∀ k, k ≠ 2 → k ≠ 4 → k ≠ 5 → k ≠ 6 → k ≠ 10 → k ≠ 44 → k ≠ 102 → k ≠ 104 → k ≠ 105 → k ≠ 106 → k ≠ 58 → k ≠ 55 → mI μ' 179 k = mI μ 179 k) ∧ (mI μ' 179 2 = nI s.1 ∧ mI μ' 179 4 = s.2.1 ∧ mI μ' 179 5 = s.2.2.1 ∧ mI μ' 179 6 = s.2.2.2.1 ∧ mI μ' 179 10 = s.2.2.2.2.1 ∧ mI μ' 179 44 = s.2.2.2.2.2)
section KM9
variable {l : Launch} {G : Gm} {μ : Mm} {tx : Nat → Nat} {e : Nat}
theorem tTest_iv {tk : Int32} {k : Nat} {t : Tt} (he : e ≤ 1600) (h : IV e k t) : IW e k (tTest tx e tk t) ∧ ST e t (tTest tx e tk t) := by
  obtain ⟨a1, a2, a3, a4⟩ := tLoop_iv (tx := tx) (tk := tk) he (e + 2 - t.2.1) t h.w
  unfold tTest
  dsimp only
  generalize tLoop tx e tk (e + 2 - t.2.1) t = u at a1 a2 a3 a4 ⊢
  split
  · have := qAllD_len u.1.2.1 u.1.1 0
    exact ⟨⟨a1.1, a1.2.1, by have := a1.2.2.1; dsimp only [tln] at this ⊢; omega, fun hb => by have := a1.2.2.2 hb; dsimp only [tln] at this ⊢; omega⟩, ⟨a1.1, a3, a4⟩⟩
  · exact ⟨a1, a2, a3, a4⟩
theorem t0_iv {s : Ps} (hp : s.1 ≤ e) : IV e s.1 (t0 s) := ⟨hp, by show 0 < 1700; omega, by show 0 + 0 ≤ e + 2; omega, fun _ => by show 0 + 0 + s.1 ≤ s.1; omega⟩
theorem rdCode_iv {w : Nat} {s : Ps} (he : e ≤ 1600) (hz : s.2.2.1 = 0) (hp : s.1 ≤ e) : IW e s.1 (rdCode tx e w s) ∧ s.1 ≤ (rdCode tx e w s).2.1 := by
  unfold rdCode
  split
  · obtain ⟨a1, a2, a3, a4⟩ := tTest_iv (tx := tx) (tk := nI 1) he (t0_iv hp)
    exact ⟨a1, a4⟩
  · obtain ⟨a1, ⟨a2, a3, a4⟩, a5⟩ := sSums_iv (tx := tx) (tk := if w = 0 then nI 0 else nI 1) (t := t0 s) he hz (t0_iv hp)
    exact ⟨a1.w, a4⟩
end KM9
