/-! the class: a land is read whole -/
def RlQ (μ : Mm) (tp : List Nat) (L : Nat) (R : Ld × Nat × Ps) (μ' : Mm) : Prop := LnF L μ μ' ∧ RD μ' (txL tp) tp.length R.2.2 ∧ PsOk tp.length R.2.2 ∧ isO μ' L 2 ∧ (R.2.2.2.2.1 = 0 → (∃ f g, LgR μ' L f g R.1) ∧ Wf R.1 ∧ mI μ' L 16 = nI R.2.1 ∧ R.2.1 ≤ 80)
section KRA
variable {l : Launch} {G : Gm} {μ : Mm} {tp : List Nat}
theorem rLoop_bad {tx : Nat → Nat} {e : Nat} (n : Nat) {t : Ld × Nat × Ps} (h : ¬ t.2.2.2.2.1 = 0) : rLoop tx e n t = t := by
  cases n with
  | zero => rfl
  | succ n =>
    unfold rLoop
    rw [if_neg h]
theorem rLoop_s {tx : Nat → Nat} {e : Nat} (n : Nat) (t : Ld × Nat × Ps) : rLoop tx e (n + 1) t = if t.2.2.2.2.1 = 0 then (if sk tx e t.2.2.1 < e then rLoop tx e n (rStat tx e t.1 t.2.1 (mLook tx e t.2.2)) else (t.1, t.2.1, mLook tx e t.2.2)) else t := rfl
theorem PsOk.look {tx : Nat → Nat} {e : Nat} {s : Ps} (h : PsOk e s) : PsOk e (mLook tx e s) := fun z => by
  obtain ⟨h1, h2, h3⟩ := h z
  have h4 := sk_le (tx := tx) h1
  refine ⟨h4.2, ?_, h3⟩
  rcases h2 with q | ⟨m, q1, q2⟩
  · exact Or.inl q
  · exact Or.inr ⟨m, Nat.le_trans q1 h4.1, q2⟩
theorem mLandS_nt {tx : Nat → Nat} {e : Nat} {s : Ps} (he : e ≤ 1600) (hP : PsOk e s) (z : (mLandS tx e s).2.2.2.2.2.1 = 0) : ¬ nI (sk tx e (mLandS tx e s).2.2.2.1) = (mLandS tx e s).2.2.2.2.1 := by
  have hP1 := hP.asks (tx := tx) wLand
  have hP2 := hP1.num' (tx := tx) hP1.le (nI 2) (nI 7)
  have hP3 := hP2.asks (tx := tx) wBy
  have hP4 := hP3.num' (tx := tx) hP3.le (nI 2) (nI 7)
  have hP5 := hP4.asks (tx := tx) wHunt
  unfold mLandS at z ⊢
  dsimp only at z ⊢
  exact nt_sign he (hP5.cell _ _) (by decide) z

theorem kr_read (hC : CsB μ) (hT : CsT μ tp) (np mp : Int32) : AMet l G 40 24 4991 mtX3_read [.ref (G.1 + 7)] μ (qR G.1 (fun r μ' => r = mN μ ∧ RlQ μ tp (mN μ) (rLand (txL tp) tp.length np mp) μ')) := by
  refine AMet.of (by decide) (Nat.le_of_ble_eq_true rfl) (fun X C hX hnm hq => ?_)
  have hS := hC.1
  have hN := hC.2.2
  have he := hT.2.1
  generalize hRR : rLand (txL tp) tp.length np mp = R at hq
  have fin : ∀ (bc bs v : Nat) (μ1 : Mm), RlQ μ tp (mN μ) R μ1 → AW l G X bc bs 84 [(0, .ref (G.1 + 7)), (1, .ref (G.1 + mN μ)), (2, .int (nI v))] [] μ1 := by
    intro bc bs v μ1 hQ
    refine C.aload_n dX3_read_84 1 rfl ?_
    refine C.aret hq dX3_read_85 ?_
    exact ⟨rfl, hQ⟩
  have loop : ∀ (n : Nat) (d : Ld) (st v : Nat) (s : Ps) (bc bs : Nat) (μ1 : Mm), (s.2.2.1 = 0 → tp.length + 1 ≤ n + s.1) → v ≤ 81 → RD μ1 (txL tp) tp.length s → PsOk tp.length s → LnF (mN μ) μ μ1 → isO μ1 (mN μ) 2 → (s.2.2.1 = 0 → (∃ f g, LgR μ1 (mN μ) f g d) ∧ Wf d ∧ v = st ∧ st ≤ 80 ∧ mI μ1 (mN μ) 16 = nI st ∧ ¬ nI (sk (txL tp) tp.length s.1) = s.2.1 ∧ mN μ + 17 < mN μ1 ∧ 2 * kcr d ≤ bc ∧ 1602 * kcr d ≤ bs) → rLoop (txL tp) tp.length n (d, st, s) = R → AW l G X bc bs 14 [(0, .ref (G.1 + 7)), (1, .ref (G.1 + mN μ)), (2, .int (nI v))] [] μ1 := by
    intro n
    induction n with
    | zero =>
      intro d st v s bc bs μ1 h1 h2 h3 h4 h5 h6 h7 h8
      have hb : ¬ s.2.2.1 = 0 := fun z => by have := (h4 z).1; have := h1 z; omega
      rw [rLoop_bad _ hb] at h8
      have hS : ShC μ1 := (h5.b hN hC).1
      have hQ : RlQ μ tp (mN μ) R μ1 := by rw [← h8]; exact ⟨h5, h3, h4, h6, fun z => absurd z hb⟩
      refine C.iload_n dX3_read_14 2 rfl ?_
      refine C.bipush (nI 80) dX3_read_15 (by decide) ?_
      refine C.icmp_gt 84 dX3_read_17 rfl (fun hc17 => ?_) (fun hc17 => ?_)
      · exact fin _ _ _ _ hQ
      · refine C.aload_n dX3_read_20 0 rfl ?_
        refine C.getO fX3_9 dX3_read_21 hS.o7 hS.r7_0 ?_
        refine C.callVI lX3_28 dX3_read_24 (kw_goesOn hS h3) hS.o3 rfl rfl (Nat.le_of_ble_eq_true rfl) (Nat.zero_le _) (Nat.zero_le _) (Nat.le_of_ble_eq_true rfl) (fun x24 μ24 h24 => ?_)
        obtain ⟨z24, hμ⟩ := h24
        subst hμ
        refine C.if_eq 84 dX3_read_27 rfl (fun hc27 => ?_) (fun hc27 => ?_)
        · exact fin _ _ _ _ hQ
        · rw [z24, decide_eq_false hb] at hc27
          exact absurd rfl hc27
    | succ n ih =>
      intro d st v s bc bs μ1 h1 h2 h3 h4 h5 h6 h7 h8
      have hCB : CsB μ1 := h5.b hN hC
      have hS : ShC μ1 := hCB.1
      have hT1 : CsT μ1 tp := h5.t hN hT
      by_cases hb : ¬ s.2.2.1 = 0
      · rw [rLoop_bad _ hb] at h8
        have hQ : RlQ μ tp (mN μ) R μ1 := by rw [← h8]; exact ⟨h5, h3, h4, h6, fun z => absurd z hb⟩
        refine C.iload_n dX3_read_14 2 rfl ?_
        refine C.bipush (nI 80) dX3_read_15 (by decide) ?_
        refine C.icmp_gt 84 dX3_read_17 rfl (fun hc17 => ?_) (fun hc17 => ?_)
        · exact fin _ _ _ _ hQ
        · refine C.aload_n dX3_read_20 0 rfl ?_
          refine C.getO fX3_9 dX3_read_21 hS.o7 hS.r7_0 ?_
          refine C.callVI lX3_28 dX3_read_24 (kw_goesOn hS h3) hS.o3 rfl rfl (Nat.le_of_ble_eq_true rfl) (Nat.zero_le _) (Nat.zero_le _) (Nat.le_of_ble_eq_true rfl) (fun x24 μ24 h24 => ?_)
          obtain ⟨z24, hμ⟩ := h24
          subst hμ
          refine C.if_eq 84 dX3_read_27 rfl (fun hc27 => ?_) (fun hc27 => ?_)
          · exact fin _ _ _ _ hQ
          · rw [z24, decide_eq_false hb] at hc27
            exact absurd rfl hc27
      have hz : s.2.2.1 = 0 := Classical.not_not.mp hb
      obtain ⟨⟨f, g, k1⟩, k2, k3, k4, k5, k6, k7, k8, k9⟩ := h7 hz
      subst k3
      have hs := (h4 hz).1
      have hsk := sk_le (tx := txL tp) hs
      have hfrom : mI μ1 3 4 = nI (sk (txL tp) tp.length s.1) := (h3.1 hz).2.2.1
      rw [rLoop_s, if_pos hz] at h8
      dsimp only at h8
      refine C.iload_n dX3_read_14 2 rfl ?_
      refine C.bipush (nI 80) dX3_read_15 (by decide) ?_
      refine C.icmp_gt 84 dX3_read_17 rfl (fun hc17 => ?_) (fun hc17 => ?_)
      · exact absurd (n_lt hc17) (by omega)
      · refine C.aload_n dX3_read_20 0 rfl ?_
        refine C.getO fX3_9 dX3_read_21 hS.o7 hS.r7_0 ?_
        refine C.callVI lX3_28 dX3_read_24 (kw_goesOn hS h3) hS.o3 rfl rfl (Nat.le_of_ble_eq_true rfl) (Nat.zero_le _) (Nat.zero_le _) (Nat.le_of_ble_eq_true rfl) (fun x24 μ24 h24 => ?_)
        obtain ⟨z24, hμ⟩ := h24
        subst hμ
        rw [z24, decide_eq_true hz, Bool.true_and]
        refine C.if_eq 84 dX3_read_27 rfl (fun hc27 => ?_) (fun hc27 => ?_)
        · have hge : ¬ sk (txL tp) tp.length s.1 < tp.length := of_decide_eq_false ((bI_0 _).mp hc27)
          rw [if_neg hge] at h8
          refine fin _ _ _ _ ?_
          rw [← h8]
          exact ⟨h5, h3.look hs, h4.look, h6, fun _ => ⟨⟨f, g, k1⟩, k2, k5, k4⟩⟩
        · have hlt : sk (txL tp) tp.length s.1 < tp.length := of_decide_eq_true (b_t hc27)
          rw [if_pos hlt] at h8
          unfold rStat at h8
          refine C.iload_n dX3_read_30 2 rfl ?_
          refine C.bipush (nI 80) dX3_read_31 (by decide) ?_
          refine C.icmp_ne 54 dX3_read_33 rfl (fun hc33 => ?_) (fun hc33 => ?_)
          · have hv80 : ¬ v = 80 := n_ne hc33
            have qle := qSt_le d (wdO (txL tp) tp.length s)
            rw [if_neg hv80] at h8
            refine C.aload_n dX3_read_54 0 rfl ?_
            refine C.aload_n dX3_read_55 1 rfl ?_
            refine C.callVV lX3_40 dX3_read_56 (kr_readStatement hCB hT1 h3 h4 k1 k2 k7 hz hlt k6 rfl) hS.o7 rfl rfl (Nat.le_of_ble_eq_true rfl) (by omega) (by omega) (Nat.le_of_ble_eq_true rfl) (fun μ56 h56 => ?_)
            obtain ⟨f', g', s', a1, a2, a3, a4, a5, a6, a7⟩ := h56
            have hCB := a4.b hN hCB
            have hS := hCB.1
            have hT1 := a4.t hN hT1
            have rle := rBody_le (tx := txL tp) (e := tp.length) (d := d) (s := mLook (txL tp) tp.length s) he hz hsk.2
            have rkp := rBody_kp (tx := txL tp) (e := tp.length) (s := s) (d := d) he hz hs k2
            generalize rBody (txL tp) tp.length d (mLook (txL tp) tp.length s) = r at *
            refine C.aload_n dX3_read_59 0 rfl ?_
            refine C.getO fX3_9 dX3_read_60 hS.o7 hS.r7_0 ?_
            refine C.bipush (nI 59) dX3_read_63 (by decide) ?_
            refine C.callVV lX3_44 dX3_read_65 (kw_needSign hS hT1 a1 a2 (c := 59) (by omega) (by decide) (by decide)) hS.o3 rfl rfl (Nat.le_of_ble_eq_true rfl) (Nat.zero_le _) (Nat.zero_le _) (Nat.le_of_ble_eq_true rfl) (fun μ65 h65 => ?_)
            obtain ⟨r65, q65⟩ := h65
            have h6 : isO μ65 (mN μ) 2 := a5.grw (Grw.of (by rw [q65.1]))
            have hfr : LnF (mN μ) μ (sI μ65 (mN μ) 16 (mI μ65 (mN μ) 16 + nI 1)) := ((h5.trans a4).trans (LnF.q _ q65)).trans (LnF.w (fun a k ha => by rw [mI_sI, if_neg (by omega)]) (fun a k _ => rfl) rfl)
            have hrr : RD μ65 (txL tp) tp.length (mAskSign (txL tp) tp.length r.2 (nI 59)) := by
              by_cases z : r.2.2.2.1 = 0
              · rw [← ask_eq a3 z rle.2]
                exact r65
              · have zb : ¬ s'.2.2.1 = 0 := by rw [a3.1]; exact z
                rw [askS_b zb] at r65
                rw [askS_b z]
                exact r65.bad zb a3.1.symm a3.2.1.symm
            have hpp : PsOk tp.length (mAskSign (txL tp) tp.length r.2 (nI 59)) := by
              by_cases z : r.2.2.2.1 = 0
              · rw [← ask_eq a3 z rle.2]
                exact a2.ask hT1.by (by omega) (by decide) (by decide)
              · rw [askS_b z]
                exact PsOk.bad z
            have nxt : ∀ bc' bs', bc - 2 * qSt d (wdO (txL tp) tp.length s) ≤ bc' → bs - 1602 * qSt d (wdO (txL tp) tp.length s) ≤ bs' → AW l G X bc' bs' 14 [(0, .ref (G.1 + 7)), (1, .ref (G.1 + mN μ)), (2, .int (nI v + Int32.ofInt 1))] [] (sI μ65 (mN μ) 16 (mI μ65 (mN μ) 16 + nI 1)) := by
              intro bc' bs' hbc hbs
              rw [show nI v + Int32.ofInt 1 = nI (v + 1) from nI_1 v]
              refine ih r.1 (v + 1) (v + 1) (mAskSign (txL tp) tp.length r.2 (nI 59)) bc' bs' _ (fun z => ?_) (by omega) (hrr.ph (fun k => by rw [mI_sI, if_neg (by omega)])) hpp hfr h6 (fun z => ?_) h8
              · have := mAskSign_adv r.2 (nI 59) rle.2 z
                have := h1 hz
                have := rle.1
                have : (mLook (txL tp) tp.length s).1 = sk (txL tp) tp.length s.1 := rfl
                omega
              · have zr := mAskSign_bad _ _ z
                obtain ⟨w1, w2⟩ := rkp zr
                refine ⟨⟨f', g', (q65.lg (a7 zr)).st16 _⟩, w1, rfl, by omega, ?_, ?_, ?_, by omega, by omega⟩
                · rw [mI_sI, if_pos ⟨rfl, rfl⟩, q65.2 _ _ (by omega), a6, k5, nI_add]
                · rw [← ask_eq a3 zr rle.2] at z ⊢
                  exact nt_sign he a2 (by decide) z
                · have w3 := a4.1.1
                  have w4 : mN μ65 = mN μ56 := by unfold mN; rw [q65.1]
                  show mN μ + 17 < mN μ65
                  omega
            refine C.aload_n dX3_read_68 1 rfl ?_
            refine C.dup dX3_read_69 rfl ?_
            refine C.getI fX3_48 dX3_read_70 h6 ?_
            refine C.iconst (nI 1) dX3_read_73 (by decide) ?_
            refine C.iadd dX3_read_74 ?_
            refine C.putI fX3_48 (Or.inl rfl) dX3_read_75 h6 ?_
            refine C.iinc (lv' := [(0, _), (1, _), (2, _)]) _ dX3_read_78 2 rfl rfl (nLt hX rfl) rfl ?_
            refine C.goto 14 dX3_read_81 rfl ?_
            first
            | (have hgo := ih d v (v + 1) (mFail (mLook (txL tp) tp.length s) (nI 5) (nI (mLook (txL tp) tp.length s).1)) bc bs μ48 (fun z => absurd z (mFail_0 _ _ _ (by decide))) (by omega) (h48.1.bad (mFail_0 _ _ _ (by decide)) (by rw [mFail_z hz, mFail_z (s := mLook (txL tp) tp.length s) hz]) (by rw [mFail_z hz, mFail_z (s := mLook (txL tp) tp.length s) hz]; rfl)) (PsOk.bad (mFail_0 _ _ _ (by decide))) (h5.trans (LnF.q _ h48.2)) (h6.grw (Grw.of (by rw [h48.2.1]))) (fun z => absurd z (mFail_0 _ _ _ (by decide))) h8
               rw [← nI_1] at hgo
               exact hgo)
            | exact nxt _ _ (by omega) (by omega)
          · have hv80 : v = 80 := n_eq hc33 (by omega) (by omega)
            rw [if_pos hv80] at h8
            refine C.aload_n dX3_read_36 0 rfl ?_
            refine C.getO fX3_9 dX3_read_37 hS.o7 hS.r7_0 ?_
            refine C.iconst (nI 5) dX3_read_40 (by decide) ?_
            refine C.aload_n dX3_read_41 0 rfl ?_
            refine C.getO fX3_9 dX3_read_42 hS.o7 hS.r7_0 ?_
            refine C.getI fX3_32 dX3_read_45 hS.o3 ?_
            rw [hfrom]
            refine C.callVV lX3_36 dX3_read_48 (kw_fail hS h3 (by decide)) hS.o3 rfl rfl (Nat.le_of_ble_eq_true rfl) (Nat.zero_le _) (Nat.zero_le _) (Nat.le_of_ble_eq_true rfl) (fun μ48 h48 => ?_)
            refine C.goto 78 dX3_read_51 rfl ?_
            refine C.iinc (lv' := [(0, _), (1, _), (2, _)]) _ dX3_read_78 2 rfl rfl (nLt hX rfl) rfl ?_
            refine C.goto 14 dX3_read_81 rfl ?_
            first
            | (have hgo := ih d v (v + 1) (mFail (mLook (txL tp) tp.length s) (nI 5) (nI (mLook (txL tp) tp.length s).1)) bc bs μ48 (fun z => absurd z (mFail_0 _ _ _ (by decide))) (by omega) (h48.1.bad (mFail_0 _ _ _ (by decide)) (by rw [mFail_z hz, mFail_z (s := mLook (txL tp) tp.length s) hz]) (by rw [mFail_z hz, mFail_z (s := mLook (txL tp) tp.length s) hz]; rfl)) (PsOk.bad (mFail_0 _ _ _ (by decide))) (h5.trans (LnF.q _ h48.2)) (h6.grw (Grw.of (by rw [h48.2.1]))) (fun z => absurd z (mFail_0 _ _ _ (by decide))) h8
               rw [← nI_1] at hgo
               exact hgo)
            | exact nxt _ _ (by omega) (by omega)
  refine C.aload_n dX3_read_0 0 rfl ?_
  refine C.getO fX3_9 dX3_read_1 hS.o7 hS.r7_0 ?_
  refine C.callVV lX3_19 dX3_read_4 (kw_start hS hT (s := (0, -1, 0, -1, np, mp)) rfl rfl rfl) hS.o3 rfl rfl (Nat.le_of_ble_eq_true rfl) (Nat.zero_le _) (Nat.zero_le _) (Nat.le_of_ble_eq_true rfl) (fun μ4 h4 => ?_)
  obtain ⟨r4, q4⟩ := h4
  have hS := q4.sh hS
  have hC4 := (LnF.q 259 q4).b (by omega) hC
  have n4 : mN μ4 = mN μ := by unfold mN; rw [q4.1]
  refine C.aload_n dX3_read_7 0 rfl ?_
  refine C.callVR lX3_24 dX3_read_8 (kr_readGround hC4 (q4.t hT) r4 (fun _ => ⟨Nat.zero_le _, Or.inl rfl, rfl⟩)) hS.o7 rfl rfl (Nat.le_of_ble_eq_true rfl) (by omega) (by omega) (Nat.le_of_ble_eq_true rfl) (fun x8 μ8 h8 => ?_)
  obtain ⟨rfl, g1, g2, g3, g4, g5, g6, g7⟩ := h8
  rw [n4] at g3 g4 g5 g6 g7 ⊢
  refine C.astore_n (lv' := [(0, _), (1, _)]) dX3_read_11 (nLt hX rfl) rfl ?_
  refine C.iconst (nI 1) dX3_read_12 (by decide) ?_
  refine C.istore_n (lv' := [(0, _), (1, _), (2, _)]) dX3_read_13 (nLt hX rfl) rfl ?_
  have hnt := mLandS_nt (tx := txL tp) (s := (0, -1, 0, -1, np, mp)) he (fun _ => ⟨Nat.zero_le _, Or.inl rfl, rfl⟩)
  have hRL : rLoop (txL tp) tp.length (tp.length + 2) (dZ (nn (mLandS (txL tp) tp.length (0, -1, 0, -1, np, mp)).1) (nn (mLandS (txL tp) tp.length (0, -1, 0, -1, np, mp)).2.1) (nn (mLandS (txL tp) tp.length (0, -1, 0, -1, np, mp)).2.2.1), 1, (mLandS (txL tp) tp.length (0, -1, 0, -1, np, mp)).2.2.2) = R := hRR
  generalize mLandS (txL tp) tp.length (0, -1, 0, -1, np, mp) = ML at *
  refine loop (tp.length + 2) (dZ (nn ML.1) (nn ML.2.1) (nn ML.2.2.1)) 1 1 ML.2.2.2 _ _ _ (fun z => by omega) (by omega) g1 g2 ((LnF.q _ q4).trans g3) g4 (fun z => ?_) hRL
  obtain ⟨w1, w2⟩ := g7 z
  exact ⟨⟨_, _, w1⟩, w2, rfl, by omega, g5, hnt z, by rw [g6]; omega, by show 2 * 3 ≤ _; omega, by show 1602 * 3 ≤ _; omega⟩
end KRA
