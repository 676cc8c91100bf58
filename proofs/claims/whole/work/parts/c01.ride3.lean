/-! the class: hours of a ride: where it was, whom it meets -/
def packT (x : Wk) : Nat := x.1 * 256 + x.2.1 * 16 + x.2.2.1 * 2 + x.2.2.2
/-- a State at cell b tells S -/
def CsN (μ : Mm) (b : Nat) (S : St) : Prop := (mI μ b 5 = nI S.1.1 ∧ mI μ b 6 = nI S.1.2) ∧ (∀ i x, S.2.1[i]? = some x → i < 6 ∧ mI μ (b + 1) i = nI x.1 ∧ mI μ (b + 2) i = nI x.2.1 ∧ mI μ (b + 3) i = nI x.2.2.1 ∧ mI μ (b + 4) i = nI x.2.2.2) ∧ (∀ i, S.2.1.length ≤ i → i < 6 → mI μ (b + 3) i = nI 0 ∧ mI μ (b + 4) i = nI 0) ∧ ∃ f, f < 40 ∧ mI μ b 7 = nI f ∧ mI μ b 8 = nI S.2.2.length ∧ S.2.2.length ≤ 40 ∧ ∀ i x, S.2.2[i]? = some x → mI μ (b + 5) ((f + i) % 40) = nI (packT x)
theorem CsN.of {μ μ' : Mm} {b : Nat} {S : St} (h : CsN μ b S) (e : ∀ a k, b ≤ a → a ≤ b + 5 → mI μ' a k = mI μ a k) : CsN μ' b S := by
  obtain ⟨⟨h1, h2⟩, h3, h4, f, h5, h6, h7, h8, h9⟩ := h
  refine ⟨⟨by rw [e _ _ (by omega) (by omega)]; exact h1, by rw [e _ _ (by omega) (by omega)]; exact h2⟩, fun i x q => ?_, fun i q q2 => ?_, f, h5, by rw [e _ _ (by omega) (by omega)]; exact h6, by rw [e _ _ (by omega) (by omega)]; exact h7, h8, fun i x q => by rw [e _ _ (by omega) (by omega)]; exact h9 i x q⟩
  · rw [e _ _ (by omega) (by omega), e _ _ (by omega) (by omega), e _ _ (by omega) (by omega), e _ _ (by omega) (by omega)]
    exact h3 i x q
  · rw [e _ _ (by omega) (by omega), e _ _ (by omega) (by omega)]
    exact h4 i q q2
theorem CsN.wk {μ : Mm} {b : Nat} {S : St} (h : CsN μ b S) {w : Nat} (hw : w < S.2.1.length) : w < 6 ∧ mI μ (b + 1) w = nI (wkS S w).1 ∧ mI μ (b + 2) w = nI (wkS S w).2.1 ∧ mI μ (b + 3) w = nI (wkS S w).2.2.1 ∧ mI μ (b + 4) w = nI (wkS S w).2.2.2 := h.2.1 w _ (wkS_q hw)
section WKO
variable {d : Ld}
theorem wkX_w (hW : Wf d) {w : Nat} (hw : w < d.2.2.2.1.length) : ∀ h, wkX d w h < d.1.1
  | 0 => (hW.walkF hw).1
  | h + 1 => nrF_lt (wkX_w hW hw h) (hW.walkT hw).1
theorem wkY_h (hW : Wf d) {w : Nat} (hw : w < d.2.2.2.1.length) : ∀ h, wkY d w h < d.1.2.1
  | 0 => (hW.walkF hw).2
  | h + 1 => nrF_lt (wkY_h hW hw h) (hW.walkT hw).2
theorem wk_ok (hW : Wf d) {w : Nat} (hw : w < d.2.2.2.1.length) (h : Nat) : clOk d (wkC d w h) := clOk_xy (wkX_w hW hw h) (wkY_h hW hw h) hW.w7.2
theorem fsF_cong {f g : Nat → Bool} : ∀ n k, (∀ j, k ≤ j → j < k + n → f j = g j) → fsF f n k = fsF g n k
  | 0, _, _ => rfl
  | n + 1, k, h => by
    unfold fsF
    rw [h k (Nat.le_refl _) (by omega), fsF_cong n (k + 1) (fun j h1 h2 => h j (by omega) (by omega))]
end WKO
section KR3
variable {l : Launch} {G : Gm} {μ : Mm} {L b sb : Nat} {c : Lc} {d : Ld} {S : St}
theorem kd_hourAt (hS : ShC μ) (hb : b = 33 ∨ b = 35 ∨ b = 38) (hW : Wf d) {ride : Nat → Nat} (hri : ∀ h, h < 12 → mI μ (b + 1) h = nI (kC d (ride h)) ∧ clOk d (ride h)) {e : Nat} (he : clOk d e) : AMet l G 0 0 0 mtX9_hourAt [.ref (G.1 + b), .int (nI (kC d e))] μ (qI (fun y μ' => y = opI (fsF (fun h => decide (ride h = e)) 12 0) ∧ μ' = μ)) := by
  refine AMet.of (by decide) (Nat.le_of_ble_eq_true rfl) (fun X C hX hnm hq => ?_)
  generalize hKK : fsF (fun h => decide (ride h = e)) 12 0 = K at hq
  have hB := hS.rd hb
  have h49 := hW.n49
  have hke := kC_lt he
  have loop : ∀ (n k : Nat), k + n = 12 → fsF (fun h => decide (ride h = e)) n k = K → AW l G X 0 0 2 [(0, .ref (G.1 + b)), (1, .int (nI (kC d e))), (2, .int (nI k))] [] μ := by
    intro n
    induction n with
    | zero =>
      intro k hk hv
      refine C.iload_n dX9_hourAt_2 2 rfl ?_
      refine C.bipush (nI 12) dX9_hourAt_3 (by decide) ?_
      refine C.icmp_ge 26 dX9_hourAt_5 rfl (fun hc5 => ?_) (fun hc5 => ?_)
      · refine C.iconst (-1) dX9_hourAt_26 (by decide) ?_
        refine C.iret hq dX9_hourAt_27 ?_
        exact ⟨by rw [← hv]; rfl, rfl⟩
      · exact absurd (n_nle hc5) (by omega)
    | succ n ih =>
      intro k hk hv
      have hrk := hri k (by omega)
      have hkk := kC_lt hrk.2
      unfold fsF at hv
      refine C.iload_n dX9_hourAt_2 2 rfl ?_
      refine C.bipush (nI 12) dX9_hourAt_3 (by decide) ?_
      refine C.icmp_ge 26 dX9_hourAt_5 rfl (fun hc5 => ?_) (fun hc5 => ?_)
      · exact absurd (n_le hc5) (by omega)
      · refine C.aload_n dX9_hourAt_8 0 rfl ?_
        refine C.getA fX9_9 dX9_hourAt_9 hB.2.1 hB.2.2.1 ?_
        refine C.iload_n dX9_hourAt_12 2 rfl ?_
        refine C.iald hB.2.2.2.2 (n_in (by omega)) dX9_hourAt_13 ?_
        rw [n_cl, hrk.1]
        refine C.iload_n dX9_hourAt_14 1 rfl ?_
        refine C.icmp_ne 20 dX9_hourAt_15 rfl (fun hc15 => ?_) (fun hc15 => ?_)
        · have hq2 : ¬ ride k = e := fun z => hc15 (by rw [z])
          rw [if_neg (by rw [decide_eq_false hq2]; decide)] at hv
          refine C.iinc (lv' := [(0, _), (1, _), (2, _)]) _ dX9_hourAt_20 2 rfl rfl (nLt hX rfl) rfl ?_
          refine C.goto 2 dX9_hourAt_23 rfl ?_
          have hgo := ih (k + 1) (by omega) hv
          rw [← nI_1] at hgo
          exact hgo
        · have hq2 : ride k = e := kC_inj hrk.2 he (n_eq hc15 (by omega) (by omega))
          rw [if_pos (decide_eq_true hq2)] at hv
          refine C.iload_n dX9_hourAt_18 2 rfl ?_
          refine C.iret hq dX9_hourAt_19 ?_
          exact ⟨by rw [← hv]; rfl, rfl⟩
  refine C.iconst (nI 0) dX9_hourAt_0 (by decide) ?_
  refine C.istore_n (lv' := [(0, _), (1, _), (2, _)]) dX9_hourAt_1 (nLt hX rfl) rfl ?_
  exact loop 12 0 rfl hKK
theorem kd_meeting (hS : ShC μ) (hb : b = 33 ∨ b = 35 ∨ b = 38) (hR : LdR μ L c d) (hW : Wf d) (hl : mR μ b 4 = some L) {ride : Nat → Nat} (hri : ∀ h, h < 12 → mI μ (b + 1) h = nI (kC d (ride h)) ∧ clOk d (ride h)) (hO : StO μ sb) (hN : CsN μ sb S) (hSW : SWf d S) {w : Nat} (hw : w < d.2.2.2.1.length) : AMet l G 0 0 0 mtX9_meetingHour [.ref (G.1 + b), .ref (G.1 + sb), .int (nI w)] μ (qI (fun y μ' => y = opI (mtF d ride (wkS S w) w) ∧ μ' = μ)) := by
  refine AMet.of (by decide) (Nat.le_of_ble_eq_true rfl) (fun X C hX hnm hq => ?_)
  have hB := hS.rd hb
  have h49 := hW.n49
  obtain ⟨hw6, n1, n2, n3, n4⟩ := hN.wk (w := w) (by rw [hSW.2.2.1]; exact hw)
  obtain ⟨z1, z2, z3, z4⟩ := hSW.wk hw
  have hwk : ∀ h, h < 12 → mI μ (c (20 + w)) h = nI (kC d (wkC d w h)) := (hR.2.2.2.2.1 w _ (List.getElem?_eq_getElem hw)).2.2.2.2
  have hrow := hR.1.2.2.2.2.1.2 w hw6
  have hA8 := hR.1.2.2.2.2.1.1
  have loop : ∀ (n k : Nat), k + n = 12 → fsF (fun h => decide (ride h = wkC d w h)) n k = crF d ride w → mtF d ride (wkS S w) w = crF d ride w → AW l G X 0 0 22 [(0, .ref (G.1 + b)), (1, .ref (G.1 + sb)), (2, .int (nI w)), (3, .int (nI k))] [] μ := by
    intro n
    induction n with
    | zero =>
      intro k hk hv hm
      rw [hm] at hq
      refine C.iload_n dX9_meetingHour_22 3 rfl ?_
      refine C.bipush (nI 12) dX9_meetingHour_23 (by decide) ?_
      refine C.icmp_ge 56 dX9_meetingHour_25 rfl (fun hc25 => ?_) (fun hc25 => ?_)
      · refine C.iconst (-1) dX9_meetingHour_56 (by decide) ?_
        refine C.iret hq dX9_meetingHour_57 ?_
        exact ⟨by rw [← hv]; rfl, rfl⟩
      · exact absurd (n_nle hc25) (by omega)
    | succ n ih =>
      intro k hk hv hm
      have hrk := hri k (by omega)
      have hkk := kC_lt hrk.2
      have hwo := wk_ok hW hw k
      have hwl := kC_lt hwo
      have ih2 := ih (k + 1) (by omega)
      unfold fsF at hv
      refine C.iload_n dX9_meetingHour_22 3 rfl ?_
      refine C.bipush (nI 12) dX9_meetingHour_23 (by decide) ?_
      refine C.icmp_ge 56 dX9_meetingHour_25 rfl (fun hc25 => ?_) (fun hc25 => ?_)
      · exact absurd (n_le hc25) (by omega)
      · refine C.aload_n dX9_meetingHour_28 0 rfl ?_
        refine C.getA fX9_9 dX9_meetingHour_29 hB.2.1 hB.2.2.1 ?_
        refine C.iload_n dX9_meetingHour_32 3 rfl ?_
        refine C.iald hB.2.2.2.2 (n_in (by omega)) dX9_meetingHour_33 ?_
        rw [n_cl, hrk.1]
        refine C.aload_n dX9_meetingHour_34 0 rfl ?_
        refine C.getO fX9_19 dX9_meetingHour_35 hB.2.1 hl ?_
        refine C.getA fX9_107 dX9_meetingHour_38 hR.o (hR.r (by decide)) ?_
        refine C.iload_n dX9_meetingHour_41 2 rfl ?_
        refine C.aald hA8 (Or.inr rfl) (n_in (by omega)) (by rw [n_cl (by omega)]; exact hrow.1) dX9_meetingHour_42 ?_
        refine C.iload_n dX9_meetingHour_43 3 rfl ?_
        refine C.iald hrow.2 (n_in (by omega)) dX9_meetingHour_44 ?_
        rw [n_cl, hwk k (by omega)]
        refine C.icmp_ne 50 dX9_meetingHour_45 rfl (fun hc45 => ?_) (fun hc45 => ?_)
        · have hq2 : ¬ ride k = wkC d w k := fun z => hc45 (by rw [z])
          rw [if_neg (by rw [decide_eq_false hq2]; decide)] at hv
          refine C.iinc (lv' := [(0, _), (1, _), (2, _), (3, _)]) _ dX9_meetingHour_50 3 rfl rfl (nLt hX rfl) rfl ?_
          refine C.goto 22 dX9_meetingHour_53 rfl ?_
          have hgo := ih2 hv hm
          rw [← nI_1] at hgo
          exact hgo
        · have hq2 : ride k = wkC d w k := kC_inj hrk.2 hwo (n_eq hc45 (by omega) (by omega))
          rw [if_pos (decide_eq_true hq2)] at hv
          rw [hm] at hq
          refine C.iload_n dX9_meetingHour_48 3 rfl ?_
          refine C.iret hq dX9_meetingHour_49 ?_
          exact ⟨by rw [← hv]; rfl, rfl⟩
  refine C.aload_n dX9_meetingHour_0 1 rfl ?_
  refine C.getA fX9_99 dX9_meetingHour_1 hO.o hO.r3 ?_
  refine C.iload_n dX9_meetingHour_4 2 rfl ?_
  refine C.iald hO.a3 (n_in (by omega)) dX9_meetingHour_5 ?_
  rw [n_cl, n4]
  refine C.if_gt 18 dX9_meetingHour_6 rfl (fun hc6 => ?_) (fun hc6 => ?_)
  · refine C.iconst (-1) dX9_meetingHour_18 (by decide) ?_
    refine C.iret hq dX9_meetingHour_19 ?_
    refine ⟨?_, rfl⟩
    unfold mtF
    rw [if_pos (by first | (left; exact n_eq (b := 0) hc15 (by omega) (by omega)) | (right; rcases Nat.eq_zero_or_pos (wkS S w).2.2.2 with q | q; (rw [q] at hc6; exact absurd hc6 (by decide)); exact q))]
    rfl
  · refine C.aload_n dX9_meetingHour_9 1 rfl ?_
    refine C.getA fX9_104 dX9_meetingHour_10 hO.o hO.r0 ?_
    refine C.iload_n dX9_meetingHour_13 2 rfl ?_
    refine C.iald hO.a0 (n_in (by omega)) dX9_meetingHour_14 ?_
    rw [n_cl, n1]
    refine C.if_ne 20 dX9_meetingHour_15 rfl (fun hc15 => ?_) (fun hc15 => ?_)
    · refine C.iconst (nI 0) dX9_meetingHour_20 (by decide) ?_
      refine C.istore_n (lv' := [(0, _), (1, _), (2, _), (3, _)]) dX9_meetingHour_21 (nLt hX rfl) rfl ?_
      refine loop 12 0 rfl rfl ?_
      unfold mtF
      rw [if_neg (fun z => z.elim (fun y => hc15 (by rw [y]; rfl)) (fun y => hc6 (Int32.not_le.mp (nI_nle y (by omega)))))]
    · refine C.iconst (-1) dX9_meetingHour_18 (by decide) ?_
      refine C.iret hq dX9_meetingHour_19 ?_
      refine ⟨?_, rfl⟩
      unfold mtF
      rw [if_pos (by first | (left; exact n_eq (b := 0) hc15 (by omega) (by omega)) | (right; rcases Nat.eq_zero_or_pos (wkS S w).2.2.2 with q | q; (rw [q] at hc6; exact absurd hc6 (by decide)); exact q))]
      rfl
end KR3
