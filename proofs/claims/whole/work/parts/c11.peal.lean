/-! the class: peals, rests -/
def fewN (b : Option Nat) : Nat := match b with
  | none => 6
  | some b => popN b
theorem popN_5 (r : Nat) : popN r ≤ 5 := by unfold popN; omega
theorem betB_few (b : Option Nat) (k : Nat) : betB b k = decide (popN k < fewN b) := by
  cases b with
  | none => exact (decide_eq_true (show popN k < 6 by have := popN_5 k; omega)).symm
  | some b => rfl
theorem fewN_le (b : Option Nat) : fewN b ≤ 6 := by
  cases b with
  | none => exact Nat.le_refl _
  | some b => exact Nat.le_trans (popN_5 b) (by decide)
theorem all_f {f : Nat → Bool} {k n : Nat} (hk : k ≤ n) (h : (List.range k).all f = false) : (List.range n).all f = false := by
  rw [Bool.eq_false_iff] at h ⊢
  intro q
  apply h
  rw [List.all_eq_true] at q ⊢
  intro x hx
  exact q x (List.mem_range.mpr (Nat.lt_of_lt_of_le (List.mem_range.mp hx) hk))
theorem bI_dec (P : Prop) [Decidable P] : bI (decide P) = if P then nI 1 else nI 0 := by
  by_cases h : P <;> simp [h, bI]
theorem FrC.refl (μ : Mm) : FrC μ μ := ⟨Grw.refl μ, fun _ _ _ _ => ⟨rfl, rfl, rfl⟩⟩
theorem FrC.trans {μ μ' μ'' : Mm} (h : FrC μ μ') (h2 : FrC μ' μ'') : FrC μ μ'' := ⟨h.1.trans h2.1, fun a k q1 q2 => ⟨(h2.2 a k q1 q2).1.trans (h.2 a k q1 q2).1, (h2.2 a k q1 q2).2.1.trans (h.2 a k q1 q2).2.1, (h2.2 a k q1 q2).2.2.trans (h.2 a k q1 q2).2.2⟩⟩
theorem PX.trans {μ μ' μ'' : Mm} {h h' : Hs} (a : PX μ h μ') (b : PX μ' h' μ'') : PX μ h' μ'' := ⟨b.1, a.2.trans b.2⟩
/-- between: the same land at the same place -/
def QX (μ : Mm) (h : Hs) (L : Nat) (c : Lc) (μ' : Mm) : Prop := PX μ h μ' ∧ CsL μ' L c (ldH h)
section KX4
variable {l : Launch} {G : Gm} {μ : Mm} {h : Hs} {L : Nat} {c : Lc}
theorem rideB_x (hW : Wf (ldH h)) (set : Nat) : rX (ldH h) (closB (ldH h) none set) (stH h).1.1 (ldH h).1.2.2 = rideB h set := rx_fun hW hW.1.2.2.2.2
theorem rideB_ok (hW : Wf (ldH h)) (set k : Nat) : clOk (ldH h) (rideB h set k) := rF_ok hW hW.1.2.2.2.2 k

theorem kx_nobody {μ0 : Mm} (hQ : QX μ0 h L c μ) (hH : HOk h) (hW : Wf (ldH h)) {set : Nat} (hs : set < 32) : AMet l G 5 0 0 mtX12_meetsNobody [.ref (G.1 + 0), .int (nI set)] μ (qI (fun y μ' => y = bI (noMet h (rideB h set)) ∧ QX μ0 h L c μ')) := by
  refine AMet.of (by decide) (Nat.le_of_ble_eq_true rfl) (fun X C hX hnm hq => ?_)
  obtain ⟨hPX, hL⟩ := hQ
  have hC := hPX.1
  have hS := hC.1.1.1
  have hN := hC.2.1.1
  have hSW := hH.1.2.1
  obtain ⟨hg, hR, hk1, hk2, hk3⟩ := id hL
  have w6 := hW.2.2.2.1.1
  unfold noMet at hq
  generalize hF0 : (fun w => decide (mtF (ldH h) (rideB h set) (wkS (stH h) w) w = none)) = f at hq
  have loop : ∀ (μ1 : Mm), QX μ0 h L c μ1 → (∀ k, k < 12 → mI μ1 36 k = nI (kC (ldH h) (rideB h set k)) ∧ clOk (ldH h) (rideB h set k)) → mR μ1 35 4 = some L → ∀ (n k : Nat), k + n = (ldH h).2.2.2.1.length → AW l G X 0 0 37 [(0, .ref (G.1 + 0)), (1, .int (nI set)), (2, .int (bI ((List.range k).all f))), (3, .int (nI k))] [] μ1 := by
    intro μ1 hQ1 hri hl n
    have hC := hQ1.1.1
    have hS := hC.1.1.1
    have hN := hC.2.1.1
    have hg := hQ1.2.1
    have hR := hQ1.2.2.1
    induction n with
    | zero =>
      intro k hk
      have e : k = (ldH h).2.2.2.1.length := by omega
      subst e
      refine C.iload_n dX12_meetsNobody_37 3 rfl ?_
      refine C.aload_n dX12_meetsNobody_38 0 rfl ?_
      refine C.getO fX12_54 dX12_meetsNobody_39 hS.o0 hg ?_
      refine C.getI fX12_172 dX12_meetsNobody_42 hR.o ?_
      rw [hR.2.1.2.1.2]
      refine C.icmp_ge 80 dX12_meetsNobody_45 rfl (fun hc45 => ?_) (fun hc45 => ?_)
      · refine C.iload_n dX12_meetsNobody_80 2 rfl ?_
        refine C.zret hq dX12_meetsNobody_81 (bI_z _) ?_
        exact ⟨rfl, hQ1⟩
      · exact absurd (n_nle hc45) (by omega)
    | succ n ih =>
      intro k hk
      have hlt : k < (ldH h).2.2.2.1.length := by omega
      have hgo := ih (k + 1) (by omega)
      rw [all_succ, ← nI_1] at hgo
      refine C.iload_n dX12_meetsNobody_37 3 rfl ?_
      refine C.aload_n dX12_meetsNobody_38 0 rfl ?_
      refine C.getO fX12_54 dX12_meetsNobody_39 hS.o0 hg ?_
      refine C.getI fX12_172 dX12_meetsNobody_42 hR.o ?_
      rw [hR.2.1.2.1.2]
      refine C.icmp_ge 80 dX12_meetsNobody_45 rfl (fun hc45 => ?_) (fun hc45 => ?_)
      · exact absurd (n_le hc45) (by omega)
      · refine C.iload_n dX12_meetsNobody_48 2 rfl ?_
        refine C.if_eq 80 dX12_meetsNobody_49 rfl (fun hc49 => ?_) (fun hc49 => ?_)
        · have hz := (bI_0 _).mp hc49
          refine C.iload_n dX12_meetsNobody_80 2 rfl ?_
          refine C.zret hq dX12_meetsNobody_81 (bI_z _) ?_
          exact ⟨by rw [hz, all_f (k := k) (n := (ldH h).2.2.2.1.length) (by omega) hz], hQ1⟩
        · have hz := b_t hc49
          rw [hz, Bool.true_and] at hgo
          have ef : f k = decide (mtF (ldH h) (rideB h set) (wkS (stH h) k) k = none) := by rw [← hF0]
          rw [ef] at hgo
          refine C.aload_n dX12_meetsNobody_52 0 rfl ?_
          refine C.getO fX12_67 dX12_meetsNobody_53 hS.o0 hS.r0_5 ?_
          refine C.aload_n dX12_meetsNobody_56 0 rfl ?_
          refine C.getO fX12_80 dX12_meetsNobody_57 hS.o0 hS.r0_7 ?_
          refine C.iload_n dX12_meetsNobody_60 3 rfl ?_
          refine C.callVI lX12_281 dX12_meetsNobody_61 (kd_meeting hS (by omega) hR hW hl hri hS.s40 hN hSW hlt) hS.o35 rfl rfl (Nat.le_of_ble_eq_true rfl) (Nat.zero_le _) (Nat.zero_le _) (Nat.le_of_ble_eq_true rfl) (fun x61 μ61 h61 => ?_)
          obtain ⟨rfl, hμ⟩ := h61
          subst hμ
          refine C.iconst (-1) dX12_meetsNobody_64 (by decide) ?_
          refine C.icmp_ne 72 dX12_meetsNobody_65 rfl (fun hc65 => ?_) (fun hc65 => ?_)
          · refine C.iconst (nI 0) dX12_meetsNobody_72 (by decide) ?_
            refine C.istore_n (lv' := [(0, _), (1, _), (2, _), (3, _)]) dX12_meetsNobody_73 (nLt hX rfl) rfl ?_
            refine C.iinc (lv' := [(0, _), (1, _), (2, _), (3, _)]) _ dX12_meetsNobody_74 3 rfl rfl (nLt hX rfl) rfl ?_
            refine C.goto 37 dX12_meetsNobody_77 rfl ?_
            first | (rw [decide_eq_true (opI_m1 hc65 (fun x q => by have := mtF_lt q; omega))] at hgo; exact hgo) | (rw [decide_eq_false (fun z => hc65 (by rw [z]; rfl))] at hgo; exact hgo)
          · refine C.iconst (nI 1) dX12_meetsNobody_68 (by decide) ?_
            refine C.goto 73 dX12_meetsNobody_69 rfl ?_
            refine C.istore_n (lv' := [(0, _), (1, _), (2, _), (3, _)]) dX12_meetsNobody_73 (nLt hX rfl) rfl ?_
            refine C.iinc (lv' := [(0, _), (1, _), (2, _), (3, _)]) _ dX12_meetsNobody_74 3 rfl rfl (nLt hX rfl) rfl ?_
            refine C.goto 37 dX12_meetsNobody_77 rfl ?_
            first | (rw [decide_eq_true (opI_m1 hc65 (fun x q => by have := mtF_lt q; omega))] at hgo; exact hgo) | (rw [decide_eq_false (fun z => hc65 (by rw [z]; rfl))] at hgo; exact hgo)
  refine C.aload_n dX12_meetsNobody_0 0 rfl ?_
  refine C.getO fX12_67 dX12_meetsNobody_1 hS.o0 hS.r0_5 ?_
  refine C.aload_n dX12_meetsNobody_4 0 rfl ?_
  refine C.getO fX12_54 dX12_meetsNobody_5 hS.o0 hg ?_
  refine C.aload_n dX12_meetsNobody_8 0 rfl ?_
  refine C.getO fX12_54 dX12_meetsNobody_9 hS.o0 hg ?_
  refine C.iload_n dX12_meetsNobody_12 1 rfl ?_
  refine C.callVL lX12_291 dX12_meetsNobody_13 (kl_closedBy hR hW (by omega)) hR.o rfl rfl (Nat.le_of_ble_eq_true rfl) (Nat.zero_le _) (Nat.zero_le _) (Nat.le_of_ble_eq_true rfl) (fun x13 μ13 h13 => ?_)
  obtain ⟨rfl, hμ⟩ := h13
  subst hμ
  refine C.aload_n dX12_meetsNobody_16 0 rfl ?_
  refine C.getO fX12_54 dX12_meetsNobody_17 hS.o0 hg ?_
  refine C.getI fX12_294 dX12_meetsNobody_20 hR.o ?_
  rw [hR.2.1.1.2.2]
  refine C.aload_n dX12_meetsNobody_23 0 rfl ?_
  refine C.getO fX12_80 dX12_meetsNobody_24 hS.o0 hS.r0_7 ?_
  refine C.getI fX12_175 dX12_meetsNobody_27 hS.o40 ?_
  rw [hN.1.1]
  refine C.callVV lX12_296 dX12_meetsNobody_30 (kd_go hS (by omega) hR hW hk2 (clos_lt hW none _) hW.1.2.2.2.2 hSW.1) hS.o35 rfl rfl (Nat.le_of_ble_eq_true rfl) (Nat.zero_le _) (Nat.zero_le _) (Nat.le_of_ble_eq_true rfl) (fun μ30 h30 => ?_)
  obtain ⟨⟨r1, r2, r3, r4, r5⟩, hF⟩ := h30
  rw [rideB_x hW] at r2 r3
  refine C.iconst (nI 1) dX12_meetsNobody_33 (by decide) ?_
  refine C.istore_n (lv' := [(0, _), (1, _), (2, _)]) dX12_meetsNobody_34 (nLt hX rfl) rfl ?_
  refine C.iconst (nI 0) dX12_meetsNobody_35 (by decide) ?_
  refine C.istore_n (lv' := [(0, _), (1, _), (2, _), (3, _)]) dX12_meetsNobody_36 (nLt hX rfl) rfl ?_
  exact loop μ30 ⟨hPX.trans (hC.ride hL (by omega) hF r5), hL.ride (by omega) hF r5⟩ (fun k hk => ⟨r2 k hk, rideB_ok hW set k⟩) r1 (ldH h).2.2.2.1.length 0 (by omega)
theorem kx_peal (hC : ClsRel μ h) (hH : HOk h) : AMet l G 6 0 0 mtX12_peal [.ref (G.1 + 0)] μ (qI (fun x μ' => x = pealA h ∧ PX μ h μ')) := by
  refine AMet.of (by decide) (Nat.le_of_ble_eq_true rfl) (fun X C hX hnm hq => ?_)
  have hS := hC.1.1.1
  obtain ⟨L, c, hL⟩ := hC.2.2.2
  have hg := hL.1
  have hR := hL.2.1
  have hd7 := hH.d7
  have p5 := pow5 hd7.2.2.2.2.1
  unfold pealA at hq
  have main : 0 < (ldH h).1.1 → MR G X (qI (fun x μ' => x = opI (selL (fun k => noMet h (rideB h k)) (2 ^ (ldH h).2.2.1.length) 0 none) ∧ PX μ h μ')) → AW l G X 0 0 12 [(0, .ref (G.1 + 0))] [] μ := by
    clear hq
    intro hp hq
    have hW := hH.wfP hp
    generalize hK : selL (fun k => noMet h (rideB h k)) (2 ^ (ldH h).2.2.1.length) 0 none = K at hq
    have loop : ∀ (j k : Nat) (b : Option Nat) (μ1 : Mm), k + j = 2 ^ (ldH h).2.2.1.length → selL (fun k => noMet h (rideB h k)) j k b = K → QX μ h L c μ1 → (∀ x, b = some x → x < 32) → AW l G X 0 0 19 [(0, .ref (G.1 + 0)), (1, .int (opI b)), (2, .int (nI (fewN b))), (3, .int (nI k))] [] μ1 := by
      intro j
      induction j with
      | zero =>
        intro k b μ1 hk hv hQ hb
        have hS := hQ.1.1.1.1.1
        have hg := hQ.2.1
        have hR := hQ.2.2.1
        refine C.iload_n dX12_peal_19 3 rfl ?_
        refine C.iconst (nI 1) dX12_peal_20 (by decide) ?_
        refine C.aload_n dX12_peal_21 0 rfl ?_
        refine C.getO fX12_54 dX12_peal_22 hS.o0 hg ?_
        refine C.getI fX12_169 dX12_peal_25 hR.o ?_
        rw [hR.2.1.2.1.1]
        refine C.ishl dX12_peal_28 ?_
        rw [shl1 hd7.2.2.2.2.1]
        refine C.icmp_ge 61 dX12_peal_29 rfl (fun hc29 => ?_) (fun hc29 => ?_)
        · refine C.iload_n dX12_peal_61 1 rfl ?_
          refine C.iret hq dX12_peal_62 ?_
          exact ⟨by rw [← hv]; rfl, hQ.1⟩
        · have := n_nle hc29; omega
      | succ j ih =>
        intro k b μ1 hk hv hQ hb
        have hS := hQ.1.1.1.1.1
        have hg := hQ.2.1
        have hR := hQ.2.2.1
        have hk32 : k < 32 := by omega
        have hfw := fewN_le b
        have hpk := popN_5 k
        have hbt := betB_few b k
        unfold selL at hv
        have nxt : ∀ (μ2 : Mm) (b2 : Option Nat), b2 = selS (fun k => noMet h (rideB h k)) b k → QX μ h L c μ2 → AW l G X 0 0 55 [(0, .ref (G.1 + 0)), (1, .int (opI b2)), (2, .int (nI (fewN b2))), (3, .int (nI k))] [] μ2 := by
          intro μ2 b2 e hQ2
          subst e
          refine C.iinc (lv' := [(0, _), (1, _), (2, _), (3, _)]) _ dX12_peal_55 3 rfl rfl (nLt hX rfl) rfl ?_
          refine C.goto 19 dX12_peal_58 rfl ?_
          have hgo := ih (k + 1) _ μ2 (by omega) hv hQ2 (selS_lt hb hk32)
          rw [← nI_1] at hgo
          exact hgo
        refine C.iload_n dX12_peal_19 3 rfl ?_
        refine C.iconst (nI 1) dX12_peal_20 (by decide) ?_
        refine C.aload_n dX12_peal_21 0 rfl ?_
        refine C.getO fX12_54 dX12_peal_22 hS.o0 hg ?_
        refine C.getI fX12_169 dX12_peal_25 hR.o ?_
        rw [hR.2.1.2.1.1]
        refine C.ishl dX12_peal_28 ?_
        rw [shl1 hd7.2.2.2.2.1]
        refine C.icmp_ge 61 dX12_peal_29 rfl (fun hc29 => ?_) (fun hc29 => ?_)
        · have := n_le hc29; omega
        · refine C.iload_n dX12_peal_32 3 rfl ?_
          refine C.callSI lX12_181 dX12_peal_33 (kj_bitsI hk32) rfl rfl (Nat.le_of_ble_eq_true rfl) (Nat.zero_le _) (Nat.zero_le _) (Nat.le_of_ble_eq_true rfl) (fun x33 μ33 h33 => ?_)
          obtain ⟨rfl, hμ⟩ := h33
          subst hμ
          refine C.iload_n dX12_peal_36 2 rfl ?_
          refine C.icmp_ge 55 dX12_peal_37 rfl (fun hc37 => ?_) (fun hc37 => ?_)
          · have hge := n_le hc37
            exact nxt _ b (selS_1 (by rw [hbt, decide_eq_false (by omega)])).symm hQ
          · have hlt := n_nle hc37
            rw [decide_eq_true hlt] at hbt
            refine C.aload_n dX12_peal_40 0 rfl ?_
            refine C.iload_n dX12_peal_41 3 rfl ?_
            refine C.callVI lX12_288 dX12_peal_42 (kx_nobody hQ hH hW hk32) hS.o0 rfl rfl (Nat.le_of_ble_eq_true rfl) (Nat.zero_le _) (Nat.zero_le _) (Nat.le_of_ble_eq_true rfl) (fun x42 μ42 h42 => ?_)
            obtain ⟨rfl, hQ2⟩ := h42
            have hS : ShC μ42 := hQ2.1.1.1.1.1
            refine C.if_eq 55 dX12_peal_45 rfl (fun hc45 => ?_) (fun hc45 => ?_)
            · exact nxt _ b (selS_2 ((bI_0 _).mp hc45)).symm hQ2
            · refine C.iload_n dX12_peal_48 3 rfl ?_
              refine C.istore_n (lv' := [(0, _), (1, _), (2, _), (3, _)]) dX12_peal_49 (nLt hX rfl) rfl ?_
              refine C.iload_n dX12_peal_50 3 rfl ?_
              refine C.callSI lX12_181 dX12_peal_51 (kj_bitsI hk32) rfl rfl (Nat.le_of_ble_eq_true rfl) (Nat.zero_le _) (Nat.zero_le _) (Nat.le_of_ble_eq_true rfl) (fun x51 μ51 h51 => ?_)
              obtain ⟨rfl, hμ⟩ := h51
              subst hμ
              refine C.istore_n (lv' := [(0, _), (1, _), (2, _), (3, _)]) dX12_peal_54 (nLt hX rfl) rfl ?_
              exact nxt _ (some k) (selS_p hbt (b_t hc45)).symm hQ2
    refine C.iconst (-1) dX12_peal_12 (by decide) ?_
    refine C.istore_n (lv' := [(0, _), (1, _)]) dX12_peal_13 (nLt hX rfl) rfl ?_
    refine C.bipush (nI 6) dX12_peal_14 (by decide) ?_
    refine C.istore_n (lv' := [(0, _), (1, _), (2, _)]) dX12_peal_16 (nLt hX rfl) rfl ?_
    refine C.iconst (nI 0) dX12_peal_17 (by decide) ?_
    refine C.istore_n (lv' := [(0, _), (1, _), (2, _), (3, _)]) dX12_peal_18 (nLt hX rfl) rfl ?_
    exact loop _ 0 none μ (Nat.zero_add _) hK ⟨hC.self, hL⟩ (fun x q => by cases q)
  refine C.aload_n dX12_peal_0 0 rfl ?_
  refine C.getO fX12_54 dX12_peal_1 hS.o0 hg ?_
  refine C.callVI lX12_271 dX12_peal_4 (kl_stands hR.o hR.2.1.1.1 (by omega)) hR.o rfl rfl (Nat.le_of_ble_eq_true rfl) (Nat.zero_le _) (Nat.zero_le _) (Nat.le_of_ble_eq_true rfl) (fun x4 μ4 h4 => ?_)
  obtain ⟨rfl, hμ⟩ := h4
  subst hμ
  refine C.if_ne 12 dX12_peal_7 rfl (fun hc7 => ?_) (fun hc7 => ?_)
  · have hp : 0 < (ldH h).1.1 := of_decide_eq_true (b_t hc7)
    rw [if_pos hp] at hq
    exact main hp hq
  · have h0 : ¬ 0 < (ldH h).1.1 := of_decide_eq_false ((bI_0 _).mp hc7)
    rw [if_neg h0] at hq
    refine C.iconst (-1) dX12_peal_10 (by decide) ?_
    refine C.iret hq dX12_peal_11 ?_
    exact ⟨rfl, hC.self⟩
end KX4
