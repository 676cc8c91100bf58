/-! the class: passNight -/
theorem opI_m1 {o : Option Nat} (h : opI o = -1) (hl : ∀ x, o = some x → x < 2147483648) : o = none := by
  cases o with
  | none => rfl
  | some x => exact absurd h (n_m1 (hl x rfl))
section KPN
variable {l : Launch} {G : Gm} {μ : Mm} {L sb : Nat} {c : Lc} {d : Ld}

theorem kh_night (hS : ShC μ) (hb : sb = 40 ∨ sb = 46) (hR : LdR μ L c d) (hW : Wf d) (hK : RdK μ 38 d L) {more : Option Nat} (hm : ∀ x, more = some x → clOk d x) {S : St} (hN : CsN μ sb S) (hSW : SWf d S) (hng : S.1.1 < 999) {m kp E : Nat} (h2 : mI μ 37 2 = nI m) (h3 : mI μ 37 3 = nI kp) (hE : mL μ 37 5 = lN E) : AMet l G 5 0 0 mtX1_passNight [.ref (G.1 + 37), .ref (G.1 + L), .ref (G.1 + sb), .long (lN (mB d more))] μ (qV (fun μ' => CsN μ' sb (nightA d more false false (S, m, kp, 0)).1 ∧ HcR μ' (nightA d more false false (S, m, kp, 0)) ∧ mL μ' 37 5 = lN (E ||| enB d (rideN d more S)) ∧ RdK μ' 38 d L ∧ HnF sb μ μ')) := by
  refine AMet.of (by decide) (Nat.le_of_ble_eq_true rfl) (fun X C hX hnm hq => ?_)
  have w6 := hW.2.2.2.1.1
  have h49 := hW.n49
  have hO : StO μ sb := by rcases hb with rfl | rfl; exact hS.s40; exact hS.s46
  have hfr : clOk d d.1.2.2 := hW.1.2.2.2.2
  have hr32 : S.1.2 < 32 := two5 hSW.2.1 hW.2.2.1.1
  have hcl := clos_more hW hm S.1.2
  have hx := clos_lt hW more S.1.2
  have hrd : rX d (closB d more S.1.2) S.1.1 d.1.2.2 = rideN d more S := rx_fun hW hfr
  have hi := hR.2.1
  generalize hride : rideN d more S = ride at *
  have hrok : ∀ h, clOk d (ride h) := fun h => by rw [← hride]; exact rF_ok hW hfr h
  -- the walkers
  have loop : ∀ (n i : Nat) (a : Ac) (μ2 μ1 : Mm), i + n = d.2.2.2.1.length → HnF sb μ μ2 → HmF sb μ2 μ1 → RdK μ2 38 d L → (mR μ2 38 4 = some L ∧ ∀ h, h < 12 → mI μ2 39 h = nI (kC d (ride h))) → mL μ2 37 5 = lN (E ||| enB d ride) → CsN μ1 sb a.1 → HcR μ1 a → SWf d a.1 → a.1.1 = S.1 → nightL d ride false false n i a = nightL d ride false false d.2.2.2.1.length 0 (S, m, kp, 0) → AW l G X 0 0 50 [(0, .ref (G.1 + 37)), (1, .ref (G.1 + L)), (2, .ref (G.1 + sb)), (3, .long (lN (mB d more))), (5, .int (nI i))] [] μ1 := by
    intro n
    induction n with
    | zero =>
      intro i a μ2 μ1 hil hF2 hF1 hK2 hv2 hE2 hN1 hC1 hS1w ha1 hgo
      have hSh2 := hF2.sh hS
      have hSh := hF1.sh hSh2
      have hO1 : StO μ1 sb := by rcases hb with rfl | rfl; exact hSh.s40; exact hSh.s46
      have hR1 := hF1.ld hb (hF2.ld hb hR)
      have hn5 := hN1.1.1
      have e : a = nightL d ride false false d.2.2.2.1.length 0 (S, m, kp, 0) := hgo
      have eA : nightA d more false false (S, m, kp, 0) = (((a.1.1.1 + 1, a.1.1.2), a.1.2), a.2) := by
        unfold nightA
        dsimp only
        rw [hride, ← e]
      rw [eA] at hq
      refine C.iload dX1_passNight_50 4 rfl ?_
      refine C.aload_n dX1_passNight_52 1 rfl ?_
      refine C.getI fX1_60 dX1_passNight_53 hR1.o ?_
      rw [hR1.2.1.2.1.2]
      refine C.icmp_ge 117 dX1_passNight_56 rfl (fun hc56 => ?_) (fun hc56 => ?_)
      · refine C.aload_n dX1_passNight_117 2 rfl ?_
        refine C.dup dX1_passNight_118 rfl ?_
        refine C.getI fX1_49 dX1_passNight_119 hO1.o ?_
        rw [hn5]
        refine C.iconst (nI 1) dX1_passNight_122 (by decide) ?_
        refine C.iadd dX1_passNight_123 ?_
        rw [nI_add]
        refine C.putI fX1_49 (Or.inl rfl) dX1_passNight_124 hO1.o ?_
        refine C.vret hq dX1_passNight_127 ?_
        obtain ⟨⟨n1, n2⟩, n3, n4, f, n5, n6, n7, n8, n9⟩ := hN1
        refine ⟨⟨⟨by simp [mI_sI], by rw [mI_sI, if_neg (by omega)]; exact n2⟩, fun i x q => ?_, fun i q q2 => ?_, f, n5, by rw [mI_sI, if_neg (by omega)]; exact n6, by rw [mI_sI, if_neg (by omega)]; exact n7, n8, fun i x q => by rw [mI_sI, if_neg (by omega)]; exact n9 i x q⟩, ⟨by rw [mI_sI, if_neg (by omega)]; exact hC1.1, by rw [mI_sI, if_neg (by omega)]; exact hC1.2.1, by rw [mI_sI, if_neg (by omega)]; exact hC1.2.2⟩, ?_, ?_, ?_⟩
        · rw [mI_sI, if_neg (by omega), mI_sI, if_neg (by omega), mI_sI, if_neg (by omega), mI_sI, if_neg (by omega)]; exact n3 i x q
        · rw [mI_sI, if_neg (by omega), mI_sI, if_neg (by omega)]; exact n4 i q q2
        · rw [mL_sI]; unfold mL; rw [hF1.1]; exact hE2
        · exact hK2.of (by show mN μ2 ≤ mN μ1; unfold mN; rw [hF1.1]; exact Nat.le_refl _) (by rw [mR_sI]; unfold mR; rw [hF1.1]) (fun k => by rw [mL_sI]; unfold mL; rw [hF1.1]) (fun x k q => by rw [mI_sI, if_neg (by omega)]; exact hF1.2 x k (by omega) (by omega) (by omega) (by omega) (by omega))
        · exact (hF2.trans (HnF.ofM hF1)).trans (HnF.ofM ⟨rfl, fun x k _ _ _ q4 _ => by rw [mI_sI, if_neg (by omega)]⟩)
      · exact absurd (n_nle hc56) (by omega)
    | succ n ih =>
      intro i a μ2 μ1 hil hF2 hF1 hK2 hv2 hE2 hN1 hC1 hS1w ha1 hgo
      have hlt : i < d.2.2.2.1.length := by omega
      have hSh2 := hF2.sh hS
      have hSh := hF1.sh hSh2
      have hO1 : StO μ1 sb := by rcases hb with rfl | rfl; exact hSh.s40; exact hSh.s46
      have hR1 := hF1.ld hb (hF2.ld hb hR)
      have hl1 : mR μ1 38 4 = some L := by unfold mR; rw [hF1.1]; exact hv2.1
      have hri1 : ∀ h, h < 12 → mI μ1 (38 + 1) h = nI (kC d (ride h)) ∧ clOk d (ride h) := fun h hh => ⟨by rw [hF1.2 39 h (by omega) (by omega) (by omega) (by omega) (by omega)]; exact hv2.2 h hh, hrok h⟩
      have hwl : i < a.1.2.1.length := by rw [hS1w.2.2.1]; exact hlt
      obtain ⟨hw6, g1, g2, g3, g4⟩ := hN1.wk hwl
      obtain ⟨z1, z2, z3, z4⟩ := hS1w.wk hlt
      obtain ⟨sw1, sw2⟩ := night_w0 hW hS1w (ride := ride) (th := false) (storm := false) hlt
      have next : ∀ μ3 : Mm, HmF sb μ1 μ3 → CsN μ3 sb (nightW d ride false false a i).1 → HcR μ3 (nightW d ride false false a i) → AW l G X 0 0 111 [(0, .ref (G.1 + 37)), (1, .ref (G.1 + L)), (2, .ref (G.1 + sb)), (3, .long (lN (mB d more))), (5, .int (nI i))] [] μ3 := by
        intro μ3 hF3 hN3 hC3
        have hg := ih (i + 1) (nightW d ride false false a i) μ2 μ3 (by omega) hF2 (hF1.trans hF3) hK2 hv2 hE2 hN3 hC3 sw1 (sw2.trans ha1) hgo
        rw [← nI_1] at hg
        refine C.iinc (lv' := [(0, _), (1, _), (2, _), (3, _), (5, _)]) _ dX1_passNight_111 4 rfl rfl (nLt hX rfl) rfl ?_
        refine C.goto 50 dX1_passNight_114 rfl ?_
        exact hg
      refine C.iload dX1_passNight_50 4 rfl ?_
      refine C.aload_n dX1_passNight_52 1 rfl ?_
      refine C.getI fX1_60 dX1_passNight_53 hR1.o ?_
      rw [hR1.2.1.2.1.2]
      refine C.icmp_ge 117 dX1_passNight_56 rfl (fun hc56 => ?_) (fun hc56 => ?_)
      · exact absurd (n_le hc56) (by omega)
      · refine C.aload_n dX1_passNight_59 0 rfl ?_
        refine C.getO fX1_20 dX1_passNight_60 hSh.o37 hSh.r37_1 ?_
        refine C.aload_n dX1_passNight_63 2 rfl ?_
        refine C.iload dX1_passNight_64 4 rfl ?_
        refine C.callVI lX1_63 dX1_passNight_66 (kd_meeting hSh (by omega) hR1 hW hl1 hri1 hO1 hN1 hS1w hlt) hSh.o38 rfl rfl (Nat.le_of_ble_eq_true rfl) (Nat.zero_le _) (Nat.zero_le _) (Nat.le_of_ble_eq_true rfl) (fun x66 μ66 h66 => ?_)
        obtain ⟨rfl, hμ⟩ := h66
        subst hμ
        refine C.istore (lv' := [(0, _), (1, _), (2, _), (3, _), (5, _), (6, _)]) dX1_passNight_69 (nLt hX rfl) rfl ?_
        refine C.aload_n dX1_passNight_71 2 rfl ?_
        refine C.getA fX1_67 dX1_passNight_72 hO1.o hO1.r3 ?_
        refine C.iload dX1_passNight_75 4 rfl ?_
        refine C.iald hO1.a3 (n_in (by omega)) dX1_passNight_77 ?_
        rw [n_cl, g4]
        refine C.if_le 95 dX1_passNight_78 rfl (fun hc78 => ?_) (fun hc78 => ?_)
        · have hz : ¬ 0 < (wkS a.1 i).2.2.2 := fun q => nI_nle q (by omega) hc78
          have hnw : nightW d ride false false a i = (match mtF d ride (wkS a.1 i) i with | none => a | some h => meetA d false a i h) := by unfold nightW; rw [if_neg hz]; rfl
          refine C.iload dX1_passNight_95 5 rfl ?_
          refine C.iconst (-1) dX1_passNight_97 (by decide) ?_
          refine C.icmp_eq 111 dX1_passNight_98 rfl (fun hc98 => ?_) (fun hc98 => ?_)
          · have hn0 := opI_m1 hc98 (fun x q => by have := mtF_lt q; omega)
            rw [hn0] at hnw
            exact AW.pick [0, 1, 2, 3, 4] rfl (next _ (HmF.refl _ _) (by rw [hnw]; exact hN1) (by rw [hnw]; exact hC1))
          · obtain ⟨hh, hhe⟩ : ∃ hh, mtF d ride (wkS a.1 i) i = some hh := by
              cases hq2 : mtF d ride (wkS a.1 i) i with
              | none => rw [hq2] at hc98; exact absurd rfl hc98
              | some x => exact ⟨x, rfl⟩
            have h12 := mtF_lt hhe
            rw [hhe] at hnw
            rw [hhe]
            refine C.aload_n dX1_passNight_101 0 rfl ?_
            refine C.aload_n dX1_passNight_102 1 rfl ?_
            refine C.aload_n dX1_passNight_103 2 rfl ?_
            refine C.iload dX1_passNight_104 4 rfl ?_
            refine C.iload dX1_passNight_106 5 rfl ?_
            refine C.callVV lX1_71 dX1_passNight_108 (kh_meet hSh hb hR1 hW hN1 hS1w hC1 hlt h12) hSh.o37 rfl rfl (Nat.le_of_ble_eq_true rfl) (Nat.zero_le _) (Nat.zero_le _) (Nat.le_of_ble_eq_true rfl) (fun μ108 h108 => ?_)
            first | exact AW.pick [0, 1, 2, 3, 4] rfl (next _ h108.2.2 (by rw [hnw]; exact h108.1) (by rw [hnw]; exact h108.2.1)) | exact AW.pick [0, 1, 2, 3, 4] rfl (next _ ⟨rfl, fun x k _ _ _ q4 _ => by rw [mI_sI, if_neg (by omega)]⟩ (by rw [hnw]; exact hN1.put hwl (fun x k q1 q2 q3 => by rw [mI_sI, if_neg (by omega)]) (by rw [mI_sI, if_neg (by omega)]; exact g1) (by rw [mI_sI, if_neg (by omega)]; exact g2) (by rw [mI_sI, if_neg (by omega)]; exact g3) (by rw [mI_sI, if_pos ⟨rfl, rfl⟩]; rfl)) (by rw [hnw]; exact ⟨by rw [mI_sI, if_neg (by omega)]; exact hC1.1, by rw [mI_sI, if_neg (by omega)]; exact hC1.2.1, by rw [mI_sI, if_neg (by omega)]; exact hC1.2.2⟩))
        · have hpos : 0 < (wkS a.1 i).2.2.2 := by
            rcases Nat.eq_zero_or_pos (wkS a.1 i).2.2.2 with q | q
            · rw [q] at hc78; exact absurd (by decide) hc78
            · exact q
          have hnw : nightW d ride false false a i = (putW a.1 i (setW (wkS a.1 i) 3 ((wkS a.1 i).2.2.2 - 1)), a.2) := by unfold nightW; rw [if_pos hpos]
          refine C.aload_n dX1_passNight_81 2 rfl ?_
          refine C.getA fX1_67 dX1_passNight_82 hO1.o hO1.r3 ?_
          refine C.iload dX1_passNight_85 4 rfl ?_
          refine C.dup2 dX1_passNight_87 rfl rfl ?_
          refine C.iald hO1.a3 (n_in (by omega)) dX1_passNight_88 ?_
          rw [n_cl, g4]
          refine C.iconst (nI 1) dX1_passNight_89 (by decide) ?_
          refine C.isub dX1_passNight_90 ?_
          rw [pk_sub (by omega)]
          refine C.iast hO1.a3 (n_in (by omega)) dX1_passNight_91 ?_
          rw [n_cl]
          refine C.goto 111 dX1_passNight_92 rfl ?_
          first | exact AW.pick [0, 1, 2, 3, 4] rfl (next _ h108.2.2 (by rw [hnw]; exact h108.1) (by rw [hnw]; exact h108.2.1)) | exact AW.pick [0, 1, 2, 3, 4] rfl (next _ ⟨rfl, fun x k _ _ _ q4 _ => by rw [mI_sI, if_neg (by omega)]⟩ (by rw [hnw]; exact hN1.put hwl (fun x k q1 q2 q3 => by rw [mI_sI, if_neg (by omega)]) (by rw [mI_sI, if_neg (by omega)]; exact g1) (by rw [mI_sI, if_neg (by omega)]; exact g2) (by rw [mI_sI, if_neg (by omega)]; exact g3) (by rw [mI_sI, if_pos ⟨rfl, rfl⟩]; rfl)) (by rw [hnw]; exact ⟨by rw [mI_sI, if_neg (by omega)]; exact hC1.1, by rw [mI_sI, if_neg (by omega)]; exact hC1.2.1, by rw [mI_sI, if_neg (by omega)]; exact hC1.2.2⟩))
  refine C.aload_n dX1_passNight_0 0 rfl ?_
  refine C.getO fX1_20 dX1_passNight_1 hS.o37 hS.r37_1 ?_
  refine C.aload_n dX1_passNight_4 1 rfl ?_
  refine C.aload_n dX1_passNight_5 1 rfl ?_
  refine C.aload_n dX1_passNight_6 2 rfl ?_
  refine C.getI fX1_35 dX1_passNight_7 hO.o ?_
  rw [hN.1.2]
  refine C.callVL lX1_40 dX1_passNight_10 (kl_closedBy hR hW (by omega)) hR.o rfl rfl (Nat.le_of_ble_eq_true rfl) (Nat.zero_le _) (Nat.zero_le _) (Nat.le_of_ble_eq_true rfl) (fun x10 μ10 h10 => ?_)
  obtain ⟨rfl, hμ⟩ := h10
  subst hμ
  refine C.lload_n dX1_passNight_13 3 rfl ?_
  refine C.lor dX1_passNight_14 ?_
  rw [fb_orL, hcl]
  refine C.aload_n dX1_passNight_15 1 rfl ?_
  refine C.getI fX1_46 dX1_passNight_16 hR.o ?_
  rw [hi.1.2.2]
  refine C.aload_n dX1_passNight_19 2 rfl ?_
  refine C.getI fX1_49 dX1_passNight_20 hO.o ?_
  rw [hN.1.1]
  refine C.callVV lX1_52 dX1_passNight_23 (kd_go hS (by omega) hR hW hK hx hfr (by omega)) hS.o38 rfl rfl (Nat.le_of_ble_eq_true rfl) (Nat.zero_le _) (Nat.zero_le _) (Nat.le_of_ble_eq_true rfl) (fun μ23 h23 => ?_)
  obtain ⟨⟨r1, r2, r3, r4, r5⟩, hF⟩ := h23
  rw [hrd] at r2 r3 r4
  have hS : ShC μ23 := hF.sh (by omega) hS
  have hE3 : mL μ23 37 5 = lN E := by rw [hF.2.2.1 37 5 (by omega)]; exact hE
  refine C.aload_n dX1_passNight_26 0 rfl ?_
  refine C.dup dX1_passNight_27 rfl ?_
  refine C.getL fX1_31 dX1_passNight_28 hS.o37 ?_
  rw [hE3]
  refine C.aload_n dX1_passNight_31 0 rfl ?_
  refine C.getO fX1_20 dX1_passNight_32 hS.o37 hS.r37_1 ?_
  refine C.getL fX1_56 dX1_passNight_35 hS.o38 ?_
  rw [r4]
  refine C.lor dX1_passNight_38 ?_
  rw [fb_orL]
  refine C.putL fX1_31 (Or.inl rfl) dX1_passNight_39 hS.o37 ?_
  refine C.aload_n dX1_passNight_42 0 rfl ?_
  refine C.iconst (nI 0) dX1_passNight_43 (by decide) ?_
  refine C.putI fX1_57 (Or.inl rfl) dX1_passNight_44 hS.o37 ?_
  refine C.iconst (nI 0) dX1_passNight_47 (by decide) ?_
  refine C.istore (lv' := [(0, _), (1, _), (2, _), (3, _), (5, _)]) dX1_passNight_48 (nLt hX rfl) rfl ?_
  refine loop d.2.2.2.1.length 0 (S, m, kp, 0) _ _ (by omega) ?_ (HmF.refl sb _) ?_ ⟨r1, fun h hh => ?_⟩ (by simp [mL_sI, mL_sL]) ?_ ⟨?_, ?_, ?_⟩ hSW rfl rfl
  · exact (HnF.ofR hF).trans ⟨rfl, fun _ _ _ => rfl, fun x k _ q2 => by rw [mL_sI, mL_sL, if_neg (by omega)], fun x k _ _ _ _ _ _ q7 => by rw [mI_sI, if_neg (by omega), mI_sL]⟩
  · exact r5.of (Nat.le_refl _) rfl (fun k => by rw [mL_sI, mL_sL, if_neg (by omega)]) (fun x k q => by rw [mI_sI, if_neg (by omega), mI_sL])
  · rw [mI_sI, if_neg (by omega), mI_sL]; exact r2 h hh
  · refine hN.of (fun x k q1 q2 => ?_)
    rw [mI_sI, if_neg (by omega), mI_sL]; exact hF.2.2.2 x k (by omega) (by omega) (by omega) (by omega) (by omega)
  · rw [mI_sI, if_neg (by omega), mI_sL, hF.2.2.2 37 2 (by omega) (by omega) (by omega) (by omega) (by omega)]; exact h2
  · rw [mI_sI, if_neg (by omega), mI_sL, hF.2.2.2 37 3 (by omega) (by omega) (by omega) (by omega) (by omega)]; exact h3
  · rw [mI_sI, if_pos ⟨rfl, rfl⟩]
end KPN
