/-! the reference: one meets it -/

section KN3
variable {l : Launch} {G : Gm} {μ : Mm} {d : Ld} {S : St}
theorem cde (hL : LmH μ 1 1600 d) {v : Nat} (hv : v < 3) : (d.2.2.2.2.2 v = none → mI μ 222 (3 + v) = -1) ∧ (∀ cs, d.2.2.2.2.2 v = some cs → ¬ mI μ 222 (3 + v) = -1) := by
  obtain ⟨k1, k2⟩ := hL.2.2.2.2 v hv
  refine ⟨fun q => k1 q, fun cs q => ?_⟩
  obtain ⟨f, f1, f2, f3, f4⟩ := k2 cs q
  rw [show 3 * 1 + v = 3 + v by omega] at f2
  rw [f2]
  exact n_m1 (by omega)
theorem kn_meets (hS : ShM μ) (hL : LmH μ 1 1600 d) (hW : Wf d) (hC : LdC d) {th : Bool} (ht : mI μ 179 67 = bI th) {a : Ac} (hN : RfN μ a.1) (hSW : SWf d a.1) (h68 : mI μ 179 68 = nI a.2.1) (h69 : mI μ 179 69 = nI a.2.2.1) (h70 : mI μ 179 70 = nI a.2.2.2) {w h : Nat} (hw : w < d.2.2.2.1.length) (hh : h < 12) : AMet l G 3 0 0 mtX13_meetsIt [.ref (G.1 + 179), .int (nI w), .int (nI h)] μ (qI (fun x μ' => x = bI (keepB d (pvM h a.1.1.1 (wkS a.1 w)) (wkS a.1 w)) ∧ RfN μ' (a.1.1, a.1.2.1.set w ((wkS a.1 w).1, min 9999 ((wkS a.1 w).2.1 + 1), purN (wkS a.1 w).2.2.1 (payV d (pvM h a.1.1.1 (wkS a.1 w))), (wkS a.1 w).2.2.2), (meetA d th a w h).1.2.2) ∧ mI μ' 179 68 = nI (meetA d th a w h).2.1 ∧ mI μ' 179 69 = nI (meetA d th a w h).2.2.1 ∧ mI μ' 179 70 = nI (meetA d th a w h).2.2.2 ∧ TmH μ μ')) := by
  refine AMet.of (by decide) (Nat.le_of_ble_eq_true rfl) (fun X C hX hnm hq => ?_)
  have w6 := hW.2.2.2.1.1
  have hwl : w < a.1.2.1.length := by rw [hSW.2.2.1]; exact hw
  have hx := hSW.wk hw
  have hng := hSW.1
  have hl6 : a.1.2.1.length ≤ 6 := by rw [hSW.2.2.1]; exact w6
  have h40 := hSW.2.2.2.2.1
  obtain ⟨S, m, kq, ms⟩ := a
  dsimp only at *
  unfold meetA at hq
  dsimp only at hq
  generalize hxx : wkS S w = x at *
  generalize hpv : pvM h S.1.1 x = pv at *
  generalize hkp : keepB d pv x = kp at *
  generalize hpay : payV d pv = pay at *
  have hS1 := hS
  have key : ∀ μ1 : Mm, TmH μ μ1 → mI μ1 179 67 = bI th := fun μ1 t => by rw [t.2.1 179 67 (by unfold pG pW; omega) (by decide)]; exact ht
  -- what is told, and the end
  have m187 : ∀ μ1 : Mm, TmH μ μ1 → RfN μ1 (S.1, S.2.1.set w (x.1, min 9999 (x.2.1 + 1), purN x.2.2.1 pay, x.2.2.2), S.2.2) → mI μ1 179 68 = nI (m + 1) → mI μ1 179 69 = nI (if kp then kq + 1 else kq) → mI μ1 179 70 = nI (ms ||| 2 ^ w) → ∀ v5 : Int64, AW l G X 0 0 187 [(0, .ref (G.1 + 179)), (1, .int (nI w)), (2, .int (nI h)), (3, .int (nI (2 + 4 * w))), (4, .int (bI kp)), (5, .long v5)] [] μ1 := by
    intro μ1 hT hN1 c68 c69 c70 v5
    have hS : ShM μ1 := hT.sh hS1
    have hcall : ∀ kk : Nat, kk = (if kp then 1 else 0) → AMet l G 0 0 0 mtX13_isTold [.ref (G.1 + 179), .int (nI h), .int (nI w), .int (nI kk)] μ1 (qV (fun μ' => RfN μ' (S.1, S.2.1.set w (x.1, min 9999 (x.2.1 + 1), purN x.2.2.1 pay, x.2.2.2), tellF th S.2.2 (S.1.1, h, w, if kp then 1 else 0)) ∧ μ'.2 = μ1.2 ∧ ∀ a k, a ≠ 225 → mI μ' a k = mI μ1 a k)) := by
      intro kk hkk
      rw [← hkk]
      exact kn_told hS hN1 (by simp only [List.length_set]; exact hl6) h40 (key μ1 hT) h w kk
    have fin : ∀ μ2 : Mm, RfN μ2 (S.1, S.2.1.set w (x.1, min 9999 (x.2.1 + 1), purN x.2.2.1 pay, x.2.2.2), tellF th S.2.2 (S.1.1, h, w, if kp then 1 else 0)) → μ2.2 = μ1.2 → (∀ a k, a ≠ 225 → mI μ2 a k = mI μ1 a k) → AW l G X 0 0 203 [(0, .ref (G.1 + 179)), (1, .int (nI w)), (2, .int (nI h)), (3, .int (nI (2 + 4 * w))), (4, .int (bI kp)), (5, .long v5)] [] μ2 := by
      intro μ2 hN2 he ho
      refine C.iload dX13_meetsIt_203 4 rfl ?_
      refine C.zret hq dX13_meetsIt_205 (by cases kp; exact Or.inl rfl; exact Or.inr rfl) ?_
      exact ⟨rfl, hN2, by rw [ho _ _ (by decide)]; exact c68, by rw [ho _ _ (by decide)]; exact c69, by rw [ho _ _ (by decide)]; exact c70, ⟨by rw [he]; exact hT.1, fun a k q q3 => by rw [ho a k q3]; exact hT.2.1 a k q q3, fun a k q => by rw [show mL μ2 = mL μ1 from by unfold mL; rw [he]]; exact hT.2.2 a k q⟩⟩
    refine C.aload_n dX13_meetsIt_187 0 rfl ?_
    refine C.iload_n dX13_meetsIt_188 2 rfl ?_
    refine C.iload_n dX13_meetsIt_189 1 rfl ?_
    refine C.iload dX13_meetsIt_190 4 rfl ?_
    refine C.if_eq 199 dX13_meetsIt_192 rfl (fun hc192 => ?_) (fun hc192 => ?_)
    · have hk0 : kp = false := (bI_0 kp).mp hc192
      refine C.iconst (nI 0) dX13_meetsIt_199 (by decide) ?_
      refine C.callVV lX13_512 dX13_meetsIt_200 (hcall _ (by first | (rw [hk0]; rfl) | (rw [hk1]; rfl))) hS.o rfl rfl (Nat.le_of_ble_eq_true rfl) (Nat.zero_le _) (Nat.zero_le _) (Nat.le_of_ble_eq_true rfl) (fun μ200 h200 => ?_)
      exact fin _ h200.1 h200.2.1 h200.2.2
    · have hk1 : kp = true := b_t hc192
      refine C.iconst (nI 1) dX13_meetsIt_195 (by decide) ?_
      refine C.goto 200 dX13_meetsIt_196 rfl ?_
      refine C.callVV lX13_512 dX13_meetsIt_200 (hcall _ (by first | (rw [hk0]; rfl) | (rw [hk1]; rfl))) hS.o rfl rfl (Nat.le_of_ble_eq_true rfl) (Nat.zero_le _) (Nat.zero_le _) (Nat.le_of_ble_eq_true rfl) (fun μ200 h200 => ?_)
      exact fin _ h200.1 h200.2.1 h200.2.2
  have m150 : ∀ μ1 : Mm, TmH μ μ1 → RfN μ1 (S.1, S.2.1.set w (x.1, min 9999 (x.2.1 + 1), purN x.2.2.1 pay, x.2.2.2), S.2.2) → mI μ1 179 68 = nI m → mI μ1 179 69 = nI kq → mI μ1 179 70 = nI ms → ∀ v5 : Int64, AW l G X 0 0 150 [(0, .ref (G.1 + 179)), (1, .int (nI w)), (2, .int (nI h)), (3, .int (nI (2 + 4 * w))), (4, .int (bI kp)), (5, .long v5)] [] μ1 := by
    intro μ1 hT hN1 c68 c69 c70 v5
    have hS : ShM μ1 := hT.sh hS1
    have hT2 := (hT.st (k := 68) (by unfold pG; omega) (nI (m + 1))).st (k := 70) (by unfold pG; omega) (nI (ms ||| 2 ^ w))
    have hN2 : RfN (sI (sI μ1 179 68 (nI (m + 1))) 179 70 (nI (ms ||| 2 ^ w))) _ := (hN1.s9 68 (nI (m + 1))).s9 70 (nI (ms ||| 2 ^ w))
    have d69 : mI (sI (sI μ1 179 68 (nI (m + 1))) 179 70 (nI (ms ||| 2 ^ w))) 179 69 = nI kq := by rw [mI_sI, if_neg (by omega), mI_sI, if_neg (by omega)]; exact c69
    have d70 : mI (sI μ1 179 68 (nI (m + 1))) 179 70 = nI ms := by rw [mI_sI, if_neg (by omega)]; exact c70
    have e68 : ∀ v, mI (sI (sI (sI μ1 179 68 (nI (m + 1))) 179 70 (nI (ms ||| 2 ^ w))) 179 69 v) 179 68 = nI (m + 1) := fun v => by rw [mI_sI, if_neg (by omega), mI_sI, if_neg (by omega), mI_sI, if_pos ⟨rfl, rfl⟩]
    refine C.aload_n dX13_meetsIt_150 0 rfl ?_
    refine C.dup dX13_meetsIt_151 rfl ?_
    refine C.getI fX13_503 dX13_meetsIt_152 hS.o ?_
    rw [c68]
    refine C.iconst (nI 1) dX13_meetsIt_155 (by decide) ?_
    refine C.iadd dX13_meetsIt_156 ?_
    rw [nI_add]
    refine C.putI fX13_503 (Or.inl rfl) dX13_meetsIt_157 hS.o ?_
    refine C.aload_n dX13_meetsIt_160 0 rfl ?_
    refine C.dup dX13_meetsIt_161 rfl ?_
    refine C.getI fX13_506 dX13_meetsIt_162 hS.o ?_
    rw [d70]
    refine C.iconst (nI 1) dX13_meetsIt_165 (by decide) ?_
    refine C.iload_n dX13_meetsIt_166 1 rfl ?_
    refine C.ishl dX13_meetsIt_167 ?_
    refine C.ior dX13_meetsIt_168 ?_
    rw [ms_or (by omega)]
    refine C.putI fX13_506 (Or.inl rfl) dX13_meetsIt_169 hS.o ?_
    refine C.iload dX13_meetsIt_172 4 rfl ?_
    refine C.if_eq 187 dX13_meetsIt_174 rfl (fun hc174 => ?_) (fun hc174 => ?_)
    · have hk0 : kp = false := (bI_0 kp).mp hc174
      refine m187 _ hT2 hN2 (by rw [mI_sI, if_neg (by omega), mI_sI, if_pos ⟨rfl, rfl⟩]) (by rw [d69, hk0]; rfl) (by rw [mI_sI, if_pos ⟨rfl, rfl⟩]) v5
    · have hk1 : kp = true := b_t hc174
      refine C.aload_n dX13_meetsIt_177 0 rfl ?_
      refine C.dup dX13_meetsIt_178 rfl ?_
      refine C.getI fX13_509 dX13_meetsIt_179 hS.o ?_
      rw [d69]
      refine C.iconst (nI 1) dX13_meetsIt_182 (by decide) ?_
      refine C.iadd dX13_meetsIt_183 ?_
      rw [nI_add]
      refine C.putI fX13_509 (Or.inl rfl) dX13_meetsIt_184 hS.o ?_
      exact m187 _ (hT2.st (by unfold pG; omega) _) (hN2.s9 _ _) (e68 _) (by rw [mI_sI, if_pos ⟨rfl, rfl⟩, hk1]; rfl) (by rw [mI_sI, if_neg (by omega), mI_sI, if_pos ⟨rfl, rfl⟩]) v5
  have m123 : ∀ μ1 : Mm, TmH μ μ1 → RfN μ1 S → mI μ1 179 68 = nI m → mI μ1 179 69 = nI kq → mI μ1 179 70 = nI ms → ∀ v5 : Int64, AW l G X 0 0 123 [(0, .ref (G.1 + 179)), (1, .int (nI w)), (2, .int (nI h)), (3, .int (nI (2 + 4 * w))), (4, .int (bI kp)), (5, .long v5)] [.int (nI (purN x.2.2.1 pay)), .int (nI (2 + 4 * w + 2)), .ref (G.1 + 225)] μ1 := by
    intro μ1 hT hN1 c68 c69 c70 v5
    have hS : ShM μ1 := hT.sh hS1
    have hN2 := hN1.st (w := w) (j := 2) (purN x.2.2.1 pay) hwl (by decide) hl6
    have hT2 := hT.now (2 + 4 * w + 2) (nI (purN x.2.2.1 pay))
    rw [hxx] at hN2
    have hb2 := (hN2.wk (w := w) (by rw [putW_len]; exact hwl)).2.1
    rw [wkS_put hwl] at hb2
    have hb3 : (setW x 2 (purN x.2.2.1 pay)).2.1 = x.2.1 := rfl
    rw [hb3] at hb2
    have hN3 := hN2.st (w := w) (j := 1) (x.2.1 + 1) (by rw [putW_len]; exact hwl) (by decide) (by rw [putW_len]; exact hl6)
    rw [wkS_put hwl, putW_put] at hN3
    have hT3 := hT2.now (2 + 4 * w + 1) (nI (x.2.1 + 1))
    refine C.iast hS.a59 (n_in (by omega)) dX13_meetsIt_123 ?_
    rw [n_cl]
    refine C.aload_n dX13_meetsIt_124 0 rfl ?_
    refine C.getA fX13_151 dX13_meetsIt_125 hS.o hS.r59 ?_
    refine C.iload_n dX13_meetsIt_128 3 rfl ?_
    refine C.iconst (nI 1) dX13_meetsIt_129 (by decide) ?_
    refine C.iadd dX13_meetsIt_130 ?_
    rw [nI_add]
    refine C.iald hS.a59 (n_in (by omega)) dX13_meetsIt_131 ?_
    rw [n_cl, hb2]
    refine C.sipush (nI 9999) dX13_meetsIt_132 (by decide) ?_
    refine C.icmp_ge 150 dX13_meetsIt_135 rfl (fun hc135 => ?_) (fun hc135 => ?_)
    · have hx2 := hx.2.1
      have hge := n_le (a := 9999) (b := x.2.1) hc135
      have hmin : min 9999 (x.2.1 + 1) = x.2.1 := by have := hx.2.1; omega
      exact m150 _ hT2 (by rw [hmin]; exact hN2) c68 c69 c70 v5
    · have hx2 := hx.2.1
      have hlt := n_nle (a := 9999) (b := x.2.1) hc135
      have hmin : min 9999 (x.2.1 + 1) = x.2.1 + 1 := by omega
      refine C.aload_n dX13_meetsIt_138 0 rfl ?_
      refine C.getA fX13_151 dX13_meetsIt_139 hS.o hS.r59 ?_
      refine C.iload_n dX13_meetsIt_142 3 rfl ?_
      refine C.iconst (nI 1) dX13_meetsIt_143 (by decide) ?_
      refine C.iadd dX13_meetsIt_144 ?_
      rw [nI_add]
      refine C.dup2 dX13_meetsIt_145 rfl rfl ?_
      refine C.iald hS.a59 (n_in (by omega)) dX13_meetsIt_146 ?_
      rw [n_cl, hb2]
      refine C.iconst (nI 1) dX13_meetsIt_147 (by decide) ?_
      refine C.iadd dX13_meetsIt_148 ?_
      rw [nI_add]
      refine C.iast hS.a59 (n_in (by omega)) dX13_meetsIt_149 ?_
      first | skip
      rw [n_cl]
      exact m150 _ hT3 (by rw [hmin]; exact hN3) c68 c69 c70 v5
  have m84 : ∀ μ1 : Mm, TmH μ μ1 → RfN μ1 S → mI μ1 179 68 = nI m → mI μ1 179 69 = nI kq → mI μ1 179 70 = nI ms → AW l G X 0 0 84 [(0, .ref (G.1 + 179)), (1, .int (nI w)), (2, .int (nI h)), (3, .int (nI (2 + 4 * w))), (4, .int (bI kp))] [.long pay, .long (lN x.2.2.1)] μ1 := by
    intro μ1 hT hN1 c68 c69 c70
    have hS : ShM μ1 := hT.sh hS1
    have g := m123 μ1 hT hN1 c68 c69 c70
    refine C.ladd dX13_meetsIt_84 ?_
    refine C.lstore (lv' := [(0, _), (1, _), (2, _), (3, _), (4, _), (5, _)]) dX13_meetsIt_85 (nLt hX rfl) rfl ?_
    refine C.aload_n dX13_meetsIt_87 0 rfl ?_
    refine C.getA fX13_151 dX13_meetsIt_88 hS.o hS.r59 ?_
    refine C.iload_n dX13_meetsIt_91 3 rfl ?_
    refine C.iconst (nI 2) dX13_meetsIt_92 (by decide) ?_
    refine C.iadd dX13_meetsIt_93 ?_
    rw [nI_add]
    refine C.lload dX13_meetsIt_94 5 rfl ?_
    refine C.lconst (lN 0) dX13_meetsIt_96 (by decide) ?_
    refine C.lcmp dX13_meetsIt_97 ?_
    refine C.if_ge 105 dX13_meetsIt_98 rfl (fun hc98 => ?_) (fun hc98 => ?_)
    · have h0 : 0 ≤ lN x.2.2.1 + pay := cmp_ge.mp hc98
      refine C.lload dX13_meetsIt_105 5 rfl ?_
      refine C.ldc2 kX13_501 dX13_meetsIt_107 ?_
      refine C.lcmp dX13_meetsIt_110 ?_
      refine C.if_le 120 dX13_meetsIt_111 rfl (fun hc111 => ?_) (fun hc111 => ?_)
      · have h1 : lN x.2.2.1 + pay ≤ 9999 := cmp_le.mp hc111
        refine C.lload dX13_meetsIt_120 5 rfl ?_
        refine C.l2i dX13_meetsIt_122 ?_
        first | exact g _ | (rw [purN_i _ _ h0 h1]; exact g _)
      · have h1 : ¬ lN x.2.2.1 + pay ≤ 9999 := fun z => hc111 (cmp_le.mpr z)
        have hp0 : purN x.2.2.1 pay = 9999 := by unfold purN; rw [if_neg (fun z => z h0), if_pos h1]
        rw [hp0] at g
        refine C.sipush (nI 9999) dX13_meetsIt_114 (by decide) ?_
        refine C.goto 123 dX13_meetsIt_117 rfl ?_
        first | exact g _ | (rw [purN_i _ _ h0 h1]; exact g _)
    · have h0 : ¬ 0 ≤ lN x.2.2.1 + pay := fun z => hc98 (cmp_ge.mpr z)
      have hp0 : purN x.2.2.1 pay = 0 := by unfold purN; rw [if_pos h0]
      rw [hp0] at g
      refine C.iconst (nI 0) dX13_meetsIt_101 (by decide) ?_
      refine C.goto 123 dX13_meetsIt_102 rfl ?_
      first | exact g _ | (rw [purN_i _ _ h0 h1]; exact g _)
  have m56 : ∀ μ1 : Mm, TmH μ μ1 → RfN μ1 S → mI μ1 179 68 = nI m → mI μ1 179 69 = nI kq → mI μ1 179 70 = nI ms → mI μ1 179 61 = nI h → mI μ1 179 62 = nI S.1.1 → AW l G X 0 0 56 [(0, .ref (G.1 + 179)), (1, .int (nI w)), (2, .int (nI h)), (3, .int (nI (2 + 4 * w)))] [.int (bI kp)] μ1 := by
    intro μ1 hT hN1 c68 c69 c70 c61 c62
    have hS : ShM μ1 := hT.sh hS1
    have hL1 := hT.lm hL
    obtain ⟨k1, k2⟩ := cde hL1 (v := 1) (by decide)
    obtain ⟨b1, b2, b3, b4⟩ := hN1.wk hwl
    rw [hxx] at b1 b2 b3 b4
    have g := m84
    rw [← hpay] at g
    unfold payV at g
    cases hk : d.2.2.2.2.2 1 with
    | none =>
      have h3 := k1 hk
      rw [hk] at g
      refine C.istore (lv' := [(0, _), (1, _), (2, _), (3, _), (4, _)]) dX13_meetsIt_56 (nLt hX rfl) rfl ?_
      refine C.aload_n dX13_meetsIt_58 0 rfl ?_
      refine C.iload_n dX13_meetsIt_59 1 rfl ?_
      refine C.callVI lX13_498 dX13_meetsIt_60 (ke_purse hS (i := w) (by omega)) hS.o rfl rfl (Nat.le_of_ble_eq_true rfl) (Nat.zero_le _) (Nat.zero_le _) (Nat.le_of_ble_eq_true rfl) (fun x60 μ60 h60 => ?_)
      obtain ⟨rfl, hμ⟩ := h60
      subst hμ
      rw [b3]
      refine C.i2l dX13_meetsIt_63 ?_
      rw [nI_l (by have := hx.2.2.1; omega)]
      refine C.aload_n dX13_meetsIt_64 0 rfl ?_
      refine C.getA fX13_142 dX13_meetsIt_65 hS.o hS.r52 ?_
      refine C.iconst (nI 4) dX13_meetsIt_68 (by decide) ?_
      refine C.iald hS.a52 (n_in (by decide)) dX13_meetsIt_69 ?_
      rw [n_cl, h3]
      refine C.iconst (-1) dX13_meetsIt_70 (by decide) ?_
      refine C.icmp_ne 78 dX13_meetsIt_71 rfl (fun hc71 => ?_) (fun hc71 => ?_)
      · exact absurd rfl hc71
      · refine C.lconst (lN 0) dX13_meetsIt_74 (by decide) ?_
        refine C.goto 84 dX13_meetsIt_75 rfl ?_
        exact g _ hT hN1 c68 c69 c70
    | some cs =>
      have h3 := k2 cs hk
      rw [hk] at g
      refine C.istore (lv' := [(0, _), (1, _), (2, _), (3, _), (4, _)]) dX13_meetsIt_56 (nLt hX rfl) rfl ?_
      refine C.aload_n dX13_meetsIt_58 0 rfl ?_
      refine C.iload_n dX13_meetsIt_59 1 rfl ?_
      refine C.callVI lX13_498 dX13_meetsIt_60 (ke_purse hS (i := w) (by omega)) hS.o rfl rfl (Nat.le_of_ble_eq_true rfl) (Nat.zero_le _) (Nat.zero_le _) (Nat.le_of_ble_eq_true rfl) (fun x60 μ60 h60 => ?_)
      obtain ⟨rfl, hμ⟩ := h60
      subst hμ
      rw [b3]
      refine C.i2l dX13_meetsIt_63 ?_
      rw [nI_l (by have := hx.2.2.1; omega)]
      refine C.aload_n dX13_meetsIt_64 0 rfl ?_
      refine C.getA fX13_142 dX13_meetsIt_65 hS.o hS.r52 ?_
      refine C.iconst (nI 4) dX13_meetsIt_68 (by decide) ?_
      refine C.iald hS.a52 (n_in (by decide)) dX13_meetsIt_69 ?_
      rw [n_cl]
      refine C.iconst (-1) dX13_meetsIt_70 (by decide) ?_
      refine C.icmp_ne 78 dX13_meetsIt_71 rfl (fun hc71 => ?_) (fun hc71 => ?_)
      · refine C.aload_n dX13_meetsIt_78 0 rfl ?_
        refine C.iconst (nI 1) dX13_meetsIt_79 (by decide) ?_
        refine C.iload_n dX13_meetsIt_80 1 rfl ?_
        refine C.callVL lX13_459 dX13_meetsIt_81 (kn_tell hS hL1 hC (Or.inl rfl) hk (by omega) hh (by omega) c61 c62 hx b1 b2 b3) hS.o rfl rfl (Nat.le_of_ble_eq_true rfl) (Nat.zero_le _) (Nat.zero_le _) (Nat.le_of_ble_eq_true rfl) (fun x81 μ81 h81 => ?_)
        obtain ⟨rfl, hT2⟩ := h81
        rw [hpv]
        exact g _ (hT.trans (TmH.ofC hT2 (fun k q => by unfold pC at q; unfold pW; omega))) (hN1.tc hT2) (by rw [hT2.2.1 _ _ (by unfold pC; omega)]; exact c68) (by rw [hT2.2.1 _ _ (by unfold pC; omega)]; exact c69) (by rw [hT2.2.1 _ _ (by unfold pC; omega)]; exact c70)
      · exact absurd hc71 h3
  have m21 : ∀ μ1 : Mm, TmH μ μ1 → RfN μ1 S → mI μ1 179 68 = nI m → mI μ1 179 69 = nI kq → mI μ1 179 70 = nI ms → mI μ1 179 61 = nI h → mI μ1 179 62 = nI S.1.1 → AW l G X 0 0 21 [(0, .ref (G.1 + 179)), (1, .int (nI w)), (2, .int (nI h)), (3, .int (nI (2 + 4 * w)))] [] μ1 := by
    intro μ1 hT hN1 c68 c69 c70 c61 c62
    have hS : ShM μ1 := hT.sh hS1
    have hL1 := hT.lm hL
    obtain ⟨k1, k2⟩ := cde hL1 (v := 2) (by decide)
    obtain ⟨b1, b2, b3, b4⟩ := hN1.wk hwl
    rw [hxx] at b1 b2 b3 b4
    have g := m56
    rw [← hkp] at g
    unfold keepB at g
    have x3 := hx.1
    cases hk : d.2.2.2.2.2 2 with
    | none =>
      have h3 := k1 hk
      rw [hk] at g
      refine C.aload_n dX13_meetsIt_21 0 rfl ?_
      refine C.iload_n dX13_meetsIt_22 1 rfl ?_
      refine C.callVI lX13_486 dX13_meetsIt_23 (ke_manner hS (i := w) (by omega)) hS.o rfl rfl (Nat.le_of_ble_eq_true rfl) (Nat.zero_le _) (Nat.zero_le _) (Nat.le_of_ble_eq_true rfl) (fun x23 μ23 h23 => ?_)
      obtain ⟨rfl, hμ⟩ := h23
      subst hμ
      rw [b1]
      refine C.iconst (nI 1) dX13_meetsIt_26 (by decide) ?_
      refine C.icmp_eq 51 dX13_meetsIt_27 rfl (fun hc27 => ?_) (fun hc27 => ?_)
      · have h1 : x.1 = 1 := n_eq (a := x.1) (b := 1) hc27
        refine C.iconst (nI 1) dX13_meetsIt_51 (by decide) ?_
        refine C.goto 56 dX13_meetsIt_52 rfl ?_
        have g2 := g _ hT hN1 c68 c69 c70 c61 c62
        first | (rw [decide_eq_true h1] at g2; exact g2) | (rw [decide_eq_false h1] at g2; exact g2)
      · have h1 : ¬ x.1 = 1 := n_ne hc27
        refine C.aload_n dX13_meetsIt_30 0 rfl ?_
        refine C.getA fX13_142 dX13_meetsIt_31 hS.o hS.r52 ?_
        refine C.iconst (nI 5) dX13_meetsIt_34 (by decide) ?_
        refine C.iald hS.a52 (n_in (by decide)) dX13_meetsIt_35 ?_
        rw [n_cl, h3]
        refine C.iconst (-1) dX13_meetsIt_36 (by decide) ?_
        refine C.icmp_eq 55 dX13_meetsIt_37 rfl (fun hc37 => ?_) (fun hc37 => ?_)
        · refine C.iconst (nI 0) dX13_meetsIt_55 (by decide) ?_
          have g2 := g _ hT hN1 c68 c69 c70 c61 c62
          first | (rw [decide_eq_true h1] at g2; exact g2) | (rw [decide_eq_false h1] at g2; exact g2)
        · exact absurd rfl hc37
    | some cs =>
      have h3 := k2 cs hk
      rw [hk] at g
      refine C.aload_n dX13_meetsIt_21 0 rfl ?_
      refine C.iload_n dX13_meetsIt_22 1 rfl ?_
      refine C.callVI lX13_486 dX13_meetsIt_23 (ke_manner hS (i := w) (by omega)) hS.o rfl rfl (Nat.le_of_ble_eq_true rfl) (Nat.zero_le _) (Nat.zero_le _) (Nat.le_of_ble_eq_true rfl) (fun x23 μ23 h23 => ?_)
      obtain ⟨rfl, hμ⟩ := h23
      subst hμ
      rw [b1]
      refine C.iconst (nI 1) dX13_meetsIt_26 (by decide) ?_
      refine C.icmp_eq 51 dX13_meetsIt_27 rfl (fun hc27 => ?_) (fun hc27 => ?_)
      · have h1 : x.1 = 1 := n_eq (a := x.1) (b := 1) hc27
        have g2 := g _ hT hN1 c68 c69 c70 c61 c62
        rw [decide_eq_true h1] at g2
        refine C.iconst (nI 1) dX13_meetsIt_51 (by decide) ?_
        refine C.goto 56 dX13_meetsIt_52 rfl ?_
        exact g2
      · have h1 : ¬ x.1 = 1 := n_ne hc27
        refine C.aload_n dX13_meetsIt_30 0 rfl ?_
        refine C.getA fX13_142 dX13_meetsIt_31 hS.o hS.r52 ?_
        refine C.iconst (nI 5) dX13_meetsIt_34 (by decide) ?_
        refine C.iald hS.a52 (n_in (by decide)) dX13_meetsIt_35 ?_
        rw [n_cl]
        refine C.iconst (-1) dX13_meetsIt_36 (by decide) ?_
        refine C.icmp_eq 55 dX13_meetsIt_37 rfl (fun hc37 => ?_) (fun hc37 => ?_)
        · exact absurd hc37 h3
        · refine C.aload_n dX13_meetsIt_40 0 rfl ?_
          refine C.iconst (nI 2) dX13_meetsIt_41 (by decide) ?_
          refine C.iload_n dX13_meetsIt_42 1 rfl ?_
          refine C.callVL lX13_459 dX13_meetsIt_43 (kn_tell hS hL1 hC (Or.inr rfl) hk (by omega) hh (by omega) c61 c62 hx b1 b2 b3) hS.o rfl rfl (Nat.le_of_ble_eq_true rfl) (Nat.zero_le _) (Nat.zero_le _) (Nat.le_of_ble_eq_true rfl) (fun x43 μ43 h43 => ?_)
          obtain ⟨rfl, hT2⟩ := h43
          rw [hpv]
          have g2 := g _ (hT.trans (TmH.ofC hT2 (fun k q => by unfold pC at q; unfold pW; omega))) (hN1.tc hT2) (by rw [hT2.2.1 _ _ (by unfold pC; omega)]; exact c68) (by rw [hT2.2.1 _ _ (by unfold pC; omega)]; exact c69) (by rw [hT2.2.1 _ _ (by unfold pC; omega)]; exact c70) (by rw [hT2.2.1 _ _ (by unfold pC; omega)]; exact c61) (by rw [hT2.2.1 _ _ (by unfold pC; omega)]; exact c62)
          rw [decide_eq_false h1, Bool.false_or] at g2
          refine C.lconst (lN 1) dX13_meetsIt_46 (by decide) ?_
          refine C.lcmp dX13_meetsIt_47 ?_
          refine C.if_ne 55 dX13_meetsIt_48 rfl (fun hc48 => ?_) (fun hc48 => ?_)
          · have h4 : ¬ evH pv cs = lN 1 := fun z => hc48 (cmp_eq.mpr z)
            dsimp only at g2
            rw [decide_eq_false h4] at g2
            refine C.iconst (nI 0) dX13_meetsIt_55 (by decide) ?_
            exact g2
          · have h4 : evH pv cs = lN 1 := cmp_eq.mp hc48
            dsimp only at g2
            rw [decide_eq_true h4] at g2
            refine C.iconst (nI 1) dX13_meetsIt_51 (by decide) ?_
            refine C.goto 56 dX13_meetsIt_52 rfl ?_
            exact g2
  have e0 := hN.1
  have d68 : mI (sI (sI μ 179 61 (nI h)) 179 62 (nI S.1.1)) 179 68 = nI m := by rw [mI_sI, if_neg (by omega), mI_sI, if_neg (by omega)]; exact h68
  have d69 : mI (sI (sI μ 179 61 (nI h)) 179 62 (nI S.1.1)) 179 69 = nI kq := by rw [mI_sI, if_neg (by omega), mI_sI, if_neg (by omega)]; exact h69
  have d70 : mI (sI (sI μ 179 61 (nI h)) 179 62 (nI S.1.1)) 179 70 = nI ms := by rw [mI_sI, if_neg (by omega), mI_sI, if_neg (by omega)]; exact h70
  refine C.iconst (nI 2) dX13_meetsIt_0 (by decide) ?_
  refine C.iconst (nI 4) dX13_meetsIt_1 (by decide) ?_
  refine C.iload_n dX13_meetsIt_2 1 rfl ?_
  refine C.imul dX13_meetsIt_3 ?_
  rw [pk_mul]
  refine C.iadd dX13_meetsIt_4 ?_
  rw [nI_add]
  refine C.istore_n (lv' := [(0, _), (1, _), (2, _), (3, _)]) dX13_meetsIt_5 (nLt hX rfl) rfl ?_
  refine C.aload_n dX13_meetsIt_6 0 rfl ?_
  refine C.iload_n dX13_meetsIt_7 2 rfl ?_
  refine C.putI fX13_450 (Or.inl rfl) dX13_meetsIt_8 hS.o ?_
  refine C.aload_n dX13_meetsIt_11 0 rfl ?_
  refine C.aload_n dX13_meetsIt_12 0 rfl ?_
  refine C.getA fX13_151 dX13_meetsIt_13 hS.o hS.r59 ?_
  refine C.iconst (nI 0) dX13_meetsIt_16 (by decide) ?_
  refine C.iald hS.a59 (n_in (by decide)) dX13_meetsIt_17 ?_
  rw [n_cl, show mI (sI μ 179 61 (nI h)) 225 0 = nI S.1.1 from e0]
  refine C.putI fX13_453 (Or.inl rfl) dX13_meetsIt_18 hS.o ?_
  exact m21 _ ((TmH.refl.st (by unfold pG pW; omega) _).st (by unfold pG pW; omega) _) hN d68 d69 d70 (by rw [mI_sI, if_neg (by omega), mI_sI, if_pos ⟨rfl, rfl⟩]) (by rw [mI_sI, if_pos ⟨rfl, rfl⟩])
end KN3
