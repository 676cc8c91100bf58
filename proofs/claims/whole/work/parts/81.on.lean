/-! the reference: on, see -/

def TpC (μ : Mm) (tp : List Nat) : Prop := ∀ j, j < tp.length → mI μ 180 j = nI (txL tp j) ∧ txL tp j < 256
section KON
variable {l : Launch} {G : Gm} {μ : Mm} {h : Hs}
theorem RfT.tpc {tp : List Nat} (t : RfT μ tp) : TpC μ tp := fun j hj => t.2.2 j _ (txL_q hj)
theorem two_lt {f : Nat → Nat} {k : Nat} (h1 : f k < 256) (h2 : f (k + 1) < 256) : two f k < 65536 := by unfold two; omega
theorem kr_isImage {μ1 : Mm} {h1 : Hs} (hR : RefRel μ1 h1) (hH : HOk h) (eL : ldH h1 = ldH h) (hT : TpC μ1 (tpH h)) (hlen : (tpH h).length ≤ 1600) : AMet l G 1 0 0 mtX13_isImage [.ref (G.1 + 179), .int (nI (tpH h).length)] μ1 (qI (fun x μ' => x = bI (onOk h) ∧ μ' = μ1)) := by
  refine AMet.of (by decide) (Nat.le_of_ble_eq_true rfl) (fun X C hX hnm hq => ?_)
  have hS := hR.1.1
  have hL := hR.2.2.2.2.1.1
  have h57 := hR.2.2.2.2.1.2
  rw [eL] at hL h57
  have sm := hH.1.1.sm
  have no : onOk h = false → AW l G X 0 0 67 [(0, .ref (G.1 + 179)), (1, .int (nI (tpH h).length))] [] μ1 := by
    intro hn
    rw [hn] at hq
    refine C.iconst (nI 0) dX13_isImage_67 (by decide) ?_
    refine C.zret hq dX13_isImage_68 (by decide) ?_
    exact ⟨rfl, rfl⟩
  have no1 : onB h = false → AW l G X 0 0 67 [(0, .ref (G.1 + 179)), (1, .int (nI (tpH h).length))] [] μ1 := fun q => no (by unfold onOk; rw [q]; rfl)
  have loop : ∀ (j k : Nat), k + j = (ldH h).2.2.2.1.length → onB h = true → (tpH h).length = 4 + 6 * (ldH h).2.2.2.1.length → (List.range k).all (onG (txL (tpH h))) = true → AW l G X 0 0 71 [(0, .ref (G.1 + 179)), (1, .int (nI (tpH h).length)), (2, .int (nI (3 + 6 * k)))] [] μ1 := by
    intro j
    induction j with
    | zero =>
      intro k hk hb hn ha
      refine C.iload_n dX13_isImage_71 2 rfl ?_
      refine C.iload_n dX13_isImage_72 1 rfl ?_
      refine C.iconst (nI 1) dX13_isImage_73 (by decide) ?_
      refine C.isub dX13_isImage_74 ?_
      rw [pk_sub (by omega)]
      refine C.icmp_ge 135 dX13_isImage_75 rfl (fun hc75 => ?_) (fun hc75 => ?_)
      · refine C.iconst (nI 1) dX13_isImage_135 (by decide) ?_
        refine C.zret hq dX13_isImage_136 (by decide) ?_
        refine ⟨?_, rfl⟩
        unfold onOk
        rw [hb, ← show k = (ldH h).2.2.2.1.length by omega, ha]
        rfl
      · have := n_nle (a := (tpH h).length - 1) (b := 3 + 6 * k) hc75; omega
    | succ j ih =>
      intro k hk hb hn ha
      have hkl : k < (ldH h).2.2.2.1.length := by omega
      have t0 := hT (3 + 6 * k) (by omega)
      have t1 := hT (3 + 6 * k + 1) (by omega)
      have t2 := hT (3 + 6 * k + 2) (by omega)
      have t3 := hT (3 + 6 * k + 3) (by omega)
      have t4 := hT (3 + 6 * k + 4) (by omega)
      have t5 := hT (3 + 6 * k + 5) (by omega)
      have bad : onG (txL (tpH h)) k = false → AW l G X 0 0 127 [(0, .ref (G.1 + 179)), (1, .int (nI (tpH h).length)), (2, .int (nI (3 + 6 * k)))] [] μ1 := by
        intro hg
        have hn : onOk h = false := by unfold onOk; rw [all_le hkl hg, Bool.and_false]
        rw [hn] at hq
        refine C.iconst (nI 0) dX13_isImage_127 (by decide) ?_
        refine C.zret hq dX13_isImage_128 (by decide) ?_
        exact ⟨rfl, rfl⟩
      have w1 := two_lt (f := txL (tpH h)) t1.2 t2.2
      have w2 := two_lt (f := txL (tpH h)) t3.2 t4.2
      unfold onG at bad
      refine C.iload_n dX13_isImage_71 2 rfl ?_
      refine C.iload_n dX13_isImage_72 1 rfl ?_
      refine C.iconst (nI 1) dX13_isImage_73 (by decide) ?_
      refine C.isub dX13_isImage_74 ?_
      rw [pk_sub (by omega)]
      refine C.icmp_ge 135 dX13_isImage_75 rfl (fun hc75 => ?_) (fun hc75 => ?_)
      · have := n_le (a := (tpH h).length - 1) (b := 3 + 6 * k) hc75; omega
      · refine C.aload_n dX13_isImage_78 0 rfl ?_
        refine C.getA fX13_7 dX13_isImage_79 hS.o hS.r0 ?_
        refine C.iload_n dX13_isImage_82 2 rfl ?_
        refine C.iald hS.a0 (n_in (by omega)) dX13_isImage_83 ?_
        rw [n_cl, t0.1]
        refine C.iconst (nI 3) dX13_isImage_84 (by decide) ?_
        refine C.icmp_gt 127 dX13_isImage_85 rfl (fun hc85 => ?_) (fun hc85 => ?_)
        · have q1 := n_lt (a := 3) (b := txL (tpH h) (3 + 6 * k)) hc85
          exact bad (by rw [decide_eq_false (by omega)]; rfl)
        · have q1 := n_nlt (a := 3) (b := txL (tpH h) (3 + 6 * k)) hc85
          rw [decide_eq_true q1] at bad
          refine C.aload_n dX13_isImage_88 0 rfl ?_
          refine C.iload_n dX13_isImage_89 2 rfl ?_
          refine C.iconst (nI 1) dX13_isImage_90 (by decide) ?_
          refine C.iadd dX13_isImage_91 ?_
          rw [nI_add]
          refine C.callVI lX13_715 dX13_isImage_92 (kn_two hS (by omega) t1.1 t2.1) hS.o rfl rfl (Nat.le_of_ble_eq_true rfl) (Nat.zero_le _) (Nat.zero_le _) (Nat.le_of_ble_eq_true rfl) (fun x92 μ92 h92 => ?_)
          obtain ⟨rfl, hμ⟩ := h92
          subst hμ
          refine C.sipush (nI 9999) dX13_isImage_95 (by decide) ?_
          refine C.icmp_gt 127 dX13_isImage_98 rfl (fun hc98 => ?_) (fun hc98 => ?_)
          · have q2 := n_lt (a := 9999) (b := two (txL (tpH h)) (3 + 6 * k + 1)) hc98
            exact bad (by rw [decide_eq_false (by omega)]; rfl)
          · have q2 := n_nlt (a := 9999) (b := two (txL (tpH h)) (3 + 6 * k + 1)) hc98
            rw [decide_eq_true q2] at bad
            refine C.aload_n dX13_isImage_101 0 rfl ?_
            refine C.iload_n dX13_isImage_102 2 rfl ?_
            refine C.iconst (nI 3) dX13_isImage_103 (by decide) ?_
            refine C.iadd dX13_isImage_104 ?_
            rw [nI_add]
            refine C.callVI lX13_715 dX13_isImage_105 (kn_two hS (by omega) t3.1 t4.1) hS.o rfl rfl (Nat.le_of_ble_eq_true rfl) (Nat.zero_le _) (Nat.zero_le _) (Nat.le_of_ble_eq_true rfl) (fun x105 μ105 h105 => ?_)
            obtain ⟨rfl, hμ⟩ := h105
            subst hμ
            refine C.sipush (nI 9999) dX13_isImage_108 (by decide) ?_
            refine C.icmp_gt 127 dX13_isImage_111 rfl (fun hc111 => ?_) (fun hc111 => ?_)
            · have q3 := n_lt (a := 9999) (b := two (txL (tpH h)) (3 + 6 * k + 3)) hc111
              exact bad (by rw [decide_eq_false (by omega)]; rfl)
            · have q3 := n_nlt (a := 9999) (b := two (txL (tpH h)) (3 + 6 * k + 3)) hc111
              rw [decide_eq_true q3] at bad
              refine C.aload_n dX13_isImage_114 0 rfl ?_
              refine C.getA fX13_7 dX13_isImage_115 hS.o hS.r0 ?_
              refine C.iload_n dX13_isImage_118 2 rfl ?_
              refine C.iconst (nI 5) dX13_isImage_119 (by decide) ?_
              refine C.iadd dX13_isImage_120 ?_
              rw [nI_add]
              refine C.iald hS.a0 (n_in (by omega)) dX13_isImage_121 ?_
              rw [n_cl, t5.1]
              refine C.bipush (nI 99) dX13_isImage_122 (by decide) ?_
              refine C.icmp_le 129 dX13_isImage_124 rfl (fun hc124 => ?_) (fun hc124 => ?_)
              · have q4 := n_le (a := txL (tpH h) (3 + 6 * k + 5)) (b := 99) hc124
                refine C.iinc (lv' := [(0, _), (1, _), (2, _)]) _ dX13_isImage_129 2 rfl rfl (nLt hX rfl) rfl ?_
                refine C.goto 71 dX13_isImage_132 rfl ?_
                have hgo := ih (k + 1) (by omega) hb hn (by rw [all_succ, ha]; unfold onG; rw [decide_eq_true q1, decide_eq_true q2, decide_eq_true q3, decide_eq_true q4]; rfl)
                rw [show 3 + 6 * (k + 1) = 3 + 6 * k + 6 by omega, ← nI_add] at hgo
                exact hgo
              · have q4 := n_nle (a := txL (tpH h) (3 + 6 * k + 5)) (b := 99) hc124
                exact bad (by rw [decide_eq_false (by omega)]; rfl)
  unfold onB at no1 loop
  by_cases hp : 0 < (ldH h).1.1
  · rw [if_pos hp] at h57
    rw [decide_eq_true hp] at no1 loop
    refine C.aload_n dX13_isImage_0 0 rfl ?_
    refine C.getZ fX13_403 dX13_isImage_1 hS.o ?_
    rw [h57]
    refine C.if_eq 67 dX13_isImage_4 rfl (fun hc4 => ?_) (fun hc4 => ?_)
    · exact absurd hc4 (by decide)
    · refine C.iload_n dX13_isImage_7 1 rfl ?_
      refine C.iconst (nI 4) dX13_isImage_8 (by decide) ?_
      refine C.bipush (nI 6) dX13_isImage_9 (by decide) ?_
      refine C.aload_n dX13_isImage_11 0 rfl ?_
      refine C.callVI lX13_416 dX13_isImage_12 (kg_walkerMany hS hL) hS.o rfl rfl (Nat.le_of_ble_eq_true rfl) (Nat.zero_le _) (Nat.zero_le _) (Nat.le_of_ble_eq_true rfl) (fun x12 μ12 h12 => ?_)
      obtain ⟨rfl, hμ⟩ := h12
      subst hμ
      refine C.imul dX13_isImage_15 ?_
      rw [pk_mul]
      refine C.iadd dX13_isImage_16 ?_
      rw [nI_add]
      refine C.icmp_ne 67 dX13_isImage_17 rfl (fun hc17 => ?_) (fun hc17 => ?_)
      · have q1 : ¬ (tpH h).length = 4 + 6 * (ldH h).2.2.2.1.length := n_ne hc17
        exact no1 (by rw [decide_eq_false q1]; rfl)
      · have q1 : (tpH h).length = 4 + 6 * (ldH h).2.2.2.1.length := n_eq hc17
        rw [decide_eq_true q1] at no1 loop
        have t0 := hT ((tpH h).length - 1) (by omega)
        have u0 := hT 0 (by omega)
        have u1 := hT 1 (by omega)
        have u2 := hT 2 (by omega)
        have w0 := two_lt (f := txL (tpH h)) u0.2 u1.2
        have ck := chkN_lt (f := txL (tpH h)) ((tpH h).length - 1)
        have p5 := pow5 sm.2.2.2.1
        refine C.aload_n dX13_isImage_20 0 rfl ?_
        refine C.getA fX13_7 dX13_isImage_21 hS.o hS.r0 ?_
        refine C.iload_n dX13_isImage_24 1 rfl ?_
        refine C.iconst (nI 1) dX13_isImage_25 (by decide) ?_
        refine C.isub dX13_isImage_26 ?_
        rw [pk_sub (by omega)]
        refine C.iald hS.a0 (n_in (by omega)) dX13_isImage_27 ?_
        rw [n_cl, t0.1]
        refine C.aload_n dX13_isImage_28 0 rfl ?_
        refine C.getA fX13_7 dX13_isImage_29 hS.o hS.r0 ?_
        refine C.iload_n dX13_isImage_32 1 rfl ?_
        refine C.iconst (nI 1) dX13_isImage_33 (by decide) ?_
        refine C.isub dX13_isImage_34 ?_
        rw [pk_sub (by omega)]
        refine C.callSI lX13_711 dX13_isImage_35 (kn_checked (f := txL (tpH h)) (n := (tpH h).length - 1) hS.a0 (by omega) (by decide) (fun i hi => ⟨(hT i (by omega)).1, by have := (hT i (by omega)).2; omega⟩)) rfl rfl (Nat.le_of_ble_eq_true rfl) (Nat.zero_le _) (Nat.zero_le _) (Nat.le_of_ble_eq_true rfl) (fun x35 μ35 h35 => ?_)
        obtain ⟨rfl, hμ⟩ := h35
        subst hμ
        refine C.icmp_ne 67 dX13_isImage_38 rfl (fun hc38 => ?_) (fun hc38 => ?_)
        · have q2 : ¬ txL (tpH h) ((tpH h).length - 1) = chkN (txL (tpH h)) ((tpH h).length - 1) := n_ne hc38
          exact no1 (by rw [decide_eq_false q2]; rfl)
        · have q2 : txL (tpH h) ((tpH h).length - 1) = chkN (txL (tpH h)) ((tpH h).length - 1) := n_eq hc38
          rw [decide_eq_true q2] at no1 loop
          refine C.aload_n dX13_isImage_41 0 rfl ?_
          refine C.iconst (nI 0) dX13_isImage_42 (by decide) ?_
          refine C.callVI lX13_715 dX13_isImage_43 (kn_two hS (by decide) u0.1 u1.1) hS.o rfl rfl (Nat.le_of_ble_eq_true rfl) (Nat.zero_le _) (Nat.zero_le _) (Nat.le_of_ble_eq_true rfl) (fun x43 μ43 h43 => ?_)
          obtain ⟨rfl, hμ⟩ := h43
          subst hμ
          refine C.sipush (nI 999) dX13_isImage_46 (by decide) ?_
          refine C.icmp_gt 67 dX13_isImage_49 rfl (fun hc49 => ?_) (fun hc49 => ?_)
          · have q3 := n_lt (a := 999) (b := two (txL (tpH h)) 0) hc49
            exact no1 (by rw [decide_eq_false (p := two (txL (tpH h)) 0 ≤ 999) (by omega)]; rfl)
          · have q3 := n_nlt (a := 999) (b := two (txL (tpH h)) 0) hc49
            rw [decide_eq_true q3] at no1 loop
            refine C.aload_n dX13_isImage_52 0 rfl ?_
            refine C.getA fX13_7 dX13_isImage_53 hS.o hS.r0 ?_
            refine C.iconst (nI 2) dX13_isImage_56 (by decide) ?_
            refine C.iald hS.a0 (n_in (by decide)) dX13_isImage_57 ?_
            rw [n_cl, u2.1]
            refine C.iconst (nI 1) dX13_isImage_58 (by decide) ?_
            refine C.aload_n dX13_isImage_59 0 rfl ?_
            refine C.callVI lX13_413 dX13_isImage_60 (kg_bellMany hS hL) hS.o rfl rfl (Nat.le_of_ble_eq_true rfl) (Nat.zero_le _) (Nat.zero_le _) (Nat.le_of_ble_eq_true rfl) (fun x60 μ60 h60 => ?_)
            obtain ⟨rfl, hμ⟩ := h60
            subst hμ
            refine C.ishl dX13_isImage_63 ?_
            rw [shl1 sm.2.2.2.1]
            refine C.icmp_lt 69 dX13_isImage_64 rfl (fun hc64 => ?_) (fun hc64 => ?_)
            · have q4 := n_lt (a := txL (tpH h) 2) (b := 2 ^ (ldH h).2.2.1.length) hc64
              rw [decide_eq_true q4] at loop
              refine C.iconst (nI 3) dX13_isImage_69 (by decide) ?_
              refine C.istore_n (lv' := [(0, _), (1, _), (2, _)]) dX13_isImage_70 (nLt hX rfl) rfl ?_
              exact loop _ 0 (Nat.zero_add _) rfl q1 rfl
            · have q4 := n_nlt (a := txL (tpH h) 2) (b := 2 ^ (ldH h).2.2.1.length) hc64
              exact no1 (by rw [decide_eq_false (by omega)]; rfl)
  · rw [if_neg hp] at h57
    rw [decide_eq_false hp] at no1
    refine C.aload_n dX13_isImage_0 0 rfl ?_
    refine C.getZ fX13_403 dX13_isImage_1 hS.o ?_
    rw [h57]
    refine C.if_eq 67 dX13_isImage_4 rfl (fun hc4 => ?_) (fun hc4 => ?_)
    · exact no1 rfl
    · exact absurd rfl hc4
theorem onOk_len (hk : onOk h = true) : 0 < (ldH h).1.1 ∧ (tpH h).length = 4 + 6 * (ldH h).2.2.2.1.length ∧ two (txL (tpH h)) 0 ≤ 999 ∧ txL (tpH h) 2 < 2 ^ (ldH h).2.2.1.length ∧ ∀ w, w < (ldH h).2.2.2.1.length → onG (txL (tpH h)) w = true := by
  unfold onOk onB at hk
  simp only [Bool.and_eq_true, decide_eq_true_eq, List.all_eq_true] at hk
  exact ⟨hk.1.1, hk.1.2.1, hk.1.2.2.2.1, hk.1.2.2.2.2, fun w hw => hk.2 w (List.mem_range.mpr hw)⟩
theorem kr_on (hR : RefRel μ h) (hH : HOk h) : AMet l G 2 0 0 mtX13_on [.ref (G.1 + 179)] μ (qI (fun x μ' => x = onA h ∧ PR μ (onH h) μ')) := by
  refine AMet.of (by decide) (Nat.le_of_ble_eq_true rfl) (fun X C hX hnm hq => ?_)
  have hS := hR.1.1
  have sm := hH.1.1.sm
  have hlen := hR.2.1.2.1
  have hT := hR.2.1.tpc
  have hR0 := hR.tap 0 (Nat.zero_le _)
  rw [List.take_zero] at hR0
  have hT0 : TpC (sI μ 179 1 (nI 0)) (tpH h) := fun j hj => by rw [mI_sI, if_neg (by omega)]; exact hT j hj
  have hP0 : PR μ ([], flH h, rfH h, ldH h, stH h, psH h, rwH h, ocH h, sdH h) (sI μ 179 1 (nI 0)) := ⟨hR0, (FrR.refl μ).st (by omega) _⟩
  have him := kr_isImage (l := l) (G := G) (h := h) hR0 hH rfl hT0 hlen
  obtain ⟨r5, p5⟩ := hR0.rf2 (j := 5) (by decide)
  unfold onA onH at hq
  generalize hμ0 : sI μ 179 1 (nI 0) = μ0 at *
  have m30 : onOk h = true → AW l G X 0 0 30 [(0, .ref (G.1 + 179)), (1, .int (nI (tpH h).length))] [] μ0 := by
    intro hk
    rw [if_pos hk, hk] at hq
    obtain ⟨hp, hn, h999, hr, hg⟩ := onOk_len hk
    have u0 := hT0 0 (by omega)
    have u1 := hT0 1 (by omega)
    have u2 := hT0 2 (by omega)
    have hS0 := hR0.1.1
    have fin : ∀ (μ1 : Mm) (x2 : Int32), μ1.2 = μ0.2 → (∀ a k, a ≠ 225 → mI μ1 a k = mI μ0 a k) → mI μ1 225 0 = nI (two (txL (tpH h)) 0) → mI μ1 225 1 = nI (txL (tpH h) 2) → (∀ w, w < (ldH h).2.2.2.1.length → mI μ1 225 (2 + 4 * w) = nI (onW (txL (tpH h)) w).1 ∧ mI μ1 225 (2 + 4 * w + 1) = nI (onW (txL (tpH h)) w).2.1 ∧ mI μ1 225 (2 + 4 * w + 2) = nI (onW (txL (tpH h)) w).2.2.1 ∧ mI μ1 225 (2 + 4 * w + 3) = nI (onW (txL (tpH h)) w).2.2.2) → AW l G X 0 0 150 [(0, .ref (G.1 + 179)), (1, .int (nI (tpH h).length)), (2, .int x2)] [] μ1 := by
      intro μ1 x2 he ho e0 e1 ew
      have hS : ShM μ1 := hS0.of (by rw [he])
      refine C.aload_n dX13_on_150 0 rfl ?_
      refine C.getA fX13_151 dX13_on_151 hS.o hS.r59 ?_
      refine C.bipush (nI 26) dX13_on_154 (by decide) ?_
      refine C.iconst (nI 0) dX13_on_156 (by decide) ?_
      refine C.iast hS.a59 (n_in (by decide)) dX13_on_157 ?_
      rw [n_cl]
      refine C.aload_n dX13_on_158 0 rfl ?_
      refine C.iconst (nI 0) dX13_on_159 (by decide) ?_
      refine C.putI fX13_407 (Or.inl rfl) dX13_on_160 hS.o ?_
      refine C.iconst (nI 1) dX13_on_163 (by decide) ?_
      refine C.zret hq dX13_on_164 (by decide) ?_
      refine ⟨rfl, hP0.trans ⟨hR0.of3 (by rw [← he]; rfl) (fun a k _ q q2 q3 => by rw [mI_sI, if_neg (by omega), mI_sI, if_neg (by omega)]; exact ho a k q) ⟨?_, ?_, fun i x q => ?_, ?_, fun i x q => by cases q⟩ ?_ (fun k _ => by show μ1.2.1 _ _ = μ0.2.1 _ _; rw [he]) (by show μ1.2.1 _ _ = μ0.2.1 _ _; rw [he]), FrR.of he (fun a k q => by rw [mI_sI, if_neg (by omega), mI_sI, if_neg (by omega)]; exact ho a k (by omega))⟩⟩
      · rw [mI_sI, if_neg (by omega), mI_sI, if_neg (by omega)]; exact e0
      · rw [mI_sI, if_neg (by omega), mI_sI, if_neg (by omega)]; exact e1
      · have hi := q_lt q
        unfold onS at q hi
        dsimp only at q hi
        rw [List.length_map, List.length_range] at hi
        rw [List.getElem?_map, List.getElem?_range hi] at q
        have q' : onW (txL (tpH h)) i = x := Option.some.inj q
        subst q'
        have := sm.2.2.2.2
        obtain ⟨b1, b2, b3, b4⟩ := ew i hi
        have ho3 : ∀ k, k < 26 → mI (sI (sI μ1 225 26 (nI 0)) 179 76 (nI 0)) 225 k = mI μ1 225 k := fun k hk => by rw [mI_sI, if_neg (by omega), mI_sI, if_neg (by omega)]
        exact ⟨(ho3 _ (by omega)).trans b1, (ho3 _ (by omega)).trans (by rw [← b2]; congr 1; omega), (ho3 _ (by omega)).trans (by rw [← b3]; congr 1; omega), (ho3 _ (by omega)).trans (by rw [← b4]; congr 1; omega)⟩
      · rw [mI_sI, if_neg (by omega), mI_sI, if_pos ⟨rfl, rfl⟩]; rfl
      · obtain ⟨v1, nw, v2, v3, v4⟩ := hR0.2.2.2.2.2.2.1
        exact ⟨by rw [mI_sI, if_pos ⟨rfl, rfl⟩]; rfl, nw, v2, by rw [mI_sI, if_neg (by omega), mI_sI, if_neg (by omega), ho _ _ (by decide)]; exact v3, fun i S q => by cases q⟩
    have loop : ∀ (j w : Nat) (μ1 : Mm), w + j = (ldH h).2.2.2.1.length → μ1.2 = μ0.2 → (∀ a k, a ≠ 225 → mI μ1 a k = mI μ0 a k) → mI μ1 225 0 = nI (two (txL (tpH h)) 0) → mI μ1 225 1 = nI (txL (tpH h) 2) → (∀ v, v < w → mI μ1 225 (2 + 4 * v) = nI (onW (txL (tpH h)) v).1 ∧ mI μ1 225 (2 + 4 * v + 1) = nI (onW (txL (tpH h)) v).2.1 ∧ mI μ1 225 (2 + 4 * v + 2) = nI (onW (txL (tpH h)) v).2.2.1 ∧ mI μ1 225 (2 + 4 * v + 3) = nI (onW (txL (tpH h)) v).2.2.2) → AW l G X 0 0 55 [(0, .ref (G.1 + 179)), (1, .int (nI (tpH h).length)), (2, .int (nI w))] [] μ1 := by
      intro j
      induction j with
      | zero =>
        intro w μ1 hw he ho e0 e1 ew
        have hS : ShM μ1 := hS0.of (by rw [he])
        have hL : LmH μ1 1 1600 (ldH h) := hR0.2.2.2.2.1.1.of (fun a k q _ _ => ho a k (by omega)) (fun a k q _ => ho a k (by omega)) (fun k _ => ho _ k (by omega)) (fun k _ => ho _ k (by omega)) (fun k _ => by show μ1.2.1 _ _ = μ0.2.1 _ _; rw [he])
        refine C.iload_n dX13_on_55 2 rfl ?_
        refine C.aload_n dX13_on_56 0 rfl ?_
        refine C.callVI lX13_416 dX13_on_57 (kg_walkerMany hS hL) hS.o rfl rfl (Nat.le_of_ble_eq_true rfl) (Nat.zero_le _) (Nat.zero_le _) (Nat.le_of_ble_eq_true rfl) (fun x57 μ57 h57 => ?_)
        obtain ⟨rfl, hμ⟩ := h57
        subst hμ
        refine C.icmp_ge 150 dX13_on_60 rfl (fun hc60 => ?_) (fun hc60 => ?_)
        · exact fin _ _ he ho e0 e1 (fun v hv => ew v (by omega))
        · have := n_nle hc60; omega
      | succ j ih =>
        intro w μ1 hw he ho e0 e1 ew
        have hS : ShM μ1 := hS0.of (by rw [he])
        have hL : LmH μ1 1 1600 (ldH h) := hR0.2.2.2.2.1.1.of (fun a k q _ _ => ho a k (by omega)) (fun a k q _ => ho a k (by omega)) (fun k _ => ho _ k (by omega)) (fun k _ => ho _ k (by omega)) (fun k _ => by show μ1.2.1 _ _ = μ0.2.1 _ _; rw [he])
        have tp : ∀ i, i < (tpH h).length → mI μ1 180 i = nI (txL (tpH h) i) := fun i hi => by rw [ho _ _ (by decide)]; exact (hT0 i hi).1
        have w6 := sm.2.2.2.2
        generalize hM1 : sI μ1 225 (2 + 4 * w) (nI (txL (tpH h) (3 + 6 * w))) = M1
        generalize hM2 : sI M1 225 (2 + 4 * w + 1) (nI (two (txL (tpH h)) (3 + 6 * w + 1))) = M2
        generalize hM3 : sI M2 225 (2 + 4 * w + 2) (nI (two (txL (tpH h)) (3 + 6 * w + 3))) = M3
        have s1 : ShM M1 := by rw [← hM1]; exact hS.of rfl
        have s2 : ShM M2 := by rw [← hM2]; exact s1.of rfl
        have s3 : ShM M3 := by rw [← hM3]; exact s2.of rfl
        have o1 : ∀ k, mI M1 180 k = mI μ1 180 k := fun k => by rw [← hM1, mI_sI, if_neg (by omega)]
        have o2 : ∀ k, mI M2 180 k = mI μ1 180 k := fun k => by rw [← hM2, mI_sI, if_neg (by omega)]; exact o1 k
        have o3 : ∀ k, mI M3 180 k = mI μ1 180 k := fun k => by rw [← hM3, mI_sI, if_neg (by omega)]; exact o2 k
        have tw1 := kn_two (l := l) (G := G) (f := txL (tpH h)) s1 (k := 3 + 6 * w + 1) (by omega) (by rw [o1]; exact tp _ (by omega)) (by rw [o1]; exact tp _ (by omega))
        have tw2 := kn_two (l := l) (G := G) (f := txL (tpH h)) s2 (k := 3 + 6 * w + 3) (by omega) (by rw [o2]; exact tp _ (by omega)) (by rw [o2]; exact tp _ (by omega))
        have fnl : ∀ k v, mI (sI M3 225 (2 + 4 * w + 3) v) 225 k = if k = 2 + 4 * w + 3 then v else if k = 2 + 4 * w + 2 then nI (two (txL (tpH h)) (3 + 6 * w + 3)) else if k = 2 + 4 * w + 1 then nI (two (txL (tpH h)) (3 + 6 * w + 1)) else if k = 2 + 4 * w then nI (txL (tpH h) (3 + 6 * w)) else mI μ1 225 k := by
          intro k v
          rw [← hM3, ← hM2, ← hM1, mI_sI, mI_sI, mI_sI, mI_sI]
          simp only [true_and]
        refine C.iload_n dX13_on_55 2 rfl ?_
        refine C.aload_n dX13_on_56 0 rfl ?_
        refine C.callVI lX13_416 dX13_on_57 (kg_walkerMany hS hL) hS.o rfl rfl (Nat.le_of_ble_eq_true rfl) (Nat.zero_le _) (Nat.zero_le _) (Nat.le_of_ble_eq_true rfl) (fun x57 μ57 h57 => ?_)
        obtain ⟨rfl, hμ⟩ := h57
        subst hμ
        refine C.icmp_ge 150 dX13_on_60 rfl (fun hc60 => ?_) (fun hc60 => ?_)
        · have := n_le hc60; omega
        · refine C.iconst (nI 3) dX13_on_63 (by decide) ?_
          refine C.bipush (nI 6) dX13_on_64 (by decide) ?_
          refine C.iload_n dX13_on_66 2 rfl ?_
          refine C.imul dX13_on_67 ?_
          rw [pk_mul]
          refine C.iadd dX13_on_68 ?_
          rw [nI_add]
          refine C.istore_n (lv' := [(0, _), (1, _), (2, _), (3, _)]) dX13_on_69 (nLt hX rfl) rfl ?_
          refine C.aload_n dX13_on_70 0 rfl ?_
          refine C.getA fX13_151 dX13_on_71 hS.o hS.r59 ?_
          refine C.iconst (nI 2) dX13_on_74 (by decide) ?_
          refine C.iconst (nI 4) dX13_on_75 (by decide) ?_
          refine C.iload_n dX13_on_76 2 rfl ?_
          refine C.imul dX13_on_77 ?_
          rw [pk_mul]
          refine C.iadd dX13_on_78 ?_
          rw [nI_add]
          refine C.aload_n dX13_on_79 0 rfl ?_
          refine C.getA fX13_7 dX13_on_80 hS.o hS.r0 ?_
          refine C.iload_n dX13_on_83 3 rfl ?_
          refine C.iald hS.a0 (n_in (by omega)) dX13_on_84 ?_
          rw [n_cl, tp _ (by omega)]
          refine C.iast hS.a59 (n_in (by omega)) dX13_on_85 ?_
          rw [n_cl, hM1]
          have hS := s1
          refine C.aload_n dX13_on_86 0 rfl ?_
          refine C.getA fX13_151 dX13_on_87 hS.o hS.r59 ?_
          refine C.iconst (nI 2) dX13_on_90 (by decide) ?_
          refine C.iconst (nI 4) dX13_on_91 (by decide) ?_
          refine C.iload_n dX13_on_92 2 rfl ?_
          refine C.imul dX13_on_93 ?_
          rw [pk_mul]
          refine C.iadd dX13_on_94 ?_
          rw [nI_add]
          refine C.iconst (nI 1) dX13_on_95 (by decide) ?_
          refine C.iadd dX13_on_96 ?_
          rw [nI_add]
          refine C.aload_n dX13_on_97 0 rfl ?_
          refine C.iload_n dX13_on_98 3 rfl ?_
          refine C.iconst (nI 1) dX13_on_99 (by decide) ?_
          refine C.iadd dX13_on_100 ?_
          rw [nI_add]
          refine C.callVI lX13_715 dX13_on_101 (tw1) hS.o rfl rfl (Nat.le_of_ble_eq_true rfl) (Nat.zero_le _) (Nat.zero_le _) (Nat.le_of_ble_eq_true rfl) (fun x101 μ101 h101 => ?_)
          obtain ⟨rfl, hμ⟩ := h101
          subst hμ
          refine C.iast hS.a59 (n_in (by omega)) dX13_on_104 ?_
          rw [n_cl, hM2]
          have hS := s2
          refine C.aload_n dX13_on_105 0 rfl ?_
          refine C.getA fX13_151 dX13_on_106 hS.o hS.r59 ?_
          refine C.iconst (nI 2) dX13_on_109 (by decide) ?_
          refine C.iconst (nI 4) dX13_on_110 (by decide) ?_
          refine C.iload_n dX13_on_111 2 rfl ?_
          refine C.imul dX13_on_112 ?_
          rw [pk_mul]
          refine C.iadd dX13_on_113 ?_
          rw [nI_add]
          refine C.iconst (nI 2) dX13_on_114 (by decide) ?_
          refine C.iadd dX13_on_115 ?_
          rw [nI_add]
          refine C.aload_n dX13_on_116 0 rfl ?_
          refine C.iload_n dX13_on_117 3 rfl ?_
          refine C.iconst (nI 3) dX13_on_118 (by decide) ?_
          refine C.iadd dX13_on_119 ?_
          rw [nI_add]
          refine C.callVI lX13_715 dX13_on_120 (tw2) hS.o rfl rfl (Nat.le_of_ble_eq_true rfl) (Nat.zero_le _) (Nat.zero_le _) (Nat.le_of_ble_eq_true rfl) (fun x120 μ120 h120 => ?_)
          obtain ⟨rfl, hμ⟩ := h120
          subst hμ
          refine C.iast hS.a59 (n_in (by omega)) dX13_on_123 ?_
          rw [n_cl, hM3]
          have hS := s3
          refine C.aload_n dX13_on_124 0 rfl ?_
          refine C.getA fX13_151 dX13_on_125 hS.o hS.r59 ?_
          refine C.iconst (nI 2) dX13_on_128 (by decide) ?_
          refine C.iconst (nI 4) dX13_on_129 (by decide) ?_
          refine C.iload_n dX13_on_130 2 rfl ?_
          refine C.imul dX13_on_131 ?_
          rw [pk_mul]
          refine C.iadd dX13_on_132 ?_
          rw [nI_add]
          refine C.iconst (nI 3) dX13_on_133 (by decide) ?_
          refine C.iadd dX13_on_134 ?_
          rw [nI_add]
          refine C.aload_n dX13_on_135 0 rfl ?_
          refine C.getA fX13_7 dX13_on_136 hS.o hS.r0 ?_
          refine C.iload_n dX13_on_139 3 rfl ?_
          refine C.iconst (nI 5) dX13_on_140 (by decide) ?_
          refine C.iadd dX13_on_141 ?_
          rw [nI_add]
          refine C.iald hS.a0 (n_in (by omega)) dX13_on_142 ?_
          rw [n_cl, o3, tp _ (by omega)]
          refine C.iast hS.a59 (n_in (by omega)) dX13_on_143 ?_
          refine C.iinc (lv' := [(0, _), (1, _), (2, _), (3, _)]) _ dX13_on_144 2 rfl rfl (nLt hX rfl) rfl ?_
          refine C.goto 55 dX13_on_147 rfl ?_
          first | skip
          rw [n_cl]
          have hgo := ih (w + 1) (sI M3 225 (2 + 4 * w + 3) (nI (txL (tpH h) (3 + 6 * w + 5)))) (by omega) (by rw [← he, ← hM3, ← hM2, ← hM1]; rfl) (fun a k q => by rw [← hM3, ← hM2, ← hM1, mI_sI, if_neg (by omega), mI_sI, if_neg (by omega), mI_sI, if_neg (by omega), mI_sI, if_neg (by omega)]; exact ho a k q) (by rw [fnl, if_neg (by omega), if_neg (by omega), if_neg (by omega), if_neg (by omega)]; exact e0) (by rw [fnl, if_neg (by omega), if_neg (by omega), if_neg (by omega), if_neg (by omega)]; exact e1) (fun v hv => by
            by_cases q : v = w
            · subst q
              refine ⟨?_, ?_, ?_, ?_⟩
              · rw [fnl, if_neg (by omega), if_neg (by omega), if_neg (by omega), if_pos rfl]; rfl
              · rw [fnl, if_neg (by omega), if_neg (by omega), if_pos rfl]; rfl
              · rw [fnl, if_neg (by omega), if_pos rfl]; rfl
              · rw [fnl, if_pos rfl]; rfl
            · obtain ⟨b1, b2, b3, b4⟩ := ew v (by omega)
              refine ⟨?_, ?_, ?_, ?_⟩
              · rw [fnl, if_neg (by omega), if_neg (by omega), if_neg (by omega), if_neg (by omega)]; exact b1
              · rw [fnl, if_neg (by omega), if_neg (by omega), if_neg (by omega), if_neg (by omega)]; exact b2
              · rw [fnl, if_neg (by omega), if_neg (by omega), if_neg (by omega), if_neg (by omega)]; exact b3
              · rw [fnl, if_neg (by omega), if_neg (by omega), if_neg (by omega), if_neg (by omega)]; exact b4)
          rw [← nI_1] at hgo
          exact AW.pick [0, 1, 2] rfl hgo
    have hS := hS0
    have tp0 : ∀ k v, mI (sI μ0 225 k v) 180 2 = nI (txL (tpH h) 2) := fun k v => by rw [mI_sI, if_neg (by omega)]; exact u2.1
    refine C.aload_n dX13_on_30 0 rfl ?_
    refine C.getA fX13_151 dX13_on_31 hS.o hS.r59 ?_
    refine C.iconst (nI 0) dX13_on_34 (by decide) ?_
    refine C.aload_n dX13_on_35 0 rfl ?_
    refine C.iconst (nI 0) dX13_on_36 (by decide) ?_
    refine C.callVI lX13_715 dX13_on_37 (kn_two hS (by decide) u0.1 u1.1) hS.o rfl rfl (Nat.le_of_ble_eq_true rfl) (Nat.zero_le _) (Nat.zero_le _) (Nat.le_of_ble_eq_true rfl) (fun x37 μ37 h37 => ?_)
    obtain ⟨rfl, hμ⟩ := h37
    subst hμ
    refine C.iast hS.a59 (n_in (by decide)) dX13_on_40 ?_
    rw [n_cl]
    refine C.aload_n dX13_on_41 0 rfl ?_
    refine C.getA fX13_151 dX13_on_42 hS.o hS.r59 ?_
    refine C.iconst (nI 1) dX13_on_45 (by decide) ?_
    refine C.aload_n dX13_on_46 0 rfl ?_
    refine C.getA fX13_7 dX13_on_47 hS.o hS.r0 ?_
    refine C.iconst (nI 2) dX13_on_50 (by decide) ?_
    refine C.iald hS.a0 (n_in (by decide)) dX13_on_51 ?_
    rw [n_cl, tp0]
    refine C.iast hS.a59 (n_in (by decide)) dX13_on_52 ?_
    rw [n_cl]
    refine C.iconst (nI 0) dX13_on_53 (by decide) ?_
    refine C.istore_n (lv' := [(0, _), (1, _), (2, _)]) dX13_on_54 (nLt hX rfl) rfl ?_
    exact loop _ 0 _ (Nat.zero_add _) rfl (fun a k q => by rw [mI_sI, if_neg (fun z => q z.1), mI_sI, if_neg (fun z => q z.1)]) (by rw [mI_sI, if_neg (by omega), mI_sI, if_pos ⟨rfl, rfl⟩]) (by rw [mI_sI, if_pos ⟨rfl, rfl⟩]) (fun v hv => by omega)
  have m10 : AW l G X 0 0 10 [(0, .ref (G.1 + 179)), (1, .int (nI (tpH h).length))] [] μ0 := by
    have hS := hR0.1.1
    refine C.aload_n dX13_on_10 0 rfl ?_
    refine C.iload_n dX13_on_11 1 rfl ?_
    refine C.callVI lX13_718 dX13_on_12 (him) hS.o rfl rfl (Nat.le_of_ble_eq_true rfl) (Nat.zero_le _) (Nat.zero_le _) (Nat.le_of_ble_eq_true rfl) (fun x12 μ12 h12 => ?_)
    obtain ⟨rfl, hμ⟩ := h12
    subst hμ
    refine C.if_ne 30 dX13_on_15 rfl (fun hc15 => ?_) (fun hc15 => ?_)
    · exact m30 (b_t hc15)
    · have hz := (bI_0 _).mp hc15
      rw [if_neg (by rw [hz]; decide), hz] at hq
      refine C.aload_n dX13_on_18 0 rfl ?_
      refine C.getA fX13_17 dX13_on_19 hS.o hS.r9 ?_
      refine C.iconst (nI 5) dX13_on_22 (by decide) ?_
      refine C.dup2 dX13_on_23 rfl rfl ?_
      refine C.iald hS.a9 (n_in (by decide)) dX13_on_24 ?_
      rw [n_cl, r5]
      refine C.iconst (nI 1) dX13_on_25 (by decide) ?_
      refine C.iadd dX13_on_26 ?_
      refine C.iast hS.a9 (n_in (by decide)) dX13_on_27 ?_
      rw [n_cl]
      refine C.iconst (nI 0) dX13_on_28 (by decide) ?_
      refine C.zret hq dX13_on_29 (by decide) ?_
      exact ⟨rfl, hP0.trans p5⟩
  have htp : mI μ 179 1 = nI (tpH h).length := hR.2.1.1
  refine C.aload_n dX13_on_0 0 rfl ?_
  refine C.getI fX13_261 dX13_on_1 hS.o ?_
  rw [htp]
  refine C.istore_n (lv' := [(0, _), (1, _)]) dX13_on_4 (nLt hX rfl) rfl ?_
  refine C.aload_n dX13_on_5 0 rfl ?_
  refine C.iconst (nI 0) dX13_on_6 (by decide) ?_
  refine C.putI fX13_261 (Or.inl rfl) dX13_on_7 hS.o ?_
  first | skip
  rw [hμ0]
  exact m10
end KON
