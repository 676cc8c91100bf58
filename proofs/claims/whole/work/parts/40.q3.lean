/-! the reference's sums and tests: words of parts -/

section KMQ3
variable {l : Launch} {G : Gm} {μ μ1 : Mm} {q : Qt} {s : Ps} {tx : Nat → Nat} {e : Nat}
theorem kq_qWordHere (hS : ShM μ) (hW : WdM μ) (hT : TxM μ tx e) (hQ : QM μ μ1 q s) (hp : s.1 ≤ e) (hb : s.2.2.1 = 0) (hk : sk tx e s.1 = s.1) : AMet l G 2 0 0 mtX13_qWordHere [.ref (G.1 + 179)] μ1 (qI (fun x μ' => x = fIdx tx e s.1 s.2.1 partL 0 ∧ μ' = μ1)) := by
  refine AMet.of (by decide) (Nat.le_of_ble_eq_true rfl) (fun X C hX hnm hq => ?_)
  have hS1 := hS
  have hS : ShM μ1 := hQ.sh hS
  have tru : ∀ b : Bool, ¬ bI b = 0 → b = true := fun b h => by cases b; exact absurd rfl h; rfl
  unfold partL at hq
  simp only [wdT, List.drop, List.map, fIdx] at hq
  refine C.aload_n dX13_qWordHere_0 0 rfl ?_
  refine C.aload_n dX13_qWordHere_1 0 rfl ?_
  refine C.getA fX13_219 dX13_qWordHere_2 hS.o hS.r91 ?_
  refine C.callVI lX13_287 dX13_qWordHere_5 (kq_here0 hS1 hW hT hQ hp hb hk (List.mem_of_getElem? (l := wdT) (i := 45) rfl)) hS.o rfl rfl (Nat.le_of_ble_eq_true rfl) (Nat.zero_le _) (Nat.zero_le _) (Nat.le_of_ble_eq_true rfl) (fun x5 μ5 h5 => ?_)
  obtain ⟨rfl, hμ5⟩ := h5
  subst hμ5
  refine C.if_eq 13 dX13_qWordHere_8 rfl (fun hc8 => ?_) (fun hc8 => ?_)
  · have w0 := (bI_0 _).mp hc8
    simp only [w0, Bool.false_eq_true, if_false] at hq
    refine C.aload_n dX13_qWordHere_13 0 rfl ?_
    refine C.aload_n dX13_qWordHere_14 0 rfl ?_
    refine C.getA fX13_222 dX13_qWordHere_15 hS.o hS.r92 ?_
    refine C.callVI lX13_287 dX13_qWordHere_18 (kq_here0 hS1 hW hT hQ hp hb hk (List.mem_of_getElem? (l := wdT) (i := 46) rfl)) hS.o rfl rfl (Nat.le_of_ble_eq_true rfl) (Nat.zero_le _) (Nat.zero_le _) (Nat.le_of_ble_eq_true rfl) (fun x18 μ18 h18 => ?_)
    obtain ⟨rfl, hμ18⟩ := h18
    subst hμ18
    refine C.if_eq 26 dX13_qWordHere_21 rfl (fun hc21 => ?_) (fun hc21 => ?_)
    · have w1 := (bI_0 _).mp hc21
      simp only [w1, Bool.false_eq_true, if_false] at hq
      refine C.aload_n dX13_qWordHere_26 0 rfl ?_
      refine C.aload_n dX13_qWordHere_27 0 rfl ?_
      refine C.getA fX13_225 dX13_qWordHere_28 hS.o hS.r93 ?_
      refine C.callVI lX13_287 dX13_qWordHere_31 (kq_here0 hS1 hW hT hQ hp hb hk (List.mem_of_getElem? (l := wdT) (i := 47) rfl)) hS.o rfl rfl (Nat.le_of_ble_eq_true rfl) (Nat.zero_le _) (Nat.zero_le _) (Nat.le_of_ble_eq_true rfl) (fun x31 μ31 h31 => ?_)
      obtain ⟨rfl, hμ31⟩ := h31
      subst hμ31
      refine C.if_eq 39 dX13_qWordHere_34 rfl (fun hc34 => ?_) (fun hc34 => ?_)
      · have w2 := (bI_0 _).mp hc34
        simp only [w2, Bool.false_eq_true, if_false] at hq
        refine C.aload_n dX13_qWordHere_39 0 rfl ?_
        refine C.aload_n dX13_qWordHere_40 0 rfl ?_
        refine C.getA fX13_228 dX13_qWordHere_41 hS.o hS.r94 ?_
        refine C.callVI lX13_287 dX13_qWordHere_44 (kq_here0 hS1 hW hT hQ hp hb hk (List.mem_of_getElem? (l := wdT) (i := 48) rfl)) hS.o rfl rfl (Nat.le_of_ble_eq_true rfl) (Nat.zero_le _) (Nat.zero_le _) (Nat.le_of_ble_eq_true rfl) (fun x44 μ44 h44 => ?_)
        obtain ⟨rfl, hμ44⟩ := h44
        subst hμ44
        refine C.if_eq 52 dX13_qWordHere_47 rfl (fun hc47 => ?_) (fun hc47 => ?_)
        · have w3 := (bI_0 _).mp hc47
          simp only [w3, Bool.false_eq_true, if_false] at hq
          refine C.aload_n dX13_qWordHere_52 0 rfl ?_
          refine C.aload_n dX13_qWordHere_53 0 rfl ?_
          refine C.getA fX13_231 dX13_qWordHere_54 hS.o hS.r95 ?_
          refine C.callVI lX13_287 dX13_qWordHere_57 (kq_here0 hS1 hW hT hQ hp hb hk (List.mem_of_getElem? (l := wdT) (i := 49) rfl)) hS.o rfl rfl (Nat.le_of_ble_eq_true rfl) (Nat.zero_le _) (Nat.zero_le _) (Nat.le_of_ble_eq_true rfl) (fun x57 μ57 h57 => ?_)
          obtain ⟨rfl, hμ57⟩ := h57
          subst hμ57
          refine C.if_eq 65 dX13_qWordHere_60 rfl (fun hc60 => ?_) (fun hc60 => ?_)
          · have w4 := (bI_0 _).mp hc60
            simp only [w4, Bool.false_eq_true, if_false] at hq
            refine C.aload_n dX13_qWordHere_65 0 rfl ?_
            refine C.aload_n dX13_qWordHere_66 0 rfl ?_
            refine C.getA fX13_234 dX13_qWordHere_67 hS.o hS.r96 ?_
            refine C.callVI lX13_287 dX13_qWordHere_70 (kq_here0 hS1 hW hT hQ hp hb hk (List.mem_of_getElem? (l := wdT) (i := 50) rfl)) hS.o rfl rfl (Nat.le_of_ble_eq_true rfl) (Nat.zero_le _) (Nat.zero_le _) (Nat.le_of_ble_eq_true rfl) (fun x70 μ70 h70 => ?_)
            obtain ⟨rfl, hμ70⟩ := h70
            subst hμ70
            refine C.if_eq 78 dX13_qWordHere_73 rfl (fun hc73 => ?_) (fun hc73 => ?_)
            · have w5 := (bI_0 _).mp hc73
              simp only [w5, Bool.false_eq_true, if_false] at hq
              refine C.aload_n dX13_qWordHere_78 0 rfl ?_
              refine C.aload_n dX13_qWordHere_79 0 rfl ?_
              refine C.getA fX13_237 dX13_qWordHere_80 hS.o hS.r97 ?_
              refine C.callVI lX13_287 dX13_qWordHere_83 (kq_here0 hS1 hW hT hQ hp hb hk (List.mem_of_getElem? (l := wdT) (i := 51) rfl)) hS.o rfl rfl (Nat.le_of_ble_eq_true rfl) (Nat.zero_le _) (Nat.zero_le _) (Nat.le_of_ble_eq_true rfl) (fun x83 μ83 h83 => ?_)
              obtain ⟨rfl, hμ83⟩ := h83
              subst hμ83
              refine C.if_eq 92 dX13_qWordHere_86 rfl (fun hc86 => ?_) (fun hc86 => ?_)
              · have w6 := (bI_0 _).mp hc86
                simp only [w6, Bool.false_eq_true, if_false] at hq
                refine C.aload_n dX13_qWordHere_92 0 rfl ?_
                refine C.aload_n dX13_qWordHere_93 0 rfl ?_
                refine C.getA fX13_240 dX13_qWordHere_94 hS.o hS.r98 ?_
                refine C.callVI lX13_287 dX13_qWordHere_97 (kq_here0 hS1 hW hT hQ hp hb hk (List.mem_of_getElem? (l := wdT) (i := 52) rfl)) hS.o rfl rfl (Nat.le_of_ble_eq_true rfl) (Nat.zero_le _) (Nat.zero_le _) (Nat.le_of_ble_eq_true rfl) (fun x97 μ97 h97 => ?_)
                obtain ⟨rfl, hμ97⟩ := h97
                subst hμ97
                refine C.if_eq 106 dX13_qWordHere_100 rfl (fun hc100 => ?_) (fun hc100 => ?_)
                · have w7 := (bI_0 _).mp hc100
                  simp only [w7, Bool.false_eq_true, if_false] at hq
                  refine C.aload_n dX13_qWordHere_106 0 rfl ?_
                  refine C.aload_n dX13_qWordHere_107 0 rfl ?_
                  refine C.getA fX13_243 dX13_qWordHere_108 hS.o hS.r99 ?_
                  refine C.callVI lX13_287 dX13_qWordHere_111 (kq_here0 hS1 hW hT hQ hp hb hk (List.mem_of_getElem? (l := wdT) (i := 53) rfl)) hS.o rfl rfl (Nat.le_of_ble_eq_true rfl) (Nat.zero_le _) (Nat.zero_le _) (Nat.le_of_ble_eq_true rfl) (fun x111 μ111 h111 => ?_)
                  obtain ⟨rfl, hμ111⟩ := h111
                  subst hμ111
                  refine C.if_eq 120 dX13_qWordHere_114 rfl (fun hc114 => ?_) (fun hc114 => ?_)
                  · have w8 := (bI_0 _).mp hc114
                    simp only [w8, Bool.false_eq_true, if_false] at hq
                    refine C.aload_n dX13_qWordHere_120 0 rfl ?_
                    refine C.aload_n dX13_qWordHere_121 0 rfl ?_
                    refine C.getA fX13_246 dX13_qWordHere_122 hS.o hS.r100 ?_
                    refine C.callVI lX13_287 dX13_qWordHere_125 (kq_here0 hS1 hW hT hQ hp hb hk (List.mem_of_getElem? (l := wdT) (i := 54) rfl)) hS.o rfl rfl (Nat.le_of_ble_eq_true rfl) (Nat.zero_le _) (Nat.zero_le _) (Nat.le_of_ble_eq_true rfl) (fun x125 μ125 h125 => ?_)
                    obtain ⟨rfl, hμ125⟩ := h125
                    subst hμ125
                    refine C.if_eq 134 dX13_qWordHere_128 rfl (fun hc128 => ?_) (fun hc128 => ?_)
                    · have w9 := (bI_0 _).mp hc128
                      simp only [w9, Bool.false_eq_true, if_false] at hq
                      refine C.iconst (-1) dX13_qWordHere_134 (by decide) ?_
                      refine C.iret hq dX13_qWordHere_135 ?_
                      exact ⟨rfl, rfl⟩
                    · have w9 := tru _ hc128
                      simp only [w9, if_true] at hq
                      refine C.bipush (nI 9) dX13_qWordHere_131 (by decide) ?_
                      refine C.iret hq dX13_qWordHere_133 ?_
                      exact ⟨rfl, rfl⟩
                  · have w8 := tru _ hc114
                    simp only [w8, if_true] at hq
                    refine C.bipush (nI 8) dX13_qWordHere_117 (by decide) ?_
                    refine C.iret hq dX13_qWordHere_119 ?_
                    exact ⟨rfl, rfl⟩
                · have w7 := tru _ hc100
                  simp only [w7, if_true] at hq
                  refine C.bipush (nI 7) dX13_qWordHere_103 (by decide) ?_
                  refine C.iret hq dX13_qWordHere_105 ?_
                  exact ⟨rfl, rfl⟩
              · have w6 := tru _ hc86
                simp only [w6, if_true] at hq
                refine C.bipush (nI 6) dX13_qWordHere_89 (by decide) ?_
                refine C.iret hq dX13_qWordHere_91 ?_
                exact ⟨rfl, rfl⟩
            · have w5 := tru _ hc73
              simp only [w5, if_true] at hq
              refine C.iconst (nI 5) dX13_qWordHere_76 (by decide) ?_
              refine C.iret hq dX13_qWordHere_77 ?_
              exact ⟨rfl, rfl⟩
          · have w4 := tru _ hc60
            simp only [w4, if_true] at hq
            refine C.iconst (nI 4) dX13_qWordHere_63 (by decide) ?_
            refine C.iret hq dX13_qWordHere_64 ?_
            exact ⟨rfl, rfl⟩
        · have w3 := tru _ hc47
          simp only [w3, if_true] at hq
          refine C.iconst (nI 3) dX13_qWordHere_50 (by decide) ?_
          refine C.iret hq dX13_qWordHere_51 ?_
          exact ⟨rfl, rfl⟩
      · have w2 := tru _ hc34
        simp only [w2, if_true] at hq
        refine C.iconst (nI 2) dX13_qWordHere_37 (by decide) ?_
        refine C.iret hq dX13_qWordHere_38 ?_
        exact ⟨rfl, rfl⟩
    · have w1 := tru _ hc21
      simp only [w1, if_true] at hq
      refine C.iconst (nI 1) dX13_qWordHere_24 (by decide) ?_
      refine C.iret hq dX13_qWordHere_25 ?_
      exact ⟨rfl, rfl⟩
  · have w0 := tru _ hc8
    simp only [w0, if_true] at hq
    refine C.iconst (nI 0) dX13_qWordHere_11 (by decide) ?_
    refine C.iret hq dX13_qWordHere_12 ?_
    exact ⟨rfl, rfl⟩
theorem km_isAllowed {μ : Mm} (hS : ShM μ) (k : Int32) : AMet l G 1 0 0 mtX13_isAllowed [.ref (G.1 + 179), .int k] μ (qI (fun x μ' => x = bI (alw (mI μ 179 58) k) ∧ μ' = μ)) := by
  refine AMet.of (by decide) (Nat.le_of_ble_eq_true rfl) (fun X C hX hnm hq => ?_)
  generalize htk : mI μ 179 58 = tk at hq
  refine C.aload_n dX13_isAllowed_0 0 rfl ?_
  refine C.getI fX13_322 dX13_isAllowed_1 hS.o ?_
  rw [htk]
  refine C.if_ne 20 dX13_isAllowed_4 rfl (fun hc4 => ?_) (fun hc4 => ?_)
  · refine C.aload_n dX13_isAllowed_20 0 rfl ?_
    refine C.getI fX13_322 dX13_isAllowed_21 hS.o ?_
    rw [htk]
    refine C.iconst (nI 1) dX13_isAllowed_24 (by decide) ?_
    refine C.icmp_ne 55 dX13_isAllowed_25 rfl (fun hc25 => ?_) (fun hc25 => ?_)
    · refine C.iconst (nI 1) dX13_isAllowed_55 (by decide) ?_
      refine C.zret hq dX13_isAllowed_56 (by decide) ?_
      refine ⟨?_, rfl⟩
      unfold alw
      first | (rw [if_pos (by simpa using hc4), decide_eq_true (Int32.not_le.mp hc9)]; rfl) | (rw [if_pos (by simpa using hc4), decide_eq_false (fun h => Int32.not_le.mpr h hc9)]; rfl) | (rw [if_neg hc4, if_neg hc25]; rfl) | (rw [if_neg hc4, if_pos (by simpa using hc25), decide_eq_true hc30]; rfl) | (rw [if_neg hc4, if_pos (by simpa using hc25), decide_eq_false hc30, hin]; rfl)
    · refine C.iload_n dX13_isAllowed_28 1 rfl ?_
      refine C.iconst (nI 2) dX13_isAllowed_29 (by decide) ?_
      refine C.icmp_lt 47 dX13_isAllowed_30 rfl (fun hc30 => ?_) (fun hc30 => ?_)
      · refine C.iconst (nI 1) dX13_isAllowed_47 (by decide) ?_
        refine C.goto 56 dX13_isAllowed_48 rfl ?_
        refine C.zret hq dX13_isAllowed_56 (by decide) ?_
        refine ⟨?_, rfl⟩
        unfold alw
        first | (rw [if_pos (by simpa using hc4), decide_eq_true (Int32.not_le.mp hc9)]; rfl) | (rw [if_pos (by simpa using hc4), decide_eq_false (fun h => Int32.not_le.mpr h hc9)]; rfl) | (rw [if_neg hc4, if_neg hc25]; rfl) | (rw [if_neg hc4, if_pos (by simpa using hc25), decide_eq_true hc30]; rfl) | (rw [if_neg hc4, if_pos (by simpa using hc25), decide_eq_false hc30, hin]; rfl)
      · refine C.iload_n dX13_isAllowed_33 1 rfl ?_
        refine C.i2l dX13_isAllowed_34 ?_
        refine C.ldc2 kX13_325 dX13_isAllowed_35 ?_
        refine C.ldc2 kX13_327 dX13_isAllowed_38 ?_
        refine C.callSI lX13_307 dX13_isAllowed_41 (km_isIn _ _ _) rfl rfl (Nat.le_of_ble_eq_true rfl) (Nat.zero_le _) (Nat.zero_le _) (Nat.le_of_ble_eq_true rfl) (fun x41 μ41 h41 => ?_)
        obtain ⟨rfl, hμ⟩ := h41
        subst hμ
        rw [show (4 : Int64) = (nI 4).toInt64 from by decide, show (6 : Int64) = (nI 6).toInt64 from by decide]
        simp only [wide_le]
        refine C.if_eq 51 dX13_isAllowed_44 rfl (fun hc44 => ?_) (fun hc44 => ?_)
        · have hin : (decide (nI 4 ≤ k) && decide (k ≤ nI 6)) = false := by
            rw [Bool.eq_false_iff]
            intro h
            rw [if_pos (by simpa using h)] at hc44
            exact absurd hc44 (by decide)
          refine C.iconst (nI 0) dX13_isAllowed_51 (by decide) ?_
          refine C.goto 56 dX13_isAllowed_52 rfl ?_
          refine C.zret hq dX13_isAllowed_56 (by decide) ?_
          refine ⟨?_, rfl⟩
          unfold alw
          first | (rw [if_pos (by simpa using hc4), decide_eq_true (Int32.not_le.mp hc9)]; rfl) | (rw [if_pos (by simpa using hc4), decide_eq_false (fun h => Int32.not_le.mpr h hc9)]; rfl) | (rw [if_neg hc4, if_neg hc25]; rfl) | (rw [if_neg hc4, if_pos (by simpa using hc25), decide_eq_true hc30]; rfl) | (rw [if_neg hc4, if_pos (by simpa using hc25), decide_eq_false hc30, hin]; rfl)
        · have hin : (decide (nI 4 ≤ k) && decide (k ≤ nI 6)) = true := by
            by_cases h : nI 4 ≤ k ∧ k ≤ nI 6
            · simpa using h
            · rw [if_neg h] at hc44
              exact absurd rfl hc44
          refine C.iconst (nI 1) dX13_isAllowed_47 (by decide) ?_
          refine C.goto 56 dX13_isAllowed_48 rfl ?_
          refine C.zret hq dX13_isAllowed_56 (by decide) ?_
          refine ⟨?_, rfl⟩
          unfold alw
          first | (rw [if_pos (by simpa using hc4), decide_eq_true (Int32.not_le.mp hc9)]; rfl) | (rw [if_pos (by simpa using hc4), decide_eq_false (fun h => Int32.not_le.mpr h hc9)]; rfl) | (rw [if_neg hc4, if_neg hc25]; rfl) | (rw [if_neg hc4, if_pos (by simpa using hc25), decide_eq_true hc30]; rfl) | (rw [if_neg hc4, if_pos (by simpa using hc25), decide_eq_false hc30, hin]; rfl)
  · refine C.iload_n dX13_isAllowed_7 1 rfl ?_
    refine C.iconst (nI 4) dX13_isAllowed_8 (by decide) ?_
    refine C.icmp_ge 16 dX13_isAllowed_9 rfl (fun hc9 => ?_) (fun hc9 => ?_)
    · refine C.iconst (nI 0) dX13_isAllowed_16 (by decide) ?_
      refine C.goto 56 dX13_isAllowed_17 rfl ?_
      refine C.zret hq dX13_isAllowed_56 (by decide) ?_
      refine ⟨?_, rfl⟩
      unfold alw
      first | (rw [if_pos (by simpa using hc4), decide_eq_true (Int32.not_le.mp hc9)]; rfl) | (rw [if_pos (by simpa using hc4), decide_eq_false (fun h => Int32.not_le.mpr h hc9)]; rfl) | (rw [if_neg hc4, if_neg hc25]; rfl) | (rw [if_neg hc4, if_pos (by simpa using hc25), decide_eq_true hc30]; rfl) | (rw [if_neg hc4, if_pos (by simpa using hc25), decide_eq_false hc30, hin]; rfl)
    · refine C.iconst (nI 1) dX13_isAllowed_12 (by decide) ?_
      refine C.goto 56 dX13_isAllowed_13 rfl ?_
      refine C.zret hq dX13_isAllowed_56 (by decide) ?_
      refine ⟨?_, rfl⟩
      unfold alw
      first | (rw [if_pos (by simpa using hc4), decide_eq_true (Int32.not_le.mp hc9)]; rfl) | (rw [if_pos (by simpa using hc4), decide_eq_false (fun h => Int32.not_le.mpr h hc9)]; rfl) | (rw [if_neg hc4, if_neg hc25]; rfl) | (rw [if_neg hc4, if_pos (by simpa using hc25), decide_eq_true hc30]; rfl) | (rw [if_neg hc4, if_pos (by simpa using hc25), decide_eq_false hc30, hin]; rfl)
theorem kq_qWordOf (hS : ShM μ) (hW : WdM μ) (hT : TxM μ tx e) (hQ : QM μ μ1 q s) (hp : s.1 ≤ e) (hb : s.2.2.1 = 0) (hk : sk tx e s.1 = s.1) (a b : Int32) : AMet l G 3 0 0 mtX13_qWordOf [.ref (G.1 + 179), .int a, .int b] μ1 (qI (fun x μ' => x = (if a ≤ fIdx tx e s.1 s.2.1 partL 0 ∧ fIdx tx e s.1 s.2.1 partL 0 < b ∧ alw (mI μ 179 58) (fIdx tx e s.1 s.2.1 partL 0) = true then fIdx tx e s.1 s.2.1 partL 0 else -1) ∧ μ' = μ1)) := by
  refine AMet.of (by decide) (Nat.le_of_ble_eq_true rfl) (fun X C hX hnm hq => ?_)
  have hS1 := hS
  have hS : ShM μ1 := hQ.sh hS
  have h58 : mI μ1 179 58 = mI μ 179 58 := hQ.1.2.2 58 (by decide) (by decide) (by decide) (by decide) (by decide) (by decide) (by decide) (by decide) (by decide) (by decide)
  generalize hF : fIdx tx e s.1 s.2.1 partL 0 = F at hq
  refine C.aload_n dX13_qWordOf_0 0 rfl ?_
  refine C.callVI lX13_617 dX13_qWordOf_1 (kq_qWordHere hS1 hW hT hQ hp hb hk) hS.o rfl rfl (Nat.le_of_ble_eq_true rfl) (Nat.zero_le _) (Nat.zero_le _) (Nat.le_of_ble_eq_true rfl) (fun x1 μ1 h1 => ?_)
  obtain ⟨rfl, hμ⟩ := h1
  subst hμ
  rw [hF]
  refine C.istore_n (lv' := [(0, _), (1, _), (2, _), (3, _)]) dX13_qWordOf_4 (nLt hX rfl) rfl ?_
  refine C.iload_n dX13_qWordOf_5 3 rfl ?_
  refine C.iload_n dX13_qWordOf_6 1 rfl ?_
  refine C.icmp_lt 27 dX13_qWordOf_7 rfl (fun hc7 => ?_) (fun hc7 => ?_)
  · refine C.iconst (-1) dX13_qWordOf_27 (by decide) ?_
    refine C.iret hq dX13_qWordOf_28 ?_
    first | exact ⟨by rw [if_neg (fun h => Int32.not_le.mpr hc7 h.1)], rfl⟩ | exact ⟨by rw [if_neg (fun h => Int32.not_le.mpr h.2.1 hc12)], rfl⟩ | exact ⟨by rw [if_neg (fun h => by rw [h.2.2] at hc20; exact absurd hc20 (by decide))], rfl⟩ | exact ⟨by rw [if_pos ⟨Int32.not_lt.mp hc7, Int32.not_le.mp hc12, by cases h : alw (mI μ 179 58) F; rw [h] at hc20; exact absurd rfl hc20; rfl⟩], rfl⟩
  · refine C.iload_n dX13_qWordOf_10 3 rfl ?_
    refine C.iload_n dX13_qWordOf_11 2 rfl ?_
    refine C.icmp_ge 27 dX13_qWordOf_12 rfl (fun hc12 => ?_) (fun hc12 => ?_)
    · refine C.iconst (-1) dX13_qWordOf_27 (by decide) ?_
      refine C.iret hq dX13_qWordOf_28 ?_
      first | exact ⟨by rw [if_neg (fun h => Int32.not_le.mpr hc7 h.1)], rfl⟩ | exact ⟨by rw [if_neg (fun h => Int32.not_le.mpr h.2.1 hc12)], rfl⟩ | exact ⟨by rw [if_neg (fun h => by rw [h.2.2] at hc20; exact absurd hc20 (by decide))], rfl⟩ | exact ⟨by rw [if_pos ⟨Int32.not_lt.mp hc7, Int32.not_le.mp hc12, by cases h : alw (mI μ 179 58) F; rw [h] at hc20; exact absurd rfl hc20; rfl⟩], rfl⟩
    · refine C.aload_n dX13_qWordOf_15 0 rfl ?_
      refine C.iload_n dX13_qWordOf_16 3 rfl ?_
      refine C.callVI lX13_620 dX13_qWordOf_17 (km_isAllowed hS _) hS.o rfl rfl (Nat.le_of_ble_eq_true rfl) (Nat.zero_le _) (Nat.zero_le _) (Nat.le_of_ble_eq_true rfl) (fun x17 μ17 h17 => ?_)
      obtain ⟨rfl, hμ⟩ := h17
      subst hμ
      rw [h58]
      refine C.if_eq 27 dX13_qWordOf_20 rfl (fun hc20 => ?_) (fun hc20 => ?_)
      · refine C.iconst (-1) dX13_qWordOf_27 (by decide) ?_
        refine C.iret hq dX13_qWordOf_28 ?_
        first | exact ⟨by rw [if_neg (fun h => Int32.not_le.mpr hc7 h.1)], rfl⟩ | exact ⟨by rw [if_neg (fun h => Int32.not_le.mpr h.2.1 hc12)], rfl⟩ | exact ⟨by rw [if_neg (fun h => by rw [h.2.2] at hc20; exact absurd hc20 (by decide))], rfl⟩ | exact ⟨by rw [if_pos ⟨Int32.not_lt.mp hc7, Int32.not_le.mp hc12, by cases h : alw (mI μ 179 58) F; rw [h] at hc20; exact absurd rfl hc20; rfl⟩], rfl⟩
      · refine C.iload_n dX13_qWordOf_23 3 rfl ?_
        refine C.goto 28 dX13_qWordOf_24 rfl ?_
        refine C.iret hq dX13_qWordOf_28 ?_
        first | exact ⟨by rw [if_neg (fun h => Int32.not_le.mpr hc7 h.1)], rfl⟩ | exact ⟨by rw [if_neg (fun h => Int32.not_le.mpr h.2.1 hc12)], rfl⟩ | exact ⟨by rw [if_neg (fun h => by rw [h.2.2] at hc20; exact absurd hc20 (by decide))], rfl⟩ | exact ⟨by rw [if_pos ⟨Int32.not_lt.mp hc7, Int32.not_le.mp hc12, by cases h : alw (mI μ 179 58) F; rw [h] at hc20; exact absurd rfl hc20; rfl⟩], rfl⟩
theorem kq_qHasSquare (hS : ShM μ) (hQ : QM μ μ1 q s) (hl : q.2.1.length < 1700) : AMet l G 0 0 0 mtX13_qHasSquare [.ref (G.1 + 179)] μ1 (qI (fun x μ' => x = bI (decide (nI 25 ∈ q.2.1)) ∧ μ' = μ1)) := by
  refine AMet.of (by decide) (Nat.le_of_ble_eq_true rfl) (fun X C hX hnm hq => ?_)
  have hS : ShM μ1 := hQ.sh hS
  have hw := hQ.2.2.1.2.1
  have hd := hQ.2.2.2.2
  obtain ⟨cs, ws, op, bs⟩ := q
  dsimp only at hw hd hl hq
  have loop : ∀ (n i : Nat), ws.length - i < n → i ≤ ws.length → (∀ j, j < i → ¬ ws.reverse.getD j 0 = nI 25) → AW l G X 0 0 2 [(0, .ref (G.1 + 179)), (1, .int (nI i))] [] μ1 := by
    intro n
    induction n with
    | zero => intro i h; omega
    | succ n ih =>
      intro i hn hi hall
      refine C.iload_n dX13_qHasSquare_2 1 rfl ?_
      refine C.aload_n dX13_qHasSquare_3 0 rfl ?_
      refine C.getI fX13_358 dX13_qHasSquare_4 hS.o ?_
      rw [hw]
      refine C.icmp_ge 29 dX13_qHasSquare_7 rfl (fun hc7 => ?_) (fun hc7 => ?_)
      · refine C.iconst (nI 0) dX13_qHasSquare_29 (by decide) ?_
        refine C.zret hq dX13_qHasSquare_30 (by decide) ?_
        have hge := n_le hc7
        refine ⟨?_, rfl⟩
        have hm : ¬ nI 25 ∈ ws := by
          intro h
          obtain ⟨j, hj, he⟩ := List.getElem_of_mem (List.mem_reverse.mpr h)
          have hj' : j < ws.length := by simpa using hj
          exact hall j (by omega) (by rw [List.getD_eq_getElem?_getD, List.getElem?_eq_getElem hj]; exact he)
        rw [decide_eq_false hm]
        rfl
      · have hlt := n_nle hc7
        refine C.aload_n dX13_qHasSquare_10 0 rfl ?_
        refine C.getA fX13_252 dX13_qHasSquare_11 hS.o hS.r103 ?_
        refine C.iload_n dX13_qHasSquare_14 1 rfl ?_
        refine C.iald hS.a103 (n_in (by omega)) dX13_qHasSquare_15 ?_
        rw [n_cl, hd i hlt]
        refine C.bipush (nI 25) dX13_qHasSquare_16 (by decide) ?_
        refine C.icmp_ne 23 dX13_qHasSquare_18 rfl (fun hc18 => ?_) (fun hc18 => ?_)
        · refine C.iinc (lv' := [(0, _), (1, _)]) _ dX13_qHasSquare_23 1 rfl rfl (nLt hX rfl) rfl ?_
          refine C.goto 2 dX13_qHasSquare_26 rfl ?_
          have := ih (i + 1) (by omega) (by omega) (fun j hj => by rcases Nat.lt_succ_iff_lt_or_eq.mp hj with h | h; exact hall j h; rw [h]; exact hc18)
          rw [← nI_1] at this
          exact this
        · have heq : ws.reverse.getD i 0 = nI 25 := by simpa using hc18
          refine C.iconst (nI 1) dX13_qHasSquare_21 (by decide) ?_
          refine C.zret hq dX13_qHasSquare_22 (by decide) ?_
          refine ⟨?_, rfl⟩
          have hm : nI 25 ∈ ws := by
            rw [← heq, List.getD_eq_getElem?_getD, List.getElem?_eq_getElem (by simpa using hlt)]
            exact List.mem_reverse.mp (List.getElem_mem _)
          rw [decide_eq_true hm]
          rfl
  refine C.iconst (nI 0) dX13_qHasSquare_0 (by decide) ?_
  refine C.istore_n (lv' := [(0, _), (1, _)]) dX13_qHasSquare_1 (nLt hX rfl) rfl ?_
  exact loop (ws.length + 1) 0 (by omega) (by omega) (fun j hj => by omega)
theorem kq_qAsksWord (hS : ShM μ) (hW : WdM μ) (hT : TxM μ tx e) (hQ : QM μ μ1 q s) (hp : s.1 ≤ e) {i : Nat} (hi : i < 10) : AMet l G 4 0 0 mtX13_qAsksWord [.ref (G.1 + 179), .int (nI i)] μ1 (qV (fun μ' => QM μ μ' q (mAsks tx e s (partL.getD i [])))) := by
  refine AMet.of (by decide) (Nat.le_of_ble_eq_true rfl) (fun X C hX hnm hq => ?_)
  have hS1 := hS
  have hS : ShM μ1 := hQ.sh hS
  have hti : (nI i).toInt = (i : Int) := nI_tI (by omega)
  refine C.iload_n dX13_qAsksWord_0 1 rfl ?_
  rcases (show i = 0 ∨ i = 1 ∨ i = 2 ∨ i = 3 ∨ i = 4 ∨ i = 5 ∨ i = 6 ∨ i = 7 ∨ i = 8 ∨ i = 9 by omega) with rfl | rfl | rfl | rfl | rfl | rfl | rfl | rfl | rfl | rfl
  · refine C.tableIn 52 dX13_qAsksWord_1 (by rw [hti]; decide) (by rw [hti]; decide) (by rw [hti]; rfl) rfl ?_
    refine C.aload_n dX13_qAsksWord_52 0 rfl ?_
    refine C.aload_n dX13_qAsksWord_53 0 rfl ?_
    refine C.getA fX13_219 dX13_qAsksWord_54 hS.o hS.r91 ?_
    refine C.callVV lX13_337 dX13_qAsksWord_57 (kq_asks hS1 hW hT hQ hp (List.mem_of_getElem? (l := wdT) (i := 45) rfl)) hS.o rfl rfl (Nat.le_of_ble_eq_true rfl) (Nat.zero_le _) (Nat.zero_le _) (Nat.le_of_ble_eq_true rfl) (fun μ57 h57 => ?_)
    refine C.goto 159 dX13_qAsksWord_60 rfl ?_
    refine C.vret hq dX13_qAsksWord_159 ?_
    first | exact h57 | exact h68 | exact h79 | exact h90 | exact h101 | exact h112 | exact h123 | exact h134 | exact h145 | exact h156
  · refine C.tableIn 63 dX13_qAsksWord_1 (by rw [hti]; decide) (by rw [hti]; decide) (by rw [hti]; rfl) rfl ?_
    refine C.aload_n dX13_qAsksWord_63 0 rfl ?_
    refine C.aload_n dX13_qAsksWord_64 0 rfl ?_
    refine C.getA fX13_222 dX13_qAsksWord_65 hS.o hS.r92 ?_
    refine C.callVV lX13_337 dX13_qAsksWord_68 (kq_asks hS1 hW hT hQ hp (List.mem_of_getElem? (l := wdT) (i := 46) rfl)) hS.o rfl rfl (Nat.le_of_ble_eq_true rfl) (Nat.zero_le _) (Nat.zero_le _) (Nat.le_of_ble_eq_true rfl) (fun μ68 h68 => ?_)
    refine C.goto 159 dX13_qAsksWord_71 rfl ?_
    refine C.vret hq dX13_qAsksWord_159 ?_
    first | exact h57 | exact h68 | exact h79 | exact h90 | exact h101 | exact h112 | exact h123 | exact h134 | exact h145 | exact h156
  · refine C.tableIn 74 dX13_qAsksWord_1 (by rw [hti]; decide) (by rw [hti]; decide) (by rw [hti]; rfl) rfl ?_
    refine C.aload_n dX13_qAsksWord_74 0 rfl ?_
    refine C.aload_n dX13_qAsksWord_75 0 rfl ?_
    refine C.getA fX13_225 dX13_qAsksWord_76 hS.o hS.r93 ?_
    refine C.callVV lX13_337 dX13_qAsksWord_79 (kq_asks hS1 hW hT hQ hp (List.mem_of_getElem? (l := wdT) (i := 47) rfl)) hS.o rfl rfl (Nat.le_of_ble_eq_true rfl) (Nat.zero_le _) (Nat.zero_le _) (Nat.le_of_ble_eq_true rfl) (fun μ79 h79 => ?_)
    refine C.goto 159 dX13_qAsksWord_82 rfl ?_
    refine C.vret hq dX13_qAsksWord_159 ?_
    first | exact h57 | exact h68 | exact h79 | exact h90 | exact h101 | exact h112 | exact h123 | exact h134 | exact h145 | exact h156
  · refine C.tableIn 85 dX13_qAsksWord_1 (by rw [hti]; decide) (by rw [hti]; decide) (by rw [hti]; rfl) rfl ?_
    refine C.aload_n dX13_qAsksWord_85 0 rfl ?_
    refine C.aload_n dX13_qAsksWord_86 0 rfl ?_
    refine C.getA fX13_228 dX13_qAsksWord_87 hS.o hS.r94 ?_
    refine C.callVV lX13_337 dX13_qAsksWord_90 (kq_asks hS1 hW hT hQ hp (List.mem_of_getElem? (l := wdT) (i := 48) rfl)) hS.o rfl rfl (Nat.le_of_ble_eq_true rfl) (Nat.zero_le _) (Nat.zero_le _) (Nat.le_of_ble_eq_true rfl) (fun μ90 h90 => ?_)
    refine C.goto 159 dX13_qAsksWord_93 rfl ?_
    refine C.vret hq dX13_qAsksWord_159 ?_
    first | exact h57 | exact h68 | exact h79 | exact h90 | exact h101 | exact h112 | exact h123 | exact h134 | exact h145 | exact h156
  · refine C.tableIn 96 dX13_qAsksWord_1 (by rw [hti]; decide) (by rw [hti]; decide) (by rw [hti]; rfl) rfl ?_
    refine C.aload_n dX13_qAsksWord_96 0 rfl ?_
    refine C.aload_n dX13_qAsksWord_97 0 rfl ?_
    refine C.getA fX13_231 dX13_qAsksWord_98 hS.o hS.r95 ?_
    refine C.callVV lX13_337 dX13_qAsksWord_101 (kq_asks hS1 hW hT hQ hp (List.mem_of_getElem? (l := wdT) (i := 49) rfl)) hS.o rfl rfl (Nat.le_of_ble_eq_true rfl) (Nat.zero_le _) (Nat.zero_le _) (Nat.le_of_ble_eq_true rfl) (fun μ101 h101 => ?_)
    refine C.goto 159 dX13_qAsksWord_104 rfl ?_
    refine C.vret hq dX13_qAsksWord_159 ?_
    first | exact h57 | exact h68 | exact h79 | exact h90 | exact h101 | exact h112 | exact h123 | exact h134 | exact h145 | exact h156
  · refine C.tableIn 107 dX13_qAsksWord_1 (by rw [hti]; decide) (by rw [hti]; decide) (by rw [hti]; rfl) rfl ?_
    refine C.aload_n dX13_qAsksWord_107 0 rfl ?_
    refine C.aload_n dX13_qAsksWord_108 0 rfl ?_
    refine C.getA fX13_234 dX13_qAsksWord_109 hS.o hS.r96 ?_
    refine C.callVV lX13_337 dX13_qAsksWord_112 (kq_asks hS1 hW hT hQ hp (List.mem_of_getElem? (l := wdT) (i := 50) rfl)) hS.o rfl rfl (Nat.le_of_ble_eq_true rfl) (Nat.zero_le _) (Nat.zero_le _) (Nat.le_of_ble_eq_true rfl) (fun μ112 h112 => ?_)
    refine C.goto 159 dX13_qAsksWord_115 rfl ?_
    refine C.vret hq dX13_qAsksWord_159 ?_
    first | exact h57 | exact h68 | exact h79 | exact h90 | exact h101 | exact h112 | exact h123 | exact h134 | exact h145 | exact h156
  · refine C.tableIn 118 dX13_qAsksWord_1 (by rw [hti]; decide) (by rw [hti]; decide) (by rw [hti]; rfl) rfl ?_
    refine C.aload_n dX13_qAsksWord_118 0 rfl ?_
    refine C.aload_n dX13_qAsksWord_119 0 rfl ?_
    refine C.getA fX13_237 dX13_qAsksWord_120 hS.o hS.r97 ?_
    refine C.callVV lX13_337 dX13_qAsksWord_123 (kq_asks hS1 hW hT hQ hp (List.mem_of_getElem? (l := wdT) (i := 51) rfl)) hS.o rfl rfl (Nat.le_of_ble_eq_true rfl) (Nat.zero_le _) (Nat.zero_le _) (Nat.le_of_ble_eq_true rfl) (fun μ123 h123 => ?_)
    refine C.goto 159 dX13_qAsksWord_126 rfl ?_
    refine C.vret hq dX13_qAsksWord_159 ?_
    first | exact h57 | exact h68 | exact h79 | exact h90 | exact h101 | exact h112 | exact h123 | exact h134 | exact h145 | exact h156
  · refine C.tableIn 129 dX13_qAsksWord_1 (by rw [hti]; decide) (by rw [hti]; decide) (by rw [hti]; rfl) rfl ?_
    refine C.aload_n dX13_qAsksWord_129 0 rfl ?_
    refine C.aload_n dX13_qAsksWord_130 0 rfl ?_
    refine C.getA fX13_240 dX13_qAsksWord_131 hS.o hS.r98 ?_
    refine C.callVV lX13_337 dX13_qAsksWord_134 (kq_asks hS1 hW hT hQ hp (List.mem_of_getElem? (l := wdT) (i := 52) rfl)) hS.o rfl rfl (Nat.le_of_ble_eq_true rfl) (Nat.zero_le _) (Nat.zero_le _) (Nat.le_of_ble_eq_true rfl) (fun μ134 h134 => ?_)
    refine C.goto 159 dX13_qAsksWord_137 rfl ?_
    refine C.vret hq dX13_qAsksWord_159 ?_
    first | exact h57 | exact h68 | exact h79 | exact h90 | exact h101 | exact h112 | exact h123 | exact h134 | exact h145 | exact h156
  · refine C.tableIn 140 dX13_qAsksWord_1 (by rw [hti]; decide) (by rw [hti]; decide) (by rw [hti]; rfl) rfl ?_
    refine C.aload_n dX13_qAsksWord_140 0 rfl ?_
    refine C.aload_n dX13_qAsksWord_141 0 rfl ?_
    refine C.getA fX13_243 dX13_qAsksWord_142 hS.o hS.r99 ?_
    refine C.callVV lX13_337 dX13_qAsksWord_145 (kq_asks hS1 hW hT hQ hp (List.mem_of_getElem? (l := wdT) (i := 53) rfl)) hS.o rfl rfl (Nat.le_of_ble_eq_true rfl) (Nat.zero_le _) (Nat.zero_le _) (Nat.le_of_ble_eq_true rfl) (fun μ145 h145 => ?_)
    refine C.goto 159 dX13_qAsksWord_148 rfl ?_
    refine C.vret hq dX13_qAsksWord_159 ?_
    first | exact h57 | exact h68 | exact h79 | exact h90 | exact h101 | exact h112 | exact h123 | exact h134 | exact h145 | exact h156
  · refine C.tableOut 151 dX13_qAsksWord_1 (by rw [hti]; decide) rfl ?_
    refine C.aload_n dX13_qAsksWord_151 0 rfl ?_
    refine C.aload_n dX13_qAsksWord_152 0 rfl ?_
    refine C.getA fX13_246 dX13_qAsksWord_153 hS.o hS.r100 ?_
    refine C.callVV lX13_337 dX13_qAsksWord_156 (kq_asks hS1 hW hT hQ hp (List.mem_of_getElem? (l := wdT) (i := 54) rfl)) hS.o rfl rfl (Nat.le_of_ble_eq_true rfl) (Nat.zero_le _) (Nat.zero_le _) (Nat.le_of_ble_eq_true rfl) (fun μ156 h156 => ?_)
    refine C.vret hq dX13_qAsksWord_159 ?_
    first | exact h57 | exact h68 | exact h79 | exact h90 | exact h101 | exact h112 | exact h123 | exact h134 | exact h145 | exact h156
end KMQ3
