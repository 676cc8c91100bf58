/-! the reference: what codes of a question tell -/

def ofQ (home : Nat) (ride : Nat → Nat) (n : Int64) : Int64 := if lN 0 ≤ n ∧ n ≤ lN 11 then lN (apN home (ride n.toNatClampNeg)) else lN 0
section KAK
variable {l : Launch} {G : Gm} {μ μ1 : Mm} {st : List Int64}
theorem ke_of (hS : ShM μ) {i home : Nat} (hi : i < 6) (hh : mI μ 220 (30 + 5 * i) = nI home) (h49 : home < 49) {ride : Nat → Nat} (hri : ∀ h, h < 12 → mI μ 228 h = nI (ride h) ∧ ride h < 49) (w : Int32) (n : Int64) : AMet l G 1 0 0 mtX13_qOf [.ref (G.1 + 179), .int w, .long n, .int (nI i)] μ (qL (fun x μ' => x = ofQ home ride n ∧ μ' = μ)) := by
  refine AMet.of (by decide) (Nat.le_of_ble_eq_true rfl) (fun X C hX hnm hq => ?_)
  unfold ofQ at hq
  refine C.iload_n dX13_qOf_0 1 rfl ?_
  refine C.lookup 12 dX13_qOf_1 rfl rfl rfl ?_
  refine C.lload_n dX13_qOf_12 2 rfl ?_
  refine C.lconst (lN 0) dX13_qOf_13 (by decide) ?_
  refine C.ldc2 kX13_562 dX13_qOf_14 ?_
  refine C.callSI lX13_307 dX13_qOf_17 (km_isIn _ _ _) rfl rfl (Nat.le_of_ble_eq_true rfl) (Nat.zero_le _) (Nat.zero_le _) (Nat.le_of_ble_eq_true rfl) (fun x17 μ17 h17 => ?_)
  obtain ⟨hx17, hμ⟩ := h17
  subst hμ
  refine C.if_eq 49 dX13_qOf_20 rfl (fun hc20 => ?_) (fun hc20 => ?_)
  · have q : ¬ ((lN 0 : Int64) ≤ n ∧ n ≤ 11) := fun q => by rw [if_pos q] at hx17; rw [hx17] at hc20; exact absurd hc20 (by decide)
    rw [if_neg (show ¬ (lN 0 ≤ n ∧ n ≤ lN 11) from q)] at hq
    refine C.lconst (lN 0) dX13_qOf_49 (by decide) ?_
    refine C.lret hq dX13_qOf_50 ?_
    exact ⟨rfl, rfl⟩
  · have q : (lN 0 : Int64) ≤ n ∧ n ≤ 11 := by by_cases q : ((lN 0 : Int64) ≤ n ∧ n ≤ 11); exact q; rw [if_neg q] at hx17; exact absurd hx17 hc20
    rw [if_pos (show lN 0 ≤ n ∧ n ≤ lN 11 from q)] at hq
    obtain ⟨k, hk, e⟩ := pk_lOf (x := n) (Int64.not_lt.mpr q.1)
    subst e
    have k11 : k ≤ 11 := (pk_lLE (a := k) (b := 11) hk (by decide)).mp q.2
    rw [lN_nn hk] at hq
    obtain ⟨r1, r2⟩ := hri k (by omega)
    have hap : apN home (ride k) < 2 ^ 20 := by unfold apN; omega
    refine C.aload_n dX13_qOf_23 0 rfl ?_
    refine C.getA fX13_136 dX13_qOf_24 hS.o hS.r50 ?_
    refine C.bipush (nI 30) dX13_qOf_27 (by decide) ?_
    refine C.iconst (nI 5) dX13_qOf_29 (by decide) ?_
    refine C.iload dX13_qOf_30 3 rfl ?_
    refine C.imul dX13_qOf_32 ?_
    rw [pk_mul]
    refine C.iadd dX13_qOf_33 ?_
    rw [nI_add]
    refine C.iald hS.a50 (n_in (by omega)) dX13_qOf_34 ?_
    rw [n_cl, hh]
    refine C.aload_n dX13_qOf_35 0 rfl ?_
    refine C.getA fX13_160 dX13_qOf_36 hS.o hS.r65 ?_
    refine C.lload_n dX13_qOf_39 2 rfl ?_
    refine C.l2i dX13_qOf_40 ?_
    rw [lN_i]
    refine C.iald hS.a65 (n_in (by omega)) dX13_qOf_41 ?_
    rw [n_cl, r1]
    refine C.callSI lX13_433 dX13_qOf_42 (kg_apart (by omega) (by omega)) rfl rfl (Nat.le_of_ble_eq_true rfl) (Nat.zero_le _) (Nat.zero_le _) (Nat.le_of_ble_eq_true rfl) (fun x42 μ42 h42 => ?_)
    obtain ⟨rfl, hμ⟩ := h42
    subst hμ
    refine C.i2l dX13_qOf_45 ?_
    rw [nI_l (by omega)]
    refine C.goto 50 dX13_qOf_46 rfl ?_
    refine C.lret hq dX13_qOf_50 ?_
    exact ⟨rfl, rfl⟩
theorem ke_qTold (hS : ShM μ) {cs : List Int32} (h102 : mI μ 179 102 = nI cs.length) (hcd : ∀ j, j < cs.length → mI μ 255 j = cs.getD j 0) (hl : cs.length ≤ 1600) (hwf : wfC al2 true cs 0) {i home : Nat} (hi : i < 6) (hh : mI μ 220 (30 + 5 * i) = nI home) (h49 : home < 49) {ride : Nat → Nat} (hri : ∀ h, h < 12 → mI μ 228 h = nI (ride h) ∧ ride h < 49) : AMet l G 2 0 0 mtX13_qTold [.ref (G.1 + 179), .int (nI i)] μ (qL (fun x μ' => x = (ev64 (fun k => clip64 (partV μ i k).toInt64) (ofQ home ride) cs []).headD 0 ∧ TmC (fun k => k = 108) μ μ')) := by
  refine AMet.of (by decide) (Nat.le_of_ble_eq_true rfl) (fun X C hX hnm hq => ?_)
  have hS0 := hS
  generalize hK : ev64 (fun k => clip64 (partV μ i k).toInt64) (ofQ home ride) cs [] = K at hq
  have hK1 : K.length = 1 := by rw [← hK]; exact wfC_len cs [] hwf
  have htm : ∀ μ' st, PE μ μ' st → TmC (fun k => k = 108) μ μ' := fun μ' st h => ⟨h.1.1, fun a k q => h.1.2.1 a k q, h.1.2.2⟩
  have loop : ∀ (n j : Nat) (s : List Int64) (μ1 : Mm), cs.length - j < n → j ≤ cs.length → s.length ≤ j → PE μ μ1 s → wfC al2 true (cs.drop j) s.length → ev64 (fun k => clip64 (partV μ i k).toInt64) (ofQ home ride) (cs.drop j) s = K → AW l G X 0 0 7 [(0, .ref (G.1 + 179)), (1, .int (nI i)), (2, .int (nI j))] [] μ1 := by
    intro n
    induction n with
    | zero => intro j s μ1 h; omega
    | succ n ih =>
      intro j s μ1 hn hj hsl hP hwf hk
      have hS : ShM μ1 := hP.sh hS0
      have ho : ∀ a k, ¬ (a = 179 ∧ k = 108) → mI μ1 a k = mI μ a k := hP.1.2.1
      have k102 : mI μ1 179 102 = nI cs.length := by rw [ho _ _ (by omega)]; exact h102
      by_cases hjl : j < cs.length
      · have hdr : cs.drop j = cs.getD j 0 :: cs.drop (j + 1) := by
          rw [List.drop_eq_getElem_cons hjl, List.getD_eq_getElem?_getD, List.getElem?_eq_getElem hjl]
          rfl
        rw [hdr] at hwf hk
        obtain ⟨w1, w2⟩ := hwf
        unfold ev64 at hk
        have hle2 := st64_len (pv := fun k => clip64 (partV μ i k).toInt64) (of := ofQ home ride) w1
        have hnx := nxC_le (cs.getD j 0) s.length
        have hcj : mI μ1 255 j = cs.getD j 0 := by rw [ho _ _ (by omega)]; exact hcd j hjl
        generalize hcc : cs.getD j 0 = c at *
        have nxt : ∀ (μ2 : Mm), PE μ μ2 (st64 (fun k => clip64 (partV μ i k).toInt64) (ofQ home ride) c s) → AW l G X 0 0 162 [(0, .ref (G.1 + 179)), (1, .int (nI i)), (2, .int (nI j)), (3, .int c)] [] μ2 := by
          intro μ2 hP2
          refine C.iinc (lv' := [(0, _), (1, _), (2, _), (3, _)]) _ dX13_qTold_162 2 rfl rfl (nLt hX rfl) rfl ?_
          refine C.goto 7 dX13_qTold_165 rfl ?_
          have hgo := ih (j + 1) _ μ2 (by omega) (by omega) (by rw [hle2]; omega) hP2 (by rw [hle2]; exact w2) hk
          rw [← nI_1] at hgo
          exact AW.pick [0, 1, 2] rfl hgo
        unfold st64 at nxt
        unfold okC at w1
        refine C.iload_n dX13_qTold_7 2 rfl ?_
        refine C.aload_n dX13_qTold_8 0 rfl ?_
        refine C.getI fX13_355 dX13_qTold_9 hS.o ?_
        rw [k102]
        refine C.icmp_ge 168 dX13_qTold_12 rfl (fun hc12 => ?_) (fun hc12 => ?_)
        · have := n_le hc12; omega
        · refine C.aload_n dX13_qTold_15 0 rfl ?_
          refine C.getA fX13_249 dX13_qTold_16 hS.o hS.r101 ?_
          refine C.iload_n dX13_qTold_19 2 rfl ?_
          refine C.iald hS.a101 (n_in (by omega)) dX13_qTold_20 ?_
          rw [n_cl, hcj]
          refine C.istore_n (lv' := [(0, _), (1, _), (2, _), (3, _)]) dX13_qTold_21 (nLt hX rfl) rfl ?_
          refine C.iload_n dX13_qTold_22 3 rfl ?_
          refine C.sipush (nI 1000) dX13_qTold_23 (by decide) ?_
          refine C.icmp_lt 42 dX13_qTold_26 rfl (fun hc26 => ?_) (fun hc26 => ?_)
          · have q1 : ¬ nI 1000 ≤ c := Int32.not_le.mpr hc26
            rw [if_neg q1] at nxt w1
            refine C.iload_n dX13_qTold_42 3 rfl ?_
            refine C.bipush (nI 60) dX13_qTold_43 (by decide) ?_
            refine C.icmp_lt 85 dX13_qTold_45 rfl (fun hc45 => ?_) (fun hc45 => ?_)
            · have q2 : ¬ nI 60 ≤ c := Int32.not_le.mpr hc45
              rw [if_neg q2] at nxt w1
              refine C.iload_n dX13_qTold_85 3 rfl ?_
              refine C.bipush (nI 40) dX13_qTold_86 (by decide) ?_
              refine C.icmp_lt 110 dX13_qTold_88 rfl (fun hc88 => ?_) (fun hc88 => ?_)
              · have q3 : ¬ nI 40 ≤ c := Int32.not_le.mpr hc88
                rw [if_neg q3] at nxt w1
                refine C.iload_n dX13_qTold_110 3 rfl ?_
                refine C.bipush (nI 13) dX13_qTold_111 (by decide) ?_
                refine C.icmp_ne 124 dX13_qTold_113 rfl (fun hc113 => ?_) (fun hc113 => ?_)
                · rw [if_neg hc113] at nxt w1
                  refine C.iload_n dX13_qTold_124 3 rfl ?_
                  refine C.bipush (nI 12) dX13_qTold_125 (by decide) ?_
                  refine C.icmp_ne 157 dX13_qTold_127 rfl (fun hc127 => ?_) (fun hc127 => ?_)
                  · rw [if_neg hc127] at nxt w1
                    cases s with
                    | nil => simp at w1
                    | cons b s =>
                    cases s with
                    | nil => simp at w1
                    | cons a s =>
                    simp only [List.headD_cons, List.tail_cons] at nxt
                    simp only [List.length_cons] at hsl
                    refine C.aload_n dX13_qTold_157 0 rfl ?_
                    refine C.iload_n dX13_qTold_158 3 rfl ?_
                    refine C.callVV lX13_447 dX13_qTold_159 (ke_joins hS0 hP (by omega) _) hS.o rfl rfl (Nat.le_of_ble_eq_true rfl) (Nat.zero_le _) (Nat.zero_le _) (Nat.le_of_ble_eq_true rfl) (fun μ159 h159 => ?_)
                    first | exact nxt _ h36 | exact nxt _ h104 | exact nxt _ h118 | exact nxt _ (hP.rep _) | exact nxt _ h159
                  · rw [if_pos hc127] at nxt w1
                    cases s with
                    | nil => simp at w1
                    | cons v s =>
                    simp only [List.headD_cons, List.tail_cons] at nxt
                    have hlen : mI μ1 179 108 = nI (s.length + 1) := hP.2.1
                    have htop := hP.top
                    simp only [List.length_cons] at hsl
                    refine C.aload_n dX13_qTold_130 0 rfl ?_
                    refine C.getA fX13_255 dX13_qTold_131 hS.o hS.r107 ?_
                    refine C.aload_n dX13_qTold_134 0 rfl ?_
                    refine C.getI fX13_436 dX13_qTold_135 hS.o ?_
                    rw [hlen]
                    refine C.iconst (nI 1) dX13_qTold_138 (by decide) ?_
                    refine C.isub dX13_qTold_139 ?_
                    rw [pk_sub (by omega), Nat.add_sub_cancel]
                    refine C.lconst (lN 1) dX13_qTold_140 (by decide) ?_
                    refine C.aload_n dX13_qTold_141 0 rfl ?_
                    refine C.getA fX13_255 dX13_qTold_142 hS.o hS.r107 ?_
                    refine C.aload_n dX13_qTold_145 0 rfl ?_
                    refine C.getI fX13_436 dX13_qTold_146 hS.o ?_
                    rw [hlen]
                    refine C.iconst (nI 1) dX13_qTold_149 (by decide) ?_
                    refine C.isub dX13_qTold_150 ?_
                    rw [pk_sub (by omega), Nat.add_sub_cancel]
                    refine C.lald hS.a107 (n_in (by omega)) dX13_qTold_151 ?_
                    rw [n_cl, htop]
                    refine C.lsub dX13_qTold_152 ?_
                    refine C.last hS.a107 (n_in (by omega)) dX13_qTold_153 ?_
                    rw [n_cl]
                    refine C.goto 162 dX13_qTold_154 rfl ?_
                    first | exact nxt _ h36 | exact nxt _ h104 | exact nxt _ h118 | exact nxt _ (hP.rep _) | exact nxt _ h159
                · rw [if_pos hc113] at nxt
                  refine C.aload_n dX13_qTold_116 0 rfl ?_
                  refine C.lconst (lN 1) dX13_qTold_117 (by decide) ?_
                  refine C.callVV lX13_439 dX13_qTold_118 (ke_puts hS0 hP (by omega) _) hS.o rfl rfl (Nat.le_of_ble_eq_true rfl) (Nat.zero_le _) (Nat.zero_le _) (Nat.le_of_ble_eq_true rfl) (fun μ118 h118 => ?_)
                  refine C.goto 162 dX13_qTold_121 rfl ?_
                  first | exact nxt _ h36 | exact nxt _ h104 | exact nxt _ h118 | exact nxt _ (hP.rep _) | exact nxt _ h159
              · have q3 : nI 40 ≤ c := Int32.not_lt.mp hc88
                rw [if_pos q3] at nxt w1
                obtain ⟨kk, k1, k2, ek⟩ := c_sub (a := 0) (m := 40) (n := 48) (by decide) (by decide) q3 w1.2
                rw [ek, pk_sub (by omega), nn_nI (by omega)] at nxt
                refine C.aload_n dX13_qTold_91 0 rfl ?_
                refine C.aload_n dX13_qTold_92 0 rfl ?_
                refine C.iload_n dX13_qTold_93 3 rfl ?_
                refine C.bipush (nI 40) dX13_qTold_94 (by decide) ?_
                refine C.isub dX13_qTold_96 ?_
                rw [ek, pk_sub (by omega)]
                refine C.iload_n dX13_qTold_97 1 rfl ?_
                refine C.callVL lX13_443 dX13_qTold_98 (ke_partOf hS hi (show kk - 40 < 9 by omega)) hS.o rfl rfl (Nat.le_of_ble_eq_true rfl) (Nat.zero_le _) (Nat.zero_le _) (Nat.le_of_ble_eq_true rfl) (fun x98 μ98 h98 => ?_)
                obtain ⟨rfl, hμ⟩ := h98
                subst hμ
                rw [hP.pvs]
                refine C.callSL lX13_666 dX13_qTold_101 (ke_clip _) rfl rfl (Nat.le_of_ble_eq_true rfl) (Nat.zero_le _) (Nat.zero_le _) (Nat.le_of_ble_eq_true rfl) (fun x101 μ101 h101 => ?_)
                obtain ⟨rfl, hμ⟩ := h101
                subst hμ
                refine C.callVV lX13_439 dX13_qTold_104 (ke_puts hS0 hP (by omega) _) hS.o rfl rfl (Nat.le_of_ble_eq_true rfl) (Nat.zero_le _) (Nat.zero_le _) (Nat.le_of_ble_eq_true rfl) (fun μ104 h104 => ?_)
                refine C.goto 162 dX13_qTold_107 rfl ?_
                first | exact nxt _ h36 | exact nxt _ h104 | exact nxt _ h118 | exact nxt _ (hP.rep _) | exact nxt _ h159
            · have q2 : nI 60 ≤ c := Int32.not_lt.mp hc45
              rw [if_pos q2] at nxt w1
              cases s with
              | nil => simp at w1
              | cons v s =>
              simp only [List.headD_cons, List.tail_cons] at nxt
              have hlen : mI μ1 179 108 = nI (s.length + 1) := hP.2.1
              have htop := hP.top
              simp only [List.length_cons] at hsl
              refine C.aload_n dX13_qTold_48 0 rfl ?_
              refine C.getA fX13_255 dX13_qTold_49 hS.o hS.r107 ?_
              refine C.aload_n dX13_qTold_52 0 rfl ?_
              refine C.getI fX13_436 dX13_qTold_53 hS.o ?_
              rw [hlen]
              refine C.iconst (nI 1) dX13_qTold_56 (by decide) ?_
              refine C.isub dX13_qTold_57 ?_
              rw [pk_sub (by omega), Nat.add_sub_cancel]
              refine C.aload_n dX13_qTold_58 0 rfl ?_
              refine C.iload_n dX13_qTold_59 3 rfl ?_
              refine C.bipush (nI 60) dX13_qTold_60 (by decide) ?_
              refine C.isub dX13_qTold_62 ?_
              refine C.aload_n dX13_qTold_63 0 rfl ?_
              refine C.getA fX13_255 dX13_qTold_64 hS.o hS.r107 ?_
              refine C.aload_n dX13_qTold_67 0 rfl ?_
              refine C.getI fX13_436 dX13_qTold_68 hS.o ?_
              rw [hlen]
              refine C.iconst (nI 1) dX13_qTold_71 (by decide) ?_
              refine C.isub dX13_qTold_72 ?_
              rw [pk_sub (by omega), Nat.add_sub_cancel]
              refine C.lald hS.a107 (n_in (by omega)) dX13_qTold_73 ?_
              rw [n_cl, htop]
              refine C.iload_n dX13_qTold_74 1 rfl ?_
              refine C.callVL lX13_677 dX13_qTold_75 (ke_of hS hi (by rw [ho _ _ (by omega)]; exact hh) h49 (fun h q => ⟨by rw [ho _ _ (by omega)]; exact (hri h q).1, (hri h q).2⟩) _ v) hS.o rfl rfl (Nat.le_of_ble_eq_true rfl) (Nat.zero_le _) (Nat.zero_le _) (Nat.le_of_ble_eq_true rfl) (fun x75 μ75 h75 => ?_)
              obtain ⟨rfl, hμ⟩ := h75
              subst hμ
              refine C.callSL lX13_666 dX13_qTold_78 (ke_clip _) rfl rfl (Nat.le_of_ble_eq_true rfl) (Nat.zero_le _) (Nat.zero_le _) (Nat.le_of_ble_eq_true rfl) (fun x78 μ78 h78 => ?_)
              obtain ⟨rfl, hμ⟩ := h78
              subst hμ
              refine C.last hS.a107 (n_in (by omega)) dX13_qTold_81 ?_
              rw [n_cl]
              refine C.goto 162 dX13_qTold_82 rfl ?_
              first | exact nxt _ h36 | exact nxt _ h104 | exact nxt _ h118 | exact nxt _ (hP.rep _) | exact nxt _ h159
          · have q1 : nI 1000 ≤ c := Int32.not_lt.mp hc26
            rw [if_pos q1] at nxt
            refine C.aload_n dX13_qTold_29 0 rfl ?_
            refine C.iload_n dX13_qTold_30 3 rfl ?_
            refine C.sipush (nI 1000) dX13_qTold_31 (by decide) ?_
            refine C.isub dX13_qTold_34 ?_
            refine C.i2l dX13_qTold_35 ?_
            refine C.callVV lX13_439 dX13_qTold_36 (ke_puts hS0 hP (by omega) _) hS.o rfl rfl (Nat.le_of_ble_eq_true rfl) (Nat.zero_le _) (Nat.zero_le _) (Nat.le_of_ble_eq_true rfl) (fun μ36 h36 => ?_)
            refine C.goto 162 dX13_qTold_39 rfl ?_
            first | exact nxt _ h36 | exact nxt _ h104 | exact nxt _ h118 | exact nxt _ (hP.rep _) | exact nxt _ h159
      · have hjj : j = cs.length := by omega
        rw [hjj, List.drop_length] at hk
        unfold ev64 at hk
        subst hk
        have hs0 : ∃ v, s = [v] := by
          match s, hK1 with
          | [v], _ => exact ⟨v, rfl⟩
        obtain ⟨v, hv⟩ := hs0
        subst hv
        have htop := hP.top
        refine C.iload_n dX13_qTold_7 2 rfl ?_
        refine C.aload_n dX13_qTold_8 0 rfl ?_
        refine C.getI fX13_355 dX13_qTold_9 hS.o ?_
        rw [k102]
        refine C.icmp_ge 168 dX13_qTold_12 rfl (fun hc12 => ?_) (fun hc12 => ?_)
        · refine C.aload_n dX13_qTold_168 0 rfl ?_
          refine C.getA fX13_255 dX13_qTold_169 hS.o hS.r107 ?_
          refine C.iconst (nI 0) dX13_qTold_172 (by decide) ?_
          refine C.lald hS.a107 (n_in (by decide)) dX13_qTold_173 ?_
          rw [n_cl, show mL μ1 257 0 = v from htop]
          refine C.lret hq dX13_qTold_174 ?_
          exact ⟨rfl, htm _ _ hP⟩
        · have := n_nle hc12; omega
  have hP0 : PE μ (sI μ 179 108 (nI 0)) [] := ⟨⟨rfl, fun a k q => by rw [mI_sI, if_neg q], fun _ _ _ => rfl⟩, by simp [mI_sI], fun j hj => by simp at hj⟩
  refine C.aload_n dX13_qTold_0 0 rfl ?_
  refine C.iconst (nI 0) dX13_qTold_1 (by decide) ?_
  refine C.putI fX13_436 (Or.inl rfl) dX13_qTold_2 hS.o ?_
  refine C.iconst (nI 0) dX13_qTold_5 (by decide) ?_
  refine C.istore_n (lv' := [(0, _), (1, _), (2, _)]) dX13_qTold_6 (nLt hX rfl) rfl ?_
  exact loop (cs.length + 1) 0 [] _ (by omega) (by omega) (by simp) hP0 hwf hK
/-- what a question takes of one walker -/
def tkI (kd : Nat) (v : Int64) : Bool := decide (kd < 3) && decide (v = lN 1)
def tk1 (kd : Nat) (is : Bool) (i : Nat) (x : Int64) : Int64 := if (kd = 0 ∧ is = true ∧ x = -1) ∨ (kd = 1 ∧ is = true) then lN i else x
def tk2 (kd : Nat) (is : Bool) (x : Int64) : Int64 := if kd = 2 ∧ is = true then x + lN 1 else x
def tk3 (kd : Nat) (v x : Int64) : Int64 := if kd = 3 then x + v else x
def tk4 (kd : Nat) (v : Int64) (nw : Bool) (x : Int64) : Int64 := if 3 < kd ∧ (nw = true ∨ (kd = 4 ∧ ¬ v ≤ x) ∨ (¬ kd = 4 ∧ ¬ x ≤ v)) then v else x
def tkF (kd : Nat) (v : Int64) (i : Nat) (a : Int64 × Bool) : Int64 := tk4 kd v a.2 (tk3 kd v (tk2 kd (tkI kd v) (tk1 kd (tkI kd v) i a.1)))
theorem bI_1 {b : Bool} : bI b = 0 ∨ bI b = 1 := by cases b; exact Or.inl rfl; exact Or.inr rfl
theorem ke_takes (hS : ShM μ) {kd i : Nat} (hk : kd < 6) (hi : i < 6) (v : Int64) {a : Int64 × Bool} (h109 : mL μ 179 109 = a.1) (h110 : mI μ 179 110 = bI a.2) : AMet l G 0 0 0 mtX13_qTakes [.ref (G.1 + 179), .int (nI kd), .long v, .int (nI i)] μ (qV (fun μ' => μ' = sI (sL μ 179 109 (tkF kd v i a)) 179 110 (nI 0))) := by
  refine AMet.of (by decide) (Nat.le_of_ble_eq_true rfl) (fun X C hX hnm hq => ?_)
  have fin : ∀ (ans : Int64) (x5 : Int32), ans = (tkF kd v i a) → AW l G X 0 0 133 [(0, .ref (G.1 + 179)), (1, .int (nI kd)), (2, .long v), (4, .int (nI i)), (5, .int x5)] [] (sL μ 179 109 ans) := by
    intro ans x5 he
    subst he
    have hS : ShM (sL μ 179 109 (tkF kd v i a)) := hS.of rfl
    refine C.aload_n dX13_qTakes_133 0 rfl ?_
    refine C.iconst (nI 0) dX13_qTakes_134 (by decide) ?_
    refine C.putZ fX13_686 (Or.inl rfl) dX13_qTakes_135 hS.o (by decide) ?_
    refine C.vret hq dX13_qTakes_138 ?_
    rfl
  have self : sL μ 179 109 a.1 = μ := by
    unfold sL
    have : (fun b j => if b = 179 ∧ j = 109 then a.1 else μ.2.1 b j) = μ.2.1 := by
      funext b j
      by_cases q : b = 179 ∧ j = 109
      · rw [if_pos q, q.1, q.2]; exact h109.symm
      · rw [if_neg q]
    rw [this]
  have ss : ∀ x y : Int64, sL (sL μ 179 109 x) 179 109 y = sL μ 179 109 y := fun x y => by
    unfold sL
    dsimp only
    congr 2
    funext b j
    by_cases q : b = 179 ∧ j = 109
    · rw [if_pos q, if_pos q]
    · rw [if_neg q, if_neg q, if_neg q]
  generalize his : tkI kd v = is at *
  have e109 : ∀ x, mL (sL μ 179 109 x) 179 109 = x := fun x => by rw [mL_sL, if_pos ⟨rfl, rfl⟩]
  have m90 : ∀ x, tk4 kd v a.2 x = tkF kd v i a → AW l G X 0 0 90 [(0, .ref (G.1 + 179)), (1, .int (nI kd)), (2, .long v), (4, .int (nI i)), (5, .int (bI is))] [] (sL μ 179 109 x) := by
    intro x hx
    have hS : ShM (sL μ 179 109 x) := hS.of rfl
    have k110 : mI (sL μ 179 109 x) 179 110 = bI a.2 := h110
    unfold tk4 at hx
    refine C.iload_n dX13_qTakes_90 1 rfl ?_
    refine C.iconst (nI 3) dX13_qTakes_91 (by decide) ?_
    refine C.icmp_le 133 dX13_qTakes_92 rfl (fun hc92 => ?_) (fun hc92 => ?_)
    · have q1 := n_le (a := kd) (b := 3) hc92
      rw [if_neg (fun q => by have := q.1; omega)] at hx
      exact fin x _ hx
    · have q1 := n_nle (a := kd) (b := 3) hc92
      refine C.aload_n dX13_qTakes_95 0 rfl ?_
      refine C.getZ fX13_686 dX13_qTakes_96 hS.o ?_
      rw [k110]
      refine C.if_ne 128 dX13_qTakes_99 rfl (fun hc99 => ?_) (fun hc99 => ?_)
      · rw [if_pos ⟨q1, Or.inl (b_t hc99)⟩] at hx
        refine C.aload_n dX13_qTakes_128 0 rfl ?_
        refine C.lload_n dX13_qTakes_129 2 rfl ?_
        refine C.putL fX13_681 (Or.inl rfl) dX13_qTakes_130 hS.o ?_
        rw [ss]
        exact fin v _ hx
      · have q2 : ¬ a.2 = true := by rw [(bI_0 _).mp hc99]; decide
        refine C.iload_n dX13_qTakes_102 1 rfl ?_
        refine C.iconst (nI 4) dX13_qTakes_103 (by decide) ?_
        refine C.icmp_ne 119 dX13_qTakes_104 rfl (fun hc104 => ?_) (fun hc104 => ?_)
        · have q3 : ¬ kd = 4 := n_ne hc104
          refine C.lload_n dX13_qTakes_119 2 rfl ?_
          refine C.aload_n dX13_qTakes_120 0 rfl ?_
          refine C.getL fX13_681 dX13_qTakes_121 hS.o ?_
          rw [e109]
          refine C.lcmp dX13_qTakes_124 ?_
          refine C.if_ge 133 dX13_qTakes_125 rfl (fun hc125 => ?_) (fun hc125 => ?_)
          · have q4 := cmp_ge.mp hc125
            rw [if_neg (fun q => q.2.elim q2 (fun z => z.elim (fun y => q3 y.1) (fun y => y.2 q4)))] at hx
            exact fin x _ hx
          · rw [if_pos ⟨q1, Or.inr (Or.inr ⟨q3, fun z => hc125 (cmp_ge.mpr z)⟩)⟩] at hx
            refine C.aload_n dX13_qTakes_128 0 rfl ?_
            refine C.lload_n dX13_qTakes_129 2 rfl ?_
            refine C.putL fX13_681 (Or.inl rfl) dX13_qTakes_130 hS.o ?_
            rw [ss]
            exact fin v _ hx
        · have q3 : kd = 4 := n_eq (a := kd) (b := 4) hc104
          refine C.lload_n dX13_qTakes_107 2 rfl ?_
          refine C.aload_n dX13_qTakes_108 0 rfl ?_
          refine C.getL fX13_681 dX13_qTakes_109 hS.o ?_
          rw [e109]
          refine C.lcmp dX13_qTakes_112 ?_
          refine C.if_le 133 dX13_qTakes_113 rfl (fun hc113 => ?_) (fun hc113 => ?_)
          · have q4 := cmp_le.mp hc113
            rw [if_neg (fun q => q.2.elim q2 (fun z => z.elim (fun y => y.2 q4) (fun y => y.1 q3)))] at hx
            exact fin x _ hx
          · rw [if_pos ⟨q1, Or.inr (Or.inl ⟨q3, fun z => hc113 (cmp_le.mpr z)⟩)⟩] at hx
            refine C.goto 128 dX13_qTakes_116 rfl ?_
            refine C.aload_n dX13_qTakes_128 0 rfl ?_
            refine C.lload_n dX13_qTakes_129 2 rfl ?_
            refine C.putL fX13_681 (Or.inl rfl) dX13_qTakes_130 hS.o ?_
            rw [ss]
            exact fin v _ hx
  have m75 : ∀ x, tk4 kd v a.2 (tk3 kd v x) = tkF kd v i a → AW l G X 0 0 75 [(0, .ref (G.1 + 179)), (1, .int (nI kd)), (2, .long v), (4, .int (nI i)), (5, .int (bI is))] [] (sL μ 179 109 x) := by
    intro x hx
    have hS : ShM (sL μ 179 109 x) := hS.of rfl
    unfold tk3 at hx
    refine C.iload_n dX13_qTakes_75 1 rfl ?_
    refine C.iconst (nI 3) dX13_qTakes_76 (by decide) ?_
    refine C.icmp_ne 90 dX13_qTakes_77 rfl (fun hc77 => ?_) (fun hc77 => ?_)
    · have q1 : ¬ kd = 3 := n_ne hc77
      rw [if_neg q1] at hx
      exact m90 x hx
    · have q1 : kd = 3 := n_eq (a := kd) (b := 3) hc77
      rw [if_pos q1] at hx
      refine C.aload_n dX13_qTakes_80 0 rfl ?_
      refine C.dup dX13_qTakes_81 rfl ?_
      refine C.getL fX13_681 dX13_qTakes_82 hS.o ?_
      rw [e109]
      refine C.lload_n dX13_qTakes_85 2 rfl ?_
      refine C.ladd dX13_qTakes_86 ?_
      refine C.putL fX13_681 (Or.inl rfl) dX13_qTakes_87 hS.o ?_
      rw [ss]
      exact m90 _ hx
  have m55 : ∀ x, tk4 kd v a.2 (tk3 kd v (tk2 kd is x)) = tkF kd v i a → AW l G X 0 0 55 [(0, .ref (G.1 + 179)), (1, .int (nI kd)), (2, .long v), (4, .int (nI i)), (5, .int (bI is))] [] (sL μ 179 109 x) := by
    intro x hx
    have hS : ShM (sL μ 179 109 x) := hS.of rfl
    unfold tk2 at hx
    refine C.iload_n dX13_qTakes_55 1 rfl ?_
    refine C.iconst (nI 2) dX13_qTakes_56 (by decide) ?_
    refine C.icmp_ne 75 dX13_qTakes_57 rfl (fun hc57 => ?_) (fun hc57 => ?_)
    · have q1 : ¬ kd = 2 := n_ne hc57
      rw [if_neg (fun q => q1 q.1)] at hx
      exact m75 x hx
    · have q1 : kd = 2 := n_eq (a := kd) (b := 2) hc57
      refine C.iload dX13_qTakes_60 4 rfl ?_
      refine C.if_eq 75 dX13_qTakes_62 rfl (fun hc62 => ?_) (fun hc62 => ?_)
      · rw [if_neg (fun q => by have := (bI_0 _).mp hc62; rw [this] at q; cases q.2)] at hx
        exact m75 x hx
      · rw [if_pos ⟨q1, b_t hc62⟩] at hx
        refine C.aload_n dX13_qTakes_65 0 rfl ?_
        refine C.dup dX13_qTakes_66 rfl ?_
        refine C.getL fX13_681 dX13_qTakes_67 hS.o ?_
        rw [e109]
        refine C.lconst (lN 1) dX13_qTakes_70 (by decide) ?_
        refine C.ladd dX13_qTakes_71 ?_
        refine C.putL fX13_681 (Or.inl rfl) dX13_qTakes_72 hS.o ?_
        rw [ss]
        exact m75 _ hx
  have h0 : tk4 kd v a.2 (tk3 kd v (tk2 kd is (tk1 kd is i a.1))) = tkF kd v i a := by unfold tkF; rw [his]
  unfold tk1 at h0
  have m38 : ¬ (kd = 0 ∧ is = true ∧ a.1 = -1) → AW l G X 0 0 38 [(0, .ref (G.1 + 179)), (1, .int (nI kd)), (2, .long v), (4, .int (nI i)), (5, .int (bI is))] [] μ := by
    intro hno
    have go : ¬ (kd = 1 ∧ is = true) → AW l G X 0 0 55 [(0, .ref (G.1 + 179)), (1, .int (nI kd)), (2, .long v), (4, .int (nI i)), (5, .int (bI is))] [] μ := by
      intro hn2
      rw [if_neg (fun q => q.elim hno hn2)] at h0
      have := m55 _ h0
      rw [self] at this
      exact this
    refine C.iload_n dX13_qTakes_38 1 rfl ?_
    refine C.iconst (nI 1) dX13_qTakes_39 (by decide) ?_
    refine C.icmp_ne 55 dX13_qTakes_40 rfl (fun hc40 => ?_) (fun hc40 => ?_)
    · exact go (fun q => n_ne hc40 q.1)
    · have q1 : kd = 1 := n_eq (a := kd) (b := 1) hc40
      refine C.iload dX13_qTakes_43 4 rfl ?_
      refine C.if_eq 55 dX13_qTakes_45 rfl (fun hc45 => ?_) (fun hc45 => ?_)
      · exact go (fun q => by have := (bI_0 _).mp hc45; rw [this] at q; cases q.2)
      · rw [if_pos (Or.inr ⟨q1, b_t hc45⟩)] at h0
        refine C.aload_n dX13_qTakes_48 0 rfl ?_
        refine C.iload dX13_qTakes_49 3 rfl ?_
        refine C.i2l dX13_qTakes_51 ?_
        rw [nI_l (by omega)]
        refine C.putL fX13_681 (Or.inl rfl) dX13_qTakes_52 hS.o ?_
        exact m55 _ h0
  have m16 : AW l G X 0 0 16 [(0, .ref (G.1 + 179)), (1, .int (nI kd)), (2, .long v), (4, .int (nI i))] [.int (bI is)] μ := by
    refine C.istore (lv' := [(0, _), (1, _), (2, _), (4, _), (5, _)]) dX13_qTakes_16 (nLt hX rfl) rfl ?_
    refine C.iload_n dX13_qTakes_18 1 rfl ?_
    refine C.if_ne 38 dX13_qTakes_19 rfl (fun hc19 => ?_) (fun hc19 => ?_)
    · exact m38 (fun q => hc19 (by rw [q.1]; rfl))
    · have q1 : kd = 0 := n_eq (b := 0) hc19
      refine C.iload dX13_qTakes_22 4 rfl ?_
      refine C.if_eq 38 dX13_qTakes_24 rfl (fun hc24 => ?_) (fun hc24 => ?_)
      · exact m38 (fun q => by have := (bI_0 _).mp hc24; rw [this] at q; cases q.2.1)
      · have q2 := b_t hc24
        refine C.aload_n dX13_qTakes_27 0 rfl ?_
        refine C.getL fX13_681 dX13_qTakes_28 hS.o ?_
        rw [h109]
        refine C.ldc2 kX13_684 dX13_qTakes_31 ?_
        refine C.lcmp dX13_qTakes_34 ?_
        refine C.if_eq 48 dX13_qTakes_35 rfl (fun hc35 => ?_) (fun hc35 => ?_)
        · have q3 : a.1 = -1 := cmp_eq.mp hc35
          rw [if_pos (Or.inl ⟨q1, q2, q3⟩)] at h0
          refine C.aload_n dX13_qTakes_48 0 rfl ?_
          refine C.iload dX13_qTakes_49 3 rfl ?_
          refine C.i2l dX13_qTakes_51 ?_
          rw [nI_l (by omega)]
          refine C.putL fX13_681 (Or.inl rfl) dX13_qTakes_52 hS.o ?_
          exact m55 _ h0
        · exact m38 (fun q => hc35 (cmp_eq.mpr q.2.2))
  unfold tkI at his
  refine C.iload_n dX13_qTakes_0 1 rfl ?_
  refine C.iconst (nI 3) dX13_qTakes_1 (by decide) ?_
  refine C.icmp_ge 15 dX13_qTakes_2 rfl (fun hc2 => ?_) (fun hc2 => ?_)
  · have q1 := n_le (a := 3) (b := kd) hc2
    rw [decide_eq_false (p := kd < 3) (by omega), Bool.false_and] at his
    refine C.iconst (nI 0) dX13_qTakes_15 (by decide) ?_
    rw [← his] at m16
    subst his
    exact m16
  · have q1 := n_nle (a := 3) (b := kd) hc2
    rw [decide_eq_true q1, Bool.true_and] at his
    refine C.lload_n dX13_qTakes_5 2 rfl ?_
    refine C.lconst (lN 1) dX13_qTakes_6 (by decide) ?_
    refine C.lcmp dX13_qTakes_7 ?_
    refine C.if_ne 15 dX13_qTakes_8 rfl (fun hc8 => ?_) (fun hc8 => ?_)
    · rw [decide_eq_false (fun z => hc8 (cmp_eq.mpr z))] at his
      refine C.iconst (nI 0) dX13_qTakes_15 (by decide) ?_
      rw [← his] at m16
      subst his
      exact m16
    · rw [decide_eq_true (cmp_eq.mp hc8)] at his
      refine C.iconst (nI 1) dX13_qTakes_11 (by decide) ?_
      refine C.goto 16 dX13_qTakes_12 rfl ?_
      rw [← his] at m16
      subst his
      exact m16
end KAK
