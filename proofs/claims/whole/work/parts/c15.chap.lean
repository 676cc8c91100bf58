/-! the class: one more chapel; who is met first -/
section KX7
variable {l : Launch} {G : Gm} {μ : Mm} {h : Hs} {L : Nat} {c : Lc}
theorem chapL_le {d : Ld} {S : St} {n : Nat} : ∀ (j k : Nat) (a : Nat × Option Nat), (chapL d S n j k a).1 ≤ a.1
  | 0, _, _ => Nat.le_refl _
  | j + 1, k, a => by
    refine Nat.le_trans (chapL_le j (k + 1) _) ?_
    unfold chapS
    split
    · exact Nat.le_refl _
    · split
      · exact Nat.le_of_lt (by assumption)
      · exact Nat.le_refl _
theorem nit_le {d : Ld} (h6 : d.2.2.2.1.length ≤ 6) {more : Option Nat} {S : St} (n : Nat) : (nitC d more n (S, 0, 0)).2.1 ≤ 6 * n := by
  have e := (eqCn (d := d) (more := more) (th := true) n (S, 0, 0, 0) (S, 0, 0) ⟨rfl, rfl, rfl, rfl⟩).2.2.1
  rw [← e]
  have := nightsA_le h6 more true n (S, 0, 0, 0)
  dsimp only at this
  omega

theorem kx_chapel (hC : ClsRel μ h) (hH : HOk h) (x y : Int32) : AMet l G 7 0 0 mtX12_chapel [.ref (G.1 + 0), .int x, .int y] μ (qI (fun z μ' => z = chapA h x y ∧ PX μ h μ')) := by
  refine AMet.of (by decide) (Nat.le_of_ble_eq_true rfl) (fun X C hX hnm hq => ?_)
  have hS := hC.1.1.1
  obtain ⟨L, c, hL⟩ := hC.2.2.2
  have hd7 := hH.d7
  unfold chapA at hq
  have no : MR G X (qI (fun z μ' => z = -1 ∧ PX μ h μ')) → AW l G X 0 0 20 [(0, .ref (G.1 + 0)), (1, .int x), (2, .int y)] [] μ := by
    clear hq
    intro hq
    refine C.iconst (-1) dX12_chapel_20 (by decide) ?_
    refine C.iret hq dX12_chapel_21 ?_
    exact ⟨rfl, hC.self⟩
  have main : ∀ (n j : Nat), 0 < (ldH h).1.1 → n ≤ 20 → (stH h).1.1 + n ≤ 999 → x = nI n → j < 3 → y = nI j → MR G X (qI (fun z μ' => z = chapO h n j ∧ PX μ h μ')) → AW l G X 0 0 22 [(0, .ref (G.1 + 0)), (1, .int (nI n)), (2, .int (nI j))] [] μ := by
    clear hq
    intro n j hp hn20 hn ex hj ey hq
    have hW := hH.wfP hp
    have h49 := hW.n49
    have h7 := hW.w7
    have hw0 : chapM (ldH h) (stH h) n none = (nitC (ldH h) none n (stH h, 0, 0)).2.1 := chapM_nit n none
    have hwb := nit_le hd7.2.2.2.2.2 (more := none) (S := stH h) n
    have hEl := entC_lt hW (more := none) n (stH h, 0, 0) 0 (by decide)
    have hbg := hW.1.2.2.2.2
    unfold chapO at hq
    generalize hRR : chapR h n = R at hq
    rw [hw0] at hq
    generalize hWo : (nitC (ldH h) none n (stH h, 0, 0)).2.1 = wo at hq hwb
    -- the cells
    have loop : ∀ (m k : Nat) (a : Nat × Option Nat) (μ1 : Mm), k + m = nC (ldH h) → QX μ h L c μ1 → chapL (ldH h) (stH h) n m k a = R → a.1 ≤ wo → (∀ e, a.2 = some e → clOk (ldH h) e) → AW l G X 0 0 54 [(0, .ref (G.1 + 0)), (1, .int (nI n)), (2, .int (nI j)), (3, .int (nI wo)), (4, .long (lN (entC (ldH h) none n (stH h, 0, 0) 0))), (6, .int (opI (a.2.map (kC (ldH h))))), (7, .int (nI a.1)), (8, .int (nI k))] [] μ1 := by
      intro m
      induction m with
      | zero =>
        intro k a μ1 hk hQ hv hle hok
        have hS := hQ.1.1.1.1.1
        have hg := hQ.2.1
        have hR := hQ.2.2.1
        have hv' : a = R := hv
        subst hv'
        refine C.iload dX12_chapel_54 7 rfl ?_
        refine C.aload_n dX12_chapel_56 0 rfl ?_
        refine C.getO fX12_54 dX12_chapel_57 hS.o0 hg ?_
        refine C.callVI lX12_320 dX12_chapel_60 (kl_cellCount hR.o (hR.r (by decide)) hR.1.2.2.2.1.1) hR.o rfl rfl (Nat.le_of_ble_eq_true rfl) (Nat.zero_le _) (Nat.zero_le _) (Nat.le_of_ble_eq_true rfl) (fun x60 μ60 h60 => ?_)
        obtain ⟨rfl, hμ⟩ := h60
        subst hμ
        refine C.icmp_ge 129 dX12_chapel_63 rfl (fun hc63 => ?_) (fun hc63 => ?_)
        · refine C.iload dX12_chapel_129 5 rfl ?_
          refine C.iconst (-1) dX12_chapel_131 (by decide) ?_
          refine C.icmp_ne 137 dX12_chapel_132 rfl (fun hc132 => ?_) (fun hc132 => ?_)
          · obtain ⟨e, he⟩ : ∃ e, a.2 = some e := by
              cases ha : a.2 with
              | none => rw [ha] at hc132; exact absurd rfl hc132
              | some e => exact ⟨e, rfl⟩
            rw [he] at hq
            have hce := hok e he
            refine C.iload_n dX12_chapel_137 2 rfl ?_
            refine C.iconst (nI 2) dX12_chapel_138 (by decide) ?_
            refine C.icmp_ne 149 dX12_chapel_139 rfl (fun hc139 => ?_) (fun hc139 => ?_)
            · have hj2 : j ≠ 2 := fun q => hc139 (by rw [q])
              rw [he]
              refine C.aload_n dX12_chapel_149 0 rfl ?_
              refine C.iload dX12_chapel_150 5 rfl ?_
              refine C.iload_n dX12_chapel_152 2 rfl ?_
              refine C.callVI lX12_278 dX12_chapel_153 (kx_coord hS hQ.2 hW hce (nI j)) hS.o0 rfl rfl (Nat.le_of_ble_eq_true rfl) (Nat.zero_le _) (Nat.zero_le _) (Nat.le_of_ble_eq_true rfl) (fun x153 μ153 h153 => ?_)
              obtain ⟨rfl, hμ⟩ := h153
              subst hμ
              refine C.iret hq dX12_chapel_156 ?_
              first | exact ⟨by show nI wo - nI a.1 = nI (wo - a.1); exact pk_sub hle, hQ.1⟩ | (refine ⟨?_, hQ.1⟩; rcases (show j = 0 ∨ j = 1 by omega) with rfl | rfl; (show (if nI 0 = nI 0 then _ else _) = nI (e % 7); rw [if_pos rfl]); (show (if nI 1 = nI 0 then _ else if nI 1 = nI 1 then _ else _) = nI (e / 7); rw [if_neg (by decide), if_pos rfl]))
            · have hj2 : j = 2 := n_eq hc139
              subst hj2
              refine C.iload_n dX12_chapel_142 3 rfl ?_
              refine C.iload dX12_chapel_143 6 rfl ?_
              refine C.isub dX12_chapel_145 ?_
              refine C.goto 156 dX12_chapel_146 rfl ?_
              refine C.iret hq dX12_chapel_156 ?_
              first | exact ⟨by show nI wo - nI a.1 = nI (wo - a.1); exact pk_sub hle, hQ.1⟩ | (refine ⟨?_, hQ.1⟩; rcases (show j = 0 ∨ j = 1 by omega) with rfl | rfl; (show (if nI 0 = nI 0 then _ else _) = nI (e % 7); rw [if_pos rfl]); (show (if nI 1 = nI 0 then _ else if nI 1 = nI 1 then _ else _) = nI (e / 7); rw [if_neg (by decide), if_pos rfl]))
          · have hnone : a.2 = none := by
              cases ha : a.2 with
              | none => rfl
              | some e => rw [ha] at hc132; have := kC_lt (hok e ha); exact absurd hc132 (n_m1 (by omega))
            rw [hnone] at hq
            refine C.iconst (-1) dX12_chapel_135 (by decide) ?_
            refine C.iret hq dX12_chapel_136 ?_
            exact ⟨rfl, hQ.1⟩
        · exact absurd (n_nle hc63) (by omega)
      | succ m ih =>
        intro k a μ1 hk hQ hv hle hok
        have hkl : k < nC (ldH h) := by omega
        have hck := cK_okL h7.2 hkl
        have hkk := kC_cK h7.2 hkl
        have hS := hQ.1.1.1.1.1
        have hg := hQ.2.1
        have hR := hQ.2.2.1
        unfold chapL at hv
        have nxt : ∀ (b : Nat × Option Nat) (μ2 : Mm), QX μ h L c μ2 → b = chapS (ldH h) (stH h) n a (cK (ldH h) k) → AW l G X 0 0 123 [(0, .ref (G.1 + 0)), (1, .int (nI n)), (2, .int (nI j)), (3, .int (nI wo)), (4, .long (lN (entC (ldH h) none n (stH h, 0, 0) 0))), (6, .int (opI (b.2.map (kC (ldH h))))), (7, .int (nI b.1)), (8, .int (nI k))] [] μ2 := by
          intro b μ2 hQ2 hb
          have hbo : b.1 ≤ wo ∧ ∀ e, b.2 = some e → clOk (ldH h) e := by
            rw [hb]
            unfold chapS
            split
            · exact ⟨hle, hok⟩
            · split
              · rename_i q2; exact ⟨by dsimp only; omega, fun e he => by have := Option.some.inj he; rw [← this]; exact hck⟩
              · exact ⟨hle, hok⟩
          have hgo := ih (k + 1) b μ2 (by omega) hQ2 (by rw [hb]; exact hv) hbo.1 hbo.2
          rw [← nI_1] at hgo
          refine C.iinc (lv' := [(0, _), (1, _), (2, _), (3, _), (4, _), (6, _), (7, _), (8, _)]) _ dX12_chapel_123 7 rfl rfl (nLt hX rfl) rfl ?_
          refine C.goto 54 dX12_chapel_126 rfl ?_
          exact hgo
        refine C.iload dX12_chapel_54 7 rfl ?_
        refine C.aload_n dX12_chapel_56 0 rfl ?_
        refine C.getO fX12_54 dX12_chapel_57 hS.o0 hg ?_
        refine C.callVI lX12_320 dX12_chapel_60 (kl_cellCount hR.o (hR.r (by decide)) hR.1.2.2.2.1.1) hR.o rfl rfl (Nat.le_of_ble_eq_true rfl) (Nat.zero_le _) (Nat.zero_le _) (Nat.le_of_ble_eq_true rfl) (fun x60 μ60 h60 => ?_)
        obtain ⟨rfl, hμ⟩ := h60
        subst hμ
        refine C.icmp_ge 129 dX12_chapel_63 rfl (fun hc63 => ?_) (fun hc63 => ?_)
        · exact absurd (n_le hc63) (by omega)
        · refine C.iload dX12_chapel_66 7 rfl ?_
          refine C.aload_n dX12_chapel_68 0 rfl ?_
          refine C.getO fX12_54 dX12_chapel_69 hS.o0 hg ?_
          refine C.getI fX12_294 dX12_chapel_72 hR.o ?_
          rw [hR.2.1.1.2.2]
          refine C.icmp_eq 123 dX12_chapel_75 rfl (fun hc75 => ?_) (fun hc75 => ?_)
          · have he := n_eq hc75 (by omega) (by have := kC_lt hbg; omega)
            refine nxt a _ hQ ?_
            unfold chapS
            rw [if_pos (Or.inr (by rw [he]; exact cK_kC hbg))]
          · have hnb : ¬ cK (ldH h) k = (ldH h).1.2.2 := fun q => hc75 (by rw [← q, hkk])
            refine C.lload dX12_chapel_78 4 rfl ?_
            refine C.iload dX12_chapel_80 7 rfl ?_
            refine C.callSI lX12_216 dX12_chapel_82 (kc_bitOf (by omega) (by omega)) rfl rfl (Nat.le_of_ble_eq_true rfl) (Nat.zero_le _) (Nat.zero_le _) (Nat.le_of_ble_eq_true rfl) (fun x82 μ82 h82 => ?_)
            obtain ⟨rfl, hμ⟩ := h82
            subst hμ
            refine C.iconst (nI 1) dX12_chapel_85 (by decide) ?_
            refine C.icmp_ne 123 dX12_chapel_86 rfl (fun hc86 => ?_) (fun hc86 => ?_)
            · have hb0 : (entC (ldH h) none n (stH h, 0, 0) 0).testBit (kC (ldH h) (cK (ldH h) k)) = false := by
                rw [hkk]
                cases hz : (entC (ldH h) none n (stH h, 0, 0) 0).testBit k with
                | false => rfl
                | true => rw [hz] at hc86; exact absurd rfl hc86
              refine nxt a _ hQ ?_
              unfold chapS
              by_cases q : cK (ldH h) k ∈ (ldH h).2.1
              · rw [if_pos (Or.inl q)]
              · rw [if_neg (fun z => z.elim q hnb), chapM_nit, nit_more hW hck n _ 0 hb0, hWo, if_neg (by omega)]
            · have hb1 : (entC (ldH h) none n (stH h, 0, 0) 0).testBit k = true := by
                cases hz : (entC (ldH h) none n (stH h, 0, 0) 0).testBit k with
                | false => rw [hz] at hc86; exact absurd hc86 (by decide)
                | true => rfl
              have hnc : ¬ cK (ldH h) k ∈ (ldH h).2.1 := fun q => by
                have := ent_chap hW hck q n (stH h, 0, 0) 0 (Nat.zero_testBit _)
                rw [hkk, hb1] at this
                cases this
              have hb2 := nit_le hd7.2.2.2.2.2 (more := some (cK (ldH h) k)) (S := stH h) n
              refine C.aload_n dX12_chapel_89 0 rfl ?_
              refine C.iload_n dX12_chapel_90 1 rfl ?_
              refine C.lconst (lN 1) dX12_chapel_91 (by decide) ?_
              refine C.iload dX12_chapel_92 7 rfl ?_
              refine C.lshl dX12_chapel_94 ?_
              rw [wb_shl 1 (by omega), Nat.one_mul, show (2 : Nat) ^ k = mB (ldH h) (some (cK (ldH h) k)) from by show 2 ^ k = 2 ^ kC (ldH h) (cK (ldH h) k); rw [hkk]]
              refine C.callVV lX12_307 dX12_chapel_95 (kx_goAhead (more := some (cK (ldH h) k)) hQ hH hW (fun e q => by have := Option.some.inj q; rw [← this]; exact hck) hn) hS.o0 rfl rfl (Nat.le_of_ble_eq_true rfl) (Nat.zero_le _) (Nat.zero_le _) (Nat.le_of_ble_eq_true rfl) (fun μ95 h95 => ?_)
              obtain ⟨hQ2, -, g2, -, -⟩ := h95
              have hS : ShC μ95 := hQ2.1.1.1.1.1
              refine C.aload_n dX12_chapel_98 0 rfl ?_
              refine C.getO fX12_73 dX12_chapel_99 hS.o0 hS.r0_6 ?_
              refine C.getI fX12_311 dX12_chapel_102 hS.o37 ?_
              rw [g2]
              refine C.iload dX12_chapel_105 6 rfl ?_
              refine C.icmp_ge 123 dX12_chapel_107 rfl (fun hc107 => ?_) (fun hc107 => ?_)
              · have hge := n_le hc107 (by omega) (by omega)
                refine nxt a _ hQ2 ?_
                unfold chapS
                rw [if_neg (fun z => z.elim hnc hnb), chapM_nit, if_neg (by omega)]
              · have hlt := n_nle hc107 (by omega) (by omega)
                refine C.iload dX12_chapel_110 7 rfl ?_
                refine C.istore (lv' := [(0, _), (1, _), (2, _), (3, _), (4, _), (6, _), (7, _), (8, _)]) dX12_chapel_112 (nLt hX rfl) rfl ?_
                refine C.aload_n dX12_chapel_114 0 rfl ?_
                refine C.getO fX12_73 dX12_chapel_115 hS.o0 hS.r0_6 ?_
                refine C.getI fX12_311 dX12_chapel_118 hS.o37 ?_
                rw [g2]
                refine C.istore (lv' := [(0, _), (1, _), (2, _), (3, _), (4, _), (6, _), (7, _), (8, _)]) dX12_chapel_121 (nLt hX rfl) rfl ?_
                have hgo := nxt ((nitC (ldH h) (some (cK (ldH h) k)) n (stH h, 0, 0)).2.1, some (cK (ldH h) k)) _ hQ2 (by unfold chapS; rw [if_neg (fun z => z.elim hnc hnb), chapM_nit, if_pos hlt])
                rw [show opI ((some (cK (ldH h) k)).map (kC (ldH h))) = nI k from by show nI (kC (ldH h) (cK (ldH h) k)) = nI k; rw [hkk]] at hgo
                exact hgo
    refine C.aload_n dX12_chapel_22 0 rfl ?_
    refine C.iload_n dX12_chapel_23 1 rfl ?_
    refine C.lconst (lN 0) dX12_chapel_24 (by decide) ?_
    refine C.callVV lX12_307 dX12_chapel_25 (kx_goAhead (more := none) ⟨hC.self, hL⟩ hH hW (fun x q => by cases q) hn) hS.o0 rfl rfl (Nat.le_of_ble_eq_true rfl) (Nat.zero_le _) (Nat.zero_le _) (Nat.le_of_ble_eq_true rfl) (fun μ25 h25 => ?_)
    obtain ⟨hQ2, -, g2, -, g5⟩ := h25
    have hS : ShC μ25 := hQ2.1.1.1.1.1
    refine C.aload_n dX12_chapel_28 0 rfl ?_
    refine C.getO fX12_73 dX12_chapel_29 hS.o0 hS.r0_6 ?_
    refine C.getI fX12_311 dX12_chapel_32 hS.o37 ?_
    rw [g2, hWo]
    refine C.istore_n (lv' := [(0, _), (1, _), (2, _), (3, _)]) dX12_chapel_35 (nLt hX rfl) rfl ?_
    refine C.aload_n dX12_chapel_36 0 rfl ?_
    refine C.getO fX12_73 dX12_chapel_37 hS.o0 hS.r0_6 ?_
    refine C.getL fX12_317 dX12_chapel_40 hS.o37 ?_
    rw [g5]
    refine C.lstore (lv' := [(0, _), (1, _), (2, _), (3, _), (4, _)]) dX12_chapel_43 (nLt hX rfl) rfl ?_
    refine C.iconst (-1) dX12_chapel_45 (by decide) ?_
    refine C.istore (lv' := [(0, _), (1, _), (2, _), (3, _), (4, _), (6, _)]) dX12_chapel_46 (nLt hX rfl) rfl ?_
    refine C.iload_n dX12_chapel_48 3 rfl ?_
    refine C.istore (lv' := [(0, _), (1, _), (2, _), (3, _), (4, _), (6, _), (7, _)]) dX12_chapel_49 (nLt hX rfl) rfl ?_
    refine C.iconst (nI 0) dX12_chapel_51 (by decide) ?_
    refine C.istore (lv' := [(0, _), (1, _), (2, _), (3, _), (4, _), (6, _), (7, _), (8, _)]) dX12_chapel_52 (nLt hX rfl) rfl ?_
    exact loop (nC (ldH h)) 0 (wo, none) μ25 (Nat.zero_add _) hQ2 (by rw [← hRR, ← hWo, ← hw0]; rfl) (Nat.le_refl _) (fun e q => by cases q)
  refine C.iload_n dX12_chapel_0 2 rfl ?_
  refine C.if_lt 20 dX12_chapel_1 rfl (fun hc1 => ?_) (fun hc1 => ?_)
  · have e1 := inN_f (n := 3) (Or.inl hc1)
    rw [e1] at hq
    refine no ?_
    cases hz : ahdN h x 1 20 with
    | none => rw [hz] at hq; exact hq
    | some n => rw [hz] at hq; exact hq
  · refine C.iload_n dX12_chapel_4 2 rfl ?_
    refine C.iconst (nI 2) dX12_chapel_5 (by decide) ?_
    refine C.icmp_gt 20 dX12_chapel_6 rfl (fun hc6 => ?_) (fun hc6 => ?_)
    · have e1 : inN y 3 = none := by
        unfold inN
        rw [if_neg (fun z => by have h1 := z.2; rw [i_lt, nI_tI (by decide)] at h1; have h2 := hc6; rw [i_lt, nI_tI (by decide)] at h2; omega)]
      rw [e1] at hq
      refine no ?_
      cases hz : ahdN h x 1 20 with
      | none => rw [hz] at hq; exact hq
      | some n => rw [hz] at hq; exact hq
    · obtain ⟨j, hj, ej, e6⟩ := inN_t (x := y) (n := 3) (by decide) hc1 (fun z => hc6 (by rw [i_le, nI_tI (by decide)] at z; rw [i_lt, nI_tI (by decide)]; omega))
      rw [e6] at hq
      refine C.aload_n dX12_chapel_9 0 rfl ?_
      refine C.iload_n dX12_chapel_10 1 rfl ?_
      refine C.iconst (nI 1) dX12_chapel_11 (by decide) ?_
      refine C.bipush (nI 20) dX12_chapel_12 (by decide) ?_
      refine C.callVI lX12_303 dX12_chapel_14 (kx_canGo hC hH x (by decide) (by decide)) hS.o0 rfl rfl (Nat.le_of_ble_eq_true rfl) (Nat.zero_le _) (Nat.zero_le _) (Nat.le_of_ble_eq_true rfl) (fun x14 μ14 h14 => ?_)
      obtain ⟨rfl, hμ⟩ := h14
      subst hμ
      refine C.if_ne 22 dX12_chapel_17 rfl (fun hc17 => ?_) (fun hc17 => ?_)
      · obtain ⟨n, hz⟩ := isS_t hc17
        rw [hz] at hq
        obtain ⟨hp, -, hn20, hn, ex⟩ := ahdN_some (by decide) (by decide) hz
        have hgo := main n j hp hn20 hn ex hj ej hq
        rw [← ex, ← ej] at hgo
        exact hgo
      · have hz := isS_f hc17
        rw [hz] at hq
        exact no hq
end KX7
