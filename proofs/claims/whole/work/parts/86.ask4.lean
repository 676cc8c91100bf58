/-! the reference: ask(), the whole call -/

section KAF
variable {l : Launch} {G : Gm} {μ : Mm} {h : Hs}
theorem askP_iv {tx : Nat → Nat} {e : Nat} (he : e ≤ 1600) {r : Nat × Ps} (hp : r.2.1 ≤ e) : (askP tx e r).2.1 ≤ e ∧ ((askP tx e r).2.2.2.1 = 0 → (askP tx e r).1.1.length ≤ e) := by
  unfold askP
  split
  · rename_i hz
    split
    · obtain ⟨⟨a1, a2, a3, a4⟩, b⟩ := tTest_iv (tx := tx) (tk := nI 2) he (t0_iv (e := e) hp)
      exact ⟨a1, fun q => by have := a4 q; unfold tln at this; omega⟩
    · obtain ⟨⟨a1, a2, a3, a4⟩, b⟩ := sSums_iv (tx := tx) (tk := nI 2) (t := t0 r.2) he hz (t0_iv hp)
      exact ⟨a1, fun q => by have := a4 q; unfold tln at this; omega⟩
  · exact ⟨hp, fun _ => Nat.zero_le _⟩
theorem askL_of {h' : Hs} (hl : ldH h' = ldH h) (hs : stH h' = stH h) {kd : Nat} {cs : List Int32} : ∀ (n i : Nat) (a : Int64 × Bool), askL h' kd cs n i a = askL h kd cs n i a
  | 0, _, _ => rfl
  | n + 1, i, a => by
    have hv : askV h' cs i = askV h cs i := by
      have hr : ridH h' = ridH h := by unfold ridH; rw [hl, hs]
      have hp : pvQ h' i = pvQ h i := by funext k; unfold pvQ; rw [hl, hs, hr]
      unfold askV
      rw [hp, hr, hl]
    unfold askL
    rw [hv]
    exact askL_of hl hs n (i + 1) _
theorem kr_ask (hR : RefRel μ h) (hH : HOk h) {np mp : Int32} (hnp : mI μ 179 10 = np) (hmp : mI μ 179 44 = mp) (hwf : (askT (txL (tpH h)) (tpH h).length (0, -1, 0, -1, np, mp)).2.2.2.2.1 = 0 → wfC al2 true (askT (txL (tpH h)) (tpH h).length (0, -1, 0, -1, np, mp)).2.1.1 0) : AMet l G 9 0 0 mtX13_ask [.ref (G.1 + 179)] μ (qL (fun x μ' => x = askA h (askT (txL (tpH h)) (tpH h).length (0, -1, 0, -1, np, mp)) ∧ PR μ (askH h (askT (txL (tpH h)) (tpH h).length (0, -1, 0, -1, np, mp))) μ')) := by
  refine AMet.of (by decide) (Nat.le_of_ble_eq_true rfl) (fun X C hX hnm hq => ?_)
  have hS := hR.1.1
  have h57 := hR.2.2.2.2.1.2
  have h1600 := hR.2.1.2.1
  have htp : mI μ 179 1 = nI (tpH h).length := hR.2.1.1
  unfold askA askH at hq
  by_cases hp : 0 < (ldH h).1.1
  · rw [if_pos hp] at h57 hq
    have hW := hH.1.1.w1 hp
    generalize hQQ : askT (txL (tpH h)) (tpH h).length (0, -1, 0, -1, np, mp) = Q at hq hwf
    generalize htx : txL (tpH h) = tx at *
    generalize hee : (tpH h).length = e at *
    -- the memory behind the tape is taken
    have hRM : RefRel (sI (sI (sI μ 179 3 (nI e)) 179 1 (nI 0)) 179 58 (nI 2)) ([], flH h, rfH h, ldH h, stH h, psH h, rwH h, ocH h, sdH h) := by
      have r1 : RefRel (sI μ 179 3 (nI e)) h := hR.of rfl (fun a k q => by rw [mI_sI, if_neg (by unfold KpI at q; omega)]) (fun _ _ => rfl) rfl
      have r2 := r1.tap 0 (Nat.zero_le _)
      rw [List.take_zero] at r2
      exact r2.of rfl (fun a k q => by rw [mI_sI, if_neg (by unfold KpI at q; omega)]) (fun _ _ => rfl) rfl
    have hFM : FrR μ (sI (sI (sI μ 179 3 (nI e)) 179 1 (nI 0)) 179 58 (nI 2)) := (((FrR.refl μ).st (by omega) _).st (by omega) _).st (by omega) _
    have hTM : TxM (sI (sI (sI μ 179 3 (nI e)) 179 1 (nI 0)) 179 58 (nI 2)) tx e := ⟨by simp [mI_sI], h1600, fun j hj => by
      rw [mI_sI, if_neg (by omega), mI_sI, if_neg (by omega), mI_sI, if_neg (by omega), ← htx]
      exact hR.2.1.2.2 j _ (txL_tx (by omega))⟩
    have k58 : mI (sI (sI (sI μ 179 3 (nI e)) 179 1 (nI 0)) 179 58 (nI 2)) 179 58 = nI 2 := by simp [mI_sI]
    have hQ0 : QM (sI (sI (sI μ 179 3 (nI e)) 179 1 (nI 0)) 179 58 (nI 2)) (sI (sI (sI (sI (sI (sI (sI (sI (sI (sI (sI μ 179 3 (nI e)) 179 1 (nI 0)) 179 2 (nI 0)) 179 4 (-1)) 179 5 (nI 0)) 179 6 (-1)) 179 58 (nI 2)) 179 102 (nI 0)) 179 104 (nI 0)) 179 105 (nI 0)) 179 106 (nI 0)) ([], [], nI 0, 0) (0, -1, 0, -1, np, mp) := by
      refine ⟨⟨rfl, fun a k q _ _ => by simp [mI_sI, q], fun k a1 a2 a3 a4 a5 a6 a7 a8 a9 a10 => by simp [mI_sI, a1, a2, a3, a4, a7, a8, a9, a10]⟩, ⟨by simp [mI_sI], by simp [mI_sI], by simp [mI_sI]; rfl, by simp [mI_sI], by simp [mI_sI, hnp], by simp [mI_sI, hmp]⟩, ⟨by simp [mI_sI], by simp [mI_sI], by simp [mI_sI], by simp [mI_sI]⟩, fun i hi => by simp at hi, fun i hi => by simp at hi⟩
    generalize hMM : sI (sI (sI μ 179 3 (nI e)) 179 1 (nI 0)) 179 58 (nI 2) = M at hRM hFM hTM k58 hQ0
    have hSM := hRM.1.1
    have hWM := hRM.1.2.1
    have hK : Q = ((qkF tx e (0, -1, 0, -1, np, mp)).1, askE tx e (askP tx e (qkF tx e (0, -1, 0, -1, np, mp)))) := hQQ.symm
    have hqk := qkL_k (tx := tx) (e := e) [wFirst, wLast, wOften, wTotal, wMost] 0 (0, -1, 0, -1, np, mp)
    have hql := qkL_le (tx := tx) (e := e) [wFirst, wLast, wOften, wTotal, wMost] 0 (0, -1, 0, -1, np, mp) (Nat.zero_le _)
    have hkind := kq_kind (l := l) (G := G) hSM hWM hTM hQ0 (Nat.zero_le e)
    unfold qkF at hK hkind
    generalize qkL tx e [wFirst, wLast, wOften, wTotal, wMost] 0 (0, -1, 0, -1, np, mp) = r at hK hqk hql hkind
    obtain ⟨pv1, pv2⟩ := askP_iv (tx := tx) h1600 hql
    -- all is told
    have m133 : ∀ (t : Tt) (μ2 : Mm), (r.1, t) = Q → (t.2.2.2.1 = 0 → t.1.1.length ≤ e) → QM M μ2 t.1 t.2 → AW l G X 0 0 133 [(0, .ref (G.1 + 179)), (1, .int (nI r.1))] [] μ2 := by
      intro t μ2 ht hlen hQ2
      subst ht
      dsimp only at hq hwf
      have hS : ShM μ2 := hQ2.sh hSM
      have b5 : mI μ2 179 5 = t.2.2.2.1 := hQ2.2.1.2.2.1
      have b6 : mI (sI μ2 179 7 t.2.2.2.1) 179 6 = t.2.2.2.2.1 := by rw [mI_sI, if_neg (by omega)]; exact hQ2.2.1.2.2.2.1
      have hR2 : RefRel μ2 ([], flH h, rfH h, ldH h, stH h, psH h, rwH h, ocH h, sdH h) := hRM.of (by rw [hQ2.1.1]) (fun a k q => by
        by_cases z : a = 179
        · subst z
          exact hQ2.1.2.2 k (by unfold KpI at q; omega) (by unfold KpI at q; omega) (by unfold KpI at q; omega) (by unfold KpI at q; omega) (by unfold KpI at q; omega) (by unfold KpI at q; omega) (by unfold KpI at q; omega) (by unfold KpI at q; omega) (by unfold KpI at q; omega) (by unfold KpI at q; omega)
        · exact hQ2.1.2.1 a k z (by unfold KpI at q; omega) (by unfold KpI at q; omega)) (fun k _ => by show μ2.2.1 _ _ = M.2.1 _ _; rw [hQ2.1.1]) (by show μ2.2.1 _ _ = M.2.1 _ _; rw [hQ2.1.1])
      have hF2 : FrR μ μ2 := hFM.trans (FrR.of hQ2.1.1 (fun a k q => hQ2.1.2.1 a k (by omega) (by omega) (by omega)))
      have hR3 := hR2.flt t.2.2.2.1 t.2.2.2.2.1
      have hF3 := (hF2.st (a := 179) (k := 7) (by omega) t.2.2.2.1).st (a := 179) (k := 8) (by omega) t.2.2.2.2.1
      have b53 : mI (sI (sI μ2 179 7 t.2.2.2.1) 179 8 t.2.2.2.2.1) 179 5 = t.2.2.2.1 := by rw [mI_sI, if_neg (by omega), mI_sI, if_neg (by omega)]; exact b5
      have m149 : AW l G X 0 0 149 [(0, .ref (G.1 + 179)), (1, .int (nI r.1))] [] (sI (sI μ2 179 7 t.2.2.2.1) 179 8 t.2.2.2.2.1) := by
        have c102 : mI (sI (sI μ2 179 7 t.2.2.2.1) 179 8 t.2.2.2.2.1) 179 102 = nI t.1.1.length := by rw [mI_sI, if_neg (by omega), mI_sI, if_neg (by omega)]; exact hQ2.2.2.1.1
        have ccd : ∀ j, j < t.1.1.length → mI (sI (sI μ2 179 7 t.2.2.2.1) 179 8 t.2.2.2.2.1) 255 j = t.1.1.getD j 0 := fun j hj => by rw [mI_sI, if_neg (by omega), mI_sI, if_neg (by omega)]; exact hQ2.2.2.2.1 j hj
        generalize sI (sI μ2 179 7 t.2.2.2.1) 179 8 t.2.2.2.2.1 = μ3 at hR3 hF3 b53 c102 ccd
        have hS := hR3.1.1
        by_cases hz : t.2.2.2.1 = 0
        · rw [if_pos ⟨hp, hz⟩] at hq
          rw [← askL_of (h' := ([], (t.2.2.2.1, t.2.2.2.2.1), rfH h, ldH h, stH h, psH h, rwH h, ocH h, sdH h)) (h := h) rfl rfl] at hq
          have hH2 : HOk ([], (t.2.2.2.1, t.2.2.2.2.1), rfH h, ldH h, stH h, psH h, rwH h, ocH h, sdH h) := ⟨⟨hH.1.1, hH.1.2.1, hH.1.2.2.1, hH.1.2.2.2.1, ⟨Nat.zero_le _, fun x q => by cases q⟩, hH.1.2.2.2.2.2⟩, hH.2⟩
          refine C.aload_n dX13_ask_149 0 rfl ?_
          refine C.getI fX13_264 dX13_ask_150 hS.o ?_
          rw [b53]
          refine C.if_eq 160 dX13_ask_153 rfl (fun hc153 => ?_) (fun hc153 => ?_)
          · exact kr_answer (h := ([], (t.2.2.2.1, t.2.2.2.2.1), rfH h, ldH h, stH h, psH h, rwH h, ocH h, sdH h)) (P := fun μ' => PR μ ([], (t.2.2.2.1, t.2.2.2.2.1), rfH h, ldH h, stH h, psH h, rwH h, ocH h, sdH h) μ') hR3 hH2 hW (by simp at hqk; omega) c102 ccd (by have := hlen hz; omega) (hwf hz) C hX hq (fun μ' q => ⟨q.1, hF3.trans q.2⟩)
          · exact absurd hz hc153
        · rw [if_neg (fun q => hz q.2)] at hq
          refine C.aload_n dX13_ask_149 0 rfl ?_
          refine C.getI fX13_264 dX13_ask_150 hS.o ?_
          rw [b53]
          refine C.if_eq 160 dX13_ask_153 rfl (fun hc153 => ?_) (fun hc153 => ?_)
          · exact absurd hc153 hz
          · refine C.ldc2 kX13_689 dX13_ask_156 ?_
            refine C.lret hq dX13_ask_159 ?_
            exact ⟨rfl, hR3, hF3⟩
      refine C.aload_n dX13_ask_133 0 rfl ?_
      refine C.aload_n dX13_ask_134 0 rfl ?_
      refine C.getI fX13_264 dX13_ask_135 hS.o ?_
      rw [b5]
      refine C.putI fX13_397 (Or.inl rfl) dX13_ask_138 hS.o ?_
      refine C.aload_n dX13_ask_141 0 rfl ?_
      refine C.aload_n dX13_ask_142 0 rfl ?_
      refine C.getI fX13_267 dX13_ask_143 hS.o ?_
      rw [b6]
      refine C.putI fX13_13 (Or.inl rfl) dX13_ask_146 hS.o ?_
      exact m149
    have m109 : ∀ (t : Tt) (μ2 : Mm), askP tx e r = t → QM M μ2 t.1 t.2 → AW l G X 0 0 109 [(0, .ref (G.1 + 179)), (1, .int (nI r.1))] [] μ2 := by
      intro t μ2 ht hQ2
      rw [ht] at hK pv1 pv2
      have hS : ShM μ2 := hQ2.sh hSM
      have b5 : mI μ2 179 5 = t.2.2.2.1 := hQ2.2.1.2.2.1
      unfold askE at hK
      by_cases hz : t.2.2.2.1 = 0
      · rw [if_pos hz] at hK
        have hskl := sk_le (tx := tx) pv1
        refine C.aload_n dX13_ask_109 0 rfl ?_
        refine C.getI fX13_264 dX13_ask_110 hS.o ?_
        rw [b5]
        refine C.if_ne 133 dX13_ask_113 rfl (fun hc113 => ?_) (fun hc113 => ?_)
        · exact absurd hz hc113
        · refine C.aload_n dX13_ask_116 0 rfl ?_
          refine C.callVI lX13_276 dX13_ask_117 (kq_look hSM hTM hQ2 pv1) hS.o rfl rfl (Nat.le_of_ble_eq_true rfl) (Nat.zero_le _) (Nat.zero_le _) (Nat.le_of_ble_eq_true rfl) (fun x117 μ117 h117 => ?_)
          obtain ⟨rfl, hQ3⟩ := h117
          have hS : ShM μ117 := hQ3.sh hSM
          refine C.iconst (-1) dX13_ask_120 (by decide) ?_
          refine C.icmp_eq 133 dX13_ask_121 rfl (fun hc121 => ?_) (fun hc121 => ?_)
          · have hge : ¬ sk tx e t.2.1 < e := fun q => by unfold chr at hc121; rw [if_pos q] at hc121; exact n_m1 (by have := (hTM.2.2 _ q).2; omega) hc121
            rw [if_neg hge] at hK
            exact m133 (t.1, mLook tx e t.2) _ hK.symm (fun _ => pv2 hz) hQ3
          · have hlt : sk tx e t.2.1 < e := by by_cases q : sk tx e t.2.1 < e; exact q; unfold chr at hc121; rw [if_neg q] at hc121; exact absurd rfl hc121
            rw [if_pos hlt] at hK
            refine C.aload_n dX13_ask_124 0 rfl ?_
            refine C.iconst (nI 1) dX13_ask_125 (by decide) ?_
            refine C.aload_n dX13_ask_126 0 rfl ?_
            refine C.getI fX13_270 dX13_ask_127 hS.o ?_
            rw [show mI μ117 179 2 = nI (sk tx e t.2.1) from hQ3.2.1.1]
            refine C.callVV lX13_294 dX13_ask_130 (kq_fail hSM hQ3 (nI 1) (nI (sk tx e t.2.1))) hS.o rfl rfl (Nat.le_of_ble_eq_true rfl) (Nat.zero_le _) (Nat.zero_le _) (Nat.le_of_ble_eq_true rfl) (fun μ130 h130 => ?_)
            exact m133 (t.1, mFail (mLook tx e t.2) (nI 1) (nI (sk tx e t.2.1))) _ hK.symm (fun q => pv2 hz) h130
      · rw [if_neg hz] at hK
        refine C.aload_n dX13_ask_109 0 rfl ?_
        refine C.getI fX13_264 dX13_ask_110 hS.o ?_
        rw [b5]
        refine C.if_ne 133 dX13_ask_113 rfl (fun hc113 => ?_) (fun hc113 => ?_)
        · exact m133 t _ hK.symm pv2 hQ2
        · exact absurd hc113 hz
    have m79 : ∀ (μ2 : Mm), QM M μ2 ([], [], nI 0, 0) r.2 → AW l G X 0 0 79 [(0, .ref (G.1 + 179)), (1, .int (nI r.1))] [] μ2 := by
      intro μ2 hQ2
      have hS : ShM μ2 := hQ2.sh hSM
      have b5 : mI μ2 179 5 = r.2.2.2.1 := hQ2.2.1.2.2.1
      have g := m109
      unfold askP at g
      by_cases hz : r.2.2.2.1 = 0
      · rw [if_pos hz] at g
        by_cases h3 : r.1 < 3
        · rw [if_pos h3] at g
          refine C.aload_n dX13_ask_79 0 rfl ?_
          refine C.getI fX13_264 dX13_ask_80 hS.o ?_
          rw [b5]
          refine C.if_ne 98 dX13_ask_83 rfl (fun hc83 => ?_) (fun hc83 => ?_)
          · exact absurd hz hc83
          · refine C.iload_n dX13_ask_86 1 rfl ?_
            refine C.iconst (nI 3) dX13_ask_87 (by decide) ?_
            refine C.icmp_ge 98 dX13_ask_88 rfl (fun hc88 => ?_) (fun hc88 => ?_)
            · have := n_le (a := 3) (b := r.1) hc88 (by decide) (by simp at hqk; omega); omega
            · refine C.aload_n dX13_ask_91 0 rfl ?_
              refine C.callVV lX13_367 dX13_ask_92 (kq_test (t := t0 r.2) hSM hWM hTM k58 hQ2 (t0_iv hql)) hS.o rfl rfl (Nat.le_of_ble_eq_true rfl) (Nat.zero_le _) (Nat.zero_le _) (Nat.le_of_ble_eq_true rfl) (fun μ92 h92 => ?_)
              refine C.goto 109 dX13_ask_95 rfl ?_
              exact g _ _ rfl h92
        · rw [if_neg h3] at g
          refine C.aload_n dX13_ask_79 0 rfl ?_
          refine C.getI fX13_264 dX13_ask_80 hS.o ?_
          rw [b5]
          refine C.if_ne 98 dX13_ask_83 rfl (fun hc83 => ?_) (fun hc83 => ?_)
          · exact absurd hz hc83
          · refine C.iload_n dX13_ask_86 1 rfl ?_
            refine C.iconst (nI 3) dX13_ask_87 (by decide) ?_
            refine C.icmp_ge 98 dX13_ask_88 rfl (fun hc88 => ?_) (fun hc88 => ?_)
            · refine C.aload_n dX13_ask_98 0 rfl ?_
              refine C.getI fX13_264 dX13_ask_99 hS.o ?_
              rw [b5]
              refine C.if_ne 109 dX13_ask_102 rfl (fun hc102 => ?_) (fun hc102 => ?_)
              · exact absurd hz hc102
              · refine C.aload_n dX13_ask_105 0 rfl ?_
                refine C.callVV lX13_370 dX13_ask_106 (kq_sums' (t := t0 r.2) hSM hWM hTM k58 hQ2 hz (t0_iv hql)) hS.o rfl rfl (Nat.le_of_ble_eq_true rfl) (Nat.zero_le _) (Nat.zero_le _) (Nat.le_of_ble_eq_true rfl) (fun μ106 h106 => ?_)
                exact g _ _ rfl h106
            · have := n_nle (a := 3) (b := r.1) hc88 (by decide) (by simp at hqk; omega); omega
      · rw [if_neg hz] at g
        refine C.aload_n dX13_ask_79 0 rfl ?_
        refine C.getI fX13_264 dX13_ask_80 hS.o ?_
        rw [b5]
        refine C.if_ne 98 dX13_ask_83 rfl (fun hc83 => ?_) (fun hc83 => ?_)
        · refine C.aload_n dX13_ask_98 0 rfl ?_
          refine C.getI fX13_264 dX13_ask_99 hS.o ?_
          rw [b5]
          refine C.if_ne 109 dX13_ask_102 rfl (fun hc102 => ?_) (fun hc102 => ?_)
          · exact g _ _ rfl hQ2
          · exact absurd hc102 hz
        · exact absurd hc83 hz
    refine C.aload_n dX13_ask_0 0 rfl ?_
    refine C.getZ fX13_403 dX13_ask_1 hS.o ?_
    rw [h57]
    refine C.if_ne 16 dX13_ask_4 rfl (fun hc4 => ?_) (fun hc4 => ?_)
    · refine C.aload_n dX13_ask_16 0 rfl ?_
      refine C.aload_n dX13_ask_17 0 rfl ?_
      refine C.getI fX13_261 dX13_ask_18 hS.o ?_
      rw [htp]
      refine C.putI fX13_273 (Or.inl rfl) dX13_ask_21 hS.o ?_
      refine C.aload_n dX13_ask_24 0 rfl ?_
      refine C.iconst (nI 0) dX13_ask_25 (by decide) ?_
      refine C.putI fX13_261 (Or.inl rfl) dX13_ask_26 hS.o ?_
      refine C.aload_n dX13_ask_29 0 rfl ?_
      refine C.iconst (nI 0) dX13_ask_30 (by decide) ?_
      refine C.putI fX13_270 (Or.inl rfl) dX13_ask_31 hS.o ?_
      refine C.aload_n dX13_ask_34 0 rfl ?_
      refine C.iconst (-1) dX13_ask_35 (by decide) ?_
      refine C.putI fX13_284 (Or.inl rfl) dX13_ask_36 hS.o ?_
      refine C.aload_n dX13_ask_39 0 rfl ?_
      refine C.iconst (nI 0) dX13_ask_40 (by decide) ?_
      refine C.putI fX13_264 (Or.inl rfl) dX13_ask_41 hS.o ?_
      refine C.aload_n dX13_ask_44 0 rfl ?_
      refine C.iconst (-1) dX13_ask_45 (by decide) ?_
      refine C.putI fX13_267 (Or.inl rfl) dX13_ask_46 hS.o ?_
      refine C.aload_n dX13_ask_49 0 rfl ?_
      refine C.iconst (nI 2) dX13_ask_50 (by decide) ?_
      refine C.putI fX13_322 (Or.inl rfl) dX13_ask_51 hS.o ?_
      refine C.aload_n dX13_ask_54 0 rfl ?_
      refine C.iconst (nI 0) dX13_ask_55 (by decide) ?_
      refine C.putI fX13_355 (Or.inl rfl) dX13_ask_56 hS.o ?_
      refine C.aload_n dX13_ask_59 0 rfl ?_
      refine C.iconst (nI 0) dX13_ask_60 (by decide) ?_
      refine C.putI fX13_358 (Or.inl rfl) dX13_ask_61 hS.o ?_
      refine C.aload_n dX13_ask_64 0 rfl ?_
      refine C.iconst (nI 0) dX13_ask_65 (by decide) ?_
      refine C.putI fX13_361 (Or.inl rfl) dX13_ask_66 hS.o ?_
      refine C.aload_n dX13_ask_69 0 rfl ?_
      refine C.iconst (nI 0) dX13_ask_70 (by decide) ?_
      refine C.putI fX13_364 (Or.inl rfl) dX13_ask_71 hS.o ?_
      refine C.aload_n dX13_ask_74 0 rfl ?_
      refine C.callVI lX13_691 dX13_ask_75 (hkind) hS.o rfl rfl (Nat.le_of_ble_eq_true rfl) (Nat.zero_le _) (Nat.zero_le _) (Nat.le_of_ble_eq_true rfl) (fun x75 μ75 h75 => ?_)
      obtain ⟨rfl, hQ1⟩ := h75
      refine C.istore_n (lv' := [(0, _), (1, _)]) dX13_ask_78 (nLt hX rfl) rfl ?_
      exact m79 _ hQ1
    · exact absurd hc4 (by decide)
  · rw [if_neg hp] at h57 hq
    rw [if_neg (fun q => hp q.1)] at hq
    have hR0 := hR.tap 0 (Nat.zero_le _)
    rw [List.take_zero] at hR0
    refine C.aload_n dX13_ask_0 0 rfl ?_
    refine C.getZ fX13_403 dX13_ask_1 hS.o ?_
    rw [h57]
    refine C.if_ne 16 dX13_ask_4 rfl (fun hc4 => ?_) (fun hc4 => ?_)
    · exact absurd rfl hc4
    · refine C.aload_n dX13_ask_7 0 rfl ?_
      refine C.iconst (nI 0) dX13_ask_8 (by decide) ?_
      refine C.putI fX13_261 (Or.inl rfl) dX13_ask_9 hS.o ?_
      refine C.ldc2 kX13_689 dX13_ask_12 ?_
      refine C.lret hq dX13_ask_15 ?_
      exact ⟨rfl, hR0, (FrR.refl μ).st (by omega) _⟩
end KAF
