/-! the reference: land(), walked -/

section KMLD2
variable {l : Launch} {G : Gm} {μ : Mm}
theorem txL_tx {tp : List Nat} {j : Nat} (hj : j < tp.length) : tp[j]? = some (txL tp j) := by
  unfold txL
  rw [List.getD_eq_getElem?_getD, List.getElem?_eq_getElem hj]
  rfl
theorem km_land {h : Hs} (hR : RefRel μ h) : AMet l G 11 0 0 mtX13_land [.ref (G.1 + 179)] μ (qI (fun x μ' => x = landX (rLand (txL (tpH h)) (tpH h).length (mI μ 179 10) (mI μ 179 44)) ∧ RefRel μ' (landH h (rLand (txL (tpH h)) (tpH h).length (mI μ 179 10) (mI μ 179 44))) ∧ FrR μ μ' ∧ ((rLand (txL (tpH h)) (tpH h).length (mI μ 179 10) (mI μ 179 44)).2.2.2.2.1 = 0 → Wf (rLand (txL (tpH h)) (tpH h).length (mI μ 179 10) (mI μ 179 44)).1))) := by
  refine AMet.of (by decide) (Nat.le_of_ble_eq_true rfl) (fun X C hX hnm hq => ?_)
  have hS := hR.1.1
  have hSm := hS
  generalize he : (tpH h).length = e at hq
  generalize htx : txL (tpH h) = tx at hq
  generalize hnp : mI μ 179 10 = np at hq
  generalize hmp : mI μ 179 44 = mp at hq
  have h1600 : e ≤ 1600 := by rw [← he]; exact hR.2.1.2.1
  generalize hK : rLand tx e np mp = K at hq
  -- the memory behind the tape is taken
  have hR0 : RefRel (sI (sI μ 179 3 (nI e)) 179 1 (nI 0)) ([], flH h, rfH h, ldH h, stH h, psH h, rwH h, ocH h, sdH h) := by
    have r1 : RefRel (sI μ 179 3 (nI e)) h := hR.of rfl (fun a k q => by rw [mI_sI, if_neg (by unfold KpI at q; omega)]) (fun _ _ => rfl) rfl
    have r2 := r1.tap 0 (Nat.zero_le _)
    rw [List.take_zero] at r2
    exact r2
  have hT0 : TxM (sI (sI μ 179 3 (nI e)) 179 1 (nI 0)) tx e := ⟨by rw [mI_sI, if_neg (by omega), mI_sI, if_pos ⟨rfl, rfl⟩], h1600, fun j hj => by
    rw [mI_sI, if_neg (by omega), mI_sI, if_neg (by omega), ← htx]
    exact hR.2.1.2.2 j _ (txL_tx (by omega))⟩
  have hFr0 : FrR μ (sI (sI μ 179 3 (nI e)) 179 1 (nI 0)) := ((FrR.refl μ).st (by omega) _).st (by omega) _
  have hoth : ∀ k, k ≠ 3 → k ≠ 1 → mI (sI (sI μ 179 3 (nI e)) 179 1 (nI 0)) 179 k = mI μ 179 k := fun k h1 h2 => by rw [mI_sI, if_neg (by omega), mI_sI, if_neg (by omega)]
  generalize hμ0 : sI (sI μ 179 3 (nI e)) 179 1 (nI 0) = μ0 at hR0 hT0 hFr0 hoth
  have hS0 : ShM μ0 := hR0.1.1
  have hW0 : WdM μ0 := hR0.1.2.1
  -- behind all statements
  have fin : ∀ (x : Int32) (μ2 : Mm), TM μ0 μ2 K.1 K.2.1 K.2.2 → K.2.2.1 ≤ e → AW l G X 0 0 119 [(0, .ref (G.1 + 179)), (1, .int x)] [] μ2 := by
    intro x μ2 hM hpe
    have hS : ShM μ2 := hM.1.sh hS0
    have hb : mI μ2 179 5 = K.2.2.2.2.1 := hM.2.1.2.2.1
    have hbp : mI μ2 179 6 = K.2.2.2.2.2.1 := hM.2.1.2.2.2.1
    have hF2 := (hM.1.both 179 7 K.2.2.2.2.1).both 179 8 K.2.2.2.2.2.1
    have hR1 := hR0.flt K.2.2.2.2.1 K.2.2.2.2.2.1
    have hFr1 : FrR μ (sI (sI μ0 179 7 K.2.2.2.2.1) 179 8 K.2.2.2.2.2.1) := (hFr0.st (by omega) _).st (by omega) _
    have hb2 : mI (sI (sI μ2 179 7 K.2.2.2.2.1) 179 8 K.2.2.2.2.2.1) 179 5 = K.2.2.2.2.1 := hb
    have hbp2 : mI (sI μ2 179 7 K.2.2.2.2.1) 179 6 = K.2.2.2.2.2.1 := hbp
    have m135 : AW l G X 0 0 135 [(0, .ref (G.1 + 179)), (1, .int x)] [] (sI (sI μ2 179 7 K.2.2.2.2.1) 179 8 K.2.2.2.2.2.1) := by
      by_cases hz : K.2.2.2.2.1 = 0
      · obtain ⟨hWf, hst, h56, c, hc, hcs, hL⟩ := hM.2.2 hz
        have hL2 : LmH (sI (sI μ2 179 7 K.2.2.2.2.1) 179 8 K.2.2.2.2.2.1) 0 c K.1 := hL.off (fun a k q => by rw [mI_sI, if_neg (by omega), mI_sI, if_neg (by omega)]) (fun _ => rfl)
        have hc2 : mI (sI (sI μ2 179 7 K.2.2.2.2.1) 179 8 K.2.2.2.2.2.1) 179 55 = nI c := hc
        have h562 : mI (sI (sI μ2 179 7 K.2.2.2.2.1) 179 8 K.2.2.2.2.2.1) 179 56 = nI K.2.1 := h56
        have hS : ShM (sI (sI μ2 179 7 K.2.2.2.2.1) 179 8 K.2.2.2.2.2.1) := hS.of rfl
        have hW6 := hWf.2.2.2.1.1
        generalize sI (sI μ2 179 7 K.2.2.2.2.1) 179 8 K.2.2.2.2.2.1 = μ3 at hL2 hc2 h562 hF2 hS hb2 ⊢
        refine C.aload_n dX13_land_135 0 rfl ?_
        refine C.getI fX13_264 dX13_land_136 hS.o ?_
        rw [hb2]
        refine C.if_eq 154 dX13_land_139 rfl (fun hc139 => ?_) (fun hc139 => ?_)
        · refine C.aload_n dX13_land_154 0 rfl ?_
          refine C.callVV lX13_400 dX13_land_155 (km_stands hS hc2 (by omega) hL2.1.2.1.2.1 hW6) hS.o rfl rfl (Nat.le_of_ble_eq_true rfl) (Nat.zero_le _) (Nat.zero_le _) (Nat.le_of_ble_eq_true rfl) (fun μ155 h155 => ?_)
          obtain ⟨q1, q2⟩ := st_rel hR1 (by have := hWf.1.1; omega) hL2 (by omega) hWf hF2 h155
          have hS : ShM μ155 := q1.1.1
          refine C.aload_n dX13_land_158 0 rfl ?_
          refine C.getI fX13_376 dX13_land_159 hS.o ?_
          rw [h155.2.2.2.2.2.2.2.2.2.2 179 56 (by unfold StU; omega), h562]
          refine C.iret hq dX13_land_162 ?_
          refine ⟨?_, ?_, hFr1.trans q2, fun _ => hWf⟩
          · unfold landX; rw [if_pos hz]
          · unfold landH; rw [if_pos hz]; exact q1
        · exact absurd hz hc139
      · have hR2 := hF2.ref hR1
        have hS : ShM (sI (sI μ2 179 7 K.2.2.2.2.1) 179 8 K.2.2.2.2.2.1) := hS.of rfl
        have hr1 : mI (sI (sI μ2 179 7 K.2.2.2.2.1) 179 8 K.2.2.2.2.2.1) 181 1 = rfH h 1 := hR2.2.2.2.1 1 (by decide)
        have hR3 := hR2.rfs (j := 1) (by decide)
        have hFr2 := (hFr1.trans hF2.frr).st (a := 181) (k := 1) (by omega) (rfH h 1 + nI 1)
        generalize sI (sI μ2 179 7 K.2.2.2.2.1) 179 8 K.2.2.2.2.2.1 = μ3 at hF2 hS hb2 hR2 hR3 hFr2 hr1 ⊢
        refine C.aload_n dX13_land_135 0 rfl ?_
        refine C.getI fX13_264 dX13_land_136 hS.o ?_
        rw [hb2]
        refine C.if_eq 154 dX13_land_139 rfl (fun hc139 => ?_) (fun hc139 => ?_)
        · exact absurd hc139 hz
        · refine C.aload_n dX13_land_142 0 rfl ?_
          refine C.getA fX13_17 dX13_land_143 hS.o hS.r9 ?_
          refine C.iconst (nI 1) dX13_land_146 (by decide) ?_
          refine C.dup2 dX13_land_147 rfl rfl ?_
          refine C.iald hS.a9 (n_in (by decide)) dX13_land_148 ?_
          rw [n_cl, hr1]
          refine C.iconst (nI 1) dX13_land_149 (by decide) ?_
          refine C.iadd dX13_land_150 ?_
          refine C.iast hS.a9 (n_in (by decide)) dX13_land_151 ?_
          rw [n_cl]
          refine C.iconst (-1) dX13_land_152 (by decide) ?_
          refine C.iret hq dX13_land_153 ?_
          refine ⟨?_, ?_, hFr2, fun q => absurd q hz⟩
          · unfold landX; rw [if_neg hz]
          · unfold landH; rw [if_neg hz]; exact hR3
    refine C.aload_n dX13_land_119 0 rfl ?_
    refine C.aload_n dX13_land_120 0 rfl ?_
    refine C.getI fX13_264 dX13_land_121 hS.o ?_
    rw [hb]
    refine C.putI fX13_397 (Or.inl rfl) dX13_land_124 hS.o ?_
    refine C.aload_n dX13_land_127 0 rfl ?_
    refine C.aload_n dX13_land_128 0 rfl ?_
    refine C.getI fX13_267 dX13_land_129 hS.o ?_
    rw [hbp2]
    refine C.putI fX13_13 (Or.inl rfl) dX13_land_132 hS.o ?_
    exact m135
  -- the statements
  have loop : ∀ (n : Nat) (t : Ld × Nat × Ps) (x : Int32) (μ1 : Mm), TM μ0 μ1 t.1 t.2.1 t.2.2 → t.2.2.1 ≤ e → e + 1 - t.2.2.1 < n → rLoop tx e n t = K → AW l G X 0 0 97 [(0, .ref (G.1 + 179)), (1, .int x)] [] μ1 := by
    intro n
    induction n with
    | zero => intro t x μ1 _ _ h; omega
    | succ n ih =>
      intro t x μ1 hM hpe hn hk
      obtain ⟨d, st, s⟩ := t
      dsimp only at hM hpe hn
      have hS : ShM μ1 := hM.1.sh hS0
      have h1 := sk_le (tx := tx) hpe
      have hb : mI μ1 179 5 = s.2.2.1 := hM.2.1.2.2.1
      unfold rLoop at hk
      dsimp only at hk
      refine C.aload_n dX13_land_97 0 rfl ?_
      refine C.getI fX13_264 dX13_land_98 hS.o ?_
      rw [hb]
      refine C.if_ne 119 dX13_land_101 rfl (fun hc101 => ?_) (fun hc101 => ?_)
      · rw [if_neg hc101] at hk
        subst hk
        exact fin x μ1 hM hpe
      · rw [if_pos hc101] at hk
        refine C.aload_n dX13_land_104 0 rfl ?_
        refine C.callVI lX13_276 dX13_land_105 (kt_look hS0 hT0 hM hpe) hS.o rfl rfl (Nat.le_of_ble_eq_true rfl) (Nat.zero_le _) (Nat.zero_le _) (Nat.le_of_ble_eq_true rfl) (fun x105 μ105 h105 => ?_)
        obtain ⟨rfl, hM2⟩ := h105
        have hS : ShM μ105 := hM2.1.sh hS0
        refine C.iconst (-1) dX13_land_108 (by decide) ?_
        refine C.icmp_eq 119 dX13_land_109 rfl (fun hc109 => ?_) (fun hc109 => ?_)
        · have hge : ¬ sk tx e s.1 < e := fun q => by unfold chr at hc109; rw [if_pos q] at hc109; exact n_m1 (by have := (hT0.2.2 _ q).2; omega) hc109
          rw [if_neg hge] at hk
          subst hk
          exact fin x _ hM2 h1.2
        · have hlt : sk tx e s.1 < e := by by_cases q : sk tx e s.1 < e; exact q; unfold chr at hc109; rw [if_neg q] at hc109; exact absurd rfl hc109
          rw [if_pos hlt] at hk
          have hrl : (rStat tx e d st (mLook tx e s)).2.2.1 ≤ e ∧ ((rStat tx e d st (mLook tx e s)).2.2.2.2.1 = 0 → s.1 + 1 ≤ (rStat tx e d st (mLook tx e s)).2.2.1) := by
            have hb := rBody_le (tx := tx) (d := d) (s := mLook tx e s) h1600 hc101 h1.2
            have hlk : (mLook tx e s).1 = sk tx e s.1 := rfl
            unfold rStat
            split
            · exact ⟨by dsimp only; rw [mFail_1]; exact h1.2, fun q => absurd q (mFail_0 _ _ _ (by decide))⟩
            · exact ⟨mAskSign_le (by decide) hb.2, fun q => by have := mAskSign_adv _ _ hb.2 q; dsimp only; omega⟩
          refine C.aload_n dX13_land_112 0 rfl ?_
          refine C.callVV lX13_394 dX13_land_113 (kt_statement hS0 hW0 hT0 hM2 hc101 (sk_sk hpe) h1.2) hS.o rfl rfl (Nat.le_of_ble_eq_true rfl) (Nat.zero_le _) (Nat.zero_le _) (Nat.le_of_ble_eq_true rfl) (fun μ113 h113 => ?_)
          refine C.goto 97 dX13_land_116 rfl ?_
          first | skip
          by_cases hz2 : (rStat tx e d st (mLook tx e s)).2.2.2.2.1 = 0
          · exact ih _ x _ h113 hrl.1 (by have := hrl.2 hz2; omega) hk
          · have hst2 : ∀ n, rLoop tx e n (rStat tx e d st (mLook tx e s)) = rStat tx e d st (mLook tx e s) := fun n => by cases n; rfl; unfold rLoop; rw [if_neg hz2]
            rw [hst2] at hk
            generalize rStat tx e d st (mLook tx e s) = u at hk h113 hz2 hrl
            subst hk
            have hS : ShM μ113 := h113.1.sh hS0
            refine C.aload_n dX13_land_97 0 rfl ?_
            refine C.getI fX13_264 dX13_land_98 hS.o ?_
            rw [show mI μ113 179 5 = u.2.2.2.2.1 from h113.2.1.2.2.1]
            refine C.if_ne 119 dX13_land_101 rfl (fun hc => ?_) (fun hc => ?_)
            · exact fin x μ113 h113 hrl.1
            · exact absurd hc hz2
  -- behind the first statement
  have m65 : ∀ (x : Int32) (μ1 : Mm), FR μ0 μ1 → Pf μ1 (0, -1, 0, -1, np, mp) → mI μ1 179 55 = nI 0 → (∀ j, j < 3 → mI μ1 216 j = nI 0 ∧ mI μ1 222 j = -1) → AW l G X 0 0 65 [(0, .ref (G.1 + 179)), (1, .int x)] [] μ1 := by
    intro x μ1 hF hP h55 h3
    have hS : ShM μ1 := hF.sh hS0
    have hF2 : FR μ0 (sI (sI (sI μ1 221 0 (nI 12)) 221 1 (nI 20)) 221 2 (nI 0)) := ((hF.st (by unfold TchI; omega) _).st (by unfold TchI; omega) _).st (by unfold TchI; omega) _
    have hP2 : Pf (sI (sI (sI μ1 221 0 (nI 12)) 221 1 (nI 20)) 221 2 (nI 0)) (0, -1, 0, -1, np, mp) := hP
    have h552 : mI (sI (sI (sI μ1 221 0 (nI 12)) 221 1 (nI 20)) 221 2 (nI 0)) 179 55 = nI 0 := h55
    have h32 : ∀ j, j < 3 → mI (sI (sI (sI μ1 221 0 (nI 12)) 221 1 (nI 20)) 221 2 (nI 0)) 216 j = nI 0 ∧ mI (sI (sI (sI μ1 221 0 (nI 12)) 221 1 (nI 20)) 221 2 (nI 0)) 222 j = -1 := fun j hj => by
      rw [mI_sI, if_neg (by omega), mI_sI, if_neg (by omega), mI_sI, if_neg (by omega), mI_sI, if_neg (by omega), mI_sI, if_neg (by omega), mI_sI, if_neg (by omega)]
      exact h3 j hj
    have hst3 : mI (sI (sI (sI μ1 221 0 (nI 12)) 221 1 (nI 20)) 221 2 (nI 0)) 221 0 = nI 12 ∧ mI (sI (sI (sI μ1 221 0 (nI 12)) 221 1 (nI 20)) 221 2 (nI 0)) 221 1 = nI 20 ∧ mI (sI (sI (sI μ1 221 0 (nI 12)) 221 1 (nI 20)) 221 2 (nI 0)) 221 2 = nI 0 := by simp [mI_sI]
    have m88 : ∀ μ2 : Mm, FR μ0 μ2 → Pf μ2 (0, -1, 0, -1, np, mp) → mI μ2 179 55 = nI 0 → (∀ j, j < 3 → mI μ2 216 j = nI 0 ∧ mI μ2 222 j = -1) → (mI μ2 221 0 = nI 12 ∧ mI μ2 221 1 = nI 20 ∧ mI μ2 221 2 = nI 0) → AW l G X 0 0 88 [(0, .ref (G.1 + 179)), (1, .int x)] [] μ2 := by
      intro μ2 hF hP h55 h3 h221
      have hS : ShM μ2 := hF.sh hS0
      have hlt := kp_landTold (l := l) (G := G) hS (hF.wd hW0) (hF.txm hT0) (s := (0, -1, 0, -1, np, mp)) (Nat.zero_le e)
      rw [hP.self] at hlt
      have hgl := mLandS_ge (tx := tx) (e := e) (0, -1, 0, -1, np, mp) (Nat.zero_le e)
      have hok := mLandS_ok (tx := tx) (e := e) (0, -1, 0, -1, np, mp)
      unfold rLand rFirst at hK
      have hlm : mLandM tx e μ2 (0, -1, 0, -1, np, mp) = pw (sI (sI (sI μ2 215 0 (mLandS tx e (0, -1, 0, -1, np, mp)).1) 215 1 (mLandS tx e (0, -1, 0, -1, np, mp)).2.1) 215 2 (mLandS tx e (0, -1, 0, -1, np, mp)).2.2.1) (mLandS tx e (0, -1, 0, -1, np, mp)).2.2.2 := rfl
      rw [hlm] at hlt
      generalize mLandS tx e (0, -1, 0, -1, np, mp) = r at hlt hgl hok hK
      obtain ⟨v1, v2, v3, s1⟩ := r
      dsimp only at hlt hgl hok hK
      have hM : TM μ0 (sI (pw (sI (sI (sI μ2 215 0 v1) 215 1 v2) 215 2 v3) s1) 179 56 (nI 1)) ((nn v1, nn v2, nn v3), [], [], [], (12, 20, 0), fun _ => none) 1 s1 := by
        generalize hM3 : sI (pw (sI (sI (sI μ2 215 0 v1) 215 1 v2) 215 2 v3) s1) 179 56 (nI 1) = μ3
        have ho : ∀ a k, a ≠ 179 → a ≠ 215 → mI μ3 a k = mI μ2 a k := fun a k h1 h2 => by rw [← hM3, mI_sI, if_neg (by omega), pw_offA _ _ h1, mI_sI, if_neg (by omega), mI_sI, if_neg (by omega), mI_sI, if_neg (by omega)]
        refine ⟨by rw [← hM3]; exact ((((hF.st (by unfold TchI; omega) _).st (by unfold TchI; omega) _).st (by unfold TchI; omega) _).pw _).st (by unfold TchI; omega) _, ?_, fun hz => ?_⟩
        · have hp := Pf.pw (sI (sI (sI μ2 215 0 v1) 215 1 v2) 215 2 v3) s1
          rw [← hM3]
          exact hp
        · obtain ⟨a, b, x, y, ha1, ha2, hb1, hb2, hx, hy, e1, e2, e3⟩ := hok hz
          subst e1 e2 e3
          rw [nn_nI (by omega), nn_nI (by omega), nn_nI (by omega)]
          refine ⟨⟨⟨ha1, ha2, hb1, hb2, by unfold clOk; dsimp only; omega⟩, ⟨by simp, fun z q => by (cases q)⟩, ⟨by simp, fun z q => by (cases q)⟩, ⟨by simp, fun z q => by (cases q)⟩, (by decide : 1 ≤ 12 ∧ 12 ≤ 99 ∧ 20 ≤ 999 ∧ 0 ≤ 100)⟩, by decide, by rw [← hM3]; simp [mI_sI], 0, ?_, Nat.zero_le _, ⟨⟨⟨?_, ?_, ?_⟩, ?_, ?_⟩, fun i z q => by (cases q), fun i z q => by (cases q), fun i z q => by (cases q), fun w hw => ⟨fun _ => ?_, fun cs q => by (cases q)⟩⟩⟩
          · rw [← hM3, mI_sI, if_neg (by omega), pw_off _ _ (Or.inr (by decide)), mI_sI, if_neg (by omega), mI_sI, if_neg (by omega), mI_sI, if_neg (by omega)]; exact h55
          · rw [← hM3, mI_sI, if_neg (by omega), pw_offA _ _ (by decide)]; simp [mI_sI]
          · rw [← hM3, mI_sI, if_neg (by omega), pw_offA _ _ (by decide)]; simp [mI_sI]
          · rw [← hM3, mI_sI, if_neg (by omega), pw_offA _ _ (by decide)]; simp [mI_sI]
          · exact ⟨by rw [ho _ _ (by decide) (by decide)]; exact (h3 0 (by decide)).1, by rw [ho _ _ (by decide) (by decide)]; exact (h3 1 (by decide)).1, by rw [ho _ _ (by decide) (by decide)]; exact (h3 2 (by decide)).1⟩
          · exact ⟨by rw [ho _ _ (by decide) (by decide)]; exact h221.1, by rw [ho _ _ (by decide) (by decide)]; exact h221.2.1, by rw [ho _ _ (by decide) (by decide)]; exact h221.2.2⟩
          · rw [ho _ _ (by decide) (by decide), show 3 * 0 + w = w by omega]; exact (h3 w hw).2
      refine C.aload_n dX13_land_88 0 rfl ?_
      refine C.callVV lX13_391 dX13_land_89 (hlt) hS.o rfl rfl (Nat.le_of_ble_eq_true rfl) (Nat.zero_le _) (Nat.zero_le _) (Nat.le_of_ble_eq_true rfl) (fun μ89 h89 => ?_)
      subst h89
      have hS : ShM (pw (sI (sI (sI μ2 215 0 v1) 215 1 v2) 215 2 v3) s1) := hS.of rfl
      refine C.aload_n dX13_land_92 0 rfl ?_
      refine C.iconst (nI 1) dX13_land_93 (by decide) ?_
      refine C.putI fX13_376 (Or.inl rfl) dX13_land_94 hS.o ?_
      exact loop (e + 2) _ x _ hM hgl.2 (by dsimp only; omega) hK
    refine C.aload_n dX13_land_65 0 rfl ?_
    refine C.getA fX13_139 dX13_land_66 hS.o hS.r51 ?_
    refine C.iconst (nI 0) dX13_land_69 (by decide) ?_
    refine C.bipush (nI 12) dX13_land_70 (by decide) ?_
    refine C.iast hS.a51 (n_in (by decide)) dX13_land_72 ?_
    rw [n_cl]
    refine C.aload_n dX13_land_73 0 rfl ?_
    refine C.getA fX13_139 dX13_land_74 hS.o hS.r51 ?_
    refine C.iconst (nI 1) dX13_land_77 (by decide) ?_
    refine C.bipush (nI 20) dX13_land_78 (by decide) ?_
    refine C.iast hS.a51 (n_in (by decide)) dX13_land_80 ?_
    rw [n_cl]
    refine C.aload_n dX13_land_81 0 rfl ?_
    refine C.getA fX13_139 dX13_land_82 hS.o hS.r51 ?_
    refine C.iconst (nI 2) dX13_land_85 (by decide) ?_
    refine C.iconst (nI 0) dX13_land_86 (by decide) ?_
    refine C.iast hS.a51 (n_in (by decide)) dX13_land_87 ?_
    first | skip
    rw [n_cl]
    exact m88 _ hF2 hP2 h552 h32 hst3
  have kl : ∀ (n k : Nat) (μ1 : Mm), 3 - k < n → k ≤ 3 → FR μ0 μ1 → Pf μ1 (0, -1, 0, -1, np, mp) → mI μ1 179 55 = nI 0 → (∀ j, j < k → mI μ1 216 j = nI 0 ∧ mI μ1 222 j = -1) → AW l G X 0 0 40 [(0, .ref (G.1 + 179)), (1, .int (nI k))] [] μ1 := by
    intro n
    induction n with
    | zero => intro k μ1 h; omega
    | succ n ih =>
      intro k μ1 hn hk hF hP h55 h3
      have hS : ShM μ1 := hF.sh hS0
      refine C.iload_n dX13_land_40 1 rfl ?_
      refine C.iconst (nI 3) dX13_land_41 (by decide) ?_
      refine C.icmp_ge 65 dX13_land_42 rfl (fun hc42 => ?_) (fun hc42 => ?_)
      · have hge := n_le (b := k) hc42
        have hkk : k = 3 := by omega
        subst hkk
        exact m65 _ μ1 hF hP h55 h3
      · have hlt := n_nle (a := 3) (b := k) hc42
        refine C.aload_n dX13_land_45 0 rfl ?_
        refine C.getA fX13_123 dX13_land_46 hS.o hS.r46 ?_
        refine C.iload_n dX13_land_49 1 rfl ?_
        refine C.iconst (nI 0) dX13_land_50 (by decide) ?_
        refine C.iast hS.a46 (n_in (by omega)) dX13_land_51 ?_
        rw [n_cl]
        refine C.aload_n dX13_land_52 0 rfl ?_
        refine C.getA fX13_142 dX13_land_53 hS.o hS.r52 ?_
        refine C.iload_n dX13_land_56 1 rfl ?_
        refine C.iconst (-1) dX13_land_57 (by decide) ?_
        refine C.iast hS.a52 (n_in (by omega)) dX13_land_58 ?_
        rw [n_cl]
        refine C.iinc (lv' := [(0, _), (1, _)]) _ dX13_land_59 1 rfl rfl (nLt hX rfl) rfl ?_
        refine C.goto 40 dX13_land_62 rfl ?_
        have hgo := ih (k + 1) (sI (sI μ1 216 k (nI 0)) 222 k (-1)) (by omega) (by omega) ((hF.st (by unfold TchI; omega) _).st (by unfold TchI; omega) _) hP h55 (fun j hj => ⟨by rw [mI_sI, if_neg (by omega), mI_sI]; by_cases q : j = k; rw [if_pos ⟨rfl, q⟩]; rw [if_neg (by omega)]; exact (h3 j (by omega)).1, by rw [mI_sI]; by_cases q : j = k; rw [if_pos ⟨rfl, q⟩]; rw [if_neg (by omega), mI_sI, if_neg (by omega)]; exact (h3 j (by omega)).2⟩)
        rw [← nI_1] at hgo
        exact hgo
  have hFs : FR μ0 (sI (sI (sI (sI (sI μ0 179 2 (nI 0)) 179 4 (-1)) 179 5 (nI 0)) 179 6 (-1)) 179 55 (nI 0)) := (((((FR.refl μ0).st (by unfold TchI; omega) _).st (by unfold TchI; omega) _).st (by unfold TchI; omega) _).st (by unfold TchI; omega) _).st (by unfold TchI; omega) _
  have hPs : Pf (sI (sI (sI (sI (sI μ0 179 2 (nI 0)) 179 4 (-1)) 179 5 (nI 0)) 179 6 (-1)) 179 55 (nI 0)) (0, -1, 0, -1, np, mp) := by
    refine ⟨by simp [mI_sI], by simp [mI_sI], by simp [mI_sI]; rfl, by simp [mI_sI], ?_, ?_⟩
    · rw [mI_sI, if_neg (by omega), mI_sI, if_neg (by omega), mI_sI, if_neg (by omega), mI_sI, if_neg (by omega), mI_sI, if_neg (by omega), hoth 10 (by decide) (by decide)]; exact hnp
    · rw [mI_sI, if_neg (by omega), mI_sI, if_neg (by omega), mI_sI, if_neg (by omega), mI_sI, if_neg (by omega), mI_sI, if_neg (by omega), hoth 44 (by decide) (by decide)]; exact hmp
  have htp : mI μ 179 1 = nI e := by rw [hR.2.1.1, he]
  have m38 : AW l G X 0 0 13 [(0, .ref (G.1 + 179))] [] μ0 := by
    have hS : ShM μ0 := hS0
    refine C.aload_n dX13_land_13 0 rfl ?_
    refine C.iconst (nI 0) dX13_land_14 (by decide) ?_
    refine C.putI fX13_270 (Or.inl rfl) dX13_land_15 hS.o ?_
    refine C.aload_n dX13_land_18 0 rfl ?_
    refine C.iconst (-1) dX13_land_19 (by decide) ?_
    refine C.putI fX13_284 (Or.inl rfl) dX13_land_20 hS.o ?_
    refine C.aload_n dX13_land_23 0 rfl ?_
    refine C.iconst (nI 0) dX13_land_24 (by decide) ?_
    refine C.putI fX13_264 (Or.inl rfl) dX13_land_25 hS.o ?_
    refine C.aload_n dX13_land_28 0 rfl ?_
    refine C.iconst (-1) dX13_land_29 (by decide) ?_
    refine C.putI fX13_267 (Or.inl rfl) dX13_land_30 hS.o ?_
    refine C.aload_n dX13_land_33 0 rfl ?_
    refine C.iconst (nI 0) dX13_land_34 (by decide) ?_
    refine C.putI fX13_373 (Or.inl rfl) dX13_land_35 hS.o ?_
    refine C.iconst (nI 0) dX13_land_38 (by decide) ?_
    refine C.istore_n (lv' := [(0, _), (1, _)]) dX13_land_39 (nLt hX rfl) rfl ?_
    exact kl 4 0 _ (by omega) (by omega) hFs hPs (by simp [mI_sI]) (fun j hj => by omega)
  refine C.aload_n dX13_land_0 0 rfl ?_
  refine C.aload_n dX13_land_1 0 rfl ?_
  refine C.getI fX13_261 dX13_land_2 hS.o ?_
  rw [htp]
  refine C.putI fX13_273 (Or.inl rfl) dX13_land_5 hS.o ?_
  refine C.aload_n dX13_land_8 0 rfl ?_
  refine C.iconst (nI 0) dX13_land_9 (by decide) ?_
  refine C.putI fX13_261 (Or.inl rfl) dX13_land_10 hS.o ?_
  first | skip
  rw [hμ0]
  exact m38
end KMLD2
