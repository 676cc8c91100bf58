/-! the class: land() -/
section KXL
variable {l : Launch} {G : Gm} {μ μ' : Mm} {h : Hs}
theorem RdK.ln {b : Nat} {d : Ld} {L : Nat} (hk : RdK μ b d L) (hn : mN μ ≤ mN μ') (hI : ∀ k, mI μ' b k = mI μ b k) (hI2 : ∀ k, mI μ' (b + 1) k = mI μ (b + 1) k) (hL : ∀ k, mL μ' b k = mL μ b k) (hR : mR μ' b 4 = mR μ b 4) : RdK μ' b d L := by
  obtain ⟨⟨L', h1, h2⟩, h3⟩ := hk
  refine ⟨⟨L', hR.trans h1, by omega⟩, fun q q0 => ?_⟩
  obtain ⟨x, fr, ng, a1, a2, a3, ⟨v1, v2, v3, v4⟩, v5, v6, v7⟩ := h3 (hR.symm.trans q) q0
  exact ⟨x, fr, ng, a1, a2, a3, ⟨hR.trans v1, (hL 5).trans v2, (hI 6).trans v3, (hI 7).trans v4⟩, fun t ht => (hI2 t).trans (v5 t ht), (hL 2).trans v6, (hL 3).trans v7⟩
/-- behind the reading of a text -/
def LnG (μ μ' : Mm) : Prop := LnF (mN μ) μ μ'
theorem LnF.frc {L : Nat} (l : LnF L μ μ') (hL : 259 ≤ L) : FrC μ μ' := ⟨l.1, fun a k h1 h2 => ⟨(l.2 a (by omega)).2.2 k (by omega) (by omega) (by omega), (l.2 a (by omega)).1 k, (l.2 a (by omega)).2.1 k⟩⟩
theorem ClsRel.rd (hC : ClsRel μ h) (l : LnF (mN μ) μ μ') {fl : Int32 × Int32} (h6 : mI μ' 3 6 = fl.1) (h7 : mI μ' 3 7 = fl.2) : PX μ ([], fl, rfH h, ldH h, stH h, psH h, rwH h, ocH h, sdH h) (sI μ' 1 1 (nI 0)) := by
  have hC0 := hC
  obtain ⟨⟨hB, hT, hF, hRr⟩, ⟨hN, hP⟩, ⟨hW, hO, hD⟩, L0, c0, hL0⟩ := hC
  have h259 := hB.2.2
  have hI : ∀ a k, a < mN μ → a ≠ 3 → a ≠ 5 → a ≠ 6 → a ≠ 1 → mI (sI μ' 1 1 (nI 0)) a k = mI μ a k := fun a k q1 q2 q3 q4 q5 => by
    rw [mI_sI, if_neg (by omega)]
    exact (l.2 a q1).2.2 k q2 q4 (by omega)
  obtain ⟨k1, k2, k3, k4, k5⟩ := hL0
  have rk : ∀ b, b = 33 ∨ b = 35 ∨ b = 38 → RdK μ b (ldH h) L0 → RdK (sI μ' 1 1 (nI 0)) b (ldH h) L0 := fun b hb q => q.ln l.1.1 (fun k => hI b k (by omega) (by omega) (by omega) (by omega) (by omega)) (fun k => hI (b + 1) k (by omega) (by omega) (by omega) (by omega) (by omega)) (fun k => (l.2 b (by omega)).1 k) ((l.2 b (by omega)).2.1 4)
  have ps : CsP (sI μ' 1 1 (nI 0)) (psH h) := hP.of (fun a k q1 q2 => hI a k (by omega) (by omega) (by omega) (by omega) (by omega))
  have n40 : CsN (sI μ' 1 1 (nI 0)) 40 (stH h) := hN.of (fun a k q1 q2 => hI a k (by omega) (by omega) (by omega) (by omega) (by omega))
  refine hC0.mk (h' := ([], fl, rfH h, ldH h, stH h, psH h, rwH h, ocH h, sdH h)) l.1 (fun a k q _ => (l.2 a (by omega)).2.1 k) ⟨l.1, fun a k q1 q2 => ⟨hI a k (by omega) (by omega) (by omega) (by omega) (by omega), (l.2 a (by omega)).1 k, (l.2 a (by omega)).2.1 k⟩⟩ (fun k => hI 4 k (by omega) (by omega) (by omega) (by omega) (by omega)) ⟨by rw [mI_sI, if_pos ⟨rfl, rfl⟩]; rfl, Nat.zero_le _, fun j x q => absurd (show ([] : List Nat)[j]? = some x from q) (by simp)⟩ ⟨by rw [mI_sI, if_neg (by omega)]; exact h6, by rw [mI_sI, if_neg (by omega)]; exact h7⟩ (hRr.of (fun k => hI 178 k (by omega) (by omega) (by omega) (by omega) (by omega))) n40 ps (hW.of (hI 0 16 (by omega) (by omega) (by omega) (by omega) (by omega)) (fun k => hI 174 k (by omega) (by omega) (by omega) (by omega) (by omega))) (hO.of (hI 0 17 (by omega) (by omega) (by omega) (by omega) (by omega)) (fun k => hI 177 k (by omega) (by omega) (by omega) (by omega) (by omega))) (hD.of (hI 0 18 (by omega) (by omega) (by omega) (by omega) (by omega))) ⟨L0, c0, ((l.2 0 (by omega)).2.1 15).trans k1, k2.same l.1 (fun a q1 q2 => ⟨fun k => hI a k q1 (by unfold InL at q2; omega) (by unfold InL at q2; omega) (by unfold InL at q2; omega) (by unfold InL at q2; omega), fun k => (l.2 a q1).1 k, fun k => (l.2 a q1).2.1 k⟩), rk 33 (by omega) k3, rk 35 (by omega) k4, rk 38 (by omega) k5⟩
theorem LdR.ldc {L : Nat} {c : Lc} {d : Ld} (hR : LdR μ L c d) : LdC d := by
  intro w cs hw hcs
  obtain ⟨-, -, ns, -, -, -, -, hm⟩ := hR.2.2.2.2.2.1 w hw
  rw [hcs] at hm
  obtain ⟨e1, -, e3⟩ := hm
  rw [e1]
  exact TyR.wf ns [] e3

theorem kx_land (hC : ClsRel μ h) (np mp : Int32) {R : Ld × Nat × Ps} (hRR : rLand (txL (tpH h)) (tpH h).length np mp = R) : AMet l G 41 24 4991 mtX12_land [.ref (G.1 + 0)] μ (qI (fun x μ' => x = landX R ∧ PX μ (landH h R) μ' ∧ (R.2.2.2.2.1 = 0 → Wf R.1 ∧ LdC R.1))) := by
  refine AMet.of (by decide) (Nat.le_of_ble_eq_true rfl) (fun X C hX hnm hq => ?_)
  have hS := hC.1.1.1
  have h259 := hC.1.1.2.2
  refine C.aload_n dX12_land_0 0 rfl ?_
  refine C.getO fX12_35 dX12_land_1 hS.o0 hS.r0_2 ?_
  refine C.callVR lX12_130 dX12_land_4 (kr_read hC.1.1 hC.1.2.1 np mp) hS.o7 rfl rfl (Nat.le_of_ble_eq_true rfl) (by omega) (by omega) (Nat.le_of_ble_eq_true rfl) (fun x4 μ4 h4 => ?_)
  obtain ⟨rfl, l1, l2, l3, l4, l5⟩ := h4
  rw [hRR] at l2 l3 l5
  have hS := (l1.b h259 hC.1.1).1
  have f6 : mI μ4 3 6 = R.2.2.2.2.1 := by
    by_cases z : R.2.2.2.2.1 = 0
    · rw [(l2.1 z).1, z]; rfl
    · exact (l2.2 z).1
  have f7 : mI μ4 3 7 = R.2.2.2.2.2.1 := by
    by_cases z : R.2.2.2.2.1 = 0
    · rw [(l2.1 z).2.1, (l3 z).2.2]
    · exact (l2.2 z).2.1
  have hXX := hC.rd (fl := (R.2.2.2.2.1, R.2.2.2.2.2.1)) l1 f6 f7
  refine C.astore_n (lv' := [(0, _), (1, _)]) dX12_land_7 (nLt hX rfl) rfl ?_
  refine C.aload_n dX12_land_8 0 rfl ?_
  refine C.getO fX12_12 dX12_land_9 hS.o0 hS.r0_0 ?_
  refine C.iconst (nI 0) dX12_land_12 (by decide) ?_
  refine C.putI fX12_115 (Or.inl rfl) dX12_land_13 hS.o1 ?_
  refine C.aload_n dX12_land_16 0 rfl ?_
  refine C.getO fX12_21 dX12_land_17 hS.o0 hS.r0_1 ?_
  refine C.getI fX12_134 dX12_land_20 hS.o3 ?_
  rw [show mI (sI μ4 1 1 (nI 0)) 3 6 = R.2.2.2.2.1 from f6]
  refine C.if_eq 32 dX12_land_23 rfl (fun hc23 => ?_) (fun hc23 => ?_)
  · obtain ⟨⟨f, g, lg⟩, hWf, h16, h80⟩ := l5 hc23
    have hL : 259 ≤ mN μ := h259
    have hcl := hXX.1
    refine C.aload_n dX12_land_32 0 rfl ?_
    refine C.aload_n dX12_land_33 1 rfl ?_
    refine C.putO fX12_54 (Or.inl rfl) dX12_land_34 hS.o0 ?_
    have hS3 : ShC (sR (sI μ4 1 1 (nI 0)) 0 15 (some (mN μ))) := hS.grw (Grw.of rfl) (fun a k q1 q2 => by rw [mR_sR, if_neg (fun z => q2 (Or.inl z))]; rfl)
    have hld : LdR (sR (sI μ4 1 1 (nI 0)) 0 15 (some (mN μ))) (mN μ) (cLk (mN μ) f g) R.1 := lg.1.same (Grw.of rfl) (fun a q1 q2 => ⟨fun k => by rw [mI_sR, mI_sI, if_neg (by unfold InL at q2; omega)], fun k => rfl, fun k => by rw [mR_sR, if_neg (by unfold InL at q2; omega)]; rfl⟩)
    have hS := hS3
    refine C.aload_n dX12_land_37 0 rfl ?_
    refine C.getO fX12_80 dX12_land_38 hS.o0 hS.r0_7 ?_
    refine C.aload_n dX12_land_41 1 rfl ?_
    refine C.callVV lX12_137 dX12_land_42 (ks_begin hS3.s40 (Or.inl rfl) hld hWf.2.2.2.1.1) hS.o40 rfl rfl (Nat.le_of_ble_eq_true rfl) (Nat.zero_le _) (Nat.zero_le _) (Nat.le_of_ble_eq_true rfl) (fun μ42 h42 => ?_)
    obtain ⟨n42, s42⟩ := h42
    have hS : ShC μ42 := hS3.of (by rw [s42.1])
    refine C.aload_n dX12_land_45 0 rfl ?_
    refine C.getO fX12_90 dX12_land_46 hS.o0 hS.r0_9 ?_
    refine C.iconst (nI 0) dX12_land_49 (by decide) ?_
    refine C.putI fX12_141 (Or.inl rfl) dX12_land_50 hS.o52 ?_
    refine C.aload_n dX12_land_53 0 rfl ?_
    refine C.iconst (nI 0) dX12_land_54 (by decide) ?_
    refine C.putI fX12_144 (Or.inl rfl) dX12_land_55 hS.o0 ?_
    refine C.aload_n dX12_land_58 1 rfl ?_
    have hO5 : isO (sI (sI μ42 52 2 (nI 0)) 0 16 (nI 0)) (mN μ) 2 := (hld.o).grw (Grw.of (by show μ42.2.2.2 = _; rw [s42.1]))
    refine C.getI fX12_147 dX12_land_59 hO5 ?_
    refine C.iret hq dX12_land_62 ?_
    have m2 : ∀ a k, mR (sI (sI μ42 52 2 (nI 0)) 0 16 (nI 0)) a k = mR (sR (sI μ4 1 1 (nI 0)) 0 15 (some (mN μ))) a k := fun a k => by show μ42.2.2.1 a k = _; rw [s42.1]; rfl
    have m3 : ∀ a k, mL (sI (sI μ42 52 2 (nI 0)) 0 16 (nI 0)) a k = mL (sI μ4 1 1 (nI 0)) a k := fun a k => by show μ42.2.1 a k = _; rw [s42.1]; rfl
    have hI : ∀ a k, ¬ (40 ≤ a ∧ a ≤ 45) → ¬ (a = 52 ∧ k = 2) → ¬ (a = 0 ∧ k = 16) → mI (sI (sI μ42 52 2 (nI 0)) 0 16 (nI 0)) a k = mI (sI μ4 1 1 (nI 0)) a k := fun a k q1 q2 q3 => by
      rw [mI_sI, if_neg q3, mI_sI, if_neg q2, s42.2 a k q1]
      rfl
    have gF : Grw (sI μ4 1 1 (nI 0)) (sI (sI μ42 52 2 (nI 0)) 0 16 (nI 0)) := Grw.of (by show μ42.2.2.2 = _; rw [s42.1]; rfl)
    have hz : R.2.2.2.2.1 = 0 := hc23
    have n4 : mN μ ≤ mN μ4 := l1.1.1
    have nF' : mN (sI (sI μ42 52 2 (nI 0)) 0 16 (nI 0)) = mN μ4 := by show μ42.2.2.2.2 = _; rw [s42.1]; rfl
    have gld : Grw (sR (sI μ4 1 1 (nI 0)) 0 15 (some (mN μ))) (sI (sI μ42 52 2 (nI 0)) 0 16 (nI 0)) := Grw.of (by show μ42.2.2.2 = _; rw [s42.1])
    have hldF : LdR (sI (sI μ42 52 2 (nI 0)) 0 16 (nI 0)) (mN μ) (cLk (mN μ) f g) R.1 := hld.same gld (fun a q1 q2 => ⟨fun k => hI a k (by unfold InL at q2; omega) (by unfold InL at q2; omega) (by unfold InL at q2; omega), fun k => m3 a k, fun k => m2 a k⟩)
    obtain ⟨-, -, -, L0, c0, k1, k2, k3, k4, k5⟩ := hC
    have rk : ∀ b, b = 33 ∨ b = 35 ∨ b = 38 → RdK μ b (ldH h) L0 → RdK (sI (sI μ42 52 2 (nI 0)) 0 16 (nI 0)) b R.1 (mN μ) := by
      intro b hb q
      obtain ⟨⟨L', q1, q2⟩, -⟩ := q
      have e1 : mR (sI (sI μ42 52 2 (nI 0)) 0 16 (nI 0)) b 4 = some L' := by
        rw [m2, mR_sR, if_neg (by omega)]
        exact ((l1.2 b (by omega)).2.1 4).trans q1
      refine ⟨⟨L', e1, by omega⟩, fun z => ?_⟩
      rw [e1] at z
      simp only [Option.some.injEq] at z
      omega
    have hcl2 := hcl
    obtain ⟨⟨hB, hT, hF, hRr⟩, ⟨hN, hP⟩, ⟨hW, hO, hD⟩, -⟩ := hcl
    have hP1 := hP.2.2
    obtain ⟨nw, w1, w2, -⟩ := hP1
    have px := hcl2.mk (h' := landH h R) gF (fun a k q1 q2 => by rw [m2, mR_sR, if_neg (fun z => q2 (Or.inl z))]) ⟨gF, fun a k q1 q2 => ⟨hI a k (by omega) (by omega) (by omega), m3 a k, by rw [m2, mR_sR, if_neg (by omega)]⟩⟩ (fun k => hI 4 k (by omega) (by omega) (by omega)) (by unfold landH; rw [if_pos hz]; exact hT.of (hI 1 1 (by omega) (by omega) (by omega)) (fun k => hI 2 k (by omega) (by omega) (by omega))) (by unfold landH; rw [if_pos hz]; exact hF.of (hI 3 6 (by omega) (by omega) (by omega)) (hI 3 7 (by omega) (by omega) (by omega))) (by unfold landH; rw [if_pos hz]; exact hRr.of (fun k => hI 178 k (by omega) (by omega) (by omega))) (by unfold landH; rw [if_pos hz]; exact n42.of (fun a k q1 q2 => by rw [mI_sI, if_neg (by omega), mI_sI, if_neg (by omega)])) (by unfold landH; rw [if_pos hz]; exact ⟨by rw [mI_sI, if_neg (by omega), mI_sI, if_pos ⟨rfl, rfl⟩]; rfl, Nat.zero_le _, nw, w1, (hI 52 1 (by omega) (by omega) (by omega)).trans w2, fun i S q => absurd (show ([] : List St)[i]? = some S from q) (by simp)⟩) (by unfold landH; rw [if_pos hz]; exact ⟨by rw [mI_sI, if_pos ⟨rfl, rfl⟩]; rfl, fun i x q => absurd (show ([] : List (Nat × Nat))[i]? = some x from q) (by simp)⟩) (by unfold landH; rw [if_pos hz]; exact hO.of (hI 0 17 (by omega) (by omega) (by omega)) (fun k => hI 177 k (by omega) (by omega) (by omega))) (by unfold landH; rw [if_pos hz]; exact hD.of (hI 0 18 (by omega) (by omega) (by omega))) (by unfold landH; rw [if_pos hz]; exact ⟨mN μ, cLk (mN μ) f g, by rw [m2, mR_sR, if_pos ⟨rfl, rfl⟩], hldF, rk 33 (by omega) k3, rk 35 (by omega) k4, rk 38 (by omega) k5⟩)
    refine ⟨?_, ⟨px.1, hXX.2.trans px.2⟩, fun _ => ⟨hWf, lg.1.ldc⟩⟩
    unfold landX
    rw [if_pos hz, hI (mN μ) 16 (by omega) (by omega) (by omega), mI_sI, if_neg (by omega)]
    exact h16
  · skip
    refine C.aload_n dX12_land_26 0 rfl ?_
    refine C.iconst (nI 1) dX12_land_27 (by decide) ?_
    refine C.callVI lX12_118 dX12_land_28 (kx_refuse hXX.1 (j := 1) (by omega)) hS.o0 rfl rfl (Nat.le_of_ble_eq_true rfl) (Nat.zero_le _) (Nat.zero_le _) (Nat.le_of_ble_eq_true rfl) (fun x28 μ28 h28 => ?_)
    refine C.iret hq dX12_land_31 ?_
    refine ⟨?_, ?_, fun z => absurd z hc23⟩
    · rw [h28.1]
      unfold landX
      rw [if_neg hc23]
    · unfold landH
      rw [if_neg hc23]
      exact ⟨h28.2.1, hXX.2.trans h28.2.2⟩
end KXL
