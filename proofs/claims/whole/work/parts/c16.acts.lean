/-! the class: acts -/
section UPS
variable {μ μ' : Mm} {h h' : Hs}
theorem CsT.of {tp : List Nat} (t : CsT μ tp) (h1 : mI μ' 1 1 = mI μ 1 1) (h2 : ∀ k, mI μ' 2 k = mI μ 2 k) : CsT μ' tp := ⟨by rw [h1]; exact t.1, t.2.1, fun j x q => by rw [h2]; exact t.2.2 j x q⟩
theorem CsF.of {fl : Int32 × Int32} (t : CsF μ fl) (h1 : mI μ' 3 6 = mI μ 3 6) (h2 : mI μ' 3 7 = mI μ 3 7) : CsF μ' fl := ⟨by rw [h1]; exact t.1, by rw [h2]; exact t.2⟩
theorem CsR.of {rf : Nat → Int32} (t : CsR μ rf) (h1 : ∀ k, mI μ' 178 k = mI μ 178 k) : CsR μ' rf := fun k q => by rw [h1]; exact t k q
theorem CsW.of {d : Ld} {rw : List (Nat × Nat)} (t : CsW μ d rw) (h1 : mI μ' 0 16 = mI μ 0 16) (h2 : ∀ k, mI μ' 174 k = mI μ 174 k) : CsW μ' d rw := ⟨by rw [h1]; exact t.1, fun i x q => by rw [h2, h2]; exact t.2 i x q⟩
theorem CsO.of {oc : List Nat} (t : CsO μ oc) (h1 : mI μ' 0 17 = mI μ 0 17) (h2 : ∀ k, mI μ' 177 k = mI μ 177 k) : CsO μ' oc := ⟨by rw [h1]; exact t.1, t.2.1, fun i x q => by rw [h2]; exact t.2.2 i x q⟩
theorem CsD.of {sd : Nat} (t : CsD μ sd) (h1 : mI μ' 0 18 = mI μ 0 18) : CsD μ' sd := h1.trans t
theorem ClsRel.mk (hC : ClsRel μ h) (g : Grw μ μ') (hr : ∀ a k, a < 179 → ¬ dynR a k → mR μ' a k = mR μ a k) (fr : FrC μ μ') (h4 : ∀ k, mI μ' 4 k = mI μ 4 k) (t : CsT μ' (tpH h')) (f : CsF μ' (flH h')) (r : CsR μ' (rfH h')) (n : CsN μ' 40 (stH h')) (p : CsP μ' (psH h')) (w : CsW μ' (ldH h') (rwH h')) (o : CsO μ' (ocH h')) (dd : CsD μ' (sdH h')) (lk : ∃ L c, CsL μ' L c (ldH h')) : PX μ h' μ' := ⟨⟨⟨⟨hC.1.1.1.grw g hr, fun i q => by rw [h4]; exact hC.1.1.2.1 i q, Nat.le_trans hC.1.1.2.2 g.1⟩, t, f, r⟩, ⟨n, p⟩, ⟨w, o, dd⟩, lk⟩, fr⟩
/-- ints alone are written, none of a land, a ride or the reference -/
def UpI (μ μ' : Mm) : Prop := μ'.2 = μ.2 ∧ (∀ k, mI μ' 4 k = mI μ 4 k) ∧ ∀ a k, (179 ≤ a ∧ a ≤ 258) ∨ InL a ∨ (33 ≤ a ∧ a ≤ 36) ∨ a = 38 ∨ a = 39 → mI μ' a k = mI μ a k
theorem ClsRel.up (hC : ClsRel μ h) (u : UpI μ μ') (hl : ldH h' = ldH h) (t : CsT μ' (tpH h')) (f : CsF μ' (flH h')) (r : CsR μ' (rfH h')) (n : CsN μ' 40 (stH h')) (p : CsP μ' (psH h')) (w : CsW μ' (ldH h) (rwH h')) (o : CsO μ' (ocH h')) (dd : CsD μ' (sdH h')) : PX μ h' μ' := by
  obtain ⟨L, c, hL⟩ := hC.2.2.2
  refine hC.mk (Grw.of (by rw [u.1])) (fun a k _ _ => by unfold mR; rw [u.1]) ⟨Grw.of (by rw [u.1]), fun a k q1 q2 => ⟨u.2.2 a k (Or.inl ⟨q1, q2⟩), by unfold mL; rw [u.1], by unfold mR; rw [u.1]⟩⟩ u.2.1 t f r n p (by rw [hl]; exact w) o dd ⟨L, c, by rw [hl]; exact hL.of u.1 (fun a k q => u.2.2 a k (Or.inr q))⟩
theorem ClsRel.rfs (hC : ClsRel μ h) {j : Nat} (hj : j < 6) : PX μ (rfsH h j) (sI μ 178 j (rfH h j + nI 1)) := by
  have e : ∀ a k, a ≠ 178 → mI (sI μ 178 j (rfH h j + nI 1)) a k = mI μ a k := fun a k q => by rw [mI_sI, if_neg (fun z => q z.1)]
  refine hC.up (h' := rfsH h j) ⟨rfl, fun k => e _ _ (by omega), fun a k q => e a k (by unfold InL at q; omega)⟩ rfl (hC.1.2.1.of (e _ _ (by omega)) (fun k => e _ _ (by omega))) (hC.1.2.2.1.of (e _ _ (by omega)) (e _ _ (by omega))) (fun k q => ?_) (hC.2.1.1.of (fun a k q1 q2 => e a k (by omega))) (hC.2.1.2.of (fun a k q1 q2 => e a k (by omega))) (hC.2.2.1.1.of (e _ _ (by omega)) (fun k => e _ _ (by omega))) (hC.2.2.1.2.1.of (e _ _ (by omega)) (fun k => e _ _ (by omega))) (hC.2.2.1.2.2.of (e _ _ (by omega)))
  show _ = upR (rfH h) j k
  unfold upR
  rw [mI_sI]
  by_cases hk : k = j
  · rw [if_pos ⟨rfl, hk⟩, if_pos hk]
  · rw [if_neg (fun z => hk z.2), if_neg hk]; exact hC.1.2.2.2 k q
end UPS
section KX8
variable {l : Launch} {G : Gm} {μ : Mm} {h : Hs} {L : Nat} {c : Lc}

theorem kx_refuse (hC : ClsRel μ h) {j : Nat} (hj : j < 6) : AMet l G 0 0 0 mtX12_refuse [.ref (G.1 + 0), .int (nI j)] μ (qI (fun y μ' => y = -1 ∧ PX μ (rfsH h j) μ')) := by
  refine AMet.of (by decide) (Nat.le_of_ble_eq_true rfl) (fun X C hX hnm hq => ?_)
  have hS := hC.1.1.1
  refine C.aload_n dX12_refuse_0 0 rfl ?_
  refine C.getA fX12_108 dX12_refuse_1 hS.o0 hS.r0_14 ?_
  refine C.iload_n dX12_refuse_4 1 rfl ?_
  refine C.dup2 dX12_refuse_5 rfl rfl ?_
  refine C.iald hS.a178 (n_in hj) dX12_refuse_6 ?_
  rw [n_cl, hC.1.2.2.2 j hj]
  refine C.iconst (nI 1) dX12_refuse_7 (by decide) ?_
  refine C.iadd dX12_refuse_8 ?_
  refine C.iast hS.a178 (n_in hj) dX12_refuse_9 ?_
  rw [n_cl]
  refine C.iconst (-1) dX12_refuse_10 (by decide) ?_
  refine C.iret hq dX12_refuse_11 ?_
  exact ⟨rfl, hC.rfs hj⟩
theorem kx_denies (hC : ClsRel μ h) {j : Nat} (hj : j < 6) : AMet l G 0 0 0 mtX12_denies [.ref (G.1 + 0), .int (nI j)] μ (qI (fun y μ' => y = nI 0 ∧ PX μ (rfsH h j) μ')) := by
  refine AMet.of (by decide) (Nat.le_of_ble_eq_true rfl) (fun X C hX hnm hq => ?_)
  have hS := hC.1.1.1
  refine C.aload_n dX12_denies_0 0 rfl ?_
  refine C.getA fX12_108 dX12_denies_1 hS.o0 hS.r0_14 ?_
  refine C.iload_n dX12_denies_4 1 rfl ?_
  refine C.dup2 dX12_denies_5 rfl rfl ?_
  refine C.iald hS.a178 (n_in hj) dX12_denies_6 ?_
  rw [n_cl, hC.1.2.2.2 j hj]
  refine C.iconst (nI 1) dX12_denies_7 (by decide) ?_
  refine C.iadd dX12_denies_8 ?_
  refine C.iast hS.a178 (n_in hj) dX12_denies_9 ?_
  rw [n_cl]
  refine C.iconst (nI 0) dX12_denies_10 (by decide) ?_
  refine C.zret hq dX12_denies_11 (by decide) ?_
  exact ⟨rfl, hC.rfs hj⟩
theorem kx_seed (hC : ClsRel μ h) (x : Int32) : AMet l G 1 0 0 mtX12_seed [.ref (G.1 + 0), .int x] μ (qI (fun z μ' => z = seedA x ∧ PX μ (seedH h x) μ')) := by
  refine AMet.of (by decide) (Nat.le_of_ble_eq_true rfl) (fun X C hX hnm hq => ?_)
  have hS := hC.1.1.1
  have e : ∀ (v : Int32) a k, ¬ (a = 0 ∧ k = 18) → mI (sI μ 0 18 v) a k = mI μ a k := fun v a k q => by rw [mI_sI, if_neg q]
  unfold seedA seedH at hq
  refine C.iload_n dX12_seed_0 1 rfl ?_
  refine C.if_ge 10 dX12_seed_1 rfl (fun hc1 => ?_) (fun hc1 => ?_)
  · have hneg : ¬ x < 0 := Int32.not_lt.mpr hc1
    rw [if_neg hneg, decide_eq_false hneg] at hq
    obtain ⟨k, hk, ek⟩ := nI_of hneg
    subst ek
    refine C.aload_n dX12_seed_10 0 rfl ?_
    refine C.iload_n dX12_seed_11 1 rfl ?_
    refine C.putI fX12_111 (Or.inl rfl) dX12_seed_12 hS.o0 ?_
    refine C.iconst (nI 1) dX12_seed_15 (by decide) ?_
    refine C.zret hq dX12_seed_16 (by decide) ?_
    refine ⟨rfl, hC.up (h' := (tpH h, flH h, rfH h, ldH h, stH h, psH h, rwH h, ocH h, nn (nI k))) ⟨rfl, fun j => e _ _ _ (by omega), fun a j q => e _ a j (by unfold InL at q; omega)⟩ rfl (hC.1.2.1.of (e _ _ _ (by omega)) (fun k => e _ _ _ (by omega))) (hC.1.2.2.1.of (e _ _ _ (by omega)) (e _ _ _ (by omega))) (hC.1.2.2.2.of (fun k => e _ _ _ (by omega))) (hC.2.1.1.of (fun a k q1 q2 => e _ a k (by omega))) (hC.2.1.2.of (fun a k q1 q2 => e _ a k (by omega))) (hC.2.2.1.1.of (e _ _ _ (by omega)) (fun k => e _ _ _ (by omega))) (hC.2.2.1.2.1.of (e _ _ _ (by omega)) (fun k => e _ _ _ (by omega))) ?_⟩
    show mI (sI μ 0 18 (nI k)) 0 18 = nI (nn (nI k))
    rw [mI_sI, if_pos ⟨rfl, rfl⟩, nn_nI hk]
  · have hneg : x < 0 := Int32.not_le.mp hc1
    rw [if_pos hneg, decide_eq_true hneg] at hq
    refine C.aload_n dX12_seed_4 0 rfl ?_
    refine C.iconst (nI 5) dX12_seed_5 (by decide) ?_
    refine C.callVI lX12_126 dX12_seed_6 (kx_denies hC (j := 5) (by decide)) hS.o0 rfl rfl (Nat.le_of_ble_eq_true rfl) (Nat.zero_le _) (Nat.zero_le _) (Nat.le_of_ble_eq_true rfl) (fun x6 μ6 h6 => ?_)
    obtain ⟨rfl, hPX⟩ := h6
    refine C.zret hq dX12_seed_9 (by decide) ?_
    exact ⟨rfl, hPX⟩
/-- the state kept, and another one in its place -/
theorem ClsRel.act {μ' : Mm} {S : St} {ps : List St} (hC : ClsRel μ h) (e2 : μ'.2 = μ.2) (hI : ∀ a k, ¬ (40 ≤ a ∧ a ≤ 45) → ¬ (52 ≤ a ∧ a ≤ 173) → mI μ' a k = mI μ a k) (hN : CsN μ' 40 S) (hP : CsP μ' ps) : PX μ (tpH h, flH h, rfH h, ldH h, S, ps, rwH h, ocH h, sdH h) μ' :=
  hC.up (h' := (tpH h, flH h, rfH h, ldH h, S, ps, rwH h, ocH h, sdH h)) ⟨e2, fun k => hI _ _ (by omega) (by omega), fun a k q => hI a k (by unfold InL at q; omega) (by unfold InL at q; omega)⟩ rfl (hC.1.2.1.of (hI _ _ (by omega) (by omega)) (fun k => hI _ _ (by omega) (by omega))) (hC.1.2.2.1.of (hI _ _ (by omega) (by omega)) (hI _ _ (by omega) (by omega))) (hC.1.2.2.2.of (fun k => hI _ _ (by omega) (by omega))) hN hP (hC.2.2.1.1.of (hI _ _ (by omega) (by omega)) (fun k => hI _ _ (by omega) (by omega))) (hC.2.2.1.2.1.of (hI _ _ (by omega) (by omega)) (fun k => hI _ _ (by omega) (by omega))) (hC.2.2.1.2.2.of (hI _ _ (by omega) (by omega)))
theorem kx_undo (hC : ClsRel μ h) (hH : HOk h) : AMet l G 3 0 0 mtX12_undo [.ref (G.1 + 0)] μ (qI (fun x μ' => x = undoA h ∧ PX μ (undoH h) μ')) := by
  refine AMet.of (by decide) (Nat.le_of_ble_eq_true rfl) (fun X C hX hnm hq => ?_)
  have hS := hC.1.1.1
  have hP := hC.2.1.2
  unfold undoA undoH at hq
  cases hps : psH h with
  | nil =>
    rw [hps] at hq hP
    have hp0 : mI μ 52 2 = nI 0 := hP.1
    refine C.aload_n dX12_undo_0 0 rfl ?_
    refine C.getO fX12_90 dX12_undo_1 hS.o0 hS.r0_9 ?_
    refine C.getI fX12_141 dX12_undo_4 hS.o52 ?_
    rw [hp0]
    refine C.if_ne 16 dX12_undo_7 rfl (fun hc7 => ?_) (fun hc7 => ?_)
    · exact absurd rfl hc7
    · refine C.aload_n dX12_undo_10 0 rfl ?_
      refine C.iconst (nI 4) dX12_undo_11 (by decide) ?_
      refine C.callVI lX12_126 dX12_undo_12 (kx_denies hC (j := 4) (by decide)) hS.o0 rfl rfl (Nat.le_of_ble_eq_true rfl) (Nat.zero_le _) (Nat.zero_le _) (Nat.le_of_ble_eq_true rfl) (fun x12 μ12 h12 => ?_)
      obtain ⟨rfl, hPX⟩ := h12
      refine C.zret hq dX12_undo_15 (by decide) ?_
      refine ⟨rfl, ?_⟩
      unfold rfsH at hPX
      rw [hps] at hPX
      exact hPX
  | cons S ps =>
    rw [hps] at hq hP
    have hp0 : mI μ 52 2 = nI (ps.length + 1) := hP.1
    have hpl := hP.2.1
    simp only [List.length_cons] at hpl
    refine C.aload_n dX12_undo_0 0 rfl ?_
    refine C.getO fX12_90 dX12_undo_1 hS.o0 hS.r0_9 ?_
    refine C.getI fX12_141 dX12_undo_4 hS.o52 ?_
    rw [hp0]
    refine C.if_ne 16 dX12_undo_7 rfl (fun hc7 => ?_) (fun hc7 => ?_)
    · refine C.aload_n dX12_undo_16 0 rfl ?_
      refine C.getO fX12_90 dX12_undo_17 hS.o0 hS.r0_9 ?_
      refine C.aload_n dX12_undo_20 0 rfl ?_
      refine C.getO fX12_80 dX12_undo_21 hS.o0 hS.r0_7 ?_
      refine C.callVV lX12_366 dX12_undo_24 (kp_give hS hP) hS.o52 rfl rfl (Nat.le_of_ble_eq_true rfl) (Nat.zero_le _) (Nat.zero_le _) (Nat.le_of_ble_eq_true rfl) (fun μ24 h24 => ?_)
      obtain ⟨g1, g2, g3, g4⟩ := h24
      refine C.iconst (nI 1) dX12_undo_27 (by decide) ?_
      refine C.zret hq dX12_undo_28 (by decide) ?_
      exact ⟨rfl, hC.act g3 (fun a k q1 q2 => g4 a k (by omega) (by omega)) g1 g2⟩
    · exact absurd hc7 (nI_ne0 (by omega) (by omega))
theorem kx_ring (hC : ClsRel μ h) (hH : HOk h) (x y : Int32) : AMet l G 3 0 0 mtX12_ring [.ref (G.1 + 0), .int x, .int y] μ (qI (fun z μ' => z = ringA h x y ∧ PX μ (ringH h x y) μ')) := by
  refine AMet.of (by decide) (Nat.le_of_ble_eq_true rfl) (fun X C hX hnm hq => ?_)
  have hS := hC.1.1.1
  obtain ⟨L, c, hL⟩ := hC.2.2.2
  have hg := hL.1
  have hR := hL.2.1
  have hd7 := hH.d7
  have hN := hC.2.1.1
  have hr5 := two5 hH.1.2.1.2.1 hd7.2.2.2.2.1
  unfold ringA ringH at hq
  have no : ringO h x y = none → AW l G X 0 0 39 [(0, .ref (G.1 + 0)), (1, .int x), (2, .int y)] [] μ := by
    intro hn
    rw [hn] at hq
    refine C.iconst (nI 0) dX12_ring_39 (by decide) ?_
    refine C.istore_n (lv' := [(0, _), (1, _), (2, _), (3, _)]) dX12_ring_40 (nLt hX rfl) rfl ?_
    refine C.iload_n dX12_ring_41 3 rfl ?_
    refine C.if_ne 51 dX12_ring_42 rfl (fun hc42 => ?_) (fun hc42 => ?_)
    · exact absurd rfl hc42
    · refine C.aload_n dX12_ring_45 0 rfl ?_
      refine C.iconst (nI 2) dX12_ring_46 (by decide) ?_
      refine C.callVI lX12_126 dX12_ring_47 (kx_denies hC (j := 2) (by decide)) hS.o0 rfl rfl (Nat.le_of_ble_eq_true rfl) (Nat.zero_le _) (Nat.zero_le _) (Nat.le_of_ble_eq_true rfl) (fun x47 μ47 h47 => ?_)
      obtain ⟨rfl, hPX⟩ := h47
      refine C.zret hq dX12_ring_50 (by decide) ?_
      exact ⟨rfl, hPX⟩
  have yes : ∀ b o, b < (ldH h).2.2.1.length → o < 2 → x = nI b → y = nI o → inN x (ldH h).2.2.1.length = some b → inN y 2 = some o → AW l G X 0 0 20 [(0, .ref (G.1 + 0)), (1, .int x), (2, .int y)] [] μ := by
    intro b o hb ho ex ey hin hin2
    subst ex
    subst ey
    obtain ⟨x1, x2⟩ := xor1 hr5 (show b < 5 by omega)
    refine C.aload_n dX12_ring_20 0 rfl ?_
    refine C.getO fX12_80 dX12_ring_21 hS.o0 hS.r0_7 ?_
    refine C.getI fX12_178 dX12_ring_24 hS.o40 ?_
    rw [hN.1.2]
    refine C.iload_n dX12_ring_27 1 rfl ?_
    refine C.ishr dX12_ring_28 ?_
    refine C.iconst (nI 1) dX12_ring_29 (by decide) ?_
    refine C.iand dX12_ring_30 ?_
    rw [shr1 (by omega) (by omega)]
    refine C.iload_n dX12_ring_31 2 rfl ?_
    refine C.icmp_eq 39 dX12_ring_32 rfl (fun hc32 => ?_) (fun hc32 => ?_)
    · have hz : (stH h).1.2 / 2 ^ b % 2 = o := n_eq hc32 (by omega) (by omega)
      exact no (by unfold ringO; rw [hin, hin2]; exact if_pos hz)
    · have hz : ¬ (stH h).1.2 / 2 ^ b % 2 = o := n_ne hc32
      have hO : ringO h (nI b) (nI o) = some b := by unfold ringO; rw [hin, hin2]; exact if_neg hz
      rw [hO] at hq
      dsimp only at hq
      refine C.iconst (nI 1) dX12_ring_35 (by decide) ?_
      refine C.goto 40 dX12_ring_36 rfl ?_
      refine C.istore_n (lv' := [(0, _), (1, _), (2, _), (3, _)]) dX12_ring_40 (nLt hX rfl) rfl ?_
      refine C.iload_n dX12_ring_41 3 rfl ?_
      refine C.if_ne 51 dX12_ring_42 rfl (fun hc42 => ?_) (fun hc42 => ?_)
      · refine C.aload_n dX12_ring_51 0 rfl ?_
        refine C.getO fX12_90 dX12_ring_52 hS.o0 hS.r0_9 ?_
        refine C.aload_n dX12_ring_55 0 rfl ?_
        refine C.getO fX12_80 dX12_ring_56 hS.o0 hS.r0_7 ?_
        refine C.callVV lX12_354 dX12_ring_59 (kp_keep hS hN hC.2.1.2) hS.o52 rfl rfl (Nat.le_of_ble_eq_true rfl) (Nat.zero_le _) (Nat.zero_le _) (Nat.le_of_ble_eq_true rfl) (fun μ59 h59 => ?_)
        obtain ⟨g1, g2⟩ := h59
        have hS : ShC μ59 := hS.of (by rw [g2.1])
        have hN2 : CsN μ59 40 (stH h) := hN.of (fun a k q1 q2 => g2.2 a k (by omega) (by omega))
        refine C.aload_n dX12_ring_62 0 rfl ?_
        refine C.getO fX12_80 dX12_ring_63 hS.o0 hS.r0_7 ?_
        refine C.dup dX12_ring_66 rfl ?_
        refine C.getI fX12_178 dX12_ring_67 hS.o40 ?_
        rw [hN2.1.2]
        refine C.iconst (nI 1) dX12_ring_70 (by decide) ?_
        refine C.iload_n dX12_ring_71 1 rfl ?_
        refine C.ishl dX12_ring_72 ?_
        refine C.ixor dX12_ring_73 ?_
        rw [x1]
        refine C.putI fX12_178 (Or.inl rfl) dX12_ring_74 hS.o40 ?_
        refine C.iconst (nI 1) dX12_ring_77 (by decide) ?_
        refine C.zret hq dX12_ring_78 (by decide) ?_
        refine ⟨rfl, hC.act (S := (((stH h).1.1, (stH h).1.2 ^^^ 2 ^ b), (stH h).2)) (ps := pushP (stH h) (psH h)) g2.1 (fun a k q1 q2 => by rw [mI_sI, if_neg (by omega)]; exact g2.2 a k (by omega) (by omega)) ?_ (g1.of (fun a k q1 q2 => by rw [mI_sI, if_neg (by omega)]))⟩
        obtain ⟨⟨n1, n2⟩, n3, n4, f, n5, n6, n7, n8, n9⟩ := hN2
        refine ⟨⟨by rw [mI_sI, if_neg (by omega)]; exact n1, by rw [mI_sI, if_pos ⟨rfl, rfl⟩]⟩, fun i x q => ?_, fun i q q2 => ?_, f, n5, by rw [mI_sI, if_neg (by omega)]; exact n6, by rw [mI_sI, if_neg (by omega)]; exact n7, n8, fun i x q => by rw [mI_sI, if_neg (by omega)]; exact n9 i x q⟩
        · rw [mI_sI, if_neg (by omega), mI_sI, if_neg (by omega), mI_sI, if_neg (by omega), mI_sI, if_neg (by omega)]; exact n3 i x q
        · rw [mI_sI, if_neg (by omega), mI_sI, if_neg (by omega)]; exact n4 i q q2
      · exact absurd hc42 (by decide)
  refine C.aload_n dX12_ring_0 0 rfl ?_
  refine C.getO fX12_54 dX12_ring_1 hS.o0 hg ?_
  refine C.iload_n dX12_ring_4 1 rfl ?_
  refine C.callVI lX12_195 dX12_ring_5 (kl_isBell hR.o hR.2.1.2.1.1 (by omega) x) hR.o rfl rfl (Nat.le_of_ble_eq_true rfl) (Nat.zero_le _) (Nat.zero_le _) (Nat.le_of_ble_eq_true rfl) (fun x5 μ5 h5 => ?_)
  obtain ⟨rfl, hμ⟩ := h5
  subst hμ
  refine C.if_eq 39 dX12_ring_8 rfl (fun hc8 => ?_) (fun hc8 => ?_)
  · exact no (by unfold ringO; rw [isS_f hc8])
  · obtain ⟨b, hz⟩ := isS_t hc8
    obtain ⟨hb, eb⟩ := inN_some (by omega) hz
    refine C.iload_n dX12_ring_11 2 rfl ?_
    refine C.if_eq 20 dX12_ring_12 rfl (fun hc12 => ?_) (fun hc12 => ?_)
    · have ey : y = nI 0 := hc12
      exact yes b 0 hb (by decide) eb ey hz (by rw [ey]; rfl)
    · refine C.iload_n dX12_ring_15 2 rfl ?_
      refine C.iconst (nI 1) dX12_ring_16 (by decide) ?_
      refine C.icmp_ne 39 dX12_ring_17 rfl (fun hc17 => ?_) (fun hc17 => ?_)
      · have e2 : inN y 2 = none := by
          cases hin : inN y 2 with
          | none => rfl
          | some o =>
            obtain ⟨ho, eo⟩ := inN_some (by decide) hin
            rcases (show o = 0 ∨ o = 1 by omega) with rfl | rfl
            · exact absurd eo hc12
            · exact absurd eo hc17
        exact no (by unfold ringO; rw [hz, e2])
      · exact yes b 1 hb (by decide) eb hc17 hz (by rw [hc17]; rfl)
theorem kx_does (hC : ClsRel μ h) (hH : HOk h) (x y : Int32) : AMet l G 3 0 0 mtX12_does [.ref (G.1 + 0), .int x, .int y] μ (qI (fun z μ' => z = doesA h x y ∧ PX μ (doesH h x y) μ')) := by
  refine AMet.of (by decide) (Nat.le_of_ble_eq_true rfl) (fun X C hX hnm hq => ?_)
  have hS := hC.1.1.1
  obtain ⟨L, c, hL⟩ := hC.2.2.2
  have hg := hL.1
  have hR := hL.2.1
  have hd7 := hH.d7
  have hN := hC.2.1.1
  unfold doesA doesH at hq
  have no : doesO h x y = none → AW l G X 0 0 37 [(0, .ref (G.1 + 0)), (1, .int x), (2, .int y)] [] μ := by
    intro hn
    rw [hn] at hq
    refine C.iconst (nI 0) dX12_does_37 (by decide) ?_
    refine C.istore_n (lv' := [(0, _), (1, _), (2, _), (3, _)]) dX12_does_38 (nLt hX rfl) rfl ?_
    refine C.iload_n dX12_does_39 3 rfl ?_
    refine C.if_ne 49 dX12_does_40 rfl (fun hc40 => ?_) (fun hc40 => ?_)
    · exact absurd rfl hc40
    · refine C.aload_n dX12_does_43 0 rfl ?_
      refine C.iconst (nI 2) dX12_does_44 (by decide) ?_
      refine C.callVI lX12_126 dX12_does_45 (kx_denies hC (j := 2) (by decide)) hS.o0 rfl rfl (Nat.le_of_ble_eq_true rfl) (Nat.zero_le _) (Nat.zero_le _) (Nat.le_of_ble_eq_true rfl) (fun x45 μ45 h45 => ?_)
      obtain ⟨rfl, hPX⟩ := h45
      refine C.zret hq dX12_does_48 (by decide) ?_
      exact ⟨rfl, hPX⟩
  refine C.aload_n dX12_does_0 0 rfl ?_
  refine C.getO fX12_54 dX12_does_1 hS.o0 hg ?_
  refine C.iload_n dX12_does_4 1 rfl ?_
  refine C.callVI lX12_198 dX12_does_5 (kl_isWalker hR.o hR.2.1.2.1.2 (by omega) x) hR.o rfl rfl (Nat.le_of_ble_eq_true rfl) (Nat.zero_le _) (Nat.zero_le _) (Nat.le_of_ble_eq_true rfl) (fun x5 μ5 h5 => ?_)
  obtain ⟨rfl, hμ⟩ := h5
  subst hμ
  refine C.if_eq 37 dX12_does_8 rfl (fun hc8 => ?_) (fun hc8 => ?_)
  · exact no (by unfold doesO; rw [isS_f hc8])
  · obtain ⟨w, hz⟩ := isS_t hc8
    obtain ⟨hw, ew⟩ := inN_some (by omega) hz
    refine C.iload_n dX12_does_11 2 rfl ?_
    refine C.if_lt 37 dX12_does_12 rfl (fun hc12 => ?_) (fun hc12 => ?_)
    · exact no (by unfold doesO; rw [hz, inN_f (n := 4) (Or.inl hc12)])
    · refine C.iload_n dX12_does_15 2 rfl ?_
      refine C.iconst (nI 3) dX12_does_16 (by decide) ?_
      refine C.icmp_gt 37 dX12_does_17 rfl (fun hc17 => ?_) (fun hc17 => ?_)
      · exact no (by unfold doesO; rw [hz, inN_f (n := 4) (Or.inr (by have h2 := hc17; rw [i_lt, nI_tI (by decide)] at h2; rw [i_le, nI_tI (by decide)]; omega))])
      · obtain ⟨m, hm, em, e6⟩ := inN_t (x := y) (n := 4) (by decide) hc12 (fun z => hc17 (by rw [i_le, nI_tI (by decide)] at z; rw [i_lt, nI_tI (by decide)]; omega))
        subst ew
        subst em
        have hwl : w < (stH h).2.1.length := by rw [hH.1.2.1.2.2.1]; exact hw
        obtain ⟨hw6, n1, n2, n3, n4⟩ := hN.wk hwl
        have z1 := (hH.1.2.1.wk hw).1
        refine C.aload_n dX12_does_20 0 rfl ?_
        refine C.getO fX12_80 dX12_does_21 hS.o0 hS.r0_7 ?_
        refine C.getA fX12_256 dX12_does_24 hS.o40 hS.r40_0 ?_
        refine C.iload_n dX12_does_27 1 rfl ?_
        refine C.iald hS.a41 (n_in hw6) dX12_does_28 ?_
        rw [n_cl, n1]
        refine C.iload_n dX12_does_29 2 rfl ?_
        refine C.icmp_eq 37 dX12_does_30 rfl (fun hc30 => ?_) (fun hc30 => ?_)
        · have he := n_eq hc30 (by omega) (by omega)
          exact no (by unfold doesO; rw [hz, e6]; exact if_pos he)
        · have hne : ¬ (wkS (stH h) w).1 = m := n_ne hc30
          have hO : doesO h (nI w) (nI m) = some (w, m) := by unfold doesO; rw [hz, e6]; exact if_neg hne
          rw [hO] at hq
          dsimp only at hq
          refine C.iconst (nI 1) dX12_does_33 (by decide) ?_
          refine C.goto 38 dX12_does_34 rfl ?_
          refine C.istore_n (lv' := [(0, _), (1, _), (2, _), (3, _)]) dX12_does_38 (nLt hX rfl) rfl ?_
          refine C.iload_n dX12_does_39 3 rfl ?_
          refine C.if_ne 49 dX12_does_40 rfl (fun hc40 => ?_) (fun hc40 => ?_)
          · refine C.aload_n dX12_does_49 0 rfl ?_
            refine C.getO fX12_90 dX12_does_50 hS.o0 hS.r0_9 ?_
            refine C.aload_n dX12_does_53 0 rfl ?_
            refine C.getO fX12_80 dX12_does_54 hS.o0 hS.r0_7 ?_
            refine C.callVV lX12_354 dX12_does_57 (kp_keep hS hN hC.2.1.2) hS.o52 rfl rfl (Nat.le_of_ble_eq_true rfl) (Nat.zero_le _) (Nat.zero_le _) (Nat.le_of_ble_eq_true rfl) (fun μ57 h57 => ?_)
            obtain ⟨g1, g2⟩ := h57
            have hS : ShC μ57 := hS.of (by rw [g2.1])
            have hN2 : CsN μ57 40 (stH h) := hN.of (fun a k q1 q2 => g2.2 a k (by omega) (by omega))
            obtain ⟨-, m1, m2, m3, m4⟩ := hN2.wk hwl
            refine C.aload_n dX12_does_60 0 rfl ?_
            refine C.getO fX12_80 dX12_does_61 hS.o0 hS.r0_7 ?_
            refine C.getA fX12_256 dX12_does_64 hS.o40 hS.r40_0 ?_
            refine C.iload_n dX12_does_67 1 rfl ?_
            refine C.iload_n dX12_does_68 2 rfl ?_
            refine C.iast hS.a41 (n_in hw6) dX12_does_69 ?_
            rw [n_cl]
            refine C.iconst (nI 1) dX12_does_70 (by decide) ?_
            refine C.zret hq dX12_does_71 (by decide) ?_
            exact ⟨rfl, hC.act (S := putW (stH h) w (setW (wkS (stH h) w) 0 m)) (ps := pushP (stH h) (psH h)) g2.1 (fun a k q1 q2 => by rw [mI_sI, if_neg (by omega)]; exact g2.2 a k (by omega) (by omega)) (hN2.put hwl (fun a k q1 q2 q3 => by rw [mI_sI, if_neg (by omega)]) (by rw [mI_sI, if_pos ⟨rfl, rfl⟩]; rfl) (by rw [mI_sI, if_neg (by omega)]; exact m2) (by rw [mI_sI, if_neg (by omega)]; exact m3) (by rw [mI_sI, if_neg (by omega)]; exact m4)) (g1.of (fun a k q1 q2 => by rw [mI_sI, if_neg (by omega)]))⟩
          · exact absurd hc40 (by decide)
end KX8
