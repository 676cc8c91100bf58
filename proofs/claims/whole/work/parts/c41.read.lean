/-! the class: a sum or a test, read whole -/
section KRS
variable {l : Launch} {G : Gm} {μ : Mm} {tp : List Nat} {s : Ps} {m : Nat}
def RdP (μ : Mm) (tp : List Nat) (m : Nat) (t : Pt) (r : Nat) (μ' : Mm) : Prop := ∃ μ1 μ2, (μ1.2 = μ.2 ∧ ∀ a k, ¬ (a = 5 ∧ 2 ≤ k) → mI μ1 a k = mI μ a k) ∧ CP μ1 tp m t μ2 ∧ r = mN μ2 + 1 ∧ μ' = wrM μ2 t.1.1.length t.1.2

theorem kf_readSum (hB : CsB μ) (hT : CsT μ tp) (hR : RD μ (txL tp) tp.length s) (hP : PsOk tp.length s) (hm : m < 1024) {t' : Pt} (ht : cSums (txL tp) tp.length (cPt (txL tp) tp.length m 6) (([], false), s) = t') : AMet l G 34 2 (t'.1.1.length + 2) mtX6_readSum [.ref (G.1 + 5), .int (nI m)] μ (qR G.1 (fun r μ' => RdP μ tp m t' r μ')) := by
  refine AMet.of (by decide) (Nat.le_of_ble_eq_true rfl) (fun X C hX hnm hq => ?_)
  have hS := hB.1
  refine C.aload_n dX6_readSum_0 0 rfl ?_
  refine C.iload_n dX6_readSum_1 1 rfl ?_
  refine C.callVV lX6_19 dX6_readSum_2 (kf_start hS m) hS.o5 rfl rfl (Nat.le_of_ble_eq_true rfl) (Nat.zero_le _) (Nat.zero_le _) (Nat.le_of_ble_eq_true rfl) (fun μ2 h2 => ?_)
  obtain ⟨q1, q2, q3⟩ := h2
  have hS : ShC μ2 := hS.of (by rw [q2])
  have hc : CP μ2 tp m (([], false), s) μ2 := ⟨⟨hS, fun i z => (q3 _ _ (by omega)).trans (hB.2.1 i z), by unfold mN; rw [q2]; exact hB.2.2⟩, hT.of (q3 _ _ (by omega)) (fun k => q3 _ _ (by omega)), hR.ph (fun k => q3 _ _ (by omega)), hP, q1, PhF.refl _⟩
  refine C.aload_n dX6_readSum_5 0 rfl ?_
  refine C.iconst (nI 0) dX6_readSum_6 (by decide) ?_
  refine C.callVV lX6_23 dX6_readSum_7 (kf_sumN hm (n := 6) (Nat.le_refl 6) _ _ hc) hS.o5 rfl rfl (Nat.le_of_ble_eq_true rfl) (Nat.zero_le _) (Nat.zero_le _) (Nat.le_of_ble_eq_true rfl) (fun μ7 h7 => ?_)
  rw [ht] at h7
  have hS := h7.1.1
  refine C.aload_n dX6_readSum_10 0 rfl ?_
  refine C.callVR lX6_26 dX6_readSum_11 (kf_written hS h7.1.2.2 h7.2.2.2.2.1) hS.o5 rfl rfl (Nat.le_of_ble_eq_true rfl) (by omega) (by omega) (Nat.le_of_ble_eq_true rfl) (fun x11 μ11 h11 => ?_)
  refine C.aret hq dX6_readSum_14 ?_
  exact ⟨μ2, μ7, ⟨q2, q3⟩, h7, h11.1, h11.2⟩
theorem kf_readTest (hB : CsB μ) (hT : CsT μ tp) (hR : RD μ (txL tp) tp.length s) (hP : PsOk tp.length s) (hm : m < 1024) {t' : Pt} (ht : cTests (txL tp) tp.length (cFc (txL tp) tp.length m 6) (([], false), s) = t') : AMet l G 38 2 (t'.1.1.length + 2) mtX6_readTest [.ref (G.1 + 5), .int (nI m)] μ (qR G.1 (fun r μ' => RdP μ tp m t' r μ')) := by
  refine AMet.of (by decide) (Nat.le_of_ble_eq_true rfl) (fun X C hX hnm hq => ?_)
  have hS := hB.1
  refine C.aload_n dX6_readTest_0 0 rfl ?_
  refine C.iload_n dX6_readTest_1 1 rfl ?_
  refine C.callVV lX6_19 dX6_readTest_2 (kf_start hS m) hS.o5 rfl rfl (Nat.le_of_ble_eq_true rfl) (Nat.zero_le _) (Nat.zero_le _) (Nat.le_of_ble_eq_true rfl) (fun μ2 h2 => ?_)
  obtain ⟨q1, q2, q3⟩ := h2
  have hS : ShC μ2 := hS.of (by rw [q2])
  have hc : CP μ2 tp m (([], false), s) μ2 := ⟨⟨hS, fun i z => (q3 _ _ (by omega)).trans (hB.2.1 i z), by unfold mN; rw [q2]; exact hB.2.2⟩, hT.of (q3 _ _ (by omega)) (fun k => q3 _ _ (by omega)), hR.ph (fun k => q3 _ _ (by omega)), hP, q1, PhF.refl _⟩
  refine C.aload_n dX6_readTest_5 0 rfl ?_
  refine C.iconst (nI 0) dX6_readTest_6 (by decide) ?_
  refine C.callVV lX6_30 dX6_readTest_7 (kf_testN hm (n := 6) (Nat.le_refl 6) _ _ hc) hS.o5 rfl rfl (Nat.le_of_ble_eq_true rfl) (Nat.zero_le _) (Nat.zero_le _) (Nat.le_of_ble_eq_true rfl) (fun μ7 h7 => ?_)
  rw [ht] at h7
  have hS := h7.1.1
  refine C.aload_n dX6_readTest_10 0 rfl ?_
  refine C.callVR lX6_26 dX6_readTest_11 (kf_written hS h7.1.2.2 h7.2.2.2.2.1) hS.o5 rfl rfl (Nat.le_of_ble_eq_true rfl) (by omega) (by omega) (Nat.le_of_ble_eq_true rfl) (fun x11 μ11 h11 => ?_)
  refine C.aret hq dX6_readTest_14 ?_
  exact ⟨μ2, μ7, ⟨q2, q3⟩, h7, h11.1, h11.2⟩
end KRS
