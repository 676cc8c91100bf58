/-! the class: the tape -/
theorem byS_and {x : Nat} (h : x < 256) : byS x &&& nI 255 = nI x := sc_k8 x h
theorem byS_i8 (w : Int32) : w.toInt8.toInt32 = byS (nn (w &&& nI 255)) := by
  obtain ⟨q, h1, h2⟩ := and255 w
  rw [h2]
  show _ = (nI (nI q).toNatClampNeg).toInt8.toInt32
  rw [n_cl (by omega), ← h2]
  congr 1
  apply Int8.toBitVec_inj.mp
  rw [Int32.toBitVec_toInt8, Int32.toBitVec_toInt8, Int32.toBitVec_and]
  apply BitVec.eq_of_getLsbD_eq
  intro i hi
  rw [BitVec.getLsbD_signExtend, BitVec.getLsbD_signExtend, if_pos (by omega), if_pos (by omega), BitVec.getLsbD_and]
  have := b_255 i
  unfold bt at this
  rw [show (nI 255).toBitVec.getLsbD i = decide (i < 8) from this, decide_eq_true hi]
  simp
section KTP
variable {l : Launch} {G : Gm} {μ : Mm} {h : Hs} {tp : List Nat}
def TpF (μ μ' : Mm) : Prop := μ'.2 = μ.2 ∧ ∀ a k, a ≠ 2 → ¬ (a = 1 ∧ k = 1) → mI μ' a k = mI μ a k

theorem kt_at (hS : ShC μ) (hT : CsT μ tp) (x : Int32) : AMet l G 0 0 0 mtX11_at [.ref (G.1 + 1), .int x] μ (qI (fun y μ' => y = (match inN x tp.length with | some k => nI (txL tp k) | none => -1) ∧ μ' = μ)) := by
  refine AMet.of (by decide) (Nat.le_of_ble_eq_true rfl) (fun X C hX hnm hq => ?_)
  obtain ⟨t1, t2, t3⟩ := hT
  refine C.iload_n dX11_at_0 1 rfl ?_
  refine C.if_lt 25 dX11_at_1 rfl (fun hc1 => ?_) (fun hc1 => ?_)
  · rw [inN_f (Or.inl hc1)] at hq
    refine C.iconst (-1) dX11_at_25 (by decide) ?_
    refine C.iret hq dX11_at_26 ?_
    exact ⟨rfl, rfl⟩
  · refine C.iload_n dX11_at_4 1 rfl ?_
    refine C.aload_n dX11_at_5 0 rfl ?_
    refine C.getI fX11_15 dX11_at_6 hS.o1 ?_
    rw [t1]
    refine C.icmp_ge 25 dX11_at_9 rfl (fun hc9 => ?_) (fun hc9 => ?_)
    · rw [inN_f (Or.inr hc9)] at hq
      refine C.iconst (-1) dX11_at_25 (by decide) ?_
      refine C.iret hq dX11_at_26 ?_
      exact ⟨rfl, rfl⟩
    · obtain ⟨j, hj, ej, e9⟩ := inN_t (n := tp.length) (by omega) hc1 hc9
      rw [e9] at hq
      subst ej
      obtain ⟨v1, v2⟩ := t3 j _ (txL_q hj)
      refine C.aload_n dX11_at_12 0 rfl ?_
      refine C.getA fX11_9 dX11_at_13 hS.o1 hS.r1_0 ?_
      refine C.iload_n dX11_at_16 1 rfl ?_
      refine C.bald hS.a2 (n_in (by omega)) dX11_at_17 ?_
      rw [n_cl, v1]
      refine C.sipush (nI 255) dX11_at_18 (by decide) ?_
      refine C.iand dX11_at_21 ?_
      rw [byS_and v2]
      refine C.goto 26 dX11_at_22 rfl ?_
      refine C.iret hq dX11_at_26 ?_
      exact ⟨rfl, rfl⟩
theorem kt_atN (hS : ShC μ) (hT : CsT μ tp) {k : Nat} (hk : k < tp.length) : AMet l G 0 0 0 mtX11_at [.ref (G.1 + 1), .int (nI k)] μ (qI (fun y μ' => y = nI (txL tp k) ∧ μ' = μ)) := by
  have h1600 := hT.2.1
  have h := kt_at (l := l) (G := G) hS hT (nI k)
  rw [inN_n (by omega) (by omega), if_pos hk] at h
  exact h
theorem kt_pair (hS : ShC μ) (hT : CsT μ tp) {k : Nat} (hk : k + 1 < tp.length) : AMet l G 1 0 0 mtX11_pairAt [.ref (G.1 + 1), .int (nI k)] μ (qI (fun y μ' => y = nI (two (txL tp) k) ∧ μ' = μ)) := by
  refine AMet.of (by decide) (Nat.le_of_ble_eq_true rfl) (fun X C hX hnm hq => ?_)
  refine C.aload_n dX11_pairAt_0 0 rfl ?_
  refine C.iload_n dX11_pairAt_1 1 rfl ?_
  refine C.callVI lX11_19 dX11_pairAt_2 (kt_atN hS hT (by omega)) hS.o1 rfl rfl (Nat.le_of_ble_eq_true rfl) (Nat.zero_le _) (Nat.zero_le _) (Nat.le_of_ble_eq_true rfl) (fun x2 μ2 h2 => ?_)
  obtain ⟨rfl, hμ⟩ := h2
  subst hμ
  refine C.sipush (nI 256) dX11_pairAt_5 (by decide) ?_
  refine C.imul dX11_pairAt_8 ?_
  rw [pk_mul]
  refine C.aload_n dX11_pairAt_9 0 rfl ?_
  refine C.iload_n dX11_pairAt_10 1 rfl ?_
  refine C.iconst (nI 1) dX11_pairAt_11 (by decide) ?_
  refine C.iadd dX11_pairAt_12 ?_
  rw [nI_add]
  refine C.callVI lX11_19 dX11_pairAt_13 (kt_atN hS hT hk) hS.o1 rfl rfl (Nat.le_of_ble_eq_true rfl) (Nat.zero_le _) (Nat.zero_le _) (Nat.le_of_ble_eq_true rfl) (fun x13 μ13 h13 => ?_)
  obtain ⟨rfl, hμ⟩ := h13
  subst hμ
  refine C.iadd dX11_pairAt_16 ?_
  refine C.iret hq dX11_pairAt_17 ?_
  exact ⟨by rw [nI_add]; unfold two; rw [Nat.mul_comm 256], rfl⟩
theorem kt_add (hS : ShC μ) (hT : CsT μ tp) (hl : tp.length + 4 ≤ 1600) (w : Int32) : AMet l G 0 0 0 mtX11_add [.ref (G.1 + 1), .int w] μ (qV (fun μ' => CsT μ' (tp ++ [byN w 0, byN w 1, byN w 2, byN w 3]) ∧ TpF μ μ')) := by
  refine AMet.of (by decide) (Nat.le_of_ble_eq_true rfl) (fun X C hX hnm hq => ?_)
  have hS0 := hS
  have loop : ∀ (n j : Nat) (s : Int32) (μ1 : Mm), j + n = 4 → s = (if j = 4 then -8 else nI (8 * (3 - j))) → CsT μ1 (tp ++ (List.range j).map (byN w)) → TpF μ μ1 → AW l G X 0 0 3 [(0, .ref (G.1 + 1)), (1, .int w), (2, .int s)] [] μ1 := by
    intro n
    induction n with
    | zero =>
      intro j s μ1 hj hs hT1 hF
      have : j = 4 := by omega
      subst this
      subst hs
      refine C.iload_n dX11_add_3 2 rfl ?_
      refine C.if_lt 46 dX11_add_4 rfl (fun hc4 => ?_) (fun hc4 => ?_)
      · refine C.vret hq dX11_add_46 ?_
        exact ⟨hT1, hF⟩
      · exact absurd (by decide) hc4
    | succ n ih =>
      intro j s μ1 hj hs hT1 hF
      rw [if_neg (by omega)] at hs
      subst hs
      have hS : ShC μ1 := hS0.of (by rw [hF.1])
      obtain ⟨t1, t2, t3⟩ := hT1
      have hlen : (tp ++ (List.range j).map (byN w)).length = tp.length + j := by simp
      rw [hlen] at t1 t2
      obtain ⟨b1, b2⟩ := byN_i w j
      have e1 : ∀ v, mI (sI μ1 2 (tp.length + j) v) 1 1 = nI (tp.length + j) := fun v => by rw [mI_sI, if_neg (by omega)]; exact t1
      have hst : nI (8 * (3 - j)) + Int32.ofInt (-8) = (if j + 1 = 4 then -8 else nI (8 * (3 - (j + 1)))) := by
        rcases (show j = 0 ∨ j = 1 ∨ j = 2 ∨ j = 3 by omega) with rfl | rfl | rfl | rfl <;> decide
      refine C.iload_n dX11_add_3 2 rfl ?_
      refine C.if_lt 46 dX11_add_4 rfl (fun hc4 => ?_) (fun hc4 => ?_)
      · exact absurd hc4 (nI_pos (by omega))
      · refine C.aload_n dX11_add_7 0 rfl ?_
        refine C.getI fX11_15 dX11_add_8 hS.o1 ?_
        refine C.sipush (nI 1600) dX11_add_11 (by decide) ?_
        rw [t1]
        refine C.icmp_ge 46 dX11_add_14 rfl (fun hc14 => ?_) (fun hc14 => ?_)
        · exact absurd (n_le hc14) (by omega)
        · refine C.aload_n dX11_add_17 0 rfl ?_
          refine C.getA fX11_9 dX11_add_18 hS.o1 hS.r1_0 ?_
          refine C.aload_n dX11_add_21 0 rfl ?_
          refine C.getI fX11_15 dX11_add_22 hS.o1 ?_
          rw [t1]
          refine C.iload_n dX11_add_25 1 rfl ?_
          refine C.iload_n dX11_add_26 2 rfl ?_
          refine C.ishr dX11_add_27 ?_
          refine C.i2b dX11_add_28 ?_
          refine C.bast hS.a2 (n_in (by omega)) dX11_add_29 ?_
          rw [n_cl (by omega)]
          refine C.aload_n dX11_add_30 0 rfl ?_
          refine C.dup dX11_add_31 rfl ?_
          refine C.getI fX11_15 dX11_add_32 hS.o1 ?_
          rw [e1]
          refine C.iconst (nI 1) dX11_add_35 (by decide) ?_
          refine C.iadd dX11_add_36 ?_
          rw [nI_add]
          refine C.putI fX11_15 (Or.inl rfl) dX11_add_37 hS.o1 ?_
          refine C.iinc (lv' := [(0, _), (1, _), (2, _)]) _ dX11_add_40 2 rfl rfl (nLt hX rfl) rfl ?_
          refine C.goto 3 dX11_add_43 rfl ?_
          have hgo := ih (j + 1) _ (sI (sI μ1 2 (tp.length + j) (vp_nar .byte (w >>> (nI (8 * (3 - j)) &&& 31)).toInt8.toInt32)) 1 1 (nI (tp.length + j + 1))) (by omega) hst.symm.symm ⟨?_, ?_, fun i x q => ?_⟩ ⟨hF.1, fun a k q1 q2 => ?_⟩
          · exact hgo
          · rw [mI_sI, if_pos ⟨rfl, rfl⟩]; simp; rfl
          · simp; omega
          · rw [List.range_succ, List.map_append, ← List.append_assoc] at q
            rw [mI_sI, if_neg (by omega), mI_sI]
            rcases app1 q with ⟨q1, q2⟩ | ⟨q1, q2⟩
            · rw [hlen] at q1
              rw [if_neg (by omega)]
              exact t3 i x q2
            · rw [hlen] at q1
              rw [if_pos ⟨rfl, q1⟩, q2]
              refine ⟨?_, b2⟩
              show (w >>> (nI (8 * (3 - j)) &&& 31)).toInt8.toInt32.toInt8.toInt32 = _
              rw [fb_byte_twice, byS_i8]
              rfl
          · rw [mI_sI, if_neg q2, mI_sI, if_neg (fun z => q1 z.1)]
            exact hF.2 a k q1 q2
  refine C.bipush (nI 24) dX11_add_0 (by decide) ?_
  refine C.istore_n (lv' := [(0, _), (1, _), (2, _)]) dX11_add_2 (nLt hX rfl) rfl ?_
  exact loop 4 0 (nI 24) μ rfl rfl (by rw [show (List.range 0).map (byN w) = [] from rfl, List.append_nil]; exact hT) ⟨rfl, fun _ _ _ _ => rfl⟩
end KTP
