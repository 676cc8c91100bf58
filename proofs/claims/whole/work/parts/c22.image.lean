/-! the class: image, on -/
def ImP (μ : Mm) (P : List Nat) : Prop := ∀ i x, P[i]? = some x → mI μ 177 i = nI x
def ImF (μ μ' : Mm) : Prop := μ'.2 = μ.2 ∧ ∀ a k, a ≠ 177 → mI μ' a k = mI μ a k
section PFP
variable {μ μ' : Mm} {P : List Nat}
theorem ImP.put (hP : ImP μ P) {k : Nat} (hk : k = P.length) (x : Nat) : ImP (sI μ 177 k (nI x)) (P ++ [x]) := by
  intro i y q
  rw [mI_sI]
  rcases app1 q with ⟨q1, q2⟩ | ⟨q1, q2⟩
  · rw [if_neg (by omega)]; exact hP i y q2
  · rw [if_pos ⟨rfl, by omega⟩, q2]
theorem ImF.put (hF : ImF μ μ') (k : Nat) (v : Int32) : ImF μ (sI μ' 177 k v) := ⟨hF.1, fun a j q => by rw [mI_sI, if_neg (fun z => q z.1)]; exact hF.2 a j q⟩
theorem ImF.refl (μ : Mm) : ImF μ μ := ⟨rfl, fun _ _ _ => rfl⟩
theorem ImF.trans {μ'' : Mm} (a : ImF μ μ') (b : ImF μ' μ'') : ImF μ μ'' := ⟨b.1.trans a.1, fun x k q => (b.2 x k q).trans (a.2 x k q)⟩
theorem shr8 {v : Nat} (hv : v < 2 ^ 31) : nI v >>> (nI 8 &&& 31) = nI (v / 256) := by
  rw [show nI 8 &&& 31 = nI 8 by decide, pk_shrN hv (nI 8) 8 (by decide)]
theorem and8 (v : Nat) : nI v &&& nI 255 = nI (v % 256) := fa_mask v 8
end PFP
section KXI
variable {l : Launch} {G : Gm} {μ : Mm} {h : Hs}

theorem kx_putPair {P : List Nat} (hS : ShC μ) (hP : ImP μ P) {k v : Nat} (hk : k = P.length) (hk2 : k < 39) (hv : v < 2 ^ 31) : AMet l G 0 0 0 mtX12_putPair [.ref (G.1 + 0), .int (nI k), .int (nI v)] μ (qV (fun μ' => ImP μ' (P ++ [v / 256, v % 256]) ∧ ImF μ μ')) := by
  refine AMet.of (by decide) (Nat.le_of_ble_eq_true rfl) (fun X C hX hnm hq => ?_)
  refine C.aload_n dX12_putPair_0 0 rfl ?_
  refine C.getA fX12_105 dX12_putPair_1 hS.o0 hS.r0_13 ?_
  refine C.iload_n dX12_putPair_4 1 rfl ?_
  refine C.iload_n dX12_putPair_5 2 rfl ?_
  refine C.bipush (nI 8) dX12_putPair_6 (by decide) ?_
  refine C.ishr dX12_putPair_8 ?_
  rw [shr8 hv]
  refine C.iast hS.a177 (n_in (by omega)) dX12_putPair_9 ?_
  rw [n_cl]
  refine C.aload_n dX12_putPair_10 0 rfl ?_
  refine C.getA fX12_105 dX12_putPair_11 hS.o0 hS.r0_13 ?_
  refine C.iload_n dX12_putPair_14 1 rfl ?_
  refine C.iconst (nI 1) dX12_putPair_15 (by decide) ?_
  refine C.iadd dX12_putPair_16 ?_
  refine C.iload_n dX12_putPair_17 2 rfl ?_
  refine C.sipush (nI 255) dX12_putPair_18 (by decide) ?_
  refine C.iand dX12_putPair_21 ?_
  rw [nI_add, and8]
  refine C.iast hS.a177 (n_in (by omega)) dX12_putPair_22 ?_
  rw [n_cl]
  refine C.vret hq dX12_putPair_23 ?_
  refine ⟨?_, ((ImF.refl μ).put _ _).put _ _⟩
  have := (hP.put hk (v / 256)).put (k := k + 1) (by rw [List.length_append, hk]; rfl) (v % 256)
  rw [List.append_assoc] at this
  exact this
theorem kx_image (hC : ClsRel μ h) (hH : HOk h) : AMet l G 1 0 0 mtX12_image [.ref (G.1 + 0)] μ (qI (fun x μ' => x = imageA h ∧ PX μ (imageH h) μ')) := by
  refine AMet.of (by decide) (Nat.le_of_ble_eq_true rfl) (fun X C hX hnm hq => ?_)
  have hS0 := hC.1.1.1
  have hS := hS0
  obtain ⟨L, c, hL0⟩ := hC.2.2.2
  have hN0 := hC.2.1.1
  have hd7 := hH.d7
  have sw := hH.1.2.1
  have hng := sw.1
  have hr5 := two5 sw.2.1 hd7.2.2.2.2.1
  have hwl : (stH h).2.1.length ≤ 6 := by rw [sw.2.2.1]; exact hd7.2.2.2.2.2
  have hbl : (imgB (stH h)).length = 3 + 6 * (stH h).2.1.length := by unfold imgB; rw [List.length_append, flat_len]; rfl
  have hbB : ∀ x ∈ imgB (stH h), x < 10000 := by
    intro x hx
    unfold imgB at hx
    rcases List.mem_append.mp hx with q | q
    · simp at q
      omega
    · obtain ⟨y, y1, y2⟩ := List.mem_flatMap.mp q
      obtain ⟨a1, a2, a3, a4⟩ := sw.2.2.2.1 y y1
      unfold wkB at y2
      simp at y2
      omega
  unfold imageA imageH at hq
  generalize hB : imgB (stH h) = B at hq hbl hbB
  have chk : ∀ (μ1 : Mm), ImF μ μ1 → ImP μ1 B → ∀ (j i : Nat), i + j = B.length → AW l G X 0 0 118 [(0, .ref (G.1 + 0)), (1, .int (nI B.length)), (2, .int (nI (chkN (txL B) i))), (3, .int (nI i))] [] μ1 := by
    intro μ1 hF hP j
    have hS : ShC μ1 := hS0.of (by rw [hF.1])
    induction j with
    | zero =>
      intro i hi
      have e : i = B.length := by omega
      subst e
      refine C.iload_n dX12_image_118 3 rfl ?_
      refine C.iload_n dX12_image_119 1 rfl ?_
      refine C.icmp_ge 144 dX12_image_120 rfl (fun hc120 => ?_) (fun hc120 => ?_)
      · refine C.aload_n dX12_image_144 0 rfl ?_
        refine C.getA fX12_105 dX12_image_145 hS.o0 hS.r0_13 ?_
        refine C.iload_n dX12_image_148 1 rfl ?_
        refine C.iload_n dX12_image_149 2 rfl ?_
        refine C.iast hS.a177 (n_in (by omega)) dX12_image_150 ?_
        rw [n_cl]
        refine C.aload_n dX12_image_151 0 rfl ?_
        refine C.iload_n dX12_image_152 1 rfl ?_
        refine C.iconst (nI 1) dX12_image_153 (by decide) ?_
        refine C.iadd dX12_image_154 ?_
        rw [nI_add]
        refine C.putI fX12_381 (Or.inl rfl) dX12_image_155 hS.o0 ?_
        refine C.aload_n dX12_image_158 0 rfl ?_
        refine C.getI fX12_381 dX12_image_159 hS.o0 ?_
        refine C.iret hq dX12_image_162 ?_
        have hP2 := hP.put (k := B.length) rfl (chkN (txL B) B.length)
        have e : ∀ a k, a ≠ 177 → ¬ (a = 0 ∧ k = 17) → mI (sI (sI μ1 177 B.length (nI (chkN (txL B) B.length))) 0 17 (nI (B.length + 1))) a k = mI μ a k := fun a k q1 q2 => by rw [mI_sI, if_neg q2, mI_sI, if_neg (fun z => q1 z.1)]; exact hF.2 a k q1
        have eB : imgF (stH h) = B ++ [chkN (txL B) B.length] := by unfold imgF; rw [hB]
        rw [eB]
        refine ⟨by rw [mI_sI, if_pos ⟨rfl, rfl⟩, List.length_append]; rfl, ?_⟩
        exact hC.up (h' := (tpH h, flH h, rfH h, ldH h, stH h, psH h, rwH h, B ++ [chkN (txL B) B.length], sdH h)) ⟨hF.1, fun k => e _ _ (by omega) (by omega), fun a k q => e a k (by unfold InL at q; omega) (by unfold InL at q; omega)⟩ rfl (hC.1.2.1.of (e _ _ (by omega) (by omega)) (fun k => e _ _ (by omega) (by omega))) (hC.1.2.2.1.of (e _ _ (by omega) (by omega)) (e _ _ (by omega) (by omega))) (hC.1.2.2.2.of (fun k => e _ _ (by omega) (by omega))) (hC.2.1.1.of (fun a k q1 q2 => e a k (by omega) (by omega))) (hC.2.1.2.of (fun a k q1 q2 => e a k (by omega) (by omega))) (hC.2.2.1.1.of (e _ _ (by omega) (by omega)) (fun k => e _ _ (by omega) (by omega))) ⟨by rw [mI_sI, if_pos ⟨rfl, rfl⟩]; show _ = nI (B ++ [chkN (txL B) B.length]).length; rw [List.length_append]; rfl, by show (B ++ [chkN (txL B) B.length]).length ≤ 40; rw [List.length_append]; simp; omega, fun i x q => by rw [mI_sI, if_neg (by omega)]; exact hP2 i x q⟩ (hC.2.2.1.2.2.of (e _ _ (by omega) (by omega)))
      · exact absurd (n_nle hc120 (by omega) (by omega)) (by omega)
    | succ j ih =>
      intro i hi
      have hgo := ih (i + 1) (by omega)
      have hil : i < B.length := by omega
      have hm := hP i _ (txL_q hil)
      have hx := hbB _ (List.mem_of_getElem? (txL_q hil))
      have hcl := chkN_lt (f := txL B) i
      unfold chkN at hgo
      rw [← nI_1 i] at hgo
      refine C.iload_n dX12_image_118 3 rfl ?_
      refine C.iload_n dX12_image_119 1 rfl ?_
      refine C.icmp_ge 144 dX12_image_120 rfl (fun hc120 => ?_) (fun hc120 => ?_)
      · exact absurd (n_le hc120 (by omega) (by omega)) (by omega)
      · refine C.iconst (nI 3) dX12_image_123 (by decide) ?_
        refine C.iload_n dX12_image_124 2 rfl ?_
        refine C.imul dX12_image_125 ?_
        refine C.aload_n dX12_image_126 0 rfl ?_
        refine C.getA fX12_105 dX12_image_127 hS.o0 hS.r0_13 ?_
        refine C.iload_n dX12_image_130 3 rfl ?_
        refine C.iald hS.a177 (n_in (by omega)) dX12_image_131 ?_
        rw [n_cl, hm, pk_mul]
        refine C.iadd dX12_image_132 ?_
        rw [nI_add]
        refine C.sipush (nI 251) dX12_image_133 (by decide) ?_
        refine C.irem dX12_image_136 (by decide) ?_
        rw [pk_rem (by omega) (by decide) (by decide)]
        refine C.istore_n (lv' := [(0, _), (1, _), (2, _), (3, _)]) dX12_image_137 (nLt hX rfl) rfl ?_
        refine C.iinc (lv' := [(0, _), (1, _), (2, _), (3, _)]) _ dX12_image_138 3 rfl rfl (nLt hX rfl) rfl ?_
        refine C.goto 118 dX12_image_141 rfl ?_
        exact hgo
  have loop : ∀ (j i : Nat) (μ1 : Mm), i + j = (stH h).2.1.length → ImF μ μ1 → ImP μ1 ([(stH h).1.1 / 256, (stH h).1.1 % 256, (stH h).1.2] ++ ((stH h).2.1.take i).flatMap wkB) → AW l G X 0 0 29 [(0, .ref (G.1 + 0)), (1, .int (nI (3 + 6 * i))), (2, .int (nI i))] [] μ1 := by
    intro j
    induction j with
    | zero =>
      intro i μ1 hi hF hP
      have hS : ShC μ1 := hS0.of (by rw [hF.1])
      have hL : CsL μ1 L c (ldH h) := hL0.of hF.1 (fun a k q => hF.2 a k (by unfold InL at q; omega))
      have hg := hL.1
      have hR := hL.2.1
      rw [List.take_of_length_le (by omega)] at hP
      have hP : ImP μ1 B := by rw [← hB]; exact hP
      have hgo := chk μ1 hF hP B.length 0 (Nat.zero_add _)
      rw [hbl, show (stH h).2.1.length = i by omega] at hgo
      refine C.iload_n dX12_image_29 2 rfl ?_
      refine C.aload_n dX12_image_30 0 rfl ?_
      refine C.getO fX12_54 dX12_image_31 hS.o0 hg ?_
      refine C.getI fX12_172 dX12_image_34 hR.o ?_
      rw [hR.2.1.2.1.2, ← sw.2.2.1]
      refine C.icmp_ge 113 dX12_image_37 rfl (fun hc37 => ?_) (fun hc37 => ?_)
      · refine C.bipush (nI 79) dX12_image_113 (by decide) ?_
        refine C.istore_n (lv' := [(0, _), (1, _), (2, _)]) dX12_image_115 (nLt hX rfl) rfl ?_
        refine C.iconst (nI 0) dX12_image_116 (by decide) ?_
        refine C.istore_n (lv' := [(0, _), (1, _), (2, _), (3, _)]) dX12_image_117 (nLt hX rfl) rfl ?_
        exact hgo
      · exact absurd (n_nle hc37 (by omega) (by omega)) (by omega)
    | succ j ih =>
      intro i μ1 hi hF hP
      have hil : i < (stH h).2.1.length := by omega
      have hS : ShC μ1 := hS0.of (by rw [hF.1])
      have hL : CsL μ1 L c (ldH h) := hL0.of hF.1 (fun a k q => hF.2 a k (by unfold InL at q; omega))
      have hN : CsN μ1 40 (stH h) := hN0.of (fun a k _ _ => hF.2 a k (by omega))
      have hg := hL.1
      have hR := hL.2.1
      obtain ⟨hi6, n1, n2, n3, n4⟩ := hN.wk hil
      obtain ⟨a1, a2, a3, a4⟩ := sw.wk (w := i) (by rw [← sw.2.2.1]; exact hil)
      have hq2 := wkS_q hil
      generalize hP0 : [(stH h).1.1 / 256, (stH h).1.1 % 256, (stH h).1.2] ++ ((stH h).2.1.take i).flatMap wkB = P0 at hP
      have hPl : P0.length = 3 + 6 * i := by
        rw [← hP0, List.length_append, flat_len, List.length_take, Nat.min_eq_left (by omega)]
        rfl
      generalize hwk : wkS (stH h) i = x at n1 n2 n3 n4 a1 a2 a3 a4 hq2
      have hP2 := hP.put (k := 3 + 6 * i) (by omega) x.1
      have hF2 := (ImF.refl μ1).put (3 + 6 * i) (nI x.1)
      have hS2 : ShC (sI μ1 177 (3 + 6 * i) (nI x.1)) := hS.of rfl
      have m2 := (hF2.2 42 i (by omega)).trans n2
      have hnext : P0 ++ [x.1] ++ [x.2.1 / 256, x.2.1 % 256] ++ [x.2.2.1 / 256, x.2.2.1 % 256] ++ [x.2.2.2] = [(stH h).1.1 / 256, (stH h).1.1 % 256, (stH h).1.2] ++ ((stH h).2.1.take (i + 1)).flatMap wkB := by
        rw [← hP0, List.take_add_one, hq2, List.flatMap_append]
        simp [wkB]
      refine C.iload_n dX12_image_29 2 rfl ?_
      refine C.aload_n dX12_image_30 0 rfl ?_
      refine C.getO fX12_54 dX12_image_31 hS.o0 hg ?_
      refine C.getI fX12_172 dX12_image_34 hR.o ?_
      rw [hR.2.1.2.1.2, ← sw.2.2.1]
      refine C.icmp_ge 113 dX12_image_37 rfl (fun hc37 => ?_) (fun hc37 => ?_)
      · exact absurd (n_le hc37 (by omega) (by omega)) (by omega)
      · refine C.aload_n dX12_image_40 0 rfl ?_
        refine C.getA fX12_105 dX12_image_41 hS.o0 hS.r0_13 ?_
        refine C.iload_n dX12_image_44 1 rfl ?_
        refine C.aload_n dX12_image_45 0 rfl ?_
        refine C.getO fX12_80 dX12_image_46 hS.o0 hS.r0_7 ?_
        refine C.getA fX12_256 dX12_image_49 hS.o40 hS.r40_0 ?_
        refine C.iload_n dX12_image_52 2 rfl ?_
        refine C.iald hS.a41 (n_in (by omega)) dX12_image_53 ?_
        rw [n_cl, n1]
        refine C.iast hS.a177 (n_in (by omega)) dX12_image_54 ?_
        rw [n_cl]
        refine C.aload_n dX12_image_55 0 rfl ?_
        refine C.iload_n dX12_image_56 1 rfl ?_
        refine C.iconst (nI 1) dX12_image_57 (by decide) ?_
        refine C.iadd dX12_image_58 ?_
        refine C.aload_n dX12_image_59 0 rfl ?_
        refine C.getO fX12_80 dX12_image_60 hS.o0 hS.r0_7 ?_
        refine C.getA fX12_259 dX12_image_63 hS.o40 hS.r40_1 ?_
        refine C.iload_n dX12_image_66 2 rfl ?_
        refine C.iald hS.a42 (n_in (by omega)) dX12_image_67 ?_
        rw [n_cl, m2, nI_add]
        refine C.callVV lX12_377 dX12_image_68 (kx_putPair hS2 hP2 (k := 3 + 6 * i + 1) (v := x.2.1) (by rw [List.length_append, hPl]; rfl) (by omega) (by omega)) hS.o0 rfl rfl (Nat.le_of_ble_eq_true rfl) (Nat.zero_le _) (Nat.zero_le _) (Nat.le_of_ble_eq_true rfl) (fun μ68 h68 => ?_)
        obtain ⟨hP3, hF3⟩ := h68
        have hF3 := hF2.trans hF3
        have hS3 : ShC μ68 := hS.of (by rw [hF3.1])
        have hS := hS3
        have m3 := (hF3.2 43 i (by omega)).trans n3
        refine C.aload_n dX12_image_71 0 rfl ?_
        refine C.iload_n dX12_image_72 1 rfl ?_
        refine C.iconst (nI 3) dX12_image_73 (by decide) ?_
        refine C.iadd dX12_image_74 ?_
        refine C.aload_n dX12_image_75 0 rfl ?_
        refine C.getO fX12_80 dX12_image_76 hS.o0 hS.r0_7 ?_
        refine C.getA fX12_262 dX12_image_79 hS.o40 hS.r40_2 ?_
        refine C.iload_n dX12_image_82 2 rfl ?_
        refine C.iald hS.a43 (n_in (by omega)) dX12_image_83 ?_
        rw [n_cl, m3, nI_add]
        refine C.callVV lX12_377 dX12_image_84 (kx_putPair hS3 hP3 (k := 3 + 6 * i + 3) (v := x.2.2.1) (by rw [List.length_append, List.length_append, hPl]; rfl) (by omega) (by omega)) hS.o0 rfl rfl (Nat.le_of_ble_eq_true rfl) (Nat.zero_le _) (Nat.zero_le _) (Nat.le_of_ble_eq_true rfl) (fun μ84 h84 => ?_)
        obtain ⟨hP4, hF4⟩ := h84
        have hF4 := hF3.trans hF4
        have hS : ShC μ84 := hS.of (by rw [hF4.1]; exact congrArg (fun z => z.2) hF3.1.symm)
        have m4 := (hF4.2 44 i (by omega)).trans n4
        have hP5 := hP4.put (k := 3 + 6 * i + 5) (by rw [List.length_append, List.length_append, List.length_append, hPl]; rfl) x.2.2.2
        rw [hnext] at hP5
        have hgo := ih (i + 1) _ (by omega) (hF.trans (hF4.put _ _)) hP5
        rw [← nI_1 i, show 3 + 6 * (i + 1) = 3 + 6 * i + 6 by omega, ← nI_add] at hgo
        refine C.aload_n dX12_image_87 0 rfl ?_
        refine C.getA fX12_105 dX12_image_88 hS.o0 hS.r0_13 ?_
        refine C.iload_n dX12_image_91 1 rfl ?_
        refine C.iconst (nI 5) dX12_image_92 (by decide) ?_
        refine C.iadd dX12_image_93 ?_
        refine C.aload_n dX12_image_94 0 rfl ?_
        refine C.getO fX12_80 dX12_image_95 hS.o0 hS.r0_7 ?_
        refine C.getA fX12_265 dX12_image_98 hS.o40 hS.r40_3 ?_
        refine C.iload_n dX12_image_101 2 rfl ?_
        refine C.iald hS.a44 (n_in (by omega)) dX12_image_102 ?_
        rw [n_cl, m4, nI_add]
        refine C.iast hS.a177 (n_in (by omega)) dX12_image_103 ?_
        rw [n_cl]
        refine C.iinc (lv' := [(0, _), (1, _), (2, _)]) _ dX12_image_104 1 rfl rfl (nLt hX rfl) rfl ?_
        refine C.iinc (lv' := [(0, _), (1, _), (2, _)]) _ dX12_image_107 2 rfl rfl (nLt hX rfl) rfl ?_
        refine C.goto 29 dX12_image_110 rfl ?_
        exact hgo
  refine C.aload_n dX12_image_0 0 rfl ?_
  refine C.iconst (nI 0) dX12_image_1 (by decide) ?_
  refine C.aload_n dX12_image_2 0 rfl ?_
  refine C.getO fX12_80 dX12_image_3 hS.o0 hS.r0_7 ?_
  refine C.getI fX12_175 dX12_image_6 hS.o40 ?_
  rw [hN0.1.1]
  refine C.callVV lX12_377 dX12_image_9 (kx_putPair hS (P := []) (fun i x q => by cases q) (k := 0) rfl (by omega) (by omega)) hS.o0 rfl rfl (Nat.le_of_ble_eq_true rfl) (Nat.zero_le _) (Nat.zero_le _) (Nat.le_of_ble_eq_true rfl) (fun μ9 h9 => ?_)
  obtain ⟨hP1, hF1⟩ := h9
  have hS : ShC μ9 := hS0.of (by rw [hF1.1])
  have m5 := (hF1.2 40 6 (by omega)).trans hN0.1.2
  refine C.aload_n dX12_image_12 0 rfl ?_
  refine C.getA fX12_105 dX12_image_13 hS.o0 hS.r0_13 ?_
  refine C.iconst (nI 2) dX12_image_16 (by decide) ?_
  refine C.aload_n dX12_image_17 0 rfl ?_
  refine C.getO fX12_80 dX12_image_18 hS.o0 hS.r0_7 ?_
  refine C.getI fX12_178 dX12_image_21 hS.o40 ?_
  rw [m5]
  refine C.iast hS.a177 (n_in (by omega)) dX12_image_24 ?_
  rw [n_cl]
  refine C.iconst (nI 3) dX12_image_25 (by decide) ?_
  refine C.istore_n (lv' := [(0, _), (1, _)]) dX12_image_26 (nLt hX rfl) rfl ?_
  refine C.iconst (nI 0) dX12_image_27 (by decide) ?_
  refine C.istore_n (lv' := [(0, _), (1, _), (2, _)]) dX12_image_28 (nLt hX rfl) rfl ?_
  refine loop _ 0 _ (Nat.zero_add _) (hF1.put _ _) ?_
  rw [List.take_zero, List.flatMap_nil, List.append_nil]
  exact hP1.put (k := 2) rfl (stH h).1.2
end KXI
