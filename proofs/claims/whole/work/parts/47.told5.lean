/-! the reference: codes told -/

/-- the reading's fields -/
def Pf (μ : Mm) (s : Ps) : Prop := mI μ 179 2 = nI s.1 ∧ mI μ 179 4 = s.2.1 ∧ mI μ 179 5 = s.2.2.1 ∧ mI μ 179 6 = s.2.2.2.1 ∧ mI μ 179 10 = s.2.2.2.2.1 ∧ mI μ 179 44 = s.2.2.2.2.2
theorem Pf.self {μ : Mm} {s : Ps} (h : Pf μ s) : pw μ s = μ := (pw_ext h.1 h.2.1 h.2.2.1 h.2.2.2.1 h.2.2.2.2.1 h.2.2.2.2.2 (fun _ _ _ => rfl) rfl).symm
theorem Pf.pw (μ : Mm) (s : Ps) : Pf (pw μ s) s := ⟨pw_2 _ _, pw_4 _ _, pw_5 _ _, pw_6 _ _, pw_10 _ _, pw_44 _ _⟩
def CdG (μ μ' : Mm) (w c : Nat) (cs : List Int32) : Prop := mI μ' 179 55 = nI (c + cs.length) ∧ mI μ' 222 w = nI c ∧ mI μ' 223 w = nI (c + cs.length) ∧ (∀ k, k ≠ w → mI μ' 222 k = mI μ 222 k ∧ mI μ' 223 k = mI μ 223 k) ∧ (∀ i, i < cs.length → mI μ' 224 (c + i) = cs.getD i 0) ∧ (∀ k, (k < c ∨ c + cs.length ≤ k) → mI μ' 224 k = mI μ 224 k)
def CdB (μ μ' : Mm) : Prop := ∀ a k, a = 222 ∨ a = 223 ∨ a = 224 → mI μ' a k = mI μ a k
def CdP (μ μ' : Mm) (w c : Nat) (t : Tt) : Prop := CF μ μ' t.2 ∧ (t.2.2.2.1 = 0 → CdG μ μ' w c t.1.1) ∧ (¬ t.2.2.2.1 = 0 → CdB μ μ')
def codeT (tx : Nat → Nat) (e : Nat) (w : Nat) (s : Ps) (free : Prop) [Decidable free] (begun : Int32) : Tt := if free then rdCode tx e w s else (([], [], nI 0, 0), mFail s (nI 5) begun)
section KM10
variable {l : Launch} {G : Gm} {μ : Mm} {tx : Nat → Nat} {e : Nat}
theorem kp_codesTold (hS : ShM μ) (hW : WdM μ) (hT : TxM μ tx e) {s : Ps} (hF : Pf μ s) (hz : s.2.2.1 = 0) (hp : s.1 ≤ e) {w c : Nat} (hw3 : w < 3) (hc : mI μ 179 55 = nI c) (hcs : c ≤ s.1) (begun : Int32) : AMet l G 9 0 0 mtX13_codesTold [.ref (G.1 + 179), .int (nI w), .int begun] μ (qV (fun μ' => CdP μ μ' w c (codeT tx e w s (mI μ 222 w = -1) begun))) := by
  refine AMet.of (by decide) (Nat.le_of_ble_eq_true rfl) (fun X C hX hnm hq => ?_)
  have hS1 := hS
  have he := hT.2.1
  have hbd := hF.2.2.1
  by_cases hfr : mI μ 222 w = -1
  · generalize hK : codeT tx e w s (mI μ 222 w = -1) begun = K at hq
    unfold codeT at hK
    rw [if_pos hfr] at hK
    obtain ⟨i1, i2⟩ := rdCode_iv (tx := tx) (w := w) he hz hp
    -- the codes are copied
    have copy : ∀ (μ1 μ2 : Mm) (t : Tt) (b : Mm), QM b μ1 t.1 t.2 → t.2.2.2.1 = 0 → IW e s.1 t → CF μ μ1 t.2 → CdB μ μ1 → mI μ1 179 55 = nI c → μ2 = sI μ1 222 w (nI c) → (∀ μ', CdP μ μ' w c t → qV (fun μ' => CdP μ μ' w c K) none μ') → ∀ (n i : Nat) (μi : Mm), t.1.1.length - i < n → i ≤ t.1.1.length → mI μi 179 55 = nI (c + i) → μi.2 = μ2.2 → (∀ a k, ¬ (a = 179 ∧ k = 55) → ¬ (a = 224 ∧ c ≤ k ∧ k < c + i) → mI μi a k = mI μ2 a k) → (∀ j, j < i → mI μi 224 (c + j) = t.1.1.getD j 0) → AW l G X 0 0 100 [(0, .ref (G.1 + 179)), (1, .int (nI w)), (2, .int begun), (3, .int (nI i))] [] μi := by
      intro μ1 μ2 t b hQ hz2 hI hCF hCB hc1 hμ2 hfin n
      have hln := hI.2.2.2 hz2
      have hle := hI.1
      dsimp only [tln] at hln
      induction n with
      | zero => intro i μi h; omega
      | succ n ih =>
        intro i μi hn hi h55 hm2 hoff hon
        have hS : ShM μi := hS1.of (by rw [hm2, hμ2]; exact congrArg (·.2) hCF.1)
        have h102 : mI μi 179 102 = nI t.1.1.length := by
          rw [hoff 179 102 (by omega) (by omega), hμ2, mI_sI, if_neg (by omega)]
          exact hQ.2.2.1.1
        have h255 : ∀ j, j < t.1.1.length → mI μi 255 j = t.1.1.getD j 0 := fun j hj => by
          rw [hoff 255 j (by omega) (by omega), hμ2, mI_sI, if_neg (by omega)]
          exact hQ.2.2.2.1 j hj
        refine C.iload_n dX13_codesTold_100 3 rfl ?_
        refine C.aload_n dX13_codesTold_101 0 rfl ?_
        refine C.getI fX13_355 dX13_codesTold_102 hS.o ?_
        rw [h102]
        refine C.icmp_ge 139 dX13_codesTold_105 rfl (fun hc105 => ?_) (fun hc105 => ?_)
        · have hge := n_le hc105
          have hil : i = t.1.1.length := by omega
          refine C.aload_n dX13_codesTold_139 0 rfl ?_
          refine C.getA fX13_145 dX13_codesTold_140 hS.o hS.r53 ?_
          refine C.iload_n dX13_codesTold_143 1 rfl ?_
          refine C.aload_n dX13_codesTold_144 0 rfl ?_
          refine C.getI fX13_373 dX13_codesTold_145 hS.o ?_
          refine C.iast hS.a53 (n_in (by omega)) dX13_codesTold_148 ?_
          rw [n_cl, h55, hil]
          refine C.vret hq dX13_codesTold_149 ?_
          refine (fun hg => hg) ?_
          have hfin2 := hfin (sI μi 223 w (nI (c + t.1.1.length))) ⟨?_, fun _ => ?_, fun hnb => absurd hz2 hnb⟩
          · obtain ⟨x, hx⟩ := hfin2
            exact hx
          · have hr : ∀ a k, a ≠ 222 → a ≠ 223 → a ≠ 224 → ¬ (a = 179 ∧ k = 55) → mI (sI μi 223 w (nI (c + t.1.1.length))) a k = mI μ1 a k := fun a k h2 h3 h4 h5 => by rw [mI_sI, if_neg (by omega), hoff a k h5 (by omega), hμ2, mI_sI, if_neg (by omega)]
            exact ⟨by rw [show (sI μi 223 w (nI (c + t.1.1.length))).2 = μi.2 from rfl, hm2, hμ2]; exact hCF.1, fun a k a1 a2 a3 a4 a5 a6 => by rw [hr a k a4 a5 a6 (by omega)]; exact hCF.2.1 a k a1 a2 a3 a4 a5 a6, fun k k1 k2 k3 k4 k5 k6 k7 k8 k9 k10 k11 k12 => by rw [hr 179 k (by decide) (by decide) (by decide) (by omega)]; exact hCF.2.2.1 k k1 k2 k3 k4 k5 k6 k7 k8 k9 k10 k11 k12, by rw [hr 179 2 (by decide) (by decide) (by decide) (by decide)]; exact hCF.2.2.2.1, by rw [hr 179 4 (by decide) (by decide) (by decide) (by decide)]; exact hCF.2.2.2.2.1, by rw [hr 179 5 (by decide) (by decide) (by decide) (by decide)]; exact hCF.2.2.2.2.2.1, by rw [hr 179 6 (by decide) (by decide) (by decide) (by decide)]; exact hCF.2.2.2.2.2.2.1, by rw [hr 179 10 (by decide) (by decide) (by decide) (by decide)]; exact hCF.2.2.2.2.2.2.2.1, by rw [hr 179 44 (by decide) (by decide) (by decide) (by decide)]; exact hCF.2.2.2.2.2.2.2.2⟩
          · refine ⟨by rw [mI_sI, if_neg (by omega), h55, hil], by rw [mI_sI, if_neg (by omega), hoff 222 w (by omega) (by omega), hμ2, mI_sI, if_pos ⟨rfl, rfl⟩], by rw [mI_sI, if_pos ⟨rfl, rfl⟩], fun k hk => ⟨?_, ?_⟩, fun j hj => ?_, fun k hk => ?_⟩
            · rw [mI_sI, if_neg (by omega), hoff 222 k (by omega) (by omega), hμ2, mI_sI, if_neg (by omega)]; exact hCB 222 k (by decide)
            · rw [mI_sI, if_neg (by omega), hoff 223 k (by omega) (by omega), hμ2, mI_sI, if_neg (by omega)]; exact hCB 223 k (by decide)
            · rw [mI_sI, if_neg (by omega)]; exact hon j (by omega)
            · rw [mI_sI, if_neg (by omega), hoff 224 k (by omega) (by omega), hμ2, mI_sI, if_neg (by omega)]; exact hCB 224 k (by decide)
        · have hlt := n_nle hc105
          refine C.aload_n dX13_codesTold_108 0 rfl ?_
          refine C.getA fX13_148 dX13_codesTold_109 hS.o hS.r54 ?_
          refine C.aload_n dX13_codesTold_112 0 rfl ?_
          refine C.getI fX13_373 dX13_codesTold_113 hS.o ?_
          refine C.aload_n dX13_codesTold_116 0 rfl ?_
          refine C.getA fX13_249 dX13_codesTold_117 hS.o hS.r101 ?_
          refine C.iload_n dX13_codesTold_120 3 rfl ?_
          refine C.iald hS.a101 (n_in (by omega)) dX13_codesTold_121 ?_
          rw [n_cl, h255 i hlt, h55]
          refine C.iast hS.a54 (n_in (by omega)) dX13_codesTold_122 ?_
          rw [n_cl]
          refine C.aload_n dX13_codesTold_123 0 rfl ?_
          refine C.dup dX13_codesTold_124 rfl ?_
          refine C.getI fX13_373 dX13_codesTold_125 hS.o ?_
          rw [show mI (sI μi 224 (c + i) (t.1.1.getD i 0)) 179 55 = nI (c + i) from h55]
          refine C.iconst (nI 1) dX13_codesTold_128 (by decide) ?_
          refine C.iadd dX13_codesTold_129 ?_
          rw [nI_add]
          refine C.putI fX13_373 (Or.inl rfl) dX13_codesTold_130 hS.o ?_
          refine C.iinc (lv' := [(0, _), (1, _), (2, _), (3, _)]) _ dX13_codesTold_133 3 rfl rfl (nLt hX rfl) rfl ?_
          refine C.goto 100 dX13_codesTold_136 rfl ?_
          have hgo := ih (i + 1) (sI (sI μi 224 (c + i) (t.1.1.getD i 0)) 179 55 (nI (c + i + 1))) (by omega) (by omega) (by simp [mI_sI]; rfl) hm2 (fun a k ha hb => by rw [mI_sI, if_neg ha, mI_sI, if_neg (by omega)]; exact hoff a k ha (by omega)) (fun j hj => by rw [mI_sI, if_neg (by omega), mI_sI]; by_cases hji : j = i; rw [if_pos ⟨rfl, by omega⟩, hji]; rw [if_neg (by omega)]; exact hon j (by omega))
          rw [← nI_1] at hgo
          exact hgo
    have m80 : ∀ (μ1 : Mm) (b : Mm), QM b μ1 K.1 K.2 → IW e s.1 K → CF μ μ1 K.2 → CdB μ μ1 → mI μ1 179 55 = nI c → AW l G X 0 0 80 [(0, .ref (G.1 + 179)), (1, .int (nI w)), (2, .int begun)] [] μ1 := by
      intro μ1 b hQ hI hCF hCB hc1
      have hS : ShM μ1 := hS1.of (congrArg (·.2) hCF.1)
      have hbd1 := hQ.2.1.2.2.1
      by_cases hz2 : K.2.2.2.1 = 0
      · skip
        refine C.aload_n dX13_codesTold_80 0 rfl ?_
        refine C.getI fX13_264 dX13_codesTold_81 hS.o ?_
        rw [hbd1]
        refine C.if_eq 88 dX13_codesTold_84 rfl (fun hc84 => ?_) (fun hc84 => ?_)
        · refine C.aload_n dX13_codesTold_88 0 rfl ?_
          refine C.getA fX13_142 dX13_codesTold_89 hS.o hS.r52 ?_
          refine C.iload_n dX13_codesTold_92 1 rfl ?_
          refine C.aload_n dX13_codesTold_93 0 rfl ?_
          refine C.getI fX13_373 dX13_codesTold_94 hS.o ?_
          rw [hc1]
          refine C.iast hS.a52 (n_in (by omega)) dX13_codesTold_97 ?_
          rw [n_cl]
          refine C.iconst (nI 0) dX13_codesTold_98 (by decide) ?_
          refine C.istore_n (lv' := [(0, _), (1, _), (2, _), (3, _)]) dX13_codesTold_99 (nLt hX rfl) rfl ?_
          exact copy μ1 _ K b hQ hz2 hI hCF hCB hc1 rfl (fun μ' h => ⟨rfl, h⟩) (K.1.1.length + 1) 0 _ (by omega) (by omega) (by rw [mI_sI, if_neg (by omega), hc1]; rfl) rfl (fun a k _ _ => rfl) (fun j hj => by omega)
        · exact absurd hz2 hc84
      · skip
        refine C.aload_n dX13_codesTold_80 0 rfl ?_
        refine C.getI fX13_264 dX13_codesTold_81 hS.o ?_
        rw [hbd1]
        refine C.if_eq 88 dX13_codesTold_84 rfl (fun hc84 => ?_) (fun hc84 => ?_)
        · exact absurd hc84 hz2
        · refine C.vret hq dX13_codesTold_87 ?_
          exact ⟨hCF, fun h => absurd h hz2, fun _ => hCB⟩
    have m41 : ∀ (v : Int32), v = (if w = 0 then nI 0 else nI 1) → AW l G X 0 0 41 [(0, .ref (G.1 + 179)), (1, .int (nI w)), (2, .int begun)] [.int v, .ref (G.1 + 179)] μ := by
      intro v hv
      have hb0 : ∀ a k, ¬ (a = 179 ∧ (k = 58 ∨ k = 102 ∨ k = 104 ∨ k = 105 ∨ k = 106)) → mI (sI (sI (sI (sI (sI μ 179 58 v) 179 102 (nI 0)) 179 104 (nI 0)) 179 105 (nI 0)) 179 106 (nI 0)) a k = mI μ a k := fun a k h => by
        rw [mI_sI, if_neg (by omega), mI_sI, if_neg (by omega), mI_sI, if_neg (by omega), mI_sI, if_neg (by omega), mI_sI, if_neg (by omega)]
      have hb2 : (sI (sI (sI (sI (sI μ 179 58 v) 179 102 (nI 0)) 179 104 (nI 0)) 179 105 (nI 0)) 179 106 (nI 0)).2 = μ.2 := rfl
      have h58 : mI (sI (sI (sI (sI (sI μ 179 58 v) 179 102 (nI 0)) 179 104 (nI 0)) 179 105 (nI 0)) 179 106 (nI 0)) 179 58 = v := by simp [mI_sI]
      have hq4 : mI (sI (sI (sI (sI (sI μ 179 58 v) 179 102 (nI 0)) 179 104 (nI 0)) 179 105 (nI 0)) 179 106 (nI 0)) 179 102 = nI 0 ∧ mI (sI (sI (sI (sI (sI μ 179 58 v) 179 102 (nI 0)) 179 104 (nI 0)) 179 105 (nI 0)) 179 106 (nI 0)) 179 104 = nI 0 ∧ mI (sI (sI (sI (sI (sI μ 179 58 v) 179 102 (nI 0)) 179 104 (nI 0)) 179 105 (nI 0)) 179 106 (nI 0)) 179 105 = nI 0 ∧ mI (sI (sI (sI (sI (sI μ 179 58 v) 179 102 (nI 0)) 179 104 (nI 0)) 179 105 (nI 0)) 179 106 (nI 0)) 179 106 = nI 0 := by simp [mI_sI]
      have m64 : ∀ b : Mm, (∀ a k, ¬ (a = 179 ∧ (k = 58 ∨ k = 102 ∨ k = 104 ∨ k = 105 ∨ k = 106)) → mI b a k = mI μ a k) → b.2 = μ.2 → mI b 179 58 = v → (mI b 179 102 = nI 0 ∧ mI b 179 104 = nI 0 ∧ mI b 179 105 = nI 0 ∧ mI b 179 106 = nI 0) → AW l G X 0 0 64 [(0, .ref (G.1 + 179)), (1, .int (nI w)), (2, .int begun)] [] b := by
        intro b hb hb2 h58 hq4
        have hSb : ShM b := hS1.of (by rw [hb2])
        have hTb : TxM b tx e := ⟨by rw [hb 179 3 (by decide)]; exact hT.1, hT.2.1, fun j hj => by rw [hb 180 j (by omega)]; exact hT.2.2 j hj⟩
        have hWb : WdM b := fun a ws hm i hi => by rw [hb a i (by have := wdT_q _ hm; omega)]; exact hW a ws hm i hi
        have hQ0 : QM b b (t0 s).1 (t0 s).2 := ⟨⟨rfl, fun _ _ _ _ _ => rfl, fun _ _ _ _ _ _ _ _ _ _ _ => rfl⟩, ⟨by rw [hb 179 2 (by decide)]; exact hF.1, by rw [hb 179 4 (by decide)]; exact hF.2.1, by rw [hb 179 5 (by decide)]; exact hF.2.2.1, by rw [hb 179 6 (by decide)]; exact hF.2.2.2.1, by rw [hb 179 10 (by decide)]; exact hF.2.2.2.2.1, by rw [hb 179 44 (by decide)]; exact hF.2.2.2.2.2⟩, hq4, fun i hi => absurd hi (by simp [t0]), fun i hi => absurd hi (by simp [t0])⟩
        have hS : ShM b := hSb
        have key : ∀ μ1, QM b μ1 K.1 K.2 → IW e s.1 K → AW l G X 0 0 80 [(0, .ref (G.1 + 179)), (1, .int (nI w)), (2, .int begun)] [] μ1 := by
          intro μ1 hQ hI
          refine m80 μ1 b hQ hI ⟨by rw [hQ.1.1, hb2], fun a k a1 a2 a3 a4 a5 a6 => by rw [hQ.1.2.1 a k a1 a2 a3, hb a k (by omega)], fun k k1 k2 k3 k4 k5 k6 k7 k8 k9 k10 k11 k12 => by rw [hQ.1.2.2 k k1 k2 k3 k4 k5 k6 k7 k8 k9 k10, hb 179 k (by omega)], hQ.2.1⟩ (fun a k ha => ?_) ?_
          · rw [hQ.1.2.1 a k (by omega) (by omega) (by omega), hb a k (by omega)]
          · rw [hQ.1.2.2 55 (by decide) (by decide) (by decide) (by decide) (by decide) (by decide) (by decide) (by decide) (by decide) (by decide), hb 179 55 (by decide), hc]
        unfold rdCode at hK i1
        refine C.iload_n dX13_codesTold_64 1 rfl ?_
        refine C.iconst (nI 2) dX13_codesTold_65 (by decide) ?_
        refine C.icmp_ne 76 dX13_codesTold_66 rfl (fun hc66 => ?_) (fun hc66 => ?_)
        · have hw2 : w ≠ 2 := n_ne hc66
          rw [if_neg hw2, ← hv] at hK i1
          refine C.aload_n dX13_codesTold_76 0 rfl ?_
          refine C.callVV lX13_370 dX13_codesTold_77 (kq_sums' hSb hWb hTb h58 hQ0 hz (t0_iv hp)) hS.o rfl rfl (Nat.le_of_ble_eq_true rfl) (Nat.zero_le _) (Nat.zero_le _) (Nat.le_of_ble_eq_true rfl) (fun μ77 h77 => ?_)
          rw [hK] at h77 i1
          first | exact key _ h70 i1 | exact key _ h77 i1
        · have hw2 : w = 2 := n_eq (b := 2) hc66
          rw [if_pos hw2] at hK i1
          rw [if_neg (by omega)] at hv
          refine C.aload_n dX13_codesTold_69 0 rfl ?_
          refine C.callVV lX13_367 dX13_codesTold_70 (kq_test hSb hWb hTb (h58.trans hv) hQ0 (t0_iv hp)) hS.o rfl rfl (Nat.le_of_ble_eq_true rfl) (Nat.zero_le _) (Nat.zero_le _) (Nat.le_of_ble_eq_true rfl) (fun μ70 h70 => ?_)
          rw [hK] at h70 i1
          refine C.goto 80 dX13_codesTold_73 rfl ?_
          first | exact key _ h70 i1 | exact key _ h77 i1
      have hS2 := hS1
      refine C.putI fX13_322 (Or.inl rfl) dX13_codesTold_41 hS.o ?_
      refine C.aload_n dX13_codesTold_44 0 rfl ?_
      refine C.iconst (nI 0) dX13_codesTold_45 (by decide) ?_
      refine C.putI fX13_355 (Or.inl rfl) dX13_codesTold_46 (hS1.of rfl).o ?_
      refine C.aload_n dX13_codesTold_49 0 rfl ?_
      refine C.iconst (nI 0) dX13_codesTold_50 (by decide) ?_
      refine C.putI fX13_358 (Or.inl rfl) dX13_codesTold_51 (hS1.of rfl).o ?_
      refine C.aload_n dX13_codesTold_54 0 rfl ?_
      refine C.iconst (nI 0) dX13_codesTold_55 (by decide) ?_
      refine C.putI fX13_361 (Or.inl rfl) dX13_codesTold_56 (hS1.of rfl).o ?_
      refine C.aload_n dX13_codesTold_59 0 rfl ?_
      refine C.iconst (nI 0) dX13_codesTold_60 (by decide) ?_
      refine C.putI fX13_364 (Or.inl rfl) dX13_codesTold_61 (hS1.of rfl).o ?_
      exact m64 _ hb0 hb2 h58 hq4
    refine C.aload_n dX13_codesTold_0 0 rfl ?_
    refine C.getI fX13_264 dX13_codesTold_1 hS.o ?_
    rw [hbd]
    refine C.if_ne 23 dX13_codesTold_4 rfl (fun hc4 => ?_) (fun hc4 => ?_)
    · exact absurd hz hc4
    · refine C.aload_n dX13_codesTold_7 0 rfl ?_
      refine C.getA fX13_142 dX13_codesTold_8 hS.o hS.r52 ?_
      refine C.iload_n dX13_codesTold_11 1 rfl ?_
      refine C.iald hS.a52 (n_in (by omega)) dX13_codesTold_12 ?_
      rw [n_cl]
      refine C.iconst (-1) dX13_codesTold_13 (by decide) ?_
      refine C.icmp_eq 23 dX13_codesTold_14 rfl (fun hc14 => ?_) (fun hc14 => ?_)
      · refine C.aload_n dX13_codesTold_23 0 rfl ?_
        refine C.getI fX13_264 dX13_codesTold_24 hS.o ?_
        rw [hbd]
        refine C.if_eq 31 dX13_codesTold_27 rfl (fun hc27 => ?_) (fun hc27 => ?_)
        · refine C.aload_n dX13_codesTold_31 0 rfl ?_
          refine C.iload_n dX13_codesTold_32 1 rfl ?_
          refine C.if_ne 40 dX13_codesTold_33 rfl (fun hc33 => ?_) (fun hc33 => ?_)
          · have h0 : w ≠ 0 := n_ne hc33
            refine C.iconst (nI 1) dX13_codesTold_40 (by decide) ?_
            first | exact m41 _ (by rw [if_neg h0]) | exact m41 _ (by rw [if_pos h0])
          · have h0 : w = 0 := n_eq (b := 0) hc33
            refine C.iconst (nI 0) dX13_codesTold_36 (by decide) ?_
            refine C.goto 41 dX13_codesTold_37 rfl ?_
            first | exact m41 _ (by rw [if_neg h0]) | exact m41 _ (by rw [if_pos h0])
        · exact absurd hz hc27
      · exact absurd hfr hc14
  · have hcf : CF μ (pw μ (mFail s (nI 5) begun)) (mFail s (nI 5) begun) := ⟨rfl, fun a k h1 _ _ _ _ _ => pw_off _ _ (Or.inl h1), fun k k1 k2 k3 k4 k5 k6 _ _ _ _ _ _ => pw_off _ _ (Or.inr ⟨k1, k2, k3, k4, k5, k6⟩), Pf.pw _ _⟩
    have hnb : ¬ (mFail s (nI 5) begun).2.2.1 = 0 := mFail_0 _ _ _ (by decide)
    have hS3 : ShM (pw μ (mFail s (nI 5) begun)) := hS1.pw _
    refine C.aload_n dX13_codesTold_0 0 rfl ?_
    refine C.getI fX13_264 dX13_codesTold_1 hS.o ?_
    rw [hbd]
    refine C.if_ne 23 dX13_codesTold_4 rfl (fun hc4 => ?_) (fun hc4 => ?_)
    · exact absurd hz hc4
    · refine C.aload_n dX13_codesTold_7 0 rfl ?_
      refine C.getA fX13_142 dX13_codesTold_8 hS.o hS.r52 ?_
      refine C.iload_n dX13_codesTold_11 1 rfl ?_
      refine C.iald hS.a52 (n_in (by omega)) dX13_codesTold_12 ?_
      rw [n_cl]
      refine C.iconst (-1) dX13_codesTold_13 (by decide) ?_
      refine C.icmp_eq 23 dX13_codesTold_14 rfl (fun hc14 => ?_) (fun hc14 => ?_)
      · exact absurd hc14 hfr
      · refine C.aload_n dX13_codesTold_17 0 rfl ?_
        refine C.iconst (nI 5) dX13_codesTold_18 (by decide) ?_
        refine C.iload_n dX13_codesTold_19 2 rfl ?_
        refine C.callVV lX13_294 dX13_codesTold_20 ((by have h := kp_fail (l := l) (G := G) hS1 s (nI 5) begun; rw [hF.self] at h; exact h)) hS.o rfl rfl (Nat.le_of_ble_eq_true rfl) (Nat.zero_le _) (Nat.zero_le _) (Nat.le_of_ble_eq_true rfl) (fun μ20 h20 => ?_)
        subst h20
        have hS : ShM (pw μ (mFail s (nI 5) begun)) := hS3
        refine C.aload_n dX13_codesTold_23 0 rfl ?_
        refine C.getI fX13_264 dX13_codesTold_24 hS.o ?_
        rw [pw_5]
        refine C.if_eq 31 dX13_codesTold_27 rfl (fun hc27 => ?_) (fun hc27 => ?_)
        · exact absurd hc27 hnb
        · refine C.vret hq dX13_codesTold_30 ?_
          unfold codeT
          rw [if_neg hfr]
          exact ⟨hcf, fun h => absurd h hnb, fun _ a k ha => pw_off _ _ (Or.inl (by omega))⟩
end KM10
