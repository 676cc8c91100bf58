/-! the class: a land is made -/
def dZ (W H b : Nat) : Ld := ((W, H, b), [], [], [], (12, 20, 0), fun _ => none)
def ArP (M : Mm) (A : Nat) (d : Ld) (k i : Nat) (M1 : Mm) : Prop := M1.1 = M.1 ∧ M1.2.2 = M.2.2 ∧ (∀ a j, a ≠ A → mL M1 a j = mL M a j) ∧ (∀ j, j < k → mL M1 A j = lN (arB d j)) ∧ mL M1 A k = lN (bsF (fun j => decide (apN (cK d k) (cK d j) ≤ 1)) i) ∧ ∀ j, k < j → mL M1 A j = lN 0
section ARP
variable {M M1 : Mm} {A k i : Nat} {d : Ld}
theorem ArP.step (h : ArP M A d k i M1) {y : Nat} (hy : y = if apN (cK d k) (cK d i) ≤ 1 then 2 ^ i else 0) : ArP M A d k (i + 1) (sL M1 A k (lN (bsF (fun j => decide (apN (cK d k) (cK d j) ≤ 1)) i) ||| lN y)) := by
  obtain ⟨h1, h2, h3, h4, h5, h6⟩ := h
  have e : bsF (fun j => decide (apN (cK d k) (cK d j) ≤ 1)) i ||| y = bsF (fun j => decide (apN (cK d k) (cK d j) ≤ 1)) (i + 1) := by
    have hlt := bsF_lt (fun j => decide (apN (cK d k) (cK d j) ≤ 1)) i
    rw [hy]
    conv => rhs; unfold bsF
    by_cases hf : apN (cK d k) (cK d i) ≤ 1
    · rw [if_pos hf, if_pos (decide_eq_true hf)]
      have eo : 2 ^ i + bsF (fun j => decide (apN (cK d k) (cK d j) ≤ 1)) i = 2 ^ i ||| bsF (fun j => decide (apN (cK d k) (cK d j) ≤ 1)) i := by
        have := Nat.two_pow_add_eq_or_of_lt hlt 1
        rwa [Nat.mul_one] at this
      rw [Nat.add_comm, eo, Nat.or_comm]
    · rw [if_neg hf, if_neg (by simp [hf]), Nat.or_zero, Nat.add_zero]
  rw [fb_orL, e]
  refine ⟨h1, h2, fun a j q => ?_, fun j hj => ?_, ?_, fun j hj => ?_⟩
  · rw [mL_sL, if_neg (fun z => q z.1)]
    exact h3 a j q
  · rw [mL_sL, if_neg (by omega)]
    exact h4 j hj
  · rw [mL_sL, if_pos ⟨rfl, rfl⟩]
  · rw [mL_sL, if_neg (by omega)]
    exact h6 j hj
theorem ArP.next (h : ArP M A d k (nC d) M1) : ArP M A d (k + 1) 0 M1 := by
  obtain ⟨h1, h2, h3, h4, h5, h6⟩ := h
  refine ⟨h1, h2, h3, fun j hj => ?_, h6 (k + 1) (by omega), fun j hj => h6 j (by omega)⟩
  by_cases e : j = k
  · rw [e, h5]
    rfl
  · exact h4 j (by omega)
end ARP
/-- a land as it was made -/
def LnQ (μ : Mm) (L W H : Nat) (x : Int32) (M : Mm) : Prop :=
  (mN M = L + 18 ∧ Grw μ M ∧ isO M L 2) ∧ (∀ a, a < L → (∀ k, mI M a k = mI μ a k) ∧ (∀ k, mL M a k = mL μ a k) ∧ (∀ k, mR M a k = mR μ a k)) ∧
  (mR M L 3 = some (L + 15) ∧ mR M L 4 = some (L + 1) ∧ mR M L 5 = some (L + 2) ∧ mR M L 6 = some (L + 3) ∧ mR M L 7 = some (L + 4) ∧ mR M L 8 = some (L + 5) ∧ mR M L 9 = some (L + 12) ∧ mR M L 17 = some (L + 16) ∧ mR M L 18 = some (L + 16) ∧ mR M L 19 = some (L + 16)) ∧
  (isA M (L + 15) 1 (W * H) ∧ isA M (L + 1) 0 5 ∧ isA M (L + 2) 0 5 ∧ isA M (L + 3) 0 6 ∧ isA M (L + 4) 0 6 ∧ isA M (L + 5) 6 6 ∧ isA M (L + 12) 6 2) ∧
  (∀ i, i < 6 → mR M (L + 5) i = some (L + 6 + i) ∧ isA M (L + 6 + i) 0 12) ∧ (∀ i, i < 2 → mR M (L + 12) i = some (L + 13 + i) ∧ isA M (L + 13 + i) 0 6) ∧
  (mI M L 0 = nI W ∧ mI M L 1 = nI H ∧ mI M L 2 = x ∧ mI M L 11 = nI 0 ∧ mI M L 12 = nI 0 ∧ mI M L 13 = nI 12 ∧ mI M L 14 = nI 20 ∧ mI M L 15 = nI 0 ∧ mI M L 16 = nI 1) ∧ mL M L 10 = lN 0 ∧ (∀ k, k < W * H → mL M (L + 15) k = lN (arB (dZ W H 0) k)) ∧
  (isO M (L + 16) 0 ∧ mR M (L + 16) 0 = some (L + 17) ∧ isA M (L + 17) 0 0 ∧ mI M (L + 16) 1 = bI false)
theorem mn_24 : Cond.classLink RX2 24 "[[I" ∈ lw_ok := ok1 236 (by decide +kernel) rfl
section KLI
variable {l : Launch} {G : Gm} {μ : Mm} {L : Nat}
theorem kl_init {W H : Nat} {x : Int32} (h0 : InP μ L 1 [] [] [] (fun _ => 0) μ) (hW : W ≤ 7) (hH : H ≤ 7) : AMet l G 2 17 165 mtX2_init [.ref (G.1 + L), .int (nI W), .int (nI H), .int x] μ (qV (fun M => LnQ μ L W H x M)) := by
  refine AMet.of (by decide) (Nat.le_of_ble_eq_true rfl) (fun X C hX hnm hq => ?_)
  have hN := h0.1.1
  have h49 : W * H ≤ 49 := Nat.le_trans (Nat.mul_le_mul hW hH) (by omega)
  have fin : ∀ (bc bs : Nat) (M : Mm), 2 ≤ bc → 2 ≤ bs → InP μ L 16 [(3, mN μ + 14), (9, mN μ + 11), (8, mN μ + 4), (7, mN μ + 3), (6, mN μ + 2), (5, mN μ + 1), (4, mN μ)] [(L + 15, 1, W * H), (L + 12, 6, 2), (L + 5, 6, 6), (L + 4, 0, 6), (L + 3, 0, 6), (L + 2, 0, 5), (L + 1, 0, 5)] [(L + 12, 2), (L + 5, 6)] (fun j => if j = 2 then x else if j = 1 then nI H else if j = 0 then nI W else if j = 16 then nI 1 else if j = 14 then nI 20 else if j = 13 then nI 12 else 0) M → (∀ i, i < 6 → isA M (L + 5 + 1 + i) 0 12) → (∀ i, i < 2 → isA M (L + 12 + 1 + i) 0 6) → AW l G X bc bs 98 [(0, .ref (G.1 + L)), (1, .int (nI W)), (2, .int (nI H)), (3, .int x)] [] M := by
    intro bc bs M hbc hbs hM hw6 hn2
    obtain ⟨⟨m1, m2, m3, -⟩, m5, m6, m7, m8, m9, m10, m11⟩ := hM
    have hA3 : mR M L 3 = some (L + 15) := by
      have := m6 (3, mN μ + 14) (by simp)
      rw [hN] at this
      exact this
    have hAA : isA M (L + 15) 1 (W * H) := m7 (L + 15, 1, W * H) (by simp)
    have i0 : mI M L 0 = nI W := m9 0
    have last : ∀ M1, ArP M (L + 15) (dZ W H 0) (W * H) 0 M1 → AW l G X bc bs 166 [(0, .ref (G.1 + L)), (1, .int (nI W)), (2, .int (nI H)), (3, .int x), (4, .int (nI (W * H)))] [] M1 := by
      intro M1 ⟨r1, r2, r3, r4, r5, r6⟩
      have q1 : ∀ a k, mI M1 a k = mI M a k := fun a k => by unfold mI; rw [r1]
      have q2 : ∀ a k, mR M1 a k = mR M a k := fun a k => by unfold mR; rw [r2]
      have nM1 : mN M1 = L + 16 := by
        unfold mN
        rw [r2]
        exact m1
      have g1 : Grw M M1 := Grw.of (by rw [r2])
      have nA : mN (nM M1 0 2) = L + 17 := by show mN M1 + 1 = _; omega
      have g2 : Grw M1 (nM (nM M1 0 2) (100 + 0) 0) := (Grw.new M1 0 2).trans (Grw.new _ _ _)
      have hO2 : isO (nM (nM M1 0 2) (100 + 0) 0) (L + 16) 0 := by
        have := (isO_nM M1 0 0).grw (Grw.new (nM M1 0 2) (100 + 0) 0)
        rw [nM1] at this
        exact this
      have hA2 : isA (nM (nM M1 0 2) (100 + 0) 0) (L + 17) 0 0 := by
        have := isA_nM (nM M1 0 2) 0 0
        rw [nA] at this
        exact this
      have hO : isO (sI (sR (nM (nM M1 0 2) (100 + 0) 0) (L + 16) 0 (some (L + 17))) (L + 16) 1 (bI false)) L 2 := (m3.grw g1).grw g2
      have old : ∀ a, a < L + 16 → (∀ k, mI (nM (nM M1 0 2) (100 + 0) 0) a k = mI M a k) ∧ (∀ k, mL (nM (nM M1 0 2) (100 + 0) 0) a k = mL M1 a k) ∧ (∀ k, mR (nM (nM M1 0 2) (100 + 0) 0) a k = mR M a k) := by
        intro a ha
        refine ⟨fun k => ?_, fun k => ?_, fun k => ?_⟩
        · rw [mI_nM, if_neg (by omega), mI_nM, if_neg (by omega)]
          exact q1 a k
        · rw [mL_nM, if_neg (by omega), mL_nM, if_neg (by omega)]
        · rw [mR_nM, if_neg (by omega), mR_nM, if_neg (by omega)]
          exact q2 a k
      generalize hB : nM (nM M1 0 2) (100 + 0) 0 = B at *
      have nB : mN B = L + 18 := by
        rw [← hB]
        show mN M1 + 1 + 1 = _
        omega
      have gB : Grw μ B := (m2.trans g1).trans g2
      refine C.new (c := 0) rfl nX2_59 dX2_init_166 (by omega) (by rw [show nF 0 = 2 from rfl]; omega) ?_
      rw [show nF 0 = 2 from rfl]
      refine C.dup dX2_init_169 rfl ?_
      refine C.iconst (nI 0) dX2_init_170 (by decide) ?_
      refine C.newa (t := 0) (by decide) rfl ac_int dX2_init_171 rfl (by omega) (by omega) (by omega) ?_
      rw [hB, nA, nM1]
      refine C.iconst (nI 0) dX2_init_173 (by decide) ?_
      refine C.callIV lX2_61 dX2_init_174 (kf_code (q := false) hO2) rfl rfl (Nat.le_of_ble_eq_true rfl) (Nat.zero_le _) (Nat.zero_le _) (Nat.le_of_ble_eq_true rfl) (fun μ174 h174 => ?_)
      subst h174
      refine C.astore (lv' := [(0, _), (1, _), (2, _), (3, _), (4, _)]) dX2_init_177 (nLt hX rfl) rfl ?_
      refine C.aload_n dX2_init_179 0 rfl ?_
      refine C.aload dX2_init_180 4 rfl ?_
      refine C.putO fX2_64 (Or.inl rfl) dX2_init_182 hO ?_
      refine C.aload_n dX2_init_185 0 rfl ?_
      refine C.aload dX2_init_186 4 rfl ?_
      refine C.putO fX2_68 (Or.inl rfl) dX2_init_188 hO ?_
      refine C.aload_n dX2_init_191 0 rfl ?_
      refine C.aload dX2_init_192 4 rfl ?_
      refine C.putO fX2_71 (Or.inl rfl) dX2_init_194 hO ?_
      refine C.vret hq dX2_init_197 ?_
      have fR : ∀ a k, ¬ (a = L ∧ 17 ≤ k) → a ≠ L + 16 → mR (sR (sR (sR (sI (sR B (L + 16) 0 (some (L + 17))) (L + 16) 1 (bI false)) L 17 (some (L + 16))) L 18 (some (L + 16))) L 19 (some (L + 16))) a k = mR B a k := fun a k z1 z2 => by
        rw [mR_sR, if_neg (by omega), mR_sR, if_neg (by omega), mR_sR, if_neg (by omega), mR_sI, mR_sR, if_neg (by omega)]
      have fI : ∀ a k, a ≠ L + 16 → mI (sR (sR (sR (sI (sR B (L + 16) 0 (some (L + 17))) (L + 16) 1 (bI false)) L 17 (some (L + 16))) L 18 (some (L + 16))) L 19 (some (L + 16))) a k = mI B a k := fun a k z1 => by
        rw [mI_sR, mI_sR, mI_sR, mI_sI, if_neg (by omega), mI_sR]
      have fL : ∀ a k, mL (sR (sR (sR (sI (sR B (L + 16) 0 (some (L + 17))) (L + 16) 1 (bI false)) L 17 (some (L + 16))) L 18 (some (L + 16))) L 19 (some (L + 16))) a k = mL B a k := fun a k => rfl
      have f17 : mR (sR (sR (sR (sI (sR B (L + 16) 0 (some (L + 17))) (L + 16) 1 (bI false)) L 17 (some (L + 16))) L 18 (some (L + 16))) L 19 (some (L + 16))) L 17 = some (L + 16) := by rw [mR_sR, if_neg (by omega), mR_sR, if_neg (by omega), mR_sR, if_pos ⟨rfl, rfl⟩]
      have f18 : mR (sR (sR (sR (sI (sR B (L + 16) 0 (some (L + 17))) (L + 16) 1 (bI false)) L 17 (some (L + 16))) L 18 (some (L + 16))) L 19 (some (L + 16))) L 18 = some (L + 16) := by rw [mR_sR, if_neg (by omega), mR_sR, if_pos ⟨rfl, rfl⟩]
      have f19 : mR (sR (sR (sR (sI (sR B (L + 16) 0 (some (L + 17))) (L + 16) 1 (bI false)) L 17 (some (L + 16))) L 18 (some (L + 16))) L 19 (some (L + 16))) L 19 = some (L + 16) := by rw [mR_sR, if_pos ⟨rfl, rfl⟩]
      have f0 : mR (sR (sR (sR (sI (sR B (L + 16) 0 (some (L + 17))) (L + 16) 1 (bI false)) L 17 (some (L + 16))) L 18 (some (L + 16))) L 19 (some (L + 16))) (L + 16) 0 = some (L + 17) := by rw [mR_sR, if_neg (by omega), mR_sR, if_neg (by omega), mR_sR, if_neg (by omega), mR_sI, mR_sR, if_pos ⟨rfl, rfl⟩]
      have f1 : mI (sR (sR (sR (sI (sR B (L + 16) 0 (some (L + 17))) (L + 16) 1 (bI false)) L 17 (some (L + 16))) L 18 (some (L + 16))) L 19 (some (L + 16))) (L + 16) 1 = bI false := by rw [mI_sR, mI_sR, mI_sR, mI_sI, if_pos ⟨rfl, rfl⟩]
      have gF : Grw B (sR (sR (sR (sI (sR B (L + 16) 0 (some (L + 17))) (L + 16) 1 (bI false)) L 17 (some (L + 16))) L 18 (some (L + 16))) L 19 (some (L + 16))) := Grw.of rfl
      have nF' : mN (sR (sR (sR (sI (sR B (L + 16) 0 (some (L + 17))) (L + 16) 1 (bI false)) L 17 (some (L + 16))) L 18 (some (L + 16))) L 19 (some (L + 16))) = L + 18 := nB
      generalize sR (sR (sR (sI (sR B (L + 16) 0 (some (L + 17))) (L + 16) 1 (bI false)) L 17 (some (L + 16))) L 18 (some (L + 16))) L 19 (some (L + 16)) = F at *
      have gMF : Grw M F := (g1.trans g2).trans gF
      have rr : ∀ p ∈ [(3, mN μ + 14), (9, mN μ + 11), (8, mN μ + 4), (7, mN μ + 3), (6, mN μ + 2), (5, mN μ + 1), (4, mN μ)], mR F L p.1 = some p.2 := fun p hp => by
        rw [fR L p.1 (by simp only [List.mem_cons, List.not_mem_nil, or_false] at hp; rcases hp with e | e | e | e | e | e | e <;> rw [e] <;> simp) (by omega), (old L (by omega)).2.2]
        exact m6 p hp
      rw [hN] at rr
      have ii : ∀ k, mI F L k = mI M L k := fun k => (fI L k (by omega)).trans ((old L (by omega)).1 k)
      refine ⟨⟨nF', gB.trans gF, m3.grw gMF⟩, fun a ha => ?_, ⟨rr (3, L + 1 + 14) (by simp), rr (4, L + 1) (by simp), rr (5, L + 1 + 1) (by simp), rr (6, L + 1 + 2) (by simp), rr (7, L + 1 + 3) (by simp), rr (8, L + 1 + 4) (by simp), rr (9, L + 1 + 11) (by simp), f17, f18, f19⟩, ⟨(m7 (L + 15, 1, W * H) (by simp)).grw gMF, (m7 (L + 1, 0, 5) (by simp)).grw gMF, (m7 (L + 2, 0, 5) (by simp)).grw gMF, (m7 (L + 3, 0, 6) (by simp)).grw gMF, (m7 (L + 4, 0, 6) (by simp)).grw gMF, (m7 (L + 5, 6, 6) (by simp)).grw gMF, (m7 (L + 12, 6, 2) (by simp)).grw gMF⟩, fun i hi => ⟨?_, (hw6 i hi).grw gMF⟩, fun i hi => ⟨?_, (hn2 i hi).grw gMF⟩, ⟨(ii 0).trans (m9 0), (ii 1).trans (m9 1), (ii 2).trans (m9 2), (ii 11).trans (m9 11), (ii 12).trans (m9 12), (ii 13).trans (m9 13), (ii 14).trans (m9 14), (ii 15).trans (m9 15), (ii 16).trans (m9 16)⟩, ?_, fun k hk => ?_, hO2.grw gF, f0, hA2.grw gF, f1⟩
      · obtain ⟨z1, z2, z3⟩ := m5 a ha
        obtain ⟨y1, y2, y3⟩ := old a (by omega)
        exact ⟨fun k => ((fI a k (by omega)).trans (y1 k)).trans (z1 k), fun k => ((fL a k).trans (y2 k)).trans ((r3 a k (by omega)).trans (z2 k)), fun k => ((fR a k (by omega) (by omega)).trans (y3 k)).trans (z3 k)⟩
      · rw [fR _ _ (by omega) (by omega), (old _ (by omega)).2.2]
        exact (m8 (L + 5, 6) (by simp)).2.2 i hi
      · rw [fR _ _ (by omega) (by omega), (old _ (by omega)).2.2]
        exact (m8 (L + 12, 2) (by simp)).2.2 i hi
      · rw [fL, (old L (by omega)).2.1, r3 _ _ (by omega)]
        exact m10 10
      · rw [fL, (old _ (by omega)).2.1]
        exact r4 k hk
    have outer : ∀ (n k : Nat) (M1 : Mm), W * H - k < n → k ≤ W * H → ArP M (L + 15) (dZ W H 0) k 0 M1 → AW l G X bc bs 101 [(0, .ref (G.1 + L)), (1, .int (nI W)), (2, .int (nI H)), (3, .int x), (4, .int (nI k))] [] M1 := by
      intro n
      induction n with
      | zero => intro k M1 h; omega
      | succ n ih =>
        intro k M1 hk hle hP
        have shp : ∀ {i : Nat} {M2 : Mm}, ArP M (L + 15) (dZ W H 0) k i M2 → isO M2 L 2 ∧ mR M2 L 3 = some (L + 15) ∧ isA M2 (L + 15) 1 (W * H) ∧ mI M2 L 0 = nI W := by
          intro i M2 hh
          have g1 : Grw M M2 := Grw.of (by rw [hh.2.1])
          exact ⟨m3.grw g1, by unfold mR; rw [hh.2.1]; exact hA3, hAA.grw g1, by unfold mI; rw [hh.1]; exact i0⟩
        have inner : k < W * H → ∀ (n2 i : Nat) (M2 : Mm), W * H - i < n2 → i ≤ W * H → ArP M (L + 15) (dZ W H 0) k i M2 → AW l G X bc bs 114 [(0, .ref (G.1 + L)), (1, .int (nI W)), (2, .int (nI H)), (3, .int x), (4, .int (nI k)), (5, .int (nI i))] [] M2 := by
          intro hkl n2
          induction n2 with
          | zero => intro i M2 h; omega
          | succ n2 ih2 =>
            intro i M2 hi hile hQ
            obtain ⟨hO, hA3, hAA, i0⟩ := shp hQ
            have m152 : ∀ y : Nat, i < W * H → (y = if apN (cK (dZ W H 0) k) (cK (dZ W H 0) i) ≤ 1 then 2 ^ i else 0) → AW l G X bc bs 152 [(0, .ref (G.1 + L)), (1, .int (nI W)), (2, .int (nI H)), (3, .int x), (4, .int (nI k)), (5, .int (nI i))] [.long (lN y), .long (mL M2 (L + 15) k), .int (nI k), .ref (G.1 + (L + 15))] M2 := by
              intro y hil hy
              refine C.lor dX2_init_152 ?_
              rw [hQ.2.2.2.2.1]
              refine C.last hAA (n_in (by omega)) dX2_init_153 ?_
              rw [n_cl]
              refine C.iinc (lv' := [(0, _), (1, _), (2, _), (3, _), (4, _), (5, _)]) _ dX2_init_154 5 rfl rfl (nLt hX rfl) rfl ?_
              refine C.goto 114 dX2_init_157 rfl ?_
              have hgo := ih2 (i + 1) _ (by omega) (by omega) (hQ.step hy)
              rw [← nI_1] at hgo
              exact hgo
            refine C.iload dX2_init_114 5 rfl ?_
            refine C.aload_n dX2_init_116 0 rfl ?_
            refine C.getA fX2_51 dX2_init_117 hO hA3 ?_
            refine C.alen hAA (by decide) dX2_init_120 ?_
            refine C.icmp_ge 160 dX2_init_121 rfl (fun hc121 => ?_) (fun hc121 => ?_)
            · have hge : W * H ≤ i := n_le hc121
              have hie : i = W * H := by omega
              subst hie
              refine C.iinc (lv' := [(0, _), (1, _), (2, _), (3, _), (4, _), (5, _)]) _ dX2_init_160 4 rfl rfl (nLt hX rfl) rfl ?_
              refine C.goto 101 dX2_init_163 rfl ?_
              have hgo := ih (k + 1) _ (by omega) (by omega) hQ.next
              rw [← nI_1] at hgo
              exact AW.pick [0, 1, 2, 3, 4] rfl hgo
            · have hil : i < W * H := n_nle hc121
              have hW0 : 0 < W := Nat.pos_of_ne_zero (fun z => by rw [z] at hil; simp at hil)
              have hap : max ((k % W - i % W) + (i % W - k % W)) ((k / W - i / W) + (i / W - k / W)) = apN (cK (dZ W H 0) k) (cK (dZ W H 0) i) := apN_k (d := dZ W H 0) hW (k := k) (j := i) hkl hil
              have hD : max ((k % W - i % W) + (i % W - k % W)) ((k / W - i / W) + (i / W - k / W)) < 1000 := by
                have := Nat.mod_lt k hW0
                have := Nat.mod_lt i hW0
                have := Nat.div_le_self k W
                have := Nat.div_le_self i W
                have hk49 : k < 49 := by omega
                have hi49 : i < 49 := by omega
                generalize k % W = a1 at *
                generalize i % W = a2 at *
                generalize k / W = a3 at *
                generalize i / W = a4 at *
                rw [Nat.max_lt]
                constructor <;> omega
              refine C.aload_n dX2_init_124 0 rfl ?_
              refine C.getA fX2_51 dX2_init_125 hO hA3 ?_
              refine C.iload dX2_init_128 4 rfl ?_
              refine C.dup2 dX2_init_130 rfl rfl ?_
              refine C.lald hAA (n_in (by omega)) dX2_init_131 ?_
              rw [n_cl]
              refine C.aload_n dX2_init_132 0 rfl ?_
              refine C.iload dX2_init_133 4 rfl ?_
              refine C.iload dX2_init_135 5 rfl ?_
              refine C.callVI lX2_55 dX2_init_137 (kl_distance hO i0 (by omega) hW0 (by omega) (by omega)) hO rfl rfl (Nat.le_of_ble_eq_true rfl) (Nat.zero_le _) (Nat.zero_le _) (Nat.le_of_ble_eq_true rfl) (fun x137 μ137 h137 => ?_)
              obtain ⟨rfl, hμ⟩ := h137
              subst hμ
              generalize max ((k % W - i % W) + (i % W - k % W)) ((k / W - i / W) + (i / W - k / W)) = D at hap hD ⊢
              refine C.iconst (nI 1) dX2_init_140 (by decide) ?_
              refine C.icmp_gt 151 dX2_init_141 rfl (fun hc141 => ?_) (fun hc141 => ?_)
              · refine C.lconst (lN 0) dX2_init_151 (by decide) ?_
                exact m152 0 hil (by rw [if_neg (by have := n_lt hc141; rw [← hap]; omega)])
              · refine C.lconst (lN 1) dX2_init_144 (by decide) ?_
                refine C.iload dX2_init_145 5 rfl ?_
                refine C.lshl dX2_init_147 ?_
                rw [wb_shl 1 (by omega), Nat.one_mul]
                refine C.goto 152 dX2_init_148 rfl ?_
                exact m152 _ hil (by rw [if_pos (by have := n_nlt hc141; rw [← hap]; omega)])
        obtain ⟨hO, hA3, hAA, i0⟩ := shp hP
        refine C.iload dX2_init_101 4 rfl ?_
        refine C.aload_n dX2_init_103 0 rfl ?_
        refine C.getA fX2_51 dX2_init_104 hO hA3 ?_
        refine C.alen hAA (by decide) dX2_init_107 ?_
        refine C.icmp_ge 166 dX2_init_108 rfl (fun hc108 => ?_) (fun hc108 => ?_)
        · have hge : W * H ≤ k := n_le hc108
          have hke : k = W * H := by omega
          subst hke
          exact last M1 hP
        · have hkl : k < W * H := n_nle hc108
          refine C.iconst (nI 0) dX2_init_111 (by decide) ?_
          refine C.istore (lv' := [(0, _), (1, _), (2, _), (3, _), (4, _), (5, _)]) dX2_init_112 (nLt hX rfl) rfl ?_
          exact inner hkl (W * H + 1) 0 M1 (by omega) (by omega) hP
    refine C.iconst (nI 0) dX2_init_98 (by decide) ?_
    refine C.istore (lv' := [(0, _), (1, _), (2, _), (3, _), (4, _)]) dX2_init_99 (nLt hX rfl) rfl ?_
    exact outer (W * H + 1) 0 M (by omega) (by omega) ⟨rfl, rfl, fun _ _ _ => rfl, fun j hj => by omega, (m11 (L + 15) (by omega) (by omega) 0).2, fun j hj => (m11 (L + 15) (by omega) (by omega) j).2⟩
  refine C.aload_n dX2_init_0 0 rfl ?_
  refine C.objI oX2_3 dX2_init_1 (by omega) (Nat.le_of_ble_eq_true rfl) oi_1 oi_2 ?_
  refine C.aload_n dX2_init_4 0 rfl ?_
  refine C.iconst (nI 5) dX2_init_5 (by decide) ?_
  refine C.newa (t := 0) (by decide) rfl ac_int dX2_init_6 rfl (by decide) (by omega) (by omega) ?_
  have h1 := h0.newa 0 5
  refine C.putA fX2_9 (Or.inr ⟨hnm, rfl⟩) dX2_init_8 h1.1.2.2.1 ?_
  have h2 := h1.putR 4 (mN μ) (by simp)
  refine C.aload_n dX2_init_11 0 rfl ?_
  refine C.iconst (nI 5) dX2_init_12 (by decide) ?_
  refine C.newa (t := 0) (by decide) rfl ac_int dX2_init_13 rfl (by decide) (by omega) (by omega) ?_
  have h3 := h2.newa 0 5
  refine C.putA fX2_15 (Or.inr ⟨hnm, rfl⟩) dX2_init_15 h3.1.2.2.1 ?_
  have h4 := h3.putR 5 (mN μ + 1) (by simp)
  refine C.aload_n dX2_init_18 0 rfl ?_
  refine C.bipush (nI 6) dX2_init_19 (by decide) ?_
  refine C.newa (t := 0) (by decide) rfl ac_int dX2_init_21 rfl (by decide) (by omega) (by omega) ?_
  have h5 := h4.newa 0 6
  refine C.putA fX2_18 (Or.inr ⟨hnm, rfl⟩) dX2_init_23 h5.1.2.2.1 ?_
  have h6 := h5.putR 6 (mN μ + 2) (by simp)
  refine C.aload_n dX2_init_26 0 rfl ?_
  refine C.bipush (nI 6) dX2_init_27 (by decide) ?_
  refine C.newa (t := 0) (by decide) rfl ac_int dX2_init_29 rfl (by decide) (by omega) (by omega) ?_
  have h7 := h6.newa 0 6
  refine C.putA fX2_21 (Or.inr ⟨hnm, rfl⟩) dX2_init_31 h7.1.2.2.1 ?_
  have h8 := h7.putR 7 (mN μ + 3) (by simp)
  refine C.aload_n dX2_init_34 0 rfl ?_
  refine C.bipush (nI 6) dX2_init_35 (by decide) ?_
  refine C.bipush (nI 12) dX2_init_37 (by decide) ?_
  refine C.mna ⟨mn_24, ac_int⟩ dX2_init_39 rfl rfl (by decide) (by decide) (by omega) (by omega) ?_
  have h9 := h8.mna 6 12
  refine C.putA fX2_26 (Or.inr ⟨hnm, rfl⟩) dX2_init_43 h9.1.1.2.2.1 ?_
  have h10 := h9.1.putR 8 (mN μ + 4) (by simp)
  refine C.aload_n dX2_init_46 0 rfl ?_
  refine C.iconst (nI 2) dX2_init_47 (by decide) ?_
  refine C.bipush (nI 6) dX2_init_48 (by decide) ?_
  refine C.mna ⟨mn_24, ac_int⟩ dX2_init_50 rfl rfl (by decide) (by decide) (by omega) (by omega) ?_
  have h11 := h10.mna 2 6
  refine C.putA fX2_29 (Or.inr ⟨hnm, rfl⟩) dX2_init_54 h11.1.1.2.2.1 ?_
  have h12 := h11.1.putR 9 (mN μ + 11) (by simp)
  refine C.aload_n dX2_init_57 0 rfl ?_
  refine C.bipush (nI 12) dX2_init_58 (by decide) ?_
  refine C.putI fX2_32 (Or.inl rfl) dX2_init_60 h12.1.2.2.1 ?_
  have h13 := h12.putI 13 (nI 12)
  refine C.aload_n dX2_init_63 0 rfl ?_
  refine C.bipush (nI 20) dX2_init_64 (by decide) ?_
  refine C.putI fX2_36 (Or.inl rfl) dX2_init_66 h13.1.2.2.1 ?_
  have h14 := h13.putI 14 (nI 20)
  refine C.aload_n dX2_init_69 0 rfl ?_
  refine C.iconst (nI 1) dX2_init_70 (by decide) ?_
  refine C.putI fX2_39 (Or.inl rfl) dX2_init_71 h14.1.2.2.1 ?_
  have h15 := h14.putI 16 (nI 1)
  refine C.aload_n dX2_init_74 0 rfl ?_
  refine C.iload_n dX2_init_75 1 rfl ?_
  refine C.putI fX2_42 (Or.inr ⟨hnm, rfl⟩) dX2_init_76 h15.1.2.2.1 ?_
  have h16 := h15.putI 0 (nI W)
  refine C.aload_n dX2_init_79 0 rfl ?_
  refine C.iload_n dX2_init_80 2 rfl ?_
  refine C.putI fX2_45 (Or.inr ⟨hnm, rfl⟩) dX2_init_81 h16.1.2.2.1 ?_
  have h17 := h16.putI 1 (nI H)
  refine C.aload_n dX2_init_84 0 rfl ?_
  refine C.iload_n dX2_init_85 3 rfl ?_
  refine C.putI fX2_48 (Or.inr ⟨hnm, rfl⟩) dX2_init_86 h17.1.2.2.1 ?_
  have h18 := h17.putI 2 x
  refine C.aload_n dX2_init_89 0 rfl ?_
  refine C.iload_n dX2_init_90 1 rfl ?_
  refine C.iload_n dX2_init_91 2 rfl ?_
  refine C.imul dX2_init_92 ?_
  rw [pk_mul]
  refine C.newa (t := 1) (by decide) rfl ac_long dX2_init_93 rfl (by omega) (by omega) (by omega) ?_
  have h19 := h18.newa 1 (W * H)
  refine C.putA fX2_51 (Or.inr ⟨hnm, rfl⟩) dX2_init_95 h19.1.2.2.1 ?_
  have h20 := h19.putR 3 (mN μ + 14) (by simp)
  exact fin _ _ _ (by omega) (by omega) h20 (fun i hi => (h9.2 i hi).grw (nG_g _ _ _ |>.trans (Grw.new _ _ _))) (fun i hi => (h11.2 i hi).grw (Grw.new _ _ _))
end KLI
