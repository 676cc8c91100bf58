/-! the reference: a land stands -/

/-- rows copied within themselves -/
def Cp (P : Nat → Prop) (off k : Nat) (μ μ' : Mm) : Prop := μ'.2 = μ.2 ∧ (∀ a j, P a → j < k → mI μ' a (off + j) = mI μ a j) ∧ (∀ a j, ¬ (P a ∧ off ≤ j ∧ j < off + k) → mI μ' a j = mI μ a j)
theorem Cp.zero (P : Nat → Prop) (off : Nat) (μ : Mm) : Cp P off 0 μ μ := ⟨rfl, fun a j _ h => by omega, fun _ _ _ => rfl⟩
def stp : List Nat → Nat → Nat → Mm → Mm
  | [], _, _, μ => μ
  | A :: As, off, k, μ => stp As off k (sI μ A (off + k) (mI μ A k))
theorem stp_2 : ∀ (As : List Nat) (off k : Nat) (μ : Mm), (stp As off k μ).2 = μ.2
  | [], _, _, _ => rfl
  | A :: As, off, k, μ => by unfold stp; rw [stp_2 As]; rfl
theorem stp_on : ∀ (As : List Nat) (off k : Nat) (μ : Mm) (a : Nat), k < off → a ∈ As → mI (stp As off k μ) a (off + k) = mI μ a k
  | [], _, _, _, a, _, h => by cases h
  | A :: As, off, k, μ, a, hk, h => by
    unfold stp
    by_cases ha : a ∈ As
    · rw [stp_on As off k _ a hk ha, mI_sI, if_neg (by omega)]
    · have haA : a = A := (List.mem_cons.mp h).resolve_right ha
      have off2 : ∀ (As : List Nat) (μ : Mm) (j : Nat), a ∉ As → mI (stp As off k μ) a j = mI μ a j := by
        intro As
        induction As with
        | nil => intro μ j _; rfl
        | cons B As ih =>
          intro μ j hn
          unfold stp
          rw [ih _ j (fun q => hn (List.mem_cons_of_mem _ q)), mI_sI, if_neg (fun q => hn (by rw [q.1]; exact List.mem_cons_self))]
      rw [off2 As _ _ ha, mI_sI, if_pos ⟨haA, rfl⟩, haA]
theorem stp_off : ∀ (As : List Nat) (off k : Nat) (μ : Mm) (a j : Nat), ¬ (a ∈ As ∧ j = off + k) → mI (stp As off k μ) a j = mI μ a j
  | [], _, _, _, _, _, _ => rfl
  | A :: As, off, k, μ, a, j, h => by
    unfold stp
    rw [stp_off As off k _ a j (fun q => h ⟨List.mem_cons_of_mem _ q.1, q.2⟩), mI_sI, if_neg (fun q => h ⟨by rw [q.1]; exact List.mem_cons_self, q.2⟩)]
theorem Cp.step {P : Nat → Prop} {off k : Nat} {μ μ' : Mm} (h : Cp P off k μ μ') {As : List Nat} (hP : ∀ a, P a ↔ a ∈ As) (hk : k < off) : Cp P off (k + 1) μ (stp As off k μ') := by
  refine ⟨by rw [stp_2]; exact h.1, fun a j ha hj => ?_, fun a j hn => ?_⟩
  · by_cases hjk : j = k
    · rw [hjk, stp_on As off k μ' a hk ((hP a).mp ha), h.2.2 a k (by omega)]
    · rw [stp_off As off k μ' a _ (fun q => by omega)]
      exact h.2.1 a j ha (by omega)
  · rw [stp_off As off k μ' a j (fun q => hn ⟨(hP a).mpr q.1, by omega, by omega⟩)]
    exact h.2.2 a j (fun q => hn ⟨q.1, q.2.1, by omega⟩)
/-- what stands may touch -/
def StU (c a k : Nat) : Prop := ((a = 215 ∨ a = 216 ∨ a = 221 ∨ a = 222 ∨ a = 223) ∧ 3 ≤ k ∧ k < 6) ∨ ((a = 218 ∨ a = 219) ∧ 10 ≤ k ∧ k < 20) ∨ (a = 220 ∧ 30 ≤ k ∧ k < 60) ∨ (a = 224 ∧ 1600 ≤ k ∧ k < 1600 + c) ∨ (a = 225 ∧ k < 187) ∨ (a = 179 ∧ (k = 57 ∨ k = 72 ∨ k = 76))
def StP (μ μ' : Mm) (c nw : Nat) : Prop := μ'.2.2 = μ.2.2 ∧ (∀ k, k < 12 → mL μ' 217 (12 + k) = mL μ 217 k) ∧ (∀ a k, ¬ (a = 217 ∧ 12 ≤ k ∧ k < 24) → mL μ' a k = mL μ a k) ∧ (∀ a k, (a = 215 ∨ a = 216 ∨ a = 221 ∨ a = 222 ∨ a = 223) → k < 3 → mI μ' a (3 + k) = mI μ a k) ∧ (∀ a k, (a = 218 ∨ a = 219) → k < 10 → mI μ' a (10 + k) = mI μ a k) ∧ (∀ k, k < 30 → mI μ' 220 (30 + k) = mI μ 220 k) ∧ (∀ k, k < c → mI μ' 224 (1600 + k) = mI μ 224 k) ∧ (∀ w, w < nw → mI μ' 225 (2 + 4 * w) = mI μ 220 (5 * w + 2)) ∧ (∀ k, k < 187 → ¬ (∃ w, w < nw ∧ k = 2 + 4 * w) → mI μ' 225 k = 0) ∧ (mI μ' 179 57 = nI 1 ∧ mI μ' 179 72 = nI 0 ∧ mI μ' 179 76 = nI 0) ∧ (∀ a k, ¬ StU c a k → mI μ' a k = mI μ a k)
def P1 (a : Nat) : Prop := a = 216 ∨ a = 215 ∨ a = 221 ∨ a = 222 ∨ a = 223
def P3 (a : Nat) : Prop := a = 218 ∨ a = 219
def P4 (a : Nat) : Prop := a = 220
def P5 (a : Nat) : Prop := a = 224
def CpN (k : Nat) (μ μ' : Mm) : Prop := μ'.2.2 = μ.2.2 ∧ (∀ a j, mI μ' a j = mI μ a j) ∧ (∀ j, j < k → mL μ' 217 (12 + j) = mL μ 217 j) ∧ (∀ a j, ¬ (a = 217 ∧ 12 ≤ j ∧ j < 12 + k) → mL μ' a j = mL μ a j)
def Z7 (k : Nat) (μ μ' : Mm) : Prop := μ'.2 = μ.2 ∧ (∀ j, j < k → mI μ' 225 j = nI 0) ∧ (∀ a j, ¬ (a = 225 ∧ j < k) → mI μ' a j = mI μ a j)
def W7 (nw : Nat) (μ6 μ' : Mm) : Prop := μ'.2 = μ6.2 ∧ (∀ w, w < nw → mI μ' 225 (2 + 4 * w) = mI μ6 220 (5 * w + 2)) ∧ (∀ a k, ¬ (a = 225 ∧ ∃ w, w < nw ∧ k = 2 + 4 * w) → ¬ (a = 179 ∧ (k = 72 ∨ k = 76)) → mI μ' a k = mI μ6 a k) ∧ mI μ' 179 72 = nI 0 ∧ mI μ' 179 76 = nI 0
theorem StP_of {μ μ1 μ2 μ3 μ4 μ5 μ6 μ7 : Mm} {c nw : Nat} (hn : nw ≤ 6) (h1 : Cp P1 3 3 (sI μ 179 57 (nI 1)) μ1) (h2 : CpN 12 μ1 μ2) (h3 : Cp P3 10 10 μ2 μ3) (h4 : Cp P4 30 30 μ3 μ4) (h5 : Cp P5 1600 c μ4 μ5) (h6 : Z7 187 μ5 μ6) (h7 : W7 nw μ6 μ7) : StP μ μ7 c nw := by
  obtain ⟨a1, b1, c1⟩ := h1
  obtain ⟨a2, b2, c2, d2⟩ := h2
  obtain ⟨a3, b3, c3⟩ := h3
  obtain ⟨a4, b4, c4⟩ := h4
  obtain ⟨a5, b5, c5⟩ := h5
  obtain ⟨a6, b6, c6⟩ := h6
  obtain ⟨a7, b7, c7, d7, e7⟩ := h7
  have hL : ∀ a k, mL μ7 a k = mL μ2 a k := fun a k => by unfold mL; rw [a7, a6, a5, a4, a3]
  have hL1 : ∀ a k, mL μ1 a k = mL μ a k := fun a k => by unfold mL; rw [a1]; rfl
  have q1 : ∀ a k, ¬ ((a = 215 ∨ a = 216 ∨ a = 221 ∨ a = 222 ∨ a = 223) ∧ 3 ≤ k ∧ k < 6) → ¬ (a = 179 ∧ k = 57) → mI μ2 a k = mI μ a k := fun a k h h' => by
    rw [b2, c1 a k (by unfold P1; omega), mI_sI, if_neg h']
  have q2 : ∀ a k, ¬ (a = 225 ∧ k < 187) → ¬ (a = 179 ∧ (k = 72 ∨ k = 76)) → mI μ7 a k = mI μ5 a k := fun a k h h' => by
    rw [c7 a k (fun q => h ⟨q.1, by obtain ⟨w, w1, w2⟩ := q.2; omega⟩) h', c6 a k h]
  have q3 : ∀ a k, a ≠ 218 → a ≠ 219 → a ≠ 220 → a ≠ 224 → mI μ5 a k = mI μ2 a k := fun a k h1 h2 h3 h4 => by
    rw [c5 a k (by unfold P5; omega), c4 a k (by unfold P4; omega), c3 a k (by unfold P3; omega)]
  refine ⟨by rw [a7, a6, a5, a4, a3, a2, a1]; rfl, fun k hk => by rw [hL, c2 k hk, hL1], fun a k h => by rw [hL, d2 a k (by omega), hL1], fun a k h hk => ?_, fun a k h hk => ?_, fun k hk => ?_, fun k hk => ?_, fun w hw => ?_, fun k hk hn => ?_, ⟨?_, d7, e7⟩, fun a k h => ?_⟩
  · rw [q2 a _ (by omega) (by omega), q3 a _ (by omega) (by omega) (by omega) (by omega), b2, b1 a k (by unfold P1; omega) hk, mI_sI, if_neg (by omega)]
  · rw [q2 a _ (by omega) (by omega), c5 a _ (by unfold P5; omega), c4 a _ (by unfold P4; omega), b3 a k h hk, q1 a k (by omega) (by omega)]
  · rw [q2 220 _ (by omega) (by omega), c5 220 _ (by unfold P5; omega), b4 220 k rfl hk, c3 220 _ (by unfold P3; omega), q1 220 k (by omega) (by omega)]
  · rw [q2 224 _ (by omega) (by omega), b5 224 k rfl hk, c4 224 _ (by unfold P4; omega), c3 224 _ (by unfold P3; omega), q1 224 k (by omega) (by omega)]
  · rw [b7 w hw, c6 220 _ (by omega), c5 220 _ (by unfold P5; omega), c4 220 _ (by unfold P4; omega), c3 220 _ (by unfold P3; omega), q1 220 _ (by omega) (by omega)]
  · rw [c7 225 k (fun q => hn q.2) (by omega), b6 k hk]; rfl
  · rw [q2 179 57 (by omega) (by omega), q3 179 57 (by omega) (by omega) (by omega) (by omega), b2, c1 179 57 (by unfold P1; omega), mI_sI, if_pos ⟨rfl, rfl⟩]
  · unfold StU at h
    rw [q2 a k (by omega) (by omega), c5 a k (by unfold P5; omega), c4 a k (by unfold P4; omega), c3 a k (by unfold P3; omega), q1 a k (by omega) (by omega)]
section KMSD
variable {l : Launch} {G : Gm} {μ : Mm}
theorem km_stands (hS : ShM μ) {c nw : Nat} (hc : mI μ 179 55 = nI c) (hc2 : c ≤ 1600) (hw : mI μ 216 1 = nI nw) (hw2 : nw ≤ 6) : AMet l G 0 0 0 mtX13_stands [.ref (G.1 + 179)] μ (qV (fun μ' => StP μ μ' c nw)) := by
  refine AMet.of (by decide) (Nat.le_of_ble_eq_true rfl) (fun X C hX hnm hq => ?_)
  have hS0 := hS
  -- the last rows, backwards
  have l7 : ∀ (μ6 : Mm), μ6.2.2 = μ.2.2 → mI μ6 216 1 = nI nw → (∀ μ' : Mm, W7 nw μ6 μ' → StP μ μ' c nw) → ∀ (n k : Nat) (μk : Mm), nw - k < n → k ≤ nw → μk.2 = μ6.2 → (∀ w, w < k → mI μk 225 (2 + 4 * w) = mI μ6 220 (5 * w + 2)) → (∀ a j, ¬ (a = 225 ∧ ∃ w, w < k ∧ j = 2 + 4 * w) → mI μk a j = mI μ6 a j) → AW l G X 0 0 246 [(0, .ref (G.1 + 179)), (1, .int (nI k))] [] μk := by
    intro μ6 h6 hnw fin n
    induction n with
    | zero => intro k μk h; omega
    | succ n ih =>
      intro k μk hn hk hm hon hoff
      have hS : ShM μk := hS0.of (by rw [hm]; exact h6)
      refine C.iload_n dX13_stands_246 1 rfl ?_
      refine C.aload_n dX13_stands_247 0 rfl ?_
      refine C.getA fX13_123 dX13_stands_248 hS.o hS.r46 ?_
      refine C.iconst (nI 1) dX13_stands_251 (by decide) ?_
      refine C.iald hS.a46 (n_in (by decide)) dX13_stands_252 ?_
      rw [n_cl, hoff 216 1 (by omega), hnw]
      refine C.icmp_ge 282 dX13_stands_253 rfl (fun hc253 => ?_) (fun hc253 => ?_)
      · have hge := n_le hc253
        have hkk : k = nw := by omega
        subst hkk
        refine C.aload_n dX13_stands_282 0 rfl ?_
        refine C.iconst (nI 0) dX13_stands_283 (by decide) ?_
        refine C.putI fX13_407 (Or.inl rfl) dX13_stands_284 hS.o ?_
        refine C.aload_n dX13_stands_287 0 rfl ?_
        refine C.iconst (nI 0) dX13_stands_288 (by decide) ?_
        refine C.putI fX13_410 (Or.inl rfl) dX13_stands_289 (hS.of rfl).o ?_
        refine C.vret hq dX13_stands_292 ?_
        exact fin _ ⟨hm, fun w hw => by rw [mI_sI, if_neg (by omega), mI_sI, if_neg (by omega)]; exact hon w hw, fun a j q1 q2 => by rw [mI_sI, if_neg (by omega), mI_sI, if_neg (by omega)]; exact hoff a j q1, by simp [mI_sI], by simp [mI_sI]⟩
      · have hlt := n_nle hc253
        refine C.aload_n dX13_stands_256 0 rfl ?_
        refine C.getA fX13_151 dX13_stands_257 hS.o hS.r59 ?_
        refine C.iconst (nI 2) dX13_stands_260 (by decide) ?_
        refine C.iconst (nI 4) dX13_stands_261 (by decide) ?_
        refine C.iload_n dX13_stands_262 1 rfl ?_
        refine C.imul dX13_stands_263 ?_
        rw [pk_mul]
        refine C.iadd dX13_stands_264 ?_
        rw [nI_add]
        refine C.aload_n dX13_stands_265 0 rfl ?_
        refine C.getA fX13_136 dX13_stands_266 hS.o hS.r50 ?_
        refine C.iconst (nI 5) dX13_stands_269 (by decide) ?_
        refine C.iload_n dX13_stands_270 1 rfl ?_
        refine C.imul dX13_stands_271 ?_
        rw [pk_mul]
        refine C.iconst (nI 2) dX13_stands_272 (by decide) ?_
        refine C.iadd dX13_stands_273 ?_
        rw [nI_add]
        refine C.iald hS.a50 (n_in (by omega)) dX13_stands_274 ?_
        rw [n_cl, hoff 220 _ (by omega)]
        refine C.iast hS.a59 (n_in (by omega)) dX13_stands_275 ?_
        rw [n_cl]
        refine C.iinc (lv' := [(0, _), (1, _)]) _ dX13_stands_276 1 rfl rfl (nLt hX rfl) rfl ?_
        refine C.goto 246 dX13_stands_279 rfl ?_
        have hgo := ih (k + 1) (sI μk 225 (2 + 4 * k) (mI μ6 220 (5 * k + 2))) (by omega) (by omega) hm (fun w hw => by rw [mI_sI]; by_cases q : w = k; rw [if_pos ⟨rfl, by omega⟩, q]; rw [if_neg (by omega)]; exact hon w (by omega)) (fun a j q => by rw [mI_sI, if_neg (fun z => q ⟨z.1, k, by omega, z.2⟩)]; exact hoff a j (fun z => q ⟨z.1, z.2.choose, by have := z.2.choose_spec; omega, z.2.choose_spec.2⟩))
        rw [← nI_1] at hgo
        exact hgo
  have l6 : ∀ (μ5 : Mm), μ5.2.2 = μ.2.2 → mI μ5 216 1 = nI nw → (∀ μ6 μ' : Mm, Z7 187 μ5 μ6 → W7 nw μ6 μ' → StP μ μ' c nw) → ∀ (n k : Nat) (μk : Mm), 187 - k < n → k ≤ 187 → Z7 k μ5 μk → AW l G X 0 0 224 [(0, .ref (G.1 + 179)), (1, .int (nI k))] [] μk := by
    intro μ5 h5 hnw fin n
    induction n with
    | zero => intro k μk h; omega
    | succ n ih =>
      intro k μk hn hk hZ
      have hS : ShM μk := hS0.of (by rw [hZ.1]; exact h5)
      refine C.iload_n dX13_stands_224 1 rfl ?_
      refine C.sipush (nI 187) dX13_stands_225 (by decide) ?_
      refine C.icmp_ge 244 dX13_stands_228 rfl (fun hc228 => ?_) (fun hc228 => ?_)
      · have hge := n_le (b := k) hc228
        have hkk : k = 187 := by omega
        subst hkk
        refine C.iconst (nI 0) dX13_stands_244 (by decide) ?_
        refine C.istore_n (lv' := [(0, _), (1, _)]) dX13_stands_245 (nLt hX rfl) rfl ?_
        exact l7 μk (by rw [hZ.1]; exact h5) (by rw [hZ.2.2 216 1 (by omega)]; exact hnw) (fun μ' h => fin μk μ' hZ h) (nw + 1) 0 μk (by omega) (by omega) rfl (fun w hw => by omega) (fun _ _ _ => rfl)
      · have hlt := n_nle (a := 187) (b := k) hc228
        refine C.aload_n dX13_stands_231 0 rfl ?_
        refine C.getA fX13_151 dX13_stands_232 hS.o hS.r59 ?_
        refine C.iload_n dX13_stands_235 1 rfl ?_
        refine C.iconst (nI 0) dX13_stands_236 (by decide) ?_
        refine C.iast hS.a59 (n_in (by omega)) dX13_stands_237 ?_
        rw [n_cl]
        refine C.iinc (lv' := [(0, _), (1, _)]) _ dX13_stands_238 1 rfl rfl (nLt hX rfl) rfl ?_
        refine C.goto 224 dX13_stands_241 rfl ?_
        have hgo := ih (k + 1) (sI μk 225 k (nI 0)) (by omega) (by omega) ⟨hZ.1, fun j hj => by rw [mI_sI]; by_cases q : j = k; rw [if_pos ⟨rfl, q⟩]; rw [if_neg (by omega)]; exact hZ.2.1 j (by omega), fun a j q => by rw [mI_sI, if_neg (by omega)]; exact hZ.2.2 a j (by omega)⟩
        rw [← nI_1] at hgo
        exact hgo
  have l5 : ∀ (μ4 : Mm), μ4.2.2 = μ.2.2 → mI μ4 216 1 = nI nw → mI μ4 179 55 = nI c → (∀ μ5 μ6 μ' : Mm, Cp P5 1600 c μ4 μ5 → Z7 187 μ5 μ6 → W7 nw μ6 μ' → StP μ μ' c nw) → ∀ (n k : Nat) (μk : Mm), c - k < n → k ≤ c → Cp P5 1600 k μ4 μk → AW l G X 0 0 192 [(0, .ref (G.1 + 179)), (1, .int (nI k))] [] μk := by
    intro μ4 h4 hnw hcc fin n
    induction n with
    | zero => intro k μk h; omega
    | succ n ih =>
      intro k μk hn hk hZ
      have hS : ShM μk := hS0.of (by rw [hZ.1]; exact h4)
      refine C.iload_n dX13_stands_192 1 rfl ?_
      refine C.aload_n dX13_stands_193 0 rfl ?_
      refine C.getI fX13_373 dX13_stands_194 hS.o ?_
      rw [hZ.2.2 179 55 (by unfold P5; omega), hcc]
      refine C.icmp_ge 222 dX13_stands_197 rfl (fun hc197 => ?_) (fun hc197 => ?_)
      · have hge := n_le hc197
        have hkk : k = c := by omega
        subst hkk
        refine C.iconst (nI 0) dX13_stands_222 (by decide) ?_
        refine C.istore_n (lv' := [(0, _), (1, _)]) dX13_stands_223 (nLt hX rfl) rfl ?_
        exact l6 μk (by rw [hZ.1]; exact h4) (by rw [hZ.2.2 216 1 (by unfold P5; omega)]; exact hnw) (fun μ6 μ' => fin μk μ6 μ' hZ) 188 0 μk (by omega) (by omega) ⟨rfl, fun j hj => by omega, fun _ _ _ => rfl⟩
      · have hlt := n_nle hc197
        refine C.aload_n dX13_stands_200 0 rfl ?_
        refine C.getA fX13_148 dX13_stands_201 hS.o hS.r54 ?_
        refine C.sipush (nI 1600) dX13_stands_204 (by decide) ?_
        refine C.iload_n dX13_stands_207 1 rfl ?_
        refine C.iadd dX13_stands_208 ?_
        rw [nI_add]
        refine C.aload_n dX13_stands_209 0 rfl ?_
        refine C.getA fX13_148 dX13_stands_210 hS.o hS.r54 ?_
        refine C.iload_n dX13_stands_213 1 rfl ?_
        refine C.iald hS.a54 (n_in (by omega)) dX13_stands_214 ?_
        rw [n_cl]
        refine C.iast hS.a54 (n_in (by omega)) dX13_stands_215 ?_
        rw [n_cl]
        refine C.iinc (lv' := [(0, _), (1, _)]) _ dX13_stands_216 1 rfl rfl (nLt hX rfl) rfl ?_
        refine C.goto 192 dX13_stands_219 rfl ?_
        have hgo := ih (k + 1) (stp [224] 1600 k μk) (by omega) (by omega) (hZ.step (by intro a; unfold P5; simp) (by omega))
        rw [← nI_1] at hgo
        exact hgo
  have l4 : ∀ (μ3 : Mm), μ3.2.2 = μ.2.2 → mI μ3 216 1 = nI nw → mI μ3 179 55 = nI c → (∀ μ4 μ5 μ6 μ' : Mm, Cp P4 30 30 μ3 μ4 → Cp P5 1600 c μ4 μ5 → Z7 187 μ5 μ6 → W7 nw μ6 μ' → StP μ μ' c nw) → ∀ (n k : Nat) (μk : Mm), 30 - k < n → k ≤ 30 → Cp P4 30 k μ3 μk → AW l G X 0 0 163 [(0, .ref (G.1 + 179)), (1, .int (nI k))] [] μk := by
    intro μ3 h3 hnw hcc fin n
    induction n with
    | zero => intro k μk h; omega
    | succ n ih =>
      intro k μk hn hk hZ
      have hS : ShM μk := hS0.of (by rw [hZ.1]; exact h3)
      refine C.iload_n dX13_stands_163 1 rfl ?_
      refine C.bipush (nI 30) dX13_stands_164 (by decide) ?_
      refine C.icmp_ge 190 dX13_stands_166 rfl (fun hc166 => ?_) (fun hc166 => ?_)
      · have hge := n_le (b := k) hc166
        have hkk : k = 30 := by omega
        subst hkk
        refine C.iconst (nI 0) dX13_stands_190 (by decide) ?_
        refine C.istore_n (lv' := [(0, _), (1, _)]) dX13_stands_191 (nLt hX rfl) rfl ?_
        exact l5 μk (by rw [hZ.1]; exact h3) (by rw [hZ.2.2 216 1 (by unfold P4; omega)]; exact hnw) (by rw [hZ.2.2 179 55 (by unfold P4; omega)]; exact hcc) (fun μ5 μ6 μ' => fin μk μ5 μ6 μ' hZ) (c + 1) 0 μk (by omega) (by omega) (Cp.zero _ _ _)
      · have hlt := n_nle (a := 30) (b := k) hc166
        refine C.aload_n dX13_stands_169 0 rfl ?_
        refine C.getA fX13_136 dX13_stands_170 hS.o hS.r50 ?_
        refine C.bipush (nI 30) dX13_stands_173 (by decide) ?_
        refine C.iload_n dX13_stands_175 1 rfl ?_
        refine C.iadd dX13_stands_176 ?_
        rw [nI_add]
        refine C.aload_n dX13_stands_177 0 rfl ?_
        refine C.getA fX13_136 dX13_stands_178 hS.o hS.r50 ?_
        refine C.iload_n dX13_stands_181 1 rfl ?_
        refine C.iald hS.a50 (n_in (by omega)) dX13_stands_182 ?_
        rw [n_cl]
        refine C.iast hS.a50 (n_in (by omega)) dX13_stands_183 ?_
        rw [n_cl]
        refine C.iinc (lv' := [(0, _), (1, _)]) _ dX13_stands_184 1 rfl rfl (nLt hX rfl) rfl ?_
        refine C.goto 163 dX13_stands_187 rfl ?_
        have hgo := ih (k + 1) (stp [220] 30 k μk) (by omega) (by omega) (hZ.step (by intro a; unfold P4; simp) (by omega))
        rw [← nI_1] at hgo
        exact hgo
  have l3 : ∀ (μ2 : Mm), μ2.2.2 = μ.2.2 → mI μ2 216 1 = nI nw → mI μ2 179 55 = nI c → (∀ μ3 μ4 μ5 μ6 μ' : Mm, Cp P3 10 10 μ2 μ3 → Cp P4 30 30 μ3 μ4 → Cp P5 1600 c μ4 μ5 → Z7 187 μ5 μ6 → W7 nw μ6 μ' → StP μ μ' c nw) → ∀ (n k : Nat) (μk : Mm), 10 - k < n → k ≤ 10 → Cp P3 10 k μ2 μk → AW l G X 0 0 119 [(0, .ref (G.1 + 179)), (1, .int (nI k))] [] μk := by
    intro μ2 h2 hnw hcc fin n
    induction n with
    | zero => intro k μk h; omega
    | succ n ih =>
      intro k μk hn hk hZ
      have hS : ShM μk := hS0.of (by rw [hZ.1]; exact h2)
      refine C.iload_n dX13_stands_119 1 rfl ?_
      refine C.bipush (nI 10) dX13_stands_120 (by decide) ?_
      refine C.icmp_ge 161 dX13_stands_122 rfl (fun hc122 => ?_) (fun hc122 => ?_)
      · have hge := n_le (b := k) hc122
        have hkk : k = 10 := by omega
        subst hkk
        refine C.iconst (nI 0) dX13_stands_161 (by decide) ?_
        refine C.istore_n (lv' := [(0, _), (1, _)]) dX13_stands_162 (nLt hX rfl) rfl ?_
        exact l4 μk (by rw [hZ.1]; exact h2) (by rw [hZ.2.2 216 1 (by unfold P3; omega)]; exact hnw) (by rw [hZ.2.2 179 55 (by unfold P3; omega)]; exact hcc) (fun μ4 μ5 μ6 μ' => fin μk μ4 μ5 μ6 μ' hZ) 31 0 μk (by omega) (by omega) (Cp.zero _ _ _)
      · have hlt := n_nle (a := 10) (b := k) hc122
        refine C.aload_n dX13_stands_125 0 rfl ?_
        refine C.getA fX13_130 dX13_stands_126 hS.o hS.r48 ?_
        refine C.bipush (nI 10) dX13_stands_129 (by decide) ?_
        refine C.iload_n dX13_stands_131 1 rfl ?_
        refine C.iadd dX13_stands_132 ?_
        rw [nI_add]
        refine C.aload_n dX13_stands_133 0 rfl ?_
        refine C.getA fX13_130 dX13_stands_134 hS.o hS.r48 ?_
        refine C.iload_n dX13_stands_137 1 rfl ?_
        refine C.iald hS.a48 (n_in (by omega)) dX13_stands_138 ?_
        rw [n_cl]
        refine C.iast hS.a48 (n_in (by omega)) dX13_stands_139 ?_
        rw [n_cl]
        refine C.aload_n dX13_stands_140 0 rfl ?_
        refine C.getA fX13_133 dX13_stands_141 hS.o hS.r49 ?_
        refine C.bipush (nI 10) dX13_stands_144 (by decide) ?_
        refine C.iload_n dX13_stands_146 1 rfl ?_
        refine C.iadd dX13_stands_147 ?_
        rw [nI_add]
        refine C.aload_n dX13_stands_148 0 rfl ?_
        refine C.getA fX13_133 dX13_stands_149 hS.o hS.r49 ?_
        refine C.iload_n dX13_stands_152 1 rfl ?_
        refine C.iald hS.a49 (n_in (by omega)) dX13_stands_153 ?_
        rw [n_cl]
        refine C.iast hS.a49 (n_in (by omega)) dX13_stands_154 ?_
        rw [n_cl]
        refine C.iinc (lv' := [(0, _), (1, _)]) _ dX13_stands_155 1 rfl rfl (nLt hX rfl) rfl ?_
        refine C.goto 119 dX13_stands_158 rfl ?_
        have hgo := ih (k + 1) (stp [218, 219] 10 k μk) (by omega) (by omega) (hZ.step (by intro a; unfold P3; simp) (by omega))
        rw [← nI_1] at hgo
        exact hgo
  have l2 : ∀ (μ1 : Mm), μ1.2.2 = μ.2.2 → mI μ1 216 1 = nI nw → mI μ1 179 55 = nI c → (∀ μ2 μ3 μ4 μ5 μ6 μ' : Mm, CpN 12 μ1 μ2 → Cp P3 10 10 μ2 μ3 → Cp P4 30 30 μ3 μ4 → Cp P5 1600 c μ4 μ5 → Z7 187 μ5 μ6 → W7 nw μ6 μ' → StP μ μ' c nw) → ∀ (n k : Nat) (μk : Mm), 12 - k < n → k ≤ 12 → CpN k μ1 μk → AW l G X 0 0 90 [(0, .ref (G.1 + 179)), (1, .int (nI k))] [] μk := by
    intro μ1 h1 hnw hcc fin n
    induction n with
    | zero => intro k μk h; omega
    | succ n ih =>
      intro k μk hn hk hZ
      have hS : ShM μk := hS0.of (by rw [hZ.1]; exact h1)
      refine C.iload_n dX13_stands_90 1 rfl ?_
      refine C.bipush (nI 12) dX13_stands_91 (by decide) ?_
      refine C.icmp_ge 117 dX13_stands_93 rfl (fun hc93 => ?_) (fun hc93 => ?_)
      · have hge := n_le (b := k) hc93
        have hkk : k = 12 := by omega
        subst hkk
        refine C.iconst (nI 0) dX13_stands_117 (by decide) ?_
        refine C.istore_n (lv' := [(0, _), (1, _)]) dX13_stands_118 (nLt hX rfl) rfl ?_
        exact l3 μk (by rw [hZ.1]; exact h1) (by rw [hZ.2.1 216 1]; exact hnw) (by rw [hZ.2.1 179 55]; exact hcc) (fun μ3 μ4 μ5 μ6 μ' => fin μk μ3 μ4 μ5 μ6 μ' hZ) 11 0 μk (by omega) (by omega) (Cp.zero _ _ _)
      · have hlt := n_nle (a := 12) (b := k) hc93
        refine C.aload_n dX13_stands_96 0 rfl ?_
        refine C.getA fX13_126 dX13_stands_97 hS.o hS.r47 ?_
        refine C.bipush (nI 12) dX13_stands_100 (by decide) ?_
        refine C.iload_n dX13_stands_102 1 rfl ?_
        refine C.iadd dX13_stands_103 ?_
        rw [nI_add]
        refine C.aload_n dX13_stands_104 0 rfl ?_
        refine C.getA fX13_126 dX13_stands_105 hS.o hS.r47 ?_
        refine C.iload_n dX13_stands_108 1 rfl ?_
        refine C.lald hS.a47 (n_in (by omega)) dX13_stands_109 ?_
        rw [n_cl]
        refine C.last hS.a47 (n_in (by omega)) dX13_stands_110 ?_
        rw [n_cl]
        refine C.iinc (lv' := [(0, _), (1, _)]) _ dX13_stands_111 1 rfl rfl (nLt hX rfl) rfl ?_
        refine C.goto 90 dX13_stands_114 rfl ?_
        have hgo := ih (k + 1) (sL μk 217 (12 + k) (mL μk 217 k)) (by omega) (by omega) ⟨hZ.1, hZ.2.1, fun j hj => by rw [mL_sL]; by_cases q : j = k; rw [if_pos ⟨rfl, by omega⟩, q, hZ.2.2.2 217 k (by omega)]; rw [if_neg (by omega)]; exact hZ.2.2.1 j (by omega), fun a j q => by rw [mL_sL, if_neg (by omega)]; exact hZ.2.2.2 a j (by omega)⟩
        rw [← nI_1] at hgo
        exact hgo
  have l1 : (∀ μ1 μ2 μ3 μ4 μ5 μ6 μ' : Mm, Cp P1 3 3 (sI μ 179 57 (nI 1)) μ1 → CpN 12 μ1 μ2 → Cp P3 10 10 μ2 μ3 → Cp P4 30 30 μ3 μ4 → Cp P5 1600 c μ4 μ5 → Z7 187 μ5 μ6 → W7 nw μ6 μ' → StP μ μ' c nw) → ∀ (n k : Nat) (μk : Mm), 3 - k < n → k ≤ 3 → Cp P1 3 k (sI μ 179 57 (nI 1)) μk → AW l G X 0 0 7 [(0, .ref (G.1 + 179)), (1, .int (nI k))] [] μk := by
    intro fin n
    induction n with
    | zero => intro k μk h; omega
    | succ n ih =>
      intro k μk hn hk hZ
      have hS : ShM μk := hS0.of (by rw [hZ.1]; rfl)
      refine C.iload_n dX13_stands_7 1 rfl ?_
      refine C.iconst (nI 3) dX13_stands_8 (by decide) ?_
      refine C.icmp_ge 88 dX13_stands_9 rfl (fun hc9 => ?_) (fun hc9 => ?_)
      · have hge := n_le (b := k) hc9
        have hkk : k = 3 := by omega
        subst hkk
        refine C.iconst (nI 0) dX13_stands_88 (by decide) ?_
        refine C.istore_n (lv' := [(0, _), (1, _)]) dX13_stands_89 (nLt hX rfl) rfl ?_
        exact l2 μk (by rw [hZ.1]; rfl) (by rw [hZ.2.2 216 1 (by omega), mI_sI, if_neg (by omega)]; exact hw) (by rw [hZ.2.2 179 55 (by unfold P1; omega), mI_sI, if_neg (by omega)]; exact hc) (fun μ2 μ3 μ4 μ5 μ6 μ' => fin μk μ2 μ3 μ4 μ5 μ6 μ' hZ) 13 0 μk (by omega) (by omega) ⟨rfl, fun _ _ => rfl, fun j hj => by omega, fun _ _ _ => rfl⟩
      · have hlt := n_nle (a := 3) (b := k) hc9
        refine C.aload_n dX13_stands_12 0 rfl ?_
        refine C.getA fX13_123 dX13_stands_13 hS.o hS.r46 ?_
        refine C.iconst (nI 3) dX13_stands_16 (by decide) ?_
        refine C.iload_n dX13_stands_17 1 rfl ?_
        refine C.iadd dX13_stands_18 ?_
        rw [nI_add]
        refine C.aload_n dX13_stands_19 0 rfl ?_
        refine C.getA fX13_123 dX13_stands_20 hS.o hS.r46 ?_
        refine C.iload_n dX13_stands_23 1 rfl ?_
        refine C.iald hS.a46 (n_in (by omega)) dX13_stands_24 ?_
        rw [n_cl]
        refine C.iast hS.a46 (n_in (by omega)) dX13_stands_25 ?_
        rw [n_cl]
        refine C.aload_n dX13_stands_26 0 rfl ?_
        refine C.getA fX13_120 dX13_stands_27 hS.o hS.r45 ?_
        refine C.iconst (nI 3) dX13_stands_30 (by decide) ?_
        refine C.iload_n dX13_stands_31 1 rfl ?_
        refine C.iadd dX13_stands_32 ?_
        rw [nI_add]
        refine C.aload_n dX13_stands_33 0 rfl ?_
        refine C.getA fX13_120 dX13_stands_34 hS.o hS.r45 ?_
        refine C.iload_n dX13_stands_37 1 rfl ?_
        refine C.iald hS.a45 (n_in (by omega)) dX13_stands_38 ?_
        rw [n_cl]
        refine C.iast hS.a45 (n_in (by omega)) dX13_stands_39 ?_
        rw [n_cl]
        refine C.aload_n dX13_stands_40 0 rfl ?_
        refine C.getA fX13_139 dX13_stands_41 hS.o hS.r51 ?_
        refine C.iconst (nI 3) dX13_stands_44 (by decide) ?_
        refine C.iload_n dX13_stands_45 1 rfl ?_
        refine C.iadd dX13_stands_46 ?_
        rw [nI_add]
        refine C.aload_n dX13_stands_47 0 rfl ?_
        refine C.getA fX13_139 dX13_stands_48 hS.o hS.r51 ?_
        refine C.iload_n dX13_stands_51 1 rfl ?_
        refine C.iald hS.a51 (n_in (by omega)) dX13_stands_52 ?_
        rw [n_cl]
        refine C.iast hS.a51 (n_in (by omega)) dX13_stands_53 ?_
        rw [n_cl]
        refine C.aload_n dX13_stands_54 0 rfl ?_
        refine C.getA fX13_142 dX13_stands_55 hS.o hS.r52 ?_
        refine C.iconst (nI 3) dX13_stands_58 (by decide) ?_
        refine C.iload_n dX13_stands_59 1 rfl ?_
        refine C.iadd dX13_stands_60 ?_
        rw [nI_add]
        refine C.aload_n dX13_stands_61 0 rfl ?_
        refine C.getA fX13_142 dX13_stands_62 hS.o hS.r52 ?_
        refine C.iload_n dX13_stands_65 1 rfl ?_
        refine C.iald hS.a52 (n_in (by omega)) dX13_stands_66 ?_
        rw [n_cl]
        refine C.iast hS.a52 (n_in (by omega)) dX13_stands_67 ?_
        rw [n_cl]
        refine C.aload_n dX13_stands_68 0 rfl ?_
        refine C.getA fX13_145 dX13_stands_69 hS.o hS.r53 ?_
        refine C.iconst (nI 3) dX13_stands_72 (by decide) ?_
        refine C.iload_n dX13_stands_73 1 rfl ?_
        refine C.iadd dX13_stands_74 ?_
        rw [nI_add]
        refine C.aload_n dX13_stands_75 0 rfl ?_
        refine C.getA fX13_145 dX13_stands_76 hS.o hS.r53 ?_
        refine C.iload_n dX13_stands_79 1 rfl ?_
        refine C.iald hS.a53 (n_in (by omega)) dX13_stands_80 ?_
        rw [n_cl]
        refine C.iast hS.a53 (n_in (by omega)) dX13_stands_81 ?_
        rw [n_cl]
        refine C.iinc (lv' := [(0, _), (1, _)]) _ dX13_stands_82 1 rfl rfl (nLt hX rfl) rfl ?_
        refine C.goto 7 dX13_stands_85 rfl ?_
        have hgo := ih (k + 1) (stp [216, 215, 221, 222, 223] 3 k μk) (by omega) (by omega) (hZ.step (by intro a; unfold P1; simp) (by omega))
        rw [← nI_1] at hgo
        exact hgo
  refine C.aload_n dX13_stands_0 0 rfl ?_
  refine C.iconst (nI 1) dX13_stands_1 (by decide) ?_
  refine C.putZ fX13_403 (Or.inl rfl) dX13_stands_2 hS.o (by decide) ?_
  refine C.iconst (nI 0) dX13_stands_5 (by decide) ?_
  refine C.istore_n (lv' := [(0, _), (1, _)]) dX13_stands_6 (nLt hX rfl) rfl ?_
  exact l1 (fun μ1 μ2 μ3 μ4 μ5 μ6 μ' h1 h2 h3 h4 h5 h6 h7 => StP_of hw2 h1 h2 h3 h4 h5 h6 h7) 4 0 _ (by omega) (by omega) (Cp.zero _ _ _)
end KMSD
