/-! the state that both tell of, and how the reference holds it -/

abbrev Wk : Type := Nat × Nat × Nat × Nat
abbrev St : Type := (Nat × Nat) × List Wk × List Wk
abbrev Hs : Type := List Nat × (Int32 × Int32) × (Nat → Int32) × Ld × St × List St × List (Nat × Nat) × List Nat × Nat
abbrev tpH (h : Hs) : List Nat := h.1
abbrev flH (h : Hs) : Int32 × Int32 := h.2.1
abbrev rfH (h : Hs) : Nat → Int32 := h.2.2.1
abbrev ldH (h : Hs) : Ld := h.2.2.2.1
abbrev stH (h : Hs) : St := h.2.2.2.2.1
abbrev psH (h : Hs) : List St := h.2.2.2.2.2.1
abbrev rwH (h : Hs) : List (Nat × Nat) := h.2.2.2.2.2.2.1
abbrev ocH (h : Hs) : List Nat := h.2.2.2.2.2.2.2.1
abbrev sdH (h : Hs) : Nat := h.2.2.2.2.2.2.2.2
def nowR (f : Nat → Int32) (S : St) : Prop := f 0 = nI S.1.1 ∧ f 1 = nI S.1.2 ∧ (∀ i x, S.2.1[i]? = some x → f (2 + 4 * i) = nI x.1 ∧ f (3 + 4 * i) = nI x.2.1 ∧ f (4 + 4 * i) = nI x.2.2.1 ∧ f (5 + 4 * i) = nI x.2.2.2) ∧ f 26 = nI S.2.2.length ∧ (∀ i x, S.2.2[i]? = some x → f (27 + 4 * i) = nI x.1 ∧ f (28 + 4 * i) = nI x.2.1 ∧ f (29 + 4 * i) = nI x.2.2.1 ∧ f (30 + 4 * i) = nI x.2.2.2)
def SWf (d : Ld) (S : St) : Prop := S.1.1 ≤ 999 ∧ S.1.2 < 2 ^ d.2.2.1.length ∧ S.2.1.length = d.2.2.2.1.length ∧ (∀ x ∈ S.2.1, x.1 ≤ 3 ∧ x.2.1 ≤ 9999 ∧ x.2.2.1 ≤ 9999 ∧ x.2.2.2 ≤ 99) ∧ S.2.2.length ≤ 40 ∧ (∀ x ∈ S.2.2, x.1 ≤ 999 ∧ x.2.1 < 12 ∧ x.2.2.1 < 6 ∧ x.2.2.2 < 2)
def Ld0 : Ld := ((0, 0, 0), [], [], [], (12, 20, 0), fun _ => none)
def LdOk (d : Ld) : Prop := Wf d ∨ d = Ld0
def HWf (h : Hs) : Prop := LdOk (ldH h) ∧ SWf (ldH h) (stH h) ∧ ((psH h).length ≤ 20 ∧ ∀ S ∈ psH h, SWf (ldH h) S) ∧ ((rwH h).length ≤ 12 ∧ ∀ x ∈ rwH h, x.1 < 12 ∧ clOk (ldH h) x.2) ∧ ((tpH h).length ≤ 1600 ∧ ∀ x ∈ tpH h, x < 256) ∧ sdH h < 2 ^ 31
def RfB (μ : Mm) : Prop := ShM μ ∧ WdM μ ∧ mI μ 179 66 = -1 ∧ mI μ 179 67 = nI 0
def RfT (μ : Mm) (tp : List Nat) : Prop := mI μ 179 1 = nI tp.length ∧ tp.length ≤ 1600 ∧ ∀ j x, tp[j]? = some x → mI μ 180 j = nI x ∧ x < 256
def RfF (μ : Mm) (fl : Int32 × Int32) : Prop := mI μ 179 7 = fl.1 ∧ mI μ 179 8 = fl.2
def RfR (μ : Mm) (rf : Nat → Int32) : Prop := ∀ k, k < 6 → mI μ 181 k = rf k
def RfL (μ : Mm) (d : Ld) : Prop := LmH μ 1 1600 d ∧ mI μ 179 57 = (if 0 < d.1.1 then nI 1 else nI 0)
def RfN (μ : Mm) (S : St) : Prop := nowR (mI μ 225) S
def RfP (μ : Mm) (ps : List St) : Prop := mI μ 179 76 = nI ps.length ∧ ∃ nw, nw < 20 ∧ mI μ 179 77 = nI nw ∧ ∀ i S, ps[i]? = some S → nowR (fun k => mI μ 232 (187 * ((nw + 20 - i) % 20) + k)) S
def RfW (μ : Mm) (rw : List (Nat × Nat)) : Prop := mI μ 179 72 = nI rw.length ∧ ∀ i x, rw[i]? = some x → mI μ 230 (2 * i) = nI x.1 ∧ mI μ 230 (2 * i + 1) = nI x.2
def RfO (μ : Mm) (oc : List Nat) : Prop := mI μ 179 112 = nI oc.length ∧ oc.length ≤ 40 ∧ ∀ i x, oc[i]? = some x → mI μ 258 i = nI x
def RfD (μ : Mm) (sd : Nat) : Prop := mL μ 179 78 = lN sd
def RefRel (μ : Mm) (h : Hs) : Prop := RfB μ ∧ RfT μ (tpH h) ∧ RfF μ (flH h) ∧ RfR μ (rfH h) ∧ RfL μ (ldH h) ∧ RfN μ (stH h) ∧ RfP μ (psH h) ∧ RfW μ (rwH h) ∧ RfO μ (ocH h) ∧ RfD μ (sdH h)
/-- the other's cells are as before -/
def FrR (μ μ' : Mm) : Prop := μ'.2.2 = μ.2.2 ∧ ∀ a k, a < 179 ∨ 258 < a → mI μ' a k = mI μ a k ∧ mL μ' a k = mL μ a k
section RFOF
variable {μ μ' : Mm}
theorem FrR.refl (μ : Mm) : FrR μ μ := ⟨rfl, fun _ _ _ => ⟨rfl, rfl⟩⟩
theorem FrR.trans {μ'' : Mm} (h : FrR μ μ') (h2 : FrR μ' μ'') : FrR μ μ'' := ⟨h2.1.trans h.1, fun a k q => ⟨(h2.2 a k q).1.trans (h.2 a k q).1, (h2.2 a k q).2.trans (h.2 a k q).2⟩⟩
theorem RfB.of (h : RfB μ) (e : μ'.2.2 = μ.2.2) (h1 : ∀ a k, (181 < a ∧ a < 215) ∨ (232 < a ∧ a < 255) → mI μ' a k = mI μ a k) (h2 : mI μ' 179 66 = mI μ 179 66) (h3 : mI μ' 179 67 = mI μ 179 67) : RfB μ' := ⟨h.1.of e, fun a ws hm i hi => by
  have := wdT_t _ hm
  have h4 := wdT_ok _ hm
  dsimp only at this h4
  by_cases q : a = 181
  · exfalso
    have h5 := h.1.a9
    have h6 := WdM.isA h.1 hm
    rw [q] at h6
    have e1 := h5.2
    have e2 := h6.2
    rw [e1] at e2
    cases e2
  · rw [h1 a i (by omega)]; exact h.2.1 a ws hm i hi, by rw [h2]; exact h.2.2.1, by rw [h3]; exact h.2.2.2⟩
theorem RfT.of {tp : List Nat} (h : RfT μ tp) (h1 : mI μ' 179 1 = mI μ 179 1) (h2 : ∀ k, mI μ' 180 k = mI μ 180 k) : RfT μ' tp := ⟨by rw [h1]; exact h.1, h.2.1, fun j x q => by rw [h2]; exact h.2.2 j x q⟩
theorem RfF.of {fl : Int32 × Int32} (h : RfF μ fl) (h1 : mI μ' 179 7 = mI μ 179 7) (h2 : mI μ' 179 8 = mI μ 179 8) : RfF μ' fl := ⟨by rw [h1]; exact h.1, by rw [h2]; exact h.2⟩
theorem RfR.of {rf : Nat → Int32} (h : RfR μ rf) (h1 : ∀ k, mI μ' 181 k = mI μ 181 k) : RfR μ' rf := fun k q => by rw [h1]; exact h k q
theorem LmH.of {c : Nat} {d : Ld} (h : LmH μ 1 c d) (h1 : ∀ a k, (a = 215 ∨ a = 216 ∨ a = 221 ∨ a = 222 ∨ a = 223) → 3 ≤ k → k < 6 → mI μ' a k = mI μ a k) (h2 : ∀ a k, a = 218 ∨ a = 219 → 10 ≤ k → mI μ' a k = mI μ a k) (h3 : ∀ k, 30 ≤ k → mI μ' 220 k = mI μ 220 k) (h4 : ∀ k, 1600 ≤ k → mI μ' 224 k = mI μ 224 k) (h5 : ∀ k, 12 ≤ k → mL μ' 217 k = mL μ 217 k) : LmH μ' 1 c d := by
  obtain ⟨⟨a1, a2, a3⟩, b, c1, d1, e1⟩ := h
  refine ⟨⟨⟨by rw [h1 _ _ (by decide) (by decide) (by decide)]; exact a1.1, by rw [h1 _ _ (by decide) (by decide) (by decide)]; exact a1.2.1, by rw [h1 _ _ (by decide) (by decide) (by decide)]; exact a1.2.2⟩, ⟨by rw [h1 _ _ (by decide) (by decide) (by decide)]; exact a2.1, by rw [h1 _ _ (by decide) (by decide) (by decide)]; exact a2.2.1, by rw [h1 _ _ (by decide) (by decide) (by decide)]; exact a2.2.2⟩, ⟨by rw [h1 _ _ (by decide) (by decide) (by decide)]; exact a3.1, by rw [h1 _ _ (by decide) (by decide) (by decide)]; exact a3.2.1, by rw [h1 _ _ (by decide) (by decide) (by decide)]; exact a3.2.2⟩⟩, fun i x q => by rw [h2 _ _ (by decide) (by omega)]; exact b i x q, fun i x q => by rw [h2 _ _ (by decide) (by omega), h2 _ _ (by decide) (by omega), h5 _ (by omega)]; exact c1 i x q, fun i x q => by rw [h3 _ (by omega), h3 _ (by omega), h3 _ (by omega), h5 _ (by omega)]; exact d1 i x q, fun w hw => ?_⟩
  obtain ⟨k1, k2⟩ := e1 w hw
  refine ⟨fun q => by rw [h1 _ _ (by decide) (by omega) (by omega)]; exact k1 q, fun cs q => ?_⟩
  obtain ⟨f, f1, f2, f3, f4⟩ := k2 cs q
  exact ⟨f, f1, by rw [h1 _ _ (by decide) (by omega) (by omega)]; exact f2, by rw [h1 _ _ (by decide) (by omega) (by omega)]; exact f3, fun i hi => by rw [h4 _ (by omega)]; exact f4 i hi⟩
theorem nowR.of {f g : Nat → Int32} {S : St} (h : nowR f S) (e : ∀ k, g k = f k) : nowR g S := by
  have : g = f := funext e
  rw [this]; exact h
theorem RfP.of {ps : List St} (h : RfP μ ps) (h1 : mI μ' 179 76 = mI μ 179 76) (h2 : mI μ' 179 77 = mI μ 179 77) (h3 : ∀ k, mI μ' 232 k = mI μ 232 k) : RfP μ' ps := by
  obtain ⟨a, nw, b, c, d⟩ := h
  exact ⟨by rw [h1]; exact a, nw, b, by rw [h2]; exact c, fun i S q => (d i S q).of (fun k => h3 _)⟩
theorem RfW.of {rw : List (Nat × Nat)} (h : RfW μ rw) (h1 : mI μ' 179 72 = mI μ 179 72) (h2 : ∀ k, mI μ' 230 k = mI μ 230 k) : RfW μ' rw := ⟨by rw [h1]; exact h.1, fun i x q => by rw [h2, h2]; exact h.2 i x q⟩
theorem RfO.of {oc : List Nat} (h : RfO μ oc) (h1 : mI μ' 179 112 = mI μ 179 112) (h2 : ∀ k, mI μ' 258 k = mI μ 258 k) : RfO μ' oc := ⟨by rw [h1]; exact h.1, h.2.1, fun i x q => by rw [h2]; exact h.2.2 i x q⟩
end RFOF
/-- what the reference keeps -/
def KpI (a k : Nat) : Prop := (180 ≤ a ∧ a ≤ 214) ∨ (233 ≤ a ∧ a ≤ 254) ∨ ((a = 215 ∨ a = 216 ∨ a = 221 ∨ a = 222 ∨ a = 223) ∧ 3 ≤ k) ∨ ((a = 218 ∨ a = 219) ∧ 10 ≤ k) ∨ (a = 220 ∧ 30 ≤ k) ∨ (a = 224 ∧ 1600 ≤ k) ∨ a = 225 ∨ a = 230 ∨ a = 232 ∨ a = 258 ∨ (a = 179 ∧ (k = 66 ∨ k = 67 ∨ k = 1 ∨ k = 7 ∨ k = 8 ∨ k = 57 ∨ k = 76 ∨ k = 77 ∨ k = 72 ∨ k = 112))
theorem RefRel.of {μ μ' : Mm} {h : Hs} (r : RefRel μ h) (e : μ'.2.2 = μ.2.2) (hI : ∀ a k, KpI a k → mI μ' a k = mI μ a k) (hL : ∀ k, 12 ≤ k → mL μ' 217 k = mL μ 217 k) (hD : mL μ' 179 78 = mL μ 179 78) : RefRel μ' h := by
  obtain ⟨r1, r2, r3, r4, r5, r6, r7, r8, r9, r10⟩ := r
  refine ⟨r1.of e (fun a k q => hI a k (by unfold KpI; omega)) (hI _ _ (by unfold KpI; omega)) (hI _ _ (by unfold KpI; omega)), r2.of (hI _ _ (by unfold KpI; omega)) (fun k => hI _ _ (by unfold KpI; omega)), r3.of (hI _ _ (by unfold KpI; omega)) (hI _ _ (by unfold KpI; omega)), r4.of (fun k => hI _ _ (by unfold KpI; omega)), ⟨r5.1.of (fun a k q h3 h6 => hI _ _ (by unfold KpI; omega)) (fun a k q h3 => hI _ _ (by unfold KpI; omega)) (fun k q => hI _ _ (by unfold KpI; omega)) (fun k q => hI _ _ (by unfold KpI; omega)) hL, by rw [hI _ _ (by unfold KpI; omega)]; exact r5.2⟩, nowR.of r6 (fun k => hI _ _ (by unfold KpI; omega)), r7.of (hI _ _ (by unfold KpI; omega)) (hI _ _ (by unfold KpI; omega)) (fun k => hI _ _ (by unfold KpI; omega)), r8.of (hI _ _ (by unfold KpI; omega)) (fun k => hI _ _ (by unfold KpI; omega)), r9.of (hI _ _ (by unfold KpI; omega)) (fun k => hI _ _ (by unfold KpI; omega)), by unfold RfD; rw [hD]; exact r10⟩
