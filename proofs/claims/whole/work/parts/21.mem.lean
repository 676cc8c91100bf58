/-! memory rules: fields, arrays -/
theorem mE_obj {G : Gm} {μ : Mm} {a c : Nat} (h : isO μ a c) (hc : c < 100) : mE G μ a = .inr (c, (List.range (nF c)).map (fun j => mF G.1 μ (mty c j) a j)) := by
  unfold mE
  rw [h.2]
  exact if_pos hc
theorem mE_arr {G : Gm} {μ : Mm} {a t n : Nat} (h : isA μ a t n) : mE G μ a = .inl (G.2.2.2.1 t, n, mPay G.1 μ t a) := by
  unfold mE
  rw [h.2]
  have h1 : ¬ (100 + t < 100) := by omega
  have h2 : 100 + t - 100 = t := by omega
  simp only [h1, if_false, h2]
theorem rng_set {α : Type} (f g : Nat → α) (N k : Nat) (v : α) (h : ∀ j, j < N → g j = if j = k then v else f j) : ((List.range N).map f).set k v = (List.range N).map g := by
  apply List.ext_getElem?
  intro i
  by_cases hi : i < N
  · rw [List.getElem?_set, List.getElem?_map, List.getElem?_map, List.getElem?_range hi]
    by_cases hk : k = i
    · subst hk
      simp [hi, h k hi]
    · simp [hk, h i hi, Ne.symm hk]
  · have e1 : ((List.range N).map g)[i]? = none := List.getElem?_eq_none (by simp; omega)
    have e2 : (((List.range N).map f).set k v)[i]? = none := List.getElem?_eq_none (by simp; omega)
    rw [e1, e2]
theorem Rep.put {G : Gm} {μ μ' : Mm} {H H' : Heap} {a : Nat} (h : Rep G μ H) (hn : mN μ' = mN μ) (hz : H'.size = H.size) (ho : ∀ q : Nat, q ≠ G.1 + a → H'[q]? = H[q]?) (hE : ∀ b, b ≠ a → mE G μ' b = mE G μ b) (hc : va_at (gD G) mcl (G.1 + a, mE G μ' a) H') : Rep G μ' H' := by
  refine ⟨by rw [hz, hn]; exact h.1, fun b hb => ?_⟩
  by_cases e : b = a
  · subst e
    exact hc
  · rw [hE b e]
    exact (h.2 b (by omega)).kept (ho _ (by show G.1 + b ≠ G.1 + a; omega))
theorem Rep.new {G : Gm} {μ : Mm} {H H' : Heap} {k n : Nat} (h : Rep G μ H) (hz : H'.size = H.size + 1) (ho : ∀ q : Nat, q < H.size → H'[q]? = H[q]?) (hc : va_at (gD G) mcl (G.1 + mN μ, mE G (nM μ k n) (mN μ)) H') : Rep G (nM μ k n) H' := by
  have hnn : mN (nM μ k n) = mN μ + 1 := rfl
  refine ⟨by rw [hz, hnn, h.1]; omega, fun b hb => ?_⟩
  by_cases e : b = mN μ
  · subst e
    exact hc
  · have hE : mE G (nM μ k n) b = mE G μ b := by
      have i1 : mI (nM μ k n) b = mI μ b := by funext j; simp [mI, nM, e]
      have i2 : mL (nM μ k n) b = mL μ b := by funext j; simp [mL, nM, e]
      have i3 : mR (nM μ k n) b = mR μ b := by funext j; simp [mR, nM, e]
      have i4 : mK (nM μ k n) b = mK μ b := by
        show (if b = mN μ then (k, n) else mK μ b) = mK μ b
        rw [if_neg e]
      unfold mE
      rw [i4]
      have i5 : ∀ ty j, mF G.1 (nM μ k n) ty b j = mF G.1 μ ty b j := fun ty j => by
        cases ty <;> simp only [mF, i1, i2, i3]
      have i6 : ∀ t, mPay G.1 (nM μ k n) t b = mPay G.1 μ t b := fun t => by
        simp only [mPay, i1, i2, i3]
      simp only [i5, i6]
    rw [hE]
    have hb' : b < mN μ := by rw [hnn] at hb; omega
    have hlt := (h.2 b hb').lt
    exact (h.2 b hb').kept (ho _ hlt)
theorem mE_off {G : Gm} {μ μ' : Mm} {b : Nat} (h1 : mI μ' b = mI μ b) (h2 : mL μ' b = mL μ b) (h3 : mR μ' b = mR μ b) (h4 : mK μ' b = mK μ b) : mE G μ' b = mE G μ b := by
  have i5 : ∀ ty j, mF G.1 μ' ty b j = mF G.1 μ ty b j := fun ty j => by
    cases ty <;> simp only [mF, h1, h2, h3]
  have i6 : ∀ t, mPay G.1 μ' t b = mPay G.1 μ t b := fun t => by
    simp only [mPay, h1, h2, h3]
  unfold mE
  simp only [h4, i5, i6]
theorem sI_off {μ : Mm} {a k b : Nat} {v : Int32} (h : b ≠ a) : mI (sI μ a k v) b = mI μ b := by funext j; simp [mI, sI, h]
theorem sL_off {μ : Mm} {a k b : Nat} {v : Int64} (h : b ≠ a) : mL (sL μ a k v) b = mL μ b := by funext j; simp [mL, sL, h]
theorem sR_off {μ : Mm} {a k b : Nat} {v : Option Nat} (h : b ≠ a) : mR (sR μ a k v) b = mR μ b := by funext j; simp [mR, sR, h]
theorem sA_off {μ : Mm} {a b : Nat} {f : Nat → Int32} (h : b ≠ a) : mI (sA μ a f) b = mI μ b := by funext j; simp [mI, sA, h]
theorem mcl_lt {c : Nat} {q : vw_C} (h : mcl[c]? = some q) : c < 100 := by
  have := (List.getElem?_eq_some_iff.mp h).1
  have e : mcl.length = 14 := rfl
  omega
section AMMEM
variable {l : Launch} {G : Gm} {X : Cx} {cc : ByteArray} {own : String} {d : Nat} {rt : Option FieldType} {bc bs pc : Nat} {lv lv' : List (Nat × Value)} {st : List Value} {μ : Mm}
theorem Rep.one {H : Heap} {a : Nat} (h : Rep G μ H) (ha : a < mN μ) : va_P (gD G) mcl [(G.1 + a, mE G μ a)] H := by
  intro k q hk
  have h0 : k < 1 := (List.getElem?_eq_some_iff.mp hk).1
  rw [show k = 0 by omega] at hk
  cases hk
  exact h.2 a ha
theorem one_D {A : Nat → Prop} {a : Nat} {e : va_E} (h : A a) : va_D A [(a, e)] := by
  refine ⟨fun i j p q hi hj _ => ?_, fun k q hk => ?_⟩
  · have h0 : i < 1 := (List.getElem?_eq_some_iff.mp hi).1
    have h1 : j < 1 := (List.getElem?_eq_some_iff.mp hj).1
    omega
  · have h0 : k < 1 := (List.getElem?_eq_some_iff.mp hk).1
    rw [show k = 0 by omega] at hk
    cases hk
    exact h
end AMMEM
