/-! reading a memory behind stores -/
theorem mI_sI (μ : Mm) (a k b j : Nat) (v : Int32) : mI (sI μ a k v) b j = if b = a ∧ j = k then v else mI μ b j := rfl
theorem mI_sA (μ : Mm) (a b : Nat) (f : Nat → Int32) (j : Nat) : mI (sA μ a f) b j = if b = a then f j else mI μ b j := by
  show (if b = a then f else μ.1 b) j = _
  by_cases h : b = a <;> simp [h, mI]
theorem mI_sL (μ : Mm) (a k b j : Nat) (v : Int64) : mI (sL μ a k v) b j = mI μ b j := rfl
theorem mI_sR (μ : Mm) (a k b j : Nat) (v : Option Nat) : mI (sR μ a k v) b j = mI μ b j := rfl
theorem mL_sL (μ : Mm) (a k b j : Nat) (v : Int64) : mL (sL μ a k v) b j = if b = a ∧ j = k then v else mL μ b j := rfl
theorem mL_sI (μ : Mm) (a k b j : Nat) (v : Int32) : mL (sI μ a k v) b j = mL μ b j := rfl
theorem mL_sA (μ : Mm) (a b : Nat) (f : Nat → Int32) (j : Nat) : mL (sA μ a f) b j = mL μ b j := rfl
theorem mL_sR (μ : Mm) (a k b j : Nat) (v : Option Nat) : mL (sR μ a k v) b j = mL μ b j := rfl
theorem mR_sR (μ : Mm) (a k b j : Nat) (v : Option Nat) : mR (sR μ a k v) b j = if b = a ∧ j = k then v else mR μ b j := rfl
theorem mR_sI (μ : Mm) (a k b j : Nat) (v : Int32) : mR (sI μ a k v) b j = mR μ b j := rfl
theorem mR_sL (μ : Mm) (a k b j : Nat) (v : Int64) : mR (sL μ a k v) b j = mR μ b j := rfl
theorem Mm_ext {μ μ' : Mm} (h : ∀ a k, mI μ a k = mI μ' a k) (h2 : μ.2 = μ'.2) : μ = μ' := by
  obtain ⟨i, r⟩ := μ
  obtain ⟨i', r'⟩ := μ'
  have e1 : i = i' := funext fun a => funext fun k => h a k
  have e2 : r = r' := h2
  rw [e1, e2]
theorem sI_self (μ : Mm) (a k : Nat) (v : Int32) (h : mI μ a k = v) : sI μ a k v = μ := Mm_ext (fun b j => by
  rw [mI_sI]
  by_cases e : b = a ∧ j = k
  · rw [if_pos e, e.1, e.2, h]
  · rw [if_neg e]) rfl
theorem sI_sI (μ : Mm) (a k : Nat) (v w : Int32) : sI (sI μ a k v) a k w = sI μ a k w := Mm_ext (fun b j => by
  rw [mI_sI, mI_sI, mI_sI]
  by_cases e : b = a ∧ j = k
  · rw [if_pos e, if_pos e]
  · rw [if_neg e, if_neg e, if_neg e]) rfl
/-- ints by naturals -/
theorem nI_tI {n : Nat} (h : n < 2 ^ 31) : (nI n).toInt = (n : Int) := nI_toInt h
theorem i_lt {x y : Int32} : x < y ↔ x.toInt < y.toInt := Int32.lt_iff_toInt_lt
theorem i_le {x y : Int32} : x ≤ y ↔ x.toInt ≤ y.toInt := Int32.le_iff_toInt_le
/-- the text -/
def skp (tx : Nat → Nat) (e : Nat) : Nat → Nat → Nat
  | 0, p => p
  | n + 1, p => if p < e ∧ (tx p = 10 ∨ tx p = 32) then skp tx e n (p + 1) else p
def sk (tx : Nat → Nat) (e p : Nat) : Nat := skp tx e (e - p) p
theorem sk_step {tx : Nat → Nat} {e p : Nat} (h : p < e) (hb : tx p = 10 ∨ tx p = 32) : sk tx e p = sk tx e (p + 1) := by
  unfold sk
  obtain ⟨n, hn⟩ : ∃ n, e - p = n + 1 := ⟨e - p - 1, by omega⟩
  rw [hn, skp, if_pos ⟨h, hb⟩, show e - (p + 1) = n by omega]
theorem sk_stop {tx : Nat → Nat} {e p : Nat} (h : ¬ (p < e ∧ (tx p = 10 ∨ tx p = 32))) : sk tx e p = p := by
  unfold sk
  cases e - p with
  | zero => rfl
  | succ n => rw [skp, if_neg h]
theorem sk_le {tx : Nat → Nat} {e p : Nat} (h : p ≤ e) : p ≤ sk tx e p ∧ sk tx e p ≤ e := by
  generalize hn : e - p = n
  induction n generalizing p with
  | zero => rw [sk_stop (by omega)]; omega
  | succ n ih =>
    by_cases c : p < e ∧ (tx p = 10 ∨ tx p = 32)
    · rw [sk_step c.1 c.2]
      have := ih (p := p + 1) (by omega) (by omega)
      omega
    · rw [sk_stop c]; omega
/-- what stands at a place -/
def chr (tx : Nat → Nat) (e p : Nat) : Int32 := if p < e then nI (tx p) else -1
/-- the reference's text -/
def TxM (μ : Mm) (tx : Nat → Nat) (e : Nat) : Prop := mI μ 179 3 = nI e ∧ e ≤ 1600 ∧ ∀ j, j < e → mI μ 180 j = nI (tx j) ∧ tx j < 256
/-- comparisons of naturals told as ints -/
theorem n_lt {a b : Nat} (h : nI a < nI b) (ha : a < 2147483648 := by omega) (hb : b < 2147483648 := by omega) : a < b := (nI_ltI ha hb).mp h
theorem n_le {a b : Nat} (h : nI a ≤ nI b) (ha : a < 2147483648 := by omega) (hb : b < 2147483648 := by omega) : a ≤ b := (nI_leI ha hb).mp h
theorem n_nlt {a b : Nat} (h : ¬ nI a < nI b) (ha : a < 2147483648 := by omega) (hb : b < 2147483648 := by omega) : b ≤ a := Nat.not_lt.mp (fun q => h ((nI_ltI ha hb).mpr q))
theorem n_nle {a b : Nat} (h : ¬ nI a ≤ nI b) (ha : a < 2147483648 := by omega) (hb : b < 2147483648 := by omega) : b < a := Nat.not_le.mp (fun q => h ((nI_leI ha hb).mpr q))
theorem n_eq {a b : Nat} (h : nI a = nI b) (ha : a < 2147483648 := by omega) (hb : b < 2147483648 := by omega) : a = b := (nI_eq ha hb).mp h
theorem n_ne {a b : Nat} (h : ¬ nI a = nI b) : a ≠ b := fun q => h (by rw [q])
theorem n_in {n N : Nat} (h : n < N) (hN : N < 2147483648 := by omega) : vp_in (nI n) N := vp_in_nI h hN
theorem n_cl {n : Nat} (h : n < 2147483648 := by omega) : (nI n).toNatClampNeg = n := nI_clamp h
theorem n_m1 {n : Nat} (h : n < 2147483648 := by omega) : ¬ nI n = (-1) := fun q => by
  have h1 := nI_tI h
  rw [q] at h1
  have h2 : (-1 : Int32).toInt = -1 := by decide
  omega
theorem n_m1' {n : Nat} (h : n < 2147483648 := by omega) : ¬ (-1) = nI n := fun q => n_m1 h q.symm
