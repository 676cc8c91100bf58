/-! a land, told: sides and start; chapels; bells; walkers; settings; codes -/

abbrev Ld : Type := (Nat × Nat × Nat) × List Nat × List (Nat × Nat × Nat) × List (Nat × Nat × Nat × Nat) × (Nat × Nat × Nat) × (Nat → Option (List Int32))
abbrev nn (x : Int32) : Nat := x.toNatClampNeg
def LmS (μ : Mm) (h : Nat) (d : Ld) : Prop := (mI μ 215 (3 * h) = nI d.1.1 ∧ mI μ 215 (3 * h + 1) = nI d.1.2.1 ∧ mI μ 215 (3 * h + 2) = nI d.1.2.2) ∧ (mI μ 216 (3 * h) = nI d.2.2.1.length ∧ mI μ 216 (3 * h + 1) = nI d.2.2.2.1.length ∧ mI μ 216 (3 * h + 2) = nI d.2.1.length) ∧ (mI μ 221 (3 * h) = nI d.2.2.2.2.1.1 ∧ mI μ 221 (3 * h + 1) = nI d.2.2.2.2.1.2.1 ∧ mI μ 221 (3 * h + 2) = nI d.2.2.2.2.1.2.2)
def LmC (μ : Mm) (h : Nat) (d : Ld) : Prop := ∀ i x, d.2.1[i]? = some x → mI μ 218 (10 * h + i) = nI x
def LmB (μ : Mm) (h : Nat) (d : Ld) : Prop := ∀ i x, d.2.2.1[i]? = some x → mL μ 217 (12 * h + i) = lN x.1 ∧ mI μ 219 (10 * h + 2 * i) = nI x.2.1 ∧ mI μ 219 (10 * h + (2 * i + 1)) = nI x.2.2
def LmW (μ : Mm) (h : Nat) (d : Ld) : Prop := ∀ i x, d.2.2.2.1[i]? = some x → mL μ 217 (12 * h + (6 + i)) = lN x.1 ∧ mI μ 220 (30 * h + 5 * i) = nI x.2.1 ∧ mI μ 220 (30 * h + (5 * i + 1)) = nI x.2.2.1 ∧ mI μ 220 (30 * h + (5 * i + 2)) = nI x.2.2.2
def LmK (μ : Mm) (h c : Nat) (d : Ld) : Prop := ∀ w, w < 3 → (d.2.2.2.2.2 w = none → mI μ 222 (3 * h + w) = -1) ∧ (∀ cs, d.2.2.2.2.2 w = some cs → ∃ f, f + cs.length ≤ c ∧ mI μ 222 (3 * h + w) = nI f ∧ mI μ 223 (3 * h + w) = nI (f + cs.length) ∧ ∀ i, i < cs.length → mI μ 224 (1600 * h + (f + i)) = cs.getD i 0)
def LmH (μ : Mm) (h c : Nat) (d : Ld) : Prop := LmS μ h d ∧ LmC μ h d ∧ LmB μ h d ∧ LmW μ h d ∧ LmK μ h c d
/-- a cell within the sides -/
def clOk (d : Ld) (c : Nat) : Prop := c % 7 < d.1.1 ∧ c / 7 < d.1.2.1
def Wf (d : Ld) : Prop := (2 ≤ d.1.1 ∧ d.1.1 ≤ 7 ∧ 2 ≤ d.1.2.1 ∧ d.1.2.1 ≤ 7 ∧ clOk d d.1.2.2) ∧ (d.2.1.length ≤ 10 ∧ ∀ x ∈ d.2.1, clOk d x) ∧ (d.2.2.1.length ≤ 5 ∧ ∀ x ∈ d.2.2.1, x.1 < 27 ^ 6 ∧ clOk d x.2.1 ∧ x.2.2 ≤ 99) ∧ (d.2.2.2.1.length ≤ 6 ∧ ∀ x ∈ d.2.2.2.1, x.1 < 27 ^ 6 ∧ clOk d x.2.1 ∧ clOk d x.2.2.1 ∧ x.2.2.2 ≤ 3) ∧ (1 ≤ d.2.2.2.2.1.1 ∧ d.2.2.2.2.1.1 ≤ 99 ∧ d.2.2.2.2.1.2.1 ≤ 999 ∧ d.2.2.2.2.1.2.2 ≤ 100)
/-- what the telling may touch -/
def TchI (a k : Nat) : Prop := a = 255 ∨ a = 256 ∨ (a = 215 ∧ k < 3) ∨ (a = 216 ∧ k < 3) ∨ (a = 218 ∧ k < 10) ∨ (a = 219 ∧ k < 10) ∨ (a = 220 ∧ k < 30) ∨ (a = 221 ∧ k < 3) ∨ (a = 222 ∧ k < 3) ∨ (a = 223 ∧ k < 3) ∨ (a = 224 ∧ k < 1600) ∨ (a = 179 ∧ (k = 2 ∨ k = 4 ∨ k = 5 ∨ k = 6 ∨ k = 10 ∨ k = 44 ∨ k = 102 ∨ k = 104 ∨ k = 105 ∨ k = 106 ∨ k = 58 ∨ k = 55 ∨ k = 56))
def FR (μ0 μ : Mm) : Prop := μ.2.2 = μ0.2.2 ∧ (∀ a k, ¬ (a = 217 ∧ k < 12) → mL μ a k = mL μ0 a k) ∧ (∀ a k, ¬ TchI a k → mI μ a k = mI μ0 a k)
def TM (μ0 μ : Mm) (d : Ld) (st : Nat) (s : Ps) : Prop := FR μ0 μ ∧ Pf μ s ∧ (s.2.2.1 = 0 → Wf d ∧ st ≤ 80 ∧ mI μ 179 56 = nI st ∧ ∃ c, mI μ 179 55 = nI c ∧ c ≤ s.1 ∧ LmH μ 0 c d)
section FRS
variable {μ0 μ : Mm} {tx : Nat → Nat} {e : Nat}
theorem FR.sh (h : FR μ0 μ) (hS : ShM μ0) : ShM μ := hS.of h.1
theorem FR.refl (μ : Mm) : FR μ μ := ⟨rfl, fun _ _ _ => rfl, fun _ _ _ => rfl⟩
theorem FR.trans {μ1 : Mm} (h : FR μ0 μ1) (h2 : FR μ1 μ) : FR μ0 μ := ⟨h2.1.trans h.1, fun a k q => (h2.2.1 a k q).trans (h.2.1 a k q), fun a k q => (h2.2.2 a k q).trans (h.2.2 a k q)⟩
theorem FR.st (h : FR μ0 μ) {a k : Nat} (ht : TchI a k) (v : Int32) : FR μ0 (sI μ a k v) := ⟨h.1, h.2.1, fun b j q => by
  rw [mI_sI, if_neg (fun z => q (by rw [z.1, z.2]; exact ht))]
  exact h.2.2 b j q⟩
theorem FR.stL (h : FR μ0 μ) {k : Nat} (hk : k < 12) (v : Int64) : FR μ0 (sL μ 217 k v) := ⟨h.1, fun b j q => by
  rw [mL_sL, if_neg (fun z => q ⟨z.1, by omega⟩)]
  exact h.2.1 b j q, h.2.2⟩
theorem FR.pw (h : FR μ0 μ) (s : Ps) : FR μ0 (pw μ s) := ⟨h.1, h.2.1, fun a k q => by
  rw [pw_off _ _ (by unfold TchI at q; omega)]
  exact h.2.2 a k q⟩
theorem FR.txm (h : FR μ0 μ) (hT : TxM μ0 tx e) : TxM μ tx e := ⟨by rw [h.2.2 179 3 (by unfold TchI; omega)]; exact hT.1, hT.2.1, fun j hj => by rw [h.2.2 180 j (by unfold TchI; omega)]; exact hT.2.2 j hj⟩
theorem wdT_t : ∀ r ∈ wdT, r.1 < 215 ∧ 179 < r.1 ∨ 232 < r.1 ∧ r.1 < 255 := by decide +kernel
theorem FR.wd (h : FR μ0 μ) (hW : WdM μ0) : WdM μ := fun a ws hm i hi => by
  have := wdT_t _ hm
  rw [h.2.2 a i (by unfold TchI; dsimp only at this; omega)]
  exact hW a ws hm i hi
end FRS
section NUMS
variable {tx : Nat → Nat} {e : Nat}
theorem wl_let {q : Nat} : ∀ r, q ≤ r → r < wl tx e q → r < e ∧ isL (tx r) = true := by
  intro r h1 h2
  unfold wl at h2
  generalize hn : e - q = n
  induction n generalizing q with
  | zero => rw [rn_stop (by omega)] at h2; omega
  | succ n ih =>
    by_cases hc : q < e ∧ isL (tx q) = true
    · by_cases hq : r = q
      · rw [hq]; exact hc
      · rw [rn_step (f := fun q => isL (tx q)) hc.1 hc.2] at h2
        exact ih (q := q + 1) (by omega) h2 (by omega)
    · rw [rn_stop (f := fun q => isL (tx q)) hc] at h2; omega
theorem mNum_v (s : Ps) (lo hi : Int32) : ∃ v, v < 10000 ∧ (mNum tx e s lo hi).1 = nI v := by
  unfold mNum
  split
  · split
    · split
      · rename_i hd
        refine ⟨_, ?_, rfl⟩
        have h1 := dval_lt (tx := tx) (q := sk tx e s.1) (dl tx e (sk tx e s.1) - sk tx e s.1) (fun i hi => (isD_le (dl_dig (tx := tx) (e := e) (q := sk tx e s.1) (sk tx e s.1 + i) (by omega) (by omega)).2).2)
        have h2 : (10 : Nat) ^ (dl tx e (sk tx e s.1) - sk tx e s.1) ≤ 10 ^ 4 := Nat.pow_le_pow_right (by decide) (by omega)
        omega
      · exact ⟨0, by decide, rfl⟩
    · exact ⟨0, by decide, rfl⟩
  · exact ⟨0, by decide, rfl⟩
theorem mNum_bad (s : Ps) (lo hi : Int32) (h : (mNum tx e s lo hi).2.2.2.1 = 0) : s.2.2.1 = 0 := by
  unfold mNum at h
  split at h
  · assumption
  · exact h
theorem mNum_ok (s : Ps) {lo hi : Nat} (hh : hi < 2147483648) (hlo : lo < 2147483648) (h : (mNum tx e s (nI lo) (nI hi)).2.2.2.1 = 0) : ∃ v, lo ≤ v ∧ v ≤ hi ∧ v < 10000 ∧ (mNum tx e s (nI lo) (nI hi)).1 = nI v := by
  obtain ⟨v, hv, e1⟩ := mNum_v (tx := tx) (e := e) s (nI lo) (nI hi)
  refine ⟨v, ?_, ?_, hv, e1⟩
  all_goals
    unfold mNum at h e1
    split at h
    · rename_i hb
      rw [if_pos hb] at e1
      split at h
      · rename_i hd
        rw [if_pos hd] at e1
        split at h
        · rename_i hl
          rw [if_pos hl] at e1
          dsimp only at h e1
          split at h
          · rename_i hr
            rw [e1] at hr
            first | exact n_le hr.1 | exact n_le hr.2
          · exact absurd (show nI 2 = 0 from h) (by decide)
        · exact absurd (show nI 1 = 0 from h) (by decide)
      · exact absurd h (mFail_0 _ _ _ (by decide))
    · rename_i hb
      exact absurd h hb
theorem mCell_bad (s : Ps) (a b : Int32) (h : (mCell tx e s a b).2.2.2.1 = 0) : s.2.2.1 = 0 := mNum_bad _ _ _ (mNum_bad _ _ _ h)
theorem mAsks_bad (s : Ps) (ws : List Nat) (h : (mAsks tx e s ws).2.2.1 = 0) : s.2.2.1 = 0 := by
  unfold mAsks at h
  split at h
  · assumption
  · exact h
theorem mCell_v (s : Ps) (a b : Int32) : ∃ v, v < 80000 ∧ (mCell tx e s a b).1 = nI v := by
  unfold mCell
  obtain ⟨x, hx, e1⟩ := mNum_v (tx := tx) (e := e) s (nI 0) (a - nI 1)
  obtain ⟨y, hy, e2⟩ := mNum_v (tx := tx) (e := e) (mNum tx e s (nI 0) (a - nI 1)).2 (nI 0) (b - nI 1)
  dsimp only
  split
  · rw [e1, e2, pk_mul, nI_add]; exact ⟨_, by omega, rfl⟩
  · exact ⟨0, by decide, rfl⟩
theorem mCell_ok (s : Ps) {a b : Nat} (ha : 0 < a ∧ a ≤ 7) (hb : 0 < b ∧ b ≤ 7) (h : (mCell tx e s (nI a) (nI b)).2.2.2.1 = 0) : ∃ x y, x < a ∧ y < b ∧ (mCell tx e s (nI a) (nI b)).1 = nI (x + 7 * y) := by
  unfold mCell at h ⊢
  dsimp only at h ⊢
  rw [pk_sub ha.1, pk_sub hb.1] at *
  obtain ⟨y, hy1, hy2, -, e2⟩ := mNum_ok (tx := tx) (e := e) _ (by omega) (by decide) h
  have h1 := mNum_bad _ _ _ h
  obtain ⟨x, hx1, hx2, -, e1⟩ := mNum_ok (tx := tx) (e := e) _ (by omega) (by decide) h1
  rw [if_pos h, e1, e2, pk_mul, nI_add]
  exact ⟨x, y, by omega, by omega, rfl⟩
theorem mName_lt (s : Ps) : (mName tx e s).1 < 27 ^ 6 := by
  unfold mName
  split
  · split
    · split
      · rename_i hl
        have h1 := nval_lt (tx := tx) (q := sk tx e s.1) (wl tx e (sk tx e s.1) - sk tx e s.1) (fun i hi => (isL_le (wl_let (tx := tx) (e := e) (q := sk tx e s.1) (sk tx e s.1 + i) (by omega) (by omega)).2).2)
        have h2 : (27 : Nat) ^ (wl tx e (sk tx e s.1) - sk tx e s.1) ≤ 27 ^ 6 := Nat.pow_le_pow_right (by decide) (by omega)
        dsimp only
        omega
      · exact (by decide : 0 < 27 ^ 6)
    · exact (by decide : 0 < 27 ^ 6)
  · exact (by decide : 0 < 27 ^ 6)
theorem mName_ge (s : Ps) (hp : s.1 ≤ e) : s.1 ≤ (mName tx e s).2.1 := by
  have h1 := sk_le (tx := tx) hp
  have h2 := rn_le (f := fun q => isL (tx q)) (e := e) (p := sk tx e s.1) h1.2
  unfold mName
  split
  · split
    · split
      · show s.1 ≤ wl tx e (sk tx e s.1); unfold wl; omega
      · dsimp only; omega
    · dsimp only; rw [mFail_1]; exact h1.1
  · exact Nat.le_refl _
theorem mName_bad (s : Ps) (h : (mName tx e s).2.2.2.1 = 0) : s.2.2.1 = 0 := by
  unfold mName at h
  split at h
  · assumption
  · exact h
theorem mDup_bad (s : Ps) (b : Bool) (h : (mDup s b).2.2.1 = 0) : s.2.2.1 = 0 ∧ b = false := by
  unfold mDup at h
  cases b
  · exact ⟨h, rfl⟩
  · exact absurd h (mFail_0 _ _ _ (by decide))
theorem mBadN_bad (s : Ps) (b : Bool) (h : (mBadN s b).2.2.1 = 0) : s.2.2.1 = 0 ∧ b = false := by
  unfold mBadN at h
  cases b
  · exact ⟨h, rfl⟩
  · exact absurd h (mFail_0 _ _ _ (by decide))
theorem mCell_ge (s : Ps) (a b : Int32) (hp : s.1 ≤ e) : s.1 ≤ (mCell tx e s a b).2.1 := by
  have h1 := (mNum_ge (tx := tx) s (nI 0) (a - nI 1) hp).1
  have h2 := (mNum_ge (tx := tx) (mNum tx e s (nI 0) (a - nI 1)).2 (nI 0) (b - nI 1) (mNum_le _ _ hp)).1
  unfold mCell
  dsimp only
  omega
theorem mFull_bad (s : Ps) (a b c : Int32) (h : (mFull s a b c).2.2.1 = 0) : s.2.2.1 = 0 ∧ mFull s a b c = s ∧ a ≠ b := by
  unfold mFull at h ⊢
  split at h
  · exact absurd h (mFail_0 _ _ _ (by decide))
  · rename_i hn
    rw [if_neg hn]
    exact ⟨h, rfl, fun q => hn ⟨h, q⟩⟩
theorem app1 {α : Type} {L : List α} {x y : α} {i : Nat} (h : (L ++ [x])[i]? = some y) : (i < L.length ∧ L[i]? = some y) ∨ (i = L.length ∧ y = x) := by
  rcases Nat.lt_or_ge i L.length with q | q
  · rw [List.getElem?_append_left q] at h; exact Or.inl ⟨q, h⟩
  · rw [List.getElem?_append_right q] at h
    rcases Nat.eq_zero_or_pos (i - L.length) with z | z
    · rw [z] at h
      simp at h
      exact Or.inr ⟨by omega, h.symm⟩
    · rw [List.getElem?_eq_none (by simp; omega)] at h
      cases h
theorem q_lt {α : Type} {L : List α} {y : α} {i : Nat} (h : L[i]? = some y) : i < L.length := by
  rcases Nat.lt_or_ge i L.length with q | q
  · exact q
  · rw [List.getElem?_eq_none q] at h; cases h
end NUMS
