/-! the class: a land as it lies, cells by rows of the land's own width, sets as bits -/
def InL (a : Nat) : Prop := (15 ≤ a ∧ a ≤ 32) ∨ 259 ≤ a
def kC (d : Ld) (c : Nat) : Nat := c / 7 * d.1.1 + c % 7
def nC (d : Ld) : Nat := d.1.1 * d.1.2.1
def bsF (f : Nat → Bool) : Nat → Nat
  | 0 => 0
  | n + 1 => bsF f n + (if f n then 2 ^ n else 0)
theorem bsF_lt (f : Nat → Bool) : ∀ n, bsF f n < 2 ^ n
  | 0 => (Nat.zero_lt_one : 0 < 1)
  | n + 1 => by
    have := bsF_lt f n
    unfold bsF
    rw [Nat.pow_succ]
    split <;> omega
theorem bsF_tb (f : Nat → Bool) : ∀ n k, (bsF f n).testBit k = (decide (k < n) && f k)
  | 0, k => by simp [bsF]
  | n + 1, k => by
    have hlt := bsF_lt f n
    have ih := bsF_tb f n
    unfold bsF
    by_cases hf : f n = true
    · have eo : 2 ^ n + bsF f n = 2 ^ n ||| bsF f n := by
        have := Nat.two_pow_add_eq_or_of_lt hlt 1
        rwa [Nat.mul_one] at this
      rw [if_pos hf, Nat.add_comm, eo]
      rw [Nat.testBit_or, ih, Nat.testBit_two_pow]
      by_cases hk : k = n
      · subst hk; simp [hf]
      · by_cases h2 : k < n
        · simp [h2, show k < n + 1 by omega, show ¬ n = k by omega]
        · simp [h2, show ¬ k < n + 1 by omega, show ¬ n = k by omega]
    · rw [if_neg hf, Nat.add_zero, ih]
      by_cases hk : k = n
      · subst hk; simp [hf]
      · by_cases h2 : k < n
        · simp [h2, show k < n + 1 by omega]
        · simp [h2, show ¬ k < n + 1 by omega]
theorem bsF_ext {f : Nat → Bool} {n m : Nat} (h : ∀ k, m.testBit k = (decide (k < n) && f k)) : m = bsF f n := Nat.eq_of_testBit_eq (fun k => by rw [bsF_tb]; exact h k)
theorem bsF_cong {f g : Nat → Bool} {n : Nat} (h : ∀ k, k < n → f k = g k) : bsF f n = bsF g n := bsF_ext (fun k => by
  rw [bsF_tb]
  by_cases hk : k < n
  · rw [h k hk]
  · simp [hk])
theorem bsF_or (f g : Nat → Bool) (n : Nat) : bsF f n ||| bsF g n = bsF (fun k => f k || g k) n := bsF_ext (fun k => by
  rw [Nat.testBit_or, bsF_tb, bsF_tb]
  by_cases hk : k < n <;> simp [hk])
theorem bsF_and (f g : Nat → Bool) (n : Nat) : bsF f n &&& bsF g n = bsF (fun k => f k && g k) n := bsF_ext (fun k => by
  rw [Nat.testBit_and, bsF_tb, bsF_tb]
  by_cases hk : k < n <;> simp [hk])
theorem bsF_one {n j : Nat} (hj : j < n) : 2 ^ j = bsF (fun k => decide (k = j)) n := bsF_ext (fun k => by
  rw [Nat.testBit_two_pow]
  by_cases hk : k = j
  · subst hk; simp [hj]
  · simp [hk, Ne.symm hk])
theorem bsF_zero (n : Nat) : 0 = bsF (fun _ => false) n := bsF_ext (fun k => by simp)
theorem bsF_ne {f : Nat → Bool} {n : Nat} : bsF f n = 0 ↔ ∀ k, k < n → f k = false := by
  constructor
  · intro h k hk
    have := bsF_tb f n k
    rw [h, Nat.zero_testBit] at this
    simpa [hk] using this.symm
  · intro h
    rw [bsF_zero n]
    exact bsF_cong h
theorem bsF_49 {f : Nat → Bool} {n : Nat} (h : n ≤ 49) : bsF f n < 2 ^ 49 := Nat.lt_of_lt_of_le (bsF_lt f n) (Nat.pow_le_pow_right (by decide) h)
section LDP
variable {d : Ld} {c : Nat}
theorem Wf.w7 (hW : Wf d) : 2 ≤ d.1.1 ∧ d.1.1 ≤ 7 := ⟨hW.1.1, hW.1.2.1⟩
theorem Wf.h7 (hW : Wf d) : 2 ≤ d.1.2.1 ∧ d.1.2.1 ≤ 7 := ⟨hW.1.2.2.1, hW.1.2.2.2.1⟩
theorem Wf.n49 (hW : Wf d) : 0 < nC d ∧ nC d ≤ 49 := by
  obtain ⟨h1, h2⟩ := hW.w7
  obtain ⟨h3, h4⟩ := hW.h7
  unfold nC
  refine ⟨Nat.mul_pos (by omega) (by omega), ?_⟩
  exact Nat.mul_le_mul h2 h4
theorem kC_lt (h : clOk d c) : kC d c < nC d := by
  obtain ⟨h1, h2⟩ := h
  unfold kC nC
  have h3 : (c / 7 + 1) * d.1.1 ≤ d.1.2.1 * d.1.1 := Nat.mul_le_mul_right _ h2
  rw [Nat.add_mul, Nat.one_mul, Nat.mul_comm d.1.2.1] at h3
  omega
theorem kC_mod (h : clOk d c) : kC d c % d.1.1 = c % 7 := by
  unfold kC
  rw [Nat.mul_comm, Nat.mul_add_mod]
  exact Nat.mod_eq_of_lt h.1
theorem kC_div (h : clOk d c) : kC d c / d.1.1 = c / 7 := by
  have h1 := h.1
  unfold kC
  rw [Nat.add_comm, Nat.add_mul_div_right _ _ (by omega), Nat.div_eq_of_lt h1, Nat.zero_add]
theorem cK_kC (h : clOk d c) : cK d (kC d c) = c := by
  unfold cK
  rw [kC_mod h, kC_div h]
  omega
theorem cK_okL (h7 : d.1.1 ≤ 7) {k : Nat} (hk : k < nC d) : clOk d (cK d k) := by
  have hw : 0 < d.1.1 := by
    rcases Nat.eq_zero_or_pos d.1.1 with h | h
    · unfold nC at hk; rw [h, Nat.zero_mul] at hk; omega
    · exact h
  have h1 := Nat.mod_lt k hw
  have h2 : k / d.1.1 < d.1.2.1 := Nat.div_lt_of_lt_mul (by unfold nC at hk; exact hk)
  unfold cK
  exact clOk_xy h1 h2 h7
theorem kC_cK (h7 : d.1.1 ≤ 7) {k : Nat} (hk : k < nC d) : kC d (cK d k) = k := by
  have hw : 0 < d.1.1 := by
    rcases Nat.eq_zero_or_pos d.1.1 with h | h
    · unfold nC at hk; rw [h, Nat.zero_mul] at hk; omega
    · exact h
  have h1 := Nat.mod_lt k hw
  unfold kC cK
  rw [show (k % d.1.1 + 7 * (k / d.1.1)) / 7 = k / d.1.1 by omega, show (k % d.1.1 + 7 * (k / d.1.1)) % 7 = k % d.1.1 by omega, Nat.mul_comm]
  exact Nat.div_add_mod k d.1.1
theorem kC_inj {a b : Nat} (ha : clOk d a) (hb : clOk d b) (h : kC d a = kC d b) : a = b := by rw [← cK_kC ha, ← cK_kC hb, h]
theorem kC_iff {a b : Nat} (ha : clOk d a) (hb : clOk d b) : kC d a = kC d b ↔ a = b := ⟨kC_inj ha hb, fun h => by rw [h]⟩
theorem apN_comm (a b : Nat) : apN a b = apN b a := by unfold apN; rw [Nat.add_comm (a % 7 - b % 7), Nat.add_comm (a / 7 - b / 7)]
theorem apN_k (h7 : d.1.1 ≤ 7) {k j : Nat} (hk : k < nC d) (hj : j < nC d) : max ((k % d.1.1 - j % d.1.1) + (j % d.1.1 - k % d.1.1)) ((k / d.1.1 - j / d.1.1) + (j / d.1.1 - k / d.1.1)) = apN (cK d k) (cK d j) := by
  have hw : 0 < d.1.1 := by
    rcases Nat.eq_zero_or_pos d.1.1 with h | h
    · unfold nC at hk; rw [h, Nat.zero_mul] at hk; omega
    · exact h
  have h1 := Nat.mod_lt k hw
  have h2 := Nat.mod_lt j hw
  unfold apN cK
  rw [show (k % d.1.1 + 7 * (k / d.1.1)) / 7 = k / d.1.1 by omega, show (k % d.1.1 + 7 * (k / d.1.1)) % 7 = k % d.1.1 by omega, show (j % d.1.1 + 7 * (j / d.1.1)) / 7 = j / d.1.1 by omega, show (j % d.1.1 + 7 * (j / d.1.1)) % 7 = j % d.1.1 by omega]
end LDP
/-- names: their letters, as the reference and as the class pack them -/
def nmOk (ls : List Nat) : Prop := 0 < ls.length ∧ ls.length ≤ 6 ∧ ∀ x ∈ ls, 1 ≤ x ∧ x ≤ 26
def nm27 (ls : List Nat) : Nat := ls.foldl (fun v x => 27 * v + x) 0
def nm32 (ls : List Nat) : Nat := (ls.getD 0 0) * 32 ^ 5 + (ls.getD 1 0) * 32 ^ 4 + (ls.getD 2 0) * 32 ^ 3 + (ls.getD 3 0) * 32 ^ 2 + (ls.getD 4 0) * 32 + ls.getD 5 0
def nmR (v : Nat) (x : Int32) : Prop := ∃ ls, nmOk ls ∧ v = nm27 ls ∧ x = nI (nm32 ls)
abbrev Lc : Type := Nat → Nat
/-- where a land's rows lie -/
def LdS (μ : Mm) (L : Nat) (c : Lc) (d : Ld) : Prop := (isO μ L 2 ∧ InL L) ∧ (∀ k, (3 ≤ k ∧ k ≤ 9) ∨ (17 ≤ k ∧ k ≤ 19) → mR μ L k = some (c k)) ∧ (∀ k, 3 ≤ k → k < 40 → InL (c k)) ∧ (isA μ (c 3) 1 (nC d) ∧ isA μ (c 4) 0 5 ∧ isA μ (c 5) 0 5 ∧ isA μ (c 6) 0 6 ∧ isA μ (c 7) 0 6) ∧ (isA μ (c 8) 6 6 ∧ ∀ i, i < 6 → mR μ (c 8) i = some (c (20 + i)) ∧ isA μ (c (20 + i)) 0 12) ∧ (isA μ (c 9) 6 2 ∧ ∀ i, i < 2 → mR μ (c 9) i = some (c (26 + i)) ∧ isA μ (c (26 + i)) 0 6)
def LdI (μ : Mm) (L : Nat) (d : Ld) : Prop := (mI μ L 0 = nI d.1.1 ∧ mI μ L 1 = nI d.1.2.1 ∧ mI μ L 2 = nI (kC d d.1.2.2)) ∧ (mI μ L 11 = nI d.2.2.1.length ∧ mI μ L 12 = nI d.2.2.2.1.length) ∧ (mI μ L 13 = nI d.2.2.2.2.1.1 ∧ mI μ L 14 = nI d.2.2.2.2.1.2.1 ∧ mI μ L 15 = nI d.2.2.2.2.1.2.2)
def chB (d : Ld) : Nat := bsF (fun k => decide (cK d k ∈ d.2.1)) (nC d)
def arB (d : Ld) (k : Nat) : Nat := bsF (fun j => decide (apN (cK d k) (cK d j) ≤ 1)) (nC d)
def LdB (μ : Mm) (L : Nat) (c : Lc) (d : Ld) : Prop := mL μ L 10 = lN (chB d) ∧ ∀ k, k < nC d → mL μ (c 3) k = lN (arB d k)
def LdE (μ : Mm) (c : Lc) (d : Ld) : Prop := ∀ i x, d.2.2.1[i]? = some x → i < 5 ∧ mI μ (c 4) i = nI (kC d x.2.1) ∧ mI μ (c 5) i = nI x.2.2 ∧ nmR x.1 (mI μ (c 26) i)
def LdW (μ : Mm) (c : Lc) (d : Ld) : Prop := ∀ i x, d.2.2.2.1[i]? = some x → i < 6 ∧ mI μ (c 6) i = nI (kC d x.2.2.1) ∧ mI μ (c 7) i = nI x.2.2.2 ∧ nmR x.1 (mI μ (c 27) i) ∧ ∀ h, h < 12 → mI μ (c (20 + i)) h = nI (kC d (wkC d i h))
def alW (w : Nat) : Nat → Bool := if w = 0 then al0 else al1
/-- a Code holds what was read -/
def CdR (μ : Mm) (a s : Nat) (al : Nat → Bool) (q t : Bool) (o : Option (List Int32)) : Prop := isO μ a 0 ∧ mR μ a 0 = some s ∧ ∃ ns : List Nat, isA μ s 0 ns.length ∧ ns.length ≤ 1600 ∧ (∀ j n, ns[j]? = some n → mI μ s j = nI (cvN n)) ∧ mI μ a 1 = bI (decide (41 ∈ ns)) ∧ match o with
  | none => ns = []
  | some cs => cs = ns.map nI ∧ ns ≠ [] ∧ TyR al q ns [] [t]
def LdK (μ : Mm) (c : Lc) (d : Ld) : Prop := ∀ w, w < 3 → CdR μ (c (17 + w)) (c (37 + w)) (alW w) false (decide (w = 2)) (d.2.2.2.2.2 w)
def LdR (μ : Mm) (L : Nat) (c : Lc) (d : Ld) : Prop := LdS μ L c d ∧ LdI μ L d ∧ LdB μ L c d ∧ LdE μ c d ∧ LdW μ c d ∧ LdK μ c d ∧ d.2.1.Nodup
/-- nothing of a land has changed -/
def Same (P : Nat → Prop) (μ μ' : Mm) : Prop := ∀ a, a < mN μ → P a → (∀ k, mI μ' a k = mI μ a k) ∧ (∀ k, mL μ' a k = mL μ a k) ∧ (∀ k, mR μ' a k = mR μ a k)
theorem Same.refl (P : Nat → Prop) (μ : Mm) : Same P μ μ := fun _ _ _ => ⟨fun _ => rfl, fun _ => rfl, fun _ => rfl⟩
theorem Same.trans {P : Nat → Prop} {μ μ' μ'' : Mm} (h : Same P μ μ') (h2 : Same P μ' μ'') (g : Grw μ μ') : Same P μ μ'' := fun a q p => ⟨fun k => ((h2 a (Nat.lt_of_lt_of_le q g.1) p).1 k).trans ((h a q p).1 k), fun k => ((h2 a (Nat.lt_of_lt_of_le q g.1) p).2.1 k).trans ((h a q p).2.1 k), fun k => ((h2 a (Nat.lt_of_lt_of_le q g.1) p).2.2 k).trans ((h a q p).2.2 k)⟩
theorem CdR.same {μ μ' : Mm} {a s : Nat} {al : Nat → Bool} {q t : Bool} {o : Option (List Int32)} (h : CdR μ a s al q t o) (g : Grw μ μ') (e : Same InL μ μ') (ha : InL a) (hs : InL s) : CdR μ' a s al q t o := by
  obtain ⟨h1, h2, ns, h3, h4, h5, h6, h7⟩ := h
  exact ⟨h1.grw g, ((e a h1.1 ha).2.2 0).trans h2, ns, h3.grw g, h4, fun j n q => by rw [(e s h3.1 hs).1 j]; exact h5 j n q, by rw [(e a h1.1 ha).1 1]; exact h6, h7⟩
theorem LdR.same {μ μ' : Mm} {L : Nat} {c : Lc} {d : Ld} (h : LdR μ L c d) (g : Grw μ μ') (e : Same InL μ μ') : LdR μ' L c d := by
  obtain ⟨⟨⟨s1, s2⟩, s3, s4, ⟨s5, s6, s7, s8, s9⟩, ⟨s10, s11⟩, s12, s13⟩, ⟨i1, i2, i3⟩, ⟨b1, b2⟩, e1, w1, k1, n1⟩ := h
  have eL := e L s1.1 s2
  have e3 := e _ s5.1 (s4 3 (by omega) (by omega))
  have e4 := e _ s6.1 (s4 4 (by omega) (by omega))
  have e5 := e _ s7.1 (s4 5 (by omega) (by omega))
  have e6 := e _ s8.1 (s4 6 (by omega) (by omega))
  have e7 := e _ s9.1 (s4 7 (by omega) (by omega))
  have e8 := e _ s10.1 (s4 8 (by omega) (by omega))
  have e9 := e _ s12.1 (s4 9 (by omega) (by omega))
  refine ⟨⟨⟨s1.grw g, s2⟩, fun k q => (eL.2.2 k).trans (s3 k q), s4, ⟨s5.grw g, s6.grw g, s7.grw g, s8.grw g, s9.grw g⟩, ⟨s10.grw g, fun i q => ⟨(e8.2.2 i).trans (s11 i q).1, (s11 i q).2.grw g⟩⟩, s12.grw g, fun i q => ⟨(e9.2.2 i).trans (s13 i q).1, (s13 i q).2.grw g⟩⟩, ⟨⟨(eL.1 0).trans i1.1, (eL.1 1).trans i1.2.1, (eL.1 2).trans i1.2.2⟩, ⟨(eL.1 11).trans i2.1, (eL.1 12).trans i2.2⟩, (eL.1 13).trans i3.1, (eL.1 14).trans i3.2.1, (eL.1 15).trans i3.2.2⟩, ⟨(eL.2.1 10).trans b1, fun k q => (e3.2.1 k).trans (b2 k q)⟩, fun i x q => ?_, fun i x q => ?_, fun w hw => (k1 w hw).same g e (s4 _ (by omega) (by omega)) (s4 _ (by omega) (by omega)), n1⟩
  · obtain ⟨z0, z1, z2, z3⟩ := e1 i x q
    exact ⟨z0, (e4.1 i).trans z1, (e5.1 i).trans z2, by rw [(e _ (s13 0 (by omega)).2.1 (s4 26 (by omega) (by omega))).1 i]; exact z3⟩
  · obtain ⟨z0, z1, z2, z3, z4⟩ := w1 i x q
    exact ⟨z0, (e6.1 i).trans z1, (e7.1 i).trans z2, by rw [(e _ (s13 1 (by omega)).2.1 (s4 27 (by omega) (by omega))).1 i]; exact z3, fun h hh => by rw [(e _ (s11 i z0).2.1 (s4 (20 + i) (by omega) (by omega))).1 h]; exact z4 h hh⟩
