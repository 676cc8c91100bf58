/-! the class: its phrases, as it reads them -/
/-- the codes so far, whether the night was asked for; where the reading stands -/
abbrev Pt : Type := (List Nat × Bool) × Ps
def cPut (t : Pt) (n : Nat) : Pt := if t.1.1.length < 1600 then ((t.1.1 ++ [n], t.1.2), t.2) else t
def PhR (μ : Mm) (m : Nat) (c : List Nat × Bool) : Prop := mI μ 5 2 = nI c.1.length ∧ mI μ 5 3 = nI m ∧ mI μ 5 4 = bI c.2 ∧ c.1.length ≤ 1600 ∧ ∀ j n, c.1[j]? = some n → mI μ 6 j = nI (cvN n)
def PhF (μ μ' : Mm) : Prop := μ'.2 = μ.2 ∧ ∀ a k, a ≠ 3 → a ≠ 6 → ¬ (a = 5 ∧ (k = 2 ∨ k = 4)) → mI μ' a k = mI μ a k
def isPt (m : Nat) : Option Nat → Bool
  | none => false
  | some w => decide (17 ≤ w) && decide (w ≤ 26) && m.testBit (w - 17)
section PHP
variable {μ μ' : Mm}
theorem PhR.q {m : Nat} {c : List Nat × Bool} (h : PhR μ m c) (f : RqF μ μ') : PhR μ' m c := ⟨(f.2 _ _ (by omega)).trans h.1, (f.2 _ _ (by omega)).trans h.2.1, (f.2 _ _ (by omega)).trans h.2.2.1, h.2.2.2.1, fun j n q => (f.2 _ _ (by omega)).trans (h.2.2.2.2 j n q)⟩
theorem PhF.q (f : RqF μ μ') : PhF μ μ' := ⟨f.1, fun a k q _ _ => f.2 a k q⟩
theorem PhF.refl (μ : Mm) : PhF μ μ := ⟨rfl, fun _ _ _ _ _ => rfl⟩
theorem PhF.trans {μ'' : Mm} (a : PhF μ μ') (b : PhF μ' μ'') : PhF μ μ'' := ⟨b.1.trans a.1, fun x k q1 q2 q3 => (b.2 x k q1 q2 q3).trans (a.2 x k q1 q2 q3)⟩
theorem PhF.sh (f : PhF μ μ') (hS : ShC μ) : ShC μ' := hS.of (by rw [f.1])
theorem PhF.t (f : PhF μ μ') {tp : List Nat} (hT : CsT μ tp) : CsT μ' tp := hT.of (f.2 _ _ (by omega) (by omega) (by omega)) (fun k => f.2 _ _ (by omega) (by omega) (by omega))
theorem PhF.b (f : PhF μ μ') (hB : CsB μ) : CsB μ' := ⟨f.sh hB.1, fun i q => (f.2 _ _ (by omega) (by omega) (by omega)).trans (hB.2.1 i q), by unfold mN; rw [f.1]; exact hB.2.2⟩
theorem RD.ph {tx : Nat → Nat} {e : Nat} {s : Ps} (h : RD μ tx e s) (hI : ∀ k, mI μ' 3 k = mI μ 3 k) : RD μ' tx e s := by
  unfold RD RdT at h ⊢
  simp only [hI]
  exact h
end PHP
section KPH
variable {l : Launch} {G : Gm} {μ : Mm} {tp : List Nat} {s : Ps} {m : Nat} {c : List Nat × Bool}

theorem kf_start (hS : ShC μ) (m : Nat) : AMet l G 0 0 0 mtX6_start [.ref (G.1 + 5), .int (nI m)] μ (qV (fun μ' => PhR μ' m ([], false) ∧ μ'.2 = μ.2 ∧ ∀ a k, ¬ (a = 5 ∧ 2 ≤ k) → mI μ' a k = mI μ a k)) := by
  refine AMet.of (by decide) (Nat.le_of_ble_eq_true rfl) (fun X C hX hnm hq => ?_)
  refine C.aload_n dX6_start_0 0 rfl ?_
  refine C.iconst (nI 0) dX6_start_1 (by decide) ?_
  refine C.putI fX6_33 (Or.inl rfl) dX6_start_2 hS.o5 ?_
  refine C.aload_n dX6_start_5 0 rfl ?_
  refine C.iload_n dX6_start_6 1 rfl ?_
  refine C.putI fX6_37 (Or.inl rfl) dX6_start_7 hS.o5 ?_
  refine C.aload_n dX6_start_10 0 rfl ?_
  refine C.iconst (nI 0) dX6_start_11 (by decide) ?_
  refine C.putZ fX6_40 (Or.inl rfl) dX6_start_12 hS.o5 (by decide) ?_
  refine C.vret hq dX6_start_15 ?_
  refine ⟨⟨?_, ?_, ?_, Nat.zero_le _, fun j n q => by cases q⟩, rfl, fun a k q => ?_⟩
  · rw [mI_sI, if_neg (by omega), mI_sI, if_neg (by omega), mI_sI, if_pos ⟨rfl, rfl⟩]; rfl
  · rw [mI_sI, if_neg (by omega), mI_sI, if_pos ⟨rfl, rfl⟩]
  · rw [mI_sI, if_pos ⟨rfl, rfl⟩]; rfl
  · rw [mI_sI, if_neg (by omega), mI_sI, if_neg (by omega), mI_sI, if_neg (by omega)]
theorem kf_put (hS : ShC μ) (hP : PhR μ m c) (hR : RD μ (txL tp) tp.length s) {st nu n : Nat} (h1 : st < 16) (h2 : nu < 100000) (hn : cvN n = nu * 16 + st) : AMet l G 0 0 0 mtX6_put [.ref (G.1 + 5), .int (nI st), .int (nI nu)] μ (qV (fun μ' => PhR μ' m (cPut (c, s) n).1 ∧ RD μ' (txL tp) tp.length s ∧ PhF μ μ')) := by
  refine AMet.of (by decide) (Nat.le_of_ble_eq_true rfl) (fun X C hX hnm hq => ?_)
  obtain ⟨p1, p2, p3, p4, p5⟩ := hP
  have hv : nI st ||| nI nu <<< (nI 4 &&& 31) = nI (cvN n) := by
    rw [hn, show nI 4 &&& 31 = nI 4 by decide, pk_shlN (n := nu) (nI 4) 4 (by decide) (by omega)]
    have := fa_or_sum (a := st) (k := 4) nu h1
    rw [Nat.mul_comm] at this
    rw [fa_or, Nat.or_comm, ← fa_or, this]
  unfold cPut at hq
  have fin : PhR (sI (sI μ 6 c.1.length (nI (cvN n))) 5 2 (nI (c.1.length + 1))) m (c.1 ++ [n], c.2) ∧ RD (sI (sI μ 6 c.1.length (nI (cvN n))) 5 2 (nI (c.1.length + 1))) (txL tp) tp.length s ∧ PhF μ (sI (sI μ 6 c.1.length (nI (cvN n))) 5 2 (nI (c.1.length + 1))) ∨ 1600 ≤ c.1.length := by
    by_cases h9 : 1600 ≤ c.1.length
    · exact Or.inr h9
    · refine Or.inl ⟨⟨?_, ?_, ?_, ?_, fun j x q => ?_⟩, hR.ph (fun k => by rw [mI_sI, if_neg (by omega), mI_sI, if_neg (by omega)]), rfl, fun a k q1 q2 q3 => by rw [mI_sI, if_neg (by omega), mI_sI, if_neg (by omega)]⟩
      · rw [mI_sI, if_pos ⟨rfl, rfl⟩, List.length_append]; rfl
      · rw [mI_sI, if_neg (by omega), mI_sI, if_neg (by omega)]; exact p2
      · rw [mI_sI, if_neg (by omega), mI_sI, if_neg (by omega)]; exact p3
      · rw [List.length_append]; show c.1.length + 1 ≤ 1600; omega
      · rw [mI_sI, if_neg (by omega), mI_sI]
        rcases app1 q with ⟨q1, q2⟩ | ⟨q1, q2⟩
        · rw [if_neg (by omega)]; exact p5 j x q2
        · rw [if_pos ⟨rfl, q1⟩, q2]
  refine C.aload_n dX6_put_0 0 rfl ?_
  refine C.getI fX6_33 dX6_put_1 hS.o5 ?_
  refine C.aload_n dX6_put_4 0 rfl ?_
  refine C.getA fX6_15 dX6_put_5 hS.o5 hS.r5_1 ?_
  refine C.alen hS.a6 (by decide) dX6_put_8 ?_
  rw [p1]
  refine C.icmp_ge 36 dX6_put_9 rfl (fun hc9 => ?_) (fun hc9 => ?_)
  · have h9 := n_le hc9 (by omega) (by omega)
    rw [if_neg (by show ¬ c.1.length < 1600; omega)] at hq
    refine C.vret hq dX6_put_36 ?_
    first | exact ⟨⟨p1, p2, p3, p4, p5⟩, hR, PhF.refl _⟩ | exact fin
  · have h9 := n_nle hc9 (by omega) (by omega)
    have fin := fin.resolve_right (by omega)
    rw [if_pos (show c.1.length < 1600 from h9)] at hq
    have e2 : mI (sI μ 6 c.1.length (nI (cvN n))) 5 2 = nI c.1.length := by rw [mI_sI, if_neg (by omega)]; exact p1
    refine C.aload_n dX6_put_12 0 rfl ?_
    refine C.getA fX6_15 dX6_put_13 hS.o5 hS.r5_1 ?_
    refine C.aload_n dX6_put_16 0 rfl ?_
    refine C.getI fX6_33 dX6_put_17 hS.o5 ?_
    rw [p1]
    refine C.iload_n dX6_put_20 1 rfl ?_
    refine C.iload_n dX6_put_21 2 rfl ?_
    refine C.iconst (nI 4) dX6_put_22 (by decide) ?_
    refine C.ishl dX6_put_23 ?_
    refine C.ior dX6_put_24 ?_
    rw [hv]
    refine C.iast hS.a6 (n_in (by omega)) dX6_put_25 ?_
    rw [n_cl]
    refine C.aload_n dX6_put_26 0 rfl ?_
    refine C.dup dX6_put_27 rfl ?_
    refine C.getI fX6_33 dX6_put_28 hS.o5 ?_
    rw [e2]
    refine C.iconst (nI 1) dX6_put_31 (by decide) ?_
    refine C.iadd dX6_put_32 ?_
    rw [nI_add]
    refine C.putI fX6_33 (Or.inl rfl) dX6_put_33 hS.o5 ?_
    refine C.vret hq dX6_put_36 ?_
    first | exact ⟨⟨p1, p2, p3, p4, p5⟩, hR, PhF.refl _⟩ | exact fin
theorem kf_isPart (hS : ShC μ) (hP : PhR μ m c) (hm : m < 1024) (o : Option Nat) (ho : ∀ w, o = some w → w < 39) : AMet l G 0 0 0 mtX6_isPart [.ref (G.1 + 5), .int (opI o)] μ (qI (fun z μ' => z = bI (isPt m o) ∧ μ' = μ)) := by
  refine AMet.of (by decide) (Nat.le_of_ble_eq_true rfl) (fun X C hX hnm hq => ?_)
  cases o with
  | none =>
    refine C.iload_n dX6_isPart_0 1 rfl ?_
    refine C.bipush (nI 17) dX6_isPart_1 (by decide) ?_
    refine C.icmp_lt 31 dX6_isPart_3 rfl (fun hc3 => ?_) (fun hc3 => ?_)
    · refine C.iconst (nI 0) dX6_isPart_31 (by decide) ?_
      refine C.zret hq dX6_isPart_32 (by decide) ?_
      exact ⟨rfl, rfl⟩
    · exact absurd (by decide) hc3
  | some w =>
    have hw := ho w rfl
    unfold isPt at hq
    dsimp only at hq
    refine C.iload_n dX6_isPart_0 1 rfl ?_
    refine C.bipush (nI 17) dX6_isPart_1 (by decide) ?_
    refine C.icmp_lt 31 dX6_isPart_3 rfl (fun hc3 => ?_) (fun hc3 => ?_)
    · have h3 := n_lt hc3 (by omega) (by omega)
      rw [decide_eq_false (p := 17 ≤ w) (by omega)] at hq
      refine C.iconst (nI 0) dX6_isPart_31 (by decide) ?_
      refine C.zret hq dX6_isPart_32 (by decide) ?_
      exact ⟨rfl, rfl⟩
    · have h3 := n_nlt hc3 (by omega) (by omega)
      rw [decide_eq_true (p := 17 ≤ w) h3] at hq
      refine C.iload_n dX6_isPart_6 1 rfl ?_
      refine C.bipush (nI 26) dX6_isPart_7 (by decide) ?_
      refine C.icmp_gt 31 dX6_isPart_9 rfl (fun hc9 => ?_) (fun hc9 => ?_)
      · have h9 := n_lt hc9 (by omega) (by omega)
        rw [decide_eq_false (p := w ≤ 26) (by omega)] at hq
        refine C.iconst (nI 0) dX6_isPart_31 (by decide) ?_
        refine C.zret hq dX6_isPart_32 (by decide) ?_
        exact ⟨rfl, rfl⟩
      · have h9 := n_nlt hc9 (by omega) (by omega)
        rw [decide_eq_true (p := w ≤ 26) h9] at hq
        have hsub : nI w - nI 17 = nI (w - 17) := by
          rw [show nI w = nI (w - 17) + nI 17 by rw [nI_add]; congr 1; omega]
          simp
        have hb := shr1 (r := m) (i := w - 17) (by omega) (by omega)
        have htb : m.testBit (w - 17) = decide (m / 2 ^ (w - 17) % 2 = 1) := Nat.testBit_eq_decide_div_mod_eq
        rw [htb] at hq
        refine C.aload_n dX6_isPart_12 0 rfl ?_
        refine C.getI fX6_37 dX6_isPart_13 hS.o5 ?_
        rw [hP.2.1]
        refine C.iload_n dX6_isPart_16 1 rfl ?_
        refine C.bipush (nI 17) dX6_isPart_17 (by decide) ?_
        refine C.isub dX6_isPart_19 ?_
        rw [show opI (some w) = nI w from rfl, hsub]
        refine C.ishr dX6_isPart_20 ?_
        refine C.iconst (nI 1) dX6_isPart_21 (by decide) ?_
        refine C.iand dX6_isPart_22 ?_
        rw [hb]
        refine C.iconst (nI 1) dX6_isPart_23 (by decide) ?_
        refine C.icmp_ne 31 dX6_isPart_24 rfl (fun hc24 => ?_) (fun hc24 => ?_)
        · have h24 := n_ne hc24
          rw [decide_eq_false h24] at hq
          refine C.iconst (nI 0) dX6_isPart_31 (by decide) ?_
          refine C.zret hq dX6_isPart_32 (by decide) ?_
          exact ⟨rfl, rfl⟩
        · have h24 := n_eq hc24 (by have := Nat.mod_lt (m / 2 ^ (w - 17)) (show 0 < 2 by decide); omega) (by omega)
          rw [decide_eq_true h24] at hq
          refine C.iconst (nI 1) dX6_isPart_27 (by decide) ?_
          refine C.goto 32 dX6_isPart_28 rfl ?_
          refine C.zret hq dX6_isPart_32 (by decide) ?_
          exact ⟨rfl, rfl⟩
theorem kf_opens (hS : ShC μ) (hR : RD μ (txL tp) tp.length s) (h0 : s.2.2.1 = 0) {s' : Ps} (hadv : AMet l G 1 0 0 mtX8_advance [.ref (G.1 + 3)] μ (qV (fun μ' => RD μ' (txL tp) tp.length s' ∧ RqF μ μ'))) {op : Nat} (hop : op ≤ 6) : AMet l G 2 0 0 mtX6_opens [.ref (G.1 + 5), .int (nI op)] μ (qI (fun z μ' => z = bI (decide (op < 6)) ∧ RD μ' (txL tp) tp.length (if op < 6 then s' else mFail s (nI 4) (nI (sk (txL tp) tp.length s.1))) ∧ RqF μ μ')) := by
  refine AMet.of (by decide) (Nat.le_of_ble_eq_true rfl) (fun X C hX hnm hq => ?_)
  have h4 := (hR.1 h0).2.2.1
  refine C.iload_n dX6_opens_0 1 rfl ?_
  refine C.bipush (nI 6) dX6_opens_1 (by decide) ?_
  refine C.icmp_lt 23 dX6_opens_3 rfl (fun hc3 => ?_) (fun hc3 => ?_)
  · have h3 := n_lt hc3 (by omega) (by omega)
    rw [decide_eq_true h3, if_pos h3] at hq
    refine C.aload_n dX6_opens_23 0 rfl ?_
    refine C.getO fX6_9 dX6_opens_24 hS.o5 hS.r5_0 ?_
    refine C.callVV lX6_64 dX6_opens_27 (hadv) hS.o3 rfl rfl (Nat.le_of_ble_eq_true rfl) (Nat.zero_le _) (Nat.zero_le _) (Nat.le_of_ble_eq_true rfl) (fun μ27 h27 => ?_)
    refine C.iconst (nI 1) dX6_opens_30 (by decide) ?_
    refine C.zret hq dX6_opens_31 (by decide) ?_
    first | exact ⟨rfl, h18⟩ | exact ⟨rfl, h27⟩
  · have h3 := n_nlt hc3 (by omega) (by omega)
    rw [decide_eq_false (by omega), if_neg (by omega)] at hq
    refine C.aload_n dX6_opens_6 0 rfl ?_
    refine C.getO fX6_9 dX6_opens_7 hS.o5 hS.r5_0 ?_
    refine C.iconst (nI 4) dX6_opens_10 (by decide) ?_
    refine C.aload_n dX6_opens_11 0 rfl ?_
    refine C.getO fX6_9 dX6_opens_12 hS.o5 hS.r5_0 ?_
    refine C.getI fX6_113 dX6_opens_15 hS.o3 ?_
    rw [h4]
    refine C.callVV lX6_116 dX6_opens_18 (kw_fail hS hR (by decide)) hS.o3 rfl rfl (Nat.le_of_ble_eq_true rfl) (Nat.zero_le _) (Nat.zero_le _) (Nat.le_of_ble_eq_true rfl) (fun μ18 h18 => ?_)
    refine C.iconst (nI 0) dX6_opens_21 (by decide) ?_
    refine C.zret hq dX6_opens_22 (by decide) ?_
    first | exact ⟨rfl, h18⟩ | exact ⟨rfl, h27⟩
end KPH
