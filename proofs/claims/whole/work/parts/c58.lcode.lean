/-! the class: codes of a land -/
def LnK (P : Pt → Pt) : Prop := ∀ u : Pt, u.1.1.length ≤ 1600 → (P u).1.1.length ≤ 1600
section LNK
variable {tx : Nat → Nat} {e m : Nat}
theorem cPut_le {u : Pt} {n : Nat} (h : u.1.1.length ≤ 1600) : (cPut u n).1.1.length ≤ 1600 := by
  unfold cPut
  by_cases hl : u.1.1.length < 1600
  · rw [if_pos hl]
    simp only [List.length_append, List.length_cons, List.length_nil]
    omega
  · rw [if_neg hl]
    exact h
theorem cLoop_le {c : Ps → Option (Nat × Ps)} {P : Pt → Pt} (hP : LnK P) : ∀ k, LnK (cLoop c P k)
  | 0 => fun u h => h
  | k + 1 => fun u h => by
    unfold cLoop
    cases c u.2 with
    | none => exact h
    | some r => exact cLoop_le hP k _ (cPut_le (hP _ h))
theorem cSums_le {P : Pt → Pt} (hP : LnK P) : LnK (cSums tx e P) := fun u h => cLoop_le (fun u h => cLoop_le hP _ _ (hP u h)) _ _ (cLoop_le hP _ _ (hP u h))
theorem cPair_le {o : Option (Pt → Pt)} (ho : ∀ S, o = some S → LnK S) (n : Nat) : LnK (cPair tx e o n) := fun u h => by
  unfold cPair
  split
  · cases o with
    | none => exact h
    | some S =>
      have hS := ho S rfl
      refine cPut_le ?_
      show (S (cNd tx e 44 (S (u.1, (sk tx e u.2.1 + 1, u.2.2))))).1.1.length ≤ 1600
      refine hS _ ?_
      show (S (u.1, (sk tx e u.2.1 + 1, u.2.2))).1.1.length ≤ 1600
      exact hS _ h
  · exact h
theorem cPart1_le {o : Option (Pt → Pt)} (ho : ∀ P, o = some P → LnK P) : LnK (cPart1 tx e m o) := fun u h => by
  have hm : ∀ S, o.map (cSums tx e) = some S → LnK S := by
    intro S hS
    cases o with
    | none => simp at hS
    | some P =>
      simp only [Option.map_some, Option.some.injEq] at hS
      rw [← hS]
      exact cSums_le (ho P rfl)
  unfold cPart1
  split
  · exact cPut_le h
  · split
    · cases o with
      | none => exact h
      | some P => exact cSums_le (ho P rfl) _ h
    · cases hw : wdO tx e u.2 with
      | none => exact h
      | some w =>
        unfold cWord
        dsimp only
        split
        · exact cPair_le hm _ _ h
        · split
          · exact cPair_le hm _ _ h
          · split
            · split
              · cases o with
                | none => exact h
                | some P => exact cPut_le (ho P rfl _ h)
              · exact cPut_le h
            · exact h
theorem cPt_le : ∀ n, LnK (cPt tx e m n)
  | 0 => cPart1_le (fun P z => by simp at z)
  | n + 1 => cPart1_le (fun P z => by simp only [Option.some.injEq] at z; rw [← z]; exact cPt_le n)
theorem cFact1_le {S : Pt → Pt} (hS : LnK S) {o : Option (Pt → Pt)} (ho : ∀ F, o = some F → LnK F) : LnK (cFact1 tx e S o) := fun u h => by
  unfold cFact1
  split
  · cases o with
    | none => exact h
    | some F => exact cPut_le (ho F rfl _ h)
  · split
    · cases o with
      | none => exact h
      | some F => exact cLoop_le (fun u h => cLoop_le (ho F rfl) _ _ (ho F rfl u h)) _ _ (cLoop_le (ho F rfl) _ _ (ho F rfl _ h))
    · split
      · exact cPut_le h
      · unfold cCmp
        split
        · exact cPut_le (hS _ (hS u h))
        · split
          · exact cPut_le (hS _ (hS u h))
          · split
            · exact cPut_le (hS _ (hS u h))
            · exact hS u h
theorem cFc_le : ∀ n, LnK (cFc tx e m n)
  | 0 => cFact1_le (cSums_le (cPt_le 0)) (fun F z => by simp at z)
  | n + 1 => cFact1_le (cSums_le (cPt_le (n + 1))) (fun F z => by simp only [Option.some.injEq] at z; rw [← z]; exact cFc_le n)
theorem cRd_le (w : Nat) (s : Ps) : (cRd tx e w s).1.1.length ≤ 1600 := by
  unfold cRd
  split
  · exact cLoop_le (fun u h => cLoop_le (cFc_le 6) _ _ (cFc_le 6 u h)) _ _ (cLoop_le (cFc_le 6) _ _ (cFc_le 6 _ (Nat.zero_le _)))
  · exact cSums_le (cPt_le 6) _ (Nat.zero_le _)
end LNK
section RDPF
variable {μ μ' : Mm} {tp : List Nat} {m L : Nat} {t : Pt} {r : Nat} {f g : Nat → Nat} {d : Ld}
theorem RdP.fr (h : RdP μ tp m t r μ') (hB : CsB μ) (hL : L < mN μ) : (LnF L μ μ' ∧ RD μ' (txL tp) tp.length t.2 ∧ PsOk tp.length t.2) ∧ (∀ a, a < mN μ → a ≠ 3 → a ≠ 5 → a ≠ 6 → (∀ k, mI μ' a k = mI μ a k) ∧ (∀ k, mL μ' a k = mL μ a k) ∧ (∀ k, mR μ' a k = mR μ a k)) ∧ r = mN μ + 1 ∧ mN μ' = mN μ + 2 ∧ isO μ' r 0 ∧ mR μ' r 0 = some (mN μ) ∧ isA μ' (mN μ) 0 t.1.1.length ∧ (∀ j n, t.1.1[j]? = some n → mI μ' (mN μ) j = nI (cvN n)) ∧ mI μ' r 1 = bI t.1.2 := by
  obtain ⟨μ1, μ2, ⟨a1, a2⟩, ⟨b1, b2, b3, b4, b5, b6, b7⟩, h3, h4⟩ := h
  have hN : mN μ2 = mN μ := by unfold mN; rw [b6, a1]
  have h259 := hB.2.2
  subst h3 h4
  have hI : ∀ a k, a < mN μ → a ≠ 3 → a ≠ 6 → ¬ (a = 5 ∧ 2 ≤ k) → mI (wrM μ2 t.1.1.length t.1.2) a k = mI μ a k := fun a k q1 q2 q3 q4 => by
    rw [(wrM_old (by omega)).1, b7 a k q2 q3 (by omega), a2 a k q4]
  have hLq : ∀ a k, a < mN μ → mL (wrM μ2 t.1.1.length t.1.2) a k = mL μ a k := fun a k q1 => by
    rw [(wrM_old (by omega)).2.1]
    unfold mL
    rw [b6, a1]
  have hRq : ∀ a k, a < mN μ → mR (wrM μ2 t.1.1.length t.1.2) a k = mR μ a k := fun a k q1 => by
    rw [(wrM_old (by omega)).2.2]
    unfold mR
    rw [b6, a1]
  have g1 : Grw μ (wrM μ2 t.1.1.length t.1.2) := (Grw.of (show μ2.2.2.2 = μ.2.2.2 by rw [b6, a1])).trans wrM_g
  refine ⟨⟨⟨g1, fun a ha => ⟨fun k => hLq a k (by omega), fun k => hRq a k (by omega), fun k q1 q2 q3 => hI a k (by omega) q1 q2 q3⟩⟩, b3.ph (fun k => (wrM_old (by omega)).1 k), b4⟩, fun a q1 q2 q3 q4 => ⟨fun k => hI a k q1 q2 q4 (fun z => q3 z.1), fun k => hLq a k q1, fun k => hRq a k q1⟩, by rw [hN], by rw [wrM_n, hN], wrM_o, by rw [wrM_r, hN], by rw [← hN]; exact wrM_a, fun j n hj => ?_, wrM_1⟩
  rw [← hN, wrM_s b1.2.2 (q_lt hj)]
  exact b5.2.2.2.2 j n hj
def upF (f : Nat → Nat) (w r : Nat) : Nat → Nat := fun v => if v = w then r else f v
theorem LgR.put (h : LgR μ L f g d) {w r s : Nat} (hw : w < 3) {cs : List Int32} (hr : CdR μ r s (alW w) false (decide (w = 2)) (some cs)) (h1 : L + 16 ≤ r) (h2 : L + 16 ≤ s) : LgR (sR μ L (17 + w) (some r)) L (upF f w r) (upF g w s) (d.1, d.2.1, d.2.2.1, d.2.2.2.1, d.2.2.2.2.1, fun v => if v = w then some cs else d.2.2.2.2.2 v) := by
  obtain ⟨⟨⟨s1, s2, s3, s4, s5, s6⟩, i1, b1, e1, w1, k1, n1⟩, h3, h4⟩ := h
  have hc : ∀ k, ¬ (17 ≤ k ∧ k ≤ 19) → ¬ (37 ≤ k ∧ k ≤ 39) → cLk L (upF f w r) (upF g w s) k = cLk L f g k := by
    intro k q1 q2
    unfold cLk
    rw [if_neg q1, if_neg q1, if_neg q2, if_neg q2]
  have hf : ∀ v, v < 3 → L + 16 ≤ upF f w r v ∧ L + 16 ≤ upF g w s v := by
    intro v hv
    unfold upF
    by_cases e : v = w
    · rw [if_pos e, if_pos e]
      exact ⟨h1, h2⟩
    · rw [if_neg e, if_neg e]
      exact h4 v hv
  refine ⟨⟨⟨s1, fun k hk => ?_, fun k q1 q2 => Or.inr (Nat.le_trans h3 (cLk_ge (fun v hv => ⟨by have := (hf v hv).1; omega, by have := (hf v hv).2; omega⟩) k)), ?_, ⟨s5.1, fun i hi => ?_⟩, ⟨s6.1, fun i hi => ?_⟩⟩, i1, b1, fun i y hy => ?_, fun i y hy => ?_, fun v hv => ?_, n1⟩, h3, hf⟩
  · rw [mR_sR]
    by_cases e : k = 17 + w
    · rw [if_pos ⟨rfl, e⟩, e, cLk_17 hw]
      show some r = some (if w = w then r else f w)
      rw [if_pos rfl]
    · rw [if_neg (fun z => e z.2), s2 k hk]
      rcases hk with q | q
      · rw [hc k (by omega) (by omega)]
      · obtain ⟨v, hv⟩ : ∃ v, k = 17 + v := ⟨k - 17, by omega⟩
        rw [hv, cLk_17 (by omega), cLk_17 (by omega)]
        show some (f v) = some (if v = w then r else f v)
        rw [if_neg (by omega)]
  · exact s4
  · have := s5.2 i hi
    rw [cLk_20 hi] at this ⊢
    refine ⟨?_, this.2⟩
    show mR (sR μ L (17 + w) (some r)) (L + 5) i = _
    rw [mR_sR, if_neg (by omega)]
    exact this.1
  · have := s6.2 i hi
    rw [cLk_26 hi] at this ⊢
    refine ⟨?_, this.2⟩
    show mR (sR μ L (17 + w) (some r)) (L + 12) i = _
    rw [mR_sR, if_neg (by omega)]
    exact this.1
  · exact e1 i y hy
  · obtain ⟨z0, z1, z2, z3, z4⟩ := w1 i y hy
    refine ⟨z0, z1, z2, z3, fun t ht => ?_⟩
    rw [wkC_eq (d := d) (d' := (d.1, d.2.1, d.2.2.1, d.2.2.2.1, d.2.2.2.2.1, fun v => if v = w then some cs else d.2.2.2.2.2 v)) rfl]
    have := z4 t ht
    rw [cLk_20 z0] at this ⊢
    exact this
  · rw [cLk_17 hv, cLk_37 hv]
    have hcd : ∀ {a s' : Nat} {al : Nat → Bool} {q t : Bool} {o : Option (List Int32)}, CdR μ a s' al q t o → a ≠ L → CdR (sR μ L (17 + w) (some r)) a s' al q t o := by
      intro a s' al q t o h ha
      obtain ⟨k1, k2, ns, k3, k4, k5, k6, k7⟩ := h
      exact ⟨k1, by rw [mR_sR, if_neg (fun z => ha z.1)]; exact k2, ns, k3, k4, k5, k6, k7⟩
    unfold upF
    dsimp only
    by_cases e : v = w
    · subst e
      rw [if_pos rfl, if_pos rfl, if_pos rfl]
      exact hcd hr (by omega)
    · rw [if_neg e, if_neg e, if_neg e]
      have := k1 v hv
      rw [cLk_17 hv, cLk_37 hv] at this
      exact hcd this (by have := (h4 v hv).1; omega)
/-- numbers of a land -/
theorem LgR.set (h : LgR μ L f g d) {j v : Nat} (hj : j < 3) : LgR (sI μ L (13 + j) (nI v)) L f g (setD d j v) := by
  have hk := h.dk (μ' := sI μ L (13 + j) (nI v)) rfl (fun a k ha => by rw [mI_sI, if_neg (by omega)])
  obtain ⟨⟨s1, ⟨i1, i2, i3⟩, b1, e1, w1, k1, n1⟩, h2, h3⟩ := h
  have hL : ∀ k, k ≠ 13 + j → mI (sI μ L (13 + j) (nI v)) L k = mI μ L k := fun k q => by rw [mI_sI, if_neg (by omega)]
  have hO : ∀ a k, a ≠ L → mI (sI μ L (13 + j) (nI v)) a k = mI μ a k := fun a k q => by rw [mI_sI, if_neg (by omega)]
  refine ⟨⟨s1.of rfl rfl, ⟨⟨(hL 0 (by omega)).trans i1.1, (hL 1 (by omega)).trans i1.2.1, (hL 2 (by omega)).trans i1.2.2⟩, ⟨(hL 11 (by omega)).trans i2.1, (hL 12 (by omega)).trans i2.2⟩, ?_⟩, b1, fun i y hy => ?_, fun i y hy => ?_, hk, n1⟩, h2, h3⟩
  · unfold setD
    dsimp only
    rcases (show j = 0 ∨ j = 1 ∨ j = 2 by omega) with e | e | e <;> subst e
    · exact ⟨by rw [mI_sI, if_pos ⟨rfl, rfl⟩]; rfl, (hL 14 (by omega)).trans i3.2.1, (hL 15 (by omega)).trans i3.2.2⟩
    · exact ⟨(hL 13 (by omega)).trans i3.1, by rw [mI_sI, if_pos ⟨rfl, rfl⟩]; rfl, (hL 15 (by omega)).trans i3.2.2⟩
    · exact ⟨(hL 13 (by omega)).trans i3.1, (hL 14 (by omega)).trans i3.2.1, by rw [mI_sI, if_pos ⟨rfl, rfl⟩]; rfl⟩
  · obtain ⟨z0, z1, z2, z3⟩ := e1 i y hy
    refine ⟨z0, (hO (L + 1) i (by omega)).trans z1, (hO (L + 2) i (by omega)).trans z2, ?_⟩
    show nmR y.1 (mI _ (L + 13) i)
    rw [hO (L + 13) i (by omega)]
    exact z3
  · obtain ⟨z0, z1, z2, z3, z4⟩ := w1 i y hy
    refine ⟨z0, (hO (L + 3) i (by omega)).trans z1, (hO (L + 4) i (by omega)).trans z2, ?_, fun t ht => ?_⟩
    · show nmR y.1 (mI _ (L + 14) i)
      rw [hO (L + 14) i (by omega)]
      exact z3
    · have := z4 t ht
      rw [cLk_20 z0] at this ⊢
      rw [hO _ t (by omega), this, wkC_eq (d := d) (d' := setD d j v) rfl]
      rfl
end RDPF
