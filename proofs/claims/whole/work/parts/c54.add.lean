/-! the class: a bell, a walker is added to a land -/
theorem wkC_eq {d d' : Ld} (h : d'.2.2.2.1 = d.2.2.2.1) (w : Nat) : ∀ k, wkC d' w k = wkC d w k := by
  have h1 : ∀ k, wkX d' w k = wkX d w k := by
    intro k
    induction k with
    | zero => unfold wkX walkF; rw [h]
    | succ k ih => unfold wkX walkT; rw [ih, h]
  have h2 : ∀ k, wkY d' w k = wkY d w k := by
    intro k
    induction k with
    | zero => unfold wkY walkF; rw [h]
    | succ k ih => unfold wkY walkT; rw [ih, h]
  intro k
  unfold wkC
  rw [h1, h2]
theorem wkX_n (d : Ld) (w : Nat) : ∀ k, wkX d w k = nrS (walkF d w % 7) (walkT d w % 7) k
  | 0 => by rw [nrS_0]; rfl
  | k + 1 => by rw [nrS_s]; show nrF (wkX d w k) _ = _; rw [wkX_n d w k]
theorem wkY_n (d : Ld) (w : Nat) : ∀ k, wkY d w k = nrS (walkF d w / 7) (walkT d w / 7) k
  | 0 => by rw [nrS_0]; rfl
  | k + 1 => by rw [nrS_s]; show nrF (wkY d w k) _ = _; rw [wkY_n d w k]
theorem nrS_lt {v t n s : Nat} (hv : v < n) (ht : t < n) : nrS v t s < n := by
  unfold nrS
  split <;> omega
theorem wkC_app {d : Ld} {z : Nat × Nat × Nat × Nat} {w : Nat} (hw : w < d.2.2.2.1.length) : ∀ k, wkC (d.1, d.2.1, d.2.2.1, d.2.2.2.1 ++ [z], d.2.2.2.2) w k = wkC d w k := by
  have e1 : walkF (d.1, d.2.1, d.2.2.1, d.2.2.2.1 ++ [z], d.2.2.2.2) w = walkF d w := by
    unfold walkF
    dsimp only
    rw [List.getD_eq_getElem?_getD, List.getD_eq_getElem?_getD, List.getElem?_append_left hw]
  have e2 : walkT (d.1, d.2.1, d.2.2.1, d.2.2.2.1 ++ [z], d.2.2.2.2) w = walkT d w := by
    unfold walkT
    dsimp only
    rw [List.getD_eq_getElem?_getD, List.getD_eq_getElem?_getD, List.getElem?_append_left hw]
  intro k
  unfold wkC
  rw [wkX_n, wkY_n, wkX_n, wkY_n, e1, e2]
section LGU
variable {μ μ' : Mm} {L : Nat} {c : Lc} {f g : Nat → Nat} {d d' : Ld}
theorem LdS.of (h : LdS μ L c d) (e : μ'.2.2 = μ.2.2) (hn : nC d' = nC d) : LdS μ' L c d' := by
  obtain ⟨⟨h1, h2⟩, h3, h4, h5, h6, h7⟩ := h
  have ho : ∀ {a t}, isO μ a t → isO μ' a t := fun z => z.grw (Grw.of (by rw [e]))
  have ha : ∀ {a t n}, isA μ a t n → isA μ' a t n := fun z => z.grw (Grw.of (by rw [e]))
  have hr : ∀ a k, mR μ' a k = mR μ a k := fun a k => by unfold mR; rw [e]
  exact ⟨⟨ho h1, h2⟩, fun k q => (hr L k).trans (h3 k q), h4, ⟨by rw [hn]; exact ha h5.1, ha h5.2.1, ha h5.2.2.1, ha h5.2.2.2.1, ha h5.2.2.2.2⟩, ⟨ha h6.1, fun i q => ⟨(hr _ _).trans (h6.2 i q).1, ha (h6.2 i q).2⟩⟩, ha h7.1, fun i q => ⟨(hr _ _).trans (h7.2 i q).1, ha (h7.2 i q).2⟩⟩
theorem CdR.of {a s : Nat} {al : Nat → Bool} {q t : Bool} {o : Option (List Int32)} (h : CdR μ a s al q t o) (e : μ'.2.2 = μ.2.2) (h1 : mI μ' a 1 = mI μ a 1) (h2 : ∀ k, mI μ' s k = mI μ s k) : CdR μ' a s al q t o := by
  obtain ⟨k1, k2, ns, k3, k4, k5, k6, k7⟩ := h
  exact ⟨k1.grw (Grw.of (by rw [e])), by unfold mR; rw [e]; exact k2, ns, k3.grw (Grw.of (by rw [e])), k4, fun j n z => (h2 j).trans (k5 j n z), h1.trans k6, k7⟩
theorem LgR.dk (h : LgR μ L f g d) (e : μ'.2.2 = μ.2.2) (hI : ∀ a k, L + 16 ≤ a → mI μ' a k = mI μ a k) : LdK μ' (cLk L f g) d := fun w hw => by
  have := h.1.2.2.2.2.2.1 w hw
  have hf := h.2.2 w hw
  rw [cLk_17 hw, cLk_37 hw] at this ⊢
  exact this.of e (hI _ _ hf.1) (fun k => hI _ _ hf.2)
theorem LgR.o (h : LgR μ L f g d) : isO μ L 2 := h.1.1.1.1
/-- one more bell -/
theorem LgR.bell (h : LgR μ L f g d) (hn : d.2.2.1.length < 5) {v c n : Nat} {x : Int32} (hx : nmR v x) : LgR (sI (sI (sI (sI μ (L + 13) d.2.2.1.length x) (L + 1) d.2.2.1.length (nI (kC d c))) (L + 2) d.2.2.1.length (nI n)) L 11 (nI (d.2.2.1.length + 1))) L f g (d.1, d.2.1, d.2.2.1 ++ [(v, c, n)], d.2.2.2) := by
  have hk := h.dk (μ' := sI (sI (sI (sI μ (L + 13) d.2.2.1.length x) (L + 1) d.2.2.1.length (nI (kC d c))) (L + 2) d.2.2.1.length (nI n)) L 11 (nI (d.2.2.1.length + 1))) rfl (fun a k ha => by rw [mI_sI, if_neg (by omega), mI_sI, if_neg (by omega), mI_sI, if_neg (by omega), mI_sI, if_neg (by omega)])
  obtain ⟨⟨s1, ⟨i1, ⟨i2, i3⟩, i4⟩, b1, e1, w1, k1, n1⟩, h2, h3⟩ := h
  have hL : ∀ k, k ≠ 11 → mI (sI (sI (sI (sI μ (L + 13) d.2.2.1.length x) (L + 1) d.2.2.1.length (nI (kC d c))) (L + 2) d.2.2.1.length (nI n)) L 11 (nI (d.2.2.1.length + 1))) L k = mI μ L k := fun k q => by rw [mI_sI, if_neg (by omega), mI_sI, if_neg (by omega), mI_sI, if_neg (by omega), mI_sI, if_neg (by omega)]
  have hO : ∀ a k, a ≠ L → a ≠ L + 1 → a ≠ L + 2 → a ≠ L + 13 → mI (sI (sI (sI (sI μ (L + 13) d.2.2.1.length x) (L + 1) d.2.2.1.length (nI (kC d c))) (L + 2) d.2.2.1.length (nI n)) L 11 (nI (d.2.2.1.length + 1))) a k = mI μ a k := fun a k q1 q2 q3 q4 => by rw [mI_sI, if_neg (by omega), mI_sI, if_neg (by omega), mI_sI, if_neg (by omega), mI_sI, if_neg (by omega)]
  refine ⟨⟨s1.of rfl rfl, ⟨⟨(hL 0 (by omega)).trans i1.1, (hL 1 (by omega)).trans i1.2.1, (hL 2 (by omega)).trans i1.2.2⟩, ⟨?_, (hL 12 (by omega)).trans i3⟩, (hL 13 (by omega)).trans i4.1, (hL 14 (by omega)).trans i4.2.1, (hL 15 (by omega)).trans i4.2.2⟩, b1, fun i y hy => ?_, fun i y hy => ?_, hk, n1⟩, h2, h3⟩
  · rw [mI_sI, if_pos ⟨rfl, rfl⟩]
    simp
  · rcases app1 hy with ⟨hi, hy'⟩ | ⟨hi, hy'⟩
    · obtain ⟨z0, z1, z2, z3⟩ := e1 i y hy'
      refine ⟨z0, ?_, ?_, ?_⟩
      · show mI _ (L + 1) i = _
        rw [mI_sI, if_neg (by omega), mI_sI, if_neg (by omega), mI_sI, if_neg (by omega), mI_sI, if_neg (by omega)]
        exact z1
      · show mI _ (L + 2) i = _
        rw [mI_sI, if_neg (by omega), mI_sI, if_neg (by omega), mI_sI, if_neg (by omega), mI_sI, if_neg (by omega)]
        exact z2
      · show nmR y.1 (mI _ (L + 13) i)
        rw [mI_sI, if_neg (by omega), mI_sI, if_neg (by omega), mI_sI, if_neg (by omega), mI_sI, if_neg (by omega)]
        exact z3
    · subst hi hy'
      refine ⟨hn, ?_, ?_, ?_⟩
      · show mI _ (L + 1) d.2.2.1.length = _
        rw [mI_sI, if_neg (by omega), mI_sI, if_neg (by omega), mI_sI, if_pos ⟨rfl, rfl⟩]
        rfl
      · show mI _ (L + 2) d.2.2.1.length = _
        rw [mI_sI, if_neg (by omega), mI_sI, if_pos ⟨rfl, rfl⟩]
      · show nmR v (mI _ (L + 13) d.2.2.1.length)
        rw [mI_sI, if_neg (by omega), mI_sI, if_neg (by omega), mI_sI, if_neg (by omega), mI_sI, if_pos ⟨rfl, rfl⟩]
        exact hx
  · obtain ⟨z0, z1, z2, z3, z4⟩ := w1 i y hy
    refine ⟨z0, (hO (L + 3) i (by omega) (by omega) (by omega) (by omega)).trans z1, (hO (L + 4) i (by omega) (by omega) (by omega) (by omega)).trans z2, ?_, fun t ht => ?_⟩
    · show nmR y.1 (mI _ (L + 14) i)
      rw [hO (L + 14) i (by omega) (by omega) (by omega) (by omega)]
      exact z3
    · have := z4 t ht
      rw [cLk_20 z0] at this ⊢
      rw [hO _ t (by omega) (by omega) (by omega) (by omega), this, wkC_eq (d := d) (d' := (d.1, d.2.1, d.2.2.1 ++ [(v, c, n)], d.2.2.2)) rfl]
      rfl
/-- one more walker -/
def AwP (μ : Mm) (L n : Nat) (x y m : Int32) (f : Nat → Int32) (μ' : Mm) : Prop := μ'.2 = μ.2 ∧ mI μ' (L + 14) n = x ∧ mI μ' (L + 3) n = y ∧ mI μ' (L + 4) n = m ∧ (∀ h, h < 12 → mI μ' (L + 6 + n) h = f h) ∧ mI μ' L 12 = nI (n + 1) ∧ ∀ a k, ¬ (a = L + 14 ∧ k = n) → ¬ (a = L + 3 ∧ k = n) → ¬ (a = L + 4 ∧ k = n) → a ≠ L + 6 + n → ¬ (a = L ∧ k = 12) → mI μ' a k = mI μ a k
theorem LgR.walk (h : LgR μ L f g d) (hn : d.2.2.2.1.length < 6) {v c e n : Nat} {x : Int32} (hx : nmR v x) {ff : Nat → Int32} (hff : ∀ k, k < 12 → ff k = nI (kC d (wkC (d.1, d.2.1, d.2.2.1, d.2.2.2.1 ++ [(v, c, e, n)], d.2.2.2.2) d.2.2.2.1.length k))) (hw : AwP μ L d.2.2.2.1.length x (nI (kC d e)) (nI n) ff μ') : LgR μ' L f g (d.1, d.2.1, d.2.2.1, d.2.2.2.1 ++ [(v, c, e, n)], d.2.2.2.2) := by
  obtain ⟨p1, p2, p3, p4, p5, p6, p7⟩ := hw
  have hk := h.dk (μ' := μ') (by rw [p1]) (fun a k ha => p7 a k (by omega) (by omega) (by omega) (by omega) (by omega))
  obtain ⟨⟨s1, ⟨i1, ⟨i2, i3⟩, i4⟩, b1, e1, w1, k1, n1⟩, h2, h3⟩ := h
  have hL : ∀ k, k ≠ 12 → mI μ' L k = mI μ L k := fun k q => p7 L k (by omega) (by omega) (by omega) (by omega) (by omega)
  refine ⟨⟨s1.of (by rw [p1]) rfl, ⟨⟨(hL 0 (by omega)).trans i1.1, (hL 1 (by omega)).trans i1.2.1, (hL 2 (by omega)).trans i1.2.2⟩, ⟨(hL 11 (by omega)).trans i2, ?_⟩, (hL 13 (by omega)).trans i4.1, (hL 14 (by omega)).trans i4.2.1, (hL 15 (by omega)).trans i4.2.2⟩, ?_, fun i y hy => ?_, fun i y hy => ?_, hk, n1⟩, h2, h3⟩
  · rw [p6]
    simp
  · unfold LdB mL
    rw [p1]
    exact b1
  · obtain ⟨z0, z1, z2, z3⟩ := e1 i y hy
    refine ⟨z0, (p7 (L + 1) i (by omega) (by omega) (by omega) (by omega) (by omega)).trans z1, (p7 (L + 2) i (by omega) (by omega) (by omega) (by omega) (by omega)).trans z2, ?_⟩
    show nmR y.1 (mI _ (L + 13) i)
    rw [p7 (L + 13) i (by omega) (by omega) (by omega) (by omega) (by omega)]
    exact z3
  · rcases app1 hy with ⟨hi, hy'⟩ | ⟨hi, hy'⟩
    · obtain ⟨z0, z1, z2, z3, z4⟩ := w1 i y hy'
      refine ⟨z0, (p7 (L + 3) i (by omega) (by omega) (by omega) (by omega) (by omega)).trans z1, (p7 (L + 4) i (by omega) (by omega) (by omega) (by omega) (by omega)).trans z2, ?_, fun t ht => ?_⟩
      · show nmR y.1 (mI _ (L + 14) i)
        rw [p7 (L + 14) i (by omega) (by omega) (by omega) (by omega) (by omega)]
        exact z3
      · have := z4 t ht
        rw [cLk_20 z0] at this ⊢
        rw [p7 _ t (by omega) (by omega) (by omega) (by omega) (by omega), this]
        show nI (kC d _) = nI (kC d _)
        congr 2
        exact (wkC_app hi t).symm
    · subst hi hy'
      refine ⟨hn, p3, p4, ?_, fun t ht => ?_⟩
      · show nmR v (mI μ' (L + 14) d.2.2.2.1.length)
        rw [p2]
        exact hx
      · rw [cLk_20 hn, p5 t ht, hff t ht]
        rfl
end LGU
section KAD
variable {l : Launch} {G : Gm} {μ : Mm} {L : Nat} {f g : Nat → Nat} {d : Ld}
theorem kl_addBell (h : LgR μ L f g d) (hn : d.2.2.1.length < 5) (x y z : Int32) : AMet l G 0 0 0 mtX2_addBell [.ref (G.1 + L), .int x, .int y, .int z] μ (qV (fun μ' => μ' = sI (sI (sI (sI μ (L + 13) d.2.2.1.length x) (L + 1) d.2.2.1.length y) (L + 2) d.2.2.1.length z) L 11 (nI (d.2.2.1.length + 1)))) := by
  refine AMet.of (by decide) (Nat.le_of_ble_eq_true rfl) (fun X C hX hnm hq => ?_)
  obtain ⟨⟨⟨⟨hO, -⟩, hr, -, ⟨-, a4, a5, -, -⟩, -, a9, hn9⟩, ⟨-, ⟨i11, -⟩, -⟩, -⟩, -, -⟩ := h
  have h9 : mR μ L 9 = some (L + 12) := hr 9 (by omega)
  have h4 : mR μ L 4 = some (L + 1) := hr 4 (by omega)
  have h5 : mR μ L 5 = some (L + 2) := hr 5 (by omega)
  have r26 : mR μ (L + 12) 0 = some (L + 13) ∧ isA μ (L + 13) 0 6 := hn9 0 (by omega)
  refine C.aload_n dX2_addBell_0 0 rfl ?_
  refine C.getI fX2_89 dX2_addBell_1 hO ?_
  rw [i11]
  refine C.iconst (nI 5) dX2_addBell_4 (by decide) ?_
  refine C.icmp_ge 50 dX2_addBell_5 rfl (fun hc5 => ?_) (fun hc5 => ?_)
  · exact absurd hc5 (fun q => by have := n_le q; omega)
  · refine C.aload_n dX2_addBell_8 0 rfl ?_
    refine C.getA fX2_29 dX2_addBell_9 hO h9 ?_
    refine C.iconst (nI 0) dX2_addBell_12 (by decide) ?_
    refine C.aald a9 (Or.inr rfl) (n_in (by omega)) (by rw [n_cl (by omega)]; exact r26.1) dX2_addBell_13 ?_
    refine C.aload_n dX2_addBell_14 0 rfl ?_
    refine C.getI fX2_89 dX2_addBell_15 hO ?_
    rw [i11]
    refine C.iload_n dX2_addBell_18 1 rfl ?_
    refine C.iast r26.2 (n_in (by omega)) dX2_addBell_19 ?_
    rw [n_cl (by omega)]
    refine C.aload_n dX2_addBell_20 0 rfl ?_
    refine C.getA fX2_9 dX2_addBell_21 hO h4 ?_
    refine C.aload_n dX2_addBell_24 0 rfl ?_
    refine C.getI fX2_89 dX2_addBell_25 hO ?_
    rw [show mI (sI μ (L + 13) d.2.2.1.length x) L 11 = nI d.2.2.1.length from by rw [mI_sI, if_neg (by omega)]; exact i11]
    refine C.iload_n dX2_addBell_28 2 rfl ?_
    refine C.iast a4 (n_in (by omega)) dX2_addBell_29 ?_
    rw [n_cl (by omega)]
    refine C.aload_n dX2_addBell_30 0 rfl ?_
    refine C.getA fX2_15 dX2_addBell_31 hO h5 ?_
    refine C.aload_n dX2_addBell_34 0 rfl ?_
    refine C.getI fX2_89 dX2_addBell_35 hO ?_
    rw [show mI (sI (sI μ (L + 13) d.2.2.1.length x) (L + 1) d.2.2.1.length y) L 11 = nI d.2.2.1.length from by rw [mI_sI, if_neg (by omega), mI_sI, if_neg (by omega)]; exact i11]
    refine C.iload_n dX2_addBell_38 3 rfl ?_
    refine C.iast a5 (n_in (by omega)) dX2_addBell_39 ?_
    rw [n_cl (by omega)]
    refine C.aload_n dX2_addBell_40 0 rfl ?_
    refine C.dup dX2_addBell_41 rfl ?_
    refine C.getI fX2_89 dX2_addBell_42 hO ?_
    rw [show mI (sI (sI (sI μ (L + 13) d.2.2.1.length x) (L + 1) d.2.2.1.length y) (L + 2) d.2.2.1.length z) L 11 = nI d.2.2.1.length from by rw [mI_sI, if_neg (by omega), mI_sI, if_neg (by omega), mI_sI, if_neg (by omega)]; exact i11]
    refine C.iconst (nI 1) dX2_addBell_45 (by decide) ?_
    refine C.iadd dX2_addBell_46 ?_
    rw [nI_add]
    refine C.putI fX2_89 (Or.inl rfl) dX2_addBell_47 hO ?_
    refine C.vret hq dX2_addBell_50 ?_
    rfl
theorem kl_addWalker (h : LgR μ L f g d) (hWf : Wf d) (hn : d.2.2.2.1.length < 6) (x : Int32) {a e : Nat} (ha : clOk d a) (he : clOk d e) (z : Int32) : AMet l G 2 0 0 mtX2_addWalker [.ref (G.1 + L), .int x, .int (nI (kC d a)), .int (nI (kC d e)), .int z] μ (qV (fun μ' => AwP μ L d.2.2.2.1.length x (nI (kC d e)) z (fun k => nI (nrS (a / 7) (e / 7) k * d.1.1 + nrS (a % 7) (e % 7) k)) μ')) := by
  refine AMet.of (by decide) (Nat.le_of_ble_eq_true rfl) (fun X C hX hnm hq => ?_)
  obtain ⟨⟨⟨⟨hO, -⟩, hr, -, ⟨-, -, -, a6, a7⟩, ⟨a8, hw8⟩, a9, hn9⟩, ⟨⟨i0, -, -⟩, ⟨-, i12⟩, -⟩, -⟩, -, -⟩ := h
  have h9 : mR μ L 9 = some (L + 12) := hr 9 (by omega)
  have h6 : mR μ L 6 = some (L + 3) := hr 6 (by omega)
  have h7 : mR μ L 7 = some (L + 4) := hr 7 (by omega)
  have h8 : mR μ L 8 = some (L + 5) := hr 8 (by omega)
  have r27 : mR μ (L + 12) 1 = some (L + 14) ∧ isA μ (L + 14) 0 6 := hn9 1 (by omega)
  have rw8 : mR μ (L + 5) d.2.2.2.1.length = some (L + 6 + d.2.2.2.1.length) ∧ isA μ (L + 6 + d.2.2.2.1.length) 0 12 := by
    have := hw8 d.2.2.2.1.length hn
    rw [cLk_20 hn] at this
    exact this
  have hW7 := hWf.1.2.1
  have hH7 := hWf.1.2.2.2.1
  have hW0 : 0 < d.1.1 := by have := hWf.1.1; omega
  have hka := kC_lt ha
  have hke := kC_lt he
  have h49 : nC d ≤ 49 := hWf.n49.2
  obtain ⟨ha1, ha2⟩ := ha
  obtain ⟨he1, he2⟩ := he
  have ca : kC d a % d.1.1 = a % 7 := kC_mod ⟨ha1, ha2⟩
  have ce : kC d e % d.1.1 = e % 7 := kC_mod ⟨he1, he2⟩
  have ra : kC d a / d.1.1 = a / 7 := kC_div ⟨ha1, ha2⟩
  have re : kC d e / d.1.1 = e / 7 := kC_div ⟨he1, he2⟩
  have loop : ∀ (n k : Nat) (μ1 : Mm), 12 - k < n → k ≤ 12 → (μ1.2 = μ.2 ∧ (mI μ1 (L + 14) d.2.2.2.1.length = x ∧ mI μ1 (L + 3) d.2.2.2.1.length = nI (kC d e) ∧ mI μ1 (L + 4) d.2.2.2.1.length = z) ∧ (∀ h, h < k → mI μ1 (L + 6 + d.2.2.2.1.length) h = nI (nrS (a / 7) (e / 7) h * d.1.1 + nrS (a % 7) (e % 7) h)) ∧ ∀ b j, ¬ (b = L + 14 ∧ j = d.2.2.2.1.length) → ¬ (b = L + 3 ∧ j = d.2.2.2.1.length) → ¬ (b = L + 4 ∧ j = d.2.2.2.1.length) → b ≠ L + 6 + d.2.2.2.1.length → mI μ1 b j = mI μ b j) → AW l G X 0 0 45 [(0, .ref (G.1 + L)), (1, .int x), (2, .int (nI (kC d a))), (3, .int (nI (kC d e))), (4, .int z), (5, .int (nI k))] [] μ1 := by
    intro n
    induction n with
    | zero => intro k μ1 h; omega
    | succ n ih =>
      intro k μ1 hk hle ⟨q1, q2, q3, q4⟩
      have gg : Grw μ μ1 := Grw.of (by rw [q1])
      have hO := hO.grw gg
      have a8 := a8.grw gg
      have h8 : mR μ1 L 8 = some (L + 5) := by unfold mR; rw [q1]; exact h8
      have r8 : mR μ1 (L + 5) d.2.2.2.1.length = some (L + 6 + d.2.2.2.1.length) := by unfold mR; rw [q1]; exact rw8.1
      have ar8 := rw8.2.grw gg
      have i0 : mI μ1 L 0 = nI d.1.1 := (q4 _ _ (by omega) (by omega) (by omega) (by omega)).trans i0
      have i12 : mI μ1 L 12 = nI d.2.2.2.1.length := (q4 _ _ (by omega) (by omega) (by omega) (by omega)).trans i12
      refine C.iload dX2_addWalker_45 5 rfl ?_
      refine C.bipush (nI 12) dX2_addWalker_47 (by decide) ?_
      refine C.icmp_ge 108 dX2_addWalker_49 rfl (fun hc49 => ?_) (fun hc49 => ?_)
      · have hge : 12 ≤ k := n_le hc49
        have hk12 : k = 12 := by omega
        subst hk12
        refine C.aload_n dX2_addWalker_108 0 rfl ?_
        refine C.dup dX2_addWalker_109 rfl ?_
        refine C.getI fX2_92 dX2_addWalker_110 hO ?_
        rw [i12]
        refine C.iconst (nI 1) dX2_addWalker_113 (by decide) ?_
        refine C.iadd dX2_addWalker_114 ?_
        rw [nI_add]
        refine C.putI fX2_92 (Or.inl rfl) dX2_addWalker_115 hO ?_
        refine C.vret hq dX2_addWalker_118 ?_
        refine ⟨q1, ?_, ?_, ?_, fun h hh => ?_, ?_, fun b j w1 w2 w3 w4 w5 => ?_⟩
        · rw [mI_sI, if_neg (by omega)]; exact q2.1
        · rw [mI_sI, if_neg (by omega)]; exact q2.2.1
        · rw [mI_sI, if_neg (by omega)]; exact q2.2.2
        · rw [mI_sI, if_neg (by omega)]; exact q3 h hh
        · rw [mI_sI, if_pos ⟨rfl, rfl⟩]
        · rw [mI_sI, if_neg (by omega)]; exact q4 b j w1 w2 w3 w4
      · have hlt : k < 12 := n_nle hc49
        refine C.aload_n dX2_addWalker_52 0 rfl ?_
        refine C.iload_n dX2_addWalker_53 2 rfl ?_
        refine C.callVI lX2_74 dX2_addWalker_54 (kl_columnOf hO i0 (by omega) hW0 (by omega)) hO rfl rfl (Nat.le_of_ble_eq_true rfl) (Nat.zero_le _) (Nat.zero_le _) (Nat.le_of_ble_eq_true rfl) (fun x54 μ54 h54 => ?_)
        obtain ⟨rfl, hμ⟩ := h54
        subst hμ
        refine C.aload_n dX2_addWalker_57 0 rfl ?_
        refine C.iload_n dX2_addWalker_58 3 rfl ?_
        refine C.callVI lX2_74 dX2_addWalker_59 (kl_columnOf hO i0 (by omega) hW0 (by omega)) hO rfl rfl (Nat.le_of_ble_eq_true rfl) (Nat.zero_le _) (Nat.zero_le _) (Nat.le_of_ble_eq_true rfl) (fun x59 μ59 h59 => ?_)
        obtain ⟨rfl, hμ⟩ := h59
        subst hμ
        rw [ca, ce]
        refine C.iload dX2_addWalker_62 5 rfl ?_
        refine C.callSI lX2_95 dX2_addWalker_64 (kl_nearer (by omega) (by omega) (by omega)) rfl rfl (Nat.le_of_ble_eq_true rfl) (Nat.zero_le _) (Nat.zero_le _) (Nat.le_of_ble_eq_true rfl) (fun x64 μ64 h64 => ?_)
        obtain ⟨rfl, hμ⟩ := h64
        subst hμ
        refine C.istore (lv' := [(0, _), (1, _), (2, _), (3, _), (4, _), (5, _), (6, _)]) dX2_addWalker_67 (nLt hX rfl) rfl ?_
        refine C.aload_n dX2_addWalker_69 0 rfl ?_
        refine C.getA fX2_26 dX2_addWalker_70 hO h8 ?_
        refine C.aload_n dX2_addWalker_73 0 rfl ?_
        refine C.getI fX2_92 dX2_addWalker_74 hO ?_
        rw [i12]
        refine C.aald a8 (Or.inr rfl) (n_in (by omega)) (by rw [n_cl (by omega)]; exact r8) dX2_addWalker_77 ?_
        refine C.iload dX2_addWalker_78 5 rfl ?_
        refine C.aload_n dX2_addWalker_80 0 rfl ?_
        refine C.iload dX2_addWalker_81 6 rfl ?_
        refine C.aload_n dX2_addWalker_83 0 rfl ?_
        refine C.iload_n dX2_addWalker_84 2 rfl ?_
        refine C.callVI lX2_83 dX2_addWalker_85 (kl_rowOf hO i0 (by omega) hW0 (by omega)) hO rfl rfl (Nat.le_of_ble_eq_true rfl) (Nat.zero_le _) (Nat.zero_le _) (Nat.le_of_ble_eq_true rfl) (fun x85 μ85 h85 => ?_)
        obtain ⟨rfl, hμ⟩ := h85
        subst hμ
        refine C.aload_n dX2_addWalker_88 0 rfl ?_
        refine C.iload_n dX2_addWalker_89 3 rfl ?_
        refine C.callVI lX2_83 dX2_addWalker_90 (kl_rowOf hO i0 (by omega) hW0 (by omega)) hO rfl rfl (Nat.le_of_ble_eq_true rfl) (Nat.zero_le _) (Nat.zero_le _) (Nat.le_of_ble_eq_true rfl) (fun x90 μ90 h90 => ?_)
        obtain ⟨rfl, hμ⟩ := h90
        subst hμ
        rw [ra, re]
        refine C.iload dX2_addWalker_93 5 rfl ?_
        refine C.callSI lX2_95 dX2_addWalker_95 (kl_nearer (by omega) (by omega) (by omega)) rfl rfl (Nat.le_of_ble_eq_true rfl) (Nat.zero_le _) (Nat.zero_le _) (Nat.le_of_ble_eq_true rfl) (fun x95 μ95 h95 => ?_)
        obtain ⟨rfl, hμ⟩ := h95
        subst hμ
        refine C.callVI lX2_99 dX2_addWalker_98 (kl_cellAt hO _ _) hO rfl rfl (Nat.le_of_ble_eq_true rfl) (Nat.zero_le _) (Nat.zero_le _) (Nat.le_of_ble_eq_true rfl) (fun x98 μ98 h98 => ?_)
        obtain ⟨rfl, hμ⟩ := h98
        subst hμ
        rw [i0, pk_mul, nI_add]
        refine C.iast ar8 (n_in (by omega)) dX2_addWalker_101 ?_
        rw [n_cl (by omega)]
        refine C.iinc (lv' := [(0, _), (1, _), (2, _), (3, _), (4, _), (5, _), (6, _)]) _ dX2_addWalker_102 5 rfl rfl (nLt hX rfl) rfl ?_
        refine C.goto 45 dX2_addWalker_105 rfl ?_
        have hgo : AW l G X 0 0 45 [(0, .ref (G.1 + L)), (1, .int x), (2, .int (nI (kC d a))), (3, .int (nI (kC d e))), (4, .int z), (5, .int (nI (k + 1)))] [] (sI μ98 (L + 6 + d.2.2.2.1.length) k (nI (nrS (a / 7) (e / 7) k * d.1.1 + nrS (a % 7) (e % 7) k))) := by
          refine ih (k + 1) _ (by omega) (by omega) ⟨q1, ⟨?_, ?_, ?_⟩, fun h hh => ?_, fun b j w1 w2 w3 w4 => ?_⟩
          · rw [mI_sI, if_neg (by omega)]; exact q2.1
          · rw [mI_sI, if_neg (by omega)]; exact q2.2.1
          · rw [mI_sI, if_neg (by omega)]; exact q2.2.2
          · rw [mI_sI]
            by_cases e : h = k
            · rw [if_pos ⟨rfl, e⟩, e]
            · rw [if_neg (by omega)]; exact q3 h (by omega)
          · rw [mI_sI, if_neg (by omega)]; exact q4 b j w1 w2 w3 w4
        rw [← nI_1] at hgo
        exact AW.pick [0, 1, 2, 3, 4, 5] rfl hgo
  refine C.aload_n dX2_addWalker_0 0 rfl ?_
  refine C.getI fX2_92 dX2_addWalker_1 hO ?_
  rw [i12]
  refine C.bipush (nI 6) dX2_addWalker_4 (by decide) ?_
  refine C.icmp_ge 118 dX2_addWalker_6 rfl (fun hc6 => ?_) (fun hc6 => ?_)
  · exact absurd hc6 (fun q => by have := n_le q; omega)
  · refine C.aload_n dX2_addWalker_9 0 rfl ?_
    refine C.getA fX2_29 dX2_addWalker_10 hO h9 ?_
    refine C.iconst (nI 1) dX2_addWalker_13 (by decide) ?_
    refine C.aald a9 (Or.inr rfl) (n_in (by omega)) (by rw [n_cl (by omega)]; exact r27.1) dX2_addWalker_14 ?_
    refine C.aload_n dX2_addWalker_15 0 rfl ?_
    refine C.getI fX2_92 dX2_addWalker_16 hO ?_
    rw [i12]
    refine C.iload_n dX2_addWalker_19 1 rfl ?_
    refine C.iast r27.2 (n_in (by omega)) dX2_addWalker_20 ?_
    rw [n_cl (by omega)]
    refine C.aload_n dX2_addWalker_21 0 rfl ?_
    refine C.getA fX2_18 dX2_addWalker_22 hO h6 ?_
    refine C.aload_n dX2_addWalker_25 0 rfl ?_
    refine C.getI fX2_92 dX2_addWalker_26 hO ?_
    rw [show mI (sI μ (L + 14) d.2.2.2.1.length x) L 12 = nI d.2.2.2.1.length from by rw [mI_sI, if_neg (by omega)]; exact i12]
    refine C.iload_n dX2_addWalker_29 3 rfl ?_
    refine C.iast a6 (n_in (by omega)) dX2_addWalker_30 ?_
    rw [n_cl (by omega)]
    refine C.aload_n dX2_addWalker_31 0 rfl ?_
    refine C.getA fX2_21 dX2_addWalker_32 hO h7 ?_
    refine C.aload_n dX2_addWalker_35 0 rfl ?_
    refine C.getI fX2_92 dX2_addWalker_36 hO ?_
    rw [show mI (sI (sI μ (L + 14) d.2.2.2.1.length x) (L + 3) d.2.2.2.1.length (nI (kC d e))) L 12 = nI d.2.2.2.1.length from by rw [mI_sI, if_neg (by omega), mI_sI, if_neg (by omega)]; exact i12]
    refine C.iload dX2_addWalker_39 4 rfl ?_
    refine C.iast a7 (n_in (by omega)) dX2_addWalker_41 ?_
    rw [n_cl (by omega)]
    refine C.iconst (nI 0) dX2_addWalker_42 (by decide) ?_
    refine C.istore (lv' := [(0, _), (1, _), (2, _), (3, _), (4, _), (5, _)]) dX2_addWalker_43 (nLt hX rfl) rfl ?_
    refine loop 13 0 _ (by omega) (by omega) ⟨rfl, ⟨?_, ?_, ?_⟩, fun h hh => by omega, fun b j w1 w2 w3 w4 => ?_⟩
    · rw [mI_sI, if_neg (by omega), mI_sI, if_neg (by omega), mI_sI, if_pos ⟨rfl, rfl⟩]
    · rw [mI_sI, if_neg (by omega), mI_sI, if_pos ⟨rfl, rfl⟩]
    · rw [mI_sI, if_pos ⟨rfl, rfl⟩]
    · rw [mI_sI, if_neg w3, mI_sI, if_neg w2, mI_sI, if_neg w1]
end KAD
