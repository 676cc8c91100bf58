/-! the class: a land that is being read -/
def cLk (L : Nat) (f g : Nat → Nat) : Lc := fun k => if k = 3 then L + 15 else if k = 4 then L + 1 else if k = 5 then L + 2 else if k = 6 then L + 3 else if k = 7 then L + 4 else if k = 8 then L + 5 else if k = 9 then L + 12 else if 17 ≤ k ∧ k ≤ 19 then f (k - 17) else if 20 ≤ k ∧ k ≤ 25 then L + 6 + (k - 20) else if k = 26 then L + 13 else if k = 27 then L + 14 else if 37 ≤ k ∧ k ≤ 39 then g (k - 37) else L
section CLK
variable {L : Nat} {f g : Nat → Nat}
theorem cLk_17 {w : Nat} (hw : w < 3) : cLk L f g (17 + w) = f w := by
  rcases (show w = 0 ∨ w = 1 ∨ w = 2 by omega) with h | h | h <;> subst h <;> rfl
theorem cLk_37 {w : Nat} (hw : w < 3) : cLk L f g (37 + w) = g w := by
  rcases (show w = 0 ∨ w = 1 ∨ w = 2 by omega) with h | h | h <;> subst h <;> rfl
theorem cLk_20 {i : Nat} (hi : i < 6) : cLk L f g (20 + i) = L + 6 + i := by
  rcases (show i = 0 ∨ i = 1 ∨ i = 2 ∨ i = 3 ∨ i = 4 ∨ i = 5 by omega) with h | h | h | h | h | h <;> subst h <;> rfl
theorem cLk_26 {i : Nat} (hi : i < 2) : cLk L f g (26 + i) = L + 13 + i := by
  rcases (show i = 0 ∨ i = 1 by omega) with h | h <;> subst h <;> rfl
theorem cLk_ge (hf : ∀ w, w < 3 → L ≤ f w ∧ L ≤ g w) (k : Nat) : L ≤ cLk L f g k := by
  unfold cLk
  repeat' split
  all_goals first | omega | exact (hf _ (by omega)).1 | exact (hf _ (by omega)).2
end CLK
def LgR (μ : Mm) (L : Nat) (f g : Nat → Nat) (d : Ld) : Prop := LdR μ L (cLk L f g) d ∧ 259 ≤ L ∧ ∀ w, w < 3 → L + 16 ≤ f w ∧ L + 16 ≤ g w
section LGR
variable {μ M : Mm} {L W H b : Nat} {x : Int32} {f g : Nat → Nat} {d : Ld}
theorem LnQ.lg (h : LnQ μ L W H x M) (hL : 259 ≤ L) (hx : x = nI (kC (dZ W H b) b)) : LgR M L (fun _ => L + 16) (fun _ => L + 17) (dZ W H b) := by
  obtain ⟨⟨h1, h2, h3⟩, h4, ⟨r3, r4, r5, r6, r7, r8, r9, r17, r18, r19⟩, ⟨a15, a1, a2, a3, a4, a5, a12⟩, w6, n2, ⟨i0, i1, i2, i11, i12, i13, i14, i15, i16⟩, l10, lar, ⟨o16, q16, a17, q1⟩⟩ := h
  refine ⟨⟨⟨⟨h3, Or.inr hL⟩, fun k hk => ?_, fun k hk1 hk2 => ?_, ⟨a15, a1, a2, a3, a4⟩, ⟨a5, fun i hi => ?_⟩, ⟨a12, fun i hi => ?_⟩⟩, ⟨⟨i0, i1, i2.trans hx⟩, ⟨i11, i12⟩, ⟨i13, i14, i15⟩⟩, ⟨?_, fun k hk => lar k hk⟩, fun i x hx => by simp [dZ] at hx, fun i x hx => by simp [dZ] at hx, fun w hw => ?_, List.nodup_nil⟩, hL, fun w hw => ⟨by dsimp only; omega, by dsimp only; omega⟩⟩
  · rcases (show k = 3 ∨ k = 4 ∨ k = 5 ∨ k = 6 ∨ k = 7 ∨ k = 8 ∨ k = 9 ∨ k = 17 ∨ k = 18 ∨ k = 19 by omega) with e | e | e | e | e | e | e | e | e | e <;> subst e <;> assumption
  · exact Or.inr (Nat.le_trans hL (cLk_ge (fun w _ => ⟨Nat.le_add_right _ _, Nat.le_add_right _ _⟩) k))
  · rw [cLk_20 hi]
    exact w6 i hi
  · rw [cLk_26 hi]
    exact n2 i hi
  · rw [l10]
    congr 1
    exact bsF_zero _
  · rw [cLk_17 hw, cLk_37 hw]
    exact ⟨o16, q16, [], a17, by simp, fun j n z => by simp at z, by rw [q1]; simp, rfl⟩
end LGR
theorem any_lt {f : Nat → Bool} {i n : Nat} (hi : i ≤ n) (q : (List.range i).any f = true) : (List.range n).any f = true := by
  rw [List.any_eq_true] at q ⊢
  obtain ⟨x, h1, h2⟩ := q
  rw [List.mem_range] at h1
  exact ⟨x, by rw [List.mem_range]; omega, h2⟩
section KLN
variable {l : Launch} {G : Gm} {μ : Mm} {L : Nat} {c : Lc} {d : Ld}
theorem kl_hasName (hR : LdR μ L c d) (h5 : d.2.2.1.length ≤ 5) (h6 : d.2.2.2.1.length ≤ 6) (x : Int32) : AMet l G 0 0 0 mtX2_hasName [.ref (G.1 + L), .int x] μ (qI (fun z μ' => z = bI ((List.range d.2.2.1.length).any (fun k => decide (mI μ (c 26) k = x)) || (List.range d.2.2.2.1.length).any (fun k => decide (mI μ (c 27) k = x))) ∧ μ' = μ)) := by
  refine AMet.of (by decide) (Nat.le_of_ble_eq_true rfl) (fun X C hX hnm hq => ?_)
  have h11 := hR.2.1.2.1.1
  have h12 := hR.2.1.2.1.2
  have r26 := hR.1.2.2.2.2.2.2 0 (by omega)
  have r27 := hR.1.2.2.2.2.2.2 1 (by omega)
  dsimp only [Nat.add_zero, Nat.reduceAdd] at r26 r27
  have fin : ∀ bb : Bool, bb = ((List.range d.2.2.1.length).any (fun k => decide (mI μ (c 26) k = x)) || (List.range d.2.2.2.1.length).any (fun k => decide (mI μ (c 27) k = x))) → AW l G X 0 0 78 [(0, .ref (G.1 + L)), (1, .int x), (2, .int (bI bb))] [] μ := by
    intro bb hbb
    refine C.iload_n dX2_hasName_78 2 rfl ?_
    refine C.zret hq dX2_hasName_79 (bI_z bb) ?_
    exact ⟨by rw [hbb], rfl⟩
  have second : ∀ (n i : Nat) (bb : Bool), d.2.2.2.1.length - i < n → i ≤ d.2.2.2.1.length → bb = ((List.range d.2.2.1.length).any (fun k => decide (mI μ (c 26) k = x)) || (List.range i).any (fun k => decide (mI μ (c 27) k = x))) → AW l G X 0 0 42 [(0, .ref (G.1 + L)), (1, .int x), (2, .int (bI bb)), (3, .int (nI i))] [] μ := by
    intro n
    induction n with
    | zero => intro i bb h; omega
    | succ n ih =>
      intro i bb hi hle hbb
      have m71 : ∀ b2 : Bool, i < d.2.2.2.1.length → bb = false → b2 = decide (mI μ (c 27) i = x) → AW l G X 0 0 71 [(0, .ref (G.1 + L)), (1, .int x), (2, .int (bI bb)), (3, .int (nI i))] [.int (bI b2)] μ := by
        intro b2 hlt hf hb2
        refine C.istore_n (lv' := [(0, _), (1, _), (2, _), (3, _)]) dX2_hasName_71 (nLt hX rfl) rfl ?_
        refine C.iinc (lv' := [(0, _), (1, _), (2, _), (3, _)]) _ dX2_hasName_72 3 rfl rfl (nLt hX rfl) rfl ?_
        refine C.goto 42 dX2_hasName_75 rfl ?_
        have hgo := ih (i + 1) b2 (by omega) (by omega) (by rw [any_succ, ← Bool.or_assoc, ← hbb, hf, hb2]; rfl)
        rw [← nI_1] at hgo
        exact hgo
      refine C.iload_n dX2_hasName_42 3 rfl ?_
      refine C.aload_n dX2_hasName_43 0 rfl ?_
      refine C.getI fX2_92 dX2_hasName_44 hR.o ?_
      rw [h12]
      refine C.icmp_ge 78 dX2_hasName_47 rfl (fun hc47 => ?_) (fun hc47 => ?_)
      · have hge := n_le hc47
        have he : i = d.2.2.2.1.length := by omega
        subst he
        exact AW.pick [0, 1, 2] rfl (fin bb hbb)
      · have hlt := n_nle hc47
        refine C.iload_n dX2_hasName_50 2 rfl ?_
        refine C.if_ne 78 dX2_hasName_51 rfl (fun hc51 => ?_) (fun hc51 => ?_)
        · have hbt : bb = true := b_t hc51
          refine AW.pick [0, 1, 2] rfl (fin bb ?_)
          rw [hbb, Bool.or_eq_true] at hbt
          rw [hbb]
          rcases hbt with z | z
          · rw [z]
            rfl
          · rw [z, any_lt hle z, Bool.or_true]
        · have hbf : bb = false := (bI_0 bb).mp (hc51)
          refine C.aload_n dX2_hasName_54 0 rfl ?_
          refine C.getA fX2_29 dX2_hasName_55 hR.o (hR.r (by decide)) ?_
          refine C.iconst (nI 1) dX2_hasName_58 (by decide) ?_
          refine C.aald hR.1.2.2.2.2.2.1 (Or.inr rfl) (n_in (by omega)) (by rw [n_cl (by omega)]; exact r27.1) dX2_hasName_59 ?_
          refine C.iload_n dX2_hasName_60 3 rfl ?_
          refine C.iald r27.2 (n_in (by omega)) dX2_hasName_61 ?_
          rw [n_cl (by omega)]
          refine C.iload_n dX2_hasName_62 1 rfl ?_
          refine C.icmp_ne 70 dX2_hasName_63 rfl (fun hc63 => ?_) (fun hc63 => ?_)
          · refine C.iconst (nI 0) dX2_hasName_70 (by decide) ?_
            exact m71 false hlt hbf (by rw [decide_eq_false hc63])
          · refine C.iconst (nI 1) dX2_hasName_66 (by decide) ?_
            refine C.goto 71 dX2_hasName_67 rfl ?_
            exact m71 true hlt hbf (by rw [decide_eq_true hc63])
  have first : ∀ (n i : Nat) (bb : Bool), d.2.2.1.length - i < n → i ≤ d.2.2.1.length → bb = (List.range i).any (fun k => decide (mI μ (c 26) k = x)) → AW l G X 0 0 4 [(0, .ref (G.1 + L)), (1, .int x), (2, .int (bI bb)), (3, .int (nI i))] [] μ := by
    intro n
    induction n with
    | zero => intro i bb h; omega
    | succ n ih =>
      intro i bb hi hle hbb
      have m33 : ∀ b2 : Bool, i < d.2.2.1.length → bb = false → b2 = decide (mI μ (c 26) i = x) → AW l G X 0 0 33 [(0, .ref (G.1 + L)), (1, .int x), (2, .int (bI bb)), (3, .int (nI i))] [.int (bI b2)] μ := by
        intro b2 hlt hf hb2
        refine C.istore_n (lv' := [(0, _), (1, _), (2, _), (3, _)]) dX2_hasName_33 (nLt hX rfl) rfl ?_
        refine C.iinc (lv' := [(0, _), (1, _), (2, _), (3, _)]) _ dX2_hasName_34 3 rfl rfl (nLt hX rfl) rfl ?_
        refine C.goto 4 dX2_hasName_37 rfl ?_
        have hgo := ih (i + 1) b2 (by omega) (by omega) (by rw [any_succ, ← hbb, hf, hb2]; rfl)
        rw [← nI_1] at hgo
        exact hgo
      have m40 : bb = (List.range d.2.2.1.length).any (fun k => decide (mI μ (c 26) k = x)) → AW l G X 0 0 40 [(0, .ref (G.1 + L)), (1, .int x), (2, .int (bI bb)), (3, .int (nI i))] [] μ := by
        intro hb
        refine C.iconst (nI 0) dX2_hasName_40 (by decide) ?_
        refine C.istore_n (lv' := [(0, _), (1, _), (2, _), (3, _)]) dX2_hasName_41 (nLt hX rfl) rfl ?_
        exact second (d.2.2.2.1.length + 1) 0 bb (by omega) (by omega) (by rw [hb]; simp)
      refine C.iload_n dX2_hasName_4 3 rfl ?_
      refine C.aload_n dX2_hasName_5 0 rfl ?_
      refine C.getI fX2_89 dX2_hasName_6 hR.o ?_
      rw [h11]
      refine C.icmp_ge 40 dX2_hasName_9 rfl (fun hc9 => ?_) (fun hc9 => ?_)
      · have hge := n_le hc9
        have he : i = d.2.2.1.length := by omega
        subst he
        exact m40 hbb
      · have hlt := n_nle hc9
        refine C.iload_n dX2_hasName_12 2 rfl ?_
        refine C.if_ne 40 dX2_hasName_13 rfl (fun hc13 => ?_) (fun hc13 => ?_)
        · have hbt : bb = true := b_t hc13
          refine m40 ?_
          rw [hbb] at hbt
          rw [hbb, hbt, any_lt hle hbt]
        · have hbf : bb = false := (bI_0 bb).mp (hc13)
          refine C.aload_n dX2_hasName_16 0 rfl ?_
          refine C.getA fX2_29 dX2_hasName_17 hR.o (hR.r (by decide)) ?_
          refine C.iconst (nI 0) dX2_hasName_20 (by decide) ?_
          refine C.aald hR.1.2.2.2.2.2.1 (Or.inr rfl) (n_in (by omega)) (by rw [n_cl (by omega)]; exact r26.1) dX2_hasName_21 ?_
          refine C.iload_n dX2_hasName_22 3 rfl ?_
          refine C.iald r26.2 (n_in (by omega)) dX2_hasName_23 ?_
          rw [n_cl (by omega)]
          refine C.iload_n dX2_hasName_24 1 rfl ?_
          refine C.icmp_ne 32 dX2_hasName_25 rfl (fun hc25 => ?_) (fun hc25 => ?_)
          · refine C.iconst (nI 0) dX2_hasName_32 (by decide) ?_
            exact m33 false hlt hbf (by rw [decide_eq_false hc25])
          · refine C.iconst (nI 1) dX2_hasName_28 (by decide) ?_
            refine C.goto 33 dX2_hasName_29 rfl ?_
            exact m33 true hlt hbf (by rw [decide_eq_true hc25])
  refine C.iconst (nI 0) dX2_hasName_0 (by decide) ?_
  refine C.istore_n (lv' := [(0, _), (1, _), (2, _)]) dX2_hasName_1 (nLt hX rfl) rfl ?_
  refine C.iconst (nI 0) dX2_hasName_2 (by decide) ?_
  refine C.istore_n (lv' := [(0, _), (1, _), (2, _), (3, _)]) dX2_hasName_3 (nLt hX rfl) rfl ?_
  exact first (d.2.2.1.length + 1) 0 false (by omega) (by omega) (by simp)
end KLN
