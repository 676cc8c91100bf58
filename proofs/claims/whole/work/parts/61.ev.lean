/-! the reference: codes worked out -/

def clip64 (v : Int64) : Int64 := if ¬ v ≤ 1000000 then 1000000 else if ¬ -1000000 ≤ v then -1000000 else v
def flo64 (v b : Int64) : Int64 := if b = 0 then 0 else if ¬ v - v / b * b = 0 ∧ ¬ (decide (0 ≤ v) = decide (0 ≤ b)) then v / b - lN 1 else v / b
def jn64 (c : Int32) (a b : Int64) : Int64 :=
  if c = nI 1 then clip64 (a + b) else if c = nI 2 then clip64 (a - b) else if c = nI 3 then clip64 (a * b) else if c = nI 4 then flo64 a b
  else if c = nI 5 then (if b ≤ a then b else a) else if c = nI 6 then (if a ≤ b then b else a)
  else if c = nI 7 then (if b ≤ a then lN 0 else lN 1) else if c = nI 8 then (if a ≤ b then lN 0 else lN 1) else if c = nI 9 then (if a = b then lN 1 else lN 0)
  else if c = nI 10 then a * b else (if a + b ≤ lN 0 then lN 0 else lN 1)
theorem cmp_le {x y : Int64} : lg_cmp x y ≤ 0 ↔ x ≤ y := by
  unfold lg_cmp
  split
  · rename_i h; exact ⟨fun q => absurd q (by decide), fun q => absurd h (Int64.not_lt.mpr q)⟩
  · rename_i h
    split
    · exact ⟨fun _ => Int64.not_lt.mp h, fun _ => by decide⟩
    · exact ⟨fun _ => Int64.not_lt.mp h, fun _ => by decide⟩
theorem cmp_eq {x y : Int64} : lg_cmp x y = 0 ↔ x = y := by
  unfold lg_cmp
  split
  · rename_i h; exact ⟨fun q => absurd q (by decide), fun q => absurd h (by rw [q]; exact Int64.lt_irrefl)⟩
  · split
    · rename_i h; exact ⟨fun _ => h, fun _ => rfl⟩
    · rename_i h; exact ⟨fun q => absurd q (by decide), fun q => absurd q h⟩
theorem cmp_ge {x y : Int64} : 0 ≤ lg_cmp x y ↔ y ≤ x := by
  unfold lg_cmp
  split
  · rename_i h; exact ⟨fun _ => Int64.le_of_lt h, fun _ => by decide⟩
  · rename_i h
    split
    · rename_i h2; subst h2; exact ⟨fun _ => Int64.le_refl _, fun _ => by decide⟩
    · rename_i h2
      exact ⟨fun q => absurd q (by decide), fun q => absurd (Int64.le_antisymm (Int64.not_lt.mp h) q) h2⟩
/-- the pile, last first -/
def PE (μ μ1 : Mm) (st : List Int64) : Prop := (μ1.2.2 = μ.2.2 ∧ (∀ a k, ¬ (a = 179 ∧ k = 108) → mI μ1 a k = mI μ a k) ∧ (∀ a k, a ≠ 257 → mL μ1 a k = mL μ a k)) ∧ mI μ1 179 108 = nI st.length ∧ ∀ i, i < st.length → mL μ1 257 i = st.reverse.getD i 0
section PES
variable {μ μ1 : Mm} {st : List Int64}
theorem PE.sh (h : PE μ μ1 st) (hS : ShM μ) : ShM μ1 := hS.of h.1.1
theorem PE.push (h : PE μ μ1 st) (v : Int64) : PE μ (sI (sL μ1 257 st.length v) 179 108 (nI (st.length + 1))) (v :: st) := by
  obtain ⟨⟨a1, a2, a3⟩, b, c⟩ := h
  refine ⟨⟨a1, fun a k q => by rw [mI_sI, if_neg q]; exact a2 a k q, fun a k q => by rw [mL_sI, mL_sL, if_neg (fun z => q z.1)]; exact a3 a k q⟩, by simp [mI_sI], fun i hi => ?_⟩
  rw [mL_sI, mL_sL]
  by_cases hl : i = st.length
  · rw [if_pos ⟨rfl, hl⟩, hl]; simp
  · have hi' : i < st.length := by simp at hi; omega
    rw [if_neg (by omega), c i hi']
    simp only [List.reverse_cons]
    rw [List.getD_eq_getElem?_getD, List.getD_eq_getElem?_getD, List.getElem?_append_left (by simpa using hi')]
theorem PE.top {v : Int64} (h : PE μ μ1 (v :: st)) : mL μ1 257 st.length = v := by
  rw [h.2.2 st.length (by simp)]
  simp
theorem PE.top2 {v w : Int64} (h : PE μ μ1 (v :: w :: st)) : mL μ1 257 st.length = w := by
  rw [h.2.2 st.length (by simp; omega)]
  simp
theorem PE.pop {v : Int64} (h : PE μ μ1 (v :: st)) : PE μ (sI μ1 179 108 (nI st.length)) st := by
  obtain ⟨⟨a1, a2, a3⟩, b, c⟩ := h
  refine ⟨⟨a1, fun a k q => by rw [mI_sI, if_neg q]; exact a2 a k q, a3⟩, by simp [mI_sI], fun i hi => ?_⟩
  rw [mL_sI, c i (by simp; omega)]
  simp only [List.reverse_cons]
  rw [List.getD_eq_getElem?_getD, List.getD_eq_getElem?_getD, List.getElem?_append_left (by simpa using hi)]
theorem PE.pop2 {v w : Int64} (h : PE μ μ1 (v :: w :: st)) : PE μ (sI μ1 179 108 (nI st.length)) st := by
  have h2 := h.pop.pop
  rw [sI_sI] at h2
  exact h2
theorem PE.rep {v : Int64} (h : PE μ μ1 (v :: st)) (u : Int64) : PE μ (sL μ1 257 st.length u) (u :: st) := by
  obtain ⟨⟨a1, a2, a3⟩, b, c⟩ := h
  refine ⟨⟨a1, a2, fun a k q => by rw [mL_sL, if_neg (fun z => q z.1)]; exact a3 a k q⟩, b, fun i hi => ?_⟩
  rw [mL_sL]
  by_cases hl : i = st.length
  · rw [if_pos ⟨rfl, hl⟩, hl]; simp
  · have hi' : i < st.length := by simp at hi; omega
    rw [if_neg (by omega), c i (by simp; omega)]
    simp only [List.reverse_cons]
    rw [List.getD_eq_getElem?_getD, List.getD_eq_getElem?_getD, List.getElem?_append_left (by simpa using hi'), List.getElem?_append_left (by simpa using hi')]
end PES
section KEV
variable {l : Launch} {G : Gm} {μ μ1 : Mm} {st : List Int64}
theorem ke_clip (v : Int64) : AMet l G 0 0 0 mtX13_qClip [.long v] μ (qL (fun x μ' => x = clip64 v ∧ μ' = μ)) := by
  refine AMet.of (by decide) (Nat.le_of_ble_eq_true rfl) (fun X C hX hnm hq => ?_)
  refine C.lload_n dX13_qClip_0 0 rfl ?_
  refine C.ldc2 kX13_662 dX13_qClip_1 ?_
  refine C.lcmp dX13_qClip_4 ?_
  refine C.if_le 14 dX13_qClip_5 rfl (fun hc5 => ?_) (fun hc5 => ?_)
  · refine C.lload_n dX13_qClip_14 0 rfl ?_
    refine C.ldc2 kX13_664 dX13_qClip_15 ?_
    refine C.lcmp dX13_qClip_18 ?_
    refine C.if_ge 28 dX13_qClip_19 rfl (fun hc19 => ?_) (fun hc19 => ?_)
    · refine C.lload_n dX13_qClip_28 0 rfl ?_
      refine C.lret hq dX13_qClip_29 ?_
      refine ⟨?_, rfl⟩
      unfold clip64
      first | exact (if_pos (fun q => hc5 (cmp_le.mpr q))).symm | exact ((if_neg (fun q => q (cmp_le.mp hc5))).trans (if_pos (fun q => hc19 (cmp_ge.mpr q)))).symm | exact ((if_neg (fun q => q (cmp_le.mp hc5))).trans (if_neg (fun q => q (cmp_ge.mp hc19)))).symm
    · refine C.ldc2 kX13_664 dX13_qClip_22 ?_
      refine C.goto 29 dX13_qClip_25 rfl ?_
      refine C.lret hq dX13_qClip_29 ?_
      refine ⟨?_, rfl⟩
      unfold clip64
      first | exact (if_pos (fun q => hc5 (cmp_le.mpr q))).symm | exact ((if_neg (fun q => q (cmp_le.mp hc5))).trans (if_pos (fun q => hc19 (cmp_ge.mpr q)))).symm | exact ((if_neg (fun q => q (cmp_le.mp hc5))).trans (if_neg (fun q => q (cmp_ge.mp hc19)))).symm
  · refine C.ldc2 kX13_662 dX13_qClip_8 ?_
    refine C.goto 29 dX13_qClip_11 rfl ?_
    refine C.lret hq dX13_qClip_29 ?_
    refine ⟨?_, rfl⟩
    unfold clip64
    first | exact (if_pos (fun q => hc5 (cmp_le.mpr q))).symm | exact ((if_neg (fun q => q (cmp_le.mp hc5))).trans (if_pos (fun q => hc19 (cmp_ge.mpr q)))).symm | exact ((if_neg (fun q => q (cmp_le.mp hc5))).trans (if_neg (fun q => q (cmp_ge.mp hc19)))).symm
theorem ke_floor (v b : Int64) : AMet l G 0 0 0 mtX13_qFloor [.long v, .long b] μ (qL (fun x μ' => x = flo64 v b ∧ μ' = μ)) := by
  refine AMet.of (by decide) (Nat.le_of_ble_eq_true rfl) (fun X C hX hnm hq => ?_)
  have m43 : ∀ (p q : Int32), ¬ b = 0 → p = (if 0 ≤ v then nI 0 else nI 1) → q = (if 0 ≤ b then nI 0 else nI 1) → ¬ v - v / b * b = 0 → AW l G X 0 0 43 [(0, .long v), (2, .long b), (4, .long (v / b))] [.int q, .int p] μ := by
    intro p q hb hp hq2 hr
    refine C.icmp_eq 53 dX13_qFloor_43 rfl (fun hc43 => ?_) (fun hc43 => ?_)
    · have he : decide (0 ≤ v) = decide (0 ≤ b) := by
        rw [hp, hq2] at hc43
        by_cases h1 : 0 ≤ v <;> by_cases h2 : 0 ≤ b
        · rw [decide_eq_true h1, decide_eq_true h2]
        · rw [if_pos h1, if_neg h2] at hc43; exact absurd hc43 (by decide)
        · rw [if_neg h1, if_pos h2] at hc43; exact absurd hc43 (by decide)
        · rw [decide_eq_false h1, decide_eq_false h2]
      refine C.lload dX13_qFloor_53 2 rfl ?_
      refine C.lret hq dX13_qFloor_55 ?_
      refine ⟨?_, rfl⟩
      unfold flo64
      first | exact ((if_neg hb).trans (if_pos ⟨hr, he⟩)).symm | exact ((if_neg hb).trans (if_neg (fun z => z.2 he))).symm
    · have he : ¬ decide (0 ≤ v) = decide (0 ≤ b) := fun z => by
        apply hc43
        rw [hp, hq2]
        by_cases h1 : 0 ≤ v <;> by_cases h2 : 0 ≤ b
        · rw [if_pos h1, if_pos h2]
        · rw [decide_eq_true h1, decide_eq_false h2] at z; cases z
        · rw [decide_eq_false h1, decide_eq_true h2] at z; cases z
        · rw [if_neg h1, if_neg h2]
      refine C.lload dX13_qFloor_46 2 rfl ?_
      refine C.lconst (lN 1) dX13_qFloor_48 (by decide) ?_
      refine C.lsub dX13_qFloor_49 ?_
      refine C.goto 55 dX13_qFloor_50 rfl ?_
      refine C.lret hq dX13_qFloor_55 ?_
      refine ⟨?_, rfl⟩
      unfold flo64
      first | exact ((if_neg hb).trans (if_pos ⟨hr, he⟩)).symm | exact ((if_neg hb).trans (if_neg (fun z => z.2 he))).symm
  have m32 : ∀ (p : Int32), ¬ b = 0 → p = (if 0 ≤ v then nI 0 else nI 1) → ¬ v - v / b * b = 0 → AW l G X 0 0 32 [(0, .long v), (2, .long b), (4, .long (v / b))] [.int p] μ := by
    intro p hb hp hr
    refine C.lload_n dX13_qFloor_32 1 rfl ?_
    refine C.lconst (lN 0) dX13_qFloor_33 (by decide) ?_
    refine C.lcmp dX13_qFloor_34 ?_
    refine C.if_ge 42 dX13_qFloor_35 rfl (fun hc35 => ?_) (fun hc35 => ?_)
    · refine C.iconst (nI 0) dX13_qFloor_42 (by decide) ?_
      first | exact m43 _ _ hb hp (if_pos (cmp_ge.mp hc35)).symm hr | exact m43 _ _ hb hp (if_neg (fun z => hc35 (cmp_ge.mpr z))).symm hr
    · refine C.iconst (nI 1) dX13_qFloor_38 (by decide) ?_
      refine C.goto 43 dX13_qFloor_39 rfl ?_
      first | exact m43 _ _ hb hp (if_pos (cmp_ge.mp hc35)).symm hr | exact m43 _ _ hb hp (if_neg (fun z => hc35 (cmp_ge.mpr z))).symm hr
  refine C.lload_n dX13_qFloor_0 1 rfl ?_
  refine C.lconst (lN 0) dX13_qFloor_1 (by decide) ?_
  refine C.lcmp dX13_qFloor_2 ?_
  refine C.if_ne 8 dX13_qFloor_3 rfl (fun hc3 => ?_) (fun hc3 => ?_)
  · have hb : ¬ b = 0 := fun z => hc3 (cmp_eq.mpr z)
    refine C.lload_n dX13_qFloor_8 0 rfl ?_
    refine C.lload_n dX13_qFloor_9 1 rfl ?_
    refine C.ldiv dX13_qFloor_10 hb ?_
    refine C.lstore (lv' := [(0, _), (2, _), (4, _)]) dX13_qFloor_11 (nLt hX rfl) rfl ?_
    refine C.lload_n dX13_qFloor_13 0 rfl ?_
    refine C.lload_n dX13_qFloor_14 1 rfl ?_
    refine C.lrem dX13_qFloor_15 hb ?_
    refine C.lconst (lN 0) dX13_qFloor_16 (by decide) ?_
    refine C.lcmp dX13_qFloor_17 ?_
    refine C.if_eq 53 dX13_qFloor_18 rfl (fun hc18 => ?_) (fun hc18 => ?_)
    · refine C.lload dX13_qFloor_53 2 rfl ?_
      refine C.lret hq dX13_qFloor_55 ?_
      refine ⟨?_, rfl⟩
      unfold flo64
      exact ((if_neg hb).trans (if_neg (fun z => z.1 (cmp_eq.mp hc18)))).symm
    · refine C.lload_n dX13_qFloor_21 0 rfl ?_
      refine C.lconst (lN 0) dX13_qFloor_22 (by decide) ?_
      refine C.lcmp dX13_qFloor_23 ?_
      refine C.if_ge 31 dX13_qFloor_24 rfl (fun hc24 => ?_) (fun hc24 => ?_)
      · refine C.iconst (nI 0) dX13_qFloor_31 (by decide) ?_
        first | exact m32 _ hb (if_pos (cmp_ge.mp hc24)).symm (fun z => hc18 (cmp_eq.mpr z)) | exact m32 _ hb (if_neg (fun z => hc24 (cmp_ge.mpr z))).symm (fun z => hc18 (cmp_eq.mpr z))
      · refine C.iconst (nI 1) dX13_qFloor_27 (by decide) ?_
        refine C.goto 32 dX13_qFloor_28 rfl ?_
        first | exact m32 _ hb (if_pos (cmp_ge.mp hc24)).symm (fun z => hc18 (cmp_eq.mpr z)) | exact m32 _ hb (if_neg (fun z => hc24 (cmp_ge.mpr z))).symm (fun z => hc18 (cmp_eq.mpr z))
  · refine C.lconst (lN 0) dX13_qFloor_6 (by decide) ?_
    refine C.lret hq dX13_qFloor_7 ?_
    exact ⟨by unfold flo64; exact (if_pos (cmp_eq.mp hc3)).symm, rfl⟩
theorem ke_puts (hS : ShM μ) (hP : PE μ μ1 st) (hl : st.length < 1700) (v : Int64) : AMet l G 0 0 0 mtX13_qPuts [.ref (G.1 + 179), .long v] μ1 (qV (fun μ' => PE μ μ' (v :: st))) := by
  refine AMet.of (by decide) (Nat.le_of_ble_eq_true rfl) (fun X C hX hnm hq => ?_)
  have hS : ShM μ1 := hP.sh hS
  have hc := hP.2.1
  refine C.aload_n dX13_qPuts_0 0 rfl ?_
  refine C.getA fX13_255 dX13_qPuts_1 hS.o hS.r107 ?_
  refine C.aload_n dX13_qPuts_4 0 rfl ?_
  refine C.getI fX13_436 dX13_qPuts_5 hS.o ?_
  rw [hc]
  refine C.lload_n dX13_qPuts_8 1 rfl ?_
  refine C.last hS.a107 (n_in hl) dX13_qPuts_9 ?_
  rw [n_cl]
  refine C.aload_n dX13_qPuts_10 0 rfl ?_
  refine C.dup dX13_qPuts_11 rfl ?_
  refine C.getI fX13_436 dX13_qPuts_12 hS.o ?_
  rw [show mI (sL μ1 257 st.length v) 179 108 = nI st.length from hc]
  refine C.iconst (nI 1) dX13_qPuts_15 (by decide) ?_
  refine C.iadd dX13_qPuts_16 ?_
  rw [nI_add]
  refine C.putI fX13_436 (Or.inl rfl) dX13_qPuts_17 hS.o ?_
  refine C.vret hq dX13_qPuts_20 ?_
  exact hP.push v
theorem sw_out {c : Int32} (h : ∀ k : Nat, 1 ≤ k → k ≤ 10 → ¬ c = nI k) : c.toInt < 1 ∨ 10 < c.toInt := by
  rcases Int.lt_or_le c.toInt 1 with q | q
  · exact Or.inl q
  · rcases Int.lt_or_le 10 c.toInt with q2 | q2
    · exact Or.inr q2
    · exfalso
      refine h c.toInt.toNat (by omega) (by omega) (Int32.toInt_inj.mp ?_)
      rw [nI_tI (by omega)]
      omega
theorem ke_joins (hS : ShM μ) {a b : Int64} (hP : PE μ μ1 (b :: a :: st)) (hl : st.length < 1698) (c : Int32) : AMet l G 1 0 0 mtX13_qJoins [.ref (G.1 + 179), .int c] μ1 (qV (fun μ' => PE μ μ' (jn64 c a b :: st))) := by
  refine AMet.of (by decide) (Nat.le_of_ble_eq_true rfl) (fun X C hX hnm hq => ?_)
  have hS1 := hS
  have hS : ShM μ1 := hP.sh hS1
  have hc := hP.2.1
  simp only [List.length_cons] at hc
  have ht := hP.top
  have ht2 := hP.top2
  simp only [List.length_cons] at ht
  have hP2 := hP.pop2
  have hS2 : ShM (sI μ1 179 108 (nI st.length)) := hS.of rfl
  have m35 : AW l G X 0 0 35 [(0, .ref (G.1 + 179)), (1, .int c), (2, .long b), (4, .long a)] [] (sI μ1 179 108 (nI st.length)) := by
    generalize sI μ1 179 108 (nI st.length) = μ2 at hP2 hS2
    have hS : ShM μ2 := hS2
    have fin : ∀ (v : Int64) (μ3 : Mm), v = jn64 c a b → PE μ μ3 (v :: st) → AW l G X 0 0 273 [(0, .ref (G.1 + 179)), (1, .int c), (2, .long b), (4, .long a)] [] μ3 := by
      intro v μ3 hv hP3
      refine C.vret hq dX13_qJoins_273 ?_
      rw [← hv]
      exact hP3
    unfold jn64 at fin
    have hne : ∀ i j : Nat, i ≤ 10 → j ≤ 10 → i ≠ j → ¬ nI i = nI j := fun i j hi hj h q => h (n_eq q)
    refine C.iload_n dX13_qJoins_35 1 rfl ?_
    by_cases c1 : c = nI 1
    · subst c1
      simp only [if_true] at fin
      refine C.tableIn 92 dX13_qJoins_36 (by decide) (by decide) rfl rfl ?_
      refine C.aload_n dX13_qJoins_92 0 rfl ?_
      refine C.lload dX13_qJoins_93 3 rfl ?_
      refine C.lload_n dX13_qJoins_95 2 rfl ?_
      refine C.ladd dX13_qJoins_96 ?_
      refine C.callSL lX13_666 dX13_qJoins_97 (ke_clip _) rfl rfl (Nat.le_of_ble_eq_true rfl) (Nat.zero_le _) (Nat.zero_le _) (Nat.le_of_ble_eq_true rfl) (fun x97 μ97 h97 => ?_)
      obtain ⟨rfl, hμ⟩ := h97
      subst hμ
      refine C.callVV lX13_439 dX13_qJoins_100 (ke_puts hS1 hP2 (by omega) _) hS.o rfl rfl (Nat.le_of_ble_eq_true rfl) (Nat.zero_le _) (Nat.zero_le _) (Nat.le_of_ble_eq_true rfl) (fun μ100 h100 => ?_)
      refine C.goto 273 dX13_qJoins_103 rfl ?_
      exact fin _ _ rfl h100
    rw [if_neg c1] at fin
    by_cases c2 : c = nI 2
    · subst c2
      simp only [if_true] at fin
      refine C.tableIn 106 dX13_qJoins_36 (by decide) (by decide) rfl rfl ?_
      refine C.aload_n dX13_qJoins_106 0 rfl ?_
      refine C.lload dX13_qJoins_107 3 rfl ?_
      refine C.lload_n dX13_qJoins_109 2 rfl ?_
      refine C.lsub dX13_qJoins_110 ?_
      refine C.callSL lX13_666 dX13_qJoins_111 (ke_clip _) rfl rfl (Nat.le_of_ble_eq_true rfl) (Nat.zero_le _) (Nat.zero_le _) (Nat.le_of_ble_eq_true rfl) (fun x111 μ111 h111 => ?_)
      obtain ⟨rfl, hμ⟩ := h111
      subst hμ
      refine C.callVV lX13_439 dX13_qJoins_114 (ke_puts hS1 hP2 (by omega) _) hS.o rfl rfl (Nat.le_of_ble_eq_true rfl) (Nat.zero_le _) (Nat.zero_le _) (Nat.le_of_ble_eq_true rfl) (fun μ114 h114 => ?_)
      refine C.goto 273 dX13_qJoins_117 rfl ?_
      exact fin _ _ rfl h114
    rw [if_neg c2] at fin
    by_cases c3 : c = nI 3
    · subst c3
      simp only [if_true] at fin
      refine C.tableIn 120 dX13_qJoins_36 (by decide) (by decide) rfl rfl ?_
      refine C.aload_n dX13_qJoins_120 0 rfl ?_
      refine C.lload dX13_qJoins_121 3 rfl ?_
      refine C.lload_n dX13_qJoins_123 2 rfl ?_
      refine C.lmul dX13_qJoins_124 ?_
      refine C.callSL lX13_666 dX13_qJoins_125 (ke_clip _) rfl rfl (Nat.le_of_ble_eq_true rfl) (Nat.zero_le _) (Nat.zero_le _) (Nat.le_of_ble_eq_true rfl) (fun x125 μ125 h125 => ?_)
      obtain ⟨rfl, hμ⟩ := h125
      subst hμ
      refine C.callVV lX13_439 dX13_qJoins_128 (ke_puts hS1 hP2 (by omega) _) hS.o rfl rfl (Nat.le_of_ble_eq_true rfl) (Nat.zero_le _) (Nat.zero_le _) (Nat.le_of_ble_eq_true rfl) (fun μ128 h128 => ?_)
      refine C.goto 273 dX13_qJoins_131 rfl ?_
      exact fin _ _ rfl h128
    rw [if_neg c3] at fin
    by_cases c4 : c = nI 4
    · subst c4
      simp only [if_true] at fin
      refine C.tableIn 134 dX13_qJoins_36 (by decide) (by decide) rfl rfl ?_
      refine C.aload_n dX13_qJoins_134 0 rfl ?_
      refine C.lload dX13_qJoins_135 3 rfl ?_
      refine C.lload_n dX13_qJoins_137 2 rfl ?_
      refine C.callSL lX13_670 dX13_qJoins_138 (ke_floor _ _) rfl rfl (Nat.le_of_ble_eq_true rfl) (Nat.zero_le _) (Nat.zero_le _) (Nat.le_of_ble_eq_true rfl) (fun x138 μ138 h138 => ?_)
      obtain ⟨rfl, hμ⟩ := h138
      subst hμ
      refine C.callVV lX13_439 dX13_qJoins_141 (ke_puts hS1 hP2 (by omega) _) hS.o rfl rfl (Nat.le_of_ble_eq_true rfl) (Nat.zero_le _) (Nat.zero_le _) (Nat.le_of_ble_eq_true rfl) (fun μ141 h141 => ?_)
      refine C.goto 273 dX13_qJoins_144 rfl ?_
      exact fin _ _ rfl h141
    rw [if_neg c4] at fin
    by_cases c5 : c = nI 5
    · subst c5
      simp only [if_true] at fin
      refine C.tableIn 147 dX13_qJoins_36 (by decide) (by decide) rfl rfl ?_
      refine C.aload_n dX13_qJoins_147 0 rfl ?_
      refine C.lload dX13_qJoins_148 3 rfl ?_
      refine C.lload_n dX13_qJoins_150 2 rfl ?_
      refine C.lcmp dX13_qJoins_151 ?_
      refine C.if_ge 160 dX13_qJoins_152 rfl (fun hc152 => ?_) (fun hc152 => ?_)
      · refine C.lload_n dX13_qJoins_160 2 rfl ?_
        refine C.callVV lX13_439 dX13_qJoins_161 (ke_puts hS1 hP2 (by omega) _) hS.o rfl rfl (Nat.le_of_ble_eq_true rfl) (Nat.zero_le _) (Nat.zero_le _) (Nat.le_of_ble_eq_true rfl) (fun μ161 h161 => ?_)
        refine C.goto 273 dX13_qJoins_164 rfl ?_
        first | exact fin _ _ (if_pos (cmp_ge.mp hc152)).symm h161 | exact fin _ _ (if_neg (fun z => hc152 (cmp_ge.mpr z))).symm h161
      · refine C.lload dX13_qJoins_155 3 rfl ?_
        refine C.goto 161 dX13_qJoins_157 rfl ?_
        refine C.callVV lX13_439 dX13_qJoins_161 (ke_puts hS1 hP2 (by omega) _) hS.o rfl rfl (Nat.le_of_ble_eq_true rfl) (Nat.zero_le _) (Nat.zero_le _) (Nat.le_of_ble_eq_true rfl) (fun μ161 h161 => ?_)
        refine C.goto 273 dX13_qJoins_164 rfl ?_
        first | exact fin _ _ (if_pos (cmp_ge.mp hc152)).symm h161 | exact fin _ _ (if_neg (fun z => hc152 (cmp_ge.mpr z))).symm h161
    rw [if_neg c5] at fin
    by_cases c6 : c = nI 6
    · subst c6
      simp only [if_true] at fin
      refine C.tableIn 167 dX13_qJoins_36 (by decide) (by decide) rfl rfl ?_
      refine C.aload_n dX13_qJoins_167 0 rfl ?_
      refine C.lload dX13_qJoins_168 3 rfl ?_
      refine C.lload_n dX13_qJoins_170 2 rfl ?_
      refine C.lcmp dX13_qJoins_171 ?_
      refine C.if_le 180 dX13_qJoins_172 rfl (fun hc172 => ?_) (fun hc172 => ?_)
      · refine C.lload_n dX13_qJoins_180 2 rfl ?_
        refine C.callVV lX13_439 dX13_qJoins_181 (ke_puts hS1 hP2 (by omega) _) hS.o rfl rfl (Nat.le_of_ble_eq_true rfl) (Nat.zero_le _) (Nat.zero_le _) (Nat.le_of_ble_eq_true rfl) (fun μ181 h181 => ?_)
        refine C.goto 273 dX13_qJoins_184 rfl ?_
        first | exact fin _ _ (if_pos (cmp_le.mp hc172)).symm h181 | exact fin _ _ (if_neg (fun z => hc172 (cmp_le.mpr z))).symm h181
      · refine C.lload dX13_qJoins_175 3 rfl ?_
        refine C.goto 181 dX13_qJoins_177 rfl ?_
        refine C.callVV lX13_439 dX13_qJoins_181 (ke_puts hS1 hP2 (by omega) _) hS.o rfl rfl (Nat.le_of_ble_eq_true rfl) (Nat.zero_le _) (Nat.zero_le _) (Nat.le_of_ble_eq_true rfl) (fun μ181 h181 => ?_)
        refine C.goto 273 dX13_qJoins_184 rfl ?_
        first | exact fin _ _ (if_pos (cmp_le.mp hc172)).symm h181 | exact fin _ _ (if_neg (fun z => hc172 (cmp_le.mpr z))).symm h181
    rw [if_neg c6] at fin
    by_cases c7 : c = nI 7
    · subst c7
      simp only [if_true] at fin
      refine C.tableIn 187 dX13_qJoins_36 (by decide) (by decide) rfl rfl ?_
      refine C.aload_n dX13_qJoins_187 0 rfl ?_
      refine C.lload dX13_qJoins_188 3 rfl ?_
      refine C.lload_n dX13_qJoins_190 2 rfl ?_
      refine C.lcmp dX13_qJoins_191 ?_
      refine C.if_ge 199 dX13_qJoins_192 rfl (fun hc192 => ?_) (fun hc192 => ?_)
      · refine C.lconst (lN 0) dX13_qJoins_199 (by decide) ?_
        refine C.callVV lX13_439 dX13_qJoins_200 (ke_puts hS1 hP2 (by omega) _) hS.o rfl rfl (Nat.le_of_ble_eq_true rfl) (Nat.zero_le _) (Nat.zero_le _) (Nat.le_of_ble_eq_true rfl) (fun μ200 h200 => ?_)
        refine C.goto 273 dX13_qJoins_203 rfl ?_
        first | exact fin _ _ (if_pos (cmp_ge.mp hc192)).symm h200 | exact fin _ _ (if_neg (fun z => hc192 (cmp_ge.mpr z))).symm h200
      · refine C.lconst (lN 1) dX13_qJoins_195 (by decide) ?_
        refine C.goto 200 dX13_qJoins_196 rfl ?_
        refine C.callVV lX13_439 dX13_qJoins_200 (ke_puts hS1 hP2 (by omega) _) hS.o rfl rfl (Nat.le_of_ble_eq_true rfl) (Nat.zero_le _) (Nat.zero_le _) (Nat.le_of_ble_eq_true rfl) (fun μ200 h200 => ?_)
        refine C.goto 273 dX13_qJoins_203 rfl ?_
        first | exact fin _ _ (if_pos (cmp_ge.mp hc192)).symm h200 | exact fin _ _ (if_neg (fun z => hc192 (cmp_ge.mpr z))).symm h200
    rw [if_neg c7] at fin
    by_cases c8 : c = nI 8
    · subst c8
      simp only [if_true] at fin
      refine C.tableIn 206 dX13_qJoins_36 (by decide) (by decide) rfl rfl ?_
      refine C.aload_n dX13_qJoins_206 0 rfl ?_
      refine C.lload dX13_qJoins_207 3 rfl ?_
      refine C.lload_n dX13_qJoins_209 2 rfl ?_
      refine C.lcmp dX13_qJoins_210 ?_
      refine C.if_le 218 dX13_qJoins_211 rfl (fun hc211 => ?_) (fun hc211 => ?_)
      · refine C.lconst (lN 0) dX13_qJoins_218 (by decide) ?_
        refine C.callVV lX13_439 dX13_qJoins_219 (ke_puts hS1 hP2 (by omega) _) hS.o rfl rfl (Nat.le_of_ble_eq_true rfl) (Nat.zero_le _) (Nat.zero_le _) (Nat.le_of_ble_eq_true rfl) (fun μ219 h219 => ?_)
        refine C.goto 273 dX13_qJoins_222 rfl ?_
        first | exact fin _ _ (if_pos (cmp_le.mp hc211)).symm h219 | exact fin _ _ (if_neg (fun z => hc211 (cmp_le.mpr z))).symm h219
      · refine C.lconst (lN 1) dX13_qJoins_214 (by decide) ?_
        refine C.goto 219 dX13_qJoins_215 rfl ?_
        refine C.callVV lX13_439 dX13_qJoins_219 (ke_puts hS1 hP2 (by omega) _) hS.o rfl rfl (Nat.le_of_ble_eq_true rfl) (Nat.zero_le _) (Nat.zero_le _) (Nat.le_of_ble_eq_true rfl) (fun μ219 h219 => ?_)
        refine C.goto 273 dX13_qJoins_222 rfl ?_
        first | exact fin _ _ (if_pos (cmp_le.mp hc211)).symm h219 | exact fin _ _ (if_neg (fun z => hc211 (cmp_le.mpr z))).symm h219
    rw [if_neg c8] at fin
    by_cases c9 : c = nI 9
    · subst c9
      simp only [if_true] at fin
      refine C.tableIn 225 dX13_qJoins_36 (by decide) (by decide) rfl rfl ?_
      refine C.aload_n dX13_qJoins_225 0 rfl ?_
      refine C.lload dX13_qJoins_226 3 rfl ?_
      refine C.lload_n dX13_qJoins_228 2 rfl ?_
      refine C.lcmp dX13_qJoins_229 ?_
      refine C.if_ne 237 dX13_qJoins_230 rfl (fun hc230 => ?_) (fun hc230 => ?_)
      · refine C.lconst (lN 0) dX13_qJoins_237 (by decide) ?_
        refine C.callVV lX13_439 dX13_qJoins_238 (ke_puts hS1 hP2 (by omega) _) hS.o rfl rfl (Nat.le_of_ble_eq_true rfl) (Nat.zero_le _) (Nat.zero_le _) (Nat.le_of_ble_eq_true rfl) (fun μ238 h238 => ?_)
        refine C.goto 273 dX13_qJoins_241 rfl ?_
        first | exact fin _ _ (if_pos (cmp_eq.mp hc230)).symm h238 | exact fin _ _ (if_neg (fun z => hc230 (cmp_eq.mpr z))).symm h238
      · refine C.lconst (lN 1) dX13_qJoins_233 (by decide) ?_
        refine C.goto 238 dX13_qJoins_234 rfl ?_
        refine C.callVV lX13_439 dX13_qJoins_238 (ke_puts hS1 hP2 (by omega) _) hS.o rfl rfl (Nat.le_of_ble_eq_true rfl) (Nat.zero_le _) (Nat.zero_le _) (Nat.le_of_ble_eq_true rfl) (fun μ238 h238 => ?_)
        refine C.goto 273 dX13_qJoins_241 rfl ?_
        first | exact fin _ _ (if_pos (cmp_eq.mp hc230)).symm h238 | exact fin _ _ (if_neg (fun z => hc230 (cmp_eq.mpr z))).symm h238
    rw [if_neg c9] at fin
    by_cases c10 : c = nI 10
    · subst c10
      simp only [if_true] at fin
      refine C.tableIn 244 dX13_qJoins_36 (by decide) (by decide) rfl rfl ?_
      refine C.aload_n dX13_qJoins_244 0 rfl ?_
      refine C.lload dX13_qJoins_245 3 rfl ?_
      refine C.lload_n dX13_qJoins_247 2 rfl ?_
      refine C.lmul dX13_qJoins_248 ?_
      refine C.callVV lX13_439 dX13_qJoins_249 (ke_puts hS1 hP2 (by omega) _) hS.o rfl rfl (Nat.le_of_ble_eq_true rfl) (Nat.zero_le _) (Nat.zero_le _) (Nat.le_of_ble_eq_true rfl) (fun μ249 h249 => ?_)
      refine C.goto 273 dX13_qJoins_252 rfl ?_
      exact fin _ _ rfl h249
    rw [if_neg c10] at fin
    refine C.tableOut 255 dX13_qJoins_36 (sw_out (fun k h1 h2 q => ?_)) rfl ?_
    · rcases (show k = 1 ∨ k = 2 ∨ k = 3 ∨ k = 4 ∨ k = 5 ∨ k = 6 ∨ k = 7 ∨ k = 8 ∨ k = 9 ∨ k = 10 by omega) with rfl | rfl | rfl | rfl | rfl | rfl | rfl | rfl | rfl | rfl
      · exact c1 q
      · exact c2 q
      · exact c3 q
      · exact c4 q
      · exact c5 q
      · exact c6 q
      · exact c7 q
      · exact c8 q
      · exact c9 q
      · exact c10 q
    refine C.aload_n dX13_qJoins_255 0 rfl ?_
    refine C.lload dX13_qJoins_256 3 rfl ?_
    refine C.lload_n dX13_qJoins_258 2 rfl ?_
    refine C.ladd dX13_qJoins_259 ?_
    refine C.lconst (lN 0) dX13_qJoins_260 (by decide) ?_
    refine C.lcmp dX13_qJoins_261 ?_
    refine C.if_le 269 dX13_qJoins_262 rfl (fun hc262 => ?_) (fun hc262 => ?_)
    · refine C.lconst (lN 0) dX13_qJoins_269 (by decide) ?_
      refine C.callVV lX13_439 dX13_qJoins_270 (ke_puts hS1 hP2 (by omega) _) hS.o rfl rfl (Nat.le_of_ble_eq_true rfl) (Nat.zero_le _) (Nat.zero_le _) (Nat.le_of_ble_eq_true rfl) (fun μ270 h270 => ?_)
      first | exact fin _ _ (if_pos (cmp_le.mp hc262)).symm h270 | exact fin _ _ (if_neg (fun z => hc262 (cmp_le.mpr z))).symm h270
    · refine C.lconst (lN 1) dX13_qJoins_265 (by decide) ?_
      refine C.goto 270 dX13_qJoins_266 rfl ?_
      refine C.callVV lX13_439 dX13_qJoins_270 (ke_puts hS1 hP2 (by omega) _) hS.o rfl rfl (Nat.le_of_ble_eq_true rfl) (Nat.zero_le _) (Nat.zero_le _) (Nat.le_of_ble_eq_true rfl) (fun μ270 h270 => ?_)
      first | exact fin _ _ (if_pos (cmp_le.mp hc262)).symm h270 | exact fin _ _ (if_neg (fun z => hc262 (cmp_le.mpr z))).symm h270
  refine C.aload_n dX13_qJoins_0 0 rfl ?_
  refine C.getA fX13_255 dX13_qJoins_1 hS.o hS.r107 ?_
  refine C.aload_n dX13_qJoins_4 0 rfl ?_
  refine C.getI fX13_436 dX13_qJoins_5 hS.o ?_
  rw [hc]
  refine C.iconst (nI 1) dX13_qJoins_8 (by decide) ?_
  refine C.isub dX13_qJoins_9 ?_
  rw [pk_sub (by omega), show st.length + 1 + 1 - 1 = st.length + 1 by omega]
  refine C.lald hS.a107 (n_in (by omega)) dX13_qJoins_10 ?_
  rw [n_cl, ht]
  refine C.lstore_n (lv' := [(0, _), (1, _), (2, _)]) dX13_qJoins_11 (nLt hX rfl) rfl ?_
  refine C.aload_n dX13_qJoins_12 0 rfl ?_
  refine C.getA fX13_255 dX13_qJoins_13 hS.o hS.r107 ?_
  refine C.aload_n dX13_qJoins_16 0 rfl ?_
  refine C.getI fX13_436 dX13_qJoins_17 hS.o ?_
  rw [hc]
  refine C.iconst (nI 2) dX13_qJoins_20 (by decide) ?_
  refine C.isub dX13_qJoins_21 ?_
  rw [pk_sub (by omega), show st.length + 1 + 1 - 2 = st.length by omega]
  refine C.lald hS.a107 (n_in (by omega)) dX13_qJoins_22 ?_
  rw [n_cl, ht2]
  refine C.lstore (lv' := [(0, _), (1, _), (2, _), (4, _)]) dX13_qJoins_23 (nLt hX rfl) rfl ?_
  refine C.aload_n dX13_qJoins_25 0 rfl ?_
  refine C.dup dX13_qJoins_26 rfl ?_
  refine C.getI fX13_436 dX13_qJoins_27 hS.o ?_
  rw [hc]
  refine C.iconst (nI 2) dX13_qJoins_30 (by decide) ?_
  refine C.isub dX13_qJoins_31 ?_
  rw [pk_sub (by omega), show st.length + 1 + 1 - 2 = st.length by omega]
  refine C.putI fX13_436 (Or.inl rfl) dX13_qJoins_32 hS.o ?_
  exact m35
def rem7 (x : Int32) : Int32 := x - x / nI 7 * nI 7
def div7 (x : Int32) : Int32 := x / nI 7
def partV (μ : Mm) (i k : Nat) : Int32 := if k = 0 then (if mI μ 179 58 = nI 2 then mI μ 227 i else mI μ 179 61) else if k = 1 then mI μ 179 62 else if k = 2 then (if mI μ 179 58 = nI 2 then rem7 (mI μ 220 (30 + 5 * i)) else rem7 (mI μ 179 63)) else if k = 3 then (if mI μ 179 58 = nI 2 then div7 (mI μ 220 (30 + 5 * i)) else div7 (mI μ 179 63)) else if k = 4 then mI μ 225 (2 + 4 * i) else if k = 5 then mI μ 225 (2 + 4 * i + 1) else if k = 6 then mI μ 225 (2 + 4 * i + 2) else if k = 7 then nI i else mI μ 225 (2 + 4 * i + 3)
theorem ke_manner (hS : ShM μ) {i : Nat} (hi : i < 6) : AMet l G 0 0 0 mtX13_mannerOf [.ref (G.1 + 179), .int (nI i)] μ (qI (fun x μ' => x = mI μ 225 (2 + 4 * i) ∧ μ' = μ)) := by
  refine AMet.of (by decide) (Nat.le_of_ble_eq_true rfl) (fun X C hX hnm hq => ?_)
  refine C.aload_n dX13_mannerOf_0 0 rfl ?_
  refine C.getA fX13_151 dX13_mannerOf_1 hS.o hS.r59 ?_
  refine C.iconst (nI 2) dX13_mannerOf_4 (by decide) ?_
  refine C.iconst (nI 4) dX13_mannerOf_5 (by decide) ?_
  refine C.iload_n dX13_mannerOf_6 1 rfl ?_
  refine C.imul dX13_mannerOf_7 ?_
  rw [pk_mul]
  refine C.iadd dX13_mannerOf_8 ?_
  rw [nI_add]
  refine C.iald hS.a59 (n_in (by omega)) dX13_mannerOf_9 ?_
  rw [n_cl]
  refine C.iret hq dX13_mannerOf_10 ?_
  exact ⟨rfl, rfl⟩
theorem ke_met (hS : ShM μ) {i : Nat} (hi : i < 6) : AMet l G 0 0 0 mtX13_metBy [.ref (G.1 + 179), .int (nI i)] μ (qI (fun x μ' => x = mI μ 225 (2 + 4 * i + 1) ∧ μ' = μ)) := by
  refine AMet.of (by decide) (Nat.le_of_ble_eq_true rfl) (fun X C hX hnm hq => ?_)
  refine C.aload_n dX13_metBy_0 0 rfl ?_
  refine C.getA fX13_151 dX13_metBy_1 hS.o hS.r59 ?_
  refine C.iconst (nI 2) dX13_metBy_4 (by decide) ?_
  refine C.iconst (nI 4) dX13_metBy_5 (by decide) ?_
  refine C.iload_n dX13_metBy_6 1 rfl ?_
  refine C.imul dX13_metBy_7 ?_
  rw [pk_mul]
  refine C.iadd dX13_metBy_8 ?_
  rw [nI_add]
  refine C.iconst (nI 1) dX13_metBy_9 (by decide) ?_
  refine C.iadd dX13_metBy_10 ?_
  rw [nI_add]
  refine C.iald hS.a59 (n_in (by omega)) dX13_metBy_11 ?_
  rw [n_cl]
  refine C.iret hq dX13_metBy_12 ?_
  exact ⟨rfl, rfl⟩
theorem ke_purse (hS : ShM μ) {i : Nat} (hi : i < 6) : AMet l G 0 0 0 mtX13_purseOf [.ref (G.1 + 179), .int (nI i)] μ (qI (fun x μ' => x = mI μ 225 (2 + 4 * i + 2) ∧ μ' = μ)) := by
  refine AMet.of (by decide) (Nat.le_of_ble_eq_true rfl) (fun X C hX hnm hq => ?_)
  refine C.aload_n dX13_purseOf_0 0 rfl ?_
  refine C.getA fX13_151 dX13_purseOf_1 hS.o hS.r59 ?_
  refine C.iconst (nI 2) dX13_purseOf_4 (by decide) ?_
  refine C.iconst (nI 4) dX13_purseOf_5 (by decide) ?_
  refine C.iload_n dX13_purseOf_6 1 rfl ?_
  refine C.imul dX13_purseOf_7 ?_
  rw [pk_mul]
  refine C.iadd dX13_purseOf_8 ?_
  rw [nI_add]
  refine C.iconst (nI 2) dX13_purseOf_9 (by decide) ?_
  refine C.iadd dX13_purseOf_10 ?_
  rw [nI_add]
  refine C.iald hS.a59 (n_in (by omega)) dX13_purseOf_11 ?_
  rw [n_cl]
  refine C.iret hq dX13_purseOf_12 ?_
  exact ⟨rfl, rfl⟩
theorem ke_gone (hS : ShM μ) {i : Nat} (hi : i < 6) : AMet l G 0 0 0 mtX13_goneBy [.ref (G.1 + 179), .int (nI i)] μ (qI (fun x μ' => x = mI μ 225 (2 + 4 * i + 3) ∧ μ' = μ)) := by
  refine AMet.of (by decide) (Nat.le_of_ble_eq_true rfl) (fun X C hX hnm hq => ?_)
  refine C.aload_n dX13_goneBy_0 0 rfl ?_
  refine C.getA fX13_151 dX13_goneBy_1 hS.o hS.r59 ?_
  refine C.iconst (nI 2) dX13_goneBy_4 (by decide) ?_
  refine C.iconst (nI 4) dX13_goneBy_5 (by decide) ?_
  refine C.iload_n dX13_goneBy_6 1 rfl ?_
  refine C.imul dX13_goneBy_7 ?_
  rw [pk_mul]
  refine C.iadd dX13_goneBy_8 ?_
  rw [nI_add]
  refine C.iconst (nI 3) dX13_goneBy_9 (by decide) ?_
  refine C.iadd dX13_goneBy_10 ?_
  rw [nI_add]
  refine C.iald hS.a59 (n_in (by omega)) dX13_goneBy_11 ?_
  rw [n_cl]
  refine C.iret hq dX13_goneBy_12 ?_
  exact ⟨rfl, rfl⟩
theorem ke_partOf (hS : ShM μ) {i k : Nat} (hi : i < 6) (hk : k < 9) : AMet l G 1 0 0 mtX13_qPartOf [.ref (G.1 + 179), .int (nI k), .int (nI i)] μ (qL (fun x μ' => x = (partV μ i k).toInt64 ∧ μ' = μ)) := by
  refine AMet.of (by decide) (Nat.le_of_ble_eq_true rfl) (fun X C hX hnm hq => ?_)
  unfold partV at hq
  have hti : (nI k).toInt = (k : Int) := nI_tI (by omega)
  refine C.iload_n dX13_qPartOf_0 1 rfl ?_
  rcases (show k = 0 ∨ k = 1 ∨ k = 2 ∨ k = 3 ∨ k = 4 ∨ k = 5 ∨ k = 6 ∨ k = 7 ∨ k = 8 by omega) with rfl | rfl | rfl | rfl | rfl | rfl | rfl | rfl | rfl
  · refine C.tableIn 48 dX13_qPartOf_1 (by rw [hti]; decide) (by rw [hti]; decide) (by rw [hti]; rfl) rfl ?_
    refine C.aload_n dX13_qPartOf_48 0 rfl ?_
    refine C.getI fX13_322 dX13_qPartOf_49 hS.o ?_
    refine C.iconst (nI 2) dX13_qPartOf_52 (by decide) ?_
    refine C.icmp_ne 66 dX13_qPartOf_53 rfl (fun hc53 => ?_) (fun hc53 => ?_)
    · refine C.aload_n dX13_qPartOf_66 0 rfl ?_
      refine C.getI fX13_450 dX13_qPartOf_67 hS.o ?_
      refine C.i2l dX13_qPartOf_70 ?_
      refine C.lret hq dX13_qPartOf_71 ?_
      first | exact ⟨congrArg Int32.toInt64 (if_neg hc53).symm, rfl⟩ | exact ⟨congrArg Int32.toInt64 (if_pos hc53).symm, rfl⟩
    · refine C.aload_n dX13_qPartOf_56 0 rfl ?_
      refine C.getA fX13_157 dX13_qPartOf_57 hS.o hS.r64 ?_
      refine C.iload_n dX13_qPartOf_60 2 rfl ?_
      refine C.iald hS.a64 (n_in hi) dX13_qPartOf_61 ?_
      rw [n_cl]
      refine C.i2l dX13_qPartOf_62 ?_
      refine C.goto 71 dX13_qPartOf_63 rfl ?_
      refine C.lret hq dX13_qPartOf_71 ?_
      first | exact ⟨congrArg Int32.toInt64 (if_neg hc53).symm, rfl⟩ | exact ⟨congrArg Int32.toInt64 (if_pos hc53).symm, rfl⟩
  · refine C.tableIn 72 dX13_qPartOf_1 (by rw [hti]; decide) (by rw [hti]; decide) (by rw [hti]; rfl) rfl ?_
    refine C.aload_n dX13_qPartOf_72 0 rfl ?_
    refine C.getI fX13_453 dX13_qPartOf_73 hS.o ?_
    refine C.i2l dX13_qPartOf_76 ?_
    refine C.lret hq dX13_qPartOf_77 ?_
    exact ⟨rfl, rfl⟩
  · refine C.tableIn 78 dX13_qPartOf_1 (by rw [hti]; decide) (by rw [hti]; decide) (by rw [hti]; rfl) rfl ?_
    refine C.aload_n dX13_qPartOf_78 0 rfl ?_
    refine C.getI fX13_322 dX13_qPartOf_79 hS.o ?_
    refine C.iconst (nI 2) dX13_qPartOf_82 (by decide) ?_
    refine C.icmp_ne 104 dX13_qPartOf_83 rfl (fun hc83 => ?_) (fun hc83 => ?_)
    · refine C.aload_n dX13_qPartOf_104 0 rfl ?_
      refine C.getI fX13_456 dX13_qPartOf_105 hS.o ?_
      refine C.bipush (nI 7) dX13_qPartOf_108 (by decide) ?_
      refine C.irem dX13_qPartOf_110 (by decide) ?_
      refine C.i2l dX13_qPartOf_111 ?_
      refine C.lret hq dX13_qPartOf_112 ?_
      first | exact ⟨congrArg Int32.toInt64 (if_neg hc83).symm, rfl⟩ | exact ⟨congrArg Int32.toInt64 (if_pos hc83).symm, rfl⟩
    · refine C.aload_n dX13_qPartOf_86 0 rfl ?_
      refine C.getA fX13_136 dX13_qPartOf_87 hS.o hS.r50 ?_
      refine C.bipush (nI 30) dX13_qPartOf_90 (by decide) ?_
      refine C.iconst (nI 5) dX13_qPartOf_92 (by decide) ?_
      refine C.iload_n dX13_qPartOf_93 2 rfl ?_
      refine C.imul dX13_qPartOf_94 ?_
      rw [pk_mul]
      refine C.iadd dX13_qPartOf_95 ?_
      rw [nI_add]
      refine C.iald hS.a50 (n_in (by omega)) dX13_qPartOf_96 ?_
      rw [n_cl]
      refine C.bipush (nI 7) dX13_qPartOf_97 (by decide) ?_
      refine C.irem dX13_qPartOf_99 (by decide) ?_
      refine C.i2l dX13_qPartOf_100 ?_
      refine C.goto 112 dX13_qPartOf_101 rfl ?_
      refine C.lret hq dX13_qPartOf_112 ?_
      first | exact ⟨congrArg Int32.toInt64 (if_neg hc83).symm, rfl⟩ | exact ⟨congrArg Int32.toInt64 (if_pos hc83).symm, rfl⟩
  · refine C.tableIn 113 dX13_qPartOf_1 (by rw [hti]; decide) (by rw [hti]; decide) (by rw [hti]; rfl) rfl ?_
    refine C.aload_n dX13_qPartOf_113 0 rfl ?_
    refine C.getI fX13_322 dX13_qPartOf_114 hS.o ?_
    refine C.iconst (nI 2) dX13_qPartOf_117 (by decide) ?_
    refine C.icmp_ne 139 dX13_qPartOf_118 rfl (fun hc118 => ?_) (fun hc118 => ?_)
    · refine C.aload_n dX13_qPartOf_139 0 rfl ?_
      refine C.getI fX13_456 dX13_qPartOf_140 hS.o ?_
      refine C.bipush (nI 7) dX13_qPartOf_143 (by decide) ?_
      refine C.idiv dX13_qPartOf_145 (by decide) ?_
      refine C.i2l dX13_qPartOf_146 ?_
      refine C.lret hq dX13_qPartOf_147 ?_
      first | exact ⟨congrArg Int32.toInt64 (if_neg hc118).symm, rfl⟩ | exact ⟨congrArg Int32.toInt64 (if_pos hc118).symm, rfl⟩
    · refine C.aload_n dX13_qPartOf_121 0 rfl ?_
      refine C.getA fX13_136 dX13_qPartOf_122 hS.o hS.r50 ?_
      refine C.bipush (nI 30) dX13_qPartOf_125 (by decide) ?_
      refine C.iconst (nI 5) dX13_qPartOf_127 (by decide) ?_
      refine C.iload_n dX13_qPartOf_128 2 rfl ?_
      refine C.imul dX13_qPartOf_129 ?_
      rw [pk_mul]
      refine C.iadd dX13_qPartOf_130 ?_
      rw [nI_add]
      refine C.iald hS.a50 (n_in (by omega)) dX13_qPartOf_131 ?_
      rw [n_cl]
      refine C.bipush (nI 7) dX13_qPartOf_132 (by decide) ?_
      refine C.idiv dX13_qPartOf_134 (by decide) ?_
      refine C.i2l dX13_qPartOf_135 ?_
      refine C.goto 147 dX13_qPartOf_136 rfl ?_
      refine C.lret hq dX13_qPartOf_147 ?_
      first | exact ⟨congrArg Int32.toInt64 (if_neg hc118).symm, rfl⟩ | exact ⟨congrArg Int32.toInt64 (if_pos hc118).symm, rfl⟩
  · refine C.tableIn 148 dX13_qPartOf_1 (by rw [hti]; decide) (by rw [hti]; decide) (by rw [hti]; rfl) rfl ?_
    refine C.aload_n dX13_qPartOf_148 0 rfl ?_
    refine C.iload_n dX13_qPartOf_149 2 rfl ?_
    refine C.callVI lX13_486 dX13_qPartOf_150 (ke_manner hS hi) hS.o rfl rfl (Nat.le_of_ble_eq_true rfl) (Nat.zero_le _) (Nat.zero_le _) (Nat.le_of_ble_eq_true rfl) (fun x150 μ150 h150 => ?_)
    obtain ⟨rfl, hμ⟩ := h150
    subst hμ
    refine C.i2l dX13_qPartOf_153 ?_
    refine C.lret hq dX13_qPartOf_154 ?_
    exact ⟨rfl, rfl⟩
  · refine C.tableIn 155 dX13_qPartOf_1 (by rw [hti]; decide) (by rw [hti]; decide) (by rw [hti]; rfl) rfl ?_
    refine C.aload_n dX13_qPartOf_155 0 rfl ?_
    refine C.iload_n dX13_qPartOf_156 2 rfl ?_
    refine C.callVI lX13_674 dX13_qPartOf_157 (ke_met hS hi) hS.o rfl rfl (Nat.le_of_ble_eq_true rfl) (Nat.zero_le _) (Nat.zero_le _) (Nat.le_of_ble_eq_true rfl) (fun x157 μ157 h157 => ?_)
    obtain ⟨rfl, hμ⟩ := h157
    subst hμ
    refine C.i2l dX13_qPartOf_160 ?_
    refine C.lret hq dX13_qPartOf_161 ?_
    exact ⟨rfl, rfl⟩
  · refine C.tableIn 162 dX13_qPartOf_1 (by rw [hti]; decide) (by rw [hti]; decide) (by rw [hti]; rfl) rfl ?_
    refine C.aload_n dX13_qPartOf_162 0 rfl ?_
    refine C.iload_n dX13_qPartOf_163 2 rfl ?_
    refine C.callVI lX13_498 dX13_qPartOf_164 (ke_purse hS hi) hS.o rfl rfl (Nat.le_of_ble_eq_true rfl) (Nat.zero_le _) (Nat.zero_le _) (Nat.le_of_ble_eq_true rfl) (fun x164 μ164 h164 => ?_)
    obtain ⟨rfl, hμ⟩ := h164
    subst hμ
    refine C.i2l dX13_qPartOf_167 ?_
    refine C.lret hq dX13_qPartOf_168 ?_
    exact ⟨rfl, rfl⟩
  · refine C.tableIn 169 dX13_qPartOf_1 (by rw [hti]; decide) (by rw [hti]; decide) (by rw [hti]; rfl) rfl ?_
    refine C.iload_n dX13_qPartOf_169 2 rfl ?_
    refine C.i2l dX13_qPartOf_170 ?_
    refine C.lret hq dX13_qPartOf_171 ?_
    exact ⟨rfl, rfl⟩
  · refine C.tableOut 172 dX13_qPartOf_1 (by rw [hti]; decide) rfl ?_
    refine C.aload_n dX13_qPartOf_172 0 rfl ?_
    refine C.iload_n dX13_qPartOf_173 2 rfl ?_
    refine C.callVI lX13_489 dX13_qPartOf_174 (ke_gone hS hi) hS.o rfl rfl (Nat.le_of_ble_eq_true rfl) (Nat.zero_le _) (Nat.zero_le _) (Nat.le_of_ble_eq_true rfl) (fun x174 μ174 h174 => ?_)
    obtain ⟨rfl, hμ⟩ := h174
    subst hμ
    refine C.i2l dX13_qPartOf_177 ?_
    refine C.lret hq dX13_qPartOf_178 ?_
    exact ⟨rfl, rfl⟩
end KEV
