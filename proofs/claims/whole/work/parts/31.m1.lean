/-! the reference's small methods -/

section KM1
variable {l : Launch} {G : Gm} {μ : Mm}
theorem km_isIn (v a b : Int64) : AMet l G 0 0 0 mtX13_isIn [.long v, .long a, .long b] μ (qI (fun x μ' => x = (if a ≤ v ∧ v ≤ b then 1 else 0) ∧ μ' = μ)) := by
  refine AMet.of (by decide) (by decide) (fun X C hX hnm hq => ?_)
  refine C.lload_n dX13_isIn_0 0 rfl ?_
  refine C.lload_n dX13_isIn_1 1 rfl ?_
  refine C.lcmp dX13_isIn_2 ?_
  refine C.if_lt 17 dX13_isIn_3 rfl (fun hc3 => ?_) (fun hc3 => ?_)
  · refine C.iconst (nI 0) dX13_isIn_17 (by decide) ?_
    refine C.zret hq dX13_isIn_18 (by decide) ?_
    refine ⟨?_, rfl⟩
    simp only [lg_cmp_lt, lg_cmp_gt, Int64.not_lt] at *
    first | (rw [if_pos ⟨by assumption, by assumption⟩]; rfl) | (rw [if_neg (fun h => Int64.not_le.mpr hc3 h.1)]; rfl) | (rw [if_neg (fun h => Int64.not_le.mpr hc10 h.2)]; rfl)
  · refine C.lload_n dX13_isIn_6 0 rfl ?_
    refine C.lload dX13_isIn_7 2 rfl ?_
    refine C.lcmp dX13_isIn_9 ?_
    refine C.if_gt 17 dX13_isIn_10 rfl (fun hc10 => ?_) (fun hc10 => ?_)
    · refine C.iconst (nI 0) dX13_isIn_17 (by decide) ?_
      refine C.zret hq dX13_isIn_18 (by decide) ?_
      refine ⟨?_, rfl⟩
      simp only [lg_cmp_lt, lg_cmp_gt, Int64.not_lt] at *
      first | (rw [if_pos ⟨by assumption, by assumption⟩]; rfl) | (rw [if_neg (fun h => Int64.not_le.mpr hc3 h.1)]; rfl) | (rw [if_neg (fun h => Int64.not_le.mpr hc10 h.2)]; rfl)
    · refine C.iconst (nI 1) dX13_isIn_13 (by decide) ?_
      refine C.goto 18 dX13_isIn_14 rfl ?_
      refine C.zret hq dX13_isIn_18 (by decide) ?_
      refine ⟨?_, rfl⟩
      simp only [lg_cmp_lt, lg_cmp_gt, Int64.not_lt] at *
      first | (rw [if_pos ⟨by assumption, by assumption⟩]; rfl) | (rw [if_neg (fun h => Int64.not_le.mpr hc3 h.1)]; rfl) | (rw [if_neg (fun h => Int64.not_le.mpr hc10 h.2)]; rfl)
theorem km_fail (hS : ShM μ) (k p : Int32) : AMet l G 0 0 0 mtX13_fail [.ref (G.1 + 179), .int k, .int p] μ (qV (fun μ' => μ' = if mI μ 179 5 = 0 then sI (sI μ 179 5 k) 179 6 p else μ)) := by
  refine AMet.of (by decide) (by decide) (fun X C hX hnm hq => ?_)
  refine C.aload_n dX13_fail_0 0 rfl ?_
  refine C.getI fX13_264 dX13_fail_1 hS.o ?_
  refine C.if_eq 8 dX13_fail_4 rfl (fun hc4 => ?_) (fun hc4 => ?_)
  · refine C.aload_n dX13_fail_8 0 rfl ?_
    refine C.iload_n dX13_fail_9 1 rfl ?_
    refine C.putI fX13_264 (Or.inl rfl) dX13_fail_10 hS.o ?_
    refine C.aload_n dX13_fail_13 0 rfl ?_
    refine C.iload_n dX13_fail_14 2 rfl ?_
    refine C.putI fX13_267 (Or.inl rfl) dX13_fail_15 hS.o ?_
    refine C.vret hq dX13_fail_18 ?_
    simp_all
  · refine C.vret hq dX13_fail_7 ?_
    simp_all
theorem km_isLetter (c : Int32) : AMet l G 0 0 0 mtX13_isLetter [.int c] μ (qI (fun x μ' => x = (if nI 97 ≤ c ∧ c ≤ nI 122 then 1 else 0) ∧ μ' = μ)) := by
  refine AMet.of (by decide) (by decide) (fun X C hX hnm hq => ?_)
  refine C.iload_n dX13_isLetter_0 0 rfl ?_
  refine C.bipush (nI 97) dX13_isLetter_1 (by decide) ?_
  refine C.icmp_lt 16 dX13_isLetter_3 rfl (fun hc3 => ?_) (fun hc3 => ?_)
  · refine C.iconst (nI 0) dX13_isLetter_16 (by decide) ?_
    refine C.zret hq dX13_isLetter_17 (by decide) ?_
    refine ⟨?_, rfl⟩
    simp only [Int32.not_lt] at *
    first | (rw [if_pos ⟨by assumption, by assumption⟩]; rfl) | (rw [if_neg (fun h => Int32.not_le.mpr hc3 h.1)]; rfl) | (rw [if_neg (fun h => Int32.not_le.mpr hc9 h.2)]; rfl)
  · refine C.iload_n dX13_isLetter_6 0 rfl ?_
    refine C.bipush (nI 122) dX13_isLetter_7 (by decide) ?_
    refine C.icmp_gt 16 dX13_isLetter_9 rfl (fun hc9 => ?_) (fun hc9 => ?_)
    · refine C.iconst (nI 0) dX13_isLetter_16 (by decide) ?_
      refine C.zret hq dX13_isLetter_17 (by decide) ?_
      refine ⟨?_, rfl⟩
      simp only [Int32.not_lt] at *
      first | (rw [if_pos ⟨by assumption, by assumption⟩]; rfl) | (rw [if_neg (fun h => Int32.not_le.mpr hc3 h.1)]; rfl) | (rw [if_neg (fun h => Int32.not_le.mpr hc9 h.2)]; rfl)
    · refine C.iconst (nI 1) dX13_isLetter_12 (by decide) ?_
      refine C.goto 17 dX13_isLetter_13 rfl ?_
      refine C.zret hq dX13_isLetter_17 (by decide) ?_
      refine ⟨?_, rfl⟩
      simp only [Int32.not_lt] at *
      first | (rw [if_pos ⟨by assumption, by assumption⟩]; rfl) | (rw [if_neg (fun h => Int32.not_le.mpr hc3 h.1)]; rfl) | (rw [if_neg (fun h => Int32.not_le.mpr hc9 h.2)]; rfl)
end KM1
