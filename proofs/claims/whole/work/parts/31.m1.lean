/-! the reference's small methods -/

section KM1
variable {l : Launch} {G : Gm} {μ : Mm}
theorem km_isIn (v a b : Int64) : AMet l G 0 0 0 mtX13_isIn [.long v, .long a, .long b] μ (qI (fun x μ' => x = (if a ≤ v ∧ v ≤ b then nI 1 else nI 0) ∧ μ' = μ)) := by
  refine AMet.of (by decide) (Nat.le_of_ble_eq_true rfl) (fun X C hX hnm hq => ?_)
  refine C.lload_n dX13_isIn_0 0 rfl ?_
  refine C.lload_n dX13_isIn_1 1 rfl ?_
  refine C.lcmp dX13_isIn_2 ?_
  refine C.if_lt 17 dX13_isIn_3 rfl (fun hc3 => ?_) (fun hc3 => ?_)
  · refine C.iconst (nI 0) dX13_isIn_17 (by decide) ?_
    refine C.zret hq dX13_isIn_18 (by decide) ?_
    refine ⟨?_, rfl⟩
    simp only [lg_cmp_lt, lg_cmp_gt, Int64.not_lt] at *
    first | (rw [if_pos ⟨by assumption, by assumption⟩]; done) | (rw [if_neg (fun h => Int64.not_le.mpr hc3 h.1)]; done) | (rw [if_neg (fun h => Int64.not_le.mpr hc10 h.2)]; done)
  · refine C.lload_n dX13_isIn_6 0 rfl ?_
    refine C.lload dX13_isIn_7 2 rfl ?_
    refine C.lcmp dX13_isIn_9 ?_
    refine C.if_gt 17 dX13_isIn_10 rfl (fun hc10 => ?_) (fun hc10 => ?_)
    · refine C.iconst (nI 0) dX13_isIn_17 (by decide) ?_
      refine C.zret hq dX13_isIn_18 (by decide) ?_
      refine ⟨?_, rfl⟩
      simp only [lg_cmp_lt, lg_cmp_gt, Int64.not_lt] at *
      first | (rw [if_pos ⟨by assumption, by assumption⟩]; done) | (rw [if_neg (fun h => Int64.not_le.mpr hc3 h.1)]; done) | (rw [if_neg (fun h => Int64.not_le.mpr hc10 h.2)]; done)
    · refine C.iconst (nI 1) dX13_isIn_13 (by decide) ?_
      refine C.goto 18 dX13_isIn_14 rfl ?_
      refine C.zret hq dX13_isIn_18 (by decide) ?_
      refine ⟨?_, rfl⟩
      simp only [lg_cmp_lt, lg_cmp_gt, Int64.not_lt] at *
      first | (rw [if_pos ⟨by assumption, by assumption⟩]; done) | (rw [if_neg (fun h => Int64.not_le.mpr hc3 h.1)]; done) | (rw [if_neg (fun h => Int64.not_le.mpr hc10 h.2)]; done)
theorem km_fail (hS : ShM μ) (k p : Int32) : AMet l G 0 0 0 mtX13_fail [.ref (G.1 + 179), .int k, .int p] μ (qV (fun μ' => μ' = if mI μ 179 5 = 0 then sI (sI μ 179 5 k) 179 6 p else μ)) := by
  refine AMet.of (by decide) (Nat.le_of_ble_eq_true rfl) (fun X C hX hnm hq => ?_)
  refine C.aload_n dX13_fail_0 0 rfl ?_
  refine C.getI fX13_264 dX13_fail_1 hS.o ?_
  refine C.if_eq 8 dX13_fail_4 rfl (fun hc4 => ?_) (fun hc4 => ?_)
  · refine C.aload_n dX13_fail_8 0 rfl ?_
    refine C.iload_n dX13_fail_9 1 rfl ?_
    refine C.putI fX13_264 (Or.inl rfl) dX13_fail_10 hS.o ?_
    refine C.aload_n dX13_fail_13 0 rfl ?_
    refine C.iload_n dX13_fail_14 2 rfl ?_
    refine C.putI fX13_267 (Or.inl rfl) dX13_fail_15 hS.o ?_
    refine C.vret hq dX13_fail_18 ?_
    simp_all
  · refine C.vret hq dX13_fail_7 ?_
    simp_all
theorem km_isLetter (c : Int32) : AMet l G 0 0 0 mtX13_isLetter [.int c] μ (qI (fun x μ' => x = (if nI 97 ≤ c ∧ c ≤ nI 122 then nI 1 else nI 0) ∧ μ' = μ)) := by
  refine AMet.of (by decide) (Nat.le_of_ble_eq_true rfl) (fun X C hX hnm hq => ?_)
  refine C.iload_n dX13_isLetter_0 0 rfl ?_
  refine C.bipush (nI 97) dX13_isLetter_1 (by decide) ?_
  refine C.icmp_lt 16 dX13_isLetter_3 rfl (fun hc3 => ?_) (fun hc3 => ?_)
  · refine C.iconst (nI 0) dX13_isLetter_16 (by decide) ?_
    refine C.zret hq dX13_isLetter_17 (by decide) ?_
    refine ⟨?_, rfl⟩
    (try simp only [Int32.not_lt] at *)
    first | (rw [if_pos ⟨by assumption, by assumption⟩]; done) | (rw [if_neg (fun h => Int32.not_le.mpr hc3 h.1)]; done) | (rw [if_neg (fun h => Int32.not_le.mpr hc9 h.2)]; done)
  · refine C.iload_n dX13_isLetter_6 0 rfl ?_
    refine C.bipush (nI 122) dX13_isLetter_7 (by decide) ?_
    refine C.icmp_gt 16 dX13_isLetter_9 rfl (fun hc9 => ?_) (fun hc9 => ?_)
    · refine C.iconst (nI 0) dX13_isLetter_16 (by decide) ?_
      refine C.zret hq dX13_isLetter_17 (by decide) ?_
      refine ⟨?_, rfl⟩
      (try simp only [Int32.not_lt] at *)
      first | (rw [if_pos ⟨by assumption, by assumption⟩]; done) | (rw [if_neg (fun h => Int32.not_le.mpr hc3 h.1)]; done) | (rw [if_neg (fun h => Int32.not_le.mpr hc9 h.2)]; done)
    · refine C.iconst (nI 1) dX13_isLetter_12 (by decide) ?_
      refine C.goto 17 dX13_isLetter_13 rfl ?_
      refine C.zret hq dX13_isLetter_17 (by decide) ?_
      refine ⟨?_, rfl⟩
      (try simp only [Int32.not_lt] at *)
      first | (rw [if_pos ⟨by assumption, by assumption⟩]; done) | (rw [if_neg (fun h => Int32.not_le.mpr hc3 h.1)]; done) | (rw [if_neg (fun h => Int32.not_le.mpr hc9 h.2)]; done)
theorem km_isDigit (c : Int32) : AMet l G 0 0 0 mtX13_isDigit [.int c] μ (qI (fun x μ' => x = (if nI 48 ≤ c ∧ c ≤ nI 57 then nI 1 else nI 0) ∧ μ' = μ)) := by
  refine AMet.of (by decide) (Nat.le_of_ble_eq_true rfl) (fun X C hX hnm hq => ?_)
  refine C.iload_n dX13_isDigit_0 0 rfl ?_
  refine C.bipush (nI 48) dX13_isDigit_1 (by decide) ?_
  refine C.icmp_lt 16 dX13_isDigit_3 rfl (fun hc3 => ?_) (fun hc3 => ?_)
  · refine C.iconst (nI 0) dX13_isDigit_16 (by decide) ?_
    refine C.zret hq dX13_isDigit_17 (by decide) ?_
    refine ⟨?_, rfl⟩
    (try simp only [Int32.not_lt] at *)
    first | (rw [if_pos ⟨by assumption, by assumption⟩]; done) | (rw [if_neg (fun h => Int32.not_le.mpr hc3 h.1)]; done) | (rw [if_neg (fun h => Int32.not_le.mpr hc9 h.2)]; done)
  · refine C.iload_n dX13_isDigit_6 0 rfl ?_
    refine C.bipush (nI 57) dX13_isDigit_7 (by decide) ?_
    refine C.icmp_gt 16 dX13_isDigit_9 rfl (fun hc9 => ?_) (fun hc9 => ?_)
    · refine C.iconst (nI 0) dX13_isDigit_16 (by decide) ?_
      refine C.zret hq dX13_isDigit_17 (by decide) ?_
      refine ⟨?_, rfl⟩
      (try simp only [Int32.not_lt] at *)
      first | (rw [if_pos ⟨by assumption, by assumption⟩]; done) | (rw [if_neg (fun h => Int32.not_le.mpr hc3 h.1)]; done) | (rw [if_neg (fun h => Int32.not_le.mpr hc9 h.2)]; done)
    · refine C.iconst (nI 1) dX13_isDigit_12 (by decide) ?_
      refine C.goto 17 dX13_isDigit_13 rfl ?_
      refine C.zret hq dX13_isDigit_17 (by decide) ?_
      refine ⟨?_, rfl⟩
      (try simp only [Int32.not_lt] at *)
      first | (rw [if_pos ⟨by assumption, by assumption⟩]; done) | (rw [if_neg (fun h => Int32.not_le.mpr hc3 h.1)]; done) | (rw [if_neg (fun h => Int32.not_le.mpr hc9 h.2)]; done)
theorem km_end (hS : ShM μ) (n : Int32) : AMet l G 0 0 0 mtX13_end [.ref (G.1 + 179), .int n] μ (qI (fun x μ' => if 0 ≤ n ∧ n ≤ mI μ 179 1 then x = nI 1 ∧ μ' = sI μ 179 1 n else x = nI 0 ∧ μ' = sI μ 181 0 (mI μ 181 0 + nI 1))) := by
  refine AMet.of (by decide) (Nat.le_of_ble_eq_true rfl) (fun X C hX hnm hq => ?_)
  refine C.iload_n dX13_end_0 1 rfl ?_
  refine C.if_lt 12 dX13_end_1 rfl (fun hc1 => ?_) (fun hc1 => ?_)
  · refine C.aload_n dX13_end_12 0 rfl ?_
    refine C.getA fX13_17 dX13_end_13 hS.o hS.r9 ?_
    refine C.iconst (nI 0) dX13_end_16 (by decide) ?_
    refine C.dup2 dX13_end_17 rfl rfl ?_
    refine C.iald hS.a9 (vp_in_nI (by decide) (by decide)) dX13_end_18 ?_
    refine C.iconst (nI 1) dX13_end_19 (by decide) ?_
    refine C.iadd dX13_end_20 ?_
    refine C.iast hS.a9 (vp_in_nI (by decide) (by decide)) dX13_end_21 ?_
    refine C.iconst (nI 0) dX13_end_22 (by decide) ?_
    refine C.zret hq dX13_end_23 (by decide) ?_
    rw [if_neg (by first | exact fun h => (Int32.not_le.mpr hc1) h.1 | exact fun h => hc9 h.2)]
    exact ⟨rfl, rfl⟩
  · refine C.iload_n dX13_end_4 1 rfl ?_
    refine C.aload_n dX13_end_5 0 rfl ?_
    refine C.getI fX13_261 dX13_end_6 hS.o ?_
    refine C.icmp_le 24 dX13_end_9 rfl (fun hc9 => ?_) (fun hc9 => ?_)
    · refine C.aload_n dX13_end_24 0 rfl ?_
      refine C.iload_n dX13_end_25 1 rfl ?_
      refine C.putI fX13_261 (Or.inl rfl) dX13_end_26 hS.o ?_
      refine C.iconst (nI 1) dX13_end_29 (by decide) ?_
      refine C.zret hq dX13_end_30 (by decide) ?_
      rw [if_pos ⟨Int32.not_lt.mp hc1, hc9⟩]
      exact ⟨rfl, rfl⟩
    · refine C.aload_n dX13_end_12 0 rfl ?_
      refine C.getA fX13_17 dX13_end_13 hS.o hS.r9 ?_
      refine C.iconst (nI 0) dX13_end_16 (by decide) ?_
      refine C.dup2 dX13_end_17 rfl rfl ?_
      refine C.iald hS.a9 (vp_in_nI (by decide) (by decide)) dX13_end_18 ?_
      refine C.iconst (nI 1) dX13_end_19 (by decide) ?_
      refine C.iadd dX13_end_20 ?_
      refine C.iast hS.a9 (vp_in_nI (by decide) (by decide)) dX13_end_21 ?_
      refine C.iconst (nI 0) dX13_end_22 (by decide) ?_
      refine C.zret hq dX13_end_23 (by decide) ?_
      rw [if_neg (by first | exact fun h => (Int32.not_le.mpr hc1) h.1 | exact fun h => hc9 h.2)]
      exact ⟨rfl, rfl⟩
theorem km_look (hS : ShM μ) {tx : Nat → Nat} {e p : Nat} (hT : TxM μ tx e) (hp : mI μ 179 2 = nI p) (hpe : p ≤ e) : AMet l G 0 0 0 mtX13_look [.ref (G.1 + 179)] μ (qI (fun x μ' => x = chr tx e (sk tx e p) ∧ μ' = sI μ 179 2 (nI (sk tx e p)))) := by
  refine AMet.of (by decide) (Nat.le_of_ble_eq_true rfl) (fun X C hX hnm hq => ?_)
  obtain ⟨hE, he, hB⟩ := hT
  have hfin : ∀ (q : Nat) (μ1 : Mm), q ≤ e → μ1 = sI μ 179 2 (nI q) → sk tx e p = q → AW l G X 0 0 52 [(0, .ref (G.1 + 179))] [] μ1 := by
    intro q μ1 hqe hμ hsk
    subst hμ
    have e2 : mI (sI μ 179 2 (nI q)) 179 2 = nI q := by simp [mI_sI]
    have e3 : mI (sI μ 179 2 (nI q)) 179 3 = nI e := by simp [mI_sI, hE]
    refine C.aload_n dX13_look_52 0 rfl ?_
    refine C.getI fX13_270 dX13_look_53 hS.o ?_
    refine C.aload_n dX13_look_56 0 rfl ?_
    refine C.getI fX13_273 dX13_look_57 hS.o ?_
    rw [e2, e3]
    refine C.icmp_ge 75 dX13_look_60 rfl (fun hc60 => ?_) (fun hc60 => ?_)
    · refine C.iconst (-1) dX13_look_75 (by decide) ?_
      refine C.iret hq dX13_look_76 ?_
      refine ⟨?_, by rw [hsk]⟩
      rw [hsk, chr]
      first | (rw [if_neg (by have := (nI_leI (a := e) (b := q) (by omega) (by omega)).mp hc60; omega)]; done) | (have hlt : q < e := (nI_ltI (by omega) (by omega)).mp (Int32.not_le.mp hc60); rw [if_pos hlt, e2, nI_clamp (by omega)]; simp [mI_sI, (hB q hlt).1])
    · refine C.aload_n dX13_look_63 0 rfl ?_
      refine C.getA fX13_7 dX13_look_64 hS.o hS.r0 ?_
      refine C.aload_n dX13_look_67 0 rfl ?_
      refine C.getI fX13_270 dX13_look_68 hS.o ?_
      refine C.iald hS.a0 (by rw [e2]; have := n_nle hc60; exact n_in (by omega)) dX13_look_71 ?_
      refine C.goto 76 dX13_look_72 rfl ?_
      refine C.iret hq dX13_look_76 ?_
      refine ⟨?_, by rw [hsk]⟩
      rw [hsk, chr]
      first | (rw [if_neg (by have := (nI_leI (a := e) (b := q) (by omega) (by omega)).mp hc60; omega)]; done) | (have hlt : q < e := (nI_ltI (by omega) (by omega)).mp (Int32.not_le.mp hc60); rw [if_pos hlt, e2, nI_clamp (by omega)]; simp [mI_sI, (hB q hlt).1])
  have loop : ∀ (n q : Nat) (μ1 : Mm), e - q < n → q ≤ e → μ1 = sI μ 179 2 (nI q) → sk tx e p = sk tx e q → AW l G X 0 0 0 [(0, .ref (G.1 + 179))] [] μ1 := by
    intro n
    induction n with
    | zero => intro q μ1 h; omega
    | succ n ih =>
      intro q μ1 hn hqe hμ hsk
      have hfin := hfin q μ1 hqe hμ
      have e2 : mI μ1 179 2 = nI q := by rw [hμ]; simp [mI_sI]
      have e3 : mI μ1 179 3 = nI e := by rw [hμ]; simp [mI_sI, hE]
      have hS : ShM μ1 := hS.of (by rw [hμ]; rfl)
      have e4 : ∀ j, j < e → mI μ1 180 j = nI (tx j) := fun j hj => by rw [hμ]; simp [mI_sI, (hB j hj).1]
      refine C.aload_n dX13_look_0 0 rfl ?_
      refine C.getI fX13_270 dX13_look_1 hS.o ?_
      refine C.aload_n dX13_look_4 0 rfl ?_
      refine C.getI fX13_273 dX13_look_5 hS.o ?_
      rw [e2, e3]
      refine C.icmp_ge 52 dX13_look_8 rfl (fun hc8 => ?_) (fun hc8 => ?_)
      · have hge := (nI_leI (a := e) (b := q) (by omega) (by omega)).mp hc8
        exact hfin (by rw [hsk, sk_stop (by omega)])
      · have hlt : q < e := (nI_ltI (by omega) (by omega)).mp (Int32.not_le.mp hc8)
        have hin : vp_in (mI μ1 179 2) 1600 := by rw [e2]; exact vp_in_nI (by omega) (by decide)
        have e5 : mI μ1 180 (mI μ1 179 2).toNatClampNeg = nI (tx q) := by rw [e2, nI_clamp (by omega), e4 q hlt]
        have h256 := (hB q hlt).2
        refine C.aload_n dX13_look_11 0 rfl ?_
        refine C.getA fX13_7 dX13_look_12 hS.o hS.r0 ?_
        refine C.aload_n dX13_look_15 0 rfl ?_
        refine C.getI fX13_270 dX13_look_16 hS.o ?_
        refine C.iald hS.a0 hin dX13_look_19 ?_
        refine C.bipush (nI 10) dX13_look_20 (by decide) ?_
        rw [e5]
        refine C.icmp_eq 39 dX13_look_22 rfl (fun hc22 => ?_) (fun hc22 => ?_)
        · have hbl : tx q = 10 ∨ tx q = 32 := by first | exact Or.inl ((nI_eq (by omega) (by omega)).mp hc22) | exact Or.inr ((nI_eq (by omega) (by omega)).mp (by simpa using hc36))
          refine C.aload_n dX13_look_39 0 rfl ?_
          refine C.dup dX13_look_40 rfl ?_
          refine C.getI fX13_270 dX13_look_41 hS.o ?_
          refine C.iconst (nI 1) dX13_look_44 (by decide) ?_
          refine C.iadd dX13_look_45 ?_
          refine C.putI fX13_270 (Or.inl rfl) dX13_look_46 hS.o ?_
          refine C.goto 0 dX13_look_49 rfl ?_
          exact ih (q + 1) _ (by omega) (by omega) (by rw [e2, nI_add, hμ, sI_sI]) (by rw [hsk, sk_step hlt hbl])
        · refine C.aload_n dX13_look_25 0 rfl ?_
          refine C.getA fX13_7 dX13_look_26 hS.o hS.r0 ?_
          refine C.aload_n dX13_look_29 0 rfl ?_
          refine C.getI fX13_270 dX13_look_30 hS.o ?_
          refine C.iald hS.a0 hin dX13_look_33 ?_
          refine C.bipush (nI 32) dX13_look_34 (by decide) ?_
          rw [e5]
          refine C.icmp_ne 52 dX13_look_36 rfl (fun hc36 => ?_) (fun hc36 => ?_)
          · exact hfin (by rw [hsk, sk_stop (fun h => h.2.elim (fun h => hc22 (by rw [h])) (fun h => hc36 (by rw [h])))])
          · have hbl : tx q = 10 ∨ tx q = 32 := by first | exact Or.inl ((nI_eq (by omega) (by omega)).mp hc22) | exact Or.inr ((nI_eq (by omega) (by omega)).mp (by simpa using hc36))
            refine C.aload_n dX13_look_39 0 rfl ?_
            refine C.dup dX13_look_40 rfl ?_
            refine C.getI fX13_270 dX13_look_41 hS.o ?_
            refine C.iconst (nI 1) dX13_look_44 (by decide) ?_
            refine C.iadd dX13_look_45 ?_
            refine C.putI fX13_270 (Or.inl rfl) dX13_look_46 hS.o ?_
            refine C.goto 0 dX13_look_49 rfl ?_
            exact ih (q + 1) _ (by omega) (by omega) (by rw [e2, nI_add, hμ, sI_sI]) (by rw [hsk, sk_step hlt hbl])
  exact loop (e - p + 1) p μ (by omega) hpe (sI_self μ 179 2 _ hp).symm rfl
end KM1
