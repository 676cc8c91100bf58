/-! the JDK's small methods: least, greatest, distance, floors, counts of bits -/
theorem l_msb (x : Int64) : x.toBitVec.msb = !decide (0 ≤ x) := by
  have h0 : (0 : Int64).toInt = 0 := by decide
  rw [BitVec.msb_eq_toInt]
  show decide (x.toInt < 0) = _
  by_cases h : 0 ≤ x
  · have h2 := h
    rw [Int64.le_iff_toInt_le, h0] at h2
    rw [decide_eq_true h, decide_eq_false (by omega)]
    rfl
  · have h2 := h
    rw [Int64.le_iff_toInt_le, h0] at h2
    rw [decide_eq_false h, decide_eq_true (by omega)]
    rfl
theorem i_msb (x : Int32) : x.toBitVec.msb = !decide (0 ≤ x) := by
  have h0 : (0 : Int32).toInt = 0 := by decide
  rw [BitVec.msb_eq_toInt]
  show decide (x.toInt < 0) = _
  by_cases h : 0 ≤ x
  · have h2 := h
    rw [Int32.le_iff_toInt_le, h0] at h2
    rw [decide_eq_true h, decide_eq_false (by omega)]
    rfl
  · have h2 := h
    rw [Int32.le_iff_toInt_le, h0] at h2
    rw [decide_eq_false h, decide_eq_true (by omega)]
    rfl
theorem l_xor (a b : Int64) : 0 ≤ a ^^^ b ↔ decide (0 ≤ a) = decide (0 ≤ b) := by
  have h := l_msb (a ^^^ b)
  rw [Int64.toBitVec_xor, BitVec.msb_xor, l_msb, l_msb] at h
  by_cases ha : 0 ≤ a <;> by_cases hb : 0 ≤ b <;> by_cases hc : 0 ≤ a ^^^ b <;> simp [ha, hb, hc] at h ⊢
theorem i_xor (a b : Int32) : 0 ≤ a ^^^ b ↔ decide (0 ≤ a) = decide (0 ≤ b) := by
  have h := i_msb (a ^^^ b)
  rw [Int32.toBitVec_xor, BitVec.msb_xor, i_msb, i_msb] at h
  by_cases ha : 0 ≤ a <;> by_cases hb : 0 ≤ b <;> by_cases hc : 0 ≤ a ^^^ b <;> simp [ha, hb, hc] at h ⊢
theorem l_sub0 (v w : Int64) : v - w = 0 ↔ w = v := by
  constructor
  · intro h
    rw [← Int64.sub_add_cancel v w, h, Int64.zero_add]
  · intro h
    rw [h, Int64.sub_self]
theorem mn_n {a b : Nat} (ha : a < 2147483648) (hb : b < 2147483648) : (if nI a ≤ nI b then nI a else nI b) = nI (min a b) := by
  by_cases h : a ≤ b
  · rw [if_pos (nI_le h hb), Nat.min_eq_left h]
  · rw [if_neg (nI_ge (by omega) ha), Nat.min_eq_right (by omega)]
theorem mx_n {a b : Nat} (ha : a < 2147483648) (hb : b < 2147483648) : (if nI b ≤ nI a then nI a else nI b) = nI (max a b) := by
  by_cases h : b ≤ a
  · rw [if_pos (nI_le h ha), Nat.max_eq_left h]
  · rw [if_neg (nI_ge (by omega) hb), Nat.max_eq_right (by omega)]
theorem ab_n {a b : Nat} (ha : a < 2 ^ 30) (hb : b < 2 ^ 30) : (if 0 ≤ nI a - nI b then nI a - nI b else -(nI a - nI b)) = nI ((a - b) + (b - a)) := by
  by_cases h : b ≤ a
  · rw [pk_sub h, if_pos (nI_pos' (by omega))]
    congr 1
    omega
  · have h1 := pk_sneg hb (show a < b by omega)
    rw [if_neg (Int32.not_le.mpr h1), Int32.neg_sub, pk_sub (by omega)]
    congr 1
    omega
theorem rem9t (v : Int32) : (v - v / 9 * 9).toInt = v.toInt.tmod 9 := by
  have h1 := Int.tmod_add_tdiv_mul v.toInt 9
  have h2 := Int.tmod_lt_of_pos v.toInt (by decide : (0 : Int) < 9)
  have h3 := Int.lt_tmod_of_pos v.toInt (by decide : (0 : Int) < 9)
  have hr := fb_rng v
  have e9 : (9 : Int32).toInt = 9 := by decide
  have hsg : 0 ≤ v.toInt → 0 ≤ v.toInt.tmod 9 := fun h => Int.tmod_nonneg 9 h
  have hng : v.toInt ≤ 0 → v.toInt.tmod 9 ≤ 0 := fun h => by
    have := Int.tmod_nonneg 9 (show 0 ≤ -v.toInt by omega)
    rw [Int.neg_tmod] at this
    omega
  have hd : (v / 9).toInt = v.toInt.tdiv 9 := by
    rw [Int32.toInt_div, e9]
    exact Int.bmod_eq_of_le (by omega) (by omega)
  have hm : (v / 9 * 9).toInt = v.toInt.tdiv 9 * 9 := by
    rw [Int32.toInt_mul, hd, e9]
    exact Int.bmod_eq_of_le (by omega) (by omega)
  rw [Int32.toInt_sub, hm, Int.bmod_eq_of_le (by omega) (by omega)]
  omega
section KJ
variable {l : Launch} {G : Gm} {μ : Mm}
/-- a method of a class of the JDK -/
theorem AMet.ofF {d mc ms : Nat} {y : Mt} {As : List Value} {Q : Option Value → Mm → Prop} (hy : plainFor y.1 = true) (hA : (lg_sl As).length ≤ y.2.2.1) (body : ∀ X : Cx, Cok l G X y.2.1 y.1.cls d y.2.2.2 → X.2.2.1 = y.2.2.1 → X.2.1.2.2.2.1.name = y.1.name → MR G X Q → AW l G X mc ms 0 (lv_args 0 As) [] μ) : AMet l G d mc ms y As μ Q := by
  refine va_MetF (cc := y.2.1) (maxL := y.2.2.1) (ret := y.2.2.2) hy rfl ?_
  intro p e s m args below meth c s₁ B hml hv
  obtain ⟨rfl, hR, hK⟩ := hv
  have hts := atoms_spec (ws := wz y) B.pre
  have hin : meth.name = y.1.name := (name_of_methodNamed B.named B.method).1
  have C : Cok l G ((p, e, { frames := d, cells := mc, slots := ms, locals := 64 * d }, s), (m, As.toArray, below, meth, c), (y.2.2.1, MQ below (QcE G Q) As.toArray s mc ms (gA G))) y.2.1 y.1.cls d y.2.2.2 := ⟨B.exec, B.bytes, hml, findClass_of_methodNamed B.named, fun w hw => hts w (List.mem_cons_of_mem _ hw), hK, B.notSynchronized, B.returns, Nat.le_refl _, Nat.le_refl _⟩
  have hl := lv_entry As (n := y.2.2.1) hA
  rw [lg_entry_eq]
  exact body _ C rfl hin rfl s.heap [] 0 0 _ hR va_S.rf (Nat.le_of_eq (Nat.zero_add _)) (Nat.le_of_eq (Nat.zero_add _)) hl
theorem kj_minI (a b : Int32) : AMet l G 0 0 0 mtJ9_min_7cf53 [.int a, .int b] μ (qI (fun x μ' => x = (if a ≤ b then a else b) ∧ μ' = μ)) := by
  refine AMet.ofF (by decide +kernel) (Nat.le_of_ble_eq_true rfl) (fun X C hX hnm hq => ?_)
  refine C.iload_n dJ9_min_7cf53_0 0 rfl ?_
  refine C.iload_n dJ9_min_7cf53_1 1 rfl ?_
  refine C.icmp_gt 9 dJ9_min_7cf53_2 rfl (fun hc2 => ?_) (fun hc2 => ?_)
  · refine C.iload_n dJ9_min_7cf53_9 1 rfl ?_
    refine C.iret hq dJ9_min_7cf53_10 ?_
    refine ⟨?_, rfl⟩
    first | exact (if_neg (Int32.not_le.mpr hc2)).symm | exact (if_pos (Int32.not_lt.mp hc2)).symm
  · refine C.iload_n dJ9_min_7cf53_5 0 rfl ?_
    refine C.goto 10 dJ9_min_7cf53_6 rfl ?_
    refine C.iret hq dJ9_min_7cf53_10 ?_
    refine ⟨?_, rfl⟩
    first | exact (if_neg (Int32.not_le.mpr hc2)).symm | exact (if_pos (Int32.not_lt.mp hc2)).symm
theorem kj_maxI (a b : Int32) : AMet l G 0 0 0 mtJ9_max_7cf53 [.int a, .int b] μ (qI (fun x μ' => x = (if b ≤ a then a else b) ∧ μ' = μ)) := by
  refine AMet.ofF (by decide +kernel) (Nat.le_of_ble_eq_true rfl) (fun X C hX hnm hq => ?_)
  refine C.iload_n dJ9_max_7cf53_0 0 rfl ?_
  refine C.iload_n dJ9_max_7cf53_1 1 rfl ?_
  refine C.icmp_lt 9 dJ9_max_7cf53_2 rfl (fun hc2 => ?_) (fun hc2 => ?_)
  · refine C.iload_n dJ9_max_7cf53_9 1 rfl ?_
    refine C.iret hq dJ9_max_7cf53_10 ?_
    refine ⟨?_, rfl⟩
    first | exact (if_neg (Int32.not_le.mpr hc2)).symm | exact (if_pos (Int32.not_lt.mp hc2)).symm
  · refine C.iload_n dJ9_max_7cf53_5 0 rfl ?_
    refine C.goto 10 dJ9_max_7cf53_6 rfl ?_
    refine C.iret hq dJ9_max_7cf53_10 ?_
    refine ⟨?_, rfl⟩
    first | exact (if_neg (Int32.not_le.mpr hc2)).symm | exact (if_pos (Int32.not_lt.mp hc2)).symm
theorem kj_absI (a : Int32) : AMet l G 0 0 0 mtJ9_abs_0f7a4 [.int a] μ (qI (fun x μ' => x = (if 0 ≤ a then a else -a) ∧ μ' = μ)) := by
  refine AMet.ofF (by decide +kernel) (Nat.le_of_ble_eq_true rfl) (fun X C hX hnm hq => ?_)
  refine C.iload_n dJ9_abs_0f7a4_0 0 rfl ?_
  refine C.if_ge 9 dJ9_abs_0f7a4_1 rfl (fun hc1 => ?_) (fun hc1 => ?_)
  · refine C.iload_n dJ9_abs_0f7a4_9 0 rfl ?_
    refine C.iret hq dJ9_abs_0f7a4_10 ?_
    refine ⟨?_, rfl⟩
    first | exact (if_pos hc1).symm | exact (if_neg hc1).symm
  · refine C.iload_n dJ9_abs_0f7a4_4 0 rfl ?_
    refine C.ineg dJ9_abs_0f7a4_5 ?_
    refine C.goto 10 dJ9_abs_0f7a4_6 rfl ?_
    refine C.iret hq dJ9_abs_0f7a4_10 ?_
    refine ⟨?_, rfl⟩
    first | exact (if_pos hc1).symm | exact (if_neg hc1).symm
theorem kj_minL (a b : Int64) : AMet l G 0 0 0 mtJ9_min_f86c9 [.long a, .long b] μ (qL (fun x μ' => x = (if a ≤ b then a else b) ∧ μ' = μ)) := by
  refine AMet.ofF (by decide +kernel) (Nat.le_of_ble_eq_true rfl) (fun X C hX hnm hq => ?_)
  refine C.lload_n dJ9_min_f86c9_0 0 rfl ?_
  refine C.lload_n dJ9_min_f86c9_1 1 rfl ?_
  refine C.lcmp dJ9_min_f86c9_2 ?_
  refine C.if_gt 10 dJ9_min_f86c9_3 rfl (fun hc3 => ?_) (fun hc3 => ?_)
  · refine C.lload_n dJ9_min_f86c9_10 1 rfl ?_
    refine C.lret hq dJ9_min_f86c9_11 ?_
    refine ⟨?_, rfl⟩
    first | exact (if_neg (fun q => Int32.not_le.mpr hc3 (cmp_le.mpr q))).symm | exact (if_pos (cmp_le.mp (Int32.not_lt.mp hc3))).symm
  · refine C.lload_n dJ9_min_f86c9_6 0 rfl ?_
    refine C.goto 11 dJ9_min_f86c9_7 rfl ?_
    refine C.lret hq dJ9_min_f86c9_11 ?_
    refine ⟨?_, rfl⟩
    first | exact (if_neg (fun q => Int32.not_le.mpr hc3 (cmp_le.mpr q))).symm | exact (if_pos (cmp_le.mp (Int32.not_lt.mp hc3))).symm
theorem kj_maxL (a b : Int64) : AMet l G 0 0 0 mtJ9_max_f86c9 [.long a, .long b] μ (qL (fun x μ' => x = (if b ≤ a then a else b) ∧ μ' = μ)) := by
  refine AMet.ofF (by decide +kernel) (Nat.le_of_ble_eq_true rfl) (fun X C hX hnm hq => ?_)
  refine C.lload_n dJ9_max_f86c9_0 0 rfl ?_
  refine C.lload_n dJ9_max_f86c9_1 1 rfl ?_
  refine C.lcmp dJ9_max_f86c9_2 ?_
  refine C.if_lt 10 dJ9_max_f86c9_3 rfl (fun hc3 => ?_) (fun hc3 => ?_)
  · refine C.lload_n dJ9_max_f86c9_10 1 rfl ?_
    refine C.lret hq dJ9_max_f86c9_11 ?_
    refine ⟨?_, rfl⟩
    first | exact (if_neg (fun q => Int32.not_le.mpr hc3 (cmp_ge.mpr q))).symm | exact (if_pos (cmp_ge.mp (Int32.not_lt.mp hc3))).symm
  · refine C.lload_n dJ9_max_f86c9_6 0 rfl ?_
    refine C.goto 11 dJ9_max_f86c9_7 rfl ?_
    refine C.lret hq dJ9_max_f86c9_11 ?_
    refine ⟨?_, rfl⟩
    first | exact (if_neg (fun q => Int32.not_le.mpr hc3 (cmp_ge.mpr q))).symm | exact (if_pos (cmp_ge.mp (Int32.not_lt.mp hc3))).symm
theorem kj_floorDiv {a b : Int64} (hb : ¬ b = 0) : AMet l G 0 0 0 mtJ9_floorDiv_f86c9 [.long a, .long b] μ (qL (fun x μ' => x = flo64 a b ∧ μ' = μ)) := by
  refine AMet.ofF (by decide +kernel) (Nat.le_of_ble_eq_true rfl) (fun X C hX hnm hq => ?_)
  have fin27 : ¬ (¬ a - a / b * b = 0 ∧ ¬ (decide (0 ≤ a) = decide (0 ≤ b))) → AW l G X 0 0 27 [(0, .long a), (2, .long b), (4, .long (a / b))] [] μ := by
    intro hn
    refine C.lload dJ9_floorDiv_f86c9_27 2 rfl ?_
    refine C.lret hq dJ9_floorDiv_f86c9_29 ?_
    refine ⟨?_, rfl⟩
    unfold flo64
    rw [if_neg hb, if_neg hn]
  refine C.lload_n dJ9_floorDiv_f86c9_0 0 rfl ?_
  refine C.lload_n dJ9_floorDiv_f86c9_1 1 rfl ?_
  refine C.ldiv dJ9_floorDiv_f86c9_2 hb ?_
  refine C.lstore (lv' := [(0, _), (2, _), (4, _)]) dJ9_floorDiv_f86c9_3 (nLt hX rfl) rfl ?_
  refine C.lload_n dJ9_floorDiv_f86c9_5 0 rfl ?_
  refine C.lload_n dJ9_floorDiv_f86c9_6 1 rfl ?_
  refine C.lxor dJ9_floorDiv_f86c9_7 ?_
  refine C.lconst (lN 0) dJ9_floorDiv_f86c9_8 (by decide) ?_
  refine C.lcmp dJ9_floorDiv_f86c9_9 ?_
  refine C.if_ge 27 dJ9_floorDiv_f86c9_10 rfl (fun hc10 => ?_) (fun hc10 => ?_)
  · exact fin27 (fun q => q.2 ((l_xor a b).mp (cmp_ge.mp hc10)))
  · refine C.lload dJ9_floorDiv_f86c9_13 2 rfl ?_
    refine C.lload_n dJ9_floorDiv_f86c9_15 1 rfl ?_
    refine C.lmul dJ9_floorDiv_f86c9_16 ?_
    refine C.lload_n dJ9_floorDiv_f86c9_17 0 rfl ?_
    refine C.lcmp dJ9_floorDiv_f86c9_18 ?_
    refine C.if_eq 27 dJ9_floorDiv_f86c9_19 rfl (fun hc19 => ?_) (fun hc19 => ?_)
    · exact fin27 (fun q => q.1 ((l_sub0 _ _).mpr (cmp_eq.mp hc19)))
    · refine C.lload dJ9_floorDiv_f86c9_22 2 rfl ?_
      refine C.lconst (lN 1) dJ9_floorDiv_f86c9_24 (by decide) ?_
      refine C.lsub dJ9_floorDiv_f86c9_25 ?_
      refine C.lret hq dJ9_floorDiv_f86c9_26 ?_
      refine ⟨?_, rfl⟩
      unfold flo64
      rw [if_neg hb, if_pos ⟨fun q => hc19 (cmp_eq.mpr ((l_sub0 _ _).mp q)), fun q => hc10 (cmp_ge.mpr ((l_xor a b).mpr q))⟩]
theorem kj_floorMod (a : Int32) : AMet l G 0 0 0 mtJ9_floorMod_7cf53 [.int a, .int (nI 9)] μ (qI (fun x μ' => x = nI (a.toInt % 9).toNat ∧ μ' = μ)) := by
  refine AMet.ofF (by decide +kernel) (Nat.le_of_ble_eq_true rfl) (fun X C hX hnm hq => ?_)
  have hr : (a - a / nI 9 * nI 9).toInt = a.toInt.tmod 9 := rem9t a
  have he : a.toInt % 9 = if a.toInt.tmod 9 < 0 then a.toInt.tmod 9 + 9 else a.toInt.tmod 9 := by
    have h1 := Int.tmod_add_tdiv_mul a.toInt 9
    have h2 := Int.tmod_lt_of_pos a.toInt (by decide : (0 : Int) < 9)
    have h3 := Int.lt_tmod_of_pos a.toInt (by decide : (0 : Int) < 9)
    split <;> omega
  have h2 := Int.tmod_lt_of_pos a.toInt (by decide : (0 : Int) < 9)
  have h3 := Int.lt_tmod_of_pos a.toInt (by decide : (0 : Int) < 9)
  have h0 : (0 : Int32).toInt = 0 := by decide
  have e9 : (nI 9).toInt = 9 := by decide
  have hsg : 0 ≤ a.toInt → 0 ≤ a.toInt.tmod 9 := fun h => Int.tmod_nonneg 9 h
  have hng : a.toInt ≤ 0 → a.toInt.tmod 9 ≤ 0 := fun h => by
    have h1 := Int.tmod_add_tdiv_mul a.toInt 9
    have := Int.tmod_nonneg 9 (show 0 ≤ -a.toInt by omega)
    rw [Int.neg_tmod] at this
    omega
  refine C.iload_n dJ9_floorMod_7cf53_0 0 rfl ?_
  refine C.iload_n dJ9_floorMod_7cf53_1 1 rfl ?_
  refine C.irem dJ9_floorMod_7cf53_2 (by decide) ?_
  refine C.istore_n (lv' := [(0, _), (1, _), (2, _)]) dJ9_floorMod_7cf53_3 (nLt hX rfl) rfl ?_
  refine C.iload_n dJ9_floorMod_7cf53_4 0 rfl ?_
  refine C.iload_n dJ9_floorMod_7cf53_5 1 rfl ?_
  refine C.ixor dJ9_floorMod_7cf53_6 ?_
  refine C.if_ge 18 dJ9_floorMod_7cf53_7 rfl (fun hc7 => ?_) (fun hc7 => ?_)
  · have hx : 0 ≤ a := by
      have q := (i_xor a (nI 9)).mp hc7
      rw [show decide (0 ≤ nI 9) = true from rfl] at q
      exact of_decide_eq_true q
    rw [i_le, h0] at hx
    refine C.iload_n dJ9_floorMod_7cf53_18 2 rfl ?_
    refine C.iret hq dJ9_floorMod_7cf53_19 ?_
    refine ⟨Int32.toInt_inj.mp ?_, rfl⟩
    have hz : 0 ≤ a.toInt.tmod 9 := by first | exact hsg hx | (rw [← hr, hc11, h0]; exact Int.le_refl 0)
    rw [if_neg (by omega)] at he
    rw [nI_tI (by omega), hr]
    omega
  · have hx : ¬ 0 ≤ a := fun q => hc7 ((i_xor a (nI 9)).mpr (by rw [decide_eq_true q]; rfl))
    rw [i_le, h0] at hx
    refine C.iload_n dJ9_floorMod_7cf53_10 2 rfl ?_
    refine C.if_eq 18 dJ9_floorMod_7cf53_11 rfl (fun hc11 => ?_) (fun hc11 => ?_)
    · refine C.iload_n dJ9_floorMod_7cf53_18 2 rfl ?_
      refine C.iret hq dJ9_floorMod_7cf53_19 ?_
      refine ⟨Int32.toInt_inj.mp ?_, rfl⟩
      have hz : 0 ≤ a.toInt.tmod 9 := by first | exact hsg hx | (rw [← hr, hc11, h0]; exact Int.le_refl 0)
      rw [if_neg (by omega)] at he
      rw [nI_tI (by omega), hr]
      omega
    · refine C.iload_n dJ9_floorMod_7cf53_14 2 rfl ?_
      refine C.iload_n dJ9_floorMod_7cf53_15 1 rfl ?_
      refine C.iadd dJ9_floorMod_7cf53_16 ?_
      refine C.iret hq dJ9_floorMod_7cf53_17 ?_
      refine ⟨Int32.toInt_inj.mp ?_, rfl⟩
      have hz : ¬ a.toInt.tmod 9 = 0 := fun q => hc11 (Int32.toInt_inj.mp (by rw [hr, h0]; exact q))
      have := hng (by omega)
      rw [if_pos (by omega)] at he
      rw [nI_tI (by omega), Int32.toInt_add, hr, e9, Int.bmod_eq_of_le (by omega) (by omega)]
      omega
def bcI (i : Int32) : Int32 :=
  let a := i - ((i.toUInt32 >>> ((nI 1).toUInt32 &&& Int32.toUInt32 31)).toInt32 &&& 1431655765)
  let b := (a &&& 858993459) + ((a.toUInt32 >>> ((nI 2).toUInt32 &&& Int32.toUInt32 31)).toInt32 &&& 858993459)
  let c := (b + (b.toUInt32 >>> ((nI 4).toUInt32 &&& Int32.toUInt32 31)).toInt32) &&& 252645135
  let d := c + (c.toUInt32 >>> ((nI 8).toUInt32 &&& Int32.toUInt32 31)).toInt32
  let e := d + (d.toUInt32 >>> ((nI 16).toUInt32 &&& Int32.toUInt32 31)).toInt32
  e &&& nI 63
theorem bcI_32 : ∀ r, r < 32 → bcI (nI r) = nI (popN r) := by decide +kernel
theorem kj_bitsI {r : Nat} (hr : r < 32) : AMet l G 0 0 0 mtJ6_bitCount_0f7a4 [.int (nI r)] μ (qI (fun x μ' => x = nI (popN r) ∧ μ' = μ)) := by
  refine AMet.ofF (by decide +kernel) (Nat.le_of_ble_eq_true rfl) (fun X C hX hnm hq => ?_)
  refine C.iload_n dJ6_bitCount_0f7a4_0 0 rfl ?_
  refine C.iload_n dJ6_bitCount_0f7a4_1 0 rfl ?_
  refine C.iconst (nI 1) dJ6_bitCount_0f7a4_2 (by decide) ?_
  refine C.iushr dJ6_bitCount_0f7a4_3 ?_
  refine C.ldcw kJ6_265 dJ6_bitCount_0f7a4_4 ?_
  refine C.iand dJ6_bitCount_0f7a4_7 ?_
  refine C.isub dJ6_bitCount_0f7a4_8 ?_
  refine C.istore_n (lv' := [(0, _)]) dJ6_bitCount_0f7a4_9 (nLt hX rfl) rfl ?_
  refine C.iload_n dJ6_bitCount_0f7a4_10 0 rfl ?_
  refine C.ldcw kJ6_266 dJ6_bitCount_0f7a4_11 ?_
  refine C.iand dJ6_bitCount_0f7a4_14 ?_
  refine C.iload_n dJ6_bitCount_0f7a4_15 0 rfl ?_
  refine C.iconst (nI 2) dJ6_bitCount_0f7a4_16 (by decide) ?_
  refine C.iushr dJ6_bitCount_0f7a4_17 ?_
  refine C.ldcw kJ6_266 dJ6_bitCount_0f7a4_18 ?_
  refine C.iand dJ6_bitCount_0f7a4_21 ?_
  refine C.iadd dJ6_bitCount_0f7a4_22 ?_
  refine C.istore_n (lv' := [(0, _)]) dJ6_bitCount_0f7a4_23 (nLt hX rfl) rfl ?_
  refine C.iload_n dJ6_bitCount_0f7a4_24 0 rfl ?_
  refine C.iload_n dJ6_bitCount_0f7a4_25 0 rfl ?_
  refine C.iconst (nI 4) dJ6_bitCount_0f7a4_26 (by decide) ?_
  refine C.iushr dJ6_bitCount_0f7a4_27 ?_
  refine C.iadd dJ6_bitCount_0f7a4_28 ?_
  refine C.ldcw kJ6_267 dJ6_bitCount_0f7a4_29 ?_
  refine C.iand dJ6_bitCount_0f7a4_32 ?_
  refine C.istore_n (lv' := [(0, _)]) dJ6_bitCount_0f7a4_33 (nLt hX rfl) rfl ?_
  refine C.iload_n dJ6_bitCount_0f7a4_34 0 rfl ?_
  refine C.iload_n dJ6_bitCount_0f7a4_35 0 rfl ?_
  refine C.bipush (nI 8) dJ6_bitCount_0f7a4_36 (by decide) ?_
  refine C.iushr dJ6_bitCount_0f7a4_38 ?_
  refine C.iadd dJ6_bitCount_0f7a4_39 ?_
  refine C.istore_n (lv' := [(0, _)]) dJ6_bitCount_0f7a4_40 (nLt hX rfl) rfl ?_
  refine C.iload_n dJ6_bitCount_0f7a4_41 0 rfl ?_
  refine C.iload_n dJ6_bitCount_0f7a4_42 0 rfl ?_
  refine C.bipush (nI 16) dJ6_bitCount_0f7a4_43 (by decide) ?_
  refine C.iushr dJ6_bitCount_0f7a4_45 ?_
  refine C.iadd dJ6_bitCount_0f7a4_46 ?_
  refine C.istore_n (lv' := [(0, _)]) dJ6_bitCount_0f7a4_47 (nLt hX rfl) rfl ?_
  refine C.iload_n dJ6_bitCount_0f7a4_48 0 rfl ?_
  refine C.bipush (nI 63) dJ6_bitCount_0f7a4_49 (by decide) ?_
  refine C.iand dJ6_bitCount_0f7a4_51 ?_
  refine C.iret hq dJ6_bitCount_0f7a4_52 ?_
  exact ⟨bcI_32 r hr, rfl⟩
end KJ
/-! the bits of a long, counted -/
def mkB (m : Nat) : Nat → Nat
  | 0 => 0
  | k + 1 => m + 256 * mkB m k
def bpc (n : Nat) : Nat := n % 2 + n / 2 % 2 + n / 4 % 2 + n / 8 % 2 + n / 16 % 2 + n / 32 % 2 + n / 64 % 2 + n / 128 % 2
def bts : Nat → Nat → Nat
  | 0, _ => 0
  | k + 1, n => bpc (n % 256) + bts k (n / 256)
def s1 (k n : Nat) : Nat := n - (n / 2 &&& mkB 85 k)
def s2 (k n : Nat) : Nat := (n &&& mkB 51 k) + (n / 4 &&& mkB 51 k)
def s3 (k n : Nat) : Nat := (n + n / 16) &&& mkB 15 k
theorem and_sp (a b : Nat) : a &&& b = (a % 256 &&& b % 256) + 256 * (a / 256 &&& b / 256) := by
  have h1 : (a &&& b) % 2 ^ 8 = a % 2 ^ 8 &&& b % 2 ^ 8 := Nat.and_mod_two_pow
  have h2 : (a &&& b) / 2 ^ 8 = a / 2 ^ 8 &&& b / 2 ^ 8 := Nat.and_div_two_pow
  have h3 := Nat.mod_add_div (a &&& b) 256
  rw [show (2 : Nat) ^ 8 = 256 from rfl] at h1 h2
  rw [← h1, ← h2]
  exact h3.symm
theorem and_lo {x m t : Nat} (hm : m < 2 ^ t) : x &&& m = x % 2 ^ t &&& m := by
  have h1 : (x &&& m) % 2 ^ t = x % 2 ^ t &&& m % 2 ^ t := Nat.and_mod_two_pow
  rw [Nat.mod_eq_of_lt hm, Nat.mod_eq_of_lt (Nat.lt_of_le_of_lt Nat.and_le_right hm)] at h1
  exact h1
theorem mkB_d {m : Nat} (hm : m < 256) (k : Nat) : mkB m (k + 1) % 256 = m ∧ mkB m (k + 1) / 256 = mkB m k := by
  have e : mkB m (k + 1) = m + 256 * mkB m k := rfl
  rw [e]
  omega
theorem and_0 {m : Nat} (hm : m < 256) (k n : Nat) : n &&& mkB m (k + 1) = (n % 256 &&& m) + 256 * (n / 256 &&& mkB m k) := by
  rw [and_sp, (mkB_d hm k).1, (mkB_d hm k).2]
theorem and_1 (k n : Nat) : n / 2 &&& mkB 85 (k + 1) = (n % 256 / 2 &&& 85) + 256 * (n / 256 / 2 &&& mkB 85 k) := by
  rw [and_0 (by decide), and_lo (x := n / 2 % 256) (m := 85) (t := 7) (by decide), show n / 2 % 256 % 2 ^ 7 = n % 256 / 2 by omega, show n / 2 / 256 = n / 256 / 2 by omega]
theorem and_2 (k n : Nat) : n / 4 &&& mkB 51 (k + 1) = (n % 256 / 4 &&& 51) + 256 * (n / 256 / 4 &&& mkB 51 k) := by
  rw [and_0 (by decide), and_lo (x := n / 4 % 256) (m := 51) (t := 6) (by decide), show n / 4 % 256 % 2 ^ 6 = n % 256 / 4 by omega, show n / 4 / 256 = n / 256 / 4 by omega]
theorem s1_s (k n : Nat) : s1 (k + 1) n = (n % 256 - (n % 256 / 2 &&& 85)) + 256 * s1 k (n / 256) := by
  unfold s1
  have h1 : (n % 256 / 2 &&& 85) ≤ n % 256 / 2 := Nat.and_le_left
  have h2 : (n / 256 / 2 &&& mkB 85 k) ≤ n / 256 / 2 := Nat.and_le_left
  rw [and_1]
  omega
theorem s1_d (k n : Nat) : s1 (k + 1) n % 256 = n % 256 - (n % 256 / 2 &&& 85) ∧ s1 (k + 1) n / 256 = s1 k (n / 256) := by
  rw [s1_s]
  omega
theorem s2_s (k n : Nat) : s2 (k + 1) n = ((n % 256 &&& 51) + (n % 256 / 4 &&& 51)) + 256 * s2 k (n / 256) := by
  unfold s2
  rw [and_0 (by decide), and_2]
  omega
theorem s2_d (k n : Nat) : s2 (k + 1) n % 256 = (n % 256 &&& 51) + (n % 256 / 4 &&& 51) ∧ s2 (k + 1) n / 256 = s2 k (n / 256) := by
  have h1 : (n % 256 &&& 51) ≤ 51 := Nat.and_le_right
  have h2 : (n % 256 / 4 &&& 51) ≤ 51 := Nat.and_le_right
  rw [s2_s]
  omega
/-- behind the second step each half of a byte holds at most 4 -/
def hb4 : Nat → Nat → Prop
  | 0, n => n = 0
  | k + 1, n => n % 16 ≤ 4 ∧ n % 256 / 16 ≤ 4 ∧ hb4 k (n / 256)
theorem b256_1 : ∀ c, c < 256 → (((c - (c / 2 &&& 85)) &&& 51) + ((c - (c / 2 &&& 85)) / 4 &&& 51)) % 16 ≤ 4 ∧ (((c - (c / 2 &&& 85)) &&& 51) + ((c - (c / 2 &&& 85)) / 4 &&& 51)) / 16 ≤ 4 ∧ (((c - (c / 2 &&& 85)) &&& 51) + ((c - (c / 2 &&& 85)) / 4 &&& 51)) % 16 + (((c - (c / 2 &&& 85)) &&& 51) + ((c - (c / 2 &&& 85)) / 4 &&& 51)) / 16 = bpc c := by decide +kernel
theorem s12_4 : ∀ (k n : Nat), n < 256 ^ k → hb4 k (s2 k (s1 k n))
  | 0, n, h => by
    have : n = 0 := by rw [Nat.pow_zero] at h; omega
    subst this
    rfl
  | k + 1, n, h => by
    have h1 := s2_d k (s1 (k + 1) n)
    have h2 := s1_d k n
    have h3 := b256_1 (n % 256) (Nat.mod_lt _ (by decide))
    rw [h2.1, h2.2] at h1
    have hl : n / 256 < 256 ^ k := Nat.div_lt_of_lt_mul (by rw [Nat.pow_succ] at h; rw [Nat.mul_comm]; exact h)
    unfold hb4
    refine ⟨?_, ?_, ?_⟩
    · have := h3.1
      rw [← h1.1] at this
      omega
    · have := h3.2.1
      rw [← h1.1] at this
      exact this
    · rw [h1.2]
      exact s12_4 k (n / 256) hl
theorem hb4_lo : ∀ (k n : Nat), hb4 k n → n % 16 ≤ 4
  | 0, n, h => by
    have : n = 0 := h
    subst this
    decide
  | k + 1, n, h => h.1
theorem s3_s (k n : Nat) (h : hb4 (k + 1) n) : s3 (k + 1) n = (n % 16 + n % 256 / 16) + 256 * s3 k (n / 256) := by
  obtain ⟨h1, h2, h3⟩ := h
  have h4 := hb4_lo k _ h3
  unfold s3
  rw [and_0 (by decide), and_lo (x := (n + n / 16) % 256) (m := 15) (t := 4) (by decide), show (n + n / 16) / 256 = n / 256 + n / 256 / 16 by omega]
  have e : (n + n / 16) % 256 % 2 ^ 4 &&& 15 = (n + n / 16) % 256 % 2 ^ 4 := by
    rw [show (15 : Nat) = 2 ^ 4 - 1 from rfl, Nat.and_two_pow_sub_one_eq_mod, Nat.mod_mod]
  rw [e]
  omega
/-- the bytes, each with its own count -/
def byC : Nat → Nat → Nat
  | 0, _ => 0
  | k + 1, n => bpc (n % 256) + 256 * byC k (n / 256)
theorem s123 : ∀ (k n : Nat), n < 256 ^ k → s3 k (s2 k (s1 k n)) = byC k n
  | 0, n, h => by
    show (_ &&& 0) = 0
    exact Nat.and_zero _
  | k + 1, n, h => by
    have h0 := s12_4 (k + 1) n h
    have h1 := s2_d k (s1 (k + 1) n)
    have h2 := s1_d k n
    have h3 := (b256_1 (n % 256) (Nat.mod_lt _ (by decide))).2.2
    have hl : n / 256 < 256 ^ k := Nat.div_lt_of_lt_mul (by rw [Nat.pow_succ] at h; rw [Nat.mul_comm]; exact h)
    rw [h2.1, h2.2] at h1
    have e : byC (k + 1) n = bpc (n % 256) + 256 * byC k (n / 256) := rfl
    rw [s3_s _ _ h0, e, h1.2, s123 k _ hl]
    rw [← h1.1] at h3
    have h5 : s2 (k + 1) (s1 (k + 1) n) % 16 = s2 (k + 1) (s1 (k + 1) n) % 256 % 16 := by omega
    rw [h5, h3]
theorem bpc_le (n : Nat) : bpc n ≤ 8 := by unfold bpc; omega
theorem fin8 {b0 b1 b2 b3 b4 b5 b6 b7 y1 y2 y3 y4 y5 y6 m : Nat} (h0 : b0 ≤ 8) (h1 : b1 ≤ 8) (h2 : b2 ≤ 8) (h3 : b3 ≤ 8) (h4 : b4 ≤ 8) (h5 : b5 ≤ 8) (h6 : b6 ≤ 8) (h7 : b7 ≤ 8) (hm : m = b0 + 256 * y1) (k1 : y1 = b1 + 256 * y2) (k2 : y2 = b2 + 256 * y3) (k3 : y3 = b3 + 256 * y4) (k4 : y4 = b4 + 256 * y5) (k5 : y5 = b5 + 256 * y6) (k6 : y6 = b6 + 256 * b7) : m / 256 = y1 ∧ (m + y1) / 65536 = y2 + y3 ∧ (m + y1 + (y2 + y3)) / 4294967296 = y4 + y5 + y6 + b7 ∧ (m + y1 + (y2 + y3) + (y4 + y5 + y6 + b7)) % 128 = b0 + b1 + b2 + b3 + b4 + b5 + b6 + b7 := by
  refine ⟨by omega, ?_, ?_, ?_⟩
  · clear h4 h5 h6 h7 k4 k5 k6
    omega
  · have e : m + y1 + (y2 + y3) = (b0 + b1 + b2 + b3) + 256 * (b1 + b2 + b3 + b4) + 65536 * (b2 + b3 + b4 + b5) + 16777216 * (b3 + b4 + b5 + b6) + 4294967296 * (y4 + y5 + y6 + b7) := by omega
    rw [e]
    clear e hm k1 k2 k3 k4 k5 k6
    omega
  · omega
def bcL (i : Int64) : Int32 :=
  let a := i - ((i.toUInt64 >>> ((nI 1).toInt64.toUInt64 &&& Int64.toUInt64 63)).toInt64 &&& 6148914691236517205)
  let b := (a &&& 3689348814741910323) + ((a.toUInt64 >>> ((nI 2).toInt64.toUInt64 &&& Int64.toUInt64 63)).toInt64 &&& 3689348814741910323)
  let c := (b + (b.toUInt64 >>> ((nI 4).toInt64.toUInt64 &&& Int64.toUInt64 63)).toInt64) &&& 1085102592571150095
  let d := c + (c.toUInt64 >>> ((nI 8).toInt64.toUInt64 &&& Int64.toUInt64 63)).toInt64
  let e := d + (d.toUInt64 >>> ((nI 16).toInt64.toUInt64 &&& Int64.toUInt64 63)).toInt64
  let f := e + (e.toUInt64 >>> ((nI 32).toInt64.toUInt64 &&& Int64.toUInt64 63)).toInt64
  f.toInt32 &&& nI 127
theorem byC_8 (n : Nat) : ∃ b0 b1 b2 b3 b4 b5 b6 b7 y1 y2 y3 y4 y5 y6, (b0 ≤ 8 ∧ b1 ≤ 8 ∧ b2 ≤ 8 ∧ b3 ≤ 8 ∧ b4 ≤ 8 ∧ b5 ≤ 8 ∧ b6 ≤ 8 ∧ b7 ≤ 8) ∧ (byC 8 n = b0 + 256 * y1 ∧ y1 = b1 + 256 * y2 ∧ y2 = b2 + 256 * y3 ∧ y3 = b3 + 256 * y4 ∧ y4 = b4 + 256 * y5 ∧ y5 = b5 + 256 * y6 ∧ y6 = b6 + 256 * b7) ∧ bts 8 n = b0 + b1 + b2 + b3 + b4 + b5 + b6 + b7 := by
  have s : ∀ k m, byC (k + 1) m = bpc (m % 256) + 256 * byC k (m / 256) := fun _ _ => rfl
  have z : ∀ m, byC 1 m = bpc (m % 256) := fun m => by rw [s]; rfl
  have u : ∀ k m, bts (k + 1) m = bpc (m % 256) + bts k (m / 256) := fun _ _ => rfl
  have u0 : ∀ m, bts 0 m = 0 := fun _ => rfl
  refine ⟨_, _, _, _, _, _, _, _, _, _, _, _, _, _, ⟨bpc_le (n % 256), bpc_le (n / 256 % 256), bpc_le (n / 256 / 256 % 256), bpc_le (n / 256 / 256 / 256 % 256), bpc_le (n / 256 / 256 / 256 / 256 % 256), bpc_le (n / 256 / 256 / 256 / 256 / 256 % 256), bpc_le (n / 256 / 256 / 256 / 256 / 256 / 256 % 256), bpc_le (n / 256 / 256 / 256 / 256 / 256 / 256 / 256 % 256)⟩, ⟨s 7 n, s 6 _, s 5 _, s 4 _, s 3 _, s 2 _, ?_⟩, ?_⟩
  · rw [s 1, z]
  · rw [u, u, u, u, u, u, u, u, u0]
    omega
theorem bcL_n {n : Nat} (h : n < 2 ^ 63) : bcL (lN n) = nI (bts 8 n) := by
  have q1 : (6148914691236517205 : Int64) = lN (mkB 85 8) := by decide +kernel
  have q2 : (3689348814741910323 : Int64) = lN (mkB 51 8) := by decide +kernel
  have q3 : (1085102592571150095 : Int64) = lN (mkB 15 8) := by decide +kernel
  have hle1 : s1 8 n ≤ n := Nat.sub_le _ _
  have m2 : mkB 51 8 = 3689348814741910323 := by decide +kernel
  have hle2 : s2 8 (s1 8 n) ≤ 2 * 3689348814741910323 := by
    unfold s2
    have h1 : (s1 8 n &&& mkB 51 8) ≤ mkB 51 8 := Nat.and_le_right
    have h2 : (s1 8 n / 4 &&& mkB 51 8) ≤ mkB 51 8 := Nat.and_le_right
    rw [m2] at h1 h2
    rw [m2]
    omega
  have hc := s123 8 n (by show n < 18446744073709551616; omega)
  obtain ⟨b0, b1, b2, b3, b4, b5, b6, b7, y1, y2, y3, y4, y5, y6, ⟨c0, c1, c2, c3, c4, c5, c6, c7⟩, ⟨hb, k1, k2, k3, k4, k5, k6⟩, ht⟩ := byC_8 n
  generalize byC 8 n = m at hb hc
  obtain ⟨f1, f2, f3, f4⟩ := fin8 c0 c1 c2 c3 c4 c5 c6 c7 hb k1 k2 k3 k4 k5 k6
  have e1 : lN n - (((lN n).toUInt64 >>> ((nI 1).toInt64.toUInt64 &&& Int64.toUInt64 63)).toInt64 &&& 6148914691236517205) = lN (s1 8 n) := by
    rw [wb_shr (by omega) (by decide), q1, fb_andL, lN_sub (Nat.le_trans Nat.and_le_left (Nat.div_le_self _ _))]
    rfl
  have e2 : (lN (s1 8 n) &&& 3689348814741910323) + (((lN (s1 8 n)).toUInt64 >>> ((nI 2).toInt64.toUInt64 &&& Int64.toUInt64 63)).toInt64 &&& 3689348814741910323) = lN (s2 8 (s1 8 n)) := by
    rw [wb_shr (by omega) (by decide), q2, fb_andL, fb_andL, lN_add]
    rfl
  have e3 : (lN (s2 8 (s1 8 n)) + ((lN (s2 8 (s1 8 n))).toUInt64 >>> ((nI 4).toInt64.toUInt64 &&& Int64.toUInt64 63)).toInt64) &&& 1085102592571150095 = lN (s3 8 (s2 8 (s1 8 n))) := by
    rw [wb_shr (by omega) (by decide), q3, lN_add, fb_andL]
    rfl
  unfold bcL
  simp only [e1, e2, e3]
  rw [hc]
  rw [wb_shr (n := m) (by omega) (by decide), show m / 2 ^ 8 = y1 from f1, lN_add, wb_shr (n := m + y1) (by omega) (by decide), show (m + y1) / 2 ^ 16 = y2 + y3 from f2, lN_add, wb_shr (n := m + y1 + (y2 + y3)) (by omega) (by decide), show (m + y1 + (y2 + y3)) / 2 ^ 32 = y4 + y5 + y6 + b7 from f3, lN_add, lN_i, show (127 : Nat) = 2 ^ 7 - 1 from rfl, fa_mask, ht, ← f4]
theorem bts_ct : ∀ (k n : Nat), bts k n = fb_ct (fun i => n.testBit i) (8 * k)
  | 0, n => rfl
  | k + 1, n => by
    rw [show 8 * (k + 1) = 8 + 8 * k by omega, fb_ct_split]
    have h1 : ∀ i, (if n.testBit i then 1 else 0) = n / 2 ^ i % 2 := fun i => by
      rw [Nat.testBit_eq_decide_div_mod_eq]
      by_cases q : n / 2 ^ i % 2 = 1
      · simp [q]
      · simp [q]; omega
    have h2 : fb_ct (fun i => n.testBit i) 8 = bpc (n % 256) := by
      have e : fb_ct (fun i => n.testBit i) 8 = 0 + (if n.testBit 0 then 1 else 0) + (if n.testBit 1 then 1 else 0) + (if n.testBit 2 then 1 else 0) + (if n.testBit 3 then 1 else 0) + (if n.testBit 4 then 1 else 0) + (if n.testBit 5 then 1 else 0) + (if n.testBit 6 then 1 else 0) + (if n.testBit 7 then 1 else 0) := rfl
      rw [e, h1, h1, h1, h1, h1, h1, h1, h1]
      unfold bpc
      omega
    have h3 : (fun i => n.testBit (8 + i)) = (fun i => (n / 256).testBit i) := funext fun i => by
      rw [Nat.add_comm, show (256 : Nat) = 2 ^ 8 from rfl, Nat.testBit_div_two_pow]
    rw [h2, h3, ← bts_ct k (n / 256)]
    rfl
section KJL
variable {l : Launch} {G : Gm} {μ : Mm}
theorem kj_bitsL {n : Nat} (h : n < 2 ^ 63) : AMet l G 0 0 0 mtJ13_bitCount_95d88 [.long (lN n)] μ (qI (fun x μ' => x = nI (fb_ct (fun i => n.testBit i) 64) ∧ μ' = μ)) := by
  refine AMet.ofF (by decide +kernel) (Nat.le_of_ble_eq_true rfl) (fun X C hX hnm hq => ?_)
  refine C.lload_n dJ13_bitCount_95d88_0 0 rfl ?_
  refine C.lload_n dJ13_bitCount_95d88_1 0 rfl ?_
  refine C.iconst (nI 1) dJ13_bitCount_95d88_2 (by decide) ?_
  refine C.lushr dJ13_bitCount_95d88_3 ?_
  refine C.ldc2 kJ13_314 dJ13_bitCount_95d88_4 ?_
  refine C.land dJ13_bitCount_95d88_7 ?_
  refine C.lsub dJ13_bitCount_95d88_8 ?_
  refine C.lstore_n (lv' := [(0, _)]) dJ13_bitCount_95d88_9 (nLt hX rfl) rfl ?_
  refine C.lload_n dJ13_bitCount_95d88_10 0 rfl ?_
  refine C.ldc2 kJ13_316 dJ13_bitCount_95d88_11 ?_
  refine C.land dJ13_bitCount_95d88_14 ?_
  refine C.lload_n dJ13_bitCount_95d88_15 0 rfl ?_
  refine C.iconst (nI 2) dJ13_bitCount_95d88_16 (by decide) ?_
  refine C.lushr dJ13_bitCount_95d88_17 ?_
  refine C.ldc2 kJ13_316 dJ13_bitCount_95d88_18 ?_
  refine C.land dJ13_bitCount_95d88_21 ?_
  refine C.ladd dJ13_bitCount_95d88_22 ?_
  refine C.lstore_n (lv' := [(0, _)]) dJ13_bitCount_95d88_23 (nLt hX rfl) rfl ?_
  refine C.lload_n dJ13_bitCount_95d88_24 0 rfl ?_
  refine C.lload_n dJ13_bitCount_95d88_25 0 rfl ?_
  refine C.iconst (nI 4) dJ13_bitCount_95d88_26 (by decide) ?_
  refine C.lushr dJ13_bitCount_95d88_27 ?_
  refine C.ladd dJ13_bitCount_95d88_28 ?_
  refine C.ldc2 kJ13_318 dJ13_bitCount_95d88_29 ?_
  refine C.land dJ13_bitCount_95d88_32 ?_
  refine C.lstore_n (lv' := [(0, _)]) dJ13_bitCount_95d88_33 (nLt hX rfl) rfl ?_
  refine C.lload_n dJ13_bitCount_95d88_34 0 rfl ?_
  refine C.lload_n dJ13_bitCount_95d88_35 0 rfl ?_
  refine C.bipush (nI 8) dJ13_bitCount_95d88_36 (by decide) ?_
  refine C.lushr dJ13_bitCount_95d88_38 ?_
  refine C.ladd dJ13_bitCount_95d88_39 ?_
  refine C.lstore_n (lv' := [(0, _)]) dJ13_bitCount_95d88_40 (nLt hX rfl) rfl ?_
  refine C.lload_n dJ13_bitCount_95d88_41 0 rfl ?_
  refine C.lload_n dJ13_bitCount_95d88_42 0 rfl ?_
  refine C.bipush (nI 16) dJ13_bitCount_95d88_43 (by decide) ?_
  refine C.lushr dJ13_bitCount_95d88_45 ?_
  refine C.ladd dJ13_bitCount_95d88_46 ?_
  refine C.lstore_n (lv' := [(0, _)]) dJ13_bitCount_95d88_47 (nLt hX rfl) rfl ?_
  refine C.lload_n dJ13_bitCount_95d88_48 0 rfl ?_
  refine C.lload_n dJ13_bitCount_95d88_49 0 rfl ?_
  refine C.bipush (nI 32) dJ13_bitCount_95d88_50 (by decide) ?_
  refine C.lushr dJ13_bitCount_95d88_52 ?_
  refine C.ladd dJ13_bitCount_95d88_53 ?_
  refine C.lstore_n (lv' := [(0, _)]) dJ13_bitCount_95d88_54 (nLt hX rfl) rfl ?_
  refine C.lload_n dJ13_bitCount_95d88_55 0 rfl ?_
  refine C.l2i dJ13_bitCount_95d88_56 ?_
  refine C.bipush (nI 127) dJ13_bitCount_95d88_57 (by decide) ?_
  refine C.iand dJ13_bitCount_95d88_59 ?_
  refine C.iret hq dJ13_bitCount_95d88_60 ?_
  exact ⟨(bcL_n h).trans (by rw [bts_ct]), rfl⟩
end KJL
