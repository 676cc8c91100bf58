/-! the letters of a name, on both sides -/
def dgF : Nat → Nat → Nat
  | 0, _ => 0
  | n + 1, v => if 0 < v then dgF n (v / 27) + 1 else 0
def dg (v : Nat) : Nat := dgF v v
def letN (v k : Nat) : Nat := if k < dg v then v / 27 ^ (dg v - 1 - k) % 27 else 0
def nmL (d : Ld) (j i : Nat) : Nat := if j = 0 then (d.2.2.1.getD i (0, 0, 0)).1 else (d.2.2.2.1.getD i (0, 0, 0, 0)).1
def letA (h : Hs) (x y z : Int32) : Int32 := match inN x 2 with
  | some j => (match inN y (if j = 0 then (ldH h).2.2.1.length else (ldH h).2.2.2.1.length) with
    | some i => (match inN z 6 with
      | some k => nI (letN (nmL (ldH h) j i) k)
      | none => -1)
    | none => -1)
  | none => -1
section LTP
theorem dgF_st : ∀ (n m v : Nat), v ≤ n → v ≤ m → dgF n v = dgF m v
  | 0, 0, _, _, _ => rfl
  | 0, m + 1, v, h, _ => by
    have : v = 0 := by omega
    subst this
    rfl
  | n + 1, 0, v, _, h => by
    have : v = 0 := by omega
    subst this
    rfl
  | n + 1, m + 1, v, h1, h2 => by
    unfold dgF
    by_cases q : 0 < v
    · rw [if_pos q, if_pos q, dgF_st n m (v / 27) (by omega) (by omega)]
    · rw [if_neg q, if_neg q]
theorem dg_0 : dg 0 = 0 := rfl
theorem dg_s {v : Nat} (h : 0 < v) : dg v = dg (v / 27) + 1 := by
  unfold dg
  obtain ⟨n, rfl⟩ : ∃ n, v = n + 1 := ⟨v - 1, by omega⟩
  rw [show dgF (n + 1) (n + 1) = if 0 < n + 1 then dgF n ((n + 1) / 27) + 1 else 0 from rfl, if_pos h, dgF_st n ((n + 1) / 27) _ (by omega) (Nat.le_refl _)]
theorem dg_lt : ∀ (n v : Nat), v < 27 ^ n → dg v ≤ n
  | 0, v, h => by
    have : v = 0 := by simp at h; exact h
    subst this
    exact Nat.le_refl _
  | n + 1, v, h => by
    rcases Nat.eq_zero_or_pos v with q | q
    · subst q; rw [dg_0]; omega
    · rw [dg_s q]
      have := dg_lt n (v / 27) (by rw [Nat.pow_succ] at h; omega)
      omega
theorem nm27_app (ls : List Nat) (x : Nat) : nm27 (ls ++ [x]) = 27 * nm27 ls + x := by
  unfold nm27
  rw [List.foldl_append]
  rfl
/-- a name's digits are its letters -/
theorem nm27_dg : ∀ (n : Nat) (ls : List Nat), ls.length = n → (∀ x ∈ ls, 1 ≤ x ∧ x ≤ 26) → dg (nm27 ls) = n ∧ ∀ k, k < n → nm27 ls / 27 ^ (n - 1 - k) % 27 = ls.getD k 0
  | 0, ls, hl, _ => by
    have : ls = [] := List.length_eq_zero_iff.mp hl
    subst this
    exact ⟨rfl, fun k q => absurd q (Nat.not_lt_zero k)⟩
  | n + 1, ls, hl, hx => by
    have hne : ls ≠ [] := fun z => by rw [z] at hl; cases hl
    have e := (List.dropLast_concat_getLast hne).symm
    generalize hA : ls.dropLast = A at e
    generalize ls.getLast hne = x at e
    subst e
    have hAl : A.length = n := by rw [List.length_append] at hl; simp at hl; exact hl
    obtain ⟨i1, i2⟩ := nm27_dg n A hAl (fun y hy => hx y (List.mem_append_left _ hy))
    have hx1 := hx x (List.mem_append_right _ (List.mem_singleton.mpr rfl))
    have hd : (27 * nm27 A + x) / 27 = nm27 A := by omega
    rw [nm27_app]
    refine ⟨by rw [dg_s (by omega), hd, i1], fun k hk => ?_⟩
    by_cases q : k = n
    · subst q
      rw [show k + 1 - 1 - k = 0 by omega, Nat.pow_zero, Nat.div_one]
      rw [List.getD_eq_getElem?_getD, List.getElem?_append_right (by omega), hAl, Nat.sub_self]
      show _ = x
      omega
    · have hk2 : k < n := by omega
      rw [List.getD_eq_getElem?_getD, List.getElem?_append_left (by omega), ← List.getD_eq_getElem?_getD, ← i2 k hk2, show n + 1 - 1 - k = n - 1 - k + 1 by omega, Nat.pow_succ, Nat.mul_comm (27 ^ _) 27, ← Nat.div_div_eq_div_mul, hd]
theorem letN_nm {ls : List Nat} (h : nmOk ls) {k : Nat} (hk : k < 6) : letN (nm27 ls) k = ls.getD k 0 := by
  obtain ⟨h1, h2⟩ := nm27_dg ls.length ls rfl h.2.2
  unfold letN
  rw [h1]
  by_cases q : k < ls.length
  · rw [if_pos q, h2 k q]
  · rw [if_neg q, List.getD_eq_getElem?_getD, List.getElem?_eq_none (by omega)]; rfl
theorem getD_27 {ls : List Nat} (h : nmOk ls) (k : Nat) : ls.getD k 0 ≤ 26 := by
  by_cases q : k < ls.length
  · have := h.2.2 _ (List.mem_of_getElem? (getD_q q 0))
    omega
  · rw [List.getD_eq_getElem?_getD, List.getElem?_eq_none (by omega)]; exact Nat.zero_le _
theorem nm32_lt {ls : List Nat} (h : nmOk ls) : nm32 ls < 2 ^ 30 := by
  have h0 := getD_27 h 0
  have h1 := getD_27 h 1
  have h2 := getD_27 h 2
  have h3 := getD_27 h 3
  have h4 := getD_27 h 4
  have h5 := getD_27 h 5
  unfold nm32
  omega
theorem nm32_let {ls : List Nat} (h : nmOk ls) {k : Nat} (hk : k < 6) : nm32 ls / 2 ^ (5 * (5 - k)) % 32 = ls.getD k 0 := by
  have h0 := getD_27 h 0
  have h1 := getD_27 h 1
  have h2 := getD_27 h 2
  have h3 := getD_27 h 3
  have h4 := getD_27 h 4
  have h5 := getD_27 h 5
  unfold nm32
  rcases (show k = 0 ∨ k = 1 ∨ k = 2 ∨ k = 3 ∨ k = 4 ∨ k = 5 by omega) with rfl | rfl | rfl | rfl | rfl | rfl <;> simp only [Nat.reducePow, Nat.reduceSub, Nat.reduceMul] <;> omega
end LTP
section KLT
variable {l : Launch} {G : Gm} {μ : Mm} {h : Hs}

theorem kq_shiftOf {k : Nat} (hk : k < 6) : AMet l G 0 0 0 mtX8_shiftOf [.int (nI k)] μ (qI (fun z μ' => z = nI (5 * (5 - k)) ∧ μ' = μ)) := by
  refine AMet.of (by decide) (Nat.le_of_ble_eq_true rfl) (fun X C hX hnm hq => ?_)
  refine C.iconst (nI 5) dX8_shiftOf_0 (by decide) ?_
  refine C.iconst (nI 5) dX8_shiftOf_1 (by decide) ?_
  refine C.iload_n dX8_shiftOf_2 0 rfl ?_
  refine C.isub dX8_shiftOf_3 ?_
  refine C.imul dX8_shiftOf_4 ?_
  refine C.iret hq dX8_shiftOf_5 ?_
  refine ⟨?_, rfl⟩
  rcases (show k = 0 ∨ k = 1 ∨ k = 2 ∨ k = 3 ∨ k = 4 ∨ k = 5 by omega) with rfl | rfl | rfl | rfl | rfl | rfl <;> decide
theorem kq_letterOf {ls : List Nat} (h : nmOk ls) {k : Nat} (hk : k < 6) : AMet l G 1 0 0 mtX8_letterOf [.int (nI (nm32 ls)), .int (nI k)] μ (qI (fun z μ' => z = nI (ls.getD k 0) ∧ μ' = μ)) := by
  refine AMet.of (by decide) (Nat.le_of_ble_eq_true rfl) (fun X C hX hnm hq => ?_)
  have hlt := nm32_lt h
  refine C.iload_n dX8_letterOf_0 0 rfl ?_
  refine C.iload_n dX8_letterOf_1 1 rfl ?_
  refine C.callSI lX8_41 dX8_letterOf_2 (kq_shiftOf hk) rfl rfl (Nat.le_of_ble_eq_true rfl) (Nat.zero_le _) (Nat.zero_le _) (Nat.le_of_ble_eq_true rfl) (fun x2 μ2 h2 => ?_)
  obtain ⟨rfl, hμ⟩ := h2
  subst hμ
  refine C.ishr dX8_letterOf_5 ?_
  refine C.bipush (nI 31) dX8_letterOf_6 (by decide) ?_
  refine C.iand dX8_letterOf_8 ?_
  refine C.iret hq dX8_letterOf_9 ?_
  refine ⟨?_, rfl⟩
  have hs : nI (5 * (5 - k)) &&& 31 = nI (5 * (5 - k)) := by rcases (show k = 0 ∨ k = 1 ∨ k = 2 ∨ k = 3 ∨ k = 4 ∨ k = 5 by omega) with rfl | rfl | rfl | rfl | rfl | rfl <;> decide
  rw [hs, pk_shrN (by omega) (nI (5 * (5 - k))) (5 * (5 - k)) (by rcases (show k = 0 ∨ k = 1 ∨ k = 2 ∨ k = 3 ∨ k = 4 ∨ k = 5 by omega) with rfl | rfl | rfl | rfl | rfl | rfl <;> decide), ← nm32_let h hk]
  exact fa_mask _ 5
theorem nm27_lt (hH : HOk h) {j i : Nat} (hj : j < 2) (hi : i < (if j = 0 then (ldH h).2.2.1.length else (ldH h).2.2.2.1.length)) : nmL (ldH h) j i < 27 ^ 6 := by
  unfold nmL
  rcases hH.1.1 with hW | e
  · by_cases q : j = 0
    · rw [if_pos q] at hi ⊢
      exact (hW.2.2.1.2 _ (List.mem_of_getElem? (getD_q hi _))).1
    · rw [if_neg q] at hi ⊢
      exact (hW.2.2.2.1.2 _ (List.mem_of_getElem? (getD_q hi _))).1
  · rw [e] at hi
    by_cases q : j = 0
    · rw [if_pos q] at hi; exact absurd hi (Nat.not_lt_zero i)
    · rw [if_neg q] at hi; exact absurd hi (Nat.not_lt_zero i)

theorem kr_letter (hR : RefRel μ h) (hH : HOk h) (x y z : Int32) : AMet l G 1 0 0 mtX13_letter [.ref (G.1 + 179), .int x, .int y, .int z] μ (qI (fun v μ' => v = letA h x y z ∧ PR μ h μ')) := by
  refine AMet.of (by decide) (Nat.le_of_ble_eq_true rfl) (fun X C hX hnm hq => ?_)
  have hS := hR.1.1
  have hL := hR.2.2.2.2.1.1
  have sm := hH.1.1.sm
  unfold letA at hq
  have main : ∀ j i k, j < 2 → i < (if j = 0 then (ldH h).2.2.1.length else (ldH h).2.2.2.1.length) → k < 6 → MR G X (qI (fun v μ' => v = nI (letN (nmL (ldH h) j i) k) ∧ PR μ h μ')) → AW l G X 0 0 44 [(0, .ref (G.1 + 179)), (1, .int (nI j)), (2, .int (nI i)), (3, .int (nI k))] [] μ := by
    clear hq
    intro j i k hj hi hk hq
    have h6 := nm27_lt hH hj hi
    have hi6 : i < 6 := by
      by_cases q : j = 0
      · rw [if_pos q] at hi; omega
      · rw [if_neg q] at hi; omega
    have hv : mL μ 217 (12 + 6 * j + i) = lN (nmL (ldH h) j i) := by
      unfold nmL
      rcases (show j = 0 ∨ j = 1 by omega) with q | q
      · subst q
        rw [if_pos rfl] at hi ⊢
        have := (hL.2.2.1 i _ (getD_q hi (0, 0, 0))).1
        rw [← this]
      · subst q
        rw [if_neg (by decide)] at hi ⊢
        have := (hL.2.2.2.1 i _ (getD_q hi (0, 0, 0, 0))).1
        rw [← this]
        congr 1
        omega
    generalize nmL (ldH h) j i = v at h6 hv hq
    have h63 : (27 : Nat) ^ 6 < 2 ^ 31 := by decide
    have dd : ∀ (m u : Nat), k + m < 100 → k < dg v → u / 27 ^ m = v / 27 ^ (dg v - 1 - k) → u ≤ v → AW l G X 0 0 102 [(0, .ref (G.1 + 179)), (1, .int (nI j)), (2, .int (nI i)), (3, .int (nI k)), (4, .long (lN u)), (6, .int (nI (dg v))), (7, .int (nI (k + m)))] [] μ := by
      intro m
      have hdg := dg_lt 6 v h6
      induction m with
      | zero =>
        intro u hm hkd hu hle
        rw [Nat.pow_zero, Nat.div_one] at hu
        refine C.iload dX13_letter_102 6 rfl ?_
        refine C.iload_n dX13_letter_104 3 rfl ?_
        refine C.icmp_le 122 dX13_letter_105 rfl (fun hc105 => ?_) (fun hc105 => ?_)
        · refine C.lload dX13_letter_122 4 rfl ?_
          refine C.ldc2 kX13_318 dX13_letter_124 ?_
          refine C.lrem dX13_letter_127 (by decide) ?_
          rw [show (27 : Int64) = lN 27 from rfl, pk_lRem (by omega) (by decide) (by decide)]
          refine C.l2i dX13_letter_128 ?_
          refine C.iret hq dX13_letter_129 ?_
          exact ⟨by rw [lN_32 (by omega)]; unfold letN; rw [if_pos hkd, ← hu], PR.self hR⟩
        · exact absurd (n_nle hc105 (by omega) (by omega)) (by omega)
      | succ m ih =>
        intro u hm hkd hu hle
        have hgo := ih (u / 27) (by omega) hkd (by rw [← hu, Nat.pow_succ, Nat.mul_comm (27 ^ m) 27, Nat.div_div_eq_div_mul]) (by omega)
        have e1 : nI (k + (m + 1)) + Int32.ofInt (-1) = nI (k + m) := by
          rw [show k + (m + 1) = k + m + 1 by omega, ← nI_add, Int32.add_assoc, show nI 1 + Int32.ofInt (-1) = 0 by decide, Int32.add_zero]
        rw [← e1] at hgo
        refine C.iload dX13_letter_102 6 rfl ?_
        refine C.iload_n dX13_letter_104 3 rfl ?_
        refine C.icmp_le 122 dX13_letter_105 rfl (fun hc105 => ?_) (fun hc105 => ?_)
        · exact absurd (n_le hc105 (by omega) (by omega)) (by omega)
        · refine C.lload dX13_letter_108 4 rfl ?_
          refine C.ldc2 kX13_318 dX13_letter_110 ?_
          refine C.ldiv dX13_letter_113 (by decide) ?_
          rw [show (27 : Int64) = lN 27 from rfl, pk_lDiv (by omega) (by decide) (by decide)]
          refine C.lstore (lv' := [(0, _), (1, _), (2, _), (3, _), (4, _), (6, _), (7, _)]) dX13_letter_114 (nLt hX rfl) rfl ?_
          refine C.iinc (lv' := [(0, _), (1, _), (2, _), (3, _), (4, _), (6, _), (7, _)]) _ dX13_letter_116 6 rfl rfl (nLt hX rfl) rfl ?_
          refine C.goto 102 dX13_letter_119 rfl ?_
          exact hgo
    have cc : ∀ (f u n : Nat), u ≤ f → u ≤ v → n + dg u = dg v → AW l G X 0 0 67 [(0, .ref (G.1 + 179)), (1, .int (nI j)), (2, .int (nI i)), (3, .int (nI k)), (4, .long (lN v)), (6, .int (nI n)), (7, .long (lN u))] [] μ := by
      intro f
      have hdg := dg_lt 6 v h6
      have fin : AW l G X 0 0 88 [(0, .ref (G.1 + 179)), (1, .int (nI j)), (2, .int (nI i)), (3, .int (nI k)), (4, .long (lN v)), (6, .int (nI (dg v)))] [] μ := by
        refine C.iload_n dX13_letter_88 3 rfl ?_
        refine C.iload dX13_letter_89 5 rfl ?_
        refine C.icmp_lt 96 dX13_letter_91 rfl (fun hc91 => ?_) (fun hc91 => ?_)
        · have hlt := n_lt hc91 (by omega) (by omega)
          have hgo := dd (dg v - 1 - k) v (by omega) hlt rfl (Nat.le_refl _)
          have e2 : nI (dg v) - nI 1 = nI (k + (dg v - 1 - k)) := by
            rw [show dg v = k + (dg v - 1 - k) + 1 by omega, ← nI_add]
            rw [show k + (k + (dg v - 1 - k) + 1 - 1 - k) = k + (dg v - 1 - k) by omega]
            simp
          rw [← e2] at hgo
          refine C.iload dX13_letter_96 5 rfl ?_
          refine C.iconst (nI 1) dX13_letter_98 (by decide) ?_
          refine C.isub dX13_letter_99 ?_
          refine C.istore (lv' := [(0, _), (1, _), (2, _), (3, _), (4, _), (6, _), (7, _)]) dX13_letter_100 (nLt hX rfl) rfl ?_
          exact hgo
        · have hge := n_nlt hc91 (by omega) (by omega)
          refine C.iconst (nI 0) dX13_letter_94 (by decide) ?_
          refine C.iret hq dX13_letter_95 ?_
          exact ⟨by unfold letN; rw [if_neg (by omega)], PR.self hR⟩
      induction f with
      | zero =>
        intro u n hu huv hn
        have : u = 0 := by omega
        subst this
        rw [dg_0] at hn
        have : n = dg v := by omega
        subst this
        refine C.lload dX13_letter_67 6 rfl ?_
        refine C.lconst (lN 0) dX13_letter_69 (by decide) ?_
        refine C.lcmp dX13_letter_70 ?_
        refine C.if_le 88 dX13_letter_71 rfl (fun hc71 => ?_) (fun hc71 => ?_)
        · exact AW.pick [0, 1, 2, 3, 4, 5] rfl fin
        · exact absurd (by decide) hc71
      | succ f ih =>
        intro u n hu huv hn
        rcases Nat.eq_zero_or_pos u with q | q
        · subst q
          rw [dg_0] at hn
          have : n = dg v := by omega
          subst this
          refine C.lload dX13_letter_67 6 rfl ?_
          refine C.lconst (lN 0) dX13_letter_69 (by decide) ?_
          refine C.lcmp dX13_letter_70 ?_
          refine C.if_le 88 dX13_letter_71 rfl (fun hc71 => ?_) (fun hc71 => ?_)
          · exact AW.pick [0, 1, 2, 3, 4, 5] rfl fin
          · exact absurd (by decide) hc71
        · have hgo := ih (u / 27) (n + 1) (by omega) (by omega) (by rw [dg_s q] at hn; omega)
          rw [← nI_1 n] at hgo
          have hpos : (lN 0 : Int64) < lN u := (pk_lLT (by decide) (by omega)).mpr q
          refine C.lload dX13_letter_67 6 rfl ?_
          refine C.lconst (lN 0) dX13_letter_69 (by decide) ?_
          refine C.lcmp dX13_letter_70 ?_
          refine C.if_le 88 dX13_letter_71 rfl (fun hc71 => ?_) (fun hc71 => ?_)
          · exact absurd hpos (Int64.not_lt.mpr (cmp_le.mp hc71))
          · refine C.iinc (lv' := [(0, _), (1, _), (2, _), (3, _), (4, _), (6, _), (7, _)]) _ dX13_letter_74 5 rfl rfl (nLt hX rfl) rfl ?_
            refine C.lload dX13_letter_77 6 rfl ?_
            refine C.ldc2 kX13_318 dX13_letter_79 ?_
            refine C.ldiv dX13_letter_82 (by decide) ?_
            rw [show (27 : Int64) = lN 27 from rfl, pk_lDiv (by omega) (by decide) (by decide)]
            refine C.lstore (lv' := [(0, _), (1, _), (2, _), (3, _), (4, _), (6, _), (7, _)]) dX13_letter_83 (nLt hX rfl) rfl ?_
            refine C.goto 67 dX13_letter_85 rfl ?_
            exact hgo
    refine C.aload_n dX13_letter_44 0 rfl ?_
    refine C.getA fX13_126 dX13_letter_45 hS.o hS.r47 ?_
    refine C.bipush (nI 12) dX13_letter_48 (by decide) ?_
    refine C.bipush (nI 6) dX13_letter_50 (by decide) ?_
    refine C.iload_n dX13_letter_52 1 rfl ?_
    refine C.imul dX13_letter_53 ?_
    rw [pk_mul]
    refine C.iadd dX13_letter_54 ?_
    rw [nI_add]
    refine C.iload_n dX13_letter_55 2 rfl ?_
    refine C.iadd dX13_letter_56 ?_
    rw [nI_add]
    refine C.lald hS.a47 (n_in (by omega)) dX13_letter_57 ?_
    rw [n_cl, hv]
    refine C.lstore (lv' := [(0, _), (1, _), (2, _), (3, _), (4, _)]) dX13_letter_58 (nLt hX rfl) rfl ?_
    refine C.iconst (nI 0) dX13_letter_60 (by decide) ?_
    refine C.istore (lv' := [(0, _), (1, _), (2, _), (3, _), (4, _), (6, _)]) dX13_letter_61 (nLt hX rfl) rfl ?_
    refine C.lload dX13_letter_63 4 rfl ?_
    refine C.lstore (lv' := [(0, _), (1, _), (2, _), (3, _), (4, _), (6, _), (7, _)]) dX13_letter_65 (nLt hX rfl) rfl ?_
    exact cc v v 0 (Nat.le_refl _) (Nat.le_refl _) (Nat.zero_add _)
  refine C.iload_n dX13_letter_0 1 rfl ?_
  refine C.i2l dX13_letter_1 ?_
  refine C.lconst (lN 0) dX13_letter_2 (by decide) ?_
  refine C.lconst (lN 1) dX13_letter_3 (by decide) ?_
  refine C.callSI lX13_307 dX13_letter_4 (km_isIn _ _ _) rfl rfl (Nat.le_of_ble_eq_true rfl) (Nat.zero_le _) (Nat.zero_le _) (Nat.le_of_ble_eq_true rfl) (fun x4 μ4 h4 => ?_)
  obtain ⟨hx4, hμ⟩ := h4
  subst hμ
  simp only [show (1 : Int64) = lN 1 from rfl, isIn_c (n := 1) (by decide)] at hx4
  have hi := isIn_f (n := 2) (by decide) hx4
  refine C.if_eq 42 dX13_letter_7 rfl (fun hc7 => ?_) (fun hc7 => ?_)
  · rw [hi.1 hc7] at hq
    refine C.iconst (-1) dX13_letter_42 (by decide) ?_
    refine C.iret hq dX13_letter_43 ?_
    exact ⟨rfl, PR.self hR⟩
  · obtain ⟨j, hj, e, hin⟩ := hi.2 hc7
    rw [hin] at hq
    subst e
    dsimp only at hq
    have hm : mI μ4 216 (3 + j) = nI (if j = 0 then (ldH h).2.2.1.length else (ldH h).2.2.2.1.length) := by
      rcases (show j = 0 ∨ j = 1 by omega) with q | q
      · subst q; exact hL.1.2.1.1
      · subst q; exact hL.1.2.1.2.1
    have hm6 : (if j = 0 then (ldH h).2.2.1.length else (ldH h).2.2.2.1.length) ≤ 6 := by
      by_cases q : j = 0
      · rw [if_pos q]; omega
      · rw [if_neg q]; omega
    generalize hMM : (if j = 0 then (ldH h).2.2.1.length else (ldH h).2.2.2.1.length) = M at hm hm6 hq
    refine C.iload_n dX13_letter_10 2 rfl ?_
    refine C.i2l dX13_letter_11 ?_
    refine C.lconst (lN 0) dX13_letter_12 (by decide) ?_
    refine C.aload_n dX13_letter_13 0 rfl ?_
    refine C.getA fX13_123 dX13_letter_14 hS.o hS.r46 ?_
    refine C.iconst (nI 3) dX13_letter_17 (by decide) ?_
    refine C.iload_n dX13_letter_18 1 rfl ?_
    refine C.iadd dX13_letter_19 ?_
    rw [nI_add]
    refine C.iald hS.a46 (n_in (by omega)) dX13_letter_20 ?_
    rw [n_cl, hm]
    refine C.iconst (nI 1) dX13_letter_21 (by decide) ?_
    refine C.isub dX13_letter_22 ?_
    refine C.i2l dX13_letter_23 ?_
    refine C.callSI lX13_307 dX13_letter_24 (km_isIn _ _ _) rfl rfl (Nat.le_of_ble_eq_true rfl) (Nat.zero_le _) (Nat.zero_le _) (Nat.le_of_ble_eq_true rfl) (fun x24 μ24 h24 => ?_)
    obtain ⟨hx24, hμ⟩ := h24
    subst hμ
    simp only [isIn_nat (show M < 2147483648 by omega)] at hx24
    have hi2 := isIn_f (by omega) hx24
    refine C.if_eq 42 dX13_letter_27 rfl (fun hc27 => ?_) (fun hc27 => ?_)
    · rw [hi2.1 hc27] at hq
      refine C.iconst (-1) dX13_letter_42 (by decide) ?_
      refine C.iret hq dX13_letter_43 ?_
      exact ⟨rfl, PR.self hR⟩
    · obtain ⟨i, hil, e, hin2⟩ := hi2.2 hc27
      rw [hin2] at hq
      subst e
      dsimp only at hq
      refine C.iload_n dX13_letter_30 3 rfl ?_
      refine C.i2l dX13_letter_31 ?_
      refine C.lconst (lN 0) dX13_letter_32 (by decide) ?_
      refine C.ldc2 kX13_541 dX13_letter_33 ?_
      refine C.callSI lX13_307 dX13_letter_36 (km_isIn _ _ _) rfl rfl (Nat.le_of_ble_eq_true rfl) (Nat.zero_le _) (Nat.zero_le _) (Nat.le_of_ble_eq_true rfl) (fun x36 μ36 h36 => ?_)
      obtain ⟨hx36, hμ⟩ := h36
      subst hμ
      simp only [show (5 : Int64) = lN 5 from rfl, isIn_c (n := 5) (by decide)] at hx36
      have hi3 := isIn_f (n := 6) (by decide) hx36
      refine C.if_ne 44 dX13_letter_39 rfl (fun hc39 => ?_) (fun hc39 => ?_)
      · obtain ⟨k, hk, e, hin3⟩ := hi3.2 hc39
        rw [hin3] at hq
        subst e
        dsimp only at hq
        exact main j i k hj (by omega) hk hq
      · rw [hi3.1 hc39] at hq
        refine C.iconst (-1) dX13_letter_42 (by decide) ?_
        refine C.iret hq dX13_letter_43 ?_
        exact ⟨rfl, PR.self hR⟩

theorem kx_letter (hC : ClsRel μ h) (hH : HOk h) (x y z : Int32) : AMet l G 2 0 0 mtX12_letter [.ref (G.1 + 0), .int x, .int y, .int z] μ (qI (fun v μ' => v = letA h x y z ∧ PX μ h μ')) := by
  refine AMet.of (by decide) (Nat.le_of_ble_eq_true rfl) (fun X C hX hnm hq => ?_)
  have hS := hC.1.1.1
  obtain ⟨L, c, hL⟩ := hC.2.2.2
  have hg := hL.1
  have hR := hL.2.1
  have hd7 := hH.d7
  unfold letA at hq
  have no : ∀ q, (match inN x 2 with | some j => inN y (if j = 0 then (ldH h).2.2.1.length else (ldH h).2.2.2.1.length) | none => none) = none → q = nI 0 → AW l G X 0 0 36 [(0, .ref (G.1 + 0)), (1, .int x), (2, .int y), (3, .int z)] [.int q] μ := by
    intro q hn hq0
    subst hq0
    have hv : MR G X (qI (fun v μ' => v = -1 ∧ PX μ h μ')) := by
      cases h1 : inN x 2 with
      | none => rw [h1] at hq; exact hq
      | some j =>
        rw [h1] at hq hn
        dsimp only at hq hn
        rw [hn] at hq
        exact hq
    clear hq
    have hq := hv
    refine C.istore (lv' := [(0, _), (1, _), (2, _), (3, _), (4, _)]) dX12_letter_36 (nLt hX rfl) rfl ?_
    refine C.iload dX12_letter_38 4 rfl ?_
    refine C.if_eq 53 dX12_letter_40 rfl (fun hc40 => ?_) (fun hc40 => ?_)
    · refine C.iconst (-1) dX12_letter_53 (by decide) ?_
      refine C.iret hq dX12_letter_54 ?_
      exact ⟨rfl, hC.self⟩
    · exact absurd rfl hc40
  have main : ∀ j i, j < 2 → i < (if j = 0 then (ldH h).2.2.1.length else (ldH h).2.2.2.1.length) → x = nI j → y = nI i → inN x 2 = some j → inN y (if j = 0 then (ldH h).2.2.1.length else (ldH h).2.2.2.1.length) = some i → AW l G X 0 0 36 [(0, .ref (G.1 + 0)), (1, .int x), (2, .int y), (3, .int z)] [.int (nI 1)] μ := by
    intro j i hj hi ex ey h1 h2
    rw [h1] at hq
    dsimp only at hq
    rw [h2] at hq
    dsimp only at hq
    subst ex
    subst ey
    have hi6 : i < 6 := by
      by_cases q : j = 0
      · rw [if_pos q] at hi; omega
      · rw [if_neg q] at hi; omega
    have hnm : nmR (nmL (ldH h) j i) (mI μ (c (26 + j)) i) := by
      unfold nmL
      rcases (show j = 0 ∨ j = 1 by omega) with q | q
      · subst q
        rw [if_pos rfl] at hi ⊢
        exact (hR.2.2.2.1 i _ (getD_q hi (0, 0, 0))).2.2.2
      · subst q
        rw [if_neg (by decide)] at hi ⊢
        exact (hR.2.2.2.2.1 i _ (getD_q hi (0, 0, 0, 0))).2.2.2.1
    obtain ⟨ls, hls, e27, e32⟩ := hnm
    rw [e27] at hq
    obtain ⟨hn9, hnx⟩ := hR.1.2.2.2.2.2
    have hrow := hnx j hj
    refine C.istore (lv' := [(0, _), (1, _), (2, _), (3, _), (4, _)]) dX12_letter_36 (nLt hX rfl) rfl ?_
    refine C.iload dX12_letter_38 4 rfl ?_
    refine C.if_eq 53 dX12_letter_40 rfl (fun hc40 => ?_) (fun hc40 => ?_)
    · exact absurd hc40 (by decide)
    · refine C.iload_n dX12_letter_43 3 rfl ?_
      refine C.if_lt 53 dX12_letter_44 rfl (fun hc44 => ?_) (fun hc44 => ?_)
      · rw [inN_f (Or.inl hc44)] at hq
        refine C.iconst (-1) dX12_letter_53 (by decide) ?_
        refine C.iret hq dX12_letter_54 ?_
        exact ⟨rfl, hC.self⟩
      · refine C.iload_n dX12_letter_47 3 rfl ?_
        refine C.bipush (nI 6) dX12_letter_48 (by decide) ?_
        refine C.icmp_lt 55 dX12_letter_50 rfl (fun hc50 => ?_) (fun hc50 => ?_)
        · obtain ⟨k, hk, ek, e6⟩ := inN_t (x := z) (n := 6) (by decide) hc44 (Int32.not_le.mpr hc50)
          rw [e6] at hq
          subst ek
          dsimp only at hq
          refine C.aload_n dX12_letter_55 0 rfl ?_
          refine C.getO fX12_54 dX12_letter_56 hS.o0 hg ?_
          refine C.getA fX12_201 dX12_letter_59 hR.o (hR.r (by decide)) ?_
          refine C.iload_n dX12_letter_62 1 rfl ?_
          refine C.aald hn9 (Or.inr rfl) (n_in hj) (by rw [n_cl (by omega)]; exact hrow.1) dX12_letter_63 ?_
          refine C.iload_n dX12_letter_64 2 rfl ?_
          refine C.iald hrow.2 (n_in hi6) dX12_letter_65 ?_
          rw [n_cl, e32]
          refine C.iload_n dX12_letter_66 3 rfl ?_
          refine C.callSI lX12_205 dX12_letter_67 (kq_letterOf hls hk) rfl rfl (Nat.le_of_ble_eq_true rfl) (Nat.zero_le _) (Nat.zero_le _) (Nat.le_of_ble_eq_true rfl) (fun x67 μ67 h67 => ?_)
          obtain ⟨rfl, hμ⟩ := h67
          subst hμ
          refine C.iret hq dX12_letter_70 ?_
          exact ⟨by rw [letN_nm hls hk], hC.self⟩
        · rw [inN_f (n := 6) (Or.inr (Int32.not_lt.mp hc50))] at hq
          refine C.iconst (-1) dX12_letter_53 (by decide) ?_
          refine C.iret hq dX12_letter_54 ?_
          exact ⟨rfl, hC.self⟩
  have i0 : x = nI 0 → inN x 2 = some 0 := fun e => by rw [e]; rfl
  have i1 : x = nI 1 → inN x 2 = some 1 := fun e => by rw [e]; rfl
  have x01 : ¬ x = 0 → ¬ x = nI 1 → inN x 2 = none := fun q0 q1 => by
    cases hin : inN x 2 with
    | none => rfl
    | some o =>
      obtain ⟨ho, eo⟩ := inN_some (by decide) hin
      rcases (show o = 0 ∨ o = 1 by omega) with rfl | rfl
      · exact absurd eo q0
      · exact absurd eo q1
  refine C.iload_n dX12_letter_0 1 rfl ?_
  refine C.if_ne 15 dX12_letter_1 rfl (fun hc1 => ?_) (fun hc1 => ?_)
  · refine C.iload_n dX12_letter_15 1 rfl ?_
    refine C.iconst (nI 1) dX12_letter_16 (by decide) ?_
    refine C.icmp_ne 35 dX12_letter_17 rfl (fun hc17 => ?_) (fun hc17 => ?_)
    · refine C.iconst (nI 0) dX12_letter_35 (by decide) ?_
      first | exact absurd ((show x = nI 0 from hc1).symm.trans hc17) (by decide) | exact no _ (by rw [x01 hc1 hc17]) rfl | exact no _ (by rw [i1 hc17]; exact isS_f hc28) rfl | (obtain ⟨i, hz⟩ := isS_t hc28; obtain ⟨hi, ey⟩ := inN_some (by omega) hz; exact main 1 i (by decide) hi hc17 ey (i1 hc17) hz) | (obtain ⟨i, hz⟩ := isS_t hc12; obtain ⟨hi, ey⟩ := inN_some (by omega) hz; exact main 0 i (by decide) hi hc1 ey (i0 hc1) hz) | exact no _ (by rw [i0 hc1]; exact isS_f hc12) rfl
    · refine C.aload_n dX12_letter_20 0 rfl ?_
      refine C.getO fX12_54 dX12_letter_21 hS.o0 hg ?_
      refine C.iload_n dX12_letter_24 2 rfl ?_
      refine C.callVI lX12_198 dX12_letter_25 (kl_isWalker hR.o hR.2.1.2.1.2 (by omega) y) hR.o rfl rfl (Nat.le_of_ble_eq_true rfl) (Nat.zero_le _) (Nat.zero_le _) (Nat.le_of_ble_eq_true rfl) (fun x25 μ25 h25 => ?_)
      obtain ⟨rfl, hμ⟩ := h25
      subst hμ
      refine C.if_eq 35 dX12_letter_28 rfl (fun hc28 => ?_) (fun hc28 => ?_)
      · refine C.iconst (nI 0) dX12_letter_35 (by decide) ?_
        first | exact absurd ((show x = nI 0 from hc1).symm.trans hc17) (by decide) | exact no _ (by rw [x01 hc1 hc17]) rfl | exact no _ (by rw [i1 hc17]; exact isS_f hc28) rfl | (obtain ⟨i, hz⟩ := isS_t hc28; obtain ⟨hi, ey⟩ := inN_some (by omega) hz; exact main 1 i (by decide) hi hc17 ey (i1 hc17) hz) | (obtain ⟨i, hz⟩ := isS_t hc12; obtain ⟨hi, ey⟩ := inN_some (by omega) hz; exact main 0 i (by decide) hi hc1 ey (i0 hc1) hz) | exact no _ (by rw [i0 hc1]; exact isS_f hc12) rfl
      · refine C.iconst (nI 1) dX12_letter_31 (by decide) ?_
        refine C.goto 36 dX12_letter_32 rfl ?_
        first | exact absurd ((show x = nI 0 from hc1).symm.trans hc17) (by decide) | exact no _ (by rw [x01 hc1 hc17]) rfl | exact no _ (by rw [i1 hc17]; exact isS_f hc28) rfl | (obtain ⟨i, hz⟩ := isS_t hc28; obtain ⟨hi, ey⟩ := inN_some (by omega) hz; exact main 1 i (by decide) hi hc17 ey (i1 hc17) hz) | (obtain ⟨i, hz⟩ := isS_t hc12; obtain ⟨hi, ey⟩ := inN_some (by omega) hz; exact main 0 i (by decide) hi hc1 ey (i0 hc1) hz) | exact no _ (by rw [i0 hc1]; exact isS_f hc12) rfl
  · refine C.aload_n dX12_letter_4 0 rfl ?_
    refine C.getO fX12_54 dX12_letter_5 hS.o0 hg ?_
    refine C.iload_n dX12_letter_8 2 rfl ?_
    refine C.callVI lX12_195 dX12_letter_9 (kl_isBell hR.o hR.2.1.2.1.1 (by omega) y) hR.o rfl rfl (Nat.le_of_ble_eq_true rfl) (Nat.zero_le _) (Nat.zero_le _) (Nat.le_of_ble_eq_true rfl) (fun x9 μ9 h9 => ?_)
    obtain ⟨rfl, hμ⟩ := h9
    subst hμ
    refine C.if_ne 31 dX12_letter_12 rfl (fun hc12 => ?_) (fun hc12 => ?_)
    · refine C.iconst (nI 1) dX12_letter_31 (by decide) ?_
      refine C.goto 36 dX12_letter_32 rfl ?_
      first | exact absurd ((show x = nI 0 from hc1).symm.trans hc17) (by decide) | exact no _ (by rw [x01 hc1 hc17]) rfl | exact no _ (by rw [i1 hc17]; exact isS_f hc28) rfl | (obtain ⟨i, hz⟩ := isS_t hc28; obtain ⟨hi, ey⟩ := inN_some (by omega) hz; exact main 1 i (by decide) hi hc17 ey (i1 hc17) hz) | (obtain ⟨i, hz⟩ := isS_t hc12; obtain ⟨hi, ey⟩ := inN_some (by omega) hz; exact main 0 i (by decide) hi hc1 ey (i0 hc1) hz) | exact no _ (by rw [i0 hc1]; exact isS_f hc12) rfl
    · refine C.iload_n dX12_letter_15 1 rfl ?_
      refine C.iconst (nI 1) dX12_letter_16 (by decide) ?_
      refine C.icmp_ne 35 dX12_letter_17 rfl (fun hc17 => ?_) (fun hc17 => ?_)
      · refine C.iconst (nI 0) dX12_letter_35 (by decide) ?_
        first | exact absurd ((show x = nI 0 from hc1).symm.trans hc17) (by decide) | exact no _ (by rw [x01 hc1 hc17]) rfl | exact no _ (by rw [i1 hc17]; exact isS_f hc28) rfl | (obtain ⟨i, hz⟩ := isS_t hc28; obtain ⟨hi, ey⟩ := inN_some (by omega) hz; exact main 1 i (by decide) hi hc17 ey (i1 hc17) hz) | (obtain ⟨i, hz⟩ := isS_t hc12; obtain ⟨hi, ey⟩ := inN_some (by omega) hz; exact main 0 i (by decide) hi hc1 ey (i0 hc1) hz) | exact no _ (by rw [i0 hc1]; exact isS_f hc12) rfl
      · refine C.aload_n dX12_letter_20 0 rfl ?_
        refine C.getO fX12_54 dX12_letter_21 hS.o0 hg ?_
        refine C.iload_n dX12_letter_24 2 rfl ?_
        refine C.callVI lX12_198 dX12_letter_25 (kl_isWalker hR.o hR.2.1.2.1.2 (by omega) y) hR.o rfl rfl (Nat.le_of_ble_eq_true rfl) (Nat.zero_le _) (Nat.zero_le _) (Nat.le_of_ble_eq_true rfl) (fun x25 μ25 h25 => ?_)
        obtain ⟨rfl, hμ⟩ := h25
        subst hμ
        refine C.if_eq 35 dX12_letter_28 rfl (fun hc28 => ?_) (fun hc28 => ?_)
        · refine C.iconst (nI 0) dX12_letter_35 (by decide) ?_
          first | exact absurd ((show x = nI 0 from hc1).symm.trans hc17) (by decide) | exact no _ (by rw [x01 hc1 hc17]) rfl | exact no _ (by rw [i1 hc17]; exact isS_f hc28) rfl | (obtain ⟨i, hz⟩ := isS_t hc28; obtain ⟨hi, ey⟩ := inN_some (by omega) hz; exact main 1 i (by decide) hi hc17 ey (i1 hc17) hz) | (obtain ⟨i, hz⟩ := isS_t hc12; obtain ⟨hi, ey⟩ := inN_some (by omega) hz; exact main 0 i (by decide) hi hc1 ey (i0 hc1) hz) | exact no _ (by rw [i0 hc1]; exact isS_f hc12) rfl
        · refine C.iconst (nI 1) dX12_letter_31 (by decide) ?_
          refine C.goto 36 dX12_letter_32 rfl ?_
          first | exact absurd ((show x = nI 0 from hc1).symm.trans hc17) (by decide) | exact no _ (by rw [x01 hc1 hc17]) rfl | exact no _ (by rw [i1 hc17]; exact isS_f hc28) rfl | (obtain ⟨i, hz⟩ := isS_t hc28; obtain ⟨hi, ey⟩ := inN_some (by omega) hz; exact main 1 i (by decide) hi hc17 ey (i1 hc17) hz) | (obtain ⟨i, hz⟩ := isS_t hc12; obtain ⟨hi, ey⟩ := inN_some (by omega) hz; exact main 0 i (by decide) hi hc1 ey (i0 hc1) hz) | exact no _ (by rw [i0 hc1]; exact isS_f hc12) rfl
end KLT
