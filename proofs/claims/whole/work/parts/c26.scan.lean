/-! the class: words and numbers read -/
def SwF (μ μ' : Mm) : Prop := μ'.2 = μ.2 ∧ ∀ a k, ¬ (a = 3 ∧ (k = 2 ∨ k = 3 ∨ k = 5)) → mI μ' a k = mI μ a k
def sh5 (n : Nat) : Int32 := Int32.ofInt (30 - 5 * (n : Int))
section SWP
theorem sh5_s (n : Nat) : sh5 n + Int32.ofInt (-5) = sh5 (n + 1) := by
  unfold sh5
  rw [← Int32.ofInt_add]
  congr 1
  omega
theorem sh5_lo {n : Nat} (hn : n ≤ 6) : sh5 n = nI (30 - 5 * n) := by
  rcases (show n = 0 ∨ n = 1 ∨ n = 2 ∨ n = 3 ∨ n = 4 ∨ n = 5 ∨ n = 6 by omega) with rfl | rfl | rfl | rfl | rfl | rfl | rfl <;> decide
theorem sh5_neg {n : Nat} (h1 : 7 ≤ n) (h2 : n < 10000) : sh5 n < 0 := by
  rw [i_lt]
  unfold sh5
  rw [Int32.toInt_ofInt_of_le (by omega) (by omega)]
  have : (0 : Int32).toInt = 0 := by decide
  omega
theorem let_i {x : Nat} (h : isL x = true) : byS x - nI 97 + nI 1 = nI (x - 96) ∧ x - 96 < 32 ∧ byS x = nI x := by
  unfold isL at h
  simp only [Bool.and_eq_true, decide_eq_true_eq] at h
  have e := byS_lo (x := x) (by omega)
  refine ⟨?_, by omega, e⟩
  rw [e]
  have : ∀ k : Fin 26, nI (97 + k.val) - nI 97 + nI 1 = nI (1 + k.val) := by decide
  have := this ⟨x - 97, by omega⟩
  rw [show 97 + (x - 97) = x by omega, show 1 + (x - 97) = x - 96 by omega] at this
  exact this
theorem dig_i {x v : Nat} (h : isD x = true) (hv : v < 100000) : nI v * nI 10 + byS x - nI 48 = nI (10 * v + (x - 48)) := by
  unfold isD at h
  simp only [Bool.and_eq_true, decide_eq_true_eq] at h
  rw [byS_lo (by omega), pk_mul, nI_add, show v * 10 + x = 10 * v + (x - 48) + 48 by omega, ← nI_add]
  simp
theorem shl5 {x n : Nat} (hn : n < 6) (hx : x < 32) : nI x <<< (sh5 (n + 1) &&& 31) = nI (x * 2 ^ (5 * (5 - n))) := by
  rw [sh5_lo (by omega)]
  have h1 : nI (30 - 5 * (n + 1)) &&& 31 = nI (5 * (5 - n)) := by
    rcases (show n = 0 ∨ n = 1 ∨ n = 2 ∨ n = 3 ∨ n = 4 ∨ n = 5 by omega) with rfl | rfl | rfl | rfl | rfl | rfl <;> decide
  rw [h1]
  apply pk_shlN
  · rcases (show n = 0 ∨ n = 1 ∨ n = 2 ∨ n = 3 ∨ n = 4 ∨ n = 5 by omega) with rfl | rfl | rfl | rfl | rfl | rfl <;> decide
  · have : 2 ^ (5 * (5 - n)) ≤ 2 ^ 25 := Nat.pow_le_pow_right (by decide) (by omega)
    have := Nat.mul_le_mul (show x ≤ 31 by omega) this
    omega
end SWP
section KSC
variable {l : Launch} {G : Gm} {μ : Mm} {tp : List Nat}

theorem kq_isLetter {c : Nat} (hc : c < 256) : AMet l G 0 0 0 mtX8_isLetter [.int (nI c)] μ (qI (fun z μ' => z = bI (isL c) ∧ μ' = μ)) := by
  refine AMet.of (by decide) (Nat.le_of_ble_eq_true rfl) (fun X C hX hnm hq => ?_)
  have hL := nI_L hc
  refine C.iload_n dX8_isLetter_0 0 rfl ?_
  refine C.bipush (nI 97) dX8_isLetter_1 (by decide) ?_
  refine C.icmp_lt 16 dX8_isLetter_3 rfl (fun hc3 => ?_) (fun hc3 => ?_)
  · have hb : isL c = false := by cases h : isL c with | false => rfl | true => exact absurd (hL.mpr h).1 (Int32.not_le.mpr hc3)
    refine C.iconst (nI 0) dX8_isLetter_16 (by decide) ?_
    refine C.zret hq dX8_isLetter_17 (by decide) ?_
    exact ⟨by rw [hb]; rfl, rfl⟩
  · refine C.iload_n dX8_isLetter_6 0 rfl ?_
    refine C.bipush (nI 122) dX8_isLetter_7 (by decide) ?_
    refine C.icmp_gt 16 dX8_isLetter_9 rfl (fun hc9 => ?_) (fun hc9 => ?_)
    · have hb : isL c = false := by cases h : isL c with | false => rfl | true => exact absurd (hL.mpr h).2 (Int32.not_le.mpr hc9)
      refine C.iconst (nI 0) dX8_isLetter_16 (by decide) ?_
      refine C.zret hq dX8_isLetter_17 (by decide) ?_
      exact ⟨by rw [hb]; rfl, rfl⟩
    · have hb : isL c = true := hL.mp ⟨Int32.not_lt.mp hc3, Int32.not_lt.mp hc9⟩
      refine C.iconst (nI 1) dX8_isLetter_12 (by decide) ?_
      refine C.goto 17 dX8_isLetter_13 rfl ?_
      refine C.zret hq dX8_isLetter_17 (by decide) ?_
      exact ⟨by rw [hb]; rfl, rfl⟩
theorem kq_isDigit {c : Nat} (hc : c < 256) : AMet l G 0 0 0 mtX8_isDigit [.int (nI c)] μ (qI (fun z μ' => z = bI (isD c) ∧ μ' = μ)) := by
  refine AMet.of (by decide) (Nat.le_of_ble_eq_true rfl) (fun X C hX hnm hq => ?_)
  have hL := nI_D hc
  refine C.iload_n dX8_isDigit_0 0 rfl ?_
  refine C.bipush (nI 48) dX8_isDigit_1 (by decide) ?_
  refine C.icmp_lt 16 dX8_isDigit_3 rfl (fun hc3 => ?_) (fun hc3 => ?_)
  · have hb : isD c = false := by cases h : isD c with | false => rfl | true => exact absurd (hL.mpr h).1 (Int32.not_le.mpr hc3)
    refine C.iconst (nI 0) dX8_isDigit_16 (by decide) ?_
    refine C.zret hq dX8_isDigit_17 (by decide) ?_
    exact ⟨by rw [hb]; rfl, rfl⟩
  · refine C.iload_n dX8_isDigit_6 0 rfl ?_
    refine C.bipush (nI 57) dX8_isDigit_7 (by decide) ?_
    refine C.icmp_gt 16 dX8_isDigit_9 rfl (fun hc9 => ?_) (fun hc9 => ?_)
    · have hb : isD c = false := by cases h : isD c with | false => rfl | true => exact absurd (hL.mpr h).2 (Int32.not_le.mpr hc9)
      refine C.iconst (nI 0) dX8_isDigit_16 (by decide) ?_
      refine C.zret hq dX8_isDigit_17 (by decide) ?_
      exact ⟨by rw [hb]; rfl, rfl⟩
    · have hb : isD c = true := hL.mp ⟨Int32.not_lt.mp hc3, Int32.not_lt.mp hc9⟩
      refine C.iconst (nI 1) dX8_isDigit_12 (by decide) ?_
      refine C.goto 17 dX8_isDigit_13 rfl ?_
      refine C.zret hq dX8_isDigit_17 (by decide) ?_
      exact ⟨by rw [hb]; rfl, rfl⟩
theorem kq_scanWord (hS : ShC μ) (hT : CsT μ tp) {p : Nat} (hp : p ≤ tp.length) (h5 : mI μ 3 5 = nI p) : AMet l G 0 0 0 mtX8_scanWord [.ref (G.1 + 3)] μ (qV (fun μ' => SwF μ μ' ∧ mI μ' 3 2 = nI 1 ∧ mI μ' 3 3 = nI (nm32 (tkW (txL tp) tp.length p)) ∧ mI μ' 3 5 = nI (wl (txL tp) tp.length p))) := by
  refine AMet.of (by decide) (Nat.le_of_ble_eq_true rfl) (fun X C hX hnm hq => ?_)
  have hS0 := hS
  have hT0 := hT
  have h1600 := hT.2.1
  have hby : ∀ k, k < tp.length → mI μ 2 k = byS (txL tp k) ∧ txL tp k < 256 := fun k q => hT.2.2 k _ (txL_q q)
  have fin : ∀ (n : Nat) (x : Int32) (μ1 : Mm), p + n ≤ tp.length → SwF μ μ1 → mI μ1 3 2 = nI 1 → mI μ1 3 3 = nI (pk5 (tkW (txL tp) tp.length p) n) → mI μ1 3 5 = nI (p + n) → wl (txL tp) tp.length (p + n) = wl (txL tp) tp.length p → ¬ (p + n < tp.length ∧ isL (txL tp (p + n)) = true) → AW l G X 0 0 113 [(0, .ref (G.1 + 3)), (1, .int x)] [] μ1 := by
    intro n x μ1 hn hF m2 m3 m5 hw hno
    have hwl : wl (txL tp) tp.length p = p + n := by rw [← hw]; unfold wl; exact rn_stop hno
    refine C.vret hq dX8_scanWord_113 ?_
    exact ⟨hF, m2, by rw [m3, pk5_len _ n (by rw [tkW_len]; omega)], by rw [m5, hwl]⟩
  have loop : ∀ (j n : Nat) (μ1 : Mm), p + n + j = tp.length → SwF μ μ1 → mI μ1 3 2 = nI 1 → mI μ1 3 3 = nI (pk5 (tkW (txL tp) tp.length p) n) → mI μ1 3 5 = nI (p + n) → wl (txL tp) tp.length (p + n) = wl (txL tp) tp.length p → AW l G X 0 0 13 [(0, .ref (G.1 + 3)), (1, .int (sh5 n))] [] μ1 := by
    intro j
    induction j with
    | zero =>
      intro n μ1 hn hF m2 m3 m5 hw
      have hS : ShC μ1 := hS0.of (by rw [hF.1])
      have m1 : mI μ1 1 1 = nI tp.length := (hF.2 _ _ (by omega)).trans hT0.1
      refine C.aload_n dX8_scanWord_13 0 rfl ?_
      refine C.getI fX8_51 dX8_scanWord_14 hS.o3 ?_
      refine C.aload_n dX8_scanWord_17 0 rfl ?_
      refine C.getO fX8_9 dX8_scanWord_18 hS.o3 hS.r3_0 ?_
      refine C.getI fX8_64 dX8_scanWord_21 hS.o1 ?_
      rw [m5, m1]
      refine C.icmp_ge 113 dX8_scanWord_24 rfl (fun hc24 => ?_) (fun hc24 => ?_)
      · exact fin n _ μ1 (by omega) hF m2 m3 m5 hw (by omega)
      · exact absurd (n_nle hc24) (by omega)
    | succ j ih =>
      intro n μ1 hn hF m2 m3 m5 hw
      have hS : ShC μ1 := hS0.of (by rw [hF.1])
      have m1 : mI μ1 1 1 = nI tp.length := (hF.2 _ _ (by omega)).trans hT0.1
      have hlt : p + n < tp.length := by omega
      obtain ⟨b1, b2⟩ := hby (p + n) hlt
      have hb : mI μ1 2 (p + n) = byS (txL tp (p + n)) := (hF.2 _ _ (by omega)).trans b1
      have hLL := byS_L b2
      have nxt : isL (txL tp (p + n)) = true → ∀ v, v = nI (pk5 (tkW (txL tp) tp.length p) (n + 1)) → AW l G X 0 0 100 [(0, .ref (G.1 + 3)), (1, .int (sh5 (n + 1)))] [] (sI μ1 3 3 v) := by
        intro hL v hv
        subst hv
        have e5 : mI (sI μ1 3 3 (nI (pk5 (tkW (txL tp) tp.length p) (n + 1)))) 3 5 = nI (p + n) := by rw [mI_sI, if_neg (by omega)]; exact m5
        refine C.aload_n dX8_scanWord_100 0 rfl ?_
        refine C.dup dX8_scanWord_101 rfl ?_
        refine C.getI fX8_51 dX8_scanWord_102 hS.o3 ?_
        rw [e5]
        refine C.iconst (nI 1) dX8_scanWord_105 (by decide) ?_
        refine C.iadd dX8_scanWord_106 ?_
        rw [nI_add]
        refine C.putI fX8_51 (Or.inl rfl) dX8_scanWord_107 hS.o3 ?_
        refine C.goto 13 dX8_scanWord_110 rfl ?_
        refine ih (n + 1) _ (by omega) ⟨hF.1, fun a k q => ?_⟩ ?_ ?_ ?_ ?_
        · rw [mI_sI, if_neg (by omega), mI_sI, if_neg (by omega)]; exact hF.2 a k q
        · rw [mI_sI, if_neg (by omega), mI_sI, if_neg (by omega)]; exact m2
        · rw [mI_sI, if_neg (by omega), mI_sI, if_pos ⟨rfl, rfl⟩]
        · rw [mI_sI, if_pos ⟨rfl, rfl⟩]; rfl
        · rw [← hw]; unfold wl; rw [rn_step (f := fun q => isL (txL tp q)) hlt hL]; rfl
      refine C.aload_n dX8_scanWord_13 0 rfl ?_
      refine C.getI fX8_51 dX8_scanWord_14 hS.o3 ?_
      refine C.aload_n dX8_scanWord_17 0 rfl ?_
      refine C.getO fX8_9 dX8_scanWord_18 hS.o3 hS.r3_0 ?_
      refine C.getI fX8_64 dX8_scanWord_21 hS.o1 ?_
      rw [m5, m1]
      refine C.icmp_ge 113 dX8_scanWord_24 rfl (fun hc24 => ?_) (fun hc24 => ?_)
      · exact absurd (n_le hc24) (by omega)
      · refine C.aload_n dX8_scanWord_27 0 rfl ?_
        refine C.getO fX8_9 dX8_scanWord_28 hS.o3 hS.r3_0 ?_
        refine C.getA fX8_69 dX8_scanWord_31 hS.o1 hS.r1_0 ?_
        refine C.aload_n dX8_scanWord_34 0 rfl ?_
        refine C.getI fX8_51 dX8_scanWord_35 hS.o3 ?_
        rw [m5]
        refine C.bald hS.a2 (n_in (by omega)) dX8_scanWord_38 ?_
        rw [n_cl, hb]
        refine C.bipush (nI 97) dX8_scanWord_39 (by decide) ?_
        refine C.icmp_lt 113 dX8_scanWord_41 rfl (fun hc41 => ?_) (fun hc41 => ?_)
        · exact fin n _ μ1 (by omega) hF m2 m3 m5 hw (fun z => absurd (hLL.mpr z.2).1 (Int32.not_le.mpr hc41))
        · refine C.aload_n dX8_scanWord_44 0 rfl ?_
          refine C.getO fX8_9 dX8_scanWord_45 hS.o3 hS.r3_0 ?_
          refine C.getA fX8_69 dX8_scanWord_48 hS.o1 hS.r1_0 ?_
          refine C.aload_n dX8_scanWord_51 0 rfl ?_
          refine C.getI fX8_51 dX8_scanWord_52 hS.o3 ?_
          rw [m5]
          refine C.bald hS.a2 (n_in (by omega)) dX8_scanWord_55 ?_
          rw [n_cl, hb]
          refine C.bipush (nI 122) dX8_scanWord_56 (by decide) ?_
          refine C.icmp_gt 113 dX8_scanWord_58 rfl (fun hc58 => ?_) (fun hc58 => ?_)
          · exact fin n _ μ1 (by omega) hF m2 m3 m5 hw (fun z => absurd (hLL.mpr z.2).2 (Int32.not_le.mpr hc58))
          · have hL : isL (txL tp (p + n)) = true := hLL.mp ⟨Int32.not_lt.mp hc41, Int32.not_lt.mp hc58⟩
            obtain ⟨li, l32, -⟩ := let_i hL
            have hwn : p + n < wl (txL tp) tp.length p := by
              rw [← hw]; unfold wl; rw [rn_step (f := fun q => isL (txL tp q)) hlt hL]
              have := rn_le (f := fun q => isL (txL tp q)) (e := tp.length) (p := p + n + 1) (by omega)
              omega
            have hgd := tkW_get hwn
            refine C.iinc (lv' := [(0, _), (1, _)]) _ dX8_scanWord_61 1 rfl rfl (nLt hX rfl) rfl ?_
            rw [sh5_s]
            refine C.aload_n dX8_scanWord_64 0 rfl ?_
            refine C.dup dX8_scanWord_65 rfl ?_
            refine C.getI fX8_89 dX8_scanWord_66 hS.o3 ?_
            rw [m3]
            refine C.iload_n dX8_scanWord_69 1 rfl ?_
            refine C.if_lt 95 dX8_scanWord_70 rfl (fun hc70 => ?_) (fun hc70 => ?_)
            · have hn6 : 6 ≤ n := Decidable.byContradiction (fun z => by
                rw [sh5_lo (by omega)] at hc70
                exact absurd hc70 (nI_pos (by omega)))
              refine C.iconst (nI 0) dX8_scanWord_95 (by decide) ?_
              refine C.ior dX8_scanWord_96 ?_
              first | rw [pk5_or _ (tkW_lt p) hn6] | rw [fa_or, Nat.or_zero]
              refine C.putI fX8_89 (Or.inl rfl) dX8_scanWord_97 hS.o3 ?_
              first | exact nxt hL _ rfl | exact nxt hL _ (by rw [pk5_ge _ n hn6, pk5_ge _ (n + 1) (by omega)])
            · have hn6 : n < 6 := Decidable.byContradiction (fun z => absurd (sh5_neg (n := n + 1) (by omega) (by omega)) hc70)
              refine C.aload_n dX8_scanWord_73 0 rfl ?_
              refine C.getO fX8_9 dX8_scanWord_74 hS.o3 hS.r3_0 ?_
              refine C.getA fX8_69 dX8_scanWord_77 hS.o1 hS.r1_0 ?_
              refine C.aload_n dX8_scanWord_80 0 rfl ?_
              refine C.getI fX8_51 dX8_scanWord_81 hS.o3 ?_
              rw [m5]
              refine C.bald hS.a2 (n_in (by omega)) dX8_scanWord_84 ?_
              rw [n_cl, hb]
              refine C.bipush (nI 97) dX8_scanWord_85 (by decide) ?_
              refine C.isub dX8_scanWord_87 ?_
              refine C.iconst (nI 1) dX8_scanWord_88 (by decide) ?_
              refine C.iadd dX8_scanWord_89 ?_
              rw [li]
              refine C.iload_n dX8_scanWord_90 1 rfl ?_
              refine C.ishl dX8_scanWord_91 ?_
              rw [shl5 hn6 l32, ← hgd]
              refine C.goto 96 dX8_scanWord_92 rfl ?_
              refine C.ior dX8_scanWord_96 ?_
              first | rw [pk5_or _ (tkW_lt p) hn6] | rw [fa_or, Nat.or_zero]
              refine C.putI fX8_89 (Or.inl rfl) dX8_scanWord_97 hS.o3 ?_
              first | exact nxt hL _ rfl | exact nxt hL _ (by rw [pk5_ge _ n hn6, pk5_ge _ (n + 1) (by omega)])
  refine C.aload_n dX8_scanWord_0 0 rfl ?_
  refine C.iconst (nI 1) dX8_scanWord_1 (by decide) ?_
  refine C.putI fX8_48 (Or.inl rfl) dX8_scanWord_2 hS.o3 ?_
  refine C.aload_n dX8_scanWord_5 0 rfl ?_
  refine C.iconst (nI 0) dX8_scanWord_6 (by decide) ?_
  refine C.putI fX8_89 (Or.inl rfl) dX8_scanWord_7 hS.o3 ?_
  refine C.bipush (nI 30) dX8_scanWord_10 (by decide) ?_
  refine C.istore_n (lv' := [(0, _), (1, _)]) dX8_scanWord_12 (nLt hX rfl) rfl ?_
  have e5 : mI (sI (sI μ 3 2 (nI 1)) 3 3 (nI 0)) 3 5 = nI (p + 0) := by rw [mI_sI, if_neg (by omega), mI_sI, if_neg (by omega)]; exact h5
  have hgo := loop (tp.length - p) 0 (sI (sI μ 3 2 (nI 1)) 3 3 (nI 0)) (by omega) ⟨rfl, fun a k q => by rw [mI_sI, if_neg (by omega), mI_sI, if_neg (by omega)]⟩ (by rw [mI_sI, if_neg (by omega), mI_sI, if_pos ⟨rfl, rfl⟩]) (by rw [mI_sI, if_pos ⟨rfl, rfl⟩]; rfl) e5 rfl
  exact hgo
theorem kq_scanDigits (hS : ShC μ) (hT : CsT μ tp) {p : Nat} (hp : p ≤ tp.length) (h4 : mI μ 3 4 = nI p) (h5 : mI μ 3 5 = nI p) : AMet l G 0 0 0 mtX8_scanDigits [.ref (G.1 + 3)] μ (qV (fun μ' => SwF μ μ' ∧ mI μ' 3 2 = nI 2 ∧ mI μ' 3 3 = nI (dval (txL tp) p (min 4 (dl (txL tp) tp.length p - p))) ∧ mI μ' 3 5 = nI (dl (txL tp) tp.length p))) := by
  refine AMet.of (by decide) (Nat.le_of_ble_eq_true rfl) (fun X C hX hnm hq => ?_)
  have hS0 := hS
  have hT0 := hT
  have h1600 := hT.2.1
  have hby : ∀ k, k < tp.length → mI μ 2 k = byS (txL tp k) ∧ txL tp k < 256 := fun k q => hT.2.2 k _ (txL_q q)
  have fin : ∀ (n : Nat) (μ1 : Mm), p + n ≤ tp.length → SwF μ μ1 → mI μ1 3 2 = nI 2 → mI μ1 3 3 = nI (dval (txL tp) p (min 4 n)) → mI μ1 3 5 = nI (p + n) → dl (txL tp) tp.length (p + n) = dl (txL tp) tp.length p → ¬ (p + n < tp.length ∧ isD (txL tp (p + n)) = true) → AW l G X 0 0 111 [(0, .ref (G.1 + 3))] [] μ1 := by
    intro n μ1 hn hF m2 m3 m5 hw hno
    have hwl : dl (txL tp) tp.length p = p + n := by rw [← hw]; unfold dl; exact rn_stop hno
    refine C.vret hq dX8_scanDigits_111 ?_
    exact ⟨hF, m2, by rw [m3, hwl, Nat.add_sub_cancel_left], by rw [m5, hwl]⟩
  have loop : ∀ (j n : Nat) (μ1 : Mm), p + n + j = tp.length → SwF μ μ1 → mI μ1 3 2 = nI 2 → mI μ1 3 3 = nI (dval (txL tp) p (min 4 n)) → dval (txL tp) p (min 4 n) < 10000 → mI μ1 3 5 = nI (p + n) → dl (txL tp) tp.length (p + n) = dl (txL tp) tp.length p → (∀ i, i < n → txL tp (p + i) ≤ 57) → AW l G X 0 0 10 [(0, .ref (G.1 + 3))] [] μ1 := by
    intro j
    induction j with
    | zero =>
      intro n μ1 hn hF m2 m3 mv m5 hw _
      have hS : ShC μ1 := hS0.of (by rw [hF.1])
      have m1 : mI μ1 1 1 = nI tp.length := (hF.2 _ _ (by omega)).trans hT0.1
      refine C.aload_n dX8_scanDigits_10 0 rfl ?_
      refine C.getI fX8_51 dX8_scanDigits_11 hS.o3 ?_
      refine C.aload_n dX8_scanDigits_14 0 rfl ?_
      refine C.getO fX8_9 dX8_scanDigits_15 hS.o3 hS.r3_0 ?_
      refine C.getI fX8_64 dX8_scanDigits_18 hS.o1 ?_
      rw [m5, m1]
      refine C.icmp_ge 111 dX8_scanDigits_21 rfl (fun hc21 => ?_) (fun hc21 => ?_)
      · exact fin n μ1 (by omega) hF m2 m3 m5 hw (by omega)
      · exact absurd (n_nle hc21) (by omega)
    | succ j ih =>
      intro n μ1 hn hF m2 m3 mv m5 hw h57
      have hS : ShC μ1 := hS0.of (by rw [hF.1])
      have m1 : mI μ1 1 1 = nI tp.length := (hF.2 _ _ (by omega)).trans hT0.1
      have m4 : mI μ1 3 4 = nI p := (hF.2 _ _ (by omega)).trans h4
      have hlt : p + n < tp.length := by omega
      obtain ⟨b1, b2⟩ := hby (p + n) hlt
      have hb : mI μ1 2 (p + n) = byS (txL tp (p + n)) := (hF.2 _ _ (by omega)).trans b1
      have hLL := byS_D b2
      have hsub : nI (p + n) - nI p = nI n := by rw [Nat.add_comm, ← nI_add]; simp
      have nxt : isD (txL tp (p + n)) = true → ∀ μ2, SwF μ μ2 → mI μ2 3 2 = nI 2 → mI μ2 3 3 = nI (dval (txL tp) p (min 4 (n + 1))) → mI μ2 3 5 = nI (p + n) → AW l G X 0 0 98 [(0, .ref (G.1 + 3))] [] μ2 := by
        intro hL μ2 hF2 q2 q3 q5
        have hS : ShC μ2 := hS0.of (by rw [hF2.1])
        have h57' : ∀ i, i < n + 1 → txL tp (p + i) ≤ 57 := fun i hi => by
          by_cases e : i = n
          · subst e
            unfold isD at hL
            simp only [Bool.and_eq_true, decide_eq_true_eq] at hL
            exact hL.2
          · exact h57 i (by omega)
        have hdl := dval_lt (tx := txL tp) (q := p) (min 4 (n + 1)) (fun i hi => h57' i (by omega))
        have h10 : 10 ^ (min 4 (n + 1)) ≤ 10 ^ 4 := Nat.pow_le_pow_right (by decide) (by omega)
        refine C.aload_n dX8_scanDigits_98 0 rfl ?_
        refine C.dup dX8_scanDigits_99 rfl ?_
        refine C.getI fX8_51 dX8_scanDigits_100 hS.o3 ?_
        rw [q5]
        refine C.iconst (nI 1) dX8_scanDigits_103 (by decide) ?_
        refine C.iadd dX8_scanDigits_104 ?_
        rw [nI_add]
        refine C.putI fX8_51 (Or.inl rfl) dX8_scanDigits_105 hS.o3 ?_
        refine C.goto 10 dX8_scanDigits_108 rfl ?_
        refine ih (n + 1) _ (by omega) ⟨hF2.1, fun a k q => ?_⟩ ?_ ?_ (by omega) ?_ ?_ h57'
        · rw [mI_sI, if_neg (by omega)]; exact hF2.2 a k q
        · rw [mI_sI, if_neg (by omega)]; exact q2
        · rw [mI_sI, if_neg (by omega)]; exact q3
        · rw [mI_sI, if_pos ⟨rfl, rfl⟩]; rfl
        · rw [← hw]; unfold dl; rw [rn_step (f := fun q => isD (txL tp q)) hlt hL]; rfl
      refine C.aload_n dX8_scanDigits_10 0 rfl ?_
      refine C.getI fX8_51 dX8_scanDigits_11 hS.o3 ?_
      refine C.aload_n dX8_scanDigits_14 0 rfl ?_
      refine C.getO fX8_9 dX8_scanDigits_15 hS.o3 hS.r3_0 ?_
      refine C.getI fX8_64 dX8_scanDigits_18 hS.o1 ?_
      rw [m5, m1]
      refine C.icmp_ge 111 dX8_scanDigits_21 rfl (fun hc21 => ?_) (fun hc21 => ?_)
      · exact absurd (n_le hc21) (by omega)
      · refine C.aload_n dX8_scanDigits_24 0 rfl ?_
        refine C.getO fX8_9 dX8_scanDigits_25 hS.o3 hS.r3_0 ?_
        refine C.getA fX8_69 dX8_scanDigits_28 hS.o1 hS.r1_0 ?_
        refine C.aload_n dX8_scanDigits_31 0 rfl ?_
        refine C.getI fX8_51 dX8_scanDigits_32 hS.o3 ?_
        rw [m5]
        refine C.bald hS.a2 (n_in (by omega)) dX8_scanDigits_35 ?_
        rw [n_cl, hb]
        refine C.bipush (nI 48) dX8_scanDigits_36 (by decide) ?_
        refine C.icmp_lt 111 dX8_scanDigits_38 rfl (fun hc38 => ?_) (fun hc38 => ?_)
        · exact fin n μ1 (by omega) hF m2 m3 m5 hw (fun z => absurd (hLL.mpr z.2).1 (Int32.not_le.mpr hc38))
        · refine C.aload_n dX8_scanDigits_41 0 rfl ?_
          refine C.getO fX8_9 dX8_scanDigits_42 hS.o3 hS.r3_0 ?_
          refine C.getA fX8_69 dX8_scanDigits_45 hS.o1 hS.r1_0 ?_
          refine C.aload_n dX8_scanDigits_48 0 rfl ?_
          refine C.getI fX8_51 dX8_scanDigits_49 hS.o3 ?_
          rw [m5]
          refine C.bald hS.a2 (n_in (by omega)) dX8_scanDigits_52 ?_
          rw [n_cl, hb]
          refine C.bipush (nI 57) dX8_scanDigits_53 (by decide) ?_
          refine C.icmp_gt 111 dX8_scanDigits_55 rfl (fun hc55 => ?_) (fun hc55 => ?_)
          · exact fin n μ1 (by omega) hF m2 m3 m5 hw (fun z => absurd (hLL.mpr z.2).2 (Int32.not_le.mpr hc55))
          · have hL : isD (txL tp (p + n)) = true := hLL.mp ⟨Int32.not_lt.mp hc38, Int32.not_lt.mp hc55⟩
            refine C.aload_n dX8_scanDigits_58 0 rfl ?_
            refine C.getI fX8_51 dX8_scanDigits_59 hS.o3 ?_
            refine C.aload_n dX8_scanDigits_62 0 rfl ?_
            refine C.getI fX8_57 dX8_scanDigits_63 hS.o3 ?_
            rw [m5, m4]
            refine C.isub dX8_scanDigits_66 ?_
            rw [hsub]
            refine C.iconst (nI 4) dX8_scanDigits_67 (by decide) ?_
            refine C.icmp_ge 98 dX8_scanDigits_68 rfl (fun hc68 => ?_) (fun hc68 => ?_)
            · have h68 := n_le hc68 (by omega) (by omega)
              have e4 : min 4 (n + 1) = min 4 n := by omega
              exact nxt hL μ1 hF m2 (by rw [e4]; exact m3) m5
            · have h68 := n_nle hc68 (by omega) (by omega)
              have e4 : min 4 (n + 1) = n + 1 := by omega
              have e5 : min 4 n = n := by omega
              rw [e5] at m3 mv
              refine C.aload_n dX8_scanDigits_71 0 rfl ?_
              refine C.aload_n dX8_scanDigits_72 0 rfl ?_
              refine C.getI fX8_89 dX8_scanDigits_73 hS.o3 ?_
              rw [m3]
              refine C.bipush (nI 10) dX8_scanDigits_76 (by decide) ?_
              refine C.imul dX8_scanDigits_78 ?_
              refine C.aload_n dX8_scanDigits_79 0 rfl ?_
              refine C.getO fX8_9 dX8_scanDigits_80 hS.o3 hS.r3_0 ?_
              refine C.getA fX8_69 dX8_scanDigits_83 hS.o1 hS.r1_0 ?_
              refine C.aload_n dX8_scanDigits_86 0 rfl ?_
              refine C.getI fX8_51 dX8_scanDigits_87 hS.o3 ?_
              rw [m5]
              refine C.bald hS.a2 (n_in (by omega)) dX8_scanDigits_90 ?_
              rw [n_cl, hb]
              refine C.iadd dX8_scanDigits_91 ?_
              refine C.bipush (nI 48) dX8_scanDigits_92 (by decide) ?_
              refine C.isub dX8_scanDigits_94 ?_
              rw [dig_i hL (by omega)]
              refine C.putI fX8_89 (Or.inl rfl) dX8_scanDigits_95 hS.o3 ?_
              refine nxt hL _ ⟨hF.1, fun a k q => by rw [mI_sI, if_neg (by omega)]; exact hF.2 a k q⟩ (by rw [mI_sI, if_neg (by omega)]; exact m2) (by rw [mI_sI, if_pos ⟨rfl, rfl⟩, e4]; rfl) (by rw [mI_sI, if_neg (by omega)]; exact m5)
  refine C.aload_n dX8_scanDigits_0 0 rfl ?_
  refine C.iconst (nI 2) dX8_scanDigits_1 (by decide) ?_
  refine C.putI fX8_48 (Or.inl rfl) dX8_scanDigits_2 hS.o3 ?_
  refine C.aload_n dX8_scanDigits_5 0 rfl ?_
  refine C.iconst (nI 0) dX8_scanDigits_6 (by decide) ?_
  refine C.putI fX8_89 (Or.inl rfl) dX8_scanDigits_7 hS.o3 ?_
  have e5 : mI (sI (sI μ 3 2 (nI 2)) 3 3 (nI 0)) 3 5 = nI (p + 0) := by rw [mI_sI, if_neg (by omega), mI_sI, if_neg (by omega)]; exact h5
  exact loop (tp.length - p) 0 (sI (sI μ 3 2 (nI 2)) 3 3 (nI 0)) (by omega) ⟨rfl, fun a k q => by rw [mI_sI, if_neg (by omega), mI_sI, if_neg (by omega)]⟩ (by rw [mI_sI, if_neg (by omega), mI_sI, if_pos ⟨rfl, rfl⟩]) (by rw [mI_sI, if_pos ⟨rfl, rfl⟩]; rfl) (show 0 < 10000 by decide) e5 rfl (fun i q => absurd q (Nat.not_lt_zero i))
end KSC
