/-! the class: a State begins, is told; the Past -/
def SfF (b : Nat) (μ μ' : Mm) : Prop := μ'.2 = μ.2 ∧ ∀ x k, ¬ (b ≤ x ∧ x ≤ b + 5) → mI μ' x k = mI μ x k
theorem packT_i {n h w k : Nat} (hn : n < 10000) (hh : h < 16) (hw : w < 8) (hk : k < 2) : ((nI n <<< (nI 8 &&& 31) ||| nI h <<< (nI 4 &&& 31)) ||| nI w <<< (nI 1 &&& 31)) ||| nI k = nI (packT (n, h, w, k)) := by
  rw [pk_shlN (n := n) (nI 8 &&& 31) 8 (by decide) (by omega), pk_shlN (n := h) (nI 4 &&& 31) 4 (by decide) (by omega), pk_shlN (n := w) (nI 1 &&& 31) 1 (by decide) (by omega)]
  rw [show n * 2 ^ 8 = 2 ^ 8 * n by omega, fa_or_sum n (show h * 2 ^ 4 < 2 ^ 8 by omega), show 2 ^ 8 * n + h * 2 ^ 4 = 2 ^ 4 * (16 * n + h) by omega, fa_or_sum (16 * n + h) (show w * 2 ^ 1 < 2 ^ 4 by omega), show 2 ^ 4 * (16 * n + h) + w * 2 ^ 1 = 2 ^ 1 * (8 * (16 * n + h) + w) by omega, fa_or_sum (8 * (16 * n + h) + w) (show k < 2 ^ 1 by omega)]
  show nI _ = nI (n * 256 + h * 16 + w * 2 + k)
  congr 1
  omega
section KTL
variable {l : Launch} {G : Gm} {μ : Mm} {L b : Nat} {c : Lc} {d : Ld} {S : St}
theorem ks_begin (hO : StO μ b) (hb : b = 40 ∨ b = 46) (hR : LdR μ L c d) (h6 : d.2.2.2.1.length ≤ 6) : AMet l G 0 0 0 mtX10_begin [.ref (G.1 + b), .ref (G.1 + L)] μ (qV (fun μ' => CsN μ' b (st0 d) ∧ SfF b μ μ')) := by
  refine AMet.of (by decide) (Nat.le_of_ble_eq_true rfl) (fun X C hX hnm hq => ?_)
  have hO0 := hO
  have hI7 := hR.1.2.2.1 7 (by decide) (by decide)
  have hA7 := hR.1.2.2.2.1.2.2.2.2
  have loop : ∀ (n i : Nat) (μ1 : Mm), i + n = 6 → (μ1.2 = μ.2 ∧ (∀ x k, ¬ (b < x ∧ x ≤ b + 4) → mI μ1 x k = mI μ x k) ∧ ∀ k, k < i → mI μ1 (b + 1) k = mI μ (c 7) k ∧ mI μ1 (b + 2) k = nI 0 ∧ mI μ1 (b + 3) k = nI 0 ∧ mI μ1 (b + 4) k = nI 0) → AW l G X 0 0 2 [(0, .ref (G.1 + b)), (1, .ref (G.1 + L)), (2, .int (nI i))] [] μ1 := by
    intro n
    induction n with
    | zero =>
      intro i μ1 hi hc
      have : i = 6 := by omega
      subst this
      obtain ⟨e, e2, e3⟩ := hc
      have hO : StO μ1 b := hO0.of (by rw [e])
      refine C.iload_n dX10_begin_2 2 rfl ?_
      refine C.bipush (nI 6) dX10_begin_3 (by decide) ?_
      refine C.icmp_ge 47 dX10_begin_5 rfl (fun hc5 => ?_) (fun hc5 => ?_)
      · refine C.aload_n dX10_begin_47 0 rfl ?_
        refine C.iconst (nI 0) dX10_begin_48 (by decide) ?_
        refine C.putI fX10_30 (Or.inl rfl) dX10_begin_49 hO.o ?_
        refine C.aload_n dX10_begin_52 0 rfl ?_
        refine C.iconst (nI 0) dX10_begin_53 (by decide) ?_
        refine C.putI fX10_34 (Or.inl rfl) dX10_begin_54 hO.o ?_
        refine C.aload_n dX10_begin_57 0 rfl ?_
        refine C.iconst (nI 0) dX10_begin_58 (by decide) ?_
        refine C.putI fX10_37 (Or.inl rfl) dX10_begin_59 hO.o ?_
        refine C.aload_n dX10_begin_62 0 rfl ?_
        refine C.iconst (nI 0) dX10_begin_63 (by decide) ?_
        refine C.putI fX10_40 (Or.inl rfl) dX10_begin_64 hO.o ?_
        refine C.vret hq dX10_begin_67 ?_
        refine ⟨⟨⟨by simp [mI_sI, st0], by simp [mI_sI, st0]⟩, fun i x q => ?_, fun i _ q => ?_, 0, by decide, by simp [mI_sI], by simp [mI_sI, st0], by simp [st0], fun i x q => by simp [st0] at q⟩, e, fun x k q => ?_⟩
        · have hq : (d.2.2.2.1.map (fun x => ((x.2.2.2, 0, 0, 0) : Wk)))[i]? = some x := q
          rw [List.getElem?_map] at hq
          obtain ⟨y, hy, hx⟩ := Option.map_eq_some_iff.mp hq
          have hi6 : i < 6 := Nat.lt_of_lt_of_le (q_lt hy) h6
          obtain ⟨w1, w2, w3, w4⟩ := e3 i hi6
          have hm := (hR.2.2.2.2.1 i y hy).2.2.1
          rw [← hx]
          refine ⟨hi6, ?_, ?_, ?_, ?_⟩
          · simp only [mI_sI]; rw [if_neg (by omega), if_neg (by omega), if_neg (by omega), if_neg (by omega), w1]; exact hm
          · simp only [mI_sI]; rw [if_neg (by omega), if_neg (by omega), if_neg (by omega), if_neg (by omega)]; exact w2
          · simp only [mI_sI]; rw [if_neg (by omega), if_neg (by omega), if_neg (by omega), if_neg (by omega)]; exact w3
          · simp only [mI_sI]; rw [if_neg (by omega), if_neg (by omega), if_neg (by omega), if_neg (by omega)]; exact w4
        · obtain ⟨w1, w2, w3, w4⟩ := e3 i q
          refine ⟨?_, ?_⟩
          · simp only [mI_sI]; rw [if_neg (by omega), if_neg (by omega), if_neg (by omega), if_neg (by omega)]; exact w3
          · simp only [mI_sI]; rw [if_neg (by omega), if_neg (by omega), if_neg (by omega), if_neg (by omega)]; exact w4
        · simp only [mI_sI]
          rw [if_neg (by omega), if_neg (by omega), if_neg (by omega), if_neg (by omega)]
          exact e2 x k (by omega)
      · exact absurd (n_nle hc5) (by decide)
    | succ n ih =>
      intro i μ1 hi hc
      obtain ⟨e, e2, e3⟩ := hc
      have hO : StO μ1 b := hO0.of (by rw [e])
      have hA71 : isA μ1 (c 7) 0 6 := hA7.of (by rw [e])
      have hLo : isO μ1 L 2 := hR.o.of (by rw [e])
      have hLr : mR μ1 L 7 = some (c 7) := mR.of (hR.r (by decide)) (by rw [e])
      have h7 : mI μ1 (c 7) i = mI μ (c 7) i := e2 _ _ (by unfold InL at hI7; omega)
      refine C.iload_n dX10_begin_2 2 rfl ?_
      refine C.bipush (nI 6) dX10_begin_3 (by decide) ?_
      refine C.icmp_ge 47 dX10_begin_5 rfl (fun hc5 => ?_) (fun hc5 => ?_)
      · exact absurd (n_le hc5) (by omega)
      · refine C.aload_n dX10_begin_8 0 rfl ?_
        refine C.getA fX10_9 dX10_begin_9 hO.o hO.r0 ?_
        refine C.iload_n dX10_begin_12 2 rfl ?_
        refine C.aload_n dX10_begin_13 1 rfl ?_
        refine C.getA fX10_27 dX10_begin_14 hLo hLr ?_
        refine C.iload_n dX10_begin_17 2 rfl ?_
        refine C.iald hA71 (n_in (by omega)) dX10_begin_18 ?_
        rw [n_cl, h7]
        refine C.iast hO.a0 (n_in (by omega)) dX10_begin_19 ?_
        rw [n_cl]
        refine C.aload_n dX10_begin_20 0 rfl ?_
        refine C.getA fX10_15 dX10_begin_21 hO.o hO.r1 ?_
        refine C.iload_n dX10_begin_24 2 rfl ?_
        refine C.iconst (nI 0) dX10_begin_25 (by decide) ?_
        refine C.iast hO.a1 (n_in (by omega)) dX10_begin_26 ?_
        rw [n_cl]
        refine C.aload_n dX10_begin_27 0 rfl ?_
        refine C.getA fX10_18 dX10_begin_28 hO.o hO.r2 ?_
        refine C.iload_n dX10_begin_31 2 rfl ?_
        refine C.iconst (nI 0) dX10_begin_32 (by decide) ?_
        refine C.iast hO.a2 (n_in (by omega)) dX10_begin_33 ?_
        rw [n_cl]
        refine C.aload_n dX10_begin_34 0 rfl ?_
        refine C.getA fX10_21 dX10_begin_35 hO.o hO.r3 ?_
        refine C.iload_n dX10_begin_38 2 rfl ?_
        refine C.iconst (nI 0) dX10_begin_39 (by decide) ?_
        refine C.iast hO.a3 (n_in (by omega)) dX10_begin_40 ?_
        rw [n_cl]
        refine C.iinc (lv' := [(0, _), (1, _), (2, _)]) _ dX10_begin_41 2 rfl rfl (nLt hX rfl) rfl ?_
        refine C.goto 2 dX10_begin_44 rfl ?_
        have hgo := ih (i + 1) (sI (sI (sI (sI μ1 (b + 1) i (mI μ (c 7) i)) (b + 2) i (nI 0)) (b + 3) i (nI 0)) (b + 4) i (nI 0)) (by omega) ⟨e, fun x k q => by simp only [mI_sI]; rw [if_neg (by omega), if_neg (by omega), if_neg (by omega), if_neg (by omega)]; exact e2 x k q, fun k q => by
          by_cases hk : k = i
          · subst hk; simp [mI_sI]
          · simp [mI_sI, hk]; exact e3 k (by omega)⟩
        rw [← nI_1] at hgo
        exact hgo
  refine C.iconst (nI 0) dX10_begin_0 (by decide) ?_
  refine C.istore_n (lv' := [(0, _), (1, _), (2, _)]) dX10_begin_1 (nLt hX rfl) rfl ?_
  exact loop 6 0 μ rfl ⟨rfl, fun _ _ _ => rfl, fun k q => absurd q (by omega)⟩
theorem ks_tell (hO : StO μ b) (hN : CsN μ b S) (hn : S.1.1 < 10000) {hour w kp : Nat} (hh : hour < 16) (hw : w < 8) (hk : kp < 2) : AMet l G 0 0 0 mtX10_tell [.ref (G.1 + b), .int (nI hour), .int (nI w), .int (nI kp)] μ (qV (fun μ' => CsN μ' b (S.1, S.2.1, tellF false S.2.2 (S.1.1, hour, w, kp)) ∧ SfF b μ μ')) := by
  refine AMet.of (by decide) (Nat.le_of_ble_eq_true rfl) (fun X C hX hnm hq => ?_)
  obtain ⟨⟨n1, n2⟩, n3, n4, f, n5, n6, n7, n8, n9⟩ := hN
  have e8 : mI (sI μ (b + 5) ((f + S.2.2.length) % 40) (nI (packT (S.1.1, hour, w, kp)))) b 8 = nI S.2.2.length := by rw [mI_sI, if_neg (by omega)]; exact n7
  have e7 : mI (sI μ (b + 5) ((f + S.2.2.length) % 40) (nI (packT (S.1.1, hour, w, kp)))) b 7 = nI f := by rw [mI_sI, if_neg (by omega)]; exact n6
  refine C.aload_n dX10_tell_0 0 rfl ?_
  refine C.getA fX10_24 dX10_tell_1 hO.o hO.r4 ?_
  refine C.aload_n dX10_tell_4 0 rfl ?_
  refine C.getI fX10_37 dX10_tell_5 hO.o ?_
  rw [n6]
  refine C.aload_n dX10_tell_8 0 rfl ?_
  refine C.getI fX10_40 dX10_tell_9 hO.o ?_
  rw [n7]
  refine C.iadd dX10_tell_12 ?_
  rw [nI_add]
  refine C.bipush (nI 40) dX10_tell_13 (by decide) ?_
  refine C.irem dX10_tell_15 (by decide) ?_
  rw [pk_rem (by omega) (by decide) (by decide)]
  refine C.aload_n dX10_tell_16 0 rfl ?_
  refine C.getI fX10_30 dX10_tell_17 hO.o ?_
  rw [n1]
  refine C.bipush (nI 8) dX10_tell_20 (by decide) ?_
  refine C.ishl dX10_tell_22 ?_
  refine C.iload_n dX10_tell_23 1 rfl ?_
  refine C.iconst (nI 4) dX10_tell_24 (by decide) ?_
  refine C.ishl dX10_tell_25 ?_
  refine C.ior dX10_tell_26 ?_
  refine C.iload_n dX10_tell_27 2 rfl ?_
  refine C.iconst (nI 1) dX10_tell_28 (by decide) ?_
  refine C.ishl dX10_tell_29 ?_
  refine C.ior dX10_tell_30 ?_
  refine C.iload_n dX10_tell_31 3 rfl ?_
  refine C.ior dX10_tell_32 ?_
  rw [packT_i hn hh hw hk]
  refine C.iast hO.a4 (n_in (Nat.mod_lt _ (by decide))) dX10_tell_33 ?_
  rw [n_cl (by omega)]
  refine C.aload_n dX10_tell_34 0 rfl ?_
  refine C.getI fX10_40 dX10_tell_35 hO.o ?_
  rw [e8]
  refine C.bipush (nI 40) dX10_tell_38 (by decide) ?_
  refine C.icmp_ge 56 dX10_tell_40 rfl (fun hc40 => ?_) (fun hc40 => ?_)
  · refine C.aload_n dX10_tell_56 0 rfl ?_
    refine C.aload_n dX10_tell_57 0 rfl ?_
    refine C.getI fX10_37 dX10_tell_58 hO.o ?_
    rw [e7]
    refine C.iconst (nI 1) dX10_tell_61 (by decide) ?_
    refine C.iadd dX10_tell_62 ?_
    rw [nI_add]
    refine C.bipush (nI 40) dX10_tell_63 (by decide) ?_
    refine C.irem dX10_tell_65 (by decide) ?_
    rw [pk_rem (by omega) (by decide) (by decide)]
    refine C.putI fX10_37 (Or.inl rfl) dX10_tell_66 hO.o ?_
    refine C.vret hq dX10_tell_69 ?_
    refine ⟨⟨⟨by simp [mI_sI, n1], by simp [mI_sI, n2]⟩, fun i x q => ?_, fun i q q2 => ?_, ?_⟩, rfl, fun x k q => ?_⟩
    · simp only [mI_sI]
      rw [if_neg (by omega), if_neg (by omega), if_neg (by omega), if_neg (by omega), if_neg (by omega), if_neg (by omega), if_neg (by omega), if_neg (by omega)]
      exact n3 i x q
    · simp only [mI_sI]
      rw [if_neg (by omega), if_neg (by omega), if_neg (by omega), if_neg (by omega)]
      exact n4 i q q2
    · first
      | (have hlt : S.2.2.length < 40 := n_nle hc40
         refine ⟨f, n5, by simp [mI_sI, n6], ?_, ?_, fun i x q => ?_⟩
         · simp [mI_sI, tellF, show ¬ S.2.2.length = 40 by omega]
         · simp [tellF, show ¬ S.2.2.length = 40 by omega]; omega
         · simp only [tellF, if_neg (show ¬ S.2.2.length = 40 by omega), Bool.false_eq_true, if_false] at q
           rw [mI_sI, if_neg (by omega), mI_sI]
           rcases app1 q with ⟨q1, q2⟩ | ⟨q1, q2⟩
           · rw [if_neg (by omega)]; exact n9 i x q2
           · rw [if_pos ⟨rfl, by rw [q1]⟩, q2])
      | (have hge : S.2.2.length = 40 := by have := n_le hc40; omega
         refine ⟨(f + 1) % 40, Nat.mod_lt _ (by decide), by simp [mI_sI], ?_, ?_, fun i x q => ?_⟩
         · simp [mI_sI, tellF, hge, n7]
         · simp [tellF, hge]
         · simp only [tellF, if_pos hge, Bool.false_eq_true, if_false] at q
           rw [mI_sI, if_neg (by omega), mI_sI, hge]
           rcases app1 q with ⟨q1, q2⟩ | ⟨q1, q2⟩
           · rw [List.length_tail, hge] at q1
             rw [if_neg (by omega), show ((f + 1) % 40 + i) % 40 = (f + (i + 1)) % 40 by omega]
             rw [List.getElem?_tail] at q2
             exact n9 (i + 1) x q2
           · rw [List.length_tail, hge] at q1
             rw [if_pos ⟨rfl, by omega⟩, q2])
    · simp only [mI_sI]
      rw [if_neg (by omega), if_neg (by omega)]
  · refine C.aload_n dX10_tell_43 0 rfl ?_
    refine C.dup dX10_tell_44 rfl ?_
    refine C.getI fX10_40 dX10_tell_45 hO.o ?_
    rw [e8]
    refine C.iconst (nI 1) dX10_tell_48 (by decide) ?_
    refine C.iadd dX10_tell_49 ?_
    rw [nI_add]
    refine C.putI fX10_40 (Or.inl rfl) dX10_tell_50 hO.o ?_
    refine C.goto 69 dX10_tell_53 rfl ?_
    refine C.vret hq dX10_tell_69 ?_
    refine ⟨⟨⟨by simp [mI_sI, n1], by simp [mI_sI, n2]⟩, fun i x q => ?_, fun i q q2 => ?_, ?_⟩, rfl, fun x k q => ?_⟩
    · simp only [mI_sI]
      rw [if_neg (by omega), if_neg (by omega), if_neg (by omega), if_neg (by omega), if_neg (by omega), if_neg (by omega), if_neg (by omega), if_neg (by omega)]
      exact n3 i x q
    · simp only [mI_sI]
      rw [if_neg (by omega), if_neg (by omega), if_neg (by omega), if_neg (by omega)]
      exact n4 i q q2
    · first
      | (have hlt : S.2.2.length < 40 := n_nle hc40
         refine ⟨f, n5, by simp [mI_sI, n6], ?_, ?_, fun i x q => ?_⟩
         · simp [mI_sI, tellF, show ¬ S.2.2.length = 40 by omega]
         · simp [tellF, show ¬ S.2.2.length = 40 by omega]; omega
         · simp only [tellF, if_neg (show ¬ S.2.2.length = 40 by omega), Bool.false_eq_true, if_false] at q
           rw [mI_sI, if_neg (by omega), mI_sI]
           rcases app1 q with ⟨q1, q2⟩ | ⟨q1, q2⟩
           · rw [if_neg (by omega)]; exact n9 i x q2
           · rw [if_pos ⟨rfl, by rw [q1]⟩, q2])
      | (have hge : S.2.2.length = 40 := by have := n_le hc40; omega
         refine ⟨(f + 1) % 40, Nat.mod_lt _ (by decide), by simp [mI_sI], ?_, ?_, fun i x q => ?_⟩
         · simp [mI_sI, tellF, hge, n7]
         · simp [tellF, hge]
         · simp only [tellF, if_pos hge, Bool.false_eq_true, if_false] at q
           rw [mI_sI, if_neg (by omega), mI_sI, hge]
           rcases app1 q with ⟨q1, q2⟩ | ⟨q1, q2⟩
           · rw [List.length_tail, hge] at q1
             rw [if_neg (by omega), show ((f + 1) % 40 + i) % 40 = (f + (i + 1)) % 40 by omega]
             rw [List.getElem?_tail] at q2
             exact n9 (i + 1) x q2
           · rw [List.length_tail, hge] at q1
             rw [if_pos ⟨rfl, by omega⟩, q2])
    · simp only [mI_sI]
      rw [if_neg (by omega), if_neg (by omega)]
theorem ks_toldOf (hO : StO μ b) (hN : CsN μ b S) (hT : ∀ x ∈ S.2.2, x.1 ≤ 999 ∧ x.2.1 < 12 ∧ x.2.2.1 < 6 ∧ x.2.2.2 < 2) (x y : Int32) : AMet l G 0 0 0 mtX10_toldOf [.ref (G.1 + b), .int x, .int y] μ (qI (fun z μ' => z = (match inN x S.2.2.length with | some k => (match inN y 4 with | some j => nI (wkN (S.2.2.getD k (0, 0, 0, 0)) j) | none => -1) | none => -1) ∧ μ' = μ)) := by
  refine AMet.of (by decide) (Nat.le_of_ble_eq_true rfl) (fun X C hX hnm hq => ?_)
  obtain ⟨⟨n1, n2⟩, n3, n4, f, n5, n6, n7, n8, n9⟩ := hN
  refine C.iload_n dX10_toldOf_0 1 rfl ?_
  refine C.if_lt 12 dX10_toldOf_1 rfl (fun hc1 => ?_) (fun hc1 => ?_)
  · rw [inN_f (Or.inl hc1)] at hq
    refine C.iconst (-1) dX10_toldOf_12 (by decide) ?_
    refine C.iret hq dX10_toldOf_13 ?_
    exact ⟨rfl, rfl⟩
  · refine C.iload_n dX10_toldOf_4 1 rfl ?_
    refine C.aload_n dX10_toldOf_5 0 rfl ?_
    refine C.getI fX10_40 dX10_toldOf_6 hO.o ?_
    rw [n7]
    refine C.icmp_lt 14 dX10_toldOf_9 rfl (fun hc9 => ?_) (fun hc9 => ?_)
    · obtain ⟨k, hk, ek, e9⟩ := inN_t (n := S.2.2.length) (by omega) hc1 (Int32.not_le.mpr hc9)
      rw [e9] at hq
      dsimp only at hq
      subst ek
      have hqk : S.2.2[k]? = some (S.2.2.getD k (0, 0, 0, 0)) := by rw [List.getD_eq_getElem?_getD, List.getElem?_eq_getElem hk]; rfl
      have hv := n9 k _ hqk
      obtain ⟨t1, t2, t3, t4⟩ := hT _ (List.mem_of_getElem? hqk)
      generalize S.2.2.getD k (0, 0, 0, 0) = W at hq hv t1 t2 t3 t4
      obtain ⟨p1, p2, p3, p4⟩ := W
      dsimp only at t1 t2 t3 t4
      have hpk : packT (p1, p2, p3, p4) = p1 * 256 + p2 * 16 + p3 * 2 + p4 := rfl
      refine C.aload_n dX10_toldOf_14 0 rfl ?_
      refine C.getA fX10_24 dX10_toldOf_15 hO.o hO.r4 ?_
      refine C.aload_n dX10_toldOf_18 0 rfl ?_
      refine C.getI fX10_37 dX10_toldOf_19 hO.o ?_
      rw [n6]
      refine C.iload_n dX10_toldOf_22 1 rfl ?_
      refine C.iadd dX10_toldOf_23 ?_
      rw [nI_add]
      refine C.bipush (nI 40) dX10_toldOf_24 (by decide) ?_
      refine C.irem dX10_toldOf_26 (by decide) ?_
      rw [pk_rem (by omega) (by decide) (by decide)]
      refine C.iald hO.a4 (n_in (Nat.mod_lt _ (by decide))) dX10_toldOf_27 ?_
      rw [n_cl (by omega), hv, hpk]
      refine C.istore_n (lv' := [(0, _), (1, _), (2, _), (3, _)]) dX10_toldOf_28 (nLt hX rfl) rfl ?_
      refine C.iload_n dX10_toldOf_29 2 rfl ?_
      cases hin30 : inN y 4 with
      | none =>
        rw [hin30] at hq
        refine C.tableOut 83 dX10_toldOf_30 (inN_out (n := 3) (by decide) hin30) rfl ?_
        refine C.iconst (-1) dX10_toldOf_83 (by decide) ?_
        refine C.iret hq dX10_toldOf_84 ?_
        exact ⟨rfl, rfl⟩
      | some j30 =>
        rw [hin30] at hq
        obtain ⟨hj30, e30⟩ := inN_some (by decide) hin30
        subst e30
        rcases (show j30 = 0 ∨ j30 = 1 ∨ j30 = 2 ∨ j30 = 3 by omega) with rfl | rfl | rfl | rfl
        · refine C.tableIn 60 dX10_toldOf_30 (by decide) (by decide) rfl rfl ?_
          refine C.iload_n dX10_toldOf_60 3 rfl ?_
          refine C.bipush (nI 8) dX10_toldOf_61 (by decide) ?_
          refine C.ishr dX10_toldOf_63 ?_
          refine C.iret hq dX10_toldOf_64 ?_
          exact ⟨by rw [pk_shrN (by omega) (nI 8 &&& 31) 8 (by decide)]; show nI _ = nI p1; congr 1; omega, rfl⟩
        · refine C.tableIn 65 dX10_toldOf_30 (by decide) (by decide) rfl rfl ?_
          refine C.iload_n dX10_toldOf_65 3 rfl ?_
          refine C.iconst (nI 4) dX10_toldOf_66 (by decide) ?_
          refine C.ishr dX10_toldOf_67 ?_
          refine C.bipush (nI 15) dX10_toldOf_68 (by decide) ?_
          refine C.iand dX10_toldOf_70 ?_
          refine C.iret hq dX10_toldOf_71 ?_
          exact ⟨by rw [pk_shrN (by omega) (nI 4 &&& 31) 4 (by decide), pk_andN (by omega) (m := nI 15) 4 (by decide)]; show nI _ = nI p2; congr 1; omega, rfl⟩
        · refine C.tableIn 72 dX10_toldOf_30 (by decide) (by decide) rfl rfl ?_
          refine C.iload_n dX10_toldOf_72 3 rfl ?_
          refine C.iconst (nI 1) dX10_toldOf_73 (by decide) ?_
          refine C.ishr dX10_toldOf_74 ?_
          refine C.bipush (nI 7) dX10_toldOf_75 (by decide) ?_
          refine C.iand dX10_toldOf_77 ?_
          refine C.iret hq dX10_toldOf_78 ?_
          exact ⟨by rw [pk_shrN (by omega) (nI 1 &&& 31) 1 (by decide), pk_andN (by omega) (m := nI 7) 3 (by decide)]; show nI _ = nI p3; congr 1; omega, rfl⟩
        · refine C.tableIn 79 dX10_toldOf_30 (by decide) (by decide) rfl rfl ?_
          refine C.iload_n dX10_toldOf_79 3 rfl ?_
          refine C.iconst (nI 1) dX10_toldOf_80 (by decide) ?_
          refine C.iand dX10_toldOf_81 ?_
          refine C.iret hq dX10_toldOf_82 ?_
          exact ⟨by rw [pk_andN (by omega) (m := nI 1) 1 (by decide)]; show nI _ = nI p4; congr 1; omega, rfl⟩
    · rw [inN_f (Or.inr (Int32.not_lt.mp hc9))] at hq
      refine C.iconst (-1) dX10_toldOf_12 (by decide) ?_
      refine C.iret hq dX10_toldOf_13 ?_
      exact ⟨rfl, rfl⟩
end KTL
/-- the states ahead of the last acts -/
def CsP (μ : Mm) (ps : List St) : Prop := mI μ 52 2 = nI ps.length ∧ ps.length ≤ 20 ∧ ∃ nw, nw < 20 ∧ mI μ 52 1 = nI nw ∧ ∀ i S, ps[i]? = some S → CsN μ (54 + 6 * ((nw + 20 - i) % 20)) S
def PaF (μ μ' : Mm) : Prop := μ'.2 = μ.2 ∧ ∀ x k, x ≠ 52 → ¬ (54 ≤ x ∧ x ≤ 173) → mI μ' x k = mI μ x k
section KPA
variable {l : Launch} {G : Gm} {μ : Mm} {S : St} {ps : List St}

theorem kp_keep (hS : ShC μ) (hN : CsN μ 40 S) (hP : CsP μ ps) : AMet l G 2 0 0 mtX5_keep [.ref (G.1 + 52), .ref (G.1 + 40)] μ (qV (fun μ' => CsP μ' (pushP S ps) ∧ PaF μ μ')) := by
  refine AMet.of (by decide) (Nat.le_of_ble_eq_true rfl) (fun X C hX hnm hq => ?_)
  obtain ⟨p1, p2, nw, p3, p4, p5⟩ := hP
  have hnl : (nw + 1) % 20 < 20 := Nat.mod_lt _ (by decide)
  have hS1 : ShC (sI μ 52 1 (nI ((nw + 1) % 20))) := hS.of rfl
  have hst := hS1.2.2.2 ((nw + 1) % 20) hnl
  have e1 : mI (sI μ 52 1 (nI ((nw + 1) % 20))) 52 1 = nI ((nw + 1) % 20) := by simp [mI_sI]
  have hN1 : CsN (sI μ 52 1 (nI ((nw + 1) % 20))) 40 S := hN.of (fun a k h1 h2 => by rw [mI_sI, if_neg (by omega)])
  refine C.aload_n dX5_keep_0 0 rfl ?_
  refine C.aload_n dX5_keep_1 0 rfl ?_
  refine C.getI fX5_18 dX5_keep_2 hS.o52 ?_
  rw [p4]
  refine C.iconst (nI 1) dX5_keep_5 (by decide) ?_
  refine C.iadd dX5_keep_6 ?_
  rw [nI_add]
  refine C.bipush (nI 20) dX5_keep_7 (by decide) ?_
  refine C.irem dX5_keep_9 (by decide) ?_
  rw [pk_rem (by omega) (by decide) (by decide)]
  refine C.putI fX5_18 (Or.inl rfl) dX5_keep_10 hS.o52 ?_
  refine C.aload_n dX5_keep_13 0 rfl ?_
  refine C.getA fX5_11 dX5_keep_14 hS.o52 hS.r52_0 ?_
  refine C.aload_n dX5_keep_17 0 rfl ?_
  refine C.getI fX5_18 dX5_keep_18 hS.o52 ?_
  rw [e1]
  refine C.aald hS.a53 (Or.inl rfl) (n_in hnl) (by rw [n_cl (by omega)]; exact hst.1) dX5_keep_21 ?_
  refine C.aload_n dX5_keep_22 1 rfl ?_
  refine C.callVV lX5_22 dX5_keep_23 (ks_copyOf hst.2 hS1.s40 (by omega)) hst.2.o rfl rfl (Nat.le_of_ble_eq_true rfl) (Nat.zero_le _) (Nat.zero_le _) (Nat.le_of_ble_eq_true rfl) (fun μ23 h23 => ?_)
  have hS : ShC μ23 := hS1.of (by rw [h23.1])
  have e2 : mI μ23 52 2 = nI ps.length := by rw [h23.2.1 52 2 (by omega), mI_sI, if_neg (by omega)]; exact p1
  have e3 : mI μ23 52 1 = nI ((nw + 1) % 20) := by rw [h23.2.1 52 1 (by omega)]; exact e1
  have hNew := h23.n hN1
  refine C.aload_n dX5_keep_26 0 rfl ?_
  refine C.bipush (nI 20) dX5_keep_27 (by decide) ?_
  refine C.aload_n dX5_keep_29 0 rfl ?_
  refine C.getI fX5_26 dX5_keep_30 hS.o52 ?_
  rw [e2]
  refine C.iconst (nI 1) dX5_keep_33 (by decide) ?_
  refine C.iadd dX5_keep_34 ?_
  rw [nI_add]
  refine C.callSI lX5_29 dX5_keep_35 (kj_minI _ _) rfl rfl (Nat.le_of_ble_eq_true rfl) (Nat.zero_le _) (Nat.zero_le _) (Nat.le_of_ble_eq_true rfl) (fun x35 μ35 h35 => ?_)
  obtain ⟨rfl, hμ⟩ := h35
  subst hμ
  rw [mn_n (by decide) (by omega)]
  refine C.putI fX5_26 (Or.inl rfl) dX5_keep_38 hS.o52 ?_
  refine C.vret hq dX5_keep_41 ?_
  have hl : (pushP S ps).length = min 20 (ps.length + 1) := by unfold pushP; rw [List.length_take, List.length_cons]
  refine ⟨⟨by simp [mI_sI, hl], by omega, (nw + 1) % 20, hnl, by rw [mI_sI, if_neg (by omega)]; exact e3, fun i T q => ?_⟩, h23.1, fun x k q1 q2 => ?_⟩
  · refine CsN.of (μ := μ35) ?_ (fun a k h1 h2 => by rw [mI_sI, if_neg (by omega)])
    have hi20 : i < 20 := by have := q_lt q; omega
    unfold pushP at q
    rw [List.getElem?_take_of_lt hi20] at q
    cases i with
    | zero =>
      have e : S = T := Option.some.inj q
      subst e
      rw [show ((nw + 1) % 20 + 20 - 0) % 20 = (nw + 1) % 20 by omega]
      exact hNew
    | succ i =>
      rw [List.getElem?_cons_succ] at q
      have h0 := p5 i T q
      have hne : ((nw + 1) % 20 + 20 - (i + 1)) % 20 = (nw + 20 - i) % 20 := by omega
      rw [hne]
      refine h0.of (fun a k h1 h2 => ?_)
      rw [h23.2.1 a k (by omega), mI_sI, if_neg (by omega)]
  · rw [mI_sI, if_neg (by omega), h23.2.1 x k (by omega), mI_sI, if_neg (by omega)]
theorem kp_give (hS : ShC μ) (hP : CsP μ (S :: ps)) : AMet l G 2 0 0 mtX5_giveBack [.ref (G.1 + 52), .ref (G.1 + 40)] μ (qV (fun μ' => CsN μ' 40 S ∧ CsP μ' ps ∧ μ'.2 = μ.2 ∧ ∀ x k, x ≠ 52 → ¬ (40 ≤ x ∧ x ≤ 45) → mI μ' x k = mI μ x k)) := by
  refine AMet.of (by decide) (Nat.le_of_ble_eq_true rfl) (fun X C hX hnm hq => ?_)
  obtain ⟨p1, p2, nw, p3, p4, p5⟩ := hP
  have hst := hS.2.2.2 nw p3
  have h0 := p5 0 S rfl
  rw [show (nw + 20 - 0) % 20 = nw by omega] at h0
  simp only [List.length_cons] at p1 p2
  refine C.aload_n dX5_giveBack_0 1 rfl ?_
  refine C.aload_n dX5_giveBack_1 0 rfl ?_
  refine C.getA fX5_11 dX5_giveBack_2 hS.o52 hS.r52_0 ?_
  refine C.aload_n dX5_giveBack_5 0 rfl ?_
  refine C.getI fX5_18 dX5_giveBack_6 hS.o52 ?_
  rw [p4]
  refine C.aald hS.a53 (Or.inl rfl) (n_in p3) (by rw [n_cl (by omega)]; exact hst.1) dX5_giveBack_9 ?_
  refine C.callVV lX5_22 dX5_giveBack_10 (ks_copyOf hS.s40 hst.2 (by omega)) hS.o40 rfl rfl (Nat.le_of_ble_eq_true rfl) (Nat.zero_le _) (Nat.zero_le _) (Nat.le_of_ble_eq_true rfl) (fun μ10 h10 => ?_)
  have hS : ShC μ10 := hS.of (by rw [h10.1])
  have e1 : mI μ10 52 1 = nI nw := by rw [h10.2.1 52 1 (by omega)]; exact p4
  have e2 : mI (sI μ10 52 1 (nI ((nw + 20 - 1) % 20))) 52 2 = nI (ps.length + 1) := by rw [mI_sI, if_neg (by omega), h10.2.1 52 2 (by omega)]; exact p1
  refine C.aload_n dX5_giveBack_13 0 rfl ?_
  refine C.aload_n dX5_giveBack_14 0 rfl ?_
  refine C.getI fX5_18 dX5_giveBack_15 hS.o52 ?_
  rw [e1]
  refine C.bipush (nI 20) dX5_giveBack_18 (by decide) ?_
  refine C.iadd dX5_giveBack_20 ?_
  rw [nI_add]
  refine C.iconst (nI 1) dX5_giveBack_21 (by decide) ?_
  refine C.isub dX5_giveBack_22 ?_
  rw [pk_sub (by omega)]
  refine C.bipush (nI 20) dX5_giveBack_23 (by decide) ?_
  refine C.irem dX5_giveBack_25 (by decide) ?_
  rw [pk_rem (by omega) (by decide) (by decide)]
  refine C.putI fX5_18 (Or.inl rfl) dX5_giveBack_26 hS.o52 ?_
  refine C.aload_n dX5_giveBack_29 0 rfl ?_
  refine C.dup dX5_giveBack_30 rfl ?_
  refine C.getI fX5_26 dX5_giveBack_31 hS.o52 ?_
  rw [e2]
  refine C.iconst (nI 1) dX5_giveBack_34 (by decide) ?_
  refine C.isub dX5_giveBack_35 ?_
  rw [pk_sub (by omega), show ps.length + 1 - 1 = ps.length by omega]
  refine C.putI fX5_26 (Or.inl rfl) dX5_giveBack_36 hS.o52 ?_
  refine C.vret hq dX5_giveBack_39 ?_
  refine ⟨(h10.n h0).of (fun a k h1 h2 => by simp only [mI_sI]; rw [if_neg (by omega), if_neg (by omega)]), ⟨by simp [mI_sI], by omega, (nw + 20 - 1) % 20, Nat.mod_lt _ (by decide), by simp [mI_sI], fun i T q => ?_⟩, h10.1, fun x k q1 q2 => ?_⟩
  · have h1 := p5 (i + 1) T (by rw [List.getElem?_cons_succ]; exact q)
    have hi := q_lt q
    rw [show ((nw + 20 - 1) % 20 + 20 - i) % 20 = (nw + 20 - (i + 1)) % 20 by omega]
    refine h1.of (fun a k h1 h2 => ?_)
    simp only [mI_sI]
    rw [if_neg (by omega), if_neg (by omega), h10.2.1 a k (by omega)]
  · simp only [mI_sI]
    rw [if_neg (by omega), if_neg (by omega), h10.2.1 x k (by omega)]
end KPA
