/-! the class: what a question asks of a walker -/
def Sv0 (μ M : Mm) : Prop := M.2 = μ.2 ∧ ∀ a k, a ≠ 12 → a ≠ 13 → mI M a k = mI μ a k
section SVP
variable {μ M : Mm}
theorem Sv0.refl (μ : Mm) : Sv0 μ μ := ⟨rfl, fun _ _ _ _ => rfl⟩
theorem Sv0.st (h : Sv0 μ M) {a : Nat} (ha : a = 12 ∨ a = 13) (k : Nat) (v : Int32) : Sv0 μ (sI M a k v) := ⟨h.1, fun b j q1 q2 => by rw [mI_sI, if_neg (by omega)]; exact h.2 b j q1 q2⟩
theorem Sv0.sh (h : Sv0 μ M) (hS : ShC μ) : ShC M := hS.of (by rw [h.1])
theorem Sv0.ld (h : Sv0 μ M) {L : Nat} {c : Lc} {d : Ld} (hR : LdR μ L c d) : LdR M L c d := hR.of2 h.1 (fun a k q => h.2 a k (by unfold InL at q; omega) (by unfold InL at q; omega))
theorem Sv0.r (h : Sv0 μ M) (a k : Nat) : mR M a k = mR μ a k := by unfold mR; rw [h.1]
end SVP
section KQS
variable {l : Launch} {G : Gm} {μ : Mm} {L : Nat} {c : Lc} {h : Hs}
def SvQ (μ : Mm) (h : Hs) (i : Nat) (μ' : Mm) : Prop := Sv0 μ μ' ∧ (∀ k, k < 9 → mI μ' 12 k = (pvQ h i k).toInt32) ∧ ∀ j, j < 12 → mI μ' 13 j = nI (apN (walkF (ldH h) i) (ridH h j))
theorem wkC_0 (d : Ld) (w : Nat) : wkC d w 0 = walkF d w := by
  show walkF d w % 7 + 7 * (walkF d w / 7) = walkF d w
  omega
theorem kq_setValues (hS : ShC μ) (hR : LdR μ L c (ldH h)) (hW : Wf (ldH h)) (hl : mR μ 33 4 = some L) (hri : ∀ k, k < 12 → mI μ 34 k = nI (kC (ldH h) (ridH h k)) ∧ clOk (ldH h) (ridH h k)) (hN : CsN μ 40 (stH h)) (hSW : SWf (ldH h) (stH h)) {i : Nat} (hi : i < (ldH h).2.2.2.1.length) : AMet l G 2 0 0 mtX7_setValues [.ref (G.1 + 33), .ref (G.1 + 40), .int (nI i)] μ (qV (fun μ' => SvQ μ h i μ')) := by
  refine AMet.of (by decide) (Nat.le_of_ble_eq_true rfl) (fun X C hX hnm hq => ?_)
  have hS0 := hS
  have hi6 : i < 6 := Nat.lt_of_lt_of_le hi hW.2.2.2.1.1
  have hq20 := hR.1.2.2.2.2.1.2 i hi6
  have hx : (ldH h).2.2.2.1[i]? = some ((ldH h).2.2.2.1[i]) := List.getElem?_eq_getElem hi
  have hw0 : mI μ (c (20 + i)) 0 = nI (kC (ldH h) (walkF (ldH h) i)) := by
    have := (hR.2.2.2.2.1 i _ hx).2.2.2.2 0 (by omega)
    rw [wkC_0] at this
    exact this
  have hcl : clOk (ldH h) (walkF (ldH h) i) := hW.walkF hi
  have hkl := kC_lt hcl
  have h49 := hW.n49.2
  have hW7 := hW.1.2.1
  have hW0 : 0 < (ldH h).1.1 := by have := hW.1.1; omega
  have hwk := hN.wk (w := i) (by rw [hSW.2.2.1]; exact hi)
  have hs12 : ∀ t, mtF (ldH h) (ridH h) (wkS (stH h) i) i = some t → t < 12 := fun t q => by
    unfold mtF at q
    split at q
    · exact absurd q (by simp)
    · have := fsF_lt _ _ _ q
      omega
  have i0 : mI μ L 0 = nI (ldH h).1.1 := hR.2.1.1.1
  have hng : mI μ 40 5 = nI (stH h).1.1 := hN.1.1
  have m42 : AW l G X 0 0 42 [(0, .ref (G.1 + 33)), (1, .ref (G.1 + 40)), (2, .int (nI i)), (3, .ref (G.1 + 11)), (4, .int (nI (kC (ldH h) (walkF (ldH h) i)))), (5, .int (opI (mtF (ldH h) (ridH h) (wkS (stH h) i) i)))] [.int (nI (match mtF (ldH h) (ridH h) (wkS (stH h) i) i with | some t => t | none => 12)), .int (nI 17), .ref (G.1 + 11)] μ := by
    have loop : ∀ (n k : Nat) (M : Mm), 12 - k < n → k ≤ 12 → Sv0 μ M → (∀ j, j < 9 → mI M 12 j = (pvQ h i j).toInt32) → (∀ j, j < k → mI M 13 j = nI (apN (walkF (ldH h) i) (ridH h j))) → AW l G X 0 0 143 [(0, .ref (G.1 + 33)), (1, .ref (G.1 + 40)), (2, .int (nI i)), (3, .ref (G.1 + 11)), (4, .int (nI (kC (ldH h) (walkF (ldH h) i)))), (5, .int (opI (mtF (ldH h) (ridH h) (wkS (stH h) i) i))), (6, .int (nI k))] [] M := by
      intro n
      induction n with
      | zero => intro k M h1; omega
      | succ n ih =>
        intro k M hk hle p p12 p13
        have hS := p.sh hS
        have hR := p.ld hR
        have hl : mR M 33 4 = some L := (p.r 33 4).trans hl
        have i0 : mI M L 0 = nI (ldH h).1.1 := hR.2.1.1.1
        refine C.iload dX7_setValues_143 6 rfl ?_
        refine C.bipush (nI 12) dX7_setValues_145 (by decide) ?_
        refine C.icmp_ge 179 dX7_setValues_147 rfl (fun hc147 => ?_) (fun hc147 => ?_)
        · have hge : 12 ≤ k := n_le hc147
          have hk12 : k = 12 := by omega
          subst hk12
          refine C.vret hq dX7_setValues_179 ?_
          exact ⟨p, p12, p13⟩
        · have hlt : k < 12 := n_nle hc147
          have hrk := hri k hlt
          have hrl := kC_lt hrk.2
          have hc34 : mI M 34 k = nI (kC (ldH h) (ridH h k)) := (p.2 34 k (by omega) (by omega)).trans hrk.1
          have hap := apN_k (d := ldH h) hW7 hkl hrl
          rw [cK_kC hcl, cK_kC hrk.2] at hap
          refine C.aload_n dX7_setValues_150 3 rfl ?_
          refine C.getA fX7_133 dX7_setValues_151 hS.o11 hS.r11_1 ?_
          refine C.iload dX7_setValues_154 6 rfl ?_
          refine C.aload_n dX7_setValues_156 0 rfl ?_
          refine C.getO fX7_62 dX7_setValues_157 hS.o33 hl ?_
          refine C.iload dX7_setValues_160 4 rfl ?_
          refine C.aload_n dX7_setValues_162 0 rfl ?_
          refine C.getA fX7_136 dX7_setValues_163 hS.o33 hS.r33_0 ?_
          refine C.iload dX7_setValues_166 6 rfl ?_
          refine C.iald hS.a34 (n_in (by omega)) dX7_setValues_168 ?_
          rw [n_cl (by omega), hc34]
          refine C.callVI lX7_139 dX7_setValues_169 (kl_distance hR.o i0 (by omega) hW0 (by omega) (by omega)) hR.o rfl rfl (Nat.le_of_ble_eq_true rfl) (Nat.zero_le _) (Nat.zero_le _) (Nat.le_of_ble_eq_true rfl) (fun x169 μ169 h169 => ?_)
          obtain ⟨rfl, hμ⟩ := h169
          subst hμ
          rw [hap]
          refine C.iast hS.a13 (n_in (by omega)) dX7_setValues_172 ?_
          rw [n_cl (by omega)]
          refine C.iinc (lv' := [(0, _), (1, _), (2, _), (3, _), (4, _), (5, _), (6, _)]) _ dX7_setValues_173 6 rfl rfl (nLt hX rfl) rfl ?_
          refine C.goto 143 dX7_setValues_176 rfl ?_
          have hgo := ih (k + 1) _ (by omega) (by omega) (p.st (Or.inr rfl) k (nI (apN (walkF (ldH h) i) (ridH h k)))) (fun j hj => by rw [mI_sI, if_neg (by omega)]; exact p12 j hj) (fun j hj => by
            rw [mI_sI]
            by_cases e : j = k
            · rw [if_pos ⟨rfl, e⟩, e]
            · rw [if_neg (fun z => e z.2)]; exact p13 j (by omega))
          rw [← nI_1] at hgo
          exact hgo
    refine C.callVV lX7_104 dX7_setValues_42 (kc_setValue hS (w := 17) (by omega) (by omega) _) hS.o11 rfl rfl (Nat.le_of_ble_eq_true rfl) (Nat.zero_le _) (Nat.zero_le _) (Nat.le_of_ble_eq_true rfl) (fun μ42 h42 => ?_)
    have p1 : Sv0 μ μ42 := by rw [h42]; exact (Sv0.refl μ).st (Or.inl rfl) _ _
    have hS := p1.sh hS0
    refine C.aload_n dX7_setValues_45 3 rfl ?_
    refine C.bipush (nI 18) dX7_setValues_46 (by decide) ?_
    refine C.aload_n dX7_setValues_48 1 rfl ?_
    refine C.getI fX7_108 dX7_setValues_49 hS.o40 ?_
    rw [p1.2 40 5 (by omega) (by omega), hng]
    refine C.callVV lX7_104 dX7_setValues_52 (kc_setValue hS (w := 18) (by omega) (by omega) _) hS.o11 rfl rfl (Nat.le_of_ble_eq_true rfl) (Nat.zero_le _) (Nat.zero_le _) (Nat.le_of_ble_eq_true rfl) (fun μ52 h52 => ?_)
    have p2 : Sv0 μ μ52 := by rw [h52]; exact p1.st (Or.inl rfl) _ _
    have hS := p2.sh hS0
    have hR := p2.ld hR
    have hl : mR μ52 33 4 = some L := (p2.r 33 4).trans hl
    refine C.aload_n dX7_setValues_55 3 rfl ?_
    refine C.bipush (nI 19) dX7_setValues_56 (by decide) ?_
    refine C.aload_n dX7_setValues_58 0 rfl ?_
    refine C.getO fX7_62 dX7_setValues_59 hS.o33 hl ?_
    refine C.iload dX7_setValues_62 4 rfl ?_
    refine C.callVI lX7_113 dX7_setValues_64 (kl_columnOf hR.o hR.2.1.1.1 (by omega) hW0 (by omega)) hR.o rfl rfl (Nat.le_of_ble_eq_true rfl) (Nat.zero_le _) (Nat.zero_le _) (Nat.le_of_ble_eq_true rfl) (fun x64 μ64 h64 => ?_)
    obtain ⟨rfl, hμ⟩ := h64
    rw [hμ, kC_mod hcl]
    refine C.callVV lX7_104 dX7_setValues_67 (kc_setValue hS (w := 19) (by omega) (by omega) _) hS.o11 rfl rfl (Nat.le_of_ble_eq_true rfl) (Nat.zero_le _) (Nat.zero_le _) (Nat.le_of_ble_eq_true rfl) (fun μ67 h67 => ?_)
    have p3 : Sv0 μ μ67 := by rw [h67]; exact p2.st (Or.inl rfl) _ _
    have hS := p3.sh hS0
    have hR := (p3.ld (by assumption : LdR μ L c (ldH h)))
    have hl : mR μ67 33 4 = some L := (p3.r 33 4).trans (by assumption)
    refine C.aload_n dX7_setValues_70 3 rfl ?_
    refine C.bipush (nI 20) dX7_setValues_71 (by decide) ?_
    refine C.aload_n dX7_setValues_73 0 rfl ?_
    refine C.getO fX7_62 dX7_setValues_74 hS.o33 hl ?_
    refine C.iload dX7_setValues_77 4 rfl ?_
    refine C.callVI lX7_117 dX7_setValues_79 (kl_rowOf hR.o hR.2.1.1.1 (by omega) hW0 (by omega)) hR.o rfl rfl (Nat.le_of_ble_eq_true rfl) (Nat.zero_le _) (Nat.zero_le _) (Nat.le_of_ble_eq_true rfl) (fun x79 μ79 h79 => ?_)
    obtain ⟨rfl, hμ⟩ := h79
    rw [hμ, kC_div hcl]
    refine C.callVV lX7_104 dX7_setValues_82 (kc_setValue hS (w := 20) (by omega) (by omega) _) hS.o11 rfl rfl (Nat.le_of_ble_eq_true rfl) (Nat.zero_le _) (Nat.zero_le _) (Nat.le_of_ble_eq_true rfl) (fun μ82 h82 => ?_)
    have p4 : Sv0 μ μ82 := by rw [h82]; exact p3.st (Or.inl rfl) _ _
    have hS := p4.sh hS0
    refine C.aload_n dX7_setValues_85 3 rfl ?_
    refine C.bipush (nI 21) dX7_setValues_86 (by decide) ?_
    refine C.aload_n dX7_setValues_88 1 rfl ?_
    refine C.getA fX7_120 dX7_setValues_89 hS.o40 hS.r40_0 ?_
    refine C.iload_n dX7_setValues_92 2 rfl ?_
    refine C.iald hS.a41 (n_in (by omega)) dX7_setValues_93 ?_
    rw [n_cl (by omega), p4.2 41 i (by omega) (by omega), hwk.2.1]
    refine C.callVV lX7_104 dX7_setValues_94 (kc_setValue hS (w := 21) (by omega) (by omega) _) hS.o11 rfl rfl (Nat.le_of_ble_eq_true rfl) (Nat.zero_le _) (Nat.zero_le _) (Nat.le_of_ble_eq_true rfl) (fun μ94 h94 => ?_)
    have p5 : Sv0 μ μ94 := by rw [h94]; exact p4.st (Or.inl rfl) _ _
    have hS := p5.sh hS0
    refine C.aload_n dX7_setValues_97 3 rfl ?_
    refine C.bipush (nI 22) dX7_setValues_98 (by decide) ?_
    refine C.aload_n dX7_setValues_100 1 rfl ?_
    refine C.getA fX7_124 dX7_setValues_101 hS.o40 hS.r40_1 ?_
    refine C.iload_n dX7_setValues_104 2 rfl ?_
    refine C.iald hS.a42 (n_in (by omega)) dX7_setValues_105 ?_
    rw [n_cl (by omega), p5.2 42 i (by omega) (by omega), hwk.2.2.1]
    refine C.callVV lX7_104 dX7_setValues_106 (kc_setValue hS (w := 22) (by omega) (by omega) _) hS.o11 rfl rfl (Nat.le_of_ble_eq_true rfl) (Nat.zero_le _) (Nat.zero_le _) (Nat.le_of_ble_eq_true rfl) (fun μ106 h106 => ?_)
    have p6 : Sv0 μ μ106 := by rw [h106]; exact p5.st (Or.inl rfl) _ _
    have hS := p6.sh hS0
    refine C.aload_n dX7_setValues_109 3 rfl ?_
    refine C.bipush (nI 23) dX7_setValues_110 (by decide) ?_
    refine C.aload_n dX7_setValues_112 1 rfl ?_
    refine C.getA fX7_127 dX7_setValues_113 hS.o40 hS.r40_2 ?_
    refine C.iload_n dX7_setValues_116 2 rfl ?_
    refine C.iald hS.a43 (n_in (by omega)) dX7_setValues_117 ?_
    rw [n_cl (by omega), p6.2 43 i (by omega) (by omega), hwk.2.2.2.1]
    refine C.callVV lX7_104 dX7_setValues_118 (kc_setValue hS (w := 23) (by omega) (by omega) _) hS.o11 rfl rfl (Nat.le_of_ble_eq_true rfl) (Nat.zero_le _) (Nat.zero_le _) (Nat.le_of_ble_eq_true rfl) (fun μ118 h118 => ?_)
    have p7 : Sv0 μ μ118 := by rw [h118]; exact p6.st (Or.inl rfl) _ _
    have hS := p7.sh hS0
    refine C.aload_n dX7_setValues_121 3 rfl ?_
    refine C.bipush (nI 24) dX7_setValues_122 (by decide) ?_
    refine C.iload_n dX7_setValues_124 2 rfl ?_
    refine C.callVV lX7_104 dX7_setValues_125 (kc_setValue hS (w := 24) (by omega) (by omega) _) hS.o11 rfl rfl (Nat.le_of_ble_eq_true rfl) (Nat.zero_le _) (Nat.zero_le _) (Nat.le_of_ble_eq_true rfl) (fun μ125 h125 => ?_)
    have p8 : Sv0 μ μ125 := by rw [h125]; exact p7.st (Or.inl rfl) _ _
    have hS := p8.sh hS0
    refine C.aload_n dX7_setValues_128 3 rfl ?_
    refine C.bipush (nI 25) dX7_setValues_129 (by decide) ?_
    refine C.aload_n dX7_setValues_131 1 rfl ?_
    refine C.getA fX7_130 dX7_setValues_132 hS.o40 hS.r40_3 ?_
    refine C.iload_n dX7_setValues_135 2 rfl ?_
    refine C.iald hS.a44 (n_in (by omega)) dX7_setValues_136 ?_
    rw [n_cl (by omega), p8.2 44 i (by omega) (by omega), hwk.2.2.2.2]
    refine C.callVV lX7_104 dX7_setValues_137 (kc_setValue hS (w := 25) (by omega) (by omega) _) hS.o11 rfl rfl (Nat.le_of_ble_eq_true rfl) (Nat.zero_le _) (Nat.zero_le _) (Nat.le_of_ble_eq_true rfl) (fun μ137 h137 => ?_)
    have p9 : Sv0 μ μ137 := by rw [h137]; exact p8.st (Or.inl rfl) _ _
    refine C.iconst (nI 0) dX7_setValues_140 (by decide) ?_
    refine C.istore (lv' := [(0, _), (1, _), (2, _), (3, _), (4, _), (5, _), (6, _)]) dX7_setValues_141 (nLt hX rfl) rfl ?_
    refine loop 13 0 _ (by omega) (by omega) p9 (fun j hj => ?_) (fun j hj => by omega)
    unfold pvQ
    rw [lN_i]
    rcases (show j = 0 ∨ j = 1 ∨ j = 2 ∨ j = 3 ∨ j = 4 ∨ j = 5 ∨ j = 6 ∨ j = 7 ∨ j = 8 by omega) with e | e | e | e | e | e | e | e | e <;> subst e <;> simp [h137, h125, h118, h106, h94, h82, h67, h52, h42, mI_sI] <;> rfl
  refine C.aload_n dX7_setValues_0 0 rfl ?_
  refine C.getO fX7_77 dX7_setValues_1 hS.o33 hS.r33_1 ?_
  refine C.astore_n (lv' := [(0, _), (1, _), (2, _), (3, _)]) dX7_setValues_4 (nLt hX rfl) rfl ?_
  refine C.aload_n dX7_setValues_5 0 rfl ?_
  refine C.getO fX7_62 dX7_setValues_6 hS.o33 hl ?_
  refine C.getA fX7_96 dX7_setValues_9 hR.o (hR.r (by decide)) ?_
  refine C.iload_n dX7_setValues_12 2 rfl ?_
  refine C.aald hR.1.2.2.2.2.1.1 (Or.inr rfl) (n_in (by omega)) (by rw [n_cl (by omega)]; exact hq20.1) dX7_setValues_13 ?_
  refine C.iconst (nI 0) dX7_setValues_14 (by decide) ?_
  refine C.iald hq20.2 (n_in (by omega)) dX7_setValues_15 ?_
  rw [n_cl (by omega), hw0]
  refine C.istore (lv' := [(0, _), (1, _), (2, _), (3, _), (4, _)]) dX7_setValues_16 (nLt hX rfl) rfl ?_
  refine C.aload_n dX7_setValues_18 0 rfl ?_
  refine C.aload_n dX7_setValues_19 1 rfl ?_
  refine C.iload_n dX7_setValues_20 2 rfl ?_
  refine C.callVI lX7_100 dX7_setValues_21 (kd_meeting hS (Or.inl rfl) hR hW hl hri hS.s40 hN hSW hi) hS.o33 rfl rfl (Nat.le_of_ble_eq_true rfl) (Nat.zero_le _) (Nat.zero_le _) (Nat.le_of_ble_eq_true rfl) (fun x21 μ21 h21 => ?_)
  obtain ⟨rfl, hμ⟩ := h21
  subst hμ
  refine C.istore (lv' := [(0, _), (1, _), (2, _), (3, _), (4, _), (5, _)]) dX7_setValues_24 (nLt hX rfl) rfl ?_
  refine C.aload_n dX7_setValues_26 3 rfl ?_
  refine C.bipush (nI 17) dX7_setValues_27 (by decide) ?_
  refine C.iload dX7_setValues_29 5 rfl ?_
  refine C.iconst (-1) dX7_setValues_31 (by decide) ?_
  refine C.icmp_ne 40 dX7_setValues_32 rfl (fun hc32 => ?_) (fun hc32 => ?_)
  · cases hm : mtF (ldH h) (ridH h) (wkS (stH h) i) i with
    | none => rw [hm] at hc32; exact absurd rfl hc32
    | some t =>
      rw [hm] at m42
      refine C.iload dX7_setValues_40 5 rfl ?_
      exact m42
  · cases hm : mtF (ldH h) (ridH h) (wkS (stH h) i) i with
    | some t => rw [hm] at hc32; exact absurd hc32 (n_m1 (by have := hs12 t hm; omega))
    | none =>
      rw [hm] at m42
      refine C.bipush (nI 12) dX7_setValues_35 (by decide) ?_
      refine C.goto 42 dX7_setValues_37 rfl ?_
      exact m42
end KQS
