/-! the reference: safely home -/

def nb1 (d : Ld) (c e : Nat) : Bool := (List.range 9).any (fun w => decide (cb d c w = some e))
def stpO (ride : Nat → Nat) (h c e : Nat) : Bool := !decide (e = ride (h + 1)) && !(decide (e = ride h) && decide (c = ride (h + 1)))
def rchF (d : Ld) (ride : Nat → Nat) (home : Nat) : Nat → Nat → Bool
  | 0, e => decide (e = home) && !decide (home = ride 0)
  | h + 1, e => (List.range 49).any (fun c => rchF d ride home h c && (nb1 d c e && stpO ride h c e))
def safeA (h : Hs) (x : Int32) : Int32 := match inN x (ldH h).2.2.2.1.length with
  | some w => opI (fsF (fun k => rchF (ldH h) (ridH h) (walkF (ldH h) w) k (walkT (ldH h) w)) 12 0)
  | none => -1
section KSF
variable {l : Launch} {G : Gm} {μ : Mm} {d : Ld}
/-- only the other half of the row may change -/
def CbF (t : Nat) (μ μ' : Mm) : Prop := μ'.2 = μ.2 ∧ ∀ a k, ¬ (a = 229 ∧ 49 * t ≤ k ∧ k < 49 * t + 49) → mI μ' a k = mI μ a k
theorem CbF.refl {t : Nat} : CbF t μ μ := ⟨rfl, fun _ _ _ => rfl⟩
theorem CbF.st {t : Nat} {μ' : Mm} (h : CbF t μ μ') {e : Nat} (he : e < 49) (v : Int32) : CbF t μ (sI μ' 229 (49 * t + e) v) := ⟨h.1, fun a k q => by rw [mI_sI, if_neg (by omega)]; exact h.2 a k q⟩
theorem CbF.lm {t : Nat} {μ' : Mm} (h : CbF t μ μ') (hL : LmH μ 1 1600 d) : LmH μ' 1 1600 d := hL.of (fun a k q _ _ => h.2 a k (by omega)) (fun a k q _ => h.2 a k (by omega)) (fun k _ => h.2 _ k (by omega)) (fun k _ => h.2 _ k (by omega)) (fun k _ => by show μ'.2.1 _ _ = μ.2.1 _ _; rw [h.1])
theorem any_succ {k : Nat} {f : Nat → Bool} : (List.range (k + 1)).any f = ((List.range k).any f || f k) := by rw [List.range_succ, List.any_append]; simp
theorem kn_safely (hS : ShM μ) (hL : LmH μ 1 1600 d) (hW : Wf d) {ride : Nat → Nat} (hri : ∀ h, h < 12 → mI μ 228 h = nI (ride h) ∧ ride h < 49) {h f t : Nat} (hh : h + 1 < 12) (hft : f + t = 1) {P : Nat → Bool} (hP : ∀ c, c < 49 → mI μ 229 (49 * f + c) = bI (P c)) : AMet l G 3 0 0 mtX13_safely [.ref (G.1 + 179), .int (nI h), .int (nI f), .int (nI t)] μ (qV (fun μ' => (∀ e, e < 49 → mI μ' 229 (49 * t + e) = bI ((List.range 49).any (fun c => P c && (nb1 d c e && stpO ride h c e)))) ∧ CbF t μ μ')) := by
  refine AMet.of (by decide) (Nat.le_of_ble_eq_true rfl) (fun X C hX hnm hq => ?_)
  have hS1 := hS
  have vb0 : vp_nar .boolean (nI 0) = nI 0 := rfl
  have vb1 : vp_nar .boolean (nI 1) = nI 1 := rfl
  have outer : ∀ (j c : Nat) (μ1 : Mm), c + j = 49 → CbF t μ μ1 → (∀ e, e < 49 → mI μ1 229 (49 * t + e) = bI ((List.range c).any (fun c => P c && (nb1 d c e && stpO ride h c e)))) → AW l G X 0 0 32 [(0, .ref (G.1 + 179)), (1, .int (nI h)), (2, .int (nI f)), (3, .int (nI t)), (4, .int (nI c))] [] μ1 := by
    intro j
    induction j with
    | zero =>
      intro c μ1 hc hT hE
      refine C.iload dX13_safely_32 4 rfl ?_
      refine C.bipush (nI 49) dX13_safely_34 (by decide) ?_
      refine C.icmp_ge 148 dX13_safely_36 rfl (fun hc36 => ?_) (fun hc36 => ?_)
      · refine C.vret hq dX13_safely_148 ?_
        exact ⟨by rw [show c = 49 by omega] at hE; exact hE, hT⟩
      · have := n_nle (a := 49) (b := c) hc36; omega
    | succ j ih =>
      intro c μ1 hc hT hE
      have nxt : ∀ (μ2 : Mm), CbF t μ μ2 → (∀ e, e < 49 → mI μ2 229 (49 * t + e) = bI ((List.range (c + 1)).any (fun c => P c && (nb1 d c e && stpO ride h c e)))) → AW l G X 0 0 142 [(0, .ref (G.1 + 179)), (1, .int (nI h)), (2, .int (nI f)), (3, .int (nI t)), (4, .int (nI c))] [] μ2 := by
        intro μ2 hT2 hE2
        refine C.iinc (lv' := [(0, _), (1, _), (2, _), (3, _), (4, _)]) _ dX13_safely_142 4 rfl rfl (nLt hX rfl) rfl ?_
        refine C.goto 32 dX13_safely_145 rfl ?_
        have hgo := ih (c + 1) μ2 (by omega) hT2 hE2
        rw [← nI_1] at hgo
        exact hgo
      have hS : ShM μ1 := hS1.of (by rw [hT.1])
      have hPc : mI μ1 229 (49 * f + c) = bI (P c) := by rw [hT.2 _ _ (by omega)]; exact hP c (by omega)
      have inner : ∀ (i w : Nat) (μ2 : Mm), P c = true → w + i = 9 → CbF t μ μ2 → (∀ e, e < 49 → mI μ2 229 (49 * t + e) = bI ((List.range c).any (fun c => P c && (nb1 d c e && stpO ride h c e)) || ((List.range w).any (fun w => decide (cb d c w = some e)) && stpO ride h c e))) → AW l G X 0 0 60 [(0, .ref (G.1 + 179)), (1, .int (nI h)), (2, .int (nI f)), (3, .int (nI t)), (4, .int (nI c)), (5, .int (nI w))] [] μ2 := by
        intro i
        induction i with
        | zero =>
          intro w μ2 hPt hw hT2 hE2
          refine C.iload dX13_safely_60 5 rfl ?_
          refine C.bipush (nI 8) dX13_safely_62 (by decide) ?_
          refine C.icmp_gt 142 dX13_safely_64 rfl (fun hc64 => ?_) (fun hc64 => ?_)
          · refine AW.pick [0, 1, 2, 3, 4] rfl (nxt μ2 hT2 (fun e he => ?_))
            rw [hE2 e he, any_succ, hPt, show w = 9 by omega]
            rfl
          · have := n_nlt (a := 8) (b := w) hc64; omega
        | succ i ihw =>
          intro w μ2 hPt hw hT2 hE2
          have hS : ShM μ2 := hS1.of (by rw [hT2.1])
          have hL2 := hT2.lm hL
          have r1 : ∀ k, k < 12 → mI μ2 228 k = nI (ride k) := fun k hk => by rw [hT2.2 _ _ (by omega)]; exact (hri k hk).1
          have ra := (hri (h + 1) (by omega)).2
          have rb := (hri h (by omega)).2
          have nxw : ∀ (μ3 : Mm) (x6 : Int32), CbF t μ μ3 → (∀ e, e < 49 → mI μ3 229 (49 * t + e) = bI ((List.range c).any (fun c => P c && (nb1 d c e && stpO ride h c e)) || ((List.range (w + 1)).any (fun w => decide (cb d c w = some e)) && stpO ride h c e))) → AW l G X 0 0 136 [(0, .ref (G.1 + 179)), (1, .int (nI h)), (2, .int (nI f)), (3, .int (nI t)), (4, .int (nI c)), (5, .int (nI w)), (6, .int x6)] [] μ3 := by
            intro μ3 x6 hT3 hE3
            refine C.iinc (lv' := [(0, _), (1, _), (2, _), (3, _), (4, _), (5, _), (6, _)]) _ dX13_safely_136 5 rfl rfl (nLt hX rfl) rfl ?_
            refine C.goto 60 dX13_safely_139 rfl ?_
            have hgo := ihw (w + 1) μ3 hPt (by omega) hT3 hE3
            rw [← nI_1] at hgo
            exact AW.pick [0, 1, 2, 3, 4, 5] rfl hgo
          -- nothing new
          have same : (∀ e, e < 49 → cb d c w = some e → stpO ride h c e = false) → ∀ x6 : Int32, AW l G X 0 0 136 [(0, .ref (G.1 + 179)), (1, .int (nI h)), (2, .int (nI f)), (3, .int (nI t)), (4, .int (nI c)), (5, .int (nI w)), (6, .int x6)] [] μ2 := by
            intro hno x6
            refine nxw μ2 x6 hT2 (fun e he => ?_)
            rw [hE2 e he, any_succ]
            by_cases q : cb d c w = some e
            · rw [hno e he q]; simp
            · rw [decide_eq_false q]; simp
          refine C.iload dX13_safely_60 5 rfl ?_
          refine C.bipush (nI 8) dX13_safely_62 (by decide) ?_
          refine C.icmp_gt 142 dX13_safely_64 rfl (fun hc64 => ?_) (fun hc64 => ?_)
          · have := n_lt (a := 8) (b := w) hc64; omega
          · refine C.aload_n dX13_safely_67 0 rfl ?_
            refine C.iload dX13_safely_68 4 rfl ?_
            refine C.iload dX13_safely_70 5 rfl ?_
            refine C.callVI lX13_467 dX13_safely_72 (kg_cellBy hS hL2 hW (show c < 49 by omega) (show w ≤ 8 by omega)) hS.o rfl rfl (Nat.le_of_ble_eq_true rfl) (Nat.zero_le _) (Nat.zero_le _) (Nat.le_of_ble_eq_true rfl) (fun x72 μ72 h72 => ?_)
            obtain ⟨rfl, hμ⟩ := h72
            subst hμ
            cases hcb : cb d c w with
            | none =>
              refine C.istore (lv' := [(0, _), (1, _), (2, _), (3, _), (4, _), (5, _), (6, _)]) dX13_safely_75 (nLt hX rfl) rfl ?_
              refine C.iload dX13_safely_77 6 rfl ?_
              refine C.iconst (-1) dX13_safely_79 (by decide) ?_
              refine C.icmp_eq 136 dX13_safely_80 rfl (fun hc80 => ?_) (fun hc80 => absurd rfl hc80)
              exact same (fun e _ q => by rw [hcb] at q; cases q) _
            | some x =>
            have hx49 := clOk_lt hW (cb_ok hW hcb)
            have only : stpO ride h c x = false → ∀ e, e < 49 → cb d c w = some e → stpO ride h c e = false := fun q e _ q2 => by rw [hcb] at q2; have := Option.some.inj q2; subst this; exact q
            change AW l G X _ _ _ _ [Value.int (nI x)] _
            refine C.istore (lv' := [(0, _), (1, _), (2, _), (3, _), (4, _), (5, _), (6, _)]) dX13_safely_75 (nLt hX rfl) rfl ?_
            refine C.iload dX13_safely_77 6 rfl ?_
            refine C.iconst (-1) dX13_safely_79 (by decide) ?_
            refine C.icmp_eq 136 dX13_safely_80 rfl (fun hc80 => ?_) (fun hc80 => ?_)
            · exact absurd hc80 (n_m1 (by omega))
            · refine C.iload dX13_safely_83 6 rfl ?_
              refine C.aload_n dX13_safely_85 0 rfl ?_
              refine C.getA fX13_160 dX13_safely_86 hS.o hS.r65 ?_
              refine C.iload_n dX13_safely_89 1 rfl ?_
              refine C.iconst (nI 1) dX13_safely_90 (by decide) ?_
              refine C.iadd dX13_safely_91 ?_
              rw [nI_add]
              refine C.iald hS.a65 (n_in (by omega)) dX13_safely_92 ?_
              rw [n_cl, r1 (h + 1) (by omega)]
              refine C.icmp_eq 136 dX13_safely_93 rfl (fun hc93 => ?_) (fun hc93 => ?_)
              · have e1 : x = ride (h + 1) := n_eq hc93
                exact same (only (by unfold stpO; rw [decide_eq_true e1]; rfl)) _
              · have e1 : ¬ x = ride (h + 1) := n_ne hc93
                refine C.iload dX13_safely_96 6 rfl ?_
                refine C.aload_n dX13_safely_98 0 rfl ?_
                refine C.getA fX13_160 dX13_safely_99 hS.o hS.r65 ?_
                refine C.iload_n dX13_safely_102 1 rfl ?_
                refine C.iald hS.a65 (n_in (by omega)) dX13_safely_103 ?_
                rw [n_cl, r1 h (by omega)]
                refine C.icmp_ne 123 dX13_safely_104 rfl (fun hc104 => ?_) (fun hc104 => ?_)
                · have e2 : ¬ x = ride h := n_ne hc104
                  have hok : stpO ride h c x = true := by unfold stpO; rw [decide_eq_false e1, decide_eq_false e2]; rfl
                  refine C.aload_n dX13_safely_123 0 rfl ?_
                  refine C.getA fX13_166 dX13_safely_124 hS.o hS.r71 ?_
                  refine C.bipush (nI 49) dX13_safely_127 (by decide) ?_
                  refine C.iload_n dX13_safely_129 3 rfl ?_
                  refine C.imul dX13_safely_130 ?_
                  rw [pk_mul]
                  refine C.iload dX13_safely_131 6 rfl ?_
                  refine C.iadd dX13_safely_133 ?_
                  rw [nI_add]
                  refine C.iconst (nI 1) dX13_safely_134 (by decide) ?_
                  refine C.zast hS.a71 (n_in (by omega)) dX13_safely_135 ?_
                  first | skip
                  rw [n_cl, vb1]
                  refine nxw _ _ (hT2.st hx49 _) (fun e he => ?_)
                  rw [mI_sI, any_succ]
                  by_cases q : e = x
                  · rw [if_pos ⟨rfl, by omega⟩, q, hok, hcb]; simp; rfl
                  · rw [if_neg (by omega), hE2 e he, hcb, decide_eq_false (fun z => q (Option.some.inj z).symm)]; simp
                · have e2 : x = ride h := n_eq hc104
                  refine C.iload dX13_safely_107 4 rfl ?_
                  refine C.aload_n dX13_safely_109 0 rfl ?_
                  refine C.getA fX13_160 dX13_safely_110 hS.o hS.r65 ?_
                  refine C.iload_n dX13_safely_113 1 rfl ?_
                  refine C.iconst (nI 1) dX13_safely_114 (by decide) ?_
                  refine C.iadd dX13_safely_115 ?_
                  rw [nI_add]
                  refine C.iald hS.a65 (n_in (by omega)) dX13_safely_116 ?_
                  rw [n_cl, r1 (h + 1) (by omega)]
                  refine C.icmp_ne 123 dX13_safely_117 rfl (fun hc117 => ?_) (fun hc117 => ?_)
                  · have e3 : ¬ c = ride (h + 1) := n_ne hc117
                    have hok : stpO ride h c x = true := by unfold stpO; rw [decide_eq_false e1, decide_eq_false e3]; simp
                    refine C.aload_n dX13_safely_123 0 rfl ?_
                    refine C.getA fX13_166 dX13_safely_124 hS.o hS.r71 ?_
                    refine C.bipush (nI 49) dX13_safely_127 (by decide) ?_
                    refine C.iload_n dX13_safely_129 3 rfl ?_
                    refine C.imul dX13_safely_130 ?_
                    rw [pk_mul]
                    refine C.iload dX13_safely_131 6 rfl ?_
                    refine C.iadd dX13_safely_133 ?_
                    rw [nI_add]
                    refine C.iconst (nI 1) dX13_safely_134 (by decide) ?_
                    refine C.zast hS.a71 (n_in (by omega)) dX13_safely_135 ?_
                    first | skip
                    rw [n_cl, vb1]
                    refine nxw _ _ (hT2.st hx49 _) (fun e he => ?_)
                    rw [mI_sI, any_succ]
                    by_cases q : e = x
                    · rw [if_pos ⟨rfl, by omega⟩, q, hok, hcb]; simp; rfl
                    · rw [if_neg (by omega), hE2 e he, hcb, decide_eq_false (fun z => q (Option.some.inj z).symm)]; simp
                  · have e3 : c = ride (h + 1) := n_eq hc117
                    refine C.goto 136 dX13_safely_120 rfl ?_
                    exact same (only (by unfold stpO; rw [decide_eq_true e2, decide_eq_true e3]; simp)) _
      refine C.iload dX13_safely_32 4 rfl ?_
      refine C.bipush (nI 49) dX13_safely_34 (by decide) ?_
      refine C.icmp_ge 148 dX13_safely_36 rfl (fun hc36 => ?_) (fun hc36 => ?_)
      · have := n_le (a := 49) (b := c) hc36; omega
      · refine C.aload_n dX13_safely_39 0 rfl ?_
        refine C.getA fX13_166 dX13_safely_40 hS.o hS.r71 ?_
        refine C.bipush (nI 49) dX13_safely_43 (by decide) ?_
        refine C.iload_n dX13_safely_45 2 rfl ?_
        refine C.imul dX13_safely_46 ?_
        rw [pk_mul]
        refine C.iload dX13_safely_47 4 rfl ?_
        refine C.iadd dX13_safely_49 ?_
        rw [nI_add]
        refine C.zald hS.a71 (n_in (by omega)) dX13_safely_50 ?_
        rw [n_cl, hPc]
        refine C.if_ne 57 dX13_safely_51 rfl (fun hc51 => ?_) (fun hc51 => ?_)
        · have hz := b_t hc51
          refine C.iconst (nI 0) dX13_safely_57 (by decide) ?_
          refine C.istore (lv' := [(0, _), (1, _), (2, _), (3, _), (4, _), (5, _)]) dX13_safely_58 (nLt hX rfl) rfl ?_
          exact inner 9 0 μ1 hz (by omega) hT (fun e he => by rw [hE e he]; simp)
        · have hz := (bI_0 _).mp hc51
          refine C.goto 142 dX13_safely_54 rfl ?_
          refine nxt μ1 hT (fun e he => ?_)
          rw [hE e he, any_succ, hz]
          simp
  have clr : ∀ (j c : Nat) (μ1 : Mm), c + j = 49 → CbF t μ μ1 → (∀ e, e < c → mI μ1 229 (49 * t + e) = nI 0) → AW l G X 0 0 3 [(0, .ref (G.1 + 179)), (1, .int (nI h)), (2, .int (nI f)), (3, .int (nI t)), (4, .int (nI c))] [] μ1 := by
    intro j
    induction j with
    | zero =>
      intro c μ1 hc hT hE
      refine C.iload dX13_safely_3 4 rfl ?_
      refine C.bipush (nI 49) dX13_safely_5 (by decide) ?_
      refine C.icmp_ge 29 dX13_safely_7 rfl (fun hc7 => ?_) (fun hc7 => ?_)
      · refine C.iconst (nI 0) dX13_safely_29 (by decide) ?_
        refine C.istore (lv' := [(0, _), (1, _), (2, _), (3, _), (4, _)]) dX13_safely_30 (nLt hX rfl) rfl ?_
        exact outer 49 0 μ1 (by omega) hT (fun e he => by rw [hE e (by omega)]; rfl)
      · have := n_nle (a := 49) (b := c) hc7; omega
    | succ j ih =>
      intro c μ1 hc hT hE
      have hS : ShM μ1 := hS1.of (by rw [hT.1])
      refine C.iload dX13_safely_3 4 rfl ?_
      refine C.bipush (nI 49) dX13_safely_5 (by decide) ?_
      refine C.icmp_ge 29 dX13_safely_7 rfl (fun hc7 => ?_) (fun hc7 => ?_)
      · have := n_le (a := 49) (b := c) hc7; omega
      · refine C.aload_n dX13_safely_10 0 rfl ?_
        refine C.getA fX13_166 dX13_safely_11 hS.o hS.r71 ?_
        refine C.bipush (nI 49) dX13_safely_14 (by decide) ?_
        refine C.iload_n dX13_safely_16 3 rfl ?_
        refine C.imul dX13_safely_17 ?_
        rw [pk_mul]
        refine C.iload dX13_safely_18 4 rfl ?_
        refine C.iadd dX13_safely_20 ?_
        rw [nI_add]
        refine C.iconst (nI 0) dX13_safely_21 (by decide) ?_
        refine C.zast hS.a71 (n_in (by omega)) dX13_safely_22 ?_
        rw [n_cl, vb0]
        refine C.iinc (lv' := [(0, _), (1, _), (2, _), (3, _), (4, _)]) _ dX13_safely_23 4 rfl rfl (nLt hX rfl) rfl ?_
        refine C.goto 3 dX13_safely_26 rfl ?_
        have hgo := ih (c + 1) (sI μ1 229 (49 * t + c) (nI 0)) (by omega) (hT.st (by omega) _) (fun e he => by rw [mI_sI]; by_cases q : e = c; rw [if_pos ⟨rfl, by omega⟩]; rw [if_neg (by omega)]; exact hE e (by omega))
        rw [← nI_1] at hgo
        exact hgo
  refine C.iconst (nI 0) dX13_safely_0 (by decide) ?_
  refine C.istore (lv' := [(0, _), (1, _), (2, _), (3, _), (4, _)]) dX13_safely_1 (nLt hX rfl) rfl ?_
  exact clr 49 0 μ (by omega) CbF.refl (fun e he => by omega)
end KSF
section KSF2
variable {l : Launch} {G : Gm} {μ : Mm} {h : Hs}
/-- the ride is laid, the row of cells may have changed -/
def TmS (μ μ' : Mm) : Prop := μ'.2.2 = μ.2.2 ∧ (∀ a k, ¬ (a = 179 ∧ pW k) → a ≠ 228 → a ≠ 229 → mI μ' a k = mI μ a k) ∧ (∀ a k, a ≠ 257 → mL μ' a k = mL μ a k)
theorem RefRel.tmS {μ' : Mm} (hR : RefRel μ h) (t : TmS μ μ') : PR μ h μ' := ⟨hR.of t.1 (fun a k q => t.2.1 a k (fun z => by unfold KpI at q; unfold pW at z; omega) (by unfold KpI at q; omega) (by unfold KpI at q; omega)) (fun k _ => t.2.2 217 k (by decide)) (t.2.2 179 78 (by decide)), ⟨t.1, fun a k q => ⟨t.2.1 a k (by omega) (by omega) (by omega), t.2.2 a k (by omega)⟩⟩⟩
theorem TmS.ofR {μ' : Mm} (t : TmR μ μ') : TmS μ μ' := ⟨t.1, fun a k q q2 _ => t.2.1 a k q q2, t.2.2⟩
theorem TmS.cb {μ' μ'' : Mm} {u : Nat} (t : TmS μ μ') (c : CbF u μ' μ'') : TmS μ μ'' := ⟨by rw [c.1]; exact t.1, fun a k q q2 q3 => by rw [c.2 a k (fun z => q3 z.1)]; exact t.2.1 a k q q2 q3, fun a k q => by rw [show mL μ'' = mL μ' from by unfold mL; rw [c.1]]; exact t.2.2 a k q⟩
theorem TmS.st {μ' : Mm} (t : TmS μ μ') (k : Nat) (v : Int32) : TmS μ (sI μ' 229 k v) := ⟨t.1, fun a j q q2 q3 => by rw [mI_sI, if_neg (fun z => q3 z.1)]; exact t.2.1 a j q q2 q3, t.2.2⟩
theorem LmH.s229 {d : Ld} (hL : LmH μ 1 1600 d) (k : Nat) (v : Int32) : LmH (sI μ 229 k v) 1 1600 d := hL.of (fun a j q _ _ => by rw [mI_sI, if_neg (by omega)]) (fun a j q _ => by rw [mI_sI, if_neg (by omega)]) (fun j _ => by rw [mI_sI, if_neg (by omega)]) (fun j _ => by rw [mI_sI, if_neg (by omega)]) (fun j _ => rfl)
theorem kr_safe (hR : RefRel μ h) (hH : HOk h) (x : Int32) : AMet l G 7 0 0 mtX13_safe [.ref (G.1 + 179), .int x] μ (qI (fun z μ' => z = safeA h x ∧ PR μ h μ')) := by
  refine AMet.of (by decide) (Nat.le_of_ble_eq_true rfl) (fun X C hX hnm hq => ?_)
  have hS := hR.1.1
  have hL := hR.2.2.2.2.1.1
  have sm := hH.1.1.sm
  have vb0 : vp_nar .boolean (nI 0) = nI 0 := rfl
  have vb1 : vp_nar .boolean (nI 1) = nI 1 := rfl
  unfold safeA at hq
  have m14 : ∀ (w : Nat) (μ1 : Mm), w < (ldH h).2.2.2.1.length → inN x (ldH h).2.2.2.1.length = some w → Wf (ldH h) → (∀ k, k < 12 → mI μ1 228 k = nI (ridH h k) ∧ ridH h k < 49) → TmR μ μ1 → AW l G X 0 0 14 [(0, .ref (G.1 + 179)), (1, .int (nI w))] [] μ1 := by
    intro w μ1 hw hin hW hri hT
    rw [hin] at hq
    dsimp only at hq
    have c1 := clOk_lt hW (hW.walkF hw)
    have c2 := clOk_lt hW (hW.walkT hw)
    have hS1 : ShM μ1 := hT.sh hS
    have hL1 := hT.lm hL
    obtain ⟨g1, g2⟩ := hL1.walk hw
    have hT0 := TmS.ofR hT
    clear hT
    generalize hride : ridH h = ride at *
    generalize hhm : walkF (ldH h) w = home at *
    generalize hgl : walkT (ldH h) w = goal at *
    generalize hK : fsF (fun k => rchF (ldH h) ride home k goal) 12 0 = K at hq
    have w6 := sm.2.2.2.2
    have hours : ∀ (j k : Nat) (μ2 : Mm), k + j = 12 → fsF (fun k => rchF (ldH h) ride home k goal) j k = K → TmS μ μ2 → LmH μ2 1 1600 (ldH h) → (∀ h, h < 12 → mI μ2 228 h = nI (ride h) ∧ ride h < 49) → (k < 12 → ∀ c, c < 49 → mI μ2 229 (49 * (k % 2) + c) = bI (rchF (ldH h) ride home k c)) → AW l G X 0 0 90 [(0, .ref (G.1 + 179)), (1, .int (nI w)), (2, .int (nI goal)), (3, .int (nI k))] [] μ2 := by
      intro j
      induction j with
      | zero =>
        intro k μ2 hk hv hT1 hL2 hr1 hB
        refine C.iload_n dX13_safe_90 3 rfl ?_
        refine C.bipush (nI 12) dX13_safe_91 (by decide) ?_
        refine C.icmp_ge 141 dX13_safe_93 rfl (fun hc93 => ?_) (fun hc93 => ?_)
        · refine C.iconst (-1) dX13_safe_141 (by decide) ?_
          refine C.iret hq dX13_safe_142 ?_
          exact ⟨by rw [← hv]; rfl, hR.tmS hT1⟩
        · have := n_nle (a := 12) (b := k) hc93; omega
      | succ j ih =>
        intro k μ2 hk hv hT1 hL2 hr1 hB
        have hS : ShM μ2 := hS.of hT1.1
        have hB := hB (by omega)
        unfold fsF at hv
        have hk2 := Nat.mod_lt k (by decide : 0 < 2)
        have nxt : ∀ μ3 : Mm, fsF (fun k => rchF (ldH h) ride home k goal) j (k + 1) = K → TmS μ μ3 → LmH μ3 1 1600 (ldH h) → (∀ h, h < 12 → mI μ3 228 h = nI (ride h) ∧ ride h < 49) → (k + 1 < 12 → ∀ c, c < 49 → mI μ3 229 (49 * ((k + 1) % 2) + c) = bI (rchF (ldH h) ride home (k + 1) c)) → AW l G X 0 0 135 [(0, .ref (G.1 + 179)), (1, .int (nI w)), (2, .int (nI goal)), (3, .int (nI k))] [] μ3 := by
          intro μ3 q1 q2 q3 q4 q5
          refine C.iinc (lv' := [(0, _), (1, _), (2, _), (3, _)]) _ dX13_safe_135 3 rfl rfl (nLt hX rfl) rfl ?_
          refine C.goto 90 dX13_safe_138 rfl ?_
          have hgo := ih (k + 1) μ3 (by omega) q1 q2 q3 q4 q5
          rw [← nI_1] at hgo
          exact hgo
        refine C.iload_n dX13_safe_90 3 rfl ?_
        refine C.bipush (nI 12) dX13_safe_91 (by decide) ?_
        refine C.icmp_ge 141 dX13_safe_93 rfl (fun hc93 => ?_) (fun hc93 => ?_)
        · have := n_le (a := 12) (b := k) hc93; omega
        · refine C.aload_n dX13_safe_96 0 rfl ?_
          refine C.getA fX13_166 dX13_safe_97 hS.o hS.r71 ?_
          refine C.bipush (nI 49) dX13_safe_100 (by decide) ?_
          refine C.iload_n dX13_safe_102 3 rfl ?_
          refine C.iconst (nI 2) dX13_safe_103 (by decide) ?_
          refine C.irem dX13_safe_104 (by decide) ?_
          rw [pk_rem (by omega) (by decide) (by decide)]
          refine C.imul dX13_safe_105 ?_
          rw [pk_mul]
          refine C.iload_n dX13_safe_106 2 rfl ?_
          refine C.iadd dX13_safe_107 ?_
          rw [nI_add]
          refine C.zald hS.a71 (n_in (by omega)) dX13_safe_108 ?_
          rw [n_cl, hB goal (by omega)]
          refine C.if_eq 114 dX13_safe_109 rfl (fun hc109 => ?_) (fun hc109 => ?_)
          · have hz := (bI_0 _).mp hc109
            rw [hz] at hv
            refine C.iload_n dX13_safe_114 3 rfl ?_
            refine C.iconst (nI 1) dX13_safe_115 (by decide) ?_
            refine C.iadd dX13_safe_116 ?_
            rw [nI_add]
            refine C.bipush (nI 12) dX13_safe_117 (by decide) ?_
            refine C.icmp_ge 135 dX13_safe_119 rfl (fun hc119 => ?_) (fun hc119 => ?_)
            · have hge := n_le (a := 12) (b := k + 1) hc119
              exact nxt μ2 hv hT1 hL2 hr1 (fun q => by omega)
            · have hlt := n_nle (a := 12) (b := k + 1) hc119
              refine C.aload_n dX13_safe_122 0 rfl ?_
              refine C.iload_n dX13_safe_123 3 rfl ?_
              refine C.iload_n dX13_safe_124 3 rfl ?_
              refine C.iconst (nI 2) dX13_safe_125 (by decide) ?_
              refine C.irem dX13_safe_126 (by decide) ?_
              rw [pk_rem (by omega) (by decide) (by decide)]
              refine C.iconst (nI 1) dX13_safe_127 (by decide) ?_
              refine C.iload_n dX13_safe_128 3 rfl ?_
              refine C.iconst (nI 2) dX13_safe_129 (by decide) ?_
              refine C.irem dX13_safe_130 (by decide) ?_
              rw [pk_rem (by omega) (by decide) (by decide)]
              refine C.isub dX13_safe_131 ?_
              rw [pk_sub (by omega)]
              refine C.callVV lX13_564 dX13_safe_132 (kn_safely hS hL2 hW hr1 (h := k) (f := k % 2) (t := 1 - k % 2) (by omega) (by omega) hB) hS.o rfl rfl (Nat.le_of_ble_eq_true rfl) (Nat.zero_le _) (Nat.zero_le _) (Nat.le_of_ble_eq_true rfl) (fun μ132 h132 => ?_)
              obtain ⟨z1, z2⟩ := h132
              refine nxt μ132 hv (hT1.cb z2) (z2.lm hL2) (fun i hi => ⟨by rw [z2.2 _ _ (by omega)]; exact (hr1 i hi).1, (hr1 i hi).2⟩) (fun _ c hc => ?_)
              rw [show (k + 1) % 2 = 1 - k % 2 by omega, z1 c hc]
              rfl
          · have hz := b_t hc109
            rw [hz] at hv
            refine C.iload_n dX13_safe_112 3 rfl ?_
            refine C.iret hq dX13_safe_113 ?_
            exact ⟨by rw [← hv]; rfl, hR.tmS hT1⟩
    have m87 : ∀ (μ2 : Mm) (v : Bool), v = !decide (home = ride 0) → TmS μ μ2 → LmH μ2 1 1600 (ldH h) → (∀ h, h < 12 → mI μ2 228 h = nI (ride h) ∧ ride h < 49) → (∀ k, k < 98 → mI μ2 229 k = nI 0) → ∀ x3 : Int32, AW l G X 0 0 87 [(0, .ref (G.1 + 179)), (1, .int (nI w)), (2, .int (nI goal)), (3, .int x3)] [.int (bI v), .int (nI home), .ref (G.1 + 229)] μ2 := by
      intro μ2 v hv hT1 hL2 hr1 hz x3
      have hS : ShM μ2 := hS.of hT1.1
      refine C.zast hS.a71 (n_in (by omega)) dX13_safe_87 ?_
      rw [n_cl, show vp_nar .boolean (bI v) = bI v by cases v <;> rfl]
      refine C.iconst (nI 0) dX13_safe_88 (by decide) ?_
      refine C.istore_n (lv' := [(0, _), (1, _), (2, _), (3, _)]) dX13_safe_89 (nLt hX rfl) rfl ?_
      refine hours 12 0 _ rfl hK (hT1.st _ _) (hL2.s229 _ _) (fun i hi => ⟨by rw [mI_sI, if_neg (by omega)]; exact (hr1 i hi).1, (hr1 i hi).2⟩) (fun _ c hc => ?_)
      rw [mI_sI]
      unfold rchF
      by_cases q : c = home
      · rw [if_pos ⟨rfl, by omega⟩, decide_eq_true q, hv]; rfl
      · rw [if_neg (by omega), decide_eq_false q, hz _ (by omega)]; rfl
    have clr : ∀ (j k : Nat) (μ2 : Mm), k + j = 98 → TmS μ μ2 → LmH μ2 1 1600 (ldH h) → (∀ h, h < 12 → mI μ2 228 h = nI (ride h) ∧ ride h < 49) → (∀ i, i < k → mI μ2 229 i = nI 0) → AW l G X 0 0 28 [(0, .ref (G.1 + 179)), (1, .int (nI w)), (2, .int (nI goal)), (3, .int (nI k))] [] μ2 := by
      intro j
      induction j with
      | zero =>
        intro k μ2 hk hT1 hL2 hr1 hz
        have hS : ShM μ2 := hS.of hT1.1
        obtain ⟨g1, g2⟩ := hL2.walk hw
        rw [hhm] at g1
        refine C.iload_n dX13_safe_28 3 rfl ?_
        refine C.bipush (nI 98) dX13_safe_29 (by decide) ?_
        refine C.icmp_ge 47 dX13_safe_31 rfl (fun hc31 => ?_) (fun hc31 => ?_)
        · refine C.aload_n dX13_safe_47 0 rfl ?_
          refine C.getA fX13_166 dX13_safe_48 hS.o hS.r71 ?_
          refine C.aload_n dX13_safe_51 0 rfl ?_
          refine C.getA fX13_136 dX13_safe_52 hS.o hS.r50 ?_
          refine C.bipush (nI 30) dX13_safe_55 (by decide) ?_
          refine C.iconst (nI 5) dX13_safe_57 (by decide) ?_
          refine C.iload_n dX13_safe_58 1 rfl ?_
          refine C.imul dX13_safe_59 ?_
          rw [pk_mul]
          refine C.iadd dX13_safe_60 ?_
          rw [nI_add]
          refine C.iald hS.a50 (n_in (by omega)) dX13_safe_61 ?_
          rw [n_cl, g1]
          refine C.aload_n dX13_safe_62 0 rfl ?_
          refine C.getA fX13_136 dX13_safe_63 hS.o hS.r50 ?_
          refine C.bipush (nI 30) dX13_safe_66 (by decide) ?_
          refine C.iconst (nI 5) dX13_safe_68 (by decide) ?_
          refine C.iload_n dX13_safe_69 1 rfl ?_
          refine C.imul dX13_safe_70 ?_
          rw [pk_mul]
          refine C.iadd dX13_safe_71 ?_
          rw [nI_add]
          refine C.iald hS.a50 (n_in (by omega)) dX13_safe_72 ?_
          rw [n_cl, g1]
          refine C.aload_n dX13_safe_73 0 rfl ?_
          refine C.getA fX13_160 dX13_safe_74 hS.o hS.r65 ?_
          refine C.iconst (nI 0) dX13_safe_77 (by decide) ?_
          refine C.iald hS.a65 (n_in (by decide)) dX13_safe_78 ?_
          rw [n_cl, (hr1 0 (by decide)).1]
          refine C.icmp_eq 86 dX13_safe_79 rfl (fun hc79 => ?_) (fun hc79 => ?_)
          · have e1 : home = ride 0 := n_eq hc79 (by omega) (by have := (hr1 0 (by decide)).2; omega)
            refine C.iconst (nI 0) dX13_safe_86 (by decide) ?_
            first | exact m87 μ2 false (by rw [decide_eq_true e1]; rfl) hT1 hL2 hr1 (fun i hi => hz i (by omega)) _ | exact m87 μ2 true (by rw [decide_eq_false e1]; rfl) hT1 hL2 hr1 (fun i hi => hz i (by omega)) _
          · have e1 : ¬ home = ride 0 := n_ne hc79
            refine C.iconst (nI 1) dX13_safe_82 (by decide) ?_
            refine C.goto 87 dX13_safe_83 rfl ?_
            first | exact m87 μ2 false (by rw [decide_eq_true e1]; rfl) hT1 hL2 hr1 (fun i hi => hz i (by omega)) _ | exact m87 μ2 true (by rw [decide_eq_false e1]; rfl) hT1 hL2 hr1 (fun i hi => hz i (by omega)) _
        · have := n_nle (a := 98) (b := k) hc31; omega
      | succ j ih =>
        intro k μ2 hk hT1 hL2 hr1 hz
        have hS : ShM μ2 := hS.of hT1.1
        refine C.iload_n dX13_safe_28 3 rfl ?_
        refine C.bipush (nI 98) dX13_safe_29 (by decide) ?_
        refine C.icmp_ge 47 dX13_safe_31 rfl (fun hc31 => ?_) (fun hc31 => ?_)
        · have := n_le (a := 98) (b := k) hc31; omega
        · refine C.aload_n dX13_safe_34 0 rfl ?_
          refine C.getA fX13_166 dX13_safe_35 hS.o hS.r71 ?_
          refine C.iload_n dX13_safe_38 3 rfl ?_
          refine C.iconst (nI 0) dX13_safe_39 (by decide) ?_
          refine C.zast hS.a71 (n_in (by omega)) dX13_safe_40 ?_
          rw [n_cl, vb0]
          refine C.iinc (lv' := [(0, _), (1, _), (2, _), (3, _)]) _ dX13_safe_41 3 rfl rfl (nLt hX rfl) rfl ?_
          refine C.goto 28 dX13_safe_44 rfl ?_
          have hgo := ih (k + 1) (sI μ2 229 k (nI 0)) (by omega) (hT1.st _ _) (hL2.s229 _ _) (fun i hi => ⟨by rw [mI_sI, if_neg (by omega)]; exact (hr1 i hi).1, (hr1 i hi).2⟩) (fun i hi => by rw [mI_sI]; by_cases q : i = k; rw [if_pos ⟨rfl, q⟩]; rw [if_neg (by omega)]; exact hz i (by omega))
          rw [← nI_1] at hgo
          exact hgo
    have hS : ShM μ1 := hS1
    refine C.aload_n dX13_safe_14 0 rfl ?_
    refine C.getA fX13_136 dX13_safe_15 hS.o hS.r50 ?_
    refine C.bipush (nI 31) dX13_safe_18 (by decide) ?_
    refine C.iconst (nI 5) dX13_safe_20 (by decide) ?_
    refine C.iload_n dX13_safe_21 1 rfl ?_
    refine C.imul dX13_safe_22 ?_
    rw [pk_mul]
    refine C.iadd dX13_safe_23 ?_
    rw [nI_add]
    refine C.iald hS.a50 (n_in (by omega)) dX13_safe_24 ?_
    rw [n_cl, g2]
    refine C.istore_n (lv' := [(0, _), (1, _), (2, _)]) dX13_safe_25 (nLt hX rfl) rfl ?_
    refine C.iconst (nI 0) dX13_safe_26 (by decide) ?_
    refine C.istore_n (lv' := [(0, _), (1, _), (2, _), (3, _)]) dX13_safe_27 (nLt hX rfl) rfl ?_
    exact clr 98 0 μ1 (by omega) hT0 hL1 hri (fun i hi => by omega)
  refine C.aload_n dX13_safe_0 0 rfl ?_
  refine C.iload_n dX13_safe_1 1 rfl ?_
  refine C.callVI lX13_557 dX13_safe_2 (kg_isWalker hS hL (by omega) x) hS.o rfl rfl (Nat.le_of_ble_eq_true rfl) (Nat.zero_le _) (Nat.zero_le _) (Nat.le_of_ble_eq_true rfl) (fun x2 μ2 h2 => ?_)
  obtain ⟨hx2, hμ⟩ := h2
  subst hμ
  have hi := isIn_f (by omega) hx2
  refine C.if_ne 10 dX13_safe_5 rfl (fun hc5 => ?_) (fun hc5 => ?_)
  · obtain ⟨w, hw, e, hin⟩ := hi.2 hc5
    have hW := hH.1.1.w2 hw
    refine C.aload_n dX13_safe_10 0 rfl ?_
    refine C.callVV lX13_516 dX13_safe_11 (kr_rides hR hH hW) hS.o rfl rfl (Nat.le_of_ble_eq_true rfl) (Nat.zero_le _) (Nat.zero_le _) (Nat.le_of_ble_eq_true rfl) (fun μ11 h11 => ?_)
    obtain ⟨hri, hT⟩ := h11
    first | skip
    subst e
    exact m14 w μ11 hw hin hW hri hT
  · rw [hi.1 hc5] at hq
    refine C.iconst (-1) dX13_safe_8 (by decide) ?_
    refine C.iret hq dX13_safe_9 ?_
    exact ⟨rfl, PR.self hR⟩
end KSF2
