/-! the reference: see, began, tells -/

def seeG (h : Hs) (k : Nat) : Bool := decide (txL (tpH h) (3 * k) < 12) && (decide (txL (tpH h) (3 * k + 1) < (ldH h).1.1) && decide (txL (tpH h) (3 * k + 2) < (ldH h).1.2.1))
def seeB (h : Hs) : Bool := decide (0 < (ldH h).1.1) && decide (0 < (tpH h).length ∧ (tpH h).length % 3 = 0 ∧ (tpH h).length / 3 ≤ 12)
def seeOk (h : Hs) : Bool := seeB h && (List.range ((tpH h).length / 3)).all (seeG h)
def seeR (h : Hs) : List (Nat × Nat) := (List.range ((tpH h).length / 3)).map (fun k => (txL (tpH h) (3 * k), txL (tpH h) (3 * k + 1) + 7 * txL (tpH h) (3 * k + 2)))
def seeA (h : Hs) : Int32 := if seeOk h then nI ((tpH h).length / 3) else -1
def seeH (h : Hs) : Hs := if seeOk h then ([], flH h, rfH h, ldH h, stH h, psH h, seeR h, ocH h, sdH h) else ([], flH h, upR (rfH h) 1, ldH h, stH h, psH h, rwH h, ocH h, sdH h)
def rK (h : Hs) (k : Nat) : Nat → Nat := rF (ldH h) (cls (ldH h) none (stH h).1.2) (stH h).1.1 (cK (ldH h) k)
def canB (h : Hs) (k : Nat) : Bool := !decide (cK (ldH h) k ∈ (ldH h).2.1) && (rwH h).all (fun r => decide (rK h k r.1 = r.2))
def bgS (h : Hs) (a : Nat × Option Nat × Option Nat) (k : Nat) : Nat × Option Nat × Option Nat := if canB h k then (a.1 + 1, (match a.2.1 with
  | none => some k
  | some z => some z), some k) else a
def bgL (h : Hs) : Nat → Nat → Nat × Option Nat × Option Nat → Nat × Option Nat × Option Nat
  | 0, _, a => a
  | n + 1, k, a => bgL h n (k + 1) (bgS h a k)
def beganA (h : Hs) (x : Int32) : Int32 := if 0 < (ldH h).1.1 then (match inN x 3 with
  | some 0 => nI (bgL h ((ldH h).1.1 * (ldH h).1.2.1) 0 (0, none, none)).1
  | some 1 => opI (bgL h ((ldH h).1.1 * (ldH h).1.2.1) 0 (0, none, none)).2.1
  | some _ => opI (bgL h ((ldH h).1.1 * (ldH h).1.2.1) 0 (0, none, none)).2.2
  | none => -1) else -1
section SEP
variable {h : Hs}
theorem cK_ok (hW : Wf (ldH h)) {k : Nat} (hk : k < (ldH h).1.1 * (ldH h).1.2.1) : clOk (ldH h) (cK (ldH h) k) := by
  have h1 := hW.1.1
  have h2 := hW.1.2.1
  have h3 := Nat.mod_lt k (show 0 < (ldH h).1.1 by omega)
  have h4 : k / (ldH h).1.1 < (ldH h).1.2.1 := (Nat.div_lt_iff_lt_mul (by omega)).mpr (by rw [Nat.mul_comm]; exact hk)
  unfold clOk cK
  generalize k % (ldH h).1.1 = a at *
  generalize k / (ldH h).1.1 = b at *
  omega
end SEP
section KSE
variable {l : Launch} {G : Gm} {μ : Mm} {h : Hs}
theorem txL_q {tp : List Nat} {j : Nat} (hj : j < tp.length) : tp[j]? = some (txL tp j) := getD_q hj 0
theorem kr_canBegin {μ1 : Mm} (hR : RefRel μ h) (hT : TmR μ μ1) (hH : HOk h) (hW : Wf (ldH h)) {k : Nat} (hk : k < (ldH h).1.1 * (ldH h).1.2.1) : AMet l G 6 0 0 mtX13_canBegin [.ref (G.1 + 179), .int (nI (cK (ldH h) k))] μ1 (qI (fun x μ' => x = bI (canB h k) ∧ TmR μ μ' ∧ (canB h k = true → ∀ i, i < 12 → mI μ' 228 i = nI (rK h k i) ∧ rK h k i < 49))) := by
  refine AMet.of (by decide) (Nat.le_of_ble_eq_true rfl) (fun X C hX hnm hq => ?_)
  have hR1 := (hR.tmR hT).1
  have hS := hR1.1.1
  have hL := hR1.2.2.2.2.1.1
  have sm := hH.1.1.sm
  have sw := hH.1.2.1
  have hr5 := two5 sw.2.1 sm.2.2.2.1
  have hcl := cK_ok hW hk
  have hc49 := clOk_lt hW hcl
  obtain ⟨w12, wok⟩ := hH.1.2.2.2.1
  unfold canB at hq
  have loop : ∀ (j i : Nat) (μ2 : Mm), i + j = (rwH h).length → TmR μ μ2 → ¬ cK (ldH h) k ∈ (ldH h).2.1 → (∀ i, i < 12 → mI μ2 228 i = nI (rK h k i) ∧ rK h k i < 49) → ((rwH h).take i).all (fun r => decide (rK h k r.1 = r.2)) = true → AW l G X 0 0 23 [(0, .ref (G.1 + 179)), (1, .int (nI (cK (ldH h) k))), (2, .int (nI i))] [] μ2 := by
    intro j
    induction j with
    | zero =>
      intro i μ2 hi hT2 hno hri ha
      have hR2 := (hR.tmR hT2).1
      have hS := hR2.1.1
      have h72 := hR2.2.2.2.2.2.2.2.1.1
      refine C.iload_n dX13_canBegin_23 2 rfl ?_
      refine C.aload_n dX13_canBegin_24 0 rfl ?_
      refine C.getI fX13_410 dX13_canBegin_25 hS.o ?_
      rw [h72]
      refine C.icmp_ge 65 dX13_canBegin_28 rfl (fun hc28 => ?_) (fun hc28 => ?_)
      · refine C.iconst (nI 1) dX13_canBegin_65 (by decide) ?_
        refine C.zret hq dX13_canBegin_66 (by decide) ?_
        rw [List.take_of_length_le (by omega)] at ha
        refine ⟨by rw [decide_eq_false hno, ha]; rfl, hT2, fun _ => hri⟩
      · have := n_nle hc28; omega
    | succ j ih =>
      intro i μ2 hi hT2 hno hri ha
      have hil : i < (rwH h).length := by omega
      have hR2 := (hR.tmR hT2).1
      have hS := hR2.1.1
      obtain ⟨h72, hrow⟩ := hR2.2.2.2.2.2.2.2.1
      have hg := getD_q hil (0, 0)
      obtain ⟨e1, e2⟩ := hrow i _ hg
      obtain ⟨o1, o2⟩ := wok _ (q_mem hg)
      have o3 := clOk_lt hW o2
      generalize hrr : (rwH h).getD i (0, 0) = r at *
      have hta : ((rwH h).take (i + 1)).all (fun r => decide (rK h k r.1 = r.2)) = decide (rK h k r.1 = r.2) := by
        rw [List.take_add_one, hg, List.all_append, ha]
        simp
      refine C.iload_n dX13_canBegin_23 2 rfl ?_
      refine C.aload_n dX13_canBegin_24 0 rfl ?_
      refine C.getI fX13_410 dX13_canBegin_25 hS.o ?_
      rw [h72]
      refine C.icmp_ge 65 dX13_canBegin_28 rfl (fun hc28 => ?_) (fun hc28 => ?_)
      · have := n_le hc28; omega
      · refine C.aload_n dX13_canBegin_31 0 rfl ?_
        refine C.getA fX13_160 dX13_canBegin_32 hS.o hS.r65 ?_
        refine C.aload_n dX13_canBegin_35 0 rfl ?_
        refine C.getA fX13_170 dX13_canBegin_36 hS.o hS.r73 ?_
        refine C.iconst (nI 2) dX13_canBegin_39 (by decide) ?_
        refine C.iload_n dX13_canBegin_40 2 rfl ?_
        refine C.imul dX13_canBegin_41 ?_
        rw [pk_mul]
        refine C.iald hS.a73 (n_in (by omega)) dX13_canBegin_42 ?_
        rw [n_cl, e1]
        refine C.iald hS.a65 (n_in o1) dX13_canBegin_43 ?_
        rw [n_cl, (hri _ o1).1]
        refine C.aload_n dX13_canBegin_44 0 rfl ?_
        refine C.getA fX13_170 dX13_canBegin_45 hS.o hS.r73 ?_
        refine C.iconst (nI 2) dX13_canBegin_48 (by decide) ?_
        refine C.iload_n dX13_canBegin_49 2 rfl ?_
        refine C.imul dX13_canBegin_50 ?_
        rw [pk_mul]
        refine C.iconst (nI 1) dX13_canBegin_51 (by decide) ?_
        refine C.iadd dX13_canBegin_52 ?_
        rw [nI_add]
        refine C.iald hS.a73 (n_in (by omega)) dX13_canBegin_53 ?_
        rw [n_cl, e2]
        refine C.icmp_eq 59 dX13_canBegin_54 rfl (fun hc54 => ?_) (fun hc54 => ?_)
        · have hz : rK h k r.1 = r.2 := n_eq hc54 (by have := (hri _ o1).2; omega) (by omega)
          refine C.iinc (lv' := [(0, _), (1, _), (2, _)]) _ dX13_canBegin_59 2 rfl rfl (nLt hX rfl) rfl ?_
          refine C.goto 23 dX13_canBegin_62 rfl ?_
          have hgo := ih (i + 1) μ2 (by omega) hT2 hno hri (by rw [hta, decide_eq_true hz])
          rw [← nI_1] at hgo
          exact hgo
        · have hz : ¬ rK h k r.1 = r.2 := n_ne hc54
          refine C.iconst (nI 0) dX13_canBegin_57 (by decide) ?_
          refine C.zret hq dX13_canBegin_58 (by decide) ?_
          have hall : (rwH h).all (fun r => decide (rK h k r.1 = r.2)) = false := by
            rw [Bool.eq_false_iff]
            intro q
            rw [List.all_eq_true] at q
            exact hz (by simpa using q _ (q_mem hg))
          rw [hall, Bool.and_false]
          exact ⟨rfl, hT2, fun q => by cases q⟩
  refine C.aload_n dX13_canBegin_0 0 rfl ?_
  refine C.iload_n dX13_canBegin_1 1 rfl ?_
  refine C.callVI lX13_470 dX13_canBegin_2 (kg_isChapel hS hL hW (by omega)) hS.o rfl rfl (Nat.le_of_ble_eq_true rfl) (Nat.zero_le _) (Nat.zero_le _) (Nat.le_of_ble_eq_true rfl) (fun x2 μ2 h2 => ?_)
  obtain ⟨rfl, hμ⟩ := h2
  subst hμ
  refine C.if_eq 10 dX13_canBegin_5 rfl (fun hc5 => ?_) (fun hc5 => ?_)
  · have hz := on_f hc5
    refine C.aload_n dX13_canBegin_10 0 rfl ?_
    refine C.iload_n dX13_canBegin_11 1 rfl ?_
    refine C.aload_n dX13_canBegin_12 0 rfl ?_
    refine C.getA fX13_151 dX13_canBegin_13 hS.o hS.r59 ?_
    refine C.iconst (nI 1) dX13_canBegin_16 (by decide) ?_
    refine C.iald hS.a59 (n_in (by decide)) dX13_canBegin_17 ?_
    rw [n_cl, hR1.2.2.2.2.2.1.2.1]
    refine C.callVV lX13_480 dX13_canBegin_18 (kr_lays hR hT hH hW hr5 hcl) hS.o rfl rfl (Nat.le_of_ble_eq_true rfl) (Nat.zero_le _) (Nat.zero_le _) (Nat.le_of_ble_eq_true rfl) (fun μ18 h18 => ?_)
    obtain ⟨hri, hT2⟩ := h18
    refine C.iconst (nI 0) dX13_canBegin_21 (by decide) ?_
    refine C.istore_n (lv' := [(0, _), (1, _), (2, _)]) dX13_canBegin_22 (nLt hX rfl) rfl ?_
    exact loop _ 0 μ18 (Nat.zero_add _) hT2 hz hri rfl
  · have hz := on_t hc5
    rw [decide_eq_true hz] at hq
    refine C.iconst (nI 0) dX13_canBegin_8 (by decide) ?_
    refine C.zret hq dX13_canBegin_9 (by decide) ?_
    exact ⟨rfl, hT, fun q => by cases q⟩
theorem opI_ne {o : Option Nat} (h : ∀ x, o = some x → x < 2147483648) : (opI o = -1 → o = none) ∧ (¬ opI o = -1 → o ≠ none) := by
  cases o with
  | none => exact ⟨fun _ => rfl, fun q => absurd rfl q⟩
  | some x => exact ⟨fun q => absurd q (n_m1 (h x rfl)), fun _ q => by cases q⟩
theorem kr_began (hR : RefRel μ h) (hH : HOk h) (x : Int32) : AMet l G 7 0 0 mtX13_began [.ref (G.1 + 179), .int x] μ (qI (fun z μ' => z = beganA h x ∧ PR μ h μ')) := by
  refine AMet.of (by decide) (Nat.le_of_ble_eq_true rfl) (fun X C hX hnm hq => ?_)
  have hS := hR.1.1
  have sm := hH.1.1.sm
  have h57 := hR.2.2.2.2.1.2
  unfold beganA at hq
  by_cases hp : 0 < (ldH h).1.1
  · rw [if_pos hp] at h57 hq
    have hW := hH.1.1.w1 hp
    generalize hK : bgL h ((ldH h).1.1 * (ldH h).1.2.1) 0 (0, none, none) = K at hq
    have hM : (ldH h).1.1 * (ldH h).1.2.1 ≤ 49 := Nat.mul_le_mul sm.1 sm.2.1
    have m21 : ∀ j0 : Nat, inN x 3 = some j0 → j0 < 3 → AW l G X 0 0 21 [(0, .ref (G.1 + 179)), (1, .int (nI j0))] [] μ := by
      intro j0 hin hj0
      rw [hin] at hq
      have loop : ∀ (j k : Nat) (a : Nat × Option Nat × Option Nat) (μ1 : Mm), k + j = (ldH h).1.1 * (ldH h).1.2.1 → bgL h j k a = K → TmR μ μ1 → (∀ z, a.2.1 = some z → z < 49) → AW l G X 0 0 31 [(0, .ref (G.1 + 179)), (1, .int (nI j0)), (2, .int (nI a.1)), (3, .int (opI a.2.1)), (4, .int (opI a.2.2)), (5, .int (nI k))] [] μ1 := by
        intro j
        induction j with
        | zero =>
          intro k a μ1 hk hv hT hb
          have hR1 := (hR.tmR hT).1
          have hS := hR1.1.1
          have hL := hR1.2.2.2.2.1.1
          have g3 : mI μ1 215 3 = nI (ldH h).1.1 := hL.1.1.1
          have g4 : mI μ1 215 4 = nI (ldH h).1.2.1 := hL.1.1.2.1
          subst hv
          refine C.iload dX13_began_31 5 rfl ?_
          refine C.aload_n dX13_began_33 0 rfl ?_
          refine C.getA fX13_120 dX13_began_34 hS.o hS.r45 ?_
          refine C.iconst (nI 3) dX13_began_37 (by decide) ?_
          refine C.iald hS.a45 (n_in (by decide)) dX13_began_38 ?_
          rw [n_cl, g3]
          refine C.aload_n dX13_began_39 0 rfl ?_
          refine C.getA fX13_120 dX13_began_40 hS.o hS.r45 ?_
          refine C.iconst (nI 4) dX13_began_43 (by decide) ?_
          refine C.iald hS.a45 (n_in (by decide)) dX13_began_44 ?_
          rw [n_cl, g4]
          refine C.imul dX13_began_45 ?_
          rw [pk_mul]
          refine C.icmp_ge 102 dX13_began_46 rfl (fun hc46 => ?_) (fun hc46 => ?_)
          · refine C.iload_n dX13_began_102 1 rfl ?_
            refine C.if_ne 110 dX13_began_103 rfl (fun hc103 => ?_) (fun hc103 => ?_)
            · have e0 : j0 ≠ 0 := fun q => hc103 (by rw [q]; rfl)
              refine C.iload_n dX13_began_110 1 rfl ?_
              refine C.iconst (nI 1) dX13_began_111 (by decide) ?_
              refine C.icmp_ne 119 dX13_began_112 rfl (fun hc112 => ?_) (fun hc112 => ?_)
              · have e1 : j0 ≠ 1 := n_ne hc112
                have e2 : j0 = 2 := by omega
                subst e2
                refine C.iload dX13_began_119 4 rfl ?_
                refine C.iret hq dX13_began_121 ?_
                exact ⟨rfl, hR.tmR hT⟩
              · have e1 : j0 = 1 := n_eq (a := j0) (b := 1) hc112
                subst e1
                refine C.iload_n dX13_began_115 3 rfl ?_
                refine C.goto 121 dX13_began_116 rfl ?_
                refine C.iret hq dX13_began_121 ?_
                exact ⟨rfl, hR.tmR hT⟩
            · have e0 : j0 = 0 := n_eq (b := 0) hc103
              subst e0
              refine C.iload_n dX13_began_106 2 rfl ?_
              refine C.goto 121 dX13_began_107 rfl ?_
              refine C.iret hq dX13_began_121 ?_
              exact ⟨rfl, hR.tmR hT⟩
          · have := n_nle hc46; omega
        | succ j ih =>
          intro k a μ1 hk hv hT hb
          have hR1 := (hR.tmR hT).1
          have hS := hR1.1.1
          have hL := hR1.2.2.2.2.1.1
          have g3 : mI μ1 215 3 = nI (ldH h).1.1 := hL.1.1.1
          have g4 : mI μ1 215 4 = nI (ldH h).1.2.1 := hL.1.1.2.1
          have hkM : k < (ldH h).1.1 * (ldH h).1.2.1 := by omega
          unfold bgL at hv
          have nxt : ∀ (a2 : Nat × Option Nat × Option Nat) (μ2 : Mm), a2 = bgS h a k → (∀ z, a2.2.1 = some z → z < 49) → TmR μ μ2 → AW l G X 0 0 96 [(0, .ref (G.1 + 179)), (1, .int (nI j0)), (2, .int (nI a2.1)), (3, .int (opI a2.2.1)), (4, .int (opI a2.2.2)), (5, .int (nI k))] [] μ2 := by
            intro a2 μ2 e1 e2 e3
            subst e1
            refine C.iinc (lv' := [(0, _), (1, _), (2, _), (3, _), (4, _), (5, _)]) _ dX13_began_96 5 rfl rfl (nLt hX rfl) rfl ?_
            refine C.goto 31 dX13_began_99 rfl ?_
            have hgo := ih (k + 1) _ μ2 (by omega) hv e3 e2
            rw [← nI_1] at hgo
            exact hgo
          obtain ⟨n0, f0, l0⟩ := a
          dsimp only at *
          unfold bgS at nxt
          refine C.iload dX13_began_31 5 rfl ?_
          refine C.aload_n dX13_began_33 0 rfl ?_
          refine C.getA fX13_120 dX13_began_34 hS.o hS.r45 ?_
          refine C.iconst (nI 3) dX13_began_37 (by decide) ?_
          refine C.iald hS.a45 (n_in (by decide)) dX13_began_38 ?_
          rw [n_cl, g3]
          refine C.aload_n dX13_began_39 0 rfl ?_
          refine C.getA fX13_120 dX13_began_40 hS.o hS.r45 ?_
          refine C.iconst (nI 4) dX13_began_43 (by decide) ?_
          refine C.iald hS.a45 (n_in (by decide)) dX13_began_44 ?_
          rw [n_cl, g4]
          refine C.imul dX13_began_45 ?_
          rw [pk_mul]
          refine C.icmp_ge 102 dX13_began_46 rfl (fun hc46 => ?_) (fun hc46 => ?_)
          · have := n_le hc46; omega
          · refine C.aload_n dX13_began_49 0 rfl ?_
            refine C.iload dX13_began_50 5 rfl ?_
            refine C.aload_n dX13_began_52 0 rfl ?_
            refine C.getA fX13_120 dX13_began_53 hS.o hS.r45 ?_
            refine C.iconst (nI 3) dX13_began_56 (by decide) ?_
            refine C.iald hS.a45 (n_in (by decide)) dX13_began_57 ?_
            rw [n_cl, g3]
            refine C.irem dX13_began_58 (fun q => by have := n_eq (a := (ldH h).1.1) (b := 0) q; omega) ?_
            rw [pk_rem (by omega) hp (by omega)]
            refine C.bipush (nI 7) dX13_began_59 (by decide) ?_
            refine C.iload dX13_began_61 5 rfl ?_
            refine C.aload_n dX13_began_63 0 rfl ?_
            refine C.getA fX13_120 dX13_began_64 hS.o hS.r45 ?_
            refine C.iconst (nI 3) dX13_began_67 (by decide) ?_
            refine C.iald hS.a45 (n_in (by decide)) dX13_began_68 ?_
            rw [n_cl, g3]
            refine C.idiv dX13_began_69 (fun q => by have := n_eq (a := (ldH h).1.1) (b := 0) q; omega) ?_
            rw [pk_div (by omega) hp (by omega)]
            refine C.imul dX13_began_70 ?_
            rw [pk_mul]
            refine C.iadd dX13_began_71 ?_
            rw [nI_add]
            refine C.callVI lX13_585 dX13_began_72 (kr_canBegin hR hT hH hW hkM) hS.o rfl rfl (Nat.le_of_ble_eq_true rfl) (Nat.zero_le _) (Nat.zero_le _) (Nat.le_of_ble_eq_true rfl) (fun x72 μ72 h72 => ?_)
            obtain ⟨rfl, hT2, -⟩ := h72
            refine C.if_ne 81 dX13_began_75 rfl (fun hc75 => ?_) (fun hc75 => ?_)
            · have hz := b_t hc75
              rw [if_pos hz] at nxt
              cases f0 with
              | some z =>
                have hz49 := hb z rfl
                refine C.iinc (lv' := [(0, _), (1, _), (2, _), (3, _), (4, _), (5, _)]) _ dX13_began_81 2 rfl rfl (nLt hX rfl) rfl ?_
                refine C.iload_n dX13_began_84 3 rfl ?_
                refine C.iconst (-1) dX13_began_85 (by decide) ?_
                refine C.icmp_ne 92 dX13_began_86 rfl (fun hc86 => ?_) (fun hc86 => absurd hc86 (n_m1 (by omega)))
                refine C.iload dX13_began_92 5 rfl ?_
                refine C.istore (lv' := [(0, _), (1, _), (2, _), (3, _), (4, _), (5, _)]) dX13_began_94 (nLt hX rfl) rfl ?_
                have hgo := nxt (n0 + 1, some z, some k) μ72 rfl hb hT2
                dsimp only at hgo
                rw [← nI_1] at hgo
                exact hgo
              | none =>
              have hgo := nxt (n0 + 1, some k, some k) μ72 rfl (fun z q => by have := Option.some.inj q; omega) hT2
              dsimp only at hgo
              rw [← nI_1] at hgo
              refine C.iinc (lv' := [(0, _), (1, _), (2, _), (3, _), (4, _), (5, _)]) _ dX13_began_81 2 rfl rfl (nLt hX rfl) rfl ?_
              refine C.iload_n dX13_began_84 3 rfl ?_
              refine C.iconst (-1) dX13_began_85 (by decide) ?_
              refine C.icmp_ne 92 dX13_began_86 rfl (fun hc86 => ?_) (fun hc86 => ?_)
              · exact absurd rfl hc86
              · refine C.iload dX13_began_89 5 rfl ?_
                refine C.istore_n (lv' := [(0, _), (1, _), (2, _), (3, _), (4, _), (5, _)]) dX13_began_91 (nLt hX rfl) rfl ?_
                refine C.iload dX13_began_92 5 rfl ?_
                refine C.istore (lv' := [(0, _), (1, _), (2, _), (3, _), (4, _), (5, _)]) dX13_began_94 (nLt hX rfl) rfl ?_
                exact hgo
            · have hz := (bI_0 _).mp hc75
              refine C.goto 96 dX13_began_78 rfl ?_
              exact nxt (n0, f0, l0) _ (by rw [hz]; rfl) hb hT2
      refine C.iconst (nI 0) dX13_began_21 (by decide) ?_
      refine C.istore_n (lv' := [(0, _), (1, _), (2, _)]) dX13_began_22 (nLt hX rfl) rfl ?_
      refine C.iconst (-1) dX13_began_23 (by decide) ?_
      refine C.istore_n (lv' := [(0, _), (1, _), (2, _), (3, _)]) dX13_began_24 (nLt hX rfl) rfl ?_
      refine C.iconst (-1) dX13_began_25 (by decide) ?_
      refine C.istore (lv' := [(0, _), (1, _), (2, _), (3, _), (4, _)]) dX13_began_26 (nLt hX rfl) rfl ?_
      refine C.iconst (nI 0) dX13_began_28 (by decide) ?_
      refine C.istore (lv' := [(0, _), (1, _), (2, _), (3, _), (4, _), (5, _)]) dX13_began_29 (nLt hX rfl) rfl ?_
      exact loop _ 0 (0, none, none) μ (Nat.zero_add _) hK TmR.refl (fun z q => by cases q)
    refine C.aload_n dX13_began_0 0 rfl ?_
    refine C.getZ fX13_403 dX13_began_1 hS.o ?_
    rw [h57]
    refine C.if_eq 19 dX13_began_4 rfl (fun hc4 => ?_) (fun hc4 => ?_)
    · exact absurd hc4 (by decide)
    · refine C.iload_n dX13_began_7 1 rfl ?_
      refine C.i2l dX13_began_8 ?_
      refine C.lconst (lN 0) dX13_began_9 (by decide) ?_
      refine C.ldc2 kX13_546 dX13_began_10 ?_
      refine C.callSI lX13_307 dX13_began_13 (km_isIn _ _ _) rfl rfl (Nat.le_of_ble_eq_true rfl) (Nat.zero_le _) (Nat.zero_le _) (Nat.le_of_ble_eq_true rfl) (fun x13 μ13 h13 => ?_)
      obtain ⟨hx13, hμ⟩ := h13
      subst hμ
      simp only [show (2 : Int64) = lN 2 from rfl, isIn_c (n := 2) (by decide)] at hx13
      have hi := isIn_f (n := 3) (by decide) hx13
      refine C.if_ne 21 dX13_began_16 rfl (fun hc16 => ?_) (fun hc16 => ?_)
      · obtain ⟨j0, hj0, e, hin⟩ := hi.2 hc16
        have hgo := m21 j0 hin hj0
        rw [← e] at hgo
        exact hgo
      · rw [hi.1 hc16] at hq
        refine C.iconst (-1) dX13_began_19 (by decide) ?_
        refine C.iret hq dX13_began_20 ?_
        exact ⟨rfl, PR.self hR⟩
  · rw [if_neg hp] at h57 hq
    refine C.aload_n dX13_began_0 0 rfl ?_
    refine C.getZ fX13_403 dX13_began_1 hS.o ?_
    rw [h57]
    refine C.if_eq 19 dX13_began_4 rfl (fun hc4 => ?_) (fun hc4 => ?_)
    · refine C.iconst (-1) dX13_began_19 (by decide) ?_
      refine C.iret hq dX13_began_20 ?_
      exact ⟨rfl, PR.self hR⟩
    · exact absurd rfl hc4
end KSE
