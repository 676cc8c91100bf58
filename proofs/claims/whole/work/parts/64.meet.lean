/-! the reference: who meets it, what is told -/

def nrF (v t : Nat) : Nat := if v < t then v + 1 else if t < v then v - 1 else v
def wkX (d : Ld) (w : Nat) : Nat → Nat
  | 0 => walkF d w % 7
  | h + 1 => nrF (wkX d w h) (walkT d w % 7)
def wkY (d : Ld) (w : Nat) : Nat → Nat
  | 0 => walkF d w / 7
  | h + 1 => nrF (wkY d w h) (walkT d w / 7)
def wkC (d : Ld) (w h : Nat) : Nat := wkX d w h + 7 * wkY d w h
def fsF (f : Nat → Bool) : Nat → Nat → Option Nat
  | 0, _ => none
  | n + 1, k => if f k then some k else fsF f n (k + 1)
def crF (d : Ld) (ride : Nat → Nat) (w : Nat) : Option Nat := fsF (fun h => decide (ride h = wkC d w h)) 12 0
def mtF (d : Ld) (ride : Nat → Nat) (x : Wk) (w : Nat) : Option Nat := if x.1 = 0 ∨ 0 < x.2.2.2 then none else crF d ride w
def wkS (S : St) (w : Nat) : Wk := S.2.1.getD w (0, 0, 0, 0)
section MTP
variable {d : Ld}
theorem nrF_lt {v t n : Nat} (hv : v < n) (ht : t < n) : nrF v t < n := by unfold nrF; split; omega; split <;> omega
theorem wkX_lt (hW : Wf d) {w : Nat} (hw : w < d.2.2.2.1.length) : ∀ h, wkX d w h < 7
  | 0 => Nat.mod_lt _ (by decide)
  | h + 1 => nrF_lt (wkX_lt hW hw h) (Nat.mod_lt _ (by decide))
theorem wkY_lt (hW : Wf d) {w : Nat} (hw : w < d.2.2.2.1.length) : ∀ h, wkY d w h < 7
  | 0 => by have := clOk_lt hW (hW.walkF hw); show walkF d w / 7 < 7; omega
  | h + 1 => nrF_lt (wkY_lt hW hw h) (by have := clOk_lt hW (hW.walkT hw); omega)
theorem fsF_lt {f : Nat → Bool} : ∀ (n k h : Nat), fsF f n k = some h → k ≤ h ∧ h < k + n ∧ f h = true
  | 0, k, h, q => by cases q
  | n + 1, k, h, q => by
    unfold fsF at q
    split at q
    · rename_i hf
      have e : k = h := Option.some.inj q
      subst e
      exact ⟨Nat.le_refl _, by omega, hf⟩
    · have := fsF_lt n (k + 1) h q
      exact ⟨by omega, by omega, this.2.2⟩
theorem mtF_lt {ride : Nat → Nat} {x : Wk} {w h : Nat} (q : mtF d ride x w = some h) : h < 12 := by
  unfold mtF at q
  split at q
  · cases q
  · exact by have := (fsF_lt 12 0 h q).2.1; omega
end MTP
section KMT
variable {l : Launch} {G : Gm} {μ : Mm} {d : Ld}
theorem ke_nearer {v t : Nat} (hv : v < 2 ^ 20) (ht : t < 2 ^ 20) : AMet l G 0 0 0 mtX13_nearer [.int (nI v), .int (nI t)] μ (qI (fun x μ' => x = nI (nrF v t) ∧ μ' = μ)) := by
  refine AMet.of (by decide) (Nat.le_of_ble_eq_true rfl) (fun X C hX hnm hq => ?_)
  refine C.iload_n dX13_nearer_0 0 rfl ?_
  refine C.iload_n dX13_nearer_1 1 rfl ?_
  refine C.icmp_ge 11 dX13_nearer_2 rfl (fun hc2 => ?_) (fun hc2 => ?_)
  · have h1 := n_le (a := t) (b := v) hc2
    refine C.iload_n dX13_nearer_11 0 rfl ?_
    refine C.iload_n dX13_nearer_12 1 rfl ?_
    refine C.icmp_le 22 dX13_nearer_13 rfl (fun hc13 => ?_) (fun hc13 => ?_)
    · have h2 := n_le (a := v) (b := t) hc13
      refine C.iload_n dX13_nearer_22 0 rfl ?_
      refine C.iret hq dX13_nearer_23 ?_
      refine ⟨congrArg nI ?_, rfl⟩
      unfold nrF
      first | (exact (if_pos h1).symm) | (exact ((if_neg (by omega)).trans (if_pos h2)).symm) | (exact ((if_neg (by omega)).trans (if_neg (by omega))).symm)
    · have h2 := n_nle (a := v) (b := t) hc13
      refine C.iload_n dX13_nearer_16 0 rfl ?_
      refine C.iconst (nI 1) dX13_nearer_17 (by decide) ?_
      refine C.isub dX13_nearer_18 ?_
      rw [pk_sub (by omega)]
      refine C.goto 23 dX13_nearer_19 rfl ?_
      refine C.iret hq dX13_nearer_23 ?_
      refine ⟨congrArg nI ?_, rfl⟩
      unfold nrF
      first | (exact (if_pos h1).symm) | (exact ((if_neg (by omega)).trans (if_pos h2)).symm) | (exact ((if_neg (by omega)).trans (if_neg (by omega))).symm)
  · have h1 := n_nle (a := t) (b := v) hc2
    refine C.iload_n dX13_nearer_5 0 rfl ?_
    refine C.iconst (nI 1) dX13_nearer_6 (by decide) ?_
    refine C.iadd dX13_nearer_7 ?_
    rw [nI_add]
    refine C.goto 23 dX13_nearer_8 rfl ?_
    refine C.iret hq dX13_nearer_23 ?_
    refine ⟨congrArg nI ?_, rfl⟩
    unfold nrF
    first | (exact (if_pos h1).symm) | (exact ((if_neg (by omega)).trans (if_pos h2)).symm) | (exact ((if_neg (by omega)).trans (if_neg (by omega))).symm)
theorem ke_crosses (hS : ShM μ) (hL : LmH μ 1 1600 d) (hW : Wf d) {w : Nat} (hw : w < d.2.2.2.1.length) {ride : Nat → Nat} (hr : ∀ h, h < 12 → mI μ 228 h = nI (ride h) ∧ ride h < 49) : AMet l G 1 0 0 mtX13_crossesAt [.ref (G.1 + 179), .int (nI w)] μ (qI (fun x μ' => x = opI (crF d ride w) ∧ μ' = μ)) := by
  refine AMet.of (by decide) (Nat.le_of_ble_eq_true rfl) (fun X C hX hnm hq => ?_)
  have w6 := hW.2.2.2.1.1
  obtain ⟨g1, g2⟩ := hL.walk hw
  have c1 := clOk_lt hW (hW.walkF hw)
  have c2 := clOk_lt hW (hW.walkT hw)
  have loop : ∀ (n k : Nat), k + n = 12 → fsF (fun h => decide (ride h = wkC d w h)) n k = crF d ride w → AW l G X 0 0 33 [(0, .ref (G.1 + 179)), (1, .int (nI w)), (2, .int (nI (wkX d w k))), (3, .int (nI (wkY d w k))), (4, .int (nI k))] [] μ := by
    intro n
    induction n with
    | zero =>
      intro k hk hv
      refine C.iload dX13_crossesAt_33 4 rfl ?_
      refine C.bipush (nI 12) dX13_crossesAt_35 (by decide) ?_
      refine C.icmp_ge 103 dX13_crossesAt_37 rfl (fun hc37 => ?_) (fun hc37 => ?_)
      · refine C.iconst (-1) dX13_crossesAt_103 (by decide) ?_
        refine C.iret hq dX13_crossesAt_104 ?_
        exact ⟨by rw [← hv]; rfl, rfl⟩
      · have := n_nle (a := 12) (b := k) hc37; omega
    | succ n ih =>
      intro k hk hv
      have x7 := wkX_lt hW hw k
      have y7 := wkY_lt hW hw k
      unfold fsF at hv
      refine C.iload dX13_crossesAt_33 4 rfl ?_
      refine C.bipush (nI 12) dX13_crossesAt_35 (by decide) ?_
      refine C.icmp_ge 103 dX13_crossesAt_37 rfl (fun hc37 => ?_) (fun hc37 => ?_)
      · have := n_le (a := 12) (b := k) hc37; omega
      · refine C.aload_n dX13_crossesAt_40 0 rfl ?_
        refine C.getA fX13_160 dX13_crossesAt_41 hS.o hS.r65 ?_
        refine C.iload dX13_crossesAt_44 4 rfl ?_
        refine C.iald hS.a65 (n_in (by omega)) dX13_crossesAt_46 ?_
        rw [n_cl, (hr k (by omega)).1]
        refine C.iload_n dX13_crossesAt_47 2 rfl ?_
        refine C.bipush (nI 7) dX13_crossesAt_48 (by decide) ?_
        refine C.iload_n dX13_crossesAt_50 3 rfl ?_
        refine C.imul dX13_crossesAt_51 ?_
        rw [pk_mul]
        refine C.iadd dX13_crossesAt_52 ?_
        rw [nI_add]
        refine C.icmp_ne 59 dX13_crossesAt_53 rfl (fun hc53 => ?_) (fun hc53 => ?_)
        · have he : ¬ ride k = wkC d w k := n_ne hc53
          rw [if_neg (by rw [decide_eq_false he]; decide)] at hv
          refine C.iload_n dX13_crossesAt_59 2 rfl ?_
          refine C.aload_n dX13_crossesAt_60 0 rfl ?_
          refine C.getA fX13_136 dX13_crossesAt_61 hS.o hS.r50 ?_
          refine C.bipush (nI 31) dX13_crossesAt_64 (by decide) ?_
          refine C.iconst (nI 5) dX13_crossesAt_66 (by decide) ?_
          refine C.iload_n dX13_crossesAt_67 1 rfl ?_
          refine C.imul dX13_crossesAt_68 ?_
          rw [pk_mul]
          refine C.iadd dX13_crossesAt_69 ?_
          rw [nI_add]
          refine C.iald hS.a50 (n_in (by omega)) dX13_crossesAt_70 ?_
          rw [n_cl, g2]
          refine C.bipush (nI 7) dX13_crossesAt_71 (by decide) ?_
          refine C.irem dX13_crossesAt_73 (by decide) ?_
          rw [pk_rem (by omega) (by decide) (by decide)]
          refine C.callSI lX13_483 dX13_crossesAt_74 (ke_nearer (by omega) (by omega)) rfl rfl (Nat.le_of_ble_eq_true rfl) (Nat.zero_le _) (Nat.zero_le _) (Nat.le_of_ble_eq_true rfl) (fun x74 μ74 h74 => ?_)
          obtain ⟨rfl, hμ⟩ := h74
          subst hμ
          refine C.istore_n (lv' := [(0, _), (1, _), (2, _), (3, _), (4, _)]) dX13_crossesAt_77 (nLt hX rfl) rfl ?_
          refine C.iload_n dX13_crossesAt_78 3 rfl ?_
          refine C.aload_n dX13_crossesAt_79 0 rfl ?_
          refine C.getA fX13_136 dX13_crossesAt_80 hS.o hS.r50 ?_
          refine C.bipush (nI 31) dX13_crossesAt_83 (by decide) ?_
          refine C.iconst (nI 5) dX13_crossesAt_85 (by decide) ?_
          refine C.iload_n dX13_crossesAt_86 1 rfl ?_
          refine C.imul dX13_crossesAt_87 ?_
          rw [pk_mul]
          refine C.iadd dX13_crossesAt_88 ?_
          rw [nI_add]
          refine C.iald hS.a50 (n_in (by omega)) dX13_crossesAt_89 ?_
          rw [n_cl, g2]
          refine C.bipush (nI 7) dX13_crossesAt_90 (by decide) ?_
          refine C.idiv dX13_crossesAt_92 (by decide) ?_
          rw [pk_div (by omega) (by decide) (by decide)]
          refine C.callSI lX13_483 dX13_crossesAt_93 (ke_nearer (by omega) (by omega)) rfl rfl (Nat.le_of_ble_eq_true rfl) (Nat.zero_le _) (Nat.zero_le _) (Nat.le_of_ble_eq_true rfl) (fun x93 μ93 h93 => ?_)
          obtain ⟨rfl, hμ⟩ := h93
          subst hμ
          refine C.istore_n (lv' := [(0, _), (1, _), (2, _), (3, _), (4, _)]) dX13_crossesAt_96 (nLt hX rfl) rfl ?_
          refine C.iinc (lv' := [(0, _), (1, _), (2, _), (3, _), (4, _)]) _ dX13_crossesAt_97 4 rfl rfl (nLt hX rfl) rfl ?_
          refine C.goto 33 dX13_crossesAt_100 rfl ?_
          have hgo := ih (k + 1) (by omega) hv
          rw [← nI_1] at hgo
          exact hgo
        · have he : ride k = wkC d w k := n_eq hc53 (by have := (hr k (by omega)).2; omega) (by unfold wkC; omega)
          rw [if_pos (decide_eq_true he)] at hv
          refine C.iload dX13_crossesAt_56 4 rfl ?_
          refine C.iret hq dX13_crossesAt_58 ?_
          exact ⟨by rw [← hv]; rfl, rfl⟩
  refine C.aload_n dX13_crossesAt_0 0 rfl ?_
  refine C.getA fX13_136 dX13_crossesAt_1 hS.o hS.r50 ?_
  refine C.bipush (nI 30) dX13_crossesAt_4 (by decide) ?_
  refine C.iconst (nI 5) dX13_crossesAt_6 (by decide) ?_
  refine C.iload_n dX13_crossesAt_7 1 rfl ?_
  refine C.imul dX13_crossesAt_8 ?_
  rw [pk_mul]
  refine C.iadd dX13_crossesAt_9 ?_
  rw [nI_add]
  refine C.iald hS.a50 (n_in (by omega)) dX13_crossesAt_10 ?_
  rw [n_cl, g1]
  refine C.bipush (nI 7) dX13_crossesAt_11 (by decide) ?_
  refine C.irem dX13_crossesAt_13 (by decide) ?_
  rw [pk_rem (by omega) (by decide) (by decide)]
  refine C.istore_n (lv' := [(0, _), (1, _), (2, _)]) dX13_crossesAt_14 (nLt hX rfl) rfl ?_
  refine C.aload_n dX13_crossesAt_15 0 rfl ?_
  refine C.getA fX13_136 dX13_crossesAt_16 hS.o hS.r50 ?_
  refine C.bipush (nI 30) dX13_crossesAt_19 (by decide) ?_
  refine C.iconst (nI 5) dX13_crossesAt_21 (by decide) ?_
  refine C.iload_n dX13_crossesAt_22 1 rfl ?_
  refine C.imul dX13_crossesAt_23 ?_
  rw [pk_mul]
  refine C.iadd dX13_crossesAt_24 ?_
  rw [nI_add]
  refine C.iald hS.a50 (n_in (by omega)) dX13_crossesAt_25 ?_
  rw [n_cl, g1]
  refine C.bipush (nI 7) dX13_crossesAt_26 (by decide) ?_
  refine C.idiv dX13_crossesAt_28 (by decide) ?_
  rw [pk_div (by omega) (by decide) (by decide)]
  refine C.istore_n (lv' := [(0, _), (1, _), (2, _), (3, _)]) dX13_crossesAt_29 (nLt hX rfl) rfl ?_
  refine C.iconst (nI 0) dX13_crossesAt_30 (by decide) ?_
  refine C.istore (lv' := [(0, _), (1, _), (2, _), (3, _), (4, _)]) dX13_crossesAt_31 (nLt hX rfl) rfl ?_
  exact loop 12 0 rfl rfl
theorem ke_meetsAt (hS : ShM μ) (hL : LmH μ 1 1600 d) (hW : Wf d) {w : Nat} (hw : w < d.2.2.2.1.length) {ride : Nat → Nat} (hr : ∀ h, h < 12 → mI μ 228 h = nI (ride h) ∧ ride h < 49) {x : Wk} (hm : mI μ 225 (2 + 4 * w) = nI x.1) (hg : mI μ 225 (5 + 4 * w) = nI x.2.2.2) (h1 : x.1 ≤ 3) (h2 : x.2.2.2 ≤ 99) : AMet l G 2 0 0 mtX13_meetsAt [.ref (G.1 + 179), .int (nI w)] μ (qI (fun y μ' => y = opI (mtF d ride x w) ∧ μ' = μ)) := by
  refine AMet.of (by decide) (Nat.le_of_ble_eq_true rfl) (fun X C hX hnm hq => ?_)
  have w6 := hW.2.2.2.1.1
  have hg2 : mI μ 225 (2 + 4 * w + 3) = nI x.2.2.2 := by rw [show 2 + 4 * w + 3 = 5 + 4 * w by omega]; exact hg
  refine C.aload_n dX13_meetsAt_0 0 rfl ?_
  refine C.iload_n dX13_meetsAt_1 1 rfl ?_
  refine C.callVI lX13_486 dX13_meetsAt_2 (ke_manner hS (i := w) (by omega)) hS.o rfl rfl (Nat.le_of_ble_eq_true rfl) (Nat.zero_le _) (Nat.zero_le _) (Nat.le_of_ble_eq_true rfl) (fun x2 μ2 h2 => ?_)
  obtain ⟨rfl, hμ⟩ := h2
  subst hμ
  rw [hm]
  refine C.if_eq 16 dX13_meetsAt_5 rfl (fun hc5 => ?_) (fun hc5 => ?_)
  · have hz : x.1 = 0 := n_eq (b := 0) hc5
    refine C.iconst (-1) dX13_meetsAt_16 (by decide) ?_
    refine C.goto 25 dX13_meetsAt_17 rfl ?_
    refine C.iret hq dX13_meetsAt_25 ?_
    refine ⟨?_, rfl⟩
    unfold mtF
    first | (rw [if_pos (Or.inl hz)]; rfl) | (rw [if_pos (Or.inr hp)]; rfl) | (rw [if_neg (fun q => Or.elim q hz (fun z => absurd z (by omega)))])
  · have hz : ¬ x.1 = 0 := fun z => hc5 (by rw [z]; rfl)
    refine C.aload_n dX13_meetsAt_8 0 rfl ?_
    refine C.iload_n dX13_meetsAt_9 1 rfl ?_
    refine C.callVI lX13_489 dX13_meetsAt_10 (ke_gone hS (i := w) (by omega)) hS.o rfl rfl (Nat.le_of_ble_eq_true rfl) (Nat.zero_le _) (Nat.zero_le _) (Nat.le_of_ble_eq_true rfl) (fun x10 μ10 h10 => ?_)
    obtain ⟨rfl, hμ⟩ := h10
    subst hμ
    rw [hg2]
    refine C.if_le 20 dX13_meetsAt_13 rfl (fun hc13 => ?_) (fun hc13 => ?_)
    · have hp : x.2.2.2 ≤ 0 := n_le (a := x.2.2.2) (b := 0) hc13
      refine C.aload_n dX13_meetsAt_20 0 rfl ?_
      refine C.iload_n dX13_meetsAt_21 1 rfl ?_
      refine C.callVI lX13_492 dX13_meetsAt_22 (ke_crosses hS hL hW hw hr) hS.o rfl rfl (Nat.le_of_ble_eq_true rfl) (Nat.zero_le _) (Nat.zero_le _) (Nat.le_of_ble_eq_true rfl) (fun x22 μ22 h22 => ?_)
      obtain ⟨rfl, hμ⟩ := h22
      subst hμ
      refine C.iret hq dX13_meetsAt_25 ?_
      refine ⟨?_, rfl⟩
      unfold mtF
      first | (rw [if_pos (Or.inl hz)]; rfl) | (rw [if_pos (Or.inr hp)]; rfl) | (rw [if_neg (fun q => Or.elim q hz (fun z => absurd z (by omega)))])
    · have hp : 0 < x.2.2.2 := n_nle (a := x.2.2.2) (b := 0) hc13
      refine C.iconst (-1) dX13_meetsAt_16 (by decide) ?_
      refine C.goto 25 dX13_meetsAt_17 rfl ?_
      refine C.iret hq dX13_meetsAt_25 ?_
      refine ⟨?_, rfl⟩
      unfold mtF
      first | (rw [if_pos (Or.inl hz)]; rfl) | (rw [if_pos (Or.inr hp)]; rfl) | (rw [if_neg (fun q => Or.elim q hz (fun z => absurd z (by omega)))])
end KMT
