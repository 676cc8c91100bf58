/-! what the calls answer, and the reference's: counts, bells, walkers -/

theorem inN_out {x : Int32} {n : Nat} (hn : n + 1 < 2147483648) (h : inN x (n + 1) = none) : x.toInt < 0 ∨ (n : Int) < x.toInt := by
  have q := inN_none h
  rw [i_lt, i_lt, nI_tI hn] at q
  have h0 : (0 : Int32).toInt = 0 := by decide
  omega
def hasN (h : Hs) (k : Nat) : Int32 := match k with
  | 0 => nI (ldH h).1.1
  | 1 => nI (ldH h).1.2.1
  | 2 => nI (ldH h).2.1.length
  | 3 => nI (ldH h).2.2.1.length
  | 4 => nI (ldH h).2.2.2.1.length
  | 5 => nI (stH h).1.1
  | 6 => nI (popN (stH h).1.2)
  | 7 => nI (goneN (stH h))
  | 8 => nI (pursN (stH h))
  | 9 => nI (stH h).2.2.length
  | 10 => nI (rwH h).length
  | _ => nI (psH h).length
def hasF (h : Hs) (x : Int32) : Int32 := match inN x 12 with
  | some k => hasN h k
  | none => -1
def statF (h : Hs) (x : Int32) : Int32 := match inN x 6 with
  | some k => rfH h k
  | none => -1
def octF (h : Hs) (x : Int32) : Int32 := match inN x (ocH h).length with
  | some k => nI ((ocH h).getD k 0)
  | none => -1
def faultF (h : Hs) (x : Int32) : Int32 := if x = nI 0 then (flH h).1 else if x = nI 1 then (flH h).2 else -1
def wkN (x : Wk) (j : Nat) : Nat := match j with
  | 0 => x.1
  | 1 => x.2.1
  | 2 => x.2.2.1
  | _ => x.2.2.2
def toldF (h : Hs) (x y : Int32) : Int32 := match inN x (stH h).2.2.length with
  | some k => (match inN y 4 with
    | some j => nI (wkN ((stH h).2.2.getD k (0, 0, 0, 0)) j)
    | none => -1)
  | none => -1
def walkN (h : Hs) (w j : Nat) : Int32 := match j with
  | 0 => nI (walkF (ldH h) w % 7)
  | 1 => nI (walkF (ldH h) w / 7)
  | 2 => nI (walkT (ldH h) w % 7)
  | 3 => nI (walkT (ldH h) w / 7)
  | 4 => nI (wkS (stH h) w).1
  | 5 => nI (wkS (stH h) w).2.1
  | 6 => nI (wkS (stH h) w).2.2.1
  | _ => nI (wkS (stH h) w).2.2.2
def walkA (h : Hs) (x y : Int32) : Int32 := match inN x (ldH h).2.2.2.1.length with
  | some w => (match inN y 8 with
    | some j => walkN h w j
    | none => -1)
  | none => -1
/-- this night's ride -/
def ridH (h : Hs) : Nat → Nat := rideN (ldH h) none (stH h)
def nearB (d : Ld) (ride : Nat → Nat) (b : Nat) : Bool := (List.range 12).any (fun h => decide (apN (ride h) (bellC d b) ≤ 1))
def lossF (d : Ld) (ride : Nat → Nat) (r b : Nat) : Nat := (if bitN r b then bellR d b else 0) + (if nearB d ride b then d.2.2.2.2.1.2.1 else 0)
def bellN (h : Hs) (b j : Nat) : Int32 := match j with
  | 0 => nI (bellC (ldH h) b % 7)
  | 1 => nI (bellC (ldH h) b / 7)
  | 2 => nI (bellR (ldH h) b)
  | 3 => bI (bitN (stH h).1.2 b)
  | _ => nI (lossF (ldH h) (ridH h) (stH h).1.2 b)
def bellA (h : Hs) (x y : Int32) : Int32 := match inN x (ldH h).2.2.1.length with
  | some b => (match inN y 5 with
    | some j => bellN h b j
    | none => -1)
  | none => -1
def huntA (h : Hs) (x y : Int32) : Int32 := if 0 < (ldH h).1.1 then (match inN x 12 with
  | some k => if y = nI 0 then nI (ridH h k % 7) else if y = nI 1 then nI (ridH h k / 7) else -1
  | none => -1) else -1
def meetsA (h : Hs) (x : Int32) : Int32 := match inN x (ldH h).2.2.2.1.length with
  | some w => opI (mtF (ldH h) (ridH h) (wkS (stH h) w) w)
  | none => -1
def cellA (h : Hs) (x y z : Int32) : Int32 := match inN x (ldH h).1.1 with
  | some a => (match inN y (ldH h).1.2.1 with
    | some b => (match inN z 3 with
      | some 0 => bI (decide (a + 7 * b ∈ (ldH h).2.1))
      | some 1 => bI (ringF (ldH h) (stH h).1.2 (a + 7 * b))
      | some _ => opI (fsF (fun k => decide (ridH h k = a + 7 * b)) 12 0)
      | none => -1)
    | none => -1)
  | none => -1
/-- behind a call that changes nothing that is kept -/
def PR (μ : Mm) (h : Hs) (μ' : Mm) : Prop := RefRel μ' h ∧ FrR μ μ'
/-- what stands between calls, beside the two -/
def HOk (h : Hs) : Prop := HWf h ∧ LdC (ldH h)
section KO1
variable {l : Launch} {G : Gm} {μ : Mm} {h : Hs}
theorem PR.self (hR : RefRel μ h) : PR μ h μ := ⟨hR, FrR.refl μ⟩
theorem RefRel.tmR {μ' : Mm} (hR : RefRel μ h) (t : TmR μ μ') : PR μ h μ' := ⟨hR.of t.1 (fun a k q => t.2.1 a k (fun z => by unfold KpI at q; unfold pW at z; omega) (by unfold KpI at q; omega)) (fun k _ => t.2.2 217 k (by decide)) (t.2.2 179 78 (by decide)), ⟨t.1, fun a k q => ⟨t.2.1 a k (by omega) (by omega), t.2.2 a k (by omega)⟩⟩⟩
theorem LdOk.sm {d : Ld} (h : LdOk d) : d.1.1 ≤ 7 ∧ d.1.2.1 ≤ 7 ∧ d.2.1.length ≤ 10 ∧ d.2.2.1.length ≤ 5 ∧ d.2.2.2.1.length ≤ 6 := by
  rcases h with h | h
  · exact ⟨h.1.2.1, h.1.2.2.2.1, h.2.1.1, h.2.2.1.1, h.2.2.2.1.1⟩
  · subst h
    decide
theorem LdOk.w1 {d : Ld} (h : LdOk d) (hp : 0 < d.1.1) : Wf d := by
  rcases h with h | h
  · exact h
  · subst h
    exact absurd hp (by decide)
theorem LdOk.w2 {d : Ld} (h : LdOk d) {w : Nat} (hp : w < d.2.2.2.1.length) : Wf d := by
  rcases h with h | h
  · exact h
  · subst h
    exact absurd hp (Nat.not_lt_zero _)
theorem LdOk.w3 {d : Ld} (h : LdOk d) {w : Nat} (hp : w < d.2.2.1.length) : Wf d := by
  rcases h with h | h
  · exact h
  · subst h
    exact absurd hp (Nat.not_lt_zero _)
theorem kr_fault (hR : RefRel μ h) (x : Int32) : AMet l G 0 0 0 mtX13_fault [.ref (G.1 + 179), .int x] μ (qI (fun y μ' => y = faultF h x ∧ PR μ h μ')) := by
  refine AMet.of (by decide) (Nat.le_of_ble_eq_true rfl) (fun X C hX hnm hq => ?_)
  have hS := hR.1.1
  obtain ⟨f1, f2⟩ := hR.2.2.1
  unfold faultF at hq
  refine C.iload_n dX13_fault_0 1 rfl ?_
  refine C.if_ne 11 dX13_fault_1 rfl (fun hc1 => ?_) (fun hc1 => ?_)
  · rw [if_neg (show ¬ x = nI 0 from hc1)] at hq
    refine C.iload_n dX13_fault_11 1 rfl ?_
    refine C.iconst (nI 1) dX13_fault_12 (by decide) ?_
    refine C.icmp_ne 23 dX13_fault_13 rfl (fun hc13 => ?_) (fun hc13 => ?_)
    · rw [if_neg hc13] at hq
      refine C.iconst (-1) dX13_fault_23 (by decide) ?_
      refine C.iret hq dX13_fault_24 ?_
      exact ⟨rfl, PR.self hR⟩
    · rw [if_pos hc13] at hq
      refine C.aload_n dX13_fault_16 0 rfl ?_
      refine C.getI fX13_13 dX13_fault_17 hS.o ?_
      rw [f2]
      refine C.goto 24 dX13_fault_20 rfl ?_
      refine C.iret hq dX13_fault_24 ?_
      exact ⟨rfl, PR.self hR⟩
  · rw [if_pos (show x = nI 0 from hc1)] at hq
    refine C.aload_n dX13_fault_4 0 rfl ?_
    refine C.getI fX13_397 dX13_fault_5 hS.o ?_
    rw [f1]
    refine C.goto 24 dX13_fault_8 rfl ?_
    refine C.iret hq dX13_fault_24 ?_
    exact ⟨rfl, PR.self hR⟩
theorem isIn_c {x : Int32} {n : Nat} (hn : n + 1 < 2147483648) : ((lN 0 : Int64) ≤ x.toInt64 ∧ x.toInt64 ≤ lN n) ↔ (¬ x < 0 ∧ x < nI (n + 1)) := by
  have h := isIn_nat (x := x) (n := n + 1) hn
  rw [pk_sub (by omega), Nat.add_sub_cancel, nI_l (by omega)] at h
  exact h
theorem in_cases {x : Int32} {n : Nat} {P : Prop} (hn : n < 2147483648) (hs : ∀ j, j < n → x = nI j → inN x n = some j → P) (hx : inN x n = none → P) : P := by
  cases h : inN x n with
  | none => exact hx h
  | some j => obtain ⟨h1, h2⟩ := inN_some hn h; exact hs j h1 h2 h
theorem isIn_f {x : Int32} {n : Nat} (hn : n < 2147483648) {y : Int32} (hy : y = if ¬ x < 0 ∧ x < nI n then nI 1 else nI 0) : (y = 0 → inN x n = none) ∧ (¬ y = 0 → ∃ j, j < n ∧ x = nI j ∧ inN x n = some j) := by
  unfold inN
  by_cases q : ¬ x < 0 ∧ x < nI n
  · rw [if_pos q] at hy
    rw [if_pos q]
    refine ⟨fun z => by rw [hy] at z; exact absurd z (by decide), fun _ => ?_⟩
    obtain ⟨j, hj, e⟩ := in_ex hn q
    exact ⟨j, hj, e, by rw [e, nn_nI (by omega)]⟩
  · rw [if_neg q] at hy
    rw [if_neg q]
    exact ⟨fun _ => rfl, fun z => absurd hy z⟩
theorem kr_status (hR : RefRel μ h) (x : Int32) : AMet l G 1 0 0 mtX13_status [.ref (G.1 + 179), .int x] μ (qI (fun y μ' => y = statF h x ∧ PR μ h μ')) := by
  refine AMet.of (by decide) (Nat.le_of_ble_eq_true rfl) (fun X C hX hnm hq => ?_)
  have hS := hR.1.1
  have f1 := hR.2.2.2.1
  unfold statF at hq
  refine C.iload_n dX13_status_0 1 rfl ?_
  refine C.i2l dX13_status_1 ?_
  refine C.lconst (lN 0) dX13_status_2 (by decide) ?_
  refine C.ldc2 kX13_541 dX13_status_3 ?_
  refine C.callSI lX13_307 dX13_status_6 (km_isIn _ _ _) rfl rfl (Nat.le_of_ble_eq_true rfl) (Nat.zero_le _) (Nat.zero_le _) (Nat.le_of_ble_eq_true rfl) (fun x6 μ6 h6 => ?_)
  obtain ⟨hx6, hμ⟩ := h6
  subst hμ
  simp only [show (5 : Int64) = lN 5 from rfl, isIn_c (n := 5) (by decide)] at hx6
  have hi := isIn_f (n := 6) (by decide) hx6
  refine C.if_eq 21 dX13_status_9 rfl (fun hc9 => ?_) (fun hc9 => ?_)
  · rw [hi.1 hc9] at hq
    refine C.iconst (-1) dX13_status_21 (by decide) ?_
    refine C.iret hq dX13_status_22 ?_
    exact ⟨rfl, PR.self hR⟩
  · obtain ⟨j, hj, e, hin⟩ := hi.2 hc9
    rw [hin] at hq
    subst e
    refine C.aload_n dX13_status_12 0 rfl ?_
    refine C.getA fX13_17 dX13_status_13 hS.o hS.r9 ?_
    refine C.iload_n dX13_status_16 1 rfl ?_
    refine C.iald hS.a9 (n_in hj) dX13_status_17 ?_
    rw [n_cl, f1 j hj]
    refine C.goto 22 dX13_status_18 rfl ?_
    refine C.iret hq dX13_status_22 ?_
    exact ⟨rfl, PR.self hR⟩
theorem kr_octet (hR : RefRel μ h) (x : Int32) : AMet l G 0 0 0 mtX13_octet [.ref (G.1 + 179), .int x] μ (qI (fun y μ' => y = octF h x ∧ PR μ h μ')) := by
  refine AMet.of (by decide) (Nat.le_of_ble_eq_true rfl) (fun X C hX hnm hq => ?_)
  have hS := hR.1.1
  obtain ⟨f1, f2, f3⟩ := hR.2.2.2.2.2.2.2.2.1
  unfold octF at hq
  have hno : (x < 0 ∨ nI (ocH h).length ≤ x) → inN x (ocH h).length = none := fun q => by unfold inN; rw [if_neg (fun z => q.elim z.1 (fun y => Int32.not_le.mpr z.2 y))]
  refine C.iload_n dX13_octet_0 1 rfl ?_
  refine C.if_lt 21 dX13_octet_1 rfl (fun hc1 => ?_) (fun hc1 => ?_)
  · rw [hno (Or.inl hc1)] at hq
    refine C.iconst (-1) dX13_octet_21 (by decide) ?_
    refine C.iret hq dX13_octet_22 ?_
    exact ⟨rfl, PR.self hR⟩
  · refine C.iload_n dX13_octet_4 1 rfl ?_
    refine C.aload_n dX13_octet_5 0 rfl ?_
    refine C.getI fX13_702 dX13_octet_6 hS.o ?_
    rw [f1]
    refine C.icmp_ge 21 dX13_octet_9 rfl (fun hc9 => ?_) (fun hc9 => ?_)
    · rw [hno (Or.inr hc9)] at hq
      refine C.iconst (-1) dX13_octet_21 (by decide) ?_
      refine C.iret hq dX13_octet_22 ?_
      exact ⟨rfl, PR.self hR⟩
    · obtain ⟨j, hj, e⟩ := in_ex (n := (ocH h).length) (by omega) ⟨hc1, Int32.not_le.mp hc9⟩
      subst e
      rw [inN_nI (by omega) (by omega), if_pos hj] at hq
      refine C.aload_n dX13_octet_12 0 rfl ?_
      refine C.getA fX13_258 dX13_octet_13 hS.o hS.r111 ?_
      refine C.iload_n dX13_octet_16 1 rfl ?_
      refine C.iald hS.a111 (n_in (by omega)) dX13_octet_17 ?_
      rw [n_cl, f3 j _ (getD_q hj 0)]
      refine C.goto 22 dX13_octet_18 rfl ?_
      refine C.iret hq dX13_octet_22 ?_
      exact ⟨rfl, PR.self hR⟩
theorem kr_has (hR : RefRel μ h) (hH : HOk h) (x : Int32) : AMet l G 2 0 0 mtX13_has [.ref (G.1 + 179), .int x] μ (qI (fun y μ' => y = hasF h x ∧ PR μ h μ')) := by
  refine AMet.of (by decide) (Nat.le_of_ble_eq_true rfl) (fun X C hX hnm hq => ?_)
  have hS := hR.1.1
  have hL := hR.2.2.2.2.1.1
  have hN := hR.2.2.2.2.2.1
  have sm := hH.1.1.sm
  have sw := hH.1.2.1
  have hr5 := two5 sw.2.1 sm.2.2.2.1
  unfold hasF at hq
  refine C.iload_n dX13_has_0 1 rfl ?_
  cases hin1 : inN x 12 with
  | none =>
    rw [hin1] at hq
    refine C.tableOut 133 dX13_has_1 (inN_out (n := 11) (by decide) hin1) rfl ?_
    refine C.iconst (-1) dX13_has_133 (by decide) ?_
    refine C.iret hq dX13_has_134 ?_
    exact ⟨rfl, PR.self hR⟩
  | some j1 =>
    rw [hin1] at hq
    obtain ⟨hj1, e1⟩ := inN_some (by decide) hin1
    subst e1
    rcases (show j1 = 0 ∨ j1 = 1 ∨ j1 = 2 ∨ j1 = 3 ∨ j1 = 4 ∨ j1 = 5 ∨ j1 = 6 ∨ j1 = 7 ∨ j1 = 8 ∨ j1 = 9 ∨ j1 = 10 ∨ j1 = 11 by omega) with rfl | rfl | rfl | rfl | rfl | rfl | rfl | rfl | rfl | rfl | rfl | rfl
    · refine C.tableIn 64 dX13_has_1 (by decide) (by decide) rfl rfl ?_
      refine C.aload_n dX13_has_64 0 rfl ?_
      refine C.getA fX13_120 dX13_has_65 hS.o hS.r45 ?_
      refine C.iconst (nI 3) dX13_has_68 (by decide) ?_
      refine C.iload_n dX13_has_69 1 rfl ?_
      refine C.iadd dX13_has_70 ?_
      rw [nI_add]
      refine C.iald hS.a45 (n_in (by decide)) dX13_has_71 ?_
      first | rw [n_cl, show mI μ 215 (3 + 0) = nI (ldH h).1.1 from hL.1.1.1] | rw [n_cl, show mI μ 215 (3 + 1) = nI (ldH h).1.2.1 from hL.1.1.2.1]
      refine C.iret hq dX13_has_72 ?_
      exact ⟨rfl, PR.self hR⟩
    · refine C.tableIn 64 dX13_has_1 (by decide) (by decide) rfl rfl ?_
      refine C.aload_n dX13_has_64 0 rfl ?_
      refine C.getA fX13_120 dX13_has_65 hS.o hS.r45 ?_
      refine C.iconst (nI 3) dX13_has_68 (by decide) ?_
      refine C.iload_n dX13_has_69 1 rfl ?_
      refine C.iadd dX13_has_70 ?_
      rw [nI_add]
      refine C.iald hS.a45 (n_in (by decide)) dX13_has_71 ?_
      first | rw [n_cl, show mI μ 215 (3 + 0) = nI (ldH h).1.1 from hL.1.1.1] | rw [n_cl, show mI μ 215 (3 + 1) = nI (ldH h).1.2.1 from hL.1.1.2.1]
      refine C.iret hq dX13_has_72 ?_
      exact ⟨rfl, PR.self hR⟩
    · refine C.tableIn 73 dX13_has_1 (by decide) (by decide) rfl rfl ?_
      refine C.aload_n dX13_has_73 0 rfl ?_
      refine C.callVI lX13_430 dX13_has_74 (kg_chapelMany hS hL) hS.o rfl rfl (Nat.le_of_ble_eq_true rfl) (Nat.zero_le _) (Nat.zero_le _) (Nat.le_of_ble_eq_true rfl) (fun x74 μ74 h74 => ?_)
      obtain ⟨rfl, hμ⟩ := h74
      subst hμ
      refine C.iret hq dX13_has_77 ?_
      exact ⟨rfl, PR.self hR⟩
    · refine C.tableIn 78 dX13_has_1 (by decide) (by decide) rfl rfl ?_
      refine C.aload_n dX13_has_78 0 rfl ?_
      refine C.callVI lX13_413 dX13_has_79 (kg_bellMany hS hL) hS.o rfl rfl (Nat.le_of_ble_eq_true rfl) (Nat.zero_le _) (Nat.zero_le _) (Nat.le_of_ble_eq_true rfl) (fun x79 μ79 h79 => ?_)
      obtain ⟨rfl, hμ⟩ := h79
      subst hμ
      refine C.iret hq dX13_has_82 ?_
      exact ⟨rfl, PR.self hR⟩
    · refine C.tableIn 83 dX13_has_1 (by decide) (by decide) rfl rfl ?_
      refine C.aload_n dX13_has_83 0 rfl ?_
      refine C.callVI lX13_416 dX13_has_84 (kg_walkerMany hS hL) hS.o rfl rfl (Nat.le_of_ble_eq_true rfl) (Nat.zero_le _) (Nat.zero_le _) (Nat.le_of_ble_eq_true rfl) (fun x84 μ84 h84 => ?_)
      obtain ⟨rfl, hμ⟩ := h84
      subst hμ
      refine C.iret hq dX13_has_87 ?_
      exact ⟨rfl, PR.self hR⟩
    · refine C.tableIn 88 dX13_has_1 (by decide) (by decide) rfl rfl ?_
      refine C.aload_n dX13_has_88 0 rfl ?_
      refine C.getA fX13_151 dX13_has_89 hS.o hS.r59 ?_
      refine C.iconst (nI 0) dX13_has_92 (by decide) ?_
      refine C.iald hS.a59 (n_in (by decide)) dX13_has_93 ?_
      rw [n_cl, hN.1]
      refine C.iret hq dX13_has_94 ?_
      exact ⟨rfl, PR.self hR⟩
    · refine C.tableIn 95 dX13_has_1 (by decide) (by decide) rfl rfl ?_
      refine C.aload_n dX13_has_95 0 rfl ?_
      refine C.getA fX13_151 dX13_has_96 hS.o hS.r59 ?_
      refine C.iconst (nI 1) dX13_has_99 (by decide) ?_
      refine C.iald hS.a59 (n_in (by decide)) dX13_has_100 ?_
      rw [n_cl, hN.2.1]
      refine C.callSI lX13_532 dX13_has_101 (kn_bits hr5) rfl rfl (Nat.le_of_ble_eq_true rfl) (Nat.zero_le _) (Nat.zero_le _) (Nat.le_of_ble_eq_true rfl) (fun x101 μ101 h101 => ?_)
      obtain ⟨rfl, hμ⟩ := h101
      subst hμ
      refine C.iret hq dX13_has_104 ?_
      exact ⟨rfl, PR.self hR⟩
    · refine C.tableIn 105 dX13_has_1 (by decide) (by decide) rfl rfl ?_
      refine C.aload_n dX13_has_105 0 rfl ?_
      refine C.callVI lX13_535 dX13_has_106 (kn_goneMany hS hL hN sw.2.2.1 sm.2.2.2.2 sw.2.2.2.1) hS.o rfl rfl (Nat.le_of_ble_eq_true rfl) (Nat.zero_le _) (Nat.zero_le _) (Nat.le_of_ble_eq_true rfl) (fun x106 μ106 h106 => ?_)
      obtain ⟨rfl, hμ⟩ := h106
      subst hμ
      refine C.iret hq dX13_has_109 ?_
      exact ⟨rfl, PR.self hR⟩
    · refine C.tableIn 110 dX13_has_1 (by decide) (by decide) rfl rfl ?_
      refine C.aload_n dX13_has_110 0 rfl ?_
      refine C.callVI lX13_538 dX13_has_111 (kn_purses hS hL hN sw.2.2.1 sm.2.2.2.2) hS.o rfl rfl (Nat.le_of_ble_eq_true rfl) (Nat.zero_le _) (Nat.zero_le _) (Nat.le_of_ble_eq_true rfl) (fun x111 μ111 h111 => ?_)
      obtain ⟨rfl, hμ⟩ := h111
      subst hμ
      refine C.iret hq dX13_has_114 ?_
      exact ⟨rfl, PR.self hR⟩
    · refine C.tableIn 115 dX13_has_1 (by decide) (by decide) rfl rfl ?_
      refine C.aload_n dX13_has_115 0 rfl ?_
      refine C.getA fX13_151 dX13_has_116 hS.o hS.r59 ?_
      refine C.bipush (nI 26) dX13_has_119 (by decide) ?_
      refine C.iald hS.a59 (n_in (by decide)) dX13_has_121 ?_
      rw [n_cl, hN.2.2.2.1]
      refine C.iret hq dX13_has_122 ?_
      exact ⟨rfl, PR.self hR⟩
    · refine C.tableIn 123 dX13_has_1 (by decide) (by decide) rfl rfl ?_
      refine C.aload_n dX13_has_123 0 rfl ?_
      refine C.getI fX13_410 dX13_has_124 hS.o ?_
      rw [hR.2.2.2.2.2.2.2.1.1]
      refine C.iret hq dX13_has_127 ?_
      exact ⟨rfl, PR.self hR⟩
    · refine C.tableIn 128 dX13_has_1 (by decide) (by decide) rfl rfl ?_
      refine C.aload_n dX13_has_128 0 rfl ?_
      refine C.getI fX13_407 dX13_has_129 hS.o ?_
      rw [hR.2.2.2.2.2.2.1.1]
      refine C.iret hq dX13_has_132 ?_
      exact ⟨rfl, PR.self hR⟩
theorem kr_told (hR : RefRel μ h) (hH : HOk h) (x y : Int32) : AMet l G 1 0 0 mtX13_told [.ref (G.1 + 179), .int x, .int y] μ (qI (fun z μ' => z = toldF h x y ∧ PR μ h μ')) := by
  refine AMet.of (by decide) (Nat.le_of_ble_eq_true rfl) (fun X C hX hnm hq => ?_)
  have hS := hR.1.1
  have hN := hR.2.2.2.2.2.1
  have h40 := hH.1.2.1.2.2.2.2.1
  have h26 := hN.2.2.2.1
  unfold toldF at hq
  refine C.iload_n dX13_told_0 1 rfl ?_
  refine C.i2l dX13_told_1 ?_
  refine C.lconst (lN 0) dX13_told_2 (by decide) ?_
  refine C.aload_n dX13_told_3 0 rfl ?_
  refine C.getA fX13_151 dX13_told_4 hS.o hS.r59 ?_
  refine C.bipush (nI 26) dX13_told_7 (by decide) ?_
  refine C.iald hS.a59 (n_in (by decide)) dX13_told_9 ?_
  rw [n_cl, h26]
  refine C.iconst (nI 1) dX13_told_10 (by decide) ?_
  refine C.isub dX13_told_11 ?_
  refine C.i2l dX13_told_12 ?_
  refine C.callSI lX13_307 dX13_told_13 (km_isIn _ _ _) rfl rfl (Nat.le_of_ble_eq_true rfl) (Nat.zero_le _) (Nat.zero_le _) (Nat.le_of_ble_eq_true rfl) (fun x13 μ13 h13 => ?_)
  obtain ⟨hx13, hμ⟩ := h13
  subst hμ
  simp only [isIn_nat (show (stH h).2.2.length < 2147483648 by omega)] at hx13
  have hi := isIn_f (by omega) hx13
  refine C.if_eq 47 dX13_told_16 rfl (fun hc16 => ?_) (fun hc16 => ?_)
  · rw [hi.1 hc16] at hq
    refine C.iconst (-1) dX13_told_47 (by decide) ?_
    refine C.iret hq dX13_told_48 ?_
    refine ⟨?_, PR.self hR⟩
    first | rfl | skip
    try
      rcases (show k = 0 ∨ k = 1 ∨ k = 2 ∨ k = 3 by omega) with rfl | rfl | rfl | rfl
      · exact b1
      · rw [show 27 + 4 * j + 1 = 28 + 4 * j by omega]; exact b2
      · rw [show 27 + 4 * j + 2 = 29 + 4 * j by omega]; exact b3
      · rw [show 27 + 4 * j + 3 = 30 + 4 * j by omega]; exact b4
  · obtain ⟨j, hj, e, hin⟩ := hi.2 hc16
    rw [hin] at hq
    subst e
    refine C.iload_n dX13_told_19 2 rfl ?_
    refine C.i2l dX13_told_20 ?_
    refine C.lconst (lN 0) dX13_told_21 (by decide) ?_
    refine C.ldc2 kX13_560 dX13_told_22 ?_
    refine C.callSI lX13_307 dX13_told_25 (km_isIn _ _ _) rfl rfl (Nat.le_of_ble_eq_true rfl) (Nat.zero_le _) (Nat.zero_le _) (Nat.le_of_ble_eq_true rfl) (fun x25 μ25 h25 => ?_)
    obtain ⟨hx25, hμ⟩ := h25
    subst hμ
    simp only [show (3 : Int64) = lN 3 from rfl, isIn_c (n := 3) (by decide)] at hx25
    have hi2 := isIn_f (n := 4) (by decide) hx25
    refine C.if_eq 47 dX13_told_28 rfl (fun hc28 => ?_) (fun hc28 => ?_)
    · rw [hi2.1 hc28] at hq
      refine C.iconst (-1) dX13_told_47 (by decide) ?_
      refine C.iret hq dX13_told_48 ?_
      refine ⟨?_, PR.self hR⟩
      first | rfl | skip
      try
        rcases (show k = 0 ∨ k = 1 ∨ k = 2 ∨ k = 3 by omega) with rfl | rfl | rfl | rfl
        · exact b1
        · rw [show 27 + 4 * j + 1 = 28 + 4 * j by omega]; exact b2
        · rw [show 27 + 4 * j + 2 = 29 + 4 * j by omega]; exact b3
        · rw [show 27 + 4 * j + 3 = 30 + 4 * j by omega]; exact b4
    · obtain ⟨k, hk, e, hin2⟩ := hi2.2 hc28
      rw [hin2] at hq
      subst e
      obtain ⟨b1, b2, b3, b4⟩ := hN.2.2.2.2 j _ (getD_q hj (0, 0, 0, 0))
      refine C.aload_n dX13_told_31 0 rfl ?_
      refine C.getA fX13_151 dX13_told_32 hS.o hS.r59 ?_
      refine C.bipush (nI 27) dX13_told_35 (by decide) ?_
      refine C.iconst (nI 4) dX13_told_37 (by decide) ?_
      refine C.iload_n dX13_told_38 1 rfl ?_
      refine C.imul dX13_told_39 ?_
      rw [pk_mul]
      refine C.iadd dX13_told_40 ?_
      rw [nI_add]
      refine C.iload_n dX13_told_41 2 rfl ?_
      refine C.iadd dX13_told_42 ?_
      rw [nI_add]
      refine C.iald hS.a59 (n_in (by omega)) dX13_told_43 ?_
      rw [n_cl]
      refine C.goto 48 dX13_told_44 rfl ?_
      refine C.iret hq dX13_told_48 ?_
      refine ⟨?_, PR.self hR⟩
      first | rfl | skip
      try
        rcases (show k = 0 ∨ k = 1 ∨ k = 2 ∨ k = 3 by omega) with rfl | rfl | rfl | rfl
        · exact b1
        · rw [show 27 + 4 * j + 1 = 28 + 4 * j by omega]; exact b2
        · rw [show 27 + 4 * j + 2 = 29 + 4 * j by omega]; exact b3
        · rw [show 27 + 4 * j + 3 = 30 + 4 * j by omega]; exact b4
end KO1
