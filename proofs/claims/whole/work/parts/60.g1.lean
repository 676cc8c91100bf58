/-! the game: cells, ways, chapels, bells -/

def apN (a b : Nat) : Nat := max ((a % 7 - b % 7) + (b % 7 - a % 7)) ((a / 7 - b / 7) + (b / 7 - a / 7))
def acN (w : Nat) : Nat := if w = 2 ∨ w = 3 ∨ w = 4 then 2 else if w = 6 ∨ w = 7 ∨ w = 8 then 0 else 1
def dnN (w : Nat) : Nat := if w = 4 ∨ w = 5 ∨ w = 6 then 2 else if w = 1 ∨ w = 2 ∨ w = 8 then 0 else 1
def cb (d : Ld) (c w : Nat) : Option Nat := if (1 ≤ c % 7 + acN w ∧ c % 7 + acN w ≤ d.1.1) ∧ 1 ≤ c / 7 + dnN w ∧ c / 7 + dnN w ≤ d.1.2.1 then some ((c % 7 + acN w - 1) + 7 * (c / 7 + dnN w - 1)) else none
def bellC (d : Ld) (b : Nat) : Nat := (d.2.2.1.getD b (0, 0, 0)).2.1
def bellR (d : Ld) (b : Nat) : Nat := (d.2.2.1.getD b (0, 0, 0)).2.2
def walkF (d : Ld) (w : Nat) : Nat := (d.2.2.2.1.getD w (0, 0, 0, 0)).2.1
def walkT (d : Ld) (w : Nat) : Nat := (d.2.2.2.1.getD w (0, 0, 0, 0)).2.2.1
def bitN (r b : Nat) : Bool := decide (r / 2 ^ b % 2 = 1)
def ringF (d : Ld) (r c : Nat) : Bool := (List.range d.2.2.1.length).any (fun b => bitN r b && decide (apN c (bellC d b) ≤ 1))
section G1P
variable {μ : Mm} {d : Ld}
theorem sub_ge {p q : Nat} (hp : p < 2 ^ 30) (hq : q < 2 ^ 30) (h : 0 ≤ nI p - nI q) : q ≤ p ∧ nI p - nI q = nI (p - q) := by
  rw [i_le, pk_sub_toInt hp hq] at h
  have h0 : (0 : Int32).toInt = 0 := by decide
  have hle : q ≤ p := by omega
  exact ⟨hle, pk_sub hle⟩
theorem sub_lt {p q : Nat} (hp : p < 2 ^ 30) (hq : q < 2 ^ 30) (h : ¬ 0 ≤ nI p - nI q) : p < q ∧ -(nI p - nI q) = nI (q - p) := by
  rw [i_le, pk_sub_toInt hp hq] at h
  have h0 : (0 : Int32).toInt = 0 := by decide
  have hle : p < q := by omega
  refine ⟨hle, ?_⟩
  rw [Int32.neg_sub]
  exact pk_sub (by omega)
theorem getD_q {α : Type} {L : List α} {i : Nat} (h : i < L.length) (z : α) : L[i]? = some (L.getD i z) := by
  rw [List.getD_eq_getElem?_getD, List.getElem?_eq_getElem h]
  rfl
theorem clOk_lt {c : Nat} (hW : Wf d) (h : clOk d c) : c < 49 := by
  unfold clOk at h
  have h1 := hW.1.2.1
  have h2 := hW.1.2.2.2.1
  omega
theorem LmH.bell (hL : LmH μ 1 1600 d) {b : Nat} (hb : b < d.2.2.1.length) : mI μ 219 (10 + 2 * b) = nI (bellC d b) ∧ mI μ 219 (11 + 2 * b) = nI (bellR d b) := by
  obtain ⟨h1, h2, h3⟩ := hL.2.2.1 b _ (getD_q hb (0, 0, 0))
  refine ⟨h2, ?_⟩
  rw [show 11 + 2 * b = 10 * 1 + (2 * b + 1) by omega]
  exact h3
theorem LmH.walk (hL : LmH μ 1 1600 d) {w : Nat} (hw : w < d.2.2.2.1.length) : mI μ 220 (30 + 5 * w) = nI (walkF d w) ∧ mI μ 220 (31 + 5 * w) = nI (walkT d w) := by
  obtain ⟨h1, h2, h3, h4⟩ := hL.2.2.2.1 w _ (getD_q hw (0, 0, 0, 0))
  refine ⟨h2, ?_⟩
  rw [show 31 + 5 * w = 30 * 1 + (5 * w + 1) by omega]
  exact h3
theorem Wf.bellC (hW : Wf d) {b : Nat} (hb : b < d.2.2.1.length) : clOk d (bellC d b) := (hW.2.2.1.2 _ (q_mem (getD_q hb (0, 0, 0)))).2.1
theorem Wf.bellR (hW : Wf d) {b : Nat} (hb : b < d.2.2.1.length) : bellR d b ≤ 99 := (hW.2.2.1.2 _ (q_mem (getD_q hb (0, 0, 0)))).2.2
theorem Wf.walkF (hW : Wf d) {w : Nat} (hw : w < d.2.2.2.1.length) : clOk d (walkF d w) := (hW.2.2.2.1.2 _ (q_mem (getD_q hw (0, 0, 0, 0)))).2.1
theorem Wf.walkT (hW : Wf d) {w : Nat} (hw : w < d.2.2.2.1.length) : clOk d (walkT d w) := (hW.2.2.2.1.2 _ (q_mem (getD_q hw (0, 0, 0, 0)))).2.2.1
theorem bit_eq {r b : Nat} (hr : r < 2 ^ 31) (hb : b < 32) : nI r >>> (nI b &&& 31) &&& nI 1 = nI (r / 2 ^ b % 2) := by
  have h1 : nI b &&& 31 = nI b := by
    have := pk_andN (n := b) (by omega) (m := 31) 5 (by decide)
    rw [this]
    congr 1
    omega
  rw [h1, pk_shrN hr (nI b) b (by
    have hb2 : (nI b).toBitVec = BitVec.ofNat 32 b := rfl
    rw [hb2]
    have : ∀ k : Fin 32, ((BitVec.ofNat 32 k.val).smod 32).toNat = k.val := by decide
    exact this ⟨b, hb⟩)]
  have h2 : r / 2 ^ b ≤ r := Nat.div_le_self _ _
  have := pk_andN (n := r / 2 ^ b) (by omega) (m := nI 1) 1 (by decide)
  rw [this]
end G1P
section G1
variable {l : Launch} {G : Gm} {μ : Mm} {d : Ld}
theorem kg_bellMany (hS : ShM μ) (hL : LmH μ 1 1600 d) : AMet l G 0 0 0 mtX13_bellMany [.ref (G.1 + 179)] μ (qI (fun x μ' => x = nI d.2.2.1.length ∧ μ' = μ)) := by
  refine AMet.of (by decide) (Nat.le_of_ble_eq_true rfl) (fun X C hX hnm hq => ?_)
  have h : mI μ 216 3 = nI d.2.2.1.length := hL.1.2.1.1
  refine C.aload_n dX13_bellMany_0 0 rfl ?_
  refine C.getA fX13_123 dX13_bellMany_1 hS.o hS.r46 ?_
  refine C.iconst (nI 3) dX13_bellMany_4 (by decide) ?_
  refine C.iald hS.a46 (n_in (by decide)) dX13_bellMany_5 ?_
  rw [n_cl, h]
  refine C.iret hq dX13_bellMany_6 ?_
  exact ⟨rfl, rfl⟩
theorem kg_walkerMany (hS : ShM μ) (hL : LmH μ 1 1600 d) : AMet l G 0 0 0 mtX13_walkerMany [.ref (G.1 + 179)] μ (qI (fun x μ' => x = nI d.2.2.2.1.length ∧ μ' = μ)) := by
  refine AMet.of (by decide) (Nat.le_of_ble_eq_true rfl) (fun X C hX hnm hq => ?_)
  have h : mI μ 216 4 = nI d.2.2.2.1.length := hL.1.2.1.2.1
  refine C.aload_n dX13_walkerMany_0 0 rfl ?_
  refine C.getA fX13_123 dX13_walkerMany_1 hS.o hS.r46 ?_
  refine C.iconst (nI 4) dX13_walkerMany_4 (by decide) ?_
  refine C.iald hS.a46 (n_in (by decide)) dX13_walkerMany_5 ?_
  rw [n_cl, h]
  refine C.iret hq dX13_walkerMany_6 ?_
  exact ⟨rfl, rfl⟩
theorem kg_chapelMany (hS : ShM μ) (hL : LmH μ 1 1600 d) : AMet l G 0 0 0 mtX13_chapelMany [.ref (G.1 + 179)] μ (qI (fun x μ' => x = nI d.2.1.length ∧ μ' = μ)) := by
  refine AMet.of (by decide) (Nat.le_of_ble_eq_true rfl) (fun X C hX hnm hq => ?_)
  have h : mI μ 216 5 = nI d.2.1.length := hL.1.2.1.2.2
  refine C.aload_n dX13_chapelMany_0 0 rfl ?_
  refine C.getA fX13_123 dX13_chapelMany_1 hS.o hS.r46 ?_
  refine C.iconst (nI 5) dX13_chapelMany_4 (by decide) ?_
  refine C.iald hS.a46 (n_in (by decide)) dX13_chapelMany_5 ?_
  rw [n_cl, h]
  refine C.iret hq dX13_chapelMany_6 ?_
  exact ⟨rfl, rfl⟩
theorem isIn_nat {x : Int32} {n : Nat} (hn : n < 2147483648) : ((lN 0 : Int64) ≤ x.toInt64 ∧ x.toInt64 ≤ (nI n - nI 1).toInt64) ↔ (¬ x < 0 ∧ x < nI n) := by
  rw [show (lN 0 : Int64) = (nI 0).toInt64 from by decide, wide_le, wide_le, i_le, i_le, i_lt, i_lt, nI_tI hn]
  have h0 : (0 : Int32).toInt = 0 := by decide
  have h1 : (nI 0).toInt = 0 := by decide
  rw [h0, h1]
  rcases Nat.eq_zero_or_pos n with h | h
  · subst h
    have : (nI 0 - nI 1).toInt = -1 := by decide
    rw [this]
    omega
  · rw [pk_sub (by omega), nI_tI (by omega)]
    omega
theorem in_ex {x : Int32} {n : Nat} (hn : n < 2147483648) (h : ¬ x < 0 ∧ x < nI n) : ∃ j, j < n ∧ x = nI j := by
  obtain ⟨j, hj, e⟩ := nI_of h.1
  subst e
  exact ⟨j, n_lt h.2, rfl⟩
theorem kg_isBell (hS : ShM μ) (hL : LmH μ 1 1600 d) (hb : d.2.2.1.length < 2147483648) (x : Int32) : AMet l G 1 0 0 mtX13_isBell [.ref (G.1 + 179), .int x] μ (qI (fun y μ' => y = (if ¬ x < 0 ∧ x < nI d.2.2.1.length then nI 1 else nI 0) ∧ μ' = μ)) := by
  refine AMet.of (by decide) (Nat.le_of_ble_eq_true rfl) (fun X C hX hnm hq => ?_)
  refine C.iload_n dX13_isBell_0 1 rfl ?_
  refine C.i2l dX13_isBell_1 ?_
  refine C.lconst (lN 0) dX13_isBell_2 (by decide) ?_
  refine C.aload_n dX13_isBell_3 0 rfl ?_
  refine C.callVI lX13_413 dX13_isBell_4 (kg_bellMany hS hL) hS.o rfl rfl (Nat.le_of_ble_eq_true rfl) (Nat.zero_le _) (Nat.zero_le _) (Nat.le_of_ble_eq_true rfl) (fun x4 μ4 h4 => ?_)
  obtain ⟨rfl, hμ⟩ := h4
  subst hμ
  refine C.iconst (nI 1) dX13_isBell_7 (by decide) ?_
  refine C.isub dX13_isBell_8 ?_
  refine C.i2l dX13_isBell_9 ?_
  refine C.callSI lX13_307 dX13_isBell_10 (km_isIn _ _ _) rfl rfl (Nat.le_of_ble_eq_true rfl) (Nat.zero_le _) (Nat.zero_le _) (Nat.le_of_ble_eq_true rfl) (fun x10 μ10 h10 => ?_)
  obtain ⟨rfl, hμ⟩ := h10
  subst hμ
  refine C.zret hq dX13_isBell_13 (by split; exact Or.inr rfl; exact Or.inl rfl) ?_
  exact ⟨by simp only [isIn_nat hb], rfl⟩
theorem kg_isWalker (hS : ShM μ) (hL : LmH μ 1 1600 d) (hb : d.2.2.2.1.length < 2147483648) (x : Int32) : AMet l G 1 0 0 mtX13_isWalker [.ref (G.1 + 179), .int x] μ (qI (fun y μ' => y = (if ¬ x < 0 ∧ x < nI d.2.2.2.1.length then nI 1 else nI 0) ∧ μ' = μ)) := by
  refine AMet.of (by decide) (Nat.le_of_ble_eq_true rfl) (fun X C hX hnm hq => ?_)
  refine C.iload_n dX13_isWalker_0 1 rfl ?_
  refine C.i2l dX13_isWalker_1 ?_
  refine C.lconst (lN 0) dX13_isWalker_2 (by decide) ?_
  refine C.aload_n dX13_isWalker_3 0 rfl ?_
  refine C.callVI lX13_416 dX13_isWalker_4 (kg_walkerMany hS hL) hS.o rfl rfl (Nat.le_of_ble_eq_true rfl) (Nat.zero_le _) (Nat.zero_le _) (Nat.le_of_ble_eq_true rfl) (fun x4 μ4 h4 => ?_)
  obtain ⟨rfl, hμ⟩ := h4
  subst hμ
  refine C.iconst (nI 1) dX13_isWalker_7 (by decide) ?_
  refine C.isub dX13_isWalker_8 ?_
  refine C.i2l dX13_isWalker_9 ?_
  refine C.callSI lX13_307 dX13_isWalker_10 (km_isIn _ _ _) rfl rfl (Nat.le_of_ble_eq_true rfl) (Nat.zero_le _) (Nat.zero_le _) (Nat.le_of_ble_eq_true rfl) (fun x10 μ10 h10 => ?_)
  obtain ⟨rfl, hμ⟩ := h10
  subst hμ
  refine C.zret hq dX13_isWalker_13 (by split; exact Or.inr rfl; exact Or.inl rfl) ?_
  exact ⟨by simp only [isIn_nat hb], rfl⟩
theorem kg_apart {a b : Nat} (ha : a < 2 ^ 20) (hb : b < 2 ^ 20) : AMet l G 0 0 0 mtX13_apart [.int (nI a), .int (nI b)] μ (qI (fun y μ' => y = nI (apN a b) ∧ μ' = μ)) := by
  refine AMet.of (by decide) (Nat.le_of_ble_eq_true rfl) (fun X C hX hnm hq => ?_)
  have ha7 := Nat.mod_lt a (by decide : 0 < 7)
  have hb7 := Nat.mod_lt b (by decide : 0 < 7)
  have had : a / 7 ≤ a := Nat.div_le_self _ _
  have hbd : b / 7 ≤ b := Nat.div_le_self _ _
  have fin : ∀ p q : Nat, p = (a % 7 - b % 7) + (b % 7 - a % 7) → q = (a / 7 - b / 7) + (b / 7 - a / 7) → AW l G X 0 0 34 [(0, .int (nI a)), (1, .int (nI b)), (2, .int (nI p)), (3, .int (nI q))] [] μ := by
    intro p q hp hq2
    refine C.iload_n dX13_apart_34 2 rfl ?_
    refine C.iload_n dX13_apart_35 3 rfl ?_
    refine C.icmp_le 43 dX13_apart_36 rfl (fun hc36 => ?_) (fun hc36 => ?_)
    · have h1 := n_le (a := p) (b := q) hc36
      refine C.iload_n dX13_apart_43 3 rfl ?_
      refine C.iret hq dX13_apart_44 ?_
      refine ⟨congrArg nI ?_, rfl⟩
      unfold apN
      omega
    · have h1 := n_nle (a := p) (b := q) hc36
      refine C.iload_n dX13_apart_39 2 rfl ?_
      refine C.goto 44 dX13_apart_40 rfl ?_
      refine C.iret hq dX13_apart_44 ?_
      refine ⟨congrArg nI ?_, rfl⟩
      unfold apN
      omega
  have m27 : ∀ p : Nat, p = (a % 7 - b % 7) + (b % 7 - a % 7) → AW l G X 0 0 27 [(0, .int (nI a)), (1, .int (nI b)), (2, .int (nI p)), (3, .int (nI (a / 7) - nI (b / 7)))] [] μ := by
    intro p hp
    refine C.iload_n dX13_apart_27 3 rfl ?_
    refine C.if_ge 34 dX13_apart_28 rfl (fun hc28 => ?_) (fun hc28 => ?_)
    · have h1 := sub_ge (p := a / 7) (q := b / 7) (by omega) (by omega) hc28
      rw [h1.2]
      exact fin _ _ hp (by omega)
    · have h1 := sub_lt (p := a / 7) (q := b / 7) (by omega) (by omega) hc28
      refine C.iload_n dX13_apart_31 3 rfl ?_
      refine C.ineg dX13_apart_32 ?_
      rw [h1.2]
      refine C.istore_n (lv' := [(0, _), (1, _), (2, _), (3, _)]) dX13_apart_33 (nLt hX rfl) rfl ?_
      exact fin _ _ hp (by omega)
  refine C.iload_n dX13_apart_0 0 rfl ?_
  refine C.bipush (nI 7) dX13_apart_1 (by decide) ?_
  refine C.irem dX13_apart_3 (by decide) ?_
  rw [pk_rem (by omega) (by decide) (by decide)]
  refine C.iload_n dX13_apart_4 1 rfl ?_
  refine C.bipush (nI 7) dX13_apart_5 (by decide) ?_
  refine C.irem dX13_apart_7 (by decide) ?_
  rw [pk_rem (by omega) (by decide) (by decide)]
  refine C.isub dX13_apart_8 ?_
  refine C.istore_n (lv' := [(0, _), (1, _), (2, _)]) dX13_apart_9 (nLt hX rfl) rfl ?_
  refine C.iload_n dX13_apart_10 0 rfl ?_
  refine C.bipush (nI 7) dX13_apart_11 (by decide) ?_
  refine C.idiv dX13_apart_13 (by decide) ?_
  rw [pk_div (by omega) (by decide) (by decide)]
  refine C.iload_n dX13_apart_14 1 rfl ?_
  refine C.bipush (nI 7) dX13_apart_15 (by decide) ?_
  refine C.idiv dX13_apart_17 (by decide) ?_
  rw [pk_div (by omega) (by decide) (by decide)]
  refine C.isub dX13_apart_18 ?_
  refine C.istore_n (lv' := [(0, _), (1, _), (2, _), (3, _)]) dX13_apart_19 (nLt hX rfl) rfl ?_
  refine C.iload_n dX13_apart_20 2 rfl ?_
  refine C.if_ge 27 dX13_apart_21 rfl (fun hc21 => ?_) (fun hc21 => ?_)
  · have h1 := sub_ge (p := a % 7) (q := b % 7) (by omega) (by omega) hc21
    rw [h1.2]
    exact m27 _ (by omega)
  · have h1 := sub_lt (p := a % 7) (q := b % 7) (by omega) (by omega) hc21
    refine C.iload_n dX13_apart_24 2 rfl ?_
    refine C.ineg dX13_apart_25 ?_
    rw [h1.2]
    refine C.istore_n (lv' := [(0, _), (1, _), (2, _), (3, _)]) dX13_apart_26 (nLt hX rfl) rfl ?_
    exact m27 _ (by omega)
theorem kg_across {w : Nat} (hw : w ≤ 8) : AMet l G 0 0 0 mtX13_across [.int (nI w)] μ (qI (fun y μ' => y = nI (acN w) - nI 1 ∧ μ' = μ)) := by
  have h : (∀ k, k ≤ 8 → ∀ x : Int32, x = (if nI k = nI 2 ∨ nI k = nI 3 ∨ nI k = nI 4 then nI 1 else if nI k = nI 6 ∨ nI k = nI 7 ∨ nI k = nI 8 then -1 else nI 0) → x = nI (acN k) - nI 1) := by
    intro k hk x hx
    rw [hx]
    rcases (show k = 0 ∨ k = 1 ∨ k = 2 ∨ k = 3 ∨ k = 4 ∨ k = 5 ∨ k = 6 ∨ k = 7 ∨ k = 8 by omega) with rfl | rfl | rfl | rfl | rfl | rfl | rfl | rfl | rfl <;> decide
  refine AMet.of (by decide) (Nat.le_of_ble_eq_true rfl) (fun X C hX hnm hq => ?_)
  refine C.iload_n dX13_across_0 0 rfl ?_
  refine C.iconst (nI 2) dX13_across_1 (by decide) ?_
  refine C.icmp_eq 15 dX13_across_2 rfl (fun hc2 => ?_) (fun hc2 => ?_)
  · refine C.iconst (nI 1) dX13_across_15 (by decide) ?_
    refine C.goto 42 dX13_across_16 rfl ?_
    refine C.iret hq dX13_across_42 ?_
    refine ⟨h w hw _ ?_, rfl⟩
    first | exact (if_pos (Or.inl hc2)).symm | exact (if_pos (Or.inr (Or.inl hc7))).symm | exact (if_pos (Or.inr (Or.inr hc12))).symm | exact ((if_neg (fun z => z.elim hc2 (fun z => z.elim hc7 hc12))).trans (if_pos (Or.inl hc22))).symm | exact ((if_neg (fun z => z.elim hc2 (fun z => z.elim hc7 hc12))).trans (if_pos (Or.inr (Or.inl hc28)))).symm | exact ((if_neg (fun z => z.elim hc2 (fun z => z.elim hc7 hc12))).trans (if_pos (Or.inr (Or.inr hc34)))).symm | exact ((if_neg (fun z => z.elim hc2 (fun z => z.elim hc7 hc12))).trans (if_neg (fun z => z.elim hc22 (fun z => z.elim hc28 hc34)))).symm
  · refine C.iload_n dX13_across_5 0 rfl ?_
    refine C.iconst (nI 3) dX13_across_6 (by decide) ?_
    refine C.icmp_eq 15 dX13_across_7 rfl (fun hc7 => ?_) (fun hc7 => ?_)
    · refine C.iconst (nI 1) dX13_across_15 (by decide) ?_
      refine C.goto 42 dX13_across_16 rfl ?_
      refine C.iret hq dX13_across_42 ?_
      refine ⟨h w hw _ ?_, rfl⟩
      first | exact (if_pos (Or.inl hc2)).symm | exact (if_pos (Or.inr (Or.inl hc7))).symm | exact (if_pos (Or.inr (Or.inr hc12))).symm | exact ((if_neg (fun z => z.elim hc2 (fun z => z.elim hc7 hc12))).trans (if_pos (Or.inl hc22))).symm | exact ((if_neg (fun z => z.elim hc2 (fun z => z.elim hc7 hc12))).trans (if_pos (Or.inr (Or.inl hc28)))).symm | exact ((if_neg (fun z => z.elim hc2 (fun z => z.elim hc7 hc12))).trans (if_pos (Or.inr (Or.inr hc34)))).symm | exact ((if_neg (fun z => z.elim hc2 (fun z => z.elim hc7 hc12))).trans (if_neg (fun z => z.elim hc22 (fun z => z.elim hc28 hc34)))).symm
    · refine C.iload_n dX13_across_10 0 rfl ?_
      refine C.iconst (nI 4) dX13_across_11 (by decide) ?_
      refine C.icmp_ne 19 dX13_across_12 rfl (fun hc12 => ?_) (fun hc12 => ?_)
      · refine C.iload_n dX13_across_19 0 rfl ?_
        refine C.bipush (nI 6) dX13_across_20 (by decide) ?_
        refine C.icmp_eq 37 dX13_across_22 rfl (fun hc22 => ?_) (fun hc22 => ?_)
        · refine C.iconst (-1) dX13_across_37 (by decide) ?_
          refine C.goto 42 dX13_across_38 rfl ?_
          refine C.iret hq dX13_across_42 ?_
          refine ⟨h w hw _ ?_, rfl⟩
          first | exact (if_pos (Or.inl hc2)).symm | exact (if_pos (Or.inr (Or.inl hc7))).symm | exact (if_pos (Or.inr (Or.inr hc12))).symm | exact ((if_neg (fun z => z.elim hc2 (fun z => z.elim hc7 hc12))).trans (if_pos (Or.inl hc22))).symm | exact ((if_neg (fun z => z.elim hc2 (fun z => z.elim hc7 hc12))).trans (if_pos (Or.inr (Or.inl hc28)))).symm | exact ((if_neg (fun z => z.elim hc2 (fun z => z.elim hc7 hc12))).trans (if_pos (Or.inr (Or.inr hc34)))).symm | exact ((if_neg (fun z => z.elim hc2 (fun z => z.elim hc7 hc12))).trans (if_neg (fun z => z.elim hc22 (fun z => z.elim hc28 hc34)))).symm
        · refine C.iload_n dX13_across_25 0 rfl ?_
          refine C.bipush (nI 7) dX13_across_26 (by decide) ?_
          refine C.icmp_eq 37 dX13_across_28 rfl (fun hc28 => ?_) (fun hc28 => ?_)
          · refine C.iconst (-1) dX13_across_37 (by decide) ?_
            refine C.goto 42 dX13_across_38 rfl ?_
            refine C.iret hq dX13_across_42 ?_
            refine ⟨h w hw _ ?_, rfl⟩
            first | exact (if_pos (Or.inl hc2)).symm | exact (if_pos (Or.inr (Or.inl hc7))).symm | exact (if_pos (Or.inr (Or.inr hc12))).symm | exact ((if_neg (fun z => z.elim hc2 (fun z => z.elim hc7 hc12))).trans (if_pos (Or.inl hc22))).symm | exact ((if_neg (fun z => z.elim hc2 (fun z => z.elim hc7 hc12))).trans (if_pos (Or.inr (Or.inl hc28)))).symm | exact ((if_neg (fun z => z.elim hc2 (fun z => z.elim hc7 hc12))).trans (if_pos (Or.inr (Or.inr hc34)))).symm | exact ((if_neg (fun z => z.elim hc2 (fun z => z.elim hc7 hc12))).trans (if_neg (fun z => z.elim hc22 (fun z => z.elim hc28 hc34)))).symm
          · refine C.iload_n dX13_across_31 0 rfl ?_
            refine C.bipush (nI 8) dX13_across_32 (by decide) ?_
            refine C.icmp_ne 41 dX13_across_34 rfl (fun hc34 => ?_) (fun hc34 => ?_)
            · refine C.iconst (nI 0) dX13_across_41 (by decide) ?_
              refine C.iret hq dX13_across_42 ?_
              refine ⟨h w hw _ ?_, rfl⟩
              first | exact (if_pos (Or.inl hc2)).symm | exact (if_pos (Or.inr (Or.inl hc7))).symm | exact (if_pos (Or.inr (Or.inr hc12))).symm | exact ((if_neg (fun z => z.elim hc2 (fun z => z.elim hc7 hc12))).trans (if_pos (Or.inl hc22))).symm | exact ((if_neg (fun z => z.elim hc2 (fun z => z.elim hc7 hc12))).trans (if_pos (Or.inr (Or.inl hc28)))).symm | exact ((if_neg (fun z => z.elim hc2 (fun z => z.elim hc7 hc12))).trans (if_pos (Or.inr (Or.inr hc34)))).symm | exact ((if_neg (fun z => z.elim hc2 (fun z => z.elim hc7 hc12))).trans (if_neg (fun z => z.elim hc22 (fun z => z.elim hc28 hc34)))).symm
            · refine C.iconst (-1) dX13_across_37 (by decide) ?_
              refine C.goto 42 dX13_across_38 rfl ?_
              refine C.iret hq dX13_across_42 ?_
              refine ⟨h w hw _ ?_, rfl⟩
              first | exact (if_pos (Or.inl hc2)).symm | exact (if_pos (Or.inr (Or.inl hc7))).symm | exact (if_pos (Or.inr (Or.inr hc12))).symm | exact ((if_neg (fun z => z.elim hc2 (fun z => z.elim hc7 hc12))).trans (if_pos (Or.inl hc22))).symm | exact ((if_neg (fun z => z.elim hc2 (fun z => z.elim hc7 hc12))).trans (if_pos (Or.inr (Or.inl hc28)))).symm | exact ((if_neg (fun z => z.elim hc2 (fun z => z.elim hc7 hc12))).trans (if_pos (Or.inr (Or.inr hc34)))).symm | exact ((if_neg (fun z => z.elim hc2 (fun z => z.elim hc7 hc12))).trans (if_neg (fun z => z.elim hc22 (fun z => z.elim hc28 hc34)))).symm
      · refine C.iconst (nI 1) dX13_across_15 (by decide) ?_
        refine C.goto 42 dX13_across_16 rfl ?_
        refine C.iret hq dX13_across_42 ?_
        refine ⟨h w hw _ ?_, rfl⟩
        first | exact (if_pos (Or.inl hc2)).symm | exact (if_pos (Or.inr (Or.inl hc7))).symm | exact (if_pos (Or.inr (Or.inr hc12))).symm | exact ((if_neg (fun z => z.elim hc2 (fun z => z.elim hc7 hc12))).trans (if_pos (Or.inl hc22))).symm | exact ((if_neg (fun z => z.elim hc2 (fun z => z.elim hc7 hc12))).trans (if_pos (Or.inr (Or.inl hc28)))).symm | exact ((if_neg (fun z => z.elim hc2 (fun z => z.elim hc7 hc12))).trans (if_pos (Or.inr (Or.inr hc34)))).symm | exact ((if_neg (fun z => z.elim hc2 (fun z => z.elim hc7 hc12))).trans (if_neg (fun z => z.elim hc22 (fun z => z.elim hc28 hc34)))).symm
theorem kg_down {w : Nat} (hw : w ≤ 8) : AMet l G 0 0 0 mtX13_down [.int (nI w)] μ (qI (fun y μ' => y = nI (dnN w) - nI 1 ∧ μ' = μ)) := by
  have h : (∀ k, k ≤ 8 → ∀ x : Int32, x = (if nI k = nI 4 ∨ nI k = nI 5 ∨ nI k = nI 6 then nI 1 else if nI k = nI 1 ∨ nI k = nI 2 ∨ nI k = nI 8 then -1 else nI 0) → x = nI (dnN k) - nI 1) := by
    intro k hk x hx
    rw [hx]
    rcases (show k = 0 ∨ k = 1 ∨ k = 2 ∨ k = 3 ∨ k = 4 ∨ k = 5 ∨ k = 6 ∨ k = 7 ∨ k = 8 by omega) with rfl | rfl | rfl | rfl | rfl | rfl | rfl | rfl | rfl <;> decide
  refine AMet.of (by decide) (Nat.le_of_ble_eq_true rfl) (fun X C hX hnm hq => ?_)
  refine C.iload_n dX13_down_0 0 rfl ?_
  refine C.iconst (nI 4) dX13_down_1 (by decide) ?_
  refine C.icmp_eq 16 dX13_down_2 rfl (fun hc2 => ?_) (fun hc2 => ?_)
  · refine C.iconst (nI 1) dX13_down_16 (by decide) ?_
    refine C.goto 41 dX13_down_17 rfl ?_
    refine C.iret hq dX13_down_41 ?_
    refine ⟨h w hw _ ?_, rfl⟩
    first | exact (if_pos (Or.inl hc2)).symm | exact (if_pos (Or.inr (Or.inl hc7))).symm | exact (if_pos (Or.inr (Or.inr hc13))).symm | exact ((if_neg (fun z => z.elim hc2 (fun z => z.elim hc7 hc13))).trans (if_pos (Or.inl hc22))).symm | exact ((if_neg (fun z => z.elim hc2 (fun z => z.elim hc7 hc13))).trans (if_pos (Or.inr (Or.inl hc27)))).symm | exact ((if_neg (fun z => z.elim hc2 (fun z => z.elim hc7 hc13))).trans (if_pos (Or.inr (Or.inr hc33)))).symm | exact ((if_neg (fun z => z.elim hc2 (fun z => z.elim hc7 hc13))).trans (if_neg (fun z => z.elim hc22 (fun z => z.elim hc27 hc33)))).symm
  · refine C.iload_n dX13_down_5 0 rfl ?_
    refine C.iconst (nI 5) dX13_down_6 (by decide) ?_
    refine C.icmp_eq 16 dX13_down_7 rfl (fun hc7 => ?_) (fun hc7 => ?_)
    · refine C.iconst (nI 1) dX13_down_16 (by decide) ?_
      refine C.goto 41 dX13_down_17 rfl ?_
      refine C.iret hq dX13_down_41 ?_
      refine ⟨h w hw _ ?_, rfl⟩
      first | exact (if_pos (Or.inl hc2)).symm | exact (if_pos (Or.inr (Or.inl hc7))).symm | exact (if_pos (Or.inr (Or.inr hc13))).symm | exact ((if_neg (fun z => z.elim hc2 (fun z => z.elim hc7 hc13))).trans (if_pos (Or.inl hc22))).symm | exact ((if_neg (fun z => z.elim hc2 (fun z => z.elim hc7 hc13))).trans (if_pos (Or.inr (Or.inl hc27)))).symm | exact ((if_neg (fun z => z.elim hc2 (fun z => z.elim hc7 hc13))).trans (if_pos (Or.inr (Or.inr hc33)))).symm | exact ((if_neg (fun z => z.elim hc2 (fun z => z.elim hc7 hc13))).trans (if_neg (fun z => z.elim hc22 (fun z => z.elim hc27 hc33)))).symm
    · refine C.iload_n dX13_down_10 0 rfl ?_
      refine C.bipush (nI 6) dX13_down_11 (by decide) ?_
      refine C.icmp_ne 20 dX13_down_13 rfl (fun hc13 => ?_) (fun hc13 => ?_)
      · refine C.iload_n dX13_down_20 0 rfl ?_
        refine C.iconst (nI 1) dX13_down_21 (by decide) ?_
        refine C.icmp_eq 36 dX13_down_22 rfl (fun hc22 => ?_) (fun hc22 => ?_)
        · refine C.iconst (-1) dX13_down_36 (by decide) ?_
          refine C.goto 41 dX13_down_37 rfl ?_
          refine C.iret hq dX13_down_41 ?_
          refine ⟨h w hw _ ?_, rfl⟩
          first | exact (if_pos (Or.inl hc2)).symm | exact (if_pos (Or.inr (Or.inl hc7))).symm | exact (if_pos (Or.inr (Or.inr hc13))).symm | exact ((if_neg (fun z => z.elim hc2 (fun z => z.elim hc7 hc13))).trans (if_pos (Or.inl hc22))).symm | exact ((if_neg (fun z => z.elim hc2 (fun z => z.elim hc7 hc13))).trans (if_pos (Or.inr (Or.inl hc27)))).symm | exact ((if_neg (fun z => z.elim hc2 (fun z => z.elim hc7 hc13))).trans (if_pos (Or.inr (Or.inr hc33)))).symm | exact ((if_neg (fun z => z.elim hc2 (fun z => z.elim hc7 hc13))).trans (if_neg (fun z => z.elim hc22 (fun z => z.elim hc27 hc33)))).symm
        · refine C.iload_n dX13_down_25 0 rfl ?_
          refine C.iconst (nI 2) dX13_down_26 (by decide) ?_
          refine C.icmp_eq 36 dX13_down_27 rfl (fun hc27 => ?_) (fun hc27 => ?_)
          · refine C.iconst (-1) dX13_down_36 (by decide) ?_
            refine C.goto 41 dX13_down_37 rfl ?_
            refine C.iret hq dX13_down_41 ?_
            refine ⟨h w hw _ ?_, rfl⟩
            first | exact (if_pos (Or.inl hc2)).symm | exact (if_pos (Or.inr (Or.inl hc7))).symm | exact (if_pos (Or.inr (Or.inr hc13))).symm | exact ((if_neg (fun z => z.elim hc2 (fun z => z.elim hc7 hc13))).trans (if_pos (Or.inl hc22))).symm | exact ((if_neg (fun z => z.elim hc2 (fun z => z.elim hc7 hc13))).trans (if_pos (Or.inr (Or.inl hc27)))).symm | exact ((if_neg (fun z => z.elim hc2 (fun z => z.elim hc7 hc13))).trans (if_pos (Or.inr (Or.inr hc33)))).symm | exact ((if_neg (fun z => z.elim hc2 (fun z => z.elim hc7 hc13))).trans (if_neg (fun z => z.elim hc22 (fun z => z.elim hc27 hc33)))).symm
          · refine C.iload_n dX13_down_30 0 rfl ?_
            refine C.bipush (nI 8) dX13_down_31 (by decide) ?_
            refine C.icmp_ne 40 dX13_down_33 rfl (fun hc33 => ?_) (fun hc33 => ?_)
            · refine C.iconst (nI 0) dX13_down_40 (by decide) ?_
              refine C.iret hq dX13_down_41 ?_
              refine ⟨h w hw _ ?_, rfl⟩
              first | exact (if_pos (Or.inl hc2)).symm | exact (if_pos (Or.inr (Or.inl hc7))).symm | exact (if_pos (Or.inr (Or.inr hc13))).symm | exact ((if_neg (fun z => z.elim hc2 (fun z => z.elim hc7 hc13))).trans (if_pos (Or.inl hc22))).symm | exact ((if_neg (fun z => z.elim hc2 (fun z => z.elim hc7 hc13))).trans (if_pos (Or.inr (Or.inl hc27)))).symm | exact ((if_neg (fun z => z.elim hc2 (fun z => z.elim hc7 hc13))).trans (if_pos (Or.inr (Or.inr hc33)))).symm | exact ((if_neg (fun z => z.elim hc2 (fun z => z.elim hc7 hc13))).trans (if_neg (fun z => z.elim hc22 (fun z => z.elim hc27 hc33)))).symm
            · refine C.iconst (-1) dX13_down_36 (by decide) ?_
              refine C.goto 41 dX13_down_37 rfl ?_
              refine C.iret hq dX13_down_41 ?_
              refine ⟨h w hw _ ?_, rfl⟩
              first | exact (if_pos (Or.inl hc2)).symm | exact (if_pos (Or.inr (Or.inl hc7))).symm | exact (if_pos (Or.inr (Or.inr hc13))).symm | exact ((if_neg (fun z => z.elim hc2 (fun z => z.elim hc7 hc13))).trans (if_pos (Or.inl hc22))).symm | exact ((if_neg (fun z => z.elim hc2 (fun z => z.elim hc7 hc13))).trans (if_pos (Or.inr (Or.inl hc27)))).symm | exact ((if_neg (fun z => z.elim hc2 (fun z => z.elim hc7 hc13))).trans (if_pos (Or.inr (Or.inr hc33)))).symm | exact ((if_neg (fun z => z.elim hc2 (fun z => z.elim hc7 hc13))).trans (if_neg (fun z => z.elim hc22 (fun z => z.elim hc27 hc33)))).symm
      · refine C.iconst (nI 1) dX13_down_16 (by decide) ?_
        refine C.goto 41 dX13_down_17 rfl ?_
        refine C.iret hq dX13_down_41 ?_
        refine ⟨h w hw _ ?_, rfl⟩
        first | exact (if_pos (Or.inl hc2)).symm | exact (if_pos (Or.inr (Or.inl hc7))).symm | exact (if_pos (Or.inr (Or.inr hc13))).symm | exact ((if_neg (fun z => z.elim hc2 (fun z => z.elim hc7 hc13))).trans (if_pos (Or.inl hc22))).symm | exact ((if_neg (fun z => z.elim hc2 (fun z => z.elim hc7 hc13))).trans (if_pos (Or.inr (Or.inl hc27)))).symm | exact ((if_neg (fun z => z.elim hc2 (fun z => z.elim hc7 hc13))).trans (if_pos (Or.inr (Or.inr hc33)))).symm | exact ((if_neg (fun z => z.elim hc2 (fun z => z.elim hc7 hc13))).trans (if_neg (fun z => z.elim hc22 (fun z => z.elim hc27 hc33)))).symm
theorem kg_isInside (hS : ShM μ) (hL : LmH μ 1 1600 d) (hx : d.1.1 < 2147483648) (hy : d.1.2.1 < 2147483648) (x y : Int32) : AMet l G 1 0 0 mtX13_isInside [.ref (G.1 + 179), .int x, .int y] μ (qI (fun z μ' => z = (if (¬ x < 0 ∧ x < nI d.1.1) ∧ ¬ y < 0 ∧ y < nI d.1.2.1 then nI 1 else nI 0) ∧ μ' = μ)) := by
  refine AMet.of (by decide) (Nat.le_of_ble_eq_true rfl) (fun X C hX hnm hq => ?_)
  have h3 : mI μ 215 3 = nI d.1.1 := hL.1.1.1
  have h4 : mI μ 215 4 = nI d.1.2.1 := hL.1.1.2.1
  refine C.iload_n dX13_isInside_0 1 rfl ?_
  refine C.i2l dX13_isInside_1 ?_
  refine C.lconst (lN 0) dX13_isInside_2 (by decide) ?_
  refine C.aload_n dX13_isInside_3 0 rfl ?_
  refine C.getA fX13_120 dX13_isInside_4 hS.o hS.r45 ?_
  refine C.iconst (nI 3) dX13_isInside_7 (by decide) ?_
  refine C.iald hS.a45 (n_in (by decide)) dX13_isInside_8 ?_
  rw [n_cl, h3]
  refine C.iconst (nI 1) dX13_isInside_9 (by decide) ?_
  refine C.isub dX13_isInside_10 ?_
  refine C.i2l dX13_isInside_11 ?_
  refine C.callSI lX13_307 dX13_isInside_12 (km_isIn _ _ _) rfl rfl (Nat.le_of_ble_eq_true rfl) (Nat.zero_le _) (Nat.zero_le _) (Nat.le_of_ble_eq_true rfl) (fun x12 μ12 h12 => ?_)
  obtain ⟨rfl, hμ⟩ := h12
  subst hμ
  simp only [isIn_nat hx]
  refine C.if_eq 40 dX13_isInside_15 rfl (fun hc15 => ?_) (fun hc15 => ?_)
  · have a1 : ¬ (¬ x < 0 ∧ x < nI d.1.1) := fun q => by rw [if_pos q] at hc15; exact absurd hc15 (by decide)
    refine C.iconst (nI 0) dX13_isInside_40 (by decide) ?_
    refine C.zret hq dX13_isInside_41 (by decide) ?_
    refine ⟨?_, rfl⟩
    first | exact (if_pos ⟨a1, a2⟩).symm | exact (if_neg (fun q => a1 q.1)).symm | exact (if_neg (fun q => a2 q.2)).symm
  · have a1 : ¬ x < 0 ∧ x < nI d.1.1 := by by_cases q : ¬ x < 0 ∧ x < nI d.1.1; exact q; rw [if_neg q] at hc15; exact absurd rfl hc15
    refine C.iload_n dX13_isInside_18 2 rfl ?_
    refine C.i2l dX13_isInside_19 ?_
    refine C.lconst (lN 0) dX13_isInside_20 (by decide) ?_
    refine C.aload_n dX13_isInside_21 0 rfl ?_
    refine C.getA fX13_120 dX13_isInside_22 hS.o hS.r45 ?_
    refine C.iconst (nI 4) dX13_isInside_25 (by decide) ?_
    refine C.iald hS.a45 (n_in (by decide)) dX13_isInside_26 ?_
    rw [n_cl, h4]
    refine C.iconst (nI 1) dX13_isInside_27 (by decide) ?_
    refine C.isub dX13_isInside_28 ?_
    refine C.i2l dX13_isInside_29 ?_
    refine C.callSI lX13_307 dX13_isInside_30 (km_isIn _ _ _) rfl rfl (Nat.le_of_ble_eq_true rfl) (Nat.zero_le _) (Nat.zero_le _) (Nat.le_of_ble_eq_true rfl) (fun x30 μ30 h30 => ?_)
    obtain ⟨rfl, hμ⟩ := h30
    subst hμ
    simp only [isIn_nat hy]
    refine C.if_eq 40 dX13_isInside_33 rfl (fun hc33 => ?_) (fun hc33 => ?_)
    · have a2 : ¬ (¬ y < 0 ∧ y < nI d.1.2.1) := fun q => by rw [if_pos q] at hc33; exact absurd hc33 (by decide)
      refine C.iconst (nI 0) dX13_isInside_40 (by decide) ?_
      refine C.zret hq dX13_isInside_41 (by decide) ?_
      refine ⟨?_, rfl⟩
      first | exact (if_pos ⟨a1, a2⟩).symm | exact (if_neg (fun q => a1 q.1)).symm | exact (if_neg (fun q => a2 q.2)).symm
    · have a2 : ¬ y < 0 ∧ y < nI d.1.2.1 := by by_cases q : ¬ y < 0 ∧ y < nI d.1.2.1; exact q; rw [if_neg q] at hc33; exact absurd rfl hc33
      refine C.iconst (nI 1) dX13_isInside_36 (by decide) ?_
      refine C.goto 41 dX13_isInside_37 rfl ?_
      refine C.zret hq dX13_isInside_41 (by decide) ?_
      refine ⟨?_, rfl⟩
      first | exact (if_pos ⟨a1, a2⟩).symm | exact (if_neg (fun q => a1 q.1)).symm | exact (if_neg (fun q => a2 q.2)).symm
/-- one less, within a side -/
theorem pred_in {p n : Nat} (hp : p < 2 ^ 30) (hn : n < 2 ^ 30) : (¬ nI p - nI 1 < 0 ∧ nI p - nI 1 < nI n) ↔ (1 ≤ p ∧ p ≤ n) := by
  rw [i_lt, i_lt, pk_sub_toInt hp (by decide), nI_tI (by omega)]
  have h0 : (0 : Int32).toInt = 0 := by decide
  omega
def opI (o : Option Nat) : Int32 := match o with
  | some x => nI x
  | none => -1
theorem kg_cellBy (hS : ShM μ) (hL : LmH μ 1 1600 d) (hW : Wf d) {c w : Nat} (hc : c < 49) (hw : w ≤ 8) : AMet l G 2 0 0 mtX13_cellBy [.ref (G.1 + 179), .int (nI c), .int (nI w)] μ (qI (fun y μ' => y = opI (cb d c w) ∧ μ' = μ)) := by
  have hx := hW.1.2.1
  have hy := hW.1.2.2.2.1
  have a2 : acN w ≤ 2 := by unfold acN; split; omega; split <;> omega
  have d2 : dnN w ≤ 2 := by unfold dnN; split; omega; split <;> omega
  have e1 : ∀ p q : Nat, nI p + (nI q - nI 1) = nI (p + q) - nI 1 := fun p q => by rw [Int32.sub_eq_add_neg, Int32.sub_eq_add_neg, ← Int32.add_assoc, nI_add]
  refine AMet.of (by decide) (Nat.le_of_ble_eq_true rfl) (fun X C hX hnm hq => ?_)
  refine C.iload_n dX13_cellBy_0 1 rfl ?_
  refine C.bipush (nI 7) dX13_cellBy_1 (by decide) ?_
  refine C.irem dX13_cellBy_3 (by decide) ?_
  rw [pk_rem (by omega) (by decide) (by decide)]
  refine C.iload_n dX13_cellBy_4 2 rfl ?_
  refine C.callSI lX13_419 dX13_cellBy_5 (kg_across hw) rfl rfl (Nat.le_of_ble_eq_true rfl) (Nat.zero_le _) (Nat.zero_le _) (Nat.le_of_ble_eq_true rfl) (fun x5 μ5 h5 => ?_)
  obtain ⟨rfl, hμ⟩ := h5
  subst hμ
  refine C.iadd dX13_cellBy_8 ?_
  rw [e1]
  refine C.istore_n (lv' := [(0, _), (1, _), (2, _), (3, _)]) dX13_cellBy_9 (nLt hX rfl) rfl ?_
  refine C.iload_n dX13_cellBy_10 1 rfl ?_
  refine C.bipush (nI 7) dX13_cellBy_11 (by decide) ?_
  refine C.idiv dX13_cellBy_13 (by decide) ?_
  rw [pk_div (by omega) (by decide) (by decide)]
  refine C.iload_n dX13_cellBy_14 2 rfl ?_
  refine C.callSI lX13_423 dX13_cellBy_15 (kg_down hw) rfl rfl (Nat.le_of_ble_eq_true rfl) (Nat.zero_le _) (Nat.zero_le _) (Nat.le_of_ble_eq_true rfl) (fun x15 μ15 h15 => ?_)
  obtain ⟨rfl, hμ⟩ := h15
  subst hμ
  refine C.iadd dX13_cellBy_18 ?_
  rw [e1]
  refine C.istore (lv' := [(0, _), (1, _), (2, _), (3, _), (4, _)]) dX13_cellBy_19 (nLt hX rfl) rfl ?_
  refine C.aload_n dX13_cellBy_21 0 rfl ?_
  refine C.iload_n dX13_cellBy_22 3 rfl ?_
  refine C.iload dX13_cellBy_23 4 rfl ?_
  refine C.callVI lX13_426 dX13_cellBy_25 (kg_isInside hS hL (by omega) (by omega) _ _) hS.o rfl rfl (Nat.le_of_ble_eq_true rfl) (Nat.zero_le _) (Nat.zero_le _) (Nat.le_of_ble_eq_true rfl) (fun x25 μ25 h25 => ?_)
  obtain ⟨rfl, hμ⟩ := h25
  subst hμ
  simp only [pred_in (show c % 7 + acN w < 2 ^ 30 by omega) (show d.1.1 < 2 ^ 30 by omega), pred_in (show c / 7 + dnN w < 2 ^ 30 by omega) (show d.1.2.1 < 2 ^ 30 by omega)]
  refine C.if_eq 41 dX13_cellBy_28 rfl (fun hc28 => ?_) (fun hc28 => ?_)
  · have a1 : ¬ ((1 ≤ c % 7 + acN w ∧ c % 7 + acN w ≤ d.1.1) ∧ 1 ≤ c / 7 + dnN w ∧ c / 7 + dnN w ≤ d.1.2.1) := fun q => by rw [if_pos q] at hc28; exact absurd hc28 (by decide)
    refine C.iconst (-1) dX13_cellBy_41 (by decide) ?_
    refine C.iret hq dX13_cellBy_42 ?_
    first | (unfold cb opI; rw [if_pos a1]; exact ⟨rfl, rfl⟩) | (unfold cb opI; rw [if_neg a1]; exact ⟨rfl, rfl⟩)
  · have a1 : (1 ≤ c % 7 + acN w ∧ c % 7 + acN w ≤ d.1.1) ∧ 1 ≤ c / 7 + dnN w ∧ c / 7 + dnN w ≤ d.1.2.1 := by by_cases q : ((1 ≤ c % 7 + acN w ∧ c % 7 + acN w ≤ d.1.1) ∧ 1 ≤ c / 7 + dnN w ∧ c / 7 + dnN w ≤ d.1.2.1); exact q; rw [if_neg q] at hc28; exact absurd rfl hc28
    rw [pk_sub a1.1.1, pk_sub a1.2.1]
    refine C.iload_n dX13_cellBy_31 3 rfl ?_
    refine C.bipush (nI 7) dX13_cellBy_32 (by decide) ?_
    refine C.iload dX13_cellBy_34 4 rfl ?_
    refine C.imul dX13_cellBy_36 ?_
    rw [pk_mul]
    refine C.iadd dX13_cellBy_37 ?_
    rw [nI_add]
    refine C.goto 42 dX13_cellBy_38 rfl ?_
    refine C.iret hq dX13_cellBy_42 ?_
    first | (unfold cb opI; rw [if_pos a1]; exact ⟨rfl, rfl⟩) | (unfold cb opI; rw [if_neg a1]; exact ⟨rfl, rfl⟩)
theorem kg_isChapel (hS : ShM μ) (hL : LmH μ 1 1600 d) (hW : Wf d) {c : Nat} (hc : c < 2 ^ 20) : AMet l G 1 0 0 mtX13_isChapel [.ref (G.1 + 179), .int (nI c)] μ (qI (fun y μ' => y = bI (decide (c ∈ d.2.1)) ∧ μ' = μ)) := by
  refine AMet.of (by decide) (Nat.le_of_ble_eq_true rfl) (fun X C hX hnm hq => ?_)
  have hlen := hW.2.1.1
  have hat : ∀ i, i < d.2.1.length → mI μ 218 (10 + i) = nI (d.2.1.getD i 0) := fun i hi => hL.2.1 i _ (getD_q hi 0)
  have hlt : ∀ i, i < d.2.1.length → d.2.1.getD i 0 < 49 := fun i hi => clOk_lt hW (hW.2.1.2 _ (q_mem (getD_q hi 0)))
  have loop : ∀ (n i : Nat), d.2.1.length - i < n → i ≤ d.2.1.length → (∀ j, j < i → d.2.1.getD j 0 ≠ c) → AW l G X 0 0 2 [(0, .ref (G.1 + 179)), (1, .int (nI c)), (2, .int (nI i))] [] μ := by
    intro n
    induction n with
    | zero => intro i h; omega
    | succ n ih =>
      intro i hn hi hall
      refine C.iload_n dX13_isChapel_2 2 rfl ?_
      refine C.aload_n dX13_isChapel_3 0 rfl ?_
      refine C.callVI lX13_430 dX13_isChapel_4 (kg_chapelMany hS hL) hS.o rfl rfl (Nat.le_of_ble_eq_true rfl) (Nat.zero_le _) (Nat.zero_le _) (Nat.le_of_ble_eq_true rfl) (fun x4 μ4 h4 => ?_)
      obtain ⟨rfl, hμ⟩ := h4
      subst hμ
      refine C.icmp_ge 31 dX13_isChapel_7 rfl (fun hc7 => ?_) (fun hc7 => ?_)
      · have hge := n_le hc7
        refine C.iconst (nI 0) dX13_isChapel_31 (by decide) ?_
        refine C.zret hq dX13_isChapel_32 (by decide) ?_
        refine ⟨?_, rfl⟩
        rw [decide_eq_false (fun q => by obtain ⟨j, hj, he⟩ := List.getElem_of_mem q; exact hall j (by omega) (by rw [List.getD_eq_getElem?_getD, List.getElem?_eq_getElem hj]; exact he))]
        rfl
      · have hlt2 := n_nle hc7
        refine C.aload_n dX13_isChapel_10 0 rfl ?_
        refine C.getA fX13_130 dX13_isChapel_11 hS.o hS.r48 ?_
        refine C.bipush (nI 10) dX13_isChapel_14 (by decide) ?_
        refine C.iload_n dX13_isChapel_16 2 rfl ?_
        refine C.iadd dX13_isChapel_17 ?_
        rw [nI_add]
        refine C.iald hS.a48 (n_in (by omega)) dX13_isChapel_18 ?_
        rw [n_cl, hat i hlt2]
        refine C.iload_n dX13_isChapel_19 1 rfl ?_
        refine C.icmp_ne 25 dX13_isChapel_20 rfl (fun hc20 => ?_) (fun hc20 => ?_)
        · refine C.iinc (lv' := [(0, _), (1, _), (2, _)]) _ dX13_isChapel_25 2 rfl rfl (nLt hX rfl) rfl ?_
          refine C.goto 2 dX13_isChapel_28 rfl ?_
          have := ih (i + 1) (by omega) (by omega) (fun j hj => by rcases Nat.lt_succ_iff_lt_or_eq.mp hj with h | h; exact hall j h; rw [h]; exact n_ne hc20)
          rw [← nI_1] at this
          exact this
        · have heq : d.2.1.getD i 0 = c := n_eq hc20 (by have := hlt i hlt2; omega) (by omega)
          refine C.iconst (nI 1) dX13_isChapel_23 (by decide) ?_
          refine C.zret hq dX13_isChapel_24 (by decide) ?_
          exact ⟨by rw [decide_eq_true (by rw [← heq]; exact q_mem (getD_q hlt2 0))]; rfl, rfl⟩
  refine C.iconst (nI 0) dX13_isChapel_0 (by decide) ?_
  refine C.istore_n (lv' := [(0, _), (1, _), (2, _)]) dX13_isChapel_1 (nLt hX rfl) rfl ?_
  exact loop (d.2.1.length + 1) 0 (by omega) (by omega) (fun j hj => by omega)
theorem any_range_t {n i : Nat} {f : Nat → Bool} (hi : i < n) (h : f i = true) : (List.range n).any f = true := List.any_eq_true.mpr ⟨i, List.mem_range.mpr hi, h⟩
theorem any_range_f {n : Nat} {f : Nat → Bool} (h : ∀ i, i < n → f i = false) : (List.range n).any f = false := by
  rw [Bool.eq_false_iff]
  intro q
  obtain ⟨i, hi, hf⟩ := List.any_eq_true.mp q
  rw [h i (List.mem_range.mp hi)] at hf
  cases hf
theorem kg_isRinging (hS : ShM μ) (hL : LmH μ 1 1600 d) (hW : Wf d) {c r : Nat} (hc : c < 2 ^ 20) (hr : r < 2 ^ 31) : AMet l G 1 0 0 mtX13_isRinging [.ref (G.1 + 179), .int (nI c), .int (nI r)] μ (qI (fun y μ' => y = bI (ringF d r c) ∧ μ' = μ)) := by
  refine AMet.of (by decide) (Nat.le_of_ble_eq_true rfl) (fun X C hX hnm hq => ?_)
  have hlen := hW.2.2.1.1
  have loop : ∀ (n i : Nat), d.2.2.1.length - i < n → i ≤ d.2.2.1.length → (∀ j, j < i → (bitN r j && decide (apN c (bellC d j) ≤ 1)) = false) → AW l G X 0 0 2 [(0, .ref (G.1 + 179)), (1, .int (nI c)), (2, .int (nI r)), (3, .int (nI i))] [] μ := by
    intro n
    induction n with
    | zero => intro i h; omega
    | succ n ih =>
      intro i hn hi hall
      have nxt : i < d.2.2.1.length → (bitN r i && decide (apN c (bellC d i) ≤ 1)) = false → AW l G X 0 0 40 [(0, .ref (G.1 + 179)), (1, .int (nI c)), (2, .int (nI r)), (3, .int (nI i))] [] μ := by
        intro hlt hf
        refine C.iinc (lv' := [(0, _), (1, _), (2, _), (3, _)]) _ dX13_isRinging_40 3 rfl rfl (nLt hX rfl) rfl ?_
        refine C.goto 2 dX13_isRinging_43 rfl ?_
        have := ih (i + 1) (by omega) (by omega) (fun j hj => by rcases Nat.lt_succ_iff_lt_or_eq.mp hj with h | h; exact hall j h; rw [h]; exact hf)
        rw [← nI_1] at this
        exact this
      refine C.iload_n dX13_isRinging_2 3 rfl ?_
      refine C.aload_n dX13_isRinging_3 0 rfl ?_
      refine C.callVI lX13_413 dX13_isRinging_4 (kg_bellMany hS hL) hS.o rfl rfl (Nat.le_of_ble_eq_true rfl) (Nat.zero_le _) (Nat.zero_le _) (Nat.le_of_ble_eq_true rfl) (fun x4 μ4 h4 => ?_)
      obtain ⟨rfl, hμ⟩ := h4
      subst hμ
      refine C.icmp_ge 46 dX13_isRinging_7 rfl (fun hc7 => ?_) (fun hc7 => ?_)
      · have hge := n_le hc7
        refine C.iconst (nI 0) dX13_isRinging_46 (by decide) ?_
        refine C.zret hq dX13_isRinging_47 (by decide) ?_
        exact ⟨by rw [show ringF d r c = false from any_range_f (fun j hj => hall j (by omega))]; rfl, rfl⟩
      · have hlt := n_nle hc7
        have hcl := clOk_lt hW (hW.bellC hlt)
        refine C.iload_n dX13_isRinging_10 2 rfl ?_
        refine C.iload_n dX13_isRinging_11 3 rfl ?_
        refine C.ishr dX13_isRinging_12 ?_
        refine C.iconst (nI 1) dX13_isRinging_13 (by decide) ?_
        refine C.iand dX13_isRinging_14 ?_
        rw [bit_eq hr (by omega)]
        refine C.iconst (nI 1) dX13_isRinging_15 (by decide) ?_
        refine C.icmp_ne 40 dX13_isRinging_16 rfl (fun hc16 => ?_) (fun hc16 => ?_)
        · exact nxt hlt (by have := n_ne hc16; simp [bitN, this])
        · have hb : r / 2 ^ i % 2 = 1 := n_eq hc16 (by omega) (by omega)
          refine C.iload_n dX13_isRinging_19 1 rfl ?_
          refine C.aload_n dX13_isRinging_20 0 rfl ?_
          refine C.getA fX13_133 dX13_isRinging_21 hS.o hS.r49 ?_
          refine C.bipush (nI 10) dX13_isRinging_24 (by decide) ?_
          refine C.iconst (nI 2) dX13_isRinging_26 (by decide) ?_
          refine C.iload_n dX13_isRinging_27 3 rfl ?_
          refine C.imul dX13_isRinging_28 ?_
          rw [pk_mul]
          refine C.iadd dX13_isRinging_29 ?_
          rw [nI_add]
          refine C.iald hS.a49 (n_in (by omega)) dX13_isRinging_30 ?_
          rw [n_cl, (hL.bell hlt).1]
          refine C.callSI lX13_433 dX13_isRinging_31 (kg_apart hc (by omega)) rfl rfl (Nat.le_of_ble_eq_true rfl) (Nat.zero_le _) (Nat.zero_le _) (Nat.le_of_ble_eq_true rfl) (fun x31 μ31 h31 => ?_)
          obtain ⟨rfl, hμ⟩ := h31
          subst hμ
          have hap : apN c (bellC d i) < 2 ^ 21 := by unfold apN; omega
          refine C.iconst (nI 1) dX13_isRinging_34 (by decide) ?_
          refine C.icmp_gt 40 dX13_isRinging_35 rfl (fun hc35 => ?_) (fun hc35 => ?_)
          · exact nxt hlt (by have := n_lt (a := 1) (b := apN c (bellC d i)) hc35; rw [decide_eq_false (by omega), Bool.and_false])
          · have h1 := n_nlt (a := 1) (b := apN c (bellC d i)) hc35
            refine C.iconst (nI 1) dX13_isRinging_38 (by decide) ?_
            refine C.zret hq dX13_isRinging_39 (by decide) ?_
            exact ⟨by rw [show ringF d r c = true from any_range_t hlt (by simp [bitN, hb, h1])]; rfl, rfl⟩
  refine C.iconst (nI 0) dX13_isRinging_0 (by decide) ?_
  refine C.istore_n (lv' := [(0, _), (1, _), (2, _), (3, _)]) dX13_isRinging_1 (nLt hX rfl) rfl ?_
  exact loop (d.2.2.1.length + 1) 0 (by omega) (by omega) (fun j hj => by omega)
end G1
