/-! the reference's reading of sums and tests: codes told so far, what waits (last first), how many are open, the base -/

abbrev Qt : Type := List Int32 × List Int32 × Int32 × Nat
def QM (μ μ1 : Mm) (q : Qt) (s : Ps) : Prop :=
  (μ1.2 = μ.2 ∧ (∀ a k, a ≠ 179 → a ≠ 255 → a ≠ 256 → mI μ1 a k = mI μ a k) ∧ (∀ k, k ≠ 2 → k ≠ 4 → k ≠ 5 → k ≠ 6 → k ≠ 10 → k ≠ 44 → k ≠ 102 → k ≠ 104 → k ≠ 105 → k ≠ 106 → mI μ1 179 k = mI μ 179 k)) ∧
  (mI μ1 179 2 = nI s.1 ∧ mI μ1 179 4 = s.2.1 ∧ mI μ1 179 5 = s.2.2.1 ∧ mI μ1 179 6 = s.2.2.2.1 ∧ mI μ1 179 10 = s.2.2.2.2.1 ∧ mI μ1 179 44 = s.2.2.2.2.2) ∧
  (mI μ1 179 102 = nI q.1.length ∧ mI μ1 179 104 = nI q.2.1.length ∧ mI μ1 179 105 = q.2.2.1 ∧ mI μ1 179 106 = nI q.2.2.2) ∧
  (∀ i, i < q.1.length → mI μ1 255 i = q.1.getD i 0) ∧ (∀ i, i < q.2.1.length → mI μ1 256 i = q.2.1.reverse.getD i 0)
section QMS
variable {μ μ1 : Mm} {q : Qt} {s : Ps} {tx : Nat → Nat} {e : Nat}
theorem QM.self (h : QM μ μ1 q s) : pw μ1 s = μ1 := (pw_ext h.2.1.1 h.2.1.2.1 h.2.1.2.2.1 h.2.1.2.2.2.1 h.2.1.2.2.2.2.1 h.2.1.2.2.2.2.2 (fun _ _ _ => rfl) rfl).symm
theorem QM.sh (h : QM μ μ1 q s) (hS : ShM μ) : ShM μ1 := hS.of (by rw [h.1.1])
theorem QM.txm (h : QM μ μ1 q s) (hT : TxM μ tx e) : TxM μ1 tx e := ⟨by rw [h.1.2.2 3 (by decide) (by decide) (by decide) (by decide) (by decide) (by decide) (by decide) (by decide) (by decide) (by decide)]; exact hT.1, hT.2.1, fun j hj => by rw [h.1.2.1 180 j (by decide) (by decide) (by decide)]; exact hT.2.2 j hj⟩
theorem wdT_q : ∀ r ∈ wdT, r.1 ≠ 179 ∧ r.1 ≠ 255 ∧ r.1 ≠ 256 := by decide +kernel
theorem QM.wd (h : QM μ μ1 q s) (hW : WdM μ) : WdM μ1 := fun a ws hm i hi => by
  have := wdT_q _ hm
  rw [h.1.2.1 a i this.1 this.2.1 this.2.2]
  exact hW a ws hm i hi
theorem QM.ps (h : QM μ μ1 q s) (s' : Ps) : QM μ (pw μ1 s') q s' := by
  obtain ⟨⟨a1, a2, a3⟩, -, ⟨c1, c2, c3, c4⟩, d1, d2⟩ := h
  refine ⟨⟨a1, fun a k h1 h2 h3 => ?_, fun k k1 k2 k3 k4 k5 k6 k7 k8 k9 k10 => ?_⟩, ⟨pw_2 _ _, pw_4 _ _, pw_5 _ _, pw_6 _ _, pw_10 _ _, pw_44 _ _⟩, ⟨?_, ?_, ?_, ?_⟩, fun i hi => ?_, fun i hi => ?_⟩
  · rw [pw_off _ _ (Or.inl h1)]; exact a2 a k h1 h2 h3
  · rw [pw_off _ _ (Or.inr ⟨k1, k2, k3, k4, k5, k6⟩)]; exact a3 k k1 k2 k3 k4 k5 k6 k7 k8 k9 k10
  · rw [pw_off _ _ (by decide)]; exact c1
  · rw [pw_off _ _ (by decide)]; exact c2
  · rw [pw_off _ _ (by decide)]; exact c3
  · rw [pw_off _ _ (by decide)]; exact c4
  · rw [pw_off _ _ (by omega)]; exact d1 i hi
  · rw [pw_off _ _ (by omega)]; exact d2 i hi
/-- a field of its own is written -/
theorem QM.op (h : QM μ μ1 q s) (v : Int32) : QM μ (sI μ1 179 105 v) (q.1, q.2.1, v, q.2.2.2) s := by
  obtain ⟨⟨a1, a2, a3⟩, ⟨b1, b2, b3, b4, b5, b6⟩, ⟨c1, c2, c3, c4⟩, d1, d2⟩ := h
  refine ⟨⟨a1, fun a k h1 h2 h3 => ?_, fun k k1 k2 k3 k4 k5 k6 k7 k8 k9 k10 => ?_⟩, ⟨?_, ?_, ?_, ?_, ?_, ?_⟩, ⟨?_, ?_, ?_, ?_⟩, fun i hi => ?_, fun i hi => ?_⟩
  · rw [mI_sI, if_neg (by omega)]; exact a2 a k h1 h2 h3
  · rw [mI_sI, if_neg (by omega)]; exact a3 k k1 k2 k3 k4 k5 k6 k7 k8 k9 k10
  · exact b1
  · exact b2
  · exact b3
  · exact b4
  · exact b5
  · exact b6
  · exact c1
  · exact c2
  · simp [mI_sI]
  · exact c4
  · rw [mI_sI, if_neg (by omega)]; exact d1 i hi
  · rw [mI_sI, if_neg (by omega)]; exact d2 i hi
theorem QM.base (h : QM μ μ1 q s) (v : Nat) : QM μ (sI μ1 179 106 (nI v)) (q.1, q.2.1, q.2.2.1, v) s := by
  obtain ⟨⟨a1, a2, a3⟩, ⟨b1, b2, b3, b4, b5, b6⟩, ⟨c1, c2, c3, c4⟩, d1, d2⟩ := h
  refine ⟨⟨a1, fun a k h1 h2 h3 => ?_, fun k k1 k2 k3 k4 k5 k6 k7 k8 k9 k10 => ?_⟩, ⟨?_, ?_, ?_, ?_, ?_, ?_⟩, ⟨?_, ?_, ?_, ?_⟩, fun i hi => ?_, fun i hi => ?_⟩
  · rw [mI_sI, if_neg (by omega)]; exact a2 a k h1 h2 h3
  · rw [mI_sI, if_neg (by omega)]; exact a3 k k1 k2 k3 k4 k5 k6 k7 k8 k9 k10
  · exact b1
  · exact b2
  · exact b3
  · exact b4
  · exact b5
  · exact b6
  · exact c1
  · exact c2
  · exact c3
  · simp [mI_sI]
  · rw [mI_sI, if_neg (by omega)]; exact d1 i hi
  · rw [mI_sI, if_neg (by omega)]; exact d2 i hi
/-- one more waits -/
theorem QM.push (h : QM μ μ1 q s) (v : Int32) : QM μ (sI (sI μ1 256 q.2.1.length v) 179 104 (nI (q.2.1.length + 1))) (q.1, v :: q.2.1, q.2.2) s := by
  obtain ⟨⟨a1, a2, a3⟩, ⟨b1, b2, b3, b4, b5, b6⟩, ⟨c1, c2, c3, c4⟩, d1, d2⟩ := h
  refine ⟨⟨a1, fun a k h1 h2 h3 => ?_, fun k k1 k2 k3 k4 k5 k6 k7 k8 k9 k10 => ?_⟩, ⟨?_, ?_, ?_, ?_, ?_, ?_⟩, ⟨?_, ?_, ?_, ?_⟩, fun i hi => ?_, fun i hi => ?_⟩
  · rw [mI_sI, if_neg (by omega), mI_sI, if_neg (by omega)]; exact a2 a k h1 h2 h3
  · rw [mI_sI, if_neg (by omega), mI_sI, if_neg (by omega)]; exact a3 k k1 k2 k3 k4 k5 k6 k7 k8 k9 k10
  · exact b1
  · exact b2
  · exact b3
  · exact b4
  · exact b5
  · exact b6
  · exact c1
  · simp [mI_sI]
  · exact c3
  · exact c4
  · rw [mI_sI, if_neg (by omega), mI_sI, if_neg (by omega)]; exact d1 i hi
  · rw [mI_sI, if_neg (by omega), mI_sI]
    by_cases hl : i = q.2.1.length
    · rw [if_pos ⟨rfl, hl⟩, hl]
      simp
    · have hi' : i < q.2.1.length := by simp at hi; omega
      rw [if_neg (by omega), d2 i hi']
      simp only [List.reverse_cons]
      rw [List.getD_eq_getElem?_getD, List.getD_eq_getElem?_getD, List.getElem?_append_left (by simpa using hi')]
/-- the last one that waits is taken away -/
theorem QM.pop {cs ws : List Int32} {w op : Int32} {bs : Nat} (h : QM μ μ1 (cs, w :: ws, op, bs) s) : QM μ (sI μ1 179 104 (nI ws.length)) (cs, ws, op, bs) s := by
  obtain ⟨⟨a1, a2, a3⟩, ⟨b1, b2, b3, b4, b5, b6⟩, ⟨c1, c2, c3, c4⟩, d1, d2⟩ := h
  refine ⟨⟨a1, fun a k h1 h2 h3 => ?_, fun k k1 k2 k3 k4 k5 k6 k7 k8 k9 k10 => ?_⟩, ⟨?_, ?_, ?_, ?_, ?_, ?_⟩, ⟨?_, ?_, ?_, ?_⟩, fun i hi => ?_, fun i hi => ?_⟩
  · rw [mI_sI, if_neg (by omega)]; exact a2 a k h1 h2 h3
  · rw [mI_sI, if_neg (by omega)]; exact a3 k k1 k2 k3 k4 k5 k6 k7 k8 k9 k10
  · exact b1
  · exact b2
  · exact b3
  · exact b4
  · exact b5
  · exact b6
  · exact c1
  · simp [mI_sI]
  · exact c3
  · exact c4
  · rw [mI_sI, if_neg (by omega)]; exact d1 i hi
  · rw [mI_sI, if_neg (by omega), d2 i (by dsimp only at hi ⊢; simp; omega)]
    dsimp only at hi ⊢
    simp only [List.reverse_cons]
    rw [List.getD_eq_getElem?_getD, List.getD_eq_getElem?_getD, List.getElem?_append_left (by simpa using hi)]
theorem QM.top {cs ws : List Int32} {w op : Int32} {bs : Nat} (h : QM μ μ1 (cs, w :: ws, op, bs) s) : mI μ1 256 ws.length = w := by
  rw [h.2.2.2.2 ws.length (by simp)]
  simp
theorem QM.code (h : QM μ μ1 q s) (v : Int32) : QM μ (sI (sI μ1 255 q.1.length v) 179 102 (nI (q.1.length + 1))) (q.1 ++ [v], q.2) s := by
  obtain ⟨⟨a1, a2, a3⟩, ⟨b1, b2, b3, b4, b5, b6⟩, ⟨c1, c2, c3, c4⟩, d1, d2⟩ := h
  refine ⟨⟨a1, fun a k h1 h2 h3 => ?_, fun k k1 k2 k3 k4 k5 k6 k7 k8 k9 k10 => ?_⟩, ⟨?_, ?_, ?_, ?_, ?_, ?_⟩, ⟨?_, ?_, ?_, ?_⟩, fun i hi => ?_, fun i hi => ?_⟩
  · rw [mI_sI, if_neg (by omega), mI_sI, if_neg (by omega)]; exact a2 a k h1 h2 h3
  · rw [mI_sI, if_neg (by omega), mI_sI, if_neg (by omega)]; exact a3 k k1 k2 k3 k4 k5 k6 k7 k8 k9 k10
  · exact b1
  · exact b2
  · exact b3
  · exact b4
  · exact b5
  · exact b6
  · simp [mI_sI]
  · exact c2
  · exact c3
  · exact c4
  · rw [mI_sI, if_neg (by omega), mI_sI]
    by_cases hl : i = q.1.length
    · rw [if_pos ⟨rfl, hl⟩, hl]
      simp
    · have hi' : i < q.1.length := by simp at hi; omega
      rw [if_neg (by omega), d1 i hi', List.getD_eq_getElem?_getD, List.getD_eq_getElem?_getD, List.getElem?_append_left hi']
  · rw [mI_sI, if_neg (by omega), mI_sI, if_neg (by omega)]; exact d2 i hi
end QMS
def isBr (v : Int32) : Bool := decide (nI 20 ≤ v) && decide (v ≤ nI 24)
/-- what waits down to a bracket, or to the base, is told -/
def qDown : List Int32 → List Int32 → Nat → List Int32 × List Int32
  | cs, [], _ => (cs, [])
  | cs, w :: ws, bs => if bs ≤ ws.length ∧ isBr w = false then qDown (cs ++ [w]) ws bs else (cs, w :: ws)
def qBrk : List Int32 → Nat → Int32
  | [], _ => -1
  | w :: ws, bs => if bs ≤ ws.length then (if isBr w then w else qBrk ws bs) else -1
section KMQ
variable {l : Launch} {G : Gm} {μ μ1 : Mm} {q : Qt} {s : Ps}
theorem kq_qCode (hS : ShM μ) (hQ : QM μ μ1 q s) (hl : q.1.length < 1700) (v : Int32) : AMet l G 0 0 0 mtX13_qCode [.ref (G.1 + 179), .int v] μ1 (qV (fun μ' => QM μ μ' (q.1 ++ [v], q.2) s)) := by
  refine AMet.of (by decide) (Nat.le_of_ble_eq_true rfl) (fun X C hX hnm hq => ?_)
  have hS : ShM μ1 := hQ.sh hS
  have hc := hQ.2.2.1.1
  refine C.aload_n dX13_qCode_0 0 rfl ?_
  refine C.getA fX13_249 dX13_qCode_1 hS.o hS.r101 ?_
  refine C.aload_n dX13_qCode_4 0 rfl ?_
  refine C.getI fX13_355 dX13_qCode_5 hS.o ?_
  rw [hc]
  refine C.iload_n dX13_qCode_8 1 rfl ?_
  refine C.iast hS.a101 (n_in hl) dX13_qCode_9 ?_
  rw [n_cl]
  refine C.aload_n dX13_qCode_10 0 rfl ?_
  refine C.dup dX13_qCode_11 rfl ?_
  refine C.getI fX13_355 dX13_qCode_12 hS.o ?_
  rw [show mI (sI μ1 255 q.1.length v) 179 102 = nI q.1.length from hc]
  refine C.iconst (nI 1) dX13_qCode_15 (by decide) ?_
  refine C.iadd dX13_qCode_16 ?_
  rw [nI_add]
  refine C.putI fX13_355 (Or.inl rfl) dX13_qCode_17 hS.o ?_
  refine C.vret hq dX13_qCode_20 ?_
  exact hQ.code v
theorem kq_qIsOn (hS : ShM μ) (hQ : QM μ μ1 q s) (hl : q.2.1.length < 1700) (v : Int32) : AMet l G 0 0 0 mtX13_qIsOn [.ref (G.1 + 179), .int v] μ1 (qI (fun x μ' => x = bI (decide (q.2.1.head? = some v)) ∧ μ' = μ1)) := by
  refine AMet.of (by decide) (Nat.le_of_ble_eq_true rfl) (fun X C hX hnm hq => ?_)
  have hS : ShM μ1 := hQ.sh hS
  have hc := hQ.2.2.1.2.1
  obtain ⟨cs, ws, op, bs⟩ := q
  dsimp only at hc hl ⊢
  refine C.aload_n dX13_qIsOn_0 0 rfl ?_
  refine C.getI fX13_358 dX13_qIsOn_1 hS.o ?_
  rw [hc]
  refine C.if_le 26 dX13_qIsOn_4 rfl (fun hc4 => ?_) (fun hc4 => ?_)
  · have h0 : ws.length = 0 := by have := n_le (a := ws.length) (b := 0) hc4; omega
    have : ws = [] := List.length_eq_zero_iff.mp h0
    subst this
    refine C.iconst (nI 0) dX13_qIsOn_26 (by decide) ?_
    refine C.zret hq dX13_qIsOn_27 (by decide) ?_
    refine ⟨?_, rfl⟩
    first | (simp [bI]; done) | (have hne : ¬ w = v := hc19; simp [bI, hne]; done) | (have heq : w = v := hc19; simp [bI, heq]; done)
  · have h0 : 0 < ws.length := by rcases Nat.eq_zero_or_pos ws.length with h | h; rw [h] at hc4; exact absurd (by decide) hc4; exact h
    cases ws with
    | nil => simp at h0
    | cons w ws =>
    have ht := hQ.top
    simp only [List.length_cons] at hc hl ⊢
    refine C.aload_n dX13_qIsOn_7 0 rfl ?_
    refine C.getA fX13_252 dX13_qIsOn_8 hS.o hS.r103 ?_
    refine C.aload_n dX13_qIsOn_11 0 rfl ?_
    refine C.getI fX13_358 dX13_qIsOn_12 hS.o ?_
    rw [hc]
    refine C.iconst (nI 1) dX13_qIsOn_15 (by decide) ?_
    refine C.isub dX13_qIsOn_16 ?_
    rw [pk_sub (by omega), Nat.add_sub_cancel]
    refine C.iald hS.a103 (n_in (by omega)) dX13_qIsOn_17 ?_
    rw [n_cl, ht]
    refine C.iload_n dX13_qIsOn_18 1 rfl ?_
    refine C.icmp_ne 26 dX13_qIsOn_19 rfl (fun hc19 => ?_) (fun hc19 => ?_)
    · refine C.iconst (nI 0) dX13_qIsOn_26 (by decide) ?_
      refine C.zret hq dX13_qIsOn_27 (by decide) ?_
      refine ⟨?_, rfl⟩
      first | (simp [bI]; done) | (have hne : ¬ w = v := hc19; simp [bI, hne]; done) | (have heq : w = v := hc19; simp [bI, heq]; done)
    · refine C.iconst (nI 1) dX13_qIsOn_22 (by decide) ?_
      refine C.goto 27 dX13_qIsOn_23 rfl ?_
      refine C.zret hq dX13_qIsOn_27 (by decide) ?_
      refine ⟨?_, rfl⟩
      first | (simp [bI]; done) | (have hne : ¬ w = v := hc19; simp [bI, hne]; done) | (have heq : w = v := hc19; simp [bI, heq]; done)
theorem kq_qDrops (hS : ShM μ) {cs ws : List Int32} {w op : Int32} {bs : Nat} (hQ : QM μ μ1 (cs, w :: ws, op, bs) s) (hl : cs.length < 1700) (hl2 : ws.length < 1700) : AMet l G 1 0 0 mtX13_qDrops [.ref (G.1 + 179)] μ1 (qV (fun μ' => QM μ μ' (cs ++ [w], ws, op, bs) s)) := by
  refine AMet.of (by decide) (Nat.le_of_ble_eq_true rfl) (fun X C hX hnm hq => ?_)
  have hS1 := hS
  have hS : ShM μ1 := hQ.sh hS
  have hc := hQ.2.2.1.2.1
  have ht := hQ.top
  simp only [List.length_cons] at hc
  have hQ2 := hQ.pop
  refine C.aload_n dX13_qDrops_0 0 rfl ?_
  refine C.dup dX13_qDrops_1 rfl ?_
  refine C.getI fX13_358 dX13_qDrops_2 hS.o ?_
  rw [hc]
  refine C.iconst (nI 1) dX13_qDrops_5 (by decide) ?_
  refine C.isub dX13_qDrops_6 ?_
  rw [pk_sub (by omega), Nat.add_sub_cancel]
  refine C.putI fX13_358 (Or.inl rfl) dX13_qDrops_7 hS.o ?_
  refine C.aload_n dX13_qDrops_10 0 rfl ?_
  refine C.aload_n dX13_qDrops_11 0 rfl ?_
  refine C.getA fX13_252 dX13_qDrops_12 hS.o hS.r103 ?_
  refine C.aload_n dX13_qDrops_15 0 rfl ?_
  refine C.getI fX13_358 dX13_qDrops_16 hS.o ?_
  rw [show mI (sI μ1 179 104 (nI ws.length)) 179 104 = nI ws.length by simp [mI_sI]]
  refine C.iald hS.a103 (n_in hl2) dX13_qDrops_19 ?_
  rw [n_cl, show mI (sI μ1 179 104 (nI ws.length)) 256 ws.length = w from ht]
  refine C.callVV lX13_608 dX13_qDrops_20 (kq_qCode hS1 hQ2 hl w) hS.o rfl rfl (Nat.le_of_ble_eq_true rfl) (Nat.zero_le _) (Nat.zero_le _) (Nat.le_of_ble_eq_true rfl) (fun μ20 h20 => ?_)
  refine C.vret hq dX13_qDrops_23 ?_
  exact h20
theorem kq_qIsBracket (v : Int32) : AMet l G 0 0 0 mtX13_qIsBracket [.int v] μ (qI (fun x μ' => x = bI (isBr v) ∧ μ' = μ)) := by
  refine AMet.of (by decide) (Nat.le_of_ble_eq_true rfl) (fun X C hX hnm hq => ?_)
  refine C.iload_n dX13_qIsBracket_0 0 rfl ?_
  refine C.bipush (nI 20) dX13_qIsBracket_1 (by decide) ?_
  refine C.icmp_lt 16 dX13_qIsBracket_3 rfl (fun hc3 => ?_) (fun hc3 => ?_)
  · refine C.iconst (nI 0) dX13_qIsBracket_16 (by decide) ?_
    refine C.zret hq dX13_qIsBracket_17 (by decide) ?_
    refine ⟨?_, rfl⟩
    (try simp only [Int32.not_lt] at *)
    unfold isBr
    first | (rw [decide_eq_true (by assumption : nI 20 ≤ v), decide_eq_true (by assumption : v ≤ nI 24)]; rfl) | (rw [decide_eq_false (Int32.not_le.mpr hc3)]; rfl) | (rw [decide_eq_false (Int32.not_le.mpr hc9), Bool.and_false]; rfl)
  · refine C.iload_n dX13_qIsBracket_6 0 rfl ?_
    refine C.bipush (nI 24) dX13_qIsBracket_7 (by decide) ?_
    refine C.icmp_gt 16 dX13_qIsBracket_9 rfl (fun hc9 => ?_) (fun hc9 => ?_)
    · refine C.iconst (nI 0) dX13_qIsBracket_16 (by decide) ?_
      refine C.zret hq dX13_qIsBracket_17 (by decide) ?_
      refine ⟨?_, rfl⟩
      (try simp only [Int32.not_lt] at *)
      unfold isBr
      first | (rw [decide_eq_true (by assumption : nI 20 ≤ v), decide_eq_true (by assumption : v ≤ nI 24)]; rfl) | (rw [decide_eq_false (Int32.not_le.mpr hc3)]; rfl) | (rw [decide_eq_false (Int32.not_le.mpr hc9), Bool.and_false]; rfl)
    · refine C.iconst (nI 1) dX13_qIsBracket_12 (by decide) ?_
      refine C.goto 17 dX13_qIsBracket_13 rfl ?_
      refine C.zret hq dX13_qIsBracket_17 (by decide) ?_
      refine ⟨?_, rfl⟩
      (try simp only [Int32.not_lt] at *)
      unfold isBr
      first | (rw [decide_eq_true (by assumption : nI 20 ≤ v), decide_eq_true (by assumption : v ≤ nI 24)]; rfl) | (rw [decide_eq_false (Int32.not_le.mpr hc3)]; rfl) | (rw [decide_eq_false (Int32.not_le.mpr hc9), Bool.and_false]; rfl)
theorem kq_qOpens (hS : ShM μ) (hQ : QM μ μ1 q s) (hl : q.2.1.length < 1700) (v pl : Int32) : AMet l G 1 0 0 mtX13_qOpens [.ref (G.1 + 179), .int v, .int pl] μ1 (qV (fun μ' => if s.2.2.1 = 0 then (if q.2.2.1 = nI 6 then QM μ μ' q (mFail s (nI 4) pl) else QM μ μ' (q.1, v :: q.2.1, q.2.2.1 + nI 1, q.2.2.2) s) else QM μ μ' q s)) := by
  refine AMet.of (by decide) (Nat.le_of_ble_eq_true rfl) (fun X C hX hnm hq => ?_)
  have hS1 := hS
  have hS : ShM μ1 := hQ.sh hS
  have hb := hQ.2.1.2.2.1
  have ho := hQ.2.2.1.2.2.1
  have hw := hQ.2.2.1.2.1
  have hQ2 := (hQ.op (q.2.2.1 + nI 1)).push v
  refine C.aload_n dX13_qOpens_0 0 rfl ?_
  refine C.getI fX13_264 dX13_qOpens_1 hS.o ?_
  rw [hb]
  refine C.if_eq 8 dX13_qOpens_4 rfl (fun hc4 => ?_) (fun hc4 => ?_)
  · refine C.aload_n dX13_qOpens_8 0 rfl ?_
    refine C.getI fX13_361 dX13_qOpens_9 hS.o ?_
    refine C.bipush (nI 6) dX13_qOpens_12 (by decide) ?_
    rw [ho]
    refine C.icmp_ne 24 dX13_qOpens_14 rfl (fun hc14 => ?_) (fun hc14 => ?_)
    · refine C.aload_n dX13_qOpens_24 0 rfl ?_
      refine C.dup dX13_qOpens_25 rfl ?_
      refine C.getI fX13_361 dX13_qOpens_26 hS.o ?_
      rw [ho]
      refine C.iconst (nI 1) dX13_qOpens_29 (by decide) ?_
      refine C.iadd dX13_qOpens_30 ?_
      refine C.putI fX13_361 (Or.inl rfl) dX13_qOpens_31 hS.o ?_
      refine C.aload_n dX13_qOpens_34 0 rfl ?_
      refine C.getA fX13_252 dX13_qOpens_35 hS.o hS.r103 ?_
      refine C.aload_n dX13_qOpens_38 0 rfl ?_
      refine C.getI fX13_358 dX13_qOpens_39 hS.o ?_
      rw [show mI (sI μ1 179 105 (q.2.2.1 + nI 1)) 179 104 = nI q.2.1.length from hw]
      refine C.iload_n dX13_qOpens_42 1 rfl ?_
      refine C.iast hS.a103 (n_in hl) dX13_qOpens_43 ?_
      rw [n_cl]
      refine C.aload_n dX13_qOpens_44 0 rfl ?_
      refine C.dup dX13_qOpens_45 rfl ?_
      refine C.getI fX13_358 dX13_qOpens_46 hS.o ?_
      rw [show mI (sI (sI μ1 179 105 (q.2.2.1 + nI 1)) 256 q.2.1.length v) 179 104 = nI q.2.1.length from hw]
      refine C.iconst (nI 1) dX13_qOpens_49 (by decide) ?_
      refine C.iadd dX13_qOpens_50 ?_
      rw [nI_add]
      refine C.putI fX13_358 (Or.inl rfl) dX13_qOpens_51 hS.o ?_
      refine C.vret hq dX13_qOpens_54 ?_
      rw [if_pos hc4, if_neg hc14]
      exact hQ2
    · refine C.aload_n dX13_qOpens_17 0 rfl ?_
      refine C.iconst (nI 4) dX13_qOpens_18 (by decide) ?_
      refine C.iload_n dX13_qOpens_19 2 rfl ?_
      refine C.callVV lX13_294 dX13_qOpens_20 ((by have h := kp_fail (l := l) (G := G) (hQ.sh hS1) s (nI 4) pl; rw [hQ.self] at h; exact h)) hS.o rfl rfl (Nat.le_of_ble_eq_true rfl) (Nat.zero_le _) (Nat.zero_le _) (Nat.le_of_ble_eq_true rfl) (fun μ20 h20 => ?_)
      subst h20
      refine C.vret hq dX13_qOpens_23 ?_
      rw [if_pos hc4, if_pos (by simpa using hc14)]
      exact hQ.ps _
  · refine C.vret hq dX13_qOpens_7 ?_
    rw [if_neg hc4]
    exact hQ
end KMQ
