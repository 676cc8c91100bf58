/-! the reference: images; see -/

def chkN (f : Nat → Nat) : Nat → Nat
  | 0 => 79
  | n + 1 => (3 * chkN f n + f n) % 251
def wkB (x : Wk) : List Nat := [x.1, x.2.1 / 256, x.2.1 % 256, x.2.2.1 / 256, x.2.2.1 % 256, x.2.2.2]
def imgB (S : St) : List Nat := [S.1.1 / 256, S.1.1 % 256, S.1.2] ++ S.2.1.flatMap wkB
def imgF (S : St) : List Nat := imgB S ++ [chkN (txL (imgB S)) (imgB S).length]
def imageH (h : Hs) : Hs := (tpH h, flH h, rfH h, ldH h, stH h, psH h, rwH h, imgF (stH h), sdH h)
def imageA (h : Hs) : Int32 := nI (imgF (stH h)).length
def two (f : Nat → Nat) (k : Nat) : Nat := 256 * f k + f (k + 1)
def onG (f : Nat → Nat) (w : Nat) : Bool := decide (f (3 + 6 * w) ≤ 3) && (decide (two f (3 + 6 * w + 1) ≤ 9999) && (decide (two f (3 + 6 * w + 3) ≤ 9999) && decide (f (3 + 6 * w + 5) ≤ 99)))
def onB (h : Hs) : Bool := decide (0 < (ldH h).1.1) && (decide ((tpH h).length = 4 + 6 * (ldH h).2.2.2.1.length) && (decide (txL (tpH h) ((tpH h).length - 1) = chkN (txL (tpH h)) ((tpH h).length - 1)) && (decide (two (txL (tpH h)) 0 ≤ 999) && decide (txL (tpH h) 2 < 2 ^ (ldH h).2.2.1.length))))
def onOk (h : Hs) : Bool := onB h && (List.range (ldH h).2.2.2.1.length).all (onG (txL (tpH h)))
def onW (f : Nat → Nat) (w : Nat) : Wk := (f (3 + 6 * w), two f (3 + 6 * w + 1), two f (3 + 6 * w + 3), f (3 + 6 * w + 5))
def onS (h : Hs) : St := ((two (txL (tpH h)) 0, txL (tpH h) 2), (List.range (ldH h).2.2.2.1.length).map (onW (txL (tpH h))), [])
def onH (h : Hs) : Hs := if onOk h then ([], flH h, rfH h, ldH h, onS h, [], rwH h, ocH h, sdH h) else ([], flH h, upR (rfH h) 5, ldH h, stH h, psH h, rwH h, ocH h, sdH h)
def onA (h : Hs) : Int32 := bI (onOk h)
theorem chkN_lt {f : Nat → Nat} : ∀ n, chkN f n < 251
  | 0 => (by decide : 79 < 251)
  | n + 1 => Nat.mod_lt _ (by decide)
theorem chkN_congr {f g : Nat → Nat} : ∀ n, (∀ i, i < n → f i = g i) → chkN f n = chkN g n
  | 0, _ => rfl
  | n + 1, h => by unfold chkN; rw [chkN_congr n (fun i hi => h i (by omega)), h n (by omega)]
theorem flat_len {L : List Wk} : (L.flatMap wkB).length = 6 * L.length := by
  induction L with
  | nil => rfl
  | cons x L ih => rw [List.flatMap_cons, List.length_append, ih]; simp [wkB]; omega
section KIM
variable {l : Launch} {G : Gm} {μ : Mm} {h : Hs}
theorem kn_checked {a N n : Nat} {f : Nat → Nat} (ha : isA μ a 0 N) (hn : n ≤ N) (hN : N < 10000) (hf : ∀ i, i < n → mI μ a i = nI (f i) ∧ f i < 1000000) : AMet l G 0 0 0 mtX13_checked [.ref (G.1 + a), .int (nI n)] μ (qI (fun x μ' => x = nI (chkN f n) ∧ μ' = μ)) := by
  refine AMet.of (by decide) (Nat.le_of_ble_eq_true rfl) (fun X C hX hnm hq => ?_)
  have loop : ∀ (j k : Nat), k + j = n → AW l G X 0 0 5 [(0, .ref (G.1 + a)), (1, .int (nI n)), (2, .int (nI (chkN f k))), (3, .int (nI k))] [] μ := by
    intro j
    induction j with
    | zero =>
      intro k hk
      have hkn : k = n := by omega
      subst hkn
      refine C.iload_n dX13_checked_5 3 rfl ?_
      refine C.iload_n dX13_checked_6 1 rfl ?_
      refine C.icmp_ge 28 dX13_checked_7 rfl (fun hc7 => ?_) (fun hc7 => ?_)
      · refine C.iload_n dX13_checked_28 2 rfl ?_
        refine C.iret hq dX13_checked_29 ?_
        exact ⟨rfl, rfl⟩
      · exact absurd (Int32.le_refl _) hc7
    | succ j ih =>
      intro k hk
      obtain ⟨f1, f2⟩ := hf k (by omega)
      have hlt := chkN_lt (f := f) k
      refine C.iload_n dX13_checked_5 3 rfl ?_
      refine C.iload_n dX13_checked_6 1 rfl ?_
      refine C.icmp_ge 28 dX13_checked_7 rfl (fun hc7 => ?_) (fun hc7 => ?_)
      · have := n_le (a := n) (b := k) hc7; omega
      · refine C.iconst (nI 3) dX13_checked_10 (by decide) ?_
        refine C.iload_n dX13_checked_11 2 rfl ?_
        refine C.imul dX13_checked_12 ?_
        rw [pk_mul]
        refine C.aload_n dX13_checked_13 0 rfl ?_
        refine C.iload_n dX13_checked_14 3 rfl ?_
        refine C.iald ha (n_in (by omega)) dX13_checked_15 ?_
        rw [n_cl, f1]
        refine C.iadd dX13_checked_16 ?_
        rw [nI_add]
        refine C.sipush (nI 251) dX13_checked_17 (by decide) ?_
        refine C.irem dX13_checked_20 (by decide) ?_
        rw [pk_rem (by omega) (by decide) (by decide)]
        refine C.istore_n (lv' := [(0, _), (1, _), (2, _), (3, _)]) dX13_checked_21 (nLt hX rfl) rfl ?_
        refine C.iinc (lv' := [(0, _), (1, _), (2, _), (3, _)]) _ dX13_checked_22 3 rfl rfl (nLt hX rfl) rfl ?_
        refine C.goto 5 dX13_checked_25 rfl ?_
        have hgo := ih (k + 1) (by omega)
        rw [show Value.int (nI (k + 1)) = Value.int (nI k + 1) by rw [nI_1]] at hgo
        exact hgo
  refine C.bipush (nI 79) dX13_checked_0 (by decide) ?_
  refine C.istore_n (lv' := [(0, _), (1, _), (2, _)]) dX13_checked_2 (nLt hX rfl) rfl ?_
  refine C.iconst (nI 0) dX13_checked_3 (by decide) ?_
  refine C.istore_n (lv' := [(0, _), (1, _), (2, _), (3, _)]) dX13_checked_4 (nLt hX rfl) rfl ?_
  exact loop n 0 (by omega)
/-- octets, written -/
def OcW (μ μ1 : Mm) (L : List Nat) : Prop := μ1.2 = μ.2 ∧ (∀ a k, a ≠ 258 → ¬ (a = 179 ∧ k = 112) → mI μ1 a k = mI μ a k) ∧ RfO μ1 L
theorem OcW.sh {μ1 : Mm} {L : List Nat} (t : OcW μ μ1 L) (hS : ShM μ) : ShM μ1 := hS.of (by rw [t.1])
theorem OcW.lm {μ1 : Mm} {L : List Nat} {d : Ld} (t : OcW μ μ1 L) (hL : LmH μ 1 1600 d) : LmH μ1 1 1600 d := hL.of (fun a k q _ _ => t.2.1 a k (by omega) (by omega)) (fun a k q _ => t.2.1 a k (by omega) (by omega)) (fun k _ => t.2.1 _ k (by omega) (by omega)) (fun k _ => t.2.1 _ k (by omega) (by omega)) (fun k _ => by show μ1.2.1 _ _ = μ.2.1 _ _; rw [t.1])
theorem kn_writes {μ1 : Mm} {L : List Nat} (hS : ShM μ) (t : OcW μ μ1 L) (hl : L.length < 40) (v : Nat) : AMet l G 0 0 0 mtX13_writes [.ref (G.1 + 179), .int (nI v)] μ1 (qV (fun μ' => OcW μ μ' (L ++ [v]))) := by
  refine AMet.of (by decide) (Nat.le_of_ble_eq_true rfl) (fun X C hX hnm hq => ?_)
  have hS : ShM μ1 := t.sh hS
  obtain ⟨t1, t2, o1, o2, o3⟩ := t
  have o1' : mI (sI μ1 258 L.length (nI v)) 179 112 = nI L.length := by rw [mI_sI, if_neg (by omega)]; exact o1
  refine C.aload_n dX13_writes_0 0 rfl ?_
  refine C.getA fX13_258 dX13_writes_1 hS.o hS.r111 ?_
  refine C.aload_n dX13_writes_4 0 rfl ?_
  refine C.getI fX13_702 dX13_writes_5 hS.o ?_
  rw [o1]
  refine C.iload_n dX13_writes_8 1 rfl ?_
  refine C.iast hS.a111 (n_in (by omega)) dX13_writes_9 ?_
  rw [n_cl]
  refine C.aload_n dX13_writes_10 0 rfl ?_
  refine C.dup dX13_writes_11 rfl ?_
  refine C.getI fX13_702 dX13_writes_12 hS.o ?_
  rw [o1']
  refine C.iconst (nI 1) dX13_writes_15 (by decide) ?_
  refine C.iadd dX13_writes_16 ?_
  rw [nI_add]
  refine C.putI fX13_702 (Or.inl rfl) dX13_writes_17 hS.o ?_
  refine C.vret hq dX13_writes_20 ?_
  refine ⟨t1, fun a k q q2 => by rw [mI_sI, if_neg q2, mI_sI, if_neg (fun z => q z.1)]; exact t2 a k q q2, by rw [mI_sI, if_pos ⟨rfl, rfl⟩]; simp, by simp; omega, fun i x q => ?_⟩
  rw [mI_sI, if_neg (by omega), mI_sI]
  rcases app1 q with ⟨q1, q2⟩ | ⟨q1, q2⟩
  · rw [if_neg (by omega)]; exact o3 i x q2
  · rw [if_pos ⟨rfl, q1⟩, q2]
theorem kn_writes2 {μ1 : Mm} {L : List Nat} (hS : ShM μ) (t : OcW μ μ1 L) (hl : L.length < 39) {v : Nat} (hv : v < 2 ^ 31) : AMet l G 1 0 0 mtX13_writesTwo [.ref (G.1 + 179), .int (nI v)] μ1 (qV (fun μ' => OcW μ μ' (L ++ [v / 256, v % 256]))) := by
  refine AMet.of (by decide) (Nat.le_of_ble_eq_true rfl) (fun X C hX hnm hq => ?_)
  have hS1 := hS
  have hS : ShM μ1 := t.sh hS
  refine C.aload_n dX13_writesTwo_0 0 rfl ?_
  refine C.iload_n dX13_writesTwo_1 1 rfl ?_
  refine C.sipush (nI 256) dX13_writesTwo_2 (by decide) ?_
  refine C.idiv dX13_writesTwo_5 (by decide) ?_
  rw [pk_div hv (by decide) (by decide)]
  refine C.callVV lX13_705 dX13_writesTwo_6 (kn_writes hS1 t (by omega) (v / 256)) hS.o rfl rfl (Nat.le_of_ble_eq_true rfl) (Nat.zero_le _) (Nat.zero_le _) (Nat.le_of_ble_eq_true rfl) (fun μ6 h6 => ?_)
  have hS : ShM μ6 := h6.sh hS1
  refine C.aload_n dX13_writesTwo_9 0 rfl ?_
  refine C.iload_n dX13_writesTwo_10 1 rfl ?_
  refine C.sipush (nI 256) dX13_writesTwo_11 (by decide) ?_
  refine C.irem dX13_writesTwo_14 (by decide) ?_
  rw [pk_rem hv (by decide) (by decide)]
  refine C.callVV lX13_705 dX13_writesTwo_15 (kn_writes hS1 h6 (by simp; omega) (v % 256)) hS.o rfl rfl (Nat.le_of_ble_eq_true rfl) (Nat.zero_le _) (Nat.zero_le _) (Nat.le_of_ble_eq_true rfl) (fun μ15 h15 => ?_)
  refine C.vret hq dX13_writesTwo_18 ?_
  rw [List.append_assoc] at h15
  exact h15
theorem kr_image (hR : RefRel μ h) (hH : HOk h) : AMet l G 2 0 0 mtX13_image [.ref (G.1 + 179)] μ (qI (fun x μ' => x = imageA h ∧ PR μ (imageH h) μ')) := by
  refine AMet.of (by decide) (Nat.le_of_ble_eq_true rfl) (fun X C hX hnm hq => ?_)
  have hS := hR.1.1
  have hS1 := hS
  have hL := hR.2.2.2.2.1.1
  have hN := hR.2.2.2.2.2.1
  have sm := hH.1.1.sm
  have sw := hH.1.2.1
  have post : ∀ (μ1 : Mm) (L : List Nat), OcW μ μ1 L → PR μ (tpH h, flH h, rfH h, ldH h, stH h, psH h, rwH h, L, sdH h) μ1 := by
    intro μ1 L t
    obtain ⟨t1, t2, t3⟩ := t
    obtain ⟨g1, g2, g3, g4, g5, g6, g7, g8, g9, g10⟩ := hR
    have hD : ∀ a k, mL μ1 a k = mL μ a k := fun a k => by show μ1.2.1 _ _ = μ.2.1 _ _; rw [t1]
    exact ⟨⟨g1.of (by rw [t1]) (fun a k q => t2 a k (by omega) (by omega)) (t2 _ _ (by decide) (by omega)) (t2 _ _ (by decide) (by omega)), g2.of (t2 _ _ (by decide) (by omega)) (fun k => t2 _ _ (by decide) (by omega)), g3.of (t2 _ _ (by decide) (by omega)) (t2 _ _ (by decide) (by omega)), g4.of (fun k => t2 _ _ (by decide) (by omega)), ⟨OcW.lm ⟨t1, t2, t3⟩ g5.1, by rw [t2 _ _ (by decide) (by omega)]; exact g5.2⟩, nowR.of g6 (fun k => t2 _ _ (by decide) (by omega)), g7.of (t2 _ _ (by decide) (by omega)) (t2 _ _ (by decide) (by omega)) (fun k => t2 _ _ (by decide) (by omega)), g8.of (t2 _ _ (by decide) (by omega)) (fun k => t2 _ _ (by decide) (by omega)), t3, by show mL μ1 179 78 = _; rw [hD]; exact g10⟩, FrR.of t1 (fun a k q => t2 a k (by omega) (by omega))⟩
  have hng := sw.1
  have hr5 := two5 sw.2.1 sm.2.2.2.1
  have hwl : (stH h).2.1.length ≤ 6 := by rw [sw.2.2.1]; exact sm.2.2.2.2
  have hbl : (imgB (stH h)).length = 3 + 6 * (stH h).2.1.length := by unfold imgB; rw [List.length_append, flat_len]; rfl
  have hbB : ∀ x ∈ imgB (stH h), x < 10000 := by
    intro x hx
    unfold imgB at hx
    rcases List.mem_append.mp hx with q | q
    · simp at q
      omega
    · obtain ⟨y, y1, y2⟩ := List.mem_flatMap.mp q
      obtain ⟨a1, a2, a3, a4⟩ := sw.2.2.2.1 y y1
      unfold wkB at y2
      simp at y2
      omega
  unfold imageA imageH at hq
  have fin : ∀ (μ1 : Mm) (x1 : Int32), OcW μ μ1 (imgB (stH h)) → AW l G X 0 0 77 [(0, .ref (G.1 + 179)), (1, .int x1)] [] μ1 := by
    intro μ1 x1 t
    have hS : ShM μ1 := t.sh hS1
    obtain ⟨o1, o2, o3⟩ := t.2.2
    refine C.aload_n dX13_image_77 0 rfl ?_
    refine C.aload_n dX13_image_78 0 rfl ?_
    refine C.getA fX13_258 dX13_image_79 hS.o hS.r111 ?_
    refine C.aload_n dX13_image_82 0 rfl ?_
    refine C.getI fX13_702 dX13_image_83 hS.o ?_
    rw [o1]
    refine C.callSI lX13_711 dX13_image_86 (kn_checked (f := txL (imgB (stH h))) hS.a111 (by omega) (by decide) (fun i hi => ⟨o3 i _ (txL_q hi), by have := hbB _ (q_mem (txL_q hi)); omega⟩)) rfl rfl (Nat.le_of_ble_eq_true rfl) (Nat.zero_le _) (Nat.zero_le _) (Nat.le_of_ble_eq_true rfl) (fun x86 μ86 h86 => ?_)
    obtain ⟨rfl, hμ⟩ := h86
    subst hμ
    refine C.callVV lX13_705 dX13_image_89 (kn_writes hS1 t (by omega) _) hS.o rfl rfl (Nat.le_of_ble_eq_true rfl) (Nat.zero_le _) (Nat.zero_le _) (Nat.le_of_ble_eq_true rfl) (fun μ89 h89 => ?_)
    have hS : ShM μ89 := h89.sh hS1
    refine C.aload_n dX13_image_92 0 rfl ?_
    refine C.getI fX13_702 dX13_image_93 hS.o ?_
    rw [h89.2.2.1]
    refine C.iret hq dX13_image_96 ?_
    exact ⟨rfl, post _ _ h89⟩
  have loop : ∀ (j k : Nat) (μ1 : Mm), k + j = (ldH h).2.2.2.1.length → OcW μ μ1 ([(stH h).1.1 / 256, (stH h).1.1 % 256, (stH h).1.2] ++ ((stH h).2.1.take k).flatMap wkB) → AW l G X 0 0 27 [(0, .ref (G.1 + 179)), (1, .int (nI k))] [] μ1 := by
    intro j
    induction j with
    | zero =>
      intro k μ1 hk t
      have hS : ShM μ1 := t.sh hS1
      have hL1 := t.lm hL
      rw [List.take_of_length_le (by rw [sw.2.2.1]; omega)] at t
      refine C.iload_n dX13_image_27 1 rfl ?_
      refine C.aload_n dX13_image_28 0 rfl ?_
      refine C.callVI lX13_416 dX13_image_29 (kg_walkerMany hS hL1) hS.o rfl rfl (Nat.le_of_ble_eq_true rfl) (Nat.zero_le _) (Nat.zero_le _) (Nat.le_of_ble_eq_true rfl) (fun x29 μ29 h29 => ?_)
      obtain ⟨rfl, hμ⟩ := h29
      subst hμ
      refine C.icmp_ge 77 dX13_image_32 rfl (fun hc32 => ?_) (fun hc32 => ?_)
      · exact fin _ _ t
      · have := n_nle hc32; omega
    | succ j ih =>
      intro k μ1 hk t
      have hkl : k < (stH h).2.1.length := by rw [sw.2.2.1]; omega
      have hS : ShM μ1 := t.sh hS1
      have hL1 := t.lm hL
      obtain ⟨x1, x2, x3, x4⟩ := sw.wk (show k < (ldH h).2.2.2.1.length by omega)
      have hw : ∀ (μ2 : Mm) (L : List Nat), OcW μ μ2 L → mI μ2 225 (2 + 4 * k) = nI (wkS (stH h) k).1 ∧ mI μ2 225 (2 + 4 * k + 1) = nI (wkS (stH h) k).2.1 ∧ mI μ2 225 (2 + 4 * k + 2) = nI (wkS (stH h) k).2.2.1 ∧ mI μ2 225 (2 + 4 * k + 3) = nI (wkS (stH h) k).2.2.2 := fun μ2 L q => RfN.wk (nowR.of hN (fun i => q.2.1 _ _ (by decide) (by omega))) hkl
      have hlen : ([(stH h).1.1 / 256, (stH h).1.1 % 256, (stH h).1.2] ++ ((stH h).2.1.take k).flatMap wkB).length = 3 + 6 * k := by rw [List.length_append, flat_len, List.length_take]; simp; omega
      have htk : (stH h).2.1.take (k + 1) = (stH h).2.1.take k ++ [wkS (stH h) k] := by rw [List.take_add_one, wkS_q hkl]; rfl
      have hgo0 := ih (k + 1)
      rw [htk, List.flatMap_append, ← List.append_assoc] at hgo0
      generalize [(stH h).1.1 / 256, (stH h).1.1 % 256, (stH h).1.2] ++ ((stH h).2.1.take k).flatMap wkB = L at *
      refine C.iload_n dX13_image_27 1 rfl ?_
      refine C.aload_n dX13_image_28 0 rfl ?_
      refine C.callVI lX13_416 dX13_image_29 (kg_walkerMany hS hL1) hS.o rfl rfl (Nat.le_of_ble_eq_true rfl) (Nat.zero_le _) (Nat.zero_le _) (Nat.le_of_ble_eq_true rfl) (fun x29 μ29 h29 => ?_)
      obtain ⟨rfl, hμ⟩ := h29
      subst hμ
      refine C.icmp_ge 77 dX13_image_32 rfl (fun hc32 => ?_) (fun hc32 => ?_)
      · have := n_le hc32; omega
      · refine C.aload_n dX13_image_35 0 rfl ?_
        refine C.aload_n dX13_image_36 0 rfl ?_
        refine C.iload_n dX13_image_37 1 rfl ?_
        refine C.callVI lX13_486 dX13_image_38 (ke_manner hS (i := k) (by omega)) hS.o rfl rfl (Nat.le_of_ble_eq_true rfl) (Nat.zero_le _) (Nat.zero_le _) (Nat.le_of_ble_eq_true rfl) (fun x38 μ38 h38 => ?_)
        obtain ⟨rfl, hμ⟩ := h38
        subst hμ
        rw [(hw _ _ t).1]
        refine C.callVV lX13_705 dX13_image_41 (kn_writes hS1 t (by omega) _) hS.o rfl rfl (Nat.le_of_ble_eq_true rfl) (Nat.zero_le _) (Nat.zero_le _) (Nat.le_of_ble_eq_true rfl) (fun μ41 h41 => ?_)
        have hS : ShM μ41 := h41.sh hS1
        refine C.aload_n dX13_image_44 0 rfl ?_
        refine C.aload_n dX13_image_45 0 rfl ?_
        refine C.iload_n dX13_image_46 1 rfl ?_
        refine C.callVI lX13_674 dX13_image_47 (ke_met hS (i := k) (by omega)) hS.o rfl rfl (Nat.le_of_ble_eq_true rfl) (Nat.zero_le _) (Nat.zero_le _) (Nat.le_of_ble_eq_true rfl) (fun x47 μ47 h47 => ?_)
        obtain ⟨rfl, hμ⟩ := h47
        subst hμ
        rw [(hw _ _ h41).2.1]
        refine C.callVV lX13_708 dX13_image_50 (kn_writes2 hS1 h41 (by simp; omega) (by omega)) hS.o rfl rfl (Nat.le_of_ble_eq_true rfl) (Nat.zero_le _) (Nat.zero_le _) (Nat.le_of_ble_eq_true rfl) (fun μ50 h50 => ?_)
        have hS : ShM μ50 := h50.sh hS1
        refine C.aload_n dX13_image_53 0 rfl ?_
        refine C.aload_n dX13_image_54 0 rfl ?_
        refine C.iload_n dX13_image_55 1 rfl ?_
        refine C.callVI lX13_498 dX13_image_56 (ke_purse hS (i := k) (by omega)) hS.o rfl rfl (Nat.le_of_ble_eq_true rfl) (Nat.zero_le _) (Nat.zero_le _) (Nat.le_of_ble_eq_true rfl) (fun x56 μ56 h56 => ?_)
        obtain ⟨rfl, hμ⟩ := h56
        subst hμ
        rw [(hw _ _ h50).2.2.1]
        refine C.callVV lX13_708 dX13_image_59 (kn_writes2 hS1 h50 (by simp; omega) (by omega)) hS.o rfl rfl (Nat.le_of_ble_eq_true rfl) (Nat.zero_le _) (Nat.zero_le _) (Nat.le_of_ble_eq_true rfl) (fun μ59 h59 => ?_)
        have hS : ShM μ59 := h59.sh hS1
        refine C.aload_n dX13_image_62 0 rfl ?_
        refine C.aload_n dX13_image_63 0 rfl ?_
        refine C.iload_n dX13_image_64 1 rfl ?_
        refine C.callVI lX13_489 dX13_image_65 (ke_gone hS (i := k) (by omega)) hS.o rfl rfl (Nat.le_of_ble_eq_true rfl) (Nat.zero_le _) (Nat.zero_le _) (Nat.le_of_ble_eq_true rfl) (fun x65 μ65 h65 => ?_)
        obtain ⟨rfl, hμ⟩ := h65
        subst hμ
        rw [(hw _ _ h59).2.2.2]
        refine C.callVV lX13_705 dX13_image_68 (kn_writes hS1 h59 (by simp; omega) _) hS.o rfl rfl (Nat.le_of_ble_eq_true rfl) (Nat.zero_le _) (Nat.zero_le _) (Nat.le_of_ble_eq_true rfl) (fun μ68 h68 => ?_)
        refine C.iinc (lv' := [(0, _), (1, _)]) _ dX13_image_71 1 rfl rfl (nLt hX rfl) rfl ?_
        refine C.goto 27 dX13_image_74 rfl ?_
        have hgo := hgo0 μ68 (by omega) (by simpa [List.append_assoc, wkB] using h68)
        rw [← nI_1] at hgo
        exact hgo
  have t0 : OcW μ (sI μ 179 112 (nI 0)) [] := ⟨rfl, fun a k _ q => by rw [mI_sI, if_neg q], by rw [mI_sI, if_pos ⟨rfl, rfl⟩]; rfl, Nat.zero_le _, fun i x q => by cases q⟩
  refine C.aload_n dX13_image_0 0 rfl ?_
  refine C.iconst (nI 0) dX13_image_1 (by decide) ?_
  refine C.putI fX13_702 (Or.inl rfl) dX13_image_2 hS.o ?_
  refine C.aload_n dX13_image_5 0 rfl ?_
  refine C.aload_n dX13_image_6 0 rfl ?_
  refine C.getA fX13_151 dX13_image_7 hS.o hS.r59 ?_
  refine C.iconst (nI 0) dX13_image_10 (by decide) ?_
  refine C.iald hS.a59 (n_in (by decide)) dX13_image_11 ?_
  rw [n_cl, show mI (sI μ 179 112 (nI 0)) 225 0 = nI (stH h).1.1 from hN.1]
  refine C.callVV lX13_708 dX13_image_12 (kn_writes2 hS1 t0 (by decide) (by omega)) hS.o rfl rfl (Nat.le_of_ble_eq_true rfl) (Nat.zero_le _) (Nat.zero_le _) (Nat.le_of_ble_eq_true rfl) (fun μ12 h12 => ?_)
  have hS : ShM μ12 := h12.sh hS1
  refine C.aload_n dX13_image_15 0 rfl ?_
  refine C.aload_n dX13_image_16 0 rfl ?_
  refine C.getA fX13_151 dX13_image_17 hS.o hS.r59 ?_
  refine C.iconst (nI 1) dX13_image_20 (by decide) ?_
  refine C.iald hS.a59 (n_in (by decide)) dX13_image_21 ?_
  rw [n_cl, h12.2.1 225 1 (by decide) (by omega), hN.2.1]
  refine C.callVV lX13_705 dX13_image_22 (kn_writes hS1 h12 (by simp) _) hS.o rfl rfl (Nat.le_of_ble_eq_true rfl) (Nat.zero_le _) (Nat.zero_le _) (Nat.le_of_ble_eq_true rfl) (fun μ22 h22 => ?_)
  refine C.iconst (nI 0) dX13_image_25 (by decide) ?_
  refine C.istore_n (lv' := [(0, _), (1, _)]) dX13_image_26 (nLt hX rfl) rfl ?_
  exact loop _ 0 _ (Nat.zero_add _) h22
theorem kn_two (hS : ShM μ) {f : Nat → Nat} {k : Nat} (hk : k + 1 < 1600) (h1 : mI μ 180 k = nI (f k)) (h2 : mI μ 180 (k + 1) = nI (f (k + 1))) : AMet l G 0 0 0 mtX13_twoAt [.ref (G.1 + 179), .int (nI k)] μ (qI (fun x μ' => x = nI (two f k) ∧ μ' = μ)) := by
  refine AMet.of (by decide) (Nat.le_of_ble_eq_true rfl) (fun X C hX hnm hq => ?_)
  refine C.sipush (nI 256) dX13_twoAt_0 (by decide) ?_
  refine C.aload_n dX13_twoAt_3 0 rfl ?_
  refine C.getA fX13_7 dX13_twoAt_4 hS.o hS.r0 ?_
  refine C.iload_n dX13_twoAt_7 1 rfl ?_
  refine C.iald hS.a0 (n_in (by omega)) dX13_twoAt_8 ?_
  rw [n_cl, h1]
  refine C.imul dX13_twoAt_9 ?_
  rw [pk_mul]
  refine C.aload_n dX13_twoAt_10 0 rfl ?_
  refine C.getA fX13_7 dX13_twoAt_11 hS.o hS.r0 ?_
  refine C.iload_n dX13_twoAt_14 1 rfl ?_
  refine C.iconst (nI 1) dX13_twoAt_15 (by decide) ?_
  refine C.iadd dX13_twoAt_16 ?_
  rw [nI_add]
  refine C.iald hS.a0 (n_in (by omega)) dX13_twoAt_17 ?_
  rw [n_cl, h2]
  refine C.iadd dX13_twoAt_18 ?_
  rw [nI_add]
  refine C.iret hq dX13_twoAt_19 ?_
  exact ⟨rfl, rfl⟩
end KIM
