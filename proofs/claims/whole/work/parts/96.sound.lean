/-! the class: bells that sound, cells that are closed, what a parish loses -/
theorem shr1 {r i : Nat} (hr : r < 2147483648) (hi : i < 32) : (nI r >>> (nI i &&& 31)) &&& nI 1 = nI (r / 2 ^ i % 2) := by
  have h1 : r / 2 ^ i ≤ r := Nat.div_le_self _ _
  rw [pk_shrN hr (nI i &&& 31) i (s_l i hi), pk_andN (by omega) (m := nI 1) 1 (by decide)]
theorem bitN_t {r b : Nat} (h : nI (r / 2 ^ b % 2) = nI 1) : bitN r b = true := by
  unfold bitN
  have := n_eq h (by omega) (by omega)
  rw [decide_eq_true this]
theorem bitN_f {r b : Nat} (h : ¬ nI (r / 2 ^ b % 2) = nI 1) : bitN r b = false := by
  unfold bitN
  rw [decide_eq_false (n_ne h)]
def rgB (d : Ld) (r : Nat) : Nat := bsF (fun k => ringF d r (cK d k)) (nC d)
def closB (d : Ld) (more : Option Nat) (r : Nat) : Nat := bsF (fun k => cls d more r (cK d k)) (nC d)
section KLS
variable {l : Launch} {G : Gm} {μ : Mm} {L : Nat} {c : Lc} {d : Ld}
theorem LdR.o (h : LdR μ L c d) : isO μ L 2 := h.1.1.1
theorem LdR.r (h : LdR μ L c d) {k : Nat} (hk : (3 ≤ k ∧ k ≤ 9) ∨ (17 ≤ k ∧ k ≤ 19)) : mR μ L k = some (c k) := h.1.2.1 k hk
theorem LdR.bq (h : LdR μ L c d) {b : Nat} (hb : b < d.2.2.1.length) : mI μ (c 4) b = nI (kC d (bellC d b)) ∧ mI μ (c 5) b = nI (bellR d b) := by
  have hq : d.2.2.1[b]? = some d.2.2.1[b] := List.getElem?_eq_getElem hb
  obtain ⟨-, h1, h2, -⟩ := h.2.2.2.1 b _ hq
  unfold bellC bellR
  rw [List.getD_eq_getElem?_getD, hq]
  exact ⟨h1, h2⟩
theorem wf_bell (hW : Wf d) {b : Nat} (hb : b < d.2.2.1.length) : clOk d (bellC d b) ∧ bellR d b ≤ 99 := by
  have hq : d.2.2.1[b]? = some d.2.2.1[b] := List.getElem?_eq_getElem hb
  have hm := hW.2.2.1.2 _ (List.getElem_mem hb)
  unfold bellC bellR
  rw [List.getD_eq_getElem?_getD, hq]
  exact hm.2
theorem arB_b (hW : Wf d) {x : Nat} (hx : clOk d x) : arB d (kC d x) = bsF (fun k => decide (apN (cK d k) x ≤ 1)) (nC d) := by
  unfold arB
  rw [cK_kC hx]
  exact bsF_cong (fun k _ => by rw [apN_comm])
theorem kl_soundOf (hR : LdR μ L c d) (hW : Wf d) {r : Nat} (hr : r < 2147483648) : AMet l G 0 0 0 mtX2_soundOf [.ref (G.1 + L), .int (nI r)] μ (qL (fun z μ' => z = lN (rgB d r) ∧ μ' = μ)) := by
  refine AMet.of (by decide) (Nat.le_of_ble_eq_true rfl) (fun X C hX hnm hq => ?_)
  have hn := hR.2.1.2.1.1
  have h5 := hW.2.2.1.1
  have h49 := hW.n49
  have loop : ∀ (n i : Nat), d.2.2.1.length - i < n → i ≤ d.2.2.1.length → AW l G X 0 0 5 [(0, .ref (G.1 + L)), (1, .int (nI r)), (2, .long (lN (bsF (fun k => (List.range i).any (fun b => bitN r b && decide (apN (cK d k) (bellC d b) ≤ 1))) (nC d)))), (4, .int (nI i))] [] μ := by
    intro n
    induction n with
    | zero => intro i h; omega
    | succ n ih =>
      intro i hi hle
      have m41 : ∀ (y : Nat), i < d.2.2.1.length → y = bsF (fun k => bitN r i && decide (apN (cK d k) (bellC d i) ≤ 1)) (nC d) → AW l G X 0 0 41 [(0, .ref (G.1 + L)), (1, .int (nI r)), (2, .long (lN (bsF (fun k => (List.range i).any (fun b => bitN r b && decide (apN (cK d k) (bellC d b) ≤ 1))) (nC d)))), (4, .int (nI i))] [.long (lN y), .long (lN (bsF (fun k => (List.range i).any (fun b => bitN r b && decide (apN (cK d k) (bellC d b) ≤ 1))) (nC d)))] μ := by
        intro y hlt hy
        refine C.lor dX2_soundOf_41 ?_
        rw [fb_orL, hy, bsF_or]
        refine C.lstore_n (lv' := [(0, _), (1, _), (2, _), (4, _)]) dX2_soundOf_42 (nLt hX rfl) rfl ?_
        refine C.iinc (lv' := [(0, _), (1, _), (2, _), (4, _)]) _ dX2_soundOf_43 3 rfl rfl (nLt hX rfl) rfl ?_
        refine C.goto 5 dX2_soundOf_46 rfl ?_
        have hgo := ih (i + 1) (by omega) (by omega)
        simp only [any_succ] at hgo
        rw [← nI_1] at hgo
        exact hgo
      refine C.iload dX2_soundOf_5 3 rfl ?_
      refine C.aload_n dX2_soundOf_7 0 rfl ?_
      refine C.getI fX2_89 dX2_soundOf_8 hR.o ?_
      rw [hn]
      refine C.icmp_ge 49 dX2_soundOf_11 rfl (fun hc11 => ?_) (fun hc11 => ?_)
      · refine C.lload_n dX2_soundOf_49 2 rfl ?_
        refine C.lret hq dX2_soundOf_50 ?_
        have hge := n_le hc11
        have he : i = d.2.2.1.length := by omega
        subst he
        exact ⟨rfl, rfl⟩
      · have hlt := n_nle hc11
        have hb := hR.bq hlt
        have hbk := wf_bell hW hlt
        have hkl := kC_lt hbk.1
        refine C.lload_n dX2_soundOf_14 2 rfl ?_
        refine C.iload_n dX2_soundOf_15 1 rfl ?_
        refine C.iload dX2_soundOf_16 3 rfl ?_
        refine C.ishr dX2_soundOf_18 ?_
        refine C.iconst (nI 1) dX2_soundOf_19 (by decide) ?_
        refine C.iand dX2_soundOf_20 ?_
        rw [shr1 hr (by omega)]
        refine C.iconst (nI 1) dX2_soundOf_21 (by decide) ?_
        refine C.icmp_ne 40 dX2_soundOf_22 rfl (fun hc22 => ?_) (fun hc22 => ?_)
        · refine C.lconst (lN 0) dX2_soundOf_40 (by decide) ?_
          first | exact m41 _ hlt (by rw [bitN_t hc22]; simp) | exact m41 0 hlt (by rw [bitN_f hc22]; simp only [Bool.false_and]; exact bsF_zero _)
        · refine C.aload_n dX2_soundOf_25 0 rfl ?_
          refine C.getA fX2_51 dX2_soundOf_26 hR.o (hR.r (by decide)) ?_
          refine C.aload_n dX2_soundOf_29 0 rfl ?_
          refine C.getA fX2_9 dX2_soundOf_30 hR.o (hR.r (by decide)) ?_
          refine C.iload dX2_soundOf_33 3 rfl ?_
          refine C.iald hR.1.2.2.2.1.2.1 (n_in (by omega)) dX2_soundOf_35 ?_
          rw [n_cl, hb.1]
          refine C.lald hR.1.2.2.2.1.1 (n_in (by omega)) dX2_soundOf_36 ?_
          rw [n_cl (by omega), hR.2.2.1.2 _ hkl, arB_b hW hbk.1]
          refine C.goto 41 dX2_soundOf_37 rfl ?_
          first | exact m41 _ hlt (by rw [bitN_t hc22]; simp) | exact m41 0 hlt (by rw [bitN_f hc22]; simp only [Bool.false_and]; exact bsF_zero _)
  refine C.lconst (lN 0) dX2_soundOf_0 (by decide) ?_
  refine C.lstore_n (lv' := [(0, _), (1, _), (2, _)]) dX2_soundOf_1 (nLt hX rfl) rfl ?_
  refine C.iconst (nI 0) dX2_soundOf_2 (by decide) ?_
  refine C.istore (lv' := [(0, _), (1, _), (2, _), (4, _)]) dX2_soundOf_3 (nLt hX rfl) rfl ?_
  have hgo := loop (d.2.2.1.length + 1) 0 (by omega) (by omega)
  rw [show bsF (fun k => (List.range 0).any (fun b => bitN r b && decide (apN (cK d k) (bellC d b) ≤ 1))) (nC d) = 0 from (bsF_zero _).symm] at hgo
  exact hgo
theorem kl_closedBy (hR : LdR μ L c d) (hW : Wf d) {r : Nat} (hr : r < 2147483648) : AMet l G 1 0 0 mtX2_closedBy [.ref (G.1 + L), .int (nI r)] μ (qL (fun z μ' => z = lN (closB d none r) ∧ μ' = μ)) := by
  refine AMet.of (by decide) (Nat.le_of_ble_eq_true rfl) (fun X C hX hnm hq => ?_)
  refine C.aload_n dX2_closedBy_0 0 rfl ?_
  refine C.getL fX2_105 dX2_closedBy_1 hR.o ?_
  refine C.aload_n dX2_closedBy_4 0 rfl ?_
  refine C.iload_n dX2_closedBy_5 1 rfl ?_
  refine C.callVL lX2_109 dX2_closedBy_6 (kl_soundOf hR hW hr) hR.o rfl rfl (Nat.le_of_ble_eq_true rfl) (Nat.zero_le _) (Nat.zero_le _) (Nat.le_of_ble_eq_true rfl) (fun x6 μ6 h6 => ?_)
  obtain ⟨rfl, hμ⟩ := h6
  subst hμ
  refine C.lor dX2_closedBy_9 ?_
  refine C.lret hq dX2_closedBy_10 ?_
  refine ⟨?_, rfl⟩
  rw [hR.2.2.1.1, fb_orL]
  unfold chB rgB closB
  rw [bsF_or]
  congr 1
  exact bsF_cong (fun k _ => by unfold cls; simp)
/-- where the hunt has been -/
def trB (d : Ld) (ride : Nat → Nat) : Nat := bsF (fun k => (List.range 12).any (fun h => decide (ride h = cK d k))) (nC d)
theorem tr_near {ride : Nat → Nat} (hW : Wf d) (hri : ∀ h, h < 12 → clOk d (ride h)) {b : Nat} (hb : b < d.2.2.1.length) : (trB d ride &&& arB d (kC d (bellC d b)) = 0) ↔ nearB d ride b = false := by
  have hbk := wf_bell hW hb
  have h7 := hW.w7.2
  rw [arB_b hW hbk.1]
  unfold trB
  rw [bsF_and, bsF_ne]
  unfold nearB
  constructor
  · intro h
    rw [Bool.eq_false_iff]
    intro q
    obtain ⟨x, hx, hx2⟩ := List.any_eq_true.mp q
    have hx12 := List.mem_range.mp hx
    have hk := kC_lt (hri x hx12)
    have := h (kC d (ride x)) hk
    rw [cK_kC (hri x hx12)] at this
    rw [hx2, Bool.and_true] at this
    rw [Bool.eq_false_iff] at this
    exact this (List.any_eq_true.mpr ⟨x, hx, by simp⟩)
  · intro h k hk
    rw [Bool.eq_false_iff]
    intro q
    simp only [Bool.and_eq_true] at q
    obtain ⟨x, hx, hx2⟩ := List.any_eq_true.mp q.1
    have e : ride x = cK d k := of_decide_eq_true hx2
    rw [Bool.eq_false_iff] at h
    exact h (List.any_eq_true.mpr ⟨x, hx, by rw [e]; exact q.2⟩)
theorem kl_lossOf (hR : LdR μ L c d) (hW : Wf d) {r b : Nat} (hr : r < 2147483648) (hb : b < d.2.2.1.length) {ride : Nat → Nat} (hri : ∀ h, h < 12 → clOk d (ride h)) : AMet l G 0 0 0 mtX2_lossOf [.ref (G.1 + L), .int (nI b), .int (nI r), .long (lN (trB d ride))] μ (qI (fun z μ' => z = nI (lossF d ride r b) ∧ μ' = μ)) := by
  refine AMet.of (by decide) (Nat.le_of_ble_eq_true rfl) (fun X C hX hnm hq => ?_)
  have h5 := hW.2.2.1.1
  have h49 := hW.n49
  have hbq := hR.bq hb
  have hbk := wf_bell hW hb
  have hkl := kC_lt hbk.1
  have hnr := tr_near hW hri hb
  have htl : trB d ride &&& arB d (kC d (bellC d b)) < 2 ^ 63 := Nat.lt_of_le_of_lt Nat.and_le_left (Nat.lt_of_lt_of_le (bsF_49 (f := fun k => (List.range 12).any (fun h => decide (ride h = cK d k))) h49.2) (by decide))
  have hz : lN (trB d ride &&& arB d (kC d (bellC d b))) = lN 0 ↔ nearB d ride b = false := by rw [pk_lEQ htl (by decide)]; exact hnr
  have m26 : ∀ v : Nat, v = (if nearB d ride b then d.2.2.2.2.1.2.1 else 0) → AW l G X 0 0 26 [(0, .ref (G.1 + L)), (1, .int (nI b)), (2, .int (nI r)), (3, .long (lN (trB d ride)))] [.int (nI v)] μ := by
    intro v hv
    refine C.istore (lv' := [(0, _), (1, _), (2, _), (3, _), (5, _)]) dX2_lossOf_26 (nLt hX rfl) rfl ?_
    refine C.iload_n dX2_lossOf_28 2 rfl ?_
    refine C.iload_n dX2_lossOf_29 1 rfl ?_
    refine C.ishr dX2_lossOf_30 ?_
    refine C.iconst (nI 1) dX2_lossOf_31 (by decide) ?_
    refine C.iand dX2_lossOf_32 ?_
    rw [shr1 hr (by omega)]
    refine C.iconst (nI 1) dX2_lossOf_33 (by decide) ?_
    refine C.icmp_ne 49 dX2_lossOf_34 rfl (fun hc34 => ?_) (fun hc34 => ?_)
    · refine C.iload dX2_lossOf_49 4 rfl ?_
      refine C.iret hq dX2_lossOf_51 ?_
      refine ⟨?_, rfl⟩
      unfold lossF
      first | (rw [bitN_t hc34, ← hv, nI_add]; exact congrArg nI (Nat.add_comm _ _)) | (rw [bitN_f hc34, ← hv]; exact congrArg nI (by simp))
    · refine C.iload dX2_lossOf_37 4 rfl ?_
      refine C.aload_n dX2_lossOf_39 0 rfl ?_
      refine C.getA fX2_15 dX2_lossOf_40 hR.o (hR.r (by decide)) ?_
      refine C.iload_n dX2_lossOf_43 1 rfl ?_
      refine C.iald hR.1.2.2.2.1.2.2.1 (n_in (by omega)) dX2_lossOf_44 ?_
      rw [n_cl, hbq.2]
      refine C.iadd dX2_lossOf_45 ?_
      refine C.goto 51 dX2_lossOf_46 rfl ?_
      refine C.iret hq dX2_lossOf_51 ?_
      refine ⟨?_, rfl⟩
      unfold lossF
      first | (rw [bitN_t hc34, ← hv, nI_add]; exact congrArg nI (Nat.add_comm _ _)) | (rw [bitN_f hc34, ← hv]; exact congrArg nI (by simp))
  refine C.lload_n dX2_lossOf_0 3 rfl ?_
  refine C.aload_n dX2_lossOf_1 0 rfl ?_
  refine C.getA fX2_51 dX2_lossOf_2 hR.o (hR.r (by decide)) ?_
  refine C.aload_n dX2_lossOf_5 0 rfl ?_
  refine C.getA fX2_9 dX2_lossOf_6 hR.o (hR.r (by decide)) ?_
  refine C.iload_n dX2_lossOf_9 1 rfl ?_
  refine C.iald hR.1.2.2.2.1.2.1 (n_in (by omega)) dX2_lossOf_10 ?_
  rw [n_cl, hbq.1]
  refine C.lald hR.1.2.2.2.1.1 (n_in (by omega)) dX2_lossOf_11 ?_
  rw [n_cl (by omega), hR.2.2.1.2 _ hkl]
  refine C.land dX2_lossOf_12 ?_
  rw [fb_andL]
  refine C.lconst (lN 0) dX2_lossOf_13 (by decide) ?_
  refine C.lcmp dX2_lossOf_14 ?_
  refine C.if_eq 25 dX2_lossOf_15 rfl (fun hc15 => ?_) (fun hc15 => ?_)
  · refine C.iconst (nI 0) dX2_lossOf_25 (by decide) ?_
    first | exact m26 0 (by rw [hz.mp (cmp_eq.mp hc15)]; rfl) | exact m26 _ (by rw [show nearB d ride b = true from by (cases hq2 : nearB d ride b; exact absurd (cmp_eq.mpr (hz.mpr hq2)) hc15; rfl)]; rfl)
  · refine C.aload_n dX2_lossOf_18 0 rfl ?_
    refine C.getI fX2_36 dX2_lossOf_19 hR.o ?_
    rw [hR.2.1.2.2.2.1]
    refine C.goto 26 dX2_lossOf_22 rfl ?_
    first | exact m26 0 (by rw [hz.mp (cmp_eq.mp hc15)]; rfl) | exact m26 _ (by rw [show nearB d ride b = true from by (cases hq2 : nearB d ride b; exact absurd (cmp_eq.mpr (hz.mpr hq2)) hc15; rfl)]; rfl)
end KLS
