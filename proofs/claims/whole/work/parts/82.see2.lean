/-! the reference: see, feed, end -/

def byN (w : Int32) (j : Nat) : Nat := nn (w >>> (nI (8 * (3 - j)) &&& 31) &&& nI 255)
def fdW (a b c d e : Int32) (k : Nat) : Int32 := if k < 4 then a else if k < 8 then b else if k < 12 then c else if k < 16 then d else e
def fdB (a b c d e : Int32) : List Nat := (List.range 20).map (fun k => byN (fdW a b c d e k) (k % 4))
def feedH (h : Hs) (a b c d e : Int32) : Hs := if (tpH h).length + 20 ≤ 1600 then (tpH h ++ fdB a b c d e, flH h, rfH h, ldH h, stH h, psH h, rwH h, ocH h, sdH h) else rfsH h 0
def feedA (h : Hs) : Int32 := if (tpH h).length + 20 ≤ 1600 then nI ((tpH h).length + 20) else -1
def endH (h : Hs) (x : Int32) : Hs := match inN x ((tpH h).length + 1) with
  | some n => ((tpH h).take n, flH h, rfH h, ldH h, stH h, psH h, rwH h, ocH h, sdH h)
  | none => rfsH h 0
def endA (h : Hs) (x : Int32) : Int32 := bI (inN x ((tpH h).length + 1)).isSome
theorem and255 (x : Int32) : ∃ j : Nat, j < 256 ∧ x &&& nI 255 = nI j := pk_andE x 8 (by decide)
theorem byN_i (w : Int32) (j : Nat) : w >>> (nI (8 * (3 - j)) &&& 31) &&& nI 255 = nI (byN w j) ∧ byN w j < 256 := by
  obtain ⟨q, h1, h2⟩ := and255 (w >>> (nI (8 * (3 - j)) &&& 31))
  unfold byN
  rw [h2, nn_nI (by omega)]
  exact ⟨rfl, h1⟩
section KSN
variable {l : Launch} {G : Gm} {μ : Mm} {h : Hs}
theorem kr_end (hR : RefRel μ h) (x : Int32) : AMet l G 0 0 0 mtX13_end [.ref (G.1 + 179), .int x] μ (qI (fun y μ' => y = endA h x ∧ PR μ (endH h x) μ')) := by
  refine (km_end hR.1.1 x).monoI (fun y μ' q => ?_)
  have h1 : mI μ 179 1 = nI (tpH h).length := hR.2.1.1
  have hl := hR.2.1.2.1
  unfold endA endH
  cases hx : inN x ((tpH h).length + 1) with
  | none =>
    have hn := inN_none hx
    rw [if_neg (fun z => ?_)] at q
    · obtain ⟨r0, p0⟩ := hR.rf2 (j := 0) (by decide)
      rw [r0] at q
      rw [q.2]
      exact ⟨q.1, p0⟩
    · rw [h1] at z
      refine hn ⟨Int32.not_lt.mpr z.1, ?_⟩
      rw [i_lt, nI_tI (by omega)]
      have := z.2
      rw [i_le, nI_tI (by omega)] at this
      omega
  | some n =>
    obtain ⟨hn, e⟩ := inN_some (by omega) hx
    subst e
    rw [if_pos ⟨Int32.not_lt.mp (nI_pos (by omega)), by rw [h1]; exact (nI_leI (by omega) (by omega)).mpr (by omega)⟩] at q
    rw [q.2]
    exact ⟨q.1, hR.tap n (by omega), (FrR.refl μ).st (by omega) _⟩
theorem kr_feed (hR : RefRel μ h) (a b c d e : Int32) : AMet l G 0 0 0 mtX13_feed [.ref (G.1 + 179), .int a, .int b, .int c, .int d, .int e] μ (qI (fun y μ' => y = feedA h ∧ PR μ (feedH h a b c d e) μ')) := by
  refine AMet.of (by decide) (Nat.le_of_ble_eq_true rfl) (fun X C hX hnm hq => ?_)
  have hS := hR.1.1
  have h1 : mI μ 179 1 = nI (tpH h).length := hR.2.1.1
  have hl := hR.2.1.2.1
  obtain ⟨r0, p0⟩ := hR.rf2 (j := 0) (by decide)
  unfold feedA feedH at hq
  by_cases hc : (tpH h).length + 20 ≤ 1600
  · rw [if_pos hc, if_pos hc] at hq
    have loop : ∀ (j k : Nat) (μ1 : Mm), k + j = 20 → μ1.2 = μ.2 → mI μ1 179 1 = nI ((tpH h).length + k) → (∀ i, i < k → mI μ1 180 ((tpH h).length + i) = nI (byN (fdW a b c d e i) (i % 4))) → (∀ z i, ¬ (z = 180 ∧ (tpH h).length ≤ i) → ¬ (z = 179 ∧ i = 1) → mI μ1 z i = mI μ z i) → AW l G X 0 0 28 [(0, .ref (G.1 + 179)), (1, .int a), (2, .int b), (3, .int c), (4, .int d), (5, .int e), (6, .int (nI k))] [] μ1 := by
      intro j
      induction j with
      | zero =>
        intro k μ1 hk he ht hb ho
        have hS : ShM μ1 := hS.of (by rw [he])
        have hk20 : k = 20 := by omega
        subst hk20
        refine C.iload dX13_feed_28 6 rfl ?_
        refine C.bipush (nI 20) dX13_feed_30 (by decide) ?_
        refine C.icmp_ge 124 dX13_feed_32 rfl (fun hc32 => ?_) (fun hc32 => ?_)
        · refine C.aload_n dX13_feed_124 0 rfl ?_
          refine C.getI fX13_261 dX13_feed_125 hS.o ?_
          rw [ht]
          refine C.iret hq dX13_feed_128 ?_
          refine ⟨rfl, ?_, FrR.of he (fun z i q => ho z i (by omega) (by omega))⟩
          obtain ⟨g1, g2, g3, g4, g5, g6, g7, g8, g9, g10⟩ := hR
          have hD : ∀ a k, mL μ1 a k = mL μ a k := fun a k => by show μ1.2.1 _ _ = μ.2.1 _ _; rw [he]
          refine ⟨g1.of (by rw [he]) (fun z i q => ho z i (by omega) (by omega)) (ho _ _ (by omega) (by omega)) (ho _ _ (by omega) (by omega)), ⟨?_, ?_, ?_⟩, g3.of (ho _ _ (by omega) (by omega)) (ho _ _ (by omega) (by omega)), g4.of (fun i => ho _ _ (by omega) (by omega)), ⟨g5.1.of (fun z i q _ _ => ho z i (by omega) (by omega)) (fun z i q _ => ho z i (by omega) (by omega)) (fun i _ => ho _ i (by omega) (by omega)) (fun i _ => ho _ i (by omega) (by omega)) (fun i _ => hD _ _), by rw [ho _ _ (by omega) (by omega)]; exact g5.2⟩, nowR.of g6 (fun i => ho _ _ (by omega) (by omega)), g7.of (ho _ _ (by omega) (by omega)) (ho _ _ (by omega) (by omega)) (fun i => ho _ _ (by omega) (by omega)), g8.of (ho _ _ (by omega) (by omega)) (fun i => ho _ _ (by omega) (by omega)), g9.of (ho _ _ (by omega) (by omega)) (fun i => ho _ _ (by omega) (by omega)), by show mL μ1 179 78 = _; rw [hD]; exact g10⟩
          · rw [ht]
            show nI ((tpH h).length + 20) = nI (tpH h ++ fdB a b c d e).length
            rw [List.length_append]; simp [fdB]
          · show (tpH h ++ fdB a b c d e).length ≤ 1600
            simp [fdB]; omega
          · intro i x q
            rcases Nat.lt_or_ge i (tpH h).length with z | z
            · rw [List.getElem?_append_left z] at q
              rw [ho _ _ (by omega) (by omega)]
              exact g2.2.2 i x q
            · rw [List.getElem?_append_right z] at q
              have hi := q_lt q
              unfold fdB at q hi
              rw [List.length_map, List.length_range] at hi
              rw [List.getElem?_map, List.getElem?_range hi] at q
              have q' := Option.some.inj q
              have hbb := hb (i - (tpH h).length) hi
              rw [show (tpH h).length + (i - (tpH h).length) = i by omega] at hbb
              rw [← q']
              exact ⟨hbb, (byN_i _ _).2⟩
        · exact absurd (by decide) hc32
      | succ j ih =>
        intro k μ1 hk he ht hb ho
        have hS : ShM μ1 := hS.of (by rw [he])
        have m81 : ∀ w : Int32, w = fdW a b c d e k → AW l G X 0 0 81 [(0, .ref (G.1 + 179)), (1, .int a), (2, .int b), (3, .int c), (4, .int d), (5, .int e), (6, .int (nI k))] [.int w] μ1 := by
          intro w hw
          have ht2 : mI (sI μ1 180 ((tpH h).length + k) (nI (byN (fdW a b c d e k) (k % 4)))) 179 1 = nI ((tpH h).length + k) := by rw [mI_sI, if_neg (by omega)]; exact ht
          refine C.istore (lv' := [(0, _), (1, _), (2, _), (3, _), (4, _), (5, _), (6, _), (7, _)]) dX13_feed_81 (nLt hX rfl) rfl ?_
          refine C.aload_n dX13_feed_83 0 rfl ?_
          refine C.getA fX13_7 dX13_feed_84 hS.o hS.r0 ?_
          refine C.aload_n dX13_feed_87 0 rfl ?_
          refine C.getI fX13_261 dX13_feed_88 hS.o ?_
          rw [ht]
          refine C.iload dX13_feed_91 7 rfl ?_
          refine C.bipush (nI 8) dX13_feed_93 (by decide) ?_
          refine C.iconst (nI 3) dX13_feed_95 (by decide) ?_
          refine C.iload dX13_feed_96 6 rfl ?_
          refine C.iconst (nI 4) dX13_feed_98 (by decide) ?_
          refine C.irem dX13_feed_99 (by decide) ?_
          rw [pk_rem (by omega) (by decide) (by decide)]
          refine C.isub dX13_feed_100 ?_
          rw [pk_sub (by omega)]
          refine C.imul dX13_feed_101 ?_
          rw [pk_mul]
          refine C.ishr dX13_feed_102 ?_
          refine C.sipush (nI 255) dX13_feed_103 (by decide) ?_
          refine C.iand dX13_feed_106 ?_
          rw [(byN_i w (k % 4)).1, hw]
          refine C.iast hS.a0 (n_in (by omega)) dX13_feed_107 ?_
          rw [n_cl]
          refine C.aload_n dX13_feed_108 0 rfl ?_
          refine C.dup dX13_feed_109 rfl ?_
          refine C.getI fX13_261 dX13_feed_110 hS.o ?_
          rw [ht2]
          refine C.iconst (nI 1) dX13_feed_113 (by decide) ?_
          refine C.iadd dX13_feed_114 ?_
          rw [nI_add]
          refine C.putI fX13_261 (Or.inl rfl) dX13_feed_115 hS.o ?_
          refine C.iinc (lv' := [(0, _), (1, _), (2, _), (3, _), (4, _), (5, _), (6, _), (7, _)]) _ dX13_feed_118 6 rfl rfl (nLt hX rfl) rfl ?_
          refine C.goto 28 dX13_feed_121 rfl ?_
          have hgo := ih (k + 1) (sI (sI μ1 180 ((tpH h).length + k) (nI (byN (fdW a b c d e k) (k % 4)))) 179 1 (nI ((tpH h).length + k + 1))) (by omega) he (by rw [mI_sI, if_pos ⟨rfl, rfl⟩]; rfl) (fun i hi => by rw [mI_sI, if_neg (by omega), mI_sI]; by_cases q : i = k; rw [if_pos ⟨rfl, by omega⟩, q]; rw [if_neg (by omega)]; exact hb i (by omega)) (fun z i q q2 => by rw [mI_sI, if_neg q2, mI_sI, if_neg (by omega)]; exact ho z i q q2)
          rw [show Value.int (nI (k + 1)) = Value.int (nI k + 1) by rw [nI_1]] at hgo
          exact AW.pick [0, 1, 2, 3, 4, 5, 6] rfl hgo
        refine C.iload dX13_feed_28 6 rfl ?_
        refine C.bipush (nI 20) dX13_feed_30 (by decide) ?_
        refine C.icmp_ge 124 dX13_feed_32 rfl (fun hc32 => ?_) (fun hc32 => ?_)
        · have := n_le (a := 20) (b := k) hc32; omega
        · refine C.iload dX13_feed_35 6 rfl ?_
          refine C.iconst (nI 4) dX13_feed_37 (by decide) ?_
          refine C.icmp_ge 45 dX13_feed_38 rfl (fun hc38 => ?_) (fun hc38 => ?_)
          · have q1 := n_le (a := 4) (b := k) hc38
            refine C.iload dX13_feed_45 6 rfl ?_
            refine C.bipush (nI 8) dX13_feed_47 (by decide) ?_
            refine C.icmp_ge 56 dX13_feed_49 rfl (fun hc49 => ?_) (fun hc49 => ?_)
            · have q2 := n_le (a := 8) (b := k) hc49
              refine C.iload dX13_feed_56 6 rfl ?_
              refine C.bipush (nI 12) dX13_feed_58 (by decide) ?_
              refine C.icmp_ge 67 dX13_feed_60 rfl (fun hc60 => ?_) (fun hc60 => ?_)
              · have q3 := n_le (a := 12) (b := k) hc60
                refine C.iload dX13_feed_67 6 rfl ?_
                refine C.bipush (nI 16) dX13_feed_69 (by decide) ?_
                refine C.icmp_ge 79 dX13_feed_71 rfl (fun hc71 => ?_) (fun hc71 => ?_)
                · have q4 := n_le (a := 16) (b := k) hc71
                  refine C.iload dX13_feed_79 5 rfl ?_
                  refine m81 _ ?_
                  unfold fdW
                  first | exact (if_pos q1).symm | exact ((if_neg (by omega)).trans (if_pos q2)).symm | exact ((if_neg (by omega)).trans ((if_neg (by omega)).trans (if_pos q3))).symm | exact ((if_neg (by omega)).trans ((if_neg (by omega)).trans ((if_neg (by omega)).trans (if_pos q4)))).symm | exact ((if_neg (by omega)).trans ((if_neg (by omega)).trans ((if_neg (by omega)).trans (if_neg (by omega))))).symm
                · have q4 := n_nle (a := 16) (b := k) hc71
                  refine C.iload dX13_feed_74 4 rfl ?_
                  refine C.goto 81 dX13_feed_76 rfl ?_
                  refine m81 _ ?_
                  unfold fdW
                  first | exact (if_pos q1).symm | exact ((if_neg (by omega)).trans (if_pos q2)).symm | exact ((if_neg (by omega)).trans ((if_neg (by omega)).trans (if_pos q3))).symm | exact ((if_neg (by omega)).trans ((if_neg (by omega)).trans ((if_neg (by omega)).trans (if_pos q4)))).symm | exact ((if_neg (by omega)).trans ((if_neg (by omega)).trans ((if_neg (by omega)).trans (if_neg (by omega))))).symm
              · have q3 := n_nle (a := 12) (b := k) hc60
                refine C.iload_n dX13_feed_63 3 rfl ?_
                refine C.goto 81 dX13_feed_64 rfl ?_
                refine m81 _ ?_
                unfold fdW
                first | exact (if_pos q1).symm | exact ((if_neg (by omega)).trans (if_pos q2)).symm | exact ((if_neg (by omega)).trans ((if_neg (by omega)).trans (if_pos q3))).symm | exact ((if_neg (by omega)).trans ((if_neg (by omega)).trans ((if_neg (by omega)).trans (if_pos q4)))).symm | exact ((if_neg (by omega)).trans ((if_neg (by omega)).trans ((if_neg (by omega)).trans (if_neg (by omega))))).symm
            · have q2 := n_nle (a := 8) (b := k) hc49
              refine C.iload_n dX13_feed_52 2 rfl ?_
              refine C.goto 81 dX13_feed_53 rfl ?_
              refine m81 _ ?_
              unfold fdW
              first | exact (if_pos q1).symm | exact ((if_neg (by omega)).trans (if_pos q2)).symm | exact ((if_neg (by omega)).trans ((if_neg (by omega)).trans (if_pos q3))).symm | exact ((if_neg (by omega)).trans ((if_neg (by omega)).trans ((if_neg (by omega)).trans (if_pos q4)))).symm | exact ((if_neg (by omega)).trans ((if_neg (by omega)).trans ((if_neg (by omega)).trans (if_neg (by omega))))).symm
          · have q1 := n_nle (a := 4) (b := k) hc38
            refine C.iload_n dX13_feed_41 1 rfl ?_
            refine C.goto 81 dX13_feed_42 rfl ?_
            refine m81 _ ?_
            unfold fdW
            first | exact (if_pos q1).symm | exact ((if_neg (by omega)).trans (if_pos q2)).symm | exact ((if_neg (by omega)).trans ((if_neg (by omega)).trans (if_pos q3))).symm | exact ((if_neg (by omega)).trans ((if_neg (by omega)).trans ((if_neg (by omega)).trans (if_pos q4)))).symm | exact ((if_neg (by omega)).trans ((if_neg (by omega)).trans ((if_neg (by omega)).trans (if_neg (by omega))))).symm
    refine C.aload_n dX13_feed_0 0 rfl ?_
    refine C.getI fX13_261 dX13_feed_1 hS.o ?_
    rw [h1]
    refine C.bipush (nI 20) dX13_feed_4 (by decide) ?_
    refine C.iadd dX13_feed_6 ?_
    rw [nI_add]
    refine C.sipush (nI 1600) dX13_feed_7 (by decide) ?_
    refine C.icmp_le 25 dX13_feed_10 rfl (fun hc10 => ?_) (fun hc10 => ?_)
    · refine C.iconst (nI 0) dX13_feed_25 (by decide) ?_
      refine C.istore (lv' := [(0, _), (1, _), (2, _), (3, _), (4, _), (5, _), (6, _)]) dX13_feed_26 (nLt hX rfl) rfl ?_
      exact loop 20 0 μ (by omega) rfl (by rw [h1]; rfl) (fun i hi => by omega) (fun _ _ _ _ => rfl)
    · have := n_nle (a := (tpH h).length + 20) (b := 1600) hc10; omega
  · rw [if_neg hc, if_neg hc] at hq
    refine C.aload_n dX13_feed_0 0 rfl ?_
    refine C.getI fX13_261 dX13_feed_1 hS.o ?_
    rw [h1]
    refine C.bipush (nI 20) dX13_feed_4 (by decide) ?_
    refine C.iadd dX13_feed_6 ?_
    rw [nI_add]
    refine C.sipush (nI 1600) dX13_feed_7 (by decide) ?_
    refine C.icmp_le 25 dX13_feed_10 rfl (fun hc10 => ?_) (fun hc10 => ?_)
    · have := n_le (a := (tpH h).length + 20) (b := 1600) hc10; omega
    · refine C.aload_n dX13_feed_13 0 rfl ?_
      refine C.getA fX13_17 dX13_feed_14 hS.o hS.r9 ?_
      refine C.iconst (nI 0) dX13_feed_17 (by decide) ?_
      refine C.dup2 dX13_feed_18 rfl rfl ?_
      refine C.iald hS.a9 (n_in (by decide)) dX13_feed_19 ?_
      rw [n_cl, r0]
      refine C.iconst (nI 1) dX13_feed_20 (by decide) ?_
      refine C.iadd dX13_feed_21 ?_
      refine C.iast hS.a9 (n_in (by decide)) dX13_feed_22 ?_
      rw [n_cl]
      refine C.iconst (-1) dX13_feed_23 (by decide) ?_
      refine C.iret hq dX13_feed_24 ?_
      exact ⟨rfl, p0⟩
theorem kr_see (hR : RefRel μ h) (hH : HOk h) : AMet l G 2 0 0 mtX13_see [.ref (G.1 + 179)] μ (qI (fun x μ' => x = seeA h ∧ PR μ (seeH h) μ')) := by
  refine AMet.of (by decide) (Nat.le_of_ble_eq_true rfl) (fun X C hX hnm hq => ?_)
  have hS := hR.1.1
  have sm := hH.1.1.sm
  have hlen := hR.2.1.2.1
  have hT := hR.2.1.tpc
  have hR0 := hR.tap 0 (Nat.zero_le _)
  rw [List.take_zero] at hR0
  have hT0 : TpC (sI μ 179 1 (nI 0)) (tpH h) := fun j hj => by rw [mI_sI, if_neg (by omega)]; exact hT j hj
  have hP0 : PR μ ([], flH h, rfH h, ldH h, stH h, psH h, rwH h, ocH h, sdH h) (sI μ 179 1 (nI 0)) := ⟨hR0, (FrR.refl μ).st (by omega) _⟩
  obtain ⟨r1, p1⟩ := hR0.rf2 (j := 1) (by decide)
  unfold seeA seeH at hq
  generalize hμ0 : sI μ 179 1 (nI 0) = μ0 at *
  have hS0 := hR0.1.1
  have hL0 : LmH μ0 1 1600 (ldH h) := hR0.2.2.2.2.1.1
  have h57 : mI μ0 179 57 = (if 0 < (ldH h).1.1 then nI 1 else nI 0) := hR0.2.2.2.2.1.2
  have bad : seeOk h = false → ∀ x3 : Int32, AW l G X 0 0 98 [(0, .ref (G.1 + 179)), (1, .int (nI (tpH h).length)), (2, .int (bI false)), (3, .int x3)] [] μ0 := by
    intro hn x3
    rw [hn] at hq
    have hS := hS0
    refine C.iload_n dX13_see_98 2 rfl ?_
    refine C.if_ne 114 dX13_see_99 rfl (fun hc99 => ?_) (fun hc99 => ?_)
    · exact absurd rfl hc99
    · refine C.aload_n dX13_see_102 0 rfl ?_
      refine C.getA fX13_17 dX13_see_103 hS.o hS.r9 ?_
      refine C.iconst (nI 1) dX13_see_106 (by decide) ?_
      refine C.dup2 dX13_see_107 rfl rfl ?_
      refine C.iald hS.a9 (n_in (by decide)) dX13_see_108 ?_
      rw [n_cl, r1]
      refine C.iconst (nI 1) dX13_see_109 (by decide) ?_
      refine C.iadd dX13_see_110 ?_
      refine C.iast hS.a9 (n_in (by decide)) dX13_see_111 ?_
      rw [n_cl]
      refine C.iconst (-1) dX13_see_112 (by decide) ?_
      refine C.iret hq dX13_see_113 ?_
      exact ⟨rfl, hP0.trans p1⟩
  have good : seeOk h = true → seeB h = true → (tpH h).length % 3 = 0 → (tpH h).length / 3 ≤ 12 → ∀ x3 : Int32, AW l G X 0 0 98 [(0, .ref (G.1 + 179)), (1, .int (nI (tpH h).length)), (2, .int (bI true)), (3, .int x3)] [] μ0 := by
    intro hk hB h3 h12 x3
    rw [hk] at hq
    have cp : ∀ (j k : Nat) (μ1 : Mm), k + j = (tpH h).length / 3 → μ1.2 = μ0.2 → (∀ i, i < k → mI μ1 230 (2 * i) = nI (txL (tpH h) (3 * i)) ∧ mI μ1 230 (2 * i + 1) = nI (txL (tpH h) (3 * i + 1) + 7 * txL (tpH h) (3 * i + 2))) → (∀ z i, z ≠ 230 → mI μ1 z i = mI μ0 z i) → AW l G X 0 0 116 [(0, .ref (G.1 + 179)), (1, .int (nI (tpH h).length)), (2, .int (bI true)), (3, .int (nI k))] [] μ1 := by
      intro j
      induction j with
      | zero =>
        intro k μ1 hk2 he hr ho
        have hS : ShM μ1 := hS0.of (by rw [he])
        have e72 : mI (sI μ1 179 72 (nI ((tpH h).length / 3))) 179 72 = nI ((tpH h).length / 3) := by rw [mI_sI, if_pos ⟨rfl, rfl⟩]
        refine C.iload_n dX13_see_116 3 rfl ?_
        refine C.iload_n dX13_see_117 1 rfl ?_
        refine C.iconst (nI 3) dX13_see_118 (by decide) ?_
        refine C.idiv dX13_see_119 (by decide) ?_
        rw [pk_div (by omega) (by decide) (by decide)]
        refine C.icmp_ge 179 dX13_see_120 rfl (fun hc120 => ?_) (fun hc120 => ?_)
        · refine C.aload_n dX13_see_179 0 rfl ?_
          refine C.iload_n dX13_see_180 1 rfl ?_
          refine C.iconst (nI 3) dX13_see_181 (by decide) ?_
          refine C.idiv dX13_see_182 (by decide) ?_
          rw [pk_div (by omega) (by decide) (by decide)]
          refine C.putI fX13_410 (Or.inl rfl) dX13_see_183 hS.o ?_
          refine C.aload_n dX13_see_186 0 rfl ?_
          refine C.getI fX13_410 dX13_see_187 hS.o ?_
          rw [e72]
          refine C.iret hq dX13_see_190 ?_
          refine ⟨rfl, hP0.trans ⟨?_, FrR.of he (fun z i q => by rw [mI_sI, if_neg (by omega)]; exact ho z i (by omega))⟩⟩
          obtain ⟨g1, g2, g3, g4, g5, g6, g7, g8, g9, g10⟩ := hR0
          have hD : ∀ a k, mL μ1 a k = mL μ0 a k := fun a k => by show μ1.2.1 _ _ = μ0.2.1 _ _; rw [he]
          have ho2 : ∀ z i, z ≠ 230 → ¬ (z = 179 ∧ i = 72) → mI (sI μ1 179 72 (nI ((tpH h).length / 3))) z i = mI μ0 z i := fun z i q q2 => by rw [mI_sI, if_neg q2]; exact ho z i q
          refine ⟨g1.of (by rw [← he]; rfl) (fun z i q => ho2 z i (by omega) (by omega)) (ho2 _ _ (by omega) (by omega)) (ho2 _ _ (by omega) (by omega)), g2.of (ho2 _ _ (by omega) (by omega)) (fun i => ho2 _ _ (by omega) (by omega)), g3.of (ho2 _ _ (by omega) (by omega)) (ho2 _ _ (by omega) (by omega)), g4.of (fun i => ho2 _ _ (by omega) (by omega)), ⟨g5.1.of (fun z i q _ _ => ho2 z i (by omega) (by omega)) (fun z i q _ => ho2 z i (by omega) (by omega)) (fun i _ => ho2 _ i (by omega) (by omega)) (fun i _ => ho2 _ i (by omega) (by omega)) (fun i _ => hD _ _), by rw [ho2 _ _ (by omega) (by omega)]; exact g5.2⟩, nowR.of g6 (fun i => ho2 _ _ (by omega) (by omega)), g7.of (ho2 _ _ (by omega) (by omega)) (ho2 _ _ (by omega) (by omega)) (fun i => ho2 _ _ (by omega) (by omega)), ⟨?_, fun i x q => ?_⟩, g9.of (ho2 _ _ (by omega) (by omega)) (fun i => ho2 _ _ (by omega) (by omega)), by show mL μ1 179 78 = _; rw [hD]; exact g10⟩
          · rw [e72]
            show nI ((tpH h).length / 3) = nI (seeR h).length
            simp [seeR]
          · change (seeR h)[i]? = some x at q
            have hi := q_lt q
            unfold seeR at q hi
            rw [List.length_map, List.length_range] at hi
            rw [List.getElem?_map, List.getElem?_range hi] at q
            have q' := Option.some.inj q
            rw [← q', mI_sI, if_neg (by omega), mI_sI, if_neg (by omega)]
            exact hr i (by omega)
        · have := n_nle (a := (tpH h).length / 3) (b := k) hc120; omega
      | succ j ih =>
        intro k μ1 hk2 he hr ho
        have hS : ShM μ1 := hS0.of (by rw [he])
        have tp : ∀ i, i < (tpH h).length → mI μ1 180 i = nI (txL (tpH h) i) := fun i hi => by rw [ho _ _ (by decide)]; exact (hT0 i hi).1
        have tp2 : ∀ v i, i < (tpH h).length → mI (sI μ1 230 (2 * k) v) 180 i = nI (txL (tpH h) i) := fun v i hi => by rw [mI_sI, if_neg (by omega)]; exact tp i hi
        refine C.iload_n dX13_see_116 3 rfl ?_
        refine C.iload_n dX13_see_117 1 rfl ?_
        refine C.iconst (nI 3) dX13_see_118 (by decide) ?_
        refine C.idiv dX13_see_119 (by decide) ?_
        rw [pk_div (by omega) (by decide) (by decide)]
        refine C.icmp_ge 179 dX13_see_120 rfl (fun hc120 => ?_) (fun hc120 => ?_)
        · have := n_le (a := (tpH h).length / 3) (b := k) hc120; omega
        · refine C.aload_n dX13_see_123 0 rfl ?_
          refine C.getA fX13_170 dX13_see_124 hS.o hS.r73 ?_
          refine C.iconst (nI 2) dX13_see_127 (by decide) ?_
          refine C.iload_n dX13_see_128 3 rfl ?_
          refine C.imul dX13_see_129 ?_
          rw [pk_mul]
          refine C.aload_n dX13_see_130 0 rfl ?_
          refine C.getA fX13_7 dX13_see_131 hS.o hS.r0 ?_
          refine C.iconst (nI 3) dX13_see_134 (by decide) ?_
          refine C.iload_n dX13_see_135 3 rfl ?_
          refine C.imul dX13_see_136 ?_
          rw [pk_mul]
          refine C.iald hS.a0 (n_in (by omega)) dX13_see_137 ?_
          rw [n_cl, tp _ (by omega)]
          refine C.iast hS.a73 (n_in (by omega)) dX13_see_138 ?_
          rw [n_cl]
          refine C.aload_n dX13_see_139 0 rfl ?_
          refine C.getA fX13_170 dX13_see_140 hS.o hS.r73 ?_
          refine C.iconst (nI 2) dX13_see_143 (by decide) ?_
          refine C.iload_n dX13_see_144 3 rfl ?_
          refine C.imul dX13_see_145 ?_
          rw [pk_mul]
          refine C.iconst (nI 1) dX13_see_146 (by decide) ?_
          refine C.iadd dX13_see_147 ?_
          rw [nI_add]
          refine C.aload_n dX13_see_148 0 rfl ?_
          refine C.getA fX13_7 dX13_see_149 hS.o hS.r0 ?_
          refine C.iconst (nI 3) dX13_see_152 (by decide) ?_
          refine C.iload_n dX13_see_153 3 rfl ?_
          refine C.imul dX13_see_154 ?_
          rw [pk_mul]
          refine C.iconst (nI 1) dX13_see_155 (by decide) ?_
          refine C.iadd dX13_see_156 ?_
          rw [nI_add]
          refine C.iald hS.a0 (n_in (by omega)) dX13_see_157 ?_
          rw [n_cl, tp2 _ _ (by omega)]
          refine C.bipush (nI 7) dX13_see_158 (by decide) ?_
          refine C.aload_n dX13_see_160 0 rfl ?_
          refine C.getA fX13_7 dX13_see_161 hS.o hS.r0 ?_
          refine C.iconst (nI 3) dX13_see_164 (by decide) ?_
          refine C.iload_n dX13_see_165 3 rfl ?_
          refine C.imul dX13_see_166 ?_
          rw [pk_mul]
          refine C.iconst (nI 2) dX13_see_167 (by decide) ?_
          refine C.iadd dX13_see_168 ?_
          rw [nI_add]
          refine C.iald hS.a0 (n_in (by omega)) dX13_see_169 ?_
          rw [n_cl, tp2 _ _ (by omega)]
          refine C.imul dX13_see_170 ?_
          rw [pk_mul]
          refine C.iadd dX13_see_171 ?_
          rw [nI_add]
          refine C.iast hS.a73 (n_in (by omega)) dX13_see_172 ?_
          rw [n_cl]
          refine C.iinc (lv' := [(0, _), (1, _), (2, _), (3, _)]) _ dX13_see_173 3 rfl rfl (nLt hX rfl) rfl ?_
          refine C.goto 116 dX13_see_176 rfl ?_
          have hgo := ih (k + 1) (sI (sI μ1 230 (2 * k) (nI (txL (tpH h) (3 * k)))) 230 (2 * k + 1) (nI (txL (tpH h) (3 * k + 1) + 7 * txL (tpH h) (3 * k + 2)))) (by omega) he (fun i hi => by
            rw [mI_sI, mI_sI, mI_sI, mI_sI]
            by_cases q : i = k
            · subst q
              exact ⟨by rw [if_neg (by omega), if_pos ⟨rfl, rfl⟩], by rw [if_pos ⟨rfl, rfl⟩]⟩
            · obtain ⟨b1, b2⟩ := hr i (by omega)
              exact ⟨by rw [if_neg (by omega), if_neg (by omega)]; exact b1, by rw [if_neg (by omega), if_neg (by omega)]; exact b2⟩) (fun z i q => by rw [mI_sI, if_neg (fun y => q y.1), mI_sI, if_neg (fun y => q y.1)]; exact ho z i q)
          rw [← nI_1] at hgo
          exact hgo
    have hS := hS0
    refine C.iload_n dX13_see_98 2 rfl ?_
    refine C.if_ne 114 dX13_see_99 rfl (fun hc99 => ?_) (fun hc99 => ?_)
    · refine C.iconst (nI 0) dX13_see_114 (by decide) ?_
      refine C.istore_n (lv' := [(0, _), (1, _), (2, _), (3, _)]) dX13_see_115 (nLt hX rfl) rfl ?_
      exact cp _ 0 μ0 (Nat.zero_add _) rfl (fun i hi => by omega) (fun _ _ _ => rfl)
    · exact absurd hc99 (by decide)
  have loop : ∀ (j k : Nat), seeB h = true → (tpH h).length % 3 = 0 → (tpH h).length / 3 ≤ 12 → k + j = (tpH h).length / 3 → (List.range k).all (seeG h) = true → AW l G X 0 0 43 [(0, .ref (G.1 + 179)), (1, .int (nI (tpH h).length)), (2, .int (bI true)), (3, .int (nI (3 * k)))] [] μ0 := by
    intro j
    induction j with
    | zero =>
      intro k hB h3 h12 hk ha
      have hS := hS0
      refine C.iload_n dX13_see_43 3 rfl ?_
      refine C.iload_n dX13_see_44 1 rfl ?_
      refine C.icmp_ge 98 dX13_see_45 rfl (fun hc45 => ?_) (fun hc45 => ?_)
      · exact good (by unfold seeOk; rw [hB, ← show k = (tpH h).length / 3 by omega, ha]; rfl) hB h3 h12 _
      · have := n_nle (a := (tpH h).length) (b := 3 * k) hc45; omega
    | succ j ih =>
      intro k hB h3 h12 hk ha
      have hS := hS0
      have t0 := hT0 (3 * k) (by omega)
      have t1 := hT0 (3 * k + 1) (by omega)
      have t2 := hT0 (3 * k + 2) (by omega)
      have nob : seeG h k = false → AW l G X 0 0 91 [(0, .ref (G.1 + 179)), (1, .int (nI (tpH h).length)), (2, .int (bI true)), (3, .int (nI (3 * k)))] [.int (nI 0)] μ0 := by
        intro hg
        have hok : seeOk h = false := by unfold seeOk; rw [all_le (show k < (tpH h).length / 3 by omega) hg, Bool.and_false]
        have hb := bad hok
        refine C.istore_n (lv' := [(0, _), (1, _), (2, _), (3, _)]) dX13_see_91 (nLt hX rfl) rfl ?_
        refine C.iinc (lv' := [(0, _), (1, _), (2, _), (3, _)]) _ dX13_see_92 3 rfl rfl (nLt hX rfl) rfl ?_
        refine C.goto 43 dX13_see_95 rfl ?_
        refine C.iload_n dX13_see_43 3 rfl ?_
        refine C.iload_n dX13_see_44 1 rfl ?_
        refine C.icmp_ge 98 dX13_see_45 rfl (fun _ => hb _) (fun _ => ?_)
        refine C.iload_n dX13_see_48 2 rfl ?_
        refine C.if_eq 98 dX13_see_49 rfl (fun _ => hb _) (fun hc => absurd rfl hc)
      unfold seeG at nob
      refine C.iload_n dX13_see_43 3 rfl ?_
      refine C.iload_n dX13_see_44 1 rfl ?_
      refine C.icmp_ge 98 dX13_see_45 rfl (fun hc45 => ?_) (fun hc45 => ?_)
      · have := n_le (a := (tpH h).length) (b := 3 * k) hc45; omega
      · refine C.iload_n dX13_see_48 2 rfl ?_
        refine C.if_eq 98 dX13_see_49 rfl (fun hc49 => ?_) (fun hc49 => ?_)
        · exact absurd hc49 (by decide)
        · refine C.aload_n dX13_see_52 0 rfl ?_
          refine C.getA fX13_7 dX13_see_53 hS.o hS.r0 ?_
          refine C.iload_n dX13_see_56 3 rfl ?_
          refine C.iald hS.a0 (n_in (by omega)) dX13_see_57 ?_
          rw [n_cl, t0.1]
          refine C.bipush (nI 12) dX13_see_58 (by decide) ?_
          refine C.icmp_ge 90 dX13_see_60 rfl (fun hc60 => ?_) (fun hc60 => ?_)
          · have q1 := n_le (a := 12) (b := txL (tpH h) (3 * k)) hc60
            refine C.iconst (nI 0) dX13_see_90 (by decide) ?_
            exact nob (by rw [decide_eq_false (by omega)]; rfl)
          · have q1 := n_nle (a := 12) (b := txL (tpH h) (3 * k)) hc60
            rw [decide_eq_true q1, Bool.true_and] at nob
            refine C.aload_n dX13_see_63 0 rfl ?_
            refine C.aload_n dX13_see_64 0 rfl ?_
            refine C.getA fX13_7 dX13_see_65 hS.o hS.r0 ?_
            refine C.iload_n dX13_see_68 3 rfl ?_
            refine C.iconst (nI 1) dX13_see_69 (by decide) ?_
            refine C.iadd dX13_see_70 ?_
            rw [nI_add]
            refine C.iald hS.a0 (n_in (by omega)) dX13_see_71 ?_
            rw [n_cl, t1.1]
            refine C.aload_n dX13_see_72 0 rfl ?_
            refine C.getA fX13_7 dX13_see_73 hS.o hS.r0 ?_
            refine C.iload_n dX13_see_76 3 rfl ?_
            refine C.iconst (nI 2) dX13_see_77 (by decide) ?_
            refine C.iadd dX13_see_78 ?_
            rw [nI_add]
            refine C.iald hS.a0 (n_in (by omega)) dX13_see_79 ?_
            rw [n_cl, t2.1]
            refine C.callVI lX13_426 dX13_see_80 (kg_isInside hS hL0 (by omega) (by omega) _ _) hS.o rfl rfl (Nat.le_of_ble_eq_true rfl) (Nat.zero_le _) (Nat.zero_le _) (Nat.le_of_ble_eq_true rfl) (fun x80 μ80 h80 => ?_)
            obtain ⟨hx80, hμ⟩ := h80
            subst hμ
            have hii : ((¬ nI (txL (tpH h) (3 * k + 1)) < 0 ∧ nI (txL (tpH h) (3 * k + 1)) < nI (ldH h).1.1) ∧ ¬ nI (txL (tpH h) (3 * k + 2)) < 0 ∧ nI (txL (tpH h) (3 * k + 2)) < nI (ldH h).1.2.1) ↔ (txL (tpH h) (3 * k + 1) < (ldH h).1.1 ∧ txL (tpH h) (3 * k + 2) < (ldH h).1.2.1) := ⟨fun q => ⟨n_lt q.1.2, n_lt q.2.2⟩, fun q => ⟨⟨nI_pos (by omega), (nI_ltI (by omega) (by omega)).mpr q.1⟩, nI_pos (by omega), (nI_ltI (by omega) (by omega)).mpr q.2⟩⟩
            simp only [hii] at hx80
            refine C.if_eq 90 dX13_see_83 rfl (fun hc83 => ?_) (fun hc83 => ?_)
            · have q2 : ¬ (txL (tpH h) (3 * k + 1) < (ldH h).1.1 ∧ txL (tpH h) (3 * k + 2) < (ldH h).1.2.1) := fun q => by rw [if_pos q] at hx80; rw [hx80] at hc83; exact absurd hc83 (by decide)
              refine C.iconst (nI 0) dX13_see_90 (by decide) ?_
              refine nob ?_
              rw [← Bool.decide_and]
              exact decide_eq_false q2
            · have q2 : txL (tpH h) (3 * k + 1) < (ldH h).1.1 ∧ txL (tpH h) (3 * k + 2) < (ldH h).1.2.1 := by by_cases q : (txL (tpH h) (3 * k + 1) < (ldH h).1.1 ∧ txL (tpH h) (3 * k + 2) < (ldH h).1.2.1); exact q; rw [if_neg q] at hx80; exact absurd hx80 hc83
              refine C.iconst (nI 1) dX13_see_86 (by decide) ?_
              refine C.goto 91 dX13_see_87 rfl ?_
              refine C.istore_n (lv' := [(0, _), (1, _), (2, _), (3, _)]) dX13_see_91 (nLt hX rfl) rfl ?_
              refine C.iinc (lv' := [(0, _), (1, _), (2, _), (3, _)]) _ dX13_see_92 3 rfl rfl (nLt hX rfl) rfl ?_
              refine C.goto 43 dX13_see_95 rfl ?_
              have hgo := ih (k + 1) hB h3 h12 (by omega) (by rw [all_succ, ha]; unfold seeG; rw [decide_eq_true q1, decide_eq_true q2.1, decide_eq_true q2.2]; rfl)
              rw [show 3 * (k + 1) = 3 * k + 3 by omega, ← nI_add] at hgo
              exact hgo
  have m40 : ∀ b : Bool, b = seeB h → AW l G X 0 0 40 [(0, .ref (G.1 + 179)), (1, .int (nI (tpH h).length))] [.int (bI b)] μ0 := by
    intro b hb
    cases b with
    | true =>
      have hB : seeB h = true := hb.symm
      have h3 : (0 < (tpH h).length ∧ (tpH h).length % 3 = 0 ∧ (tpH h).length / 3 ≤ 12) := by
        unfold seeB at hB
        simp only [Bool.and_eq_true, decide_eq_true_eq] at hB
        exact hB.2
      refine C.istore_n (lv' := [(0, _), (1, _), (2, _)]) dX13_see_40 (nLt hX rfl) rfl ?_
      refine C.iconst (nI 0) dX13_see_41 (by decide) ?_
      refine C.istore_n (lv' := [(0, _), (1, _), (2, _), (3, _)]) dX13_see_42 (nLt hX rfl) rfl ?_
      exact loop _ 0 hB h3.2.1 h3.2.2 (Nat.zero_add _) rfl
    | false =>
      have hok : seeOk h = false := by unfold seeOk; rw [← hb]; rfl
      have hbd := bad hok
      refine C.istore_n (lv' := [(0, _), (1, _), (2, _)]) dX13_see_40 (nLt hX rfl) rfl ?_
      refine C.iconst (nI 0) dX13_see_41 (by decide) ?_
      refine C.istore_n (lv' := [(0, _), (1, _), (2, _), (3, _)]) dX13_see_42 (nLt hX rfl) rfl ?_
      refine C.iload_n dX13_see_43 3 rfl ?_
      refine C.iload_n dX13_see_44 1 rfl ?_
      refine C.icmp_ge 98 dX13_see_45 rfl (fun hc45 => ?_) (fun hc45 => ?_)
      · exact hbd _
      · refine C.iload_n dX13_see_48 2 rfl ?_
        refine C.if_eq 98 dX13_see_49 rfl (fun hc49 => ?_) (fun hc49 => ?_)
        · exact hbd _
        · exact absurd rfl hc49
  have m10 : AW l G X 0 0 10 [(0, .ref (G.1 + 179)), (1, .int (nI (tpH h).length))] [] μ0 := by
    have hS := hS0
    have hS3 : 0 < (ldH h).1.1 → ¬ (0 < (tpH h).length ∧ (tpH h).length % 3 = 0 ∧ (tpH h).length / 3 ≤ 12) → false = seeB h := fun _ q => by unfold seeB; rw [decide_eq_false q, Bool.and_false]
    by_cases hp : 0 < (ldH h).1.1
    · rw [if_pos hp] at h57
      refine C.aload_n dX13_see_10 0 rfl ?_
      refine C.getZ fX13_403 dX13_see_11 hS.o ?_
      rw [h57]
      refine C.if_eq 39 dX13_see_14 rfl (fun hc14 => ?_) (fun hc14 => ?_)
      · exact absurd hc14 (by decide)
      · refine C.iload_n dX13_see_17 1 rfl ?_
        refine C.if_le 39 dX13_see_18 rfl (fun hc18 => ?_) (fun hc18 => ?_)
        · have q1 := n_le (a := (tpH h).length) (b := 0) hc18
          refine C.iconst (nI 0) dX13_see_39 (by decide) ?_
          first | exact m40 true (by unfold seeB; rw [decide_eq_true hp, decide_eq_true ⟨q1, q2, q3⟩]; rfl) | exact m40 false (hS3 hp (by omega))
        · have q1 := n_nle (a := (tpH h).length) (b := 0) hc18
          refine C.iload_n dX13_see_21 1 rfl ?_
          refine C.iconst (nI 3) dX13_see_22 (by decide) ?_
          refine C.irem dX13_see_23 (by decide) ?_
          rw [pk_rem (by omega) (by decide) (by decide)]
          refine C.if_ne 39 dX13_see_24 rfl (fun hc24 => ?_) (fun hc24 => ?_)
          · have q2 : ¬ (tpH h).length % 3 = 0 := fun q => hc24 (by rw [q]; rfl)
            refine C.iconst (nI 0) dX13_see_39 (by decide) ?_
            first | exact m40 true (by unfold seeB; rw [decide_eq_true hp, decide_eq_true ⟨q1, q2, q3⟩]; rfl) | exact m40 false (hS3 hp (by omega))
          · have q2 : (tpH h).length % 3 = 0 := n_eq (b := 0) hc24
            refine C.iload_n dX13_see_27 1 rfl ?_
            refine C.iconst (nI 3) dX13_see_28 (by decide) ?_
            refine C.idiv dX13_see_29 (by decide) ?_
            rw [pk_div (by omega) (by decide) (by decide)]
            refine C.bipush (nI 12) dX13_see_30 (by decide) ?_
            refine C.icmp_gt 39 dX13_see_32 rfl (fun hc32 => ?_) (fun hc32 => ?_)
            · have q3 := n_lt (a := 12) (b := (tpH h).length / 3) hc32
              refine C.iconst (nI 0) dX13_see_39 (by decide) ?_
              first | exact m40 true (by unfold seeB; rw [decide_eq_true hp, decide_eq_true ⟨q1, q2, q3⟩]; rfl) | exact m40 false (hS3 hp (by omega))
            · have q3 := n_nlt (a := 12) (b := (tpH h).length / 3) hc32
              refine C.iconst (nI 1) dX13_see_35 (by decide) ?_
              refine C.goto 40 dX13_see_36 rfl ?_
              first | exact m40 true (by unfold seeB; rw [decide_eq_true hp, decide_eq_true ⟨q1, q2, q3⟩]; rfl) | exact m40 false (hS3 hp (by omega))
    · rw [if_neg hp] at h57
      refine C.aload_n dX13_see_10 0 rfl ?_
      refine C.getZ fX13_403 dX13_see_11 hS.o ?_
      rw [h57]
      refine C.if_eq 39 dX13_see_14 rfl (fun hc14 => ?_) (fun hc14 => ?_)
      · refine C.iconst (nI 0) dX13_see_39 (by decide) ?_
        exact m40 false (by unfold seeB; rw [decide_eq_false hp]; rfl)
      · exact absurd rfl hc14
  have htp : mI μ 179 1 = nI (tpH h).length := hR.2.1.1
  refine C.aload_n dX13_see_0 0 rfl ?_
  refine C.getI fX13_261 dX13_see_1 hS.o ?_
  rw [htp]
  refine C.istore_n (lv' := [(0, _), (1, _)]) dX13_see_4 (nLt hX rfl) rfl ?_
  refine C.aload_n dX13_see_5 0 rfl ?_
  refine C.iconst (nI 0) dX13_see_6 (by decide) ?_
  refine C.putI fX13_261 (Or.inl rfl) dX13_see_7 hS.o ?_
  first | skip
  rw [hμ0]
  exact m10
end KSN
