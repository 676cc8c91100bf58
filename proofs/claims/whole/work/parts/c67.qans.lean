/-! the class: a question is answered -/
def AnF (μ μ' : Mm) : Prop := μ'.2 = μ.2 ∧ ∀ a k, a ≠ 12 → a ≠ 13 → a ≠ 14 → ¬ (a = 11 ∧ k = 3) → mI μ' a k = mI μ a k
section ANP
variable {μ μ' : Mm}
theorem AnF.refl (μ : Mm) : AnF μ μ := ⟨rfl, fun _ _ _ _ _ _ => rfl⟩
theorem AnF.sv {μ'' : Mm} (h : AnF μ μ') (h2 : Sv0 μ' μ'') : AnF μ μ'' := ⟨h2.1.trans h.1, fun a k q1 q2 q3 q4 => (h2.2 a k q1 q2).trans (h.2 a k q1 q2 q3 q4)⟩
theorem AnF.mw {μ'' : Mm} (h : AnF μ μ') (h2 : MwF μ' μ'') : AnF μ μ'' := ⟨h2.1.trans h.1, fun a k q1 q2 q3 q4 => (h2.2 a k q3 q4).trans (h.2 a k q1 q2 q3 q4)⟩
theorem AnF.sh (h : AnF μ μ') (hS : ShC μ) : ShC μ' := hS.of (by rw [h.1])
theorem AnF.ld (h : AnF μ μ') {L : Nat} {c : Lc} {d : Ld} (hR : LdR μ L c d) : LdR μ' L c d := hR.of2 h.1 (fun a k q => h.2 a k (by unfold InL at q; omega) (by unfold InL at q; omega) (by unfold InL at q; omega) (by unfold InL at q; omega))
theorem AnF.r (h : AnF μ μ') (a k : Nat) : mR μ' a k = mR μ a k := by unfold mR; rw [h.1]
end ANP
theorem apN_le {a b : Nat} (ha : a < 1000) (hb : b < 1000) : apN a b ≤ 2000 := by
  unfold apN
  rw [Nat.max_le]
  omega
theorem lN_cn {j : Nat} (h : j < 1000) : (lN j).toNatClampNeg = j := by
  show ((lN j).toInt).toNat = j
  rw [pk_lT (by omega)]
  rfl
theorem lN_leQ {a b : Nat} (ha : a < 1000) (hb : b < 1000) : lN a ≤ lN b ↔ a ≤ b := by
  rw [Int64.le_iff_toInt_le, pk_lT (by omega), pk_lT (by omega)]
  omega
theorem tkF_0 (v : Int64) (i : Nat) (x : Int64) (b : Bool) : tkF 0 v i (x, b) = if v = lN 1 ∧ x = -1 then lN i else x := by
  unfold tkF tk4 tk3 tk2 tk1 tkI
  by_cases h1 : v = lN 1 <;> by_cases h2 : x = -1 <;> simp [h1, h2]
theorem tkF_1 (v : Int64) (i : Nat) (x : Int64) (b : Bool) : tkF 1 v i (x, b) = if v = lN 1 then lN i else x := by
  unfold tkF tk4 tk3 tk2 tk1 tkI
  by_cases h1 : v = lN 1 <;> simp [h1]
theorem tkF_2 {v : Int64} (hv : v = lN 0 ∨ v = lN 1) (i : Nat) (x : Int64) (b : Bool) : tkF 2 v i (x, b) = x + v := by
  unfold tkF tk4 tk3 tk2 tk1 tkI
  rcases hv with h | h
  · rw [h]
    simp
    rw [show lN 0 = 0 from rfl, Int64.add_zero, if_neg (by decide)]
  · rw [h]
    simp
theorem tkF_3 (v : Int64) (i : Nat) (x : Int64) (b : Bool) : tkF 3 v i (x, b) = x + v := by
  unfold tkF tk4 tk3 tk2 tk1 tkI
  simp
theorem tkF_4 (v : Int64) (i : Nat) (x : Int64) (b : Bool) : tkF 4 v i (x, b) = if b = true ∨ ¬ v ≤ x then v else x := by
  unfold tkF tk4 tk3 tk2 tk1 tkI
  simp
theorem tkF_5 (v : Int64) (i : Nat) (x : Int64) (b : Bool) : tkF 5 v i (x, b) = if b = true ∨ ¬ x ≤ v then v else x := by
  unfold tkF tk4 tk3 tk2 tk1 tkI
  simp
section KQA
variable {l : Launch} {G : Gm} {μ : Mm} {L : Nat} {c : Lc} {h : Hs}
theorem ofQ_in {home : Nat} {ride : Nat → Nat} {j : Nat} (hj : j < 12) : ofQ home ride (lN j) = lN (apN home (ride j)) := by
  unfold ofQ
  rw [if_pos ⟨(lN_leQ (by omega) (by omega)).mpr (by omega), (lN_leQ (by omega) (by omega)).mpr (by omega)⟩, lN_cn (by omega)]
theorem ofQ_bnd {home : Nat} {ride : Nat → Nat} (hh : home < 1000) (hr : ∀ j, j < 12 → ride j < 1000) (v : Int64) : bnd (ofQ home ride v) := by
  unfold ofQ
  by_cases q : lN 0 ≤ v ∧ v ≤ lN 11
  · rw [if_pos q]
    have h1 : v.toNatClampNeg < 12 := by
      obtain ⟨q1, q2⟩ := q
      rw [Int64.le_iff_toInt_le, pk_lT (by omega)] at q1
      rw [Int64.le_iff_toInt_le, pk_lT (by omega)] at q2
      show v.toInt.toNat < 12
      omega
    have := apN_le hh (hr _ h1)
    exact bnd_n (by omega)
  · rw [if_neg q]
    exact bnd_n (by omega)
theorem pvQ_bnd (hSW : SWf (ldH h) (stH h)) (hW : Wf (ldH h)) {i : Nat} (hi : i < (ldH h).2.2.2.1.length) (k : Nat) : bnd (pvQ h i k) := by
  have hi6 := hW.2.2.2.1.1
  have hwk : wkS (stH h) i ∈ (stH h).2.1 := q_mem (wkS_q (by rw [hSW.2.2.1]; exact hi))
  obtain ⟨w1, w2, w3, w4⟩ := hSW.2.2.2.1 _ hwk
  have hf := clOk_lt hW (hW.walkF hi)
  have hn := hSW.1
  have hs12 : ∀ t, mtF (ldH h) (ridH h) (wkS (stH h) i) i = some t → t < 12 := by
    intro t q
    unfold mtF at q
    split at q
    · exact absurd q (by simp)
    · have := fsF_lt _ _ _ q
      omega
  unfold pvQ
  refine bnd_n ?_
  repeat' split
  all_goals first | omega | (have := hs12 _ (by assumption); omega)
theorem kq_answer (hS : ShC μ) (hR : LdR μ L c (ldH h)) (hW : Wf (ldH h)) (hl : mR μ 33 4 = some L) (hri : ∀ k, k < 12 → mI μ 34 k = nI (kC (ldH h) (ridH h k)) ∧ clOk (ldH h) (ridH h k)) (hN : CsN μ 40 (stH h)) (hSW : SWf (ldH h) (stH h)) {kd : Nat} (hk : kd < 6) (h82 : mI μ 8 2 = nI (33 + kd)) {r s0 : Nat} (h83 : mR μ 8 3 = some r) (hr : 259 ≤ r) (hs0 : 259 ≤ s0) {cs : List Int32} (hcd : CdR μ r s0 al2 true (decide (kd < 3)) (some cs)) : AMet l G 3 0 0 mtX7_answer [.ref (G.1 + 8), .ref (G.1 + 33), .ref (G.1 + 40)] μ (qL (fun x μ' => x = (askL h kd cs (ldH h).2.2.2.1.length 0 (if kd < 2 then -1 else lN 0, true)).1 ∧ AnF μ μ')) := by
  refine AMet.of (by decide) (Nat.le_of_ble_eq_true rfl) (fun X C hX hnm hq => ?_)
  have h6 := hW.2.2.2.1.1
  have loop : ∀ (n i : Nat) (x : Int64) (M : Mm), (ldH h).2.2.2.1.length - i < n → i ≤ (ldH h).2.2.2.1.length → AnF μ M → (askL h kd cs (ldH h).2.2.2.1.length 0 (if kd < 2 then -1 else lN 0, true)).1 = (askL h kd cs ((ldH h).2.2.2.1.length - i) i (x, decide (i = 0))).1 → AW l G X 0 0 29 [(0, .ref (G.1 + 8)), (1, .ref (G.1 + 33)), (2, .ref (G.1 + 40)), (3, .long x), (5, .int (nI i))] [] M := by
    intro n
    induction n with
    | zero => intro i x M h1; omega
    | succ n ih =>
      intro i x M hn hle p hF
      have hS0 := hS
      have hS := p.sh hS
      have hR := p.ld hR
      have hl : mR M 33 4 = some L := (p.r 33 4).trans hl
      have hri' : ∀ k, k < 12 → mI M 34 k = nI (kC (ldH h) (ridH h k)) ∧ clOk (ldH h) (ridH h k) := fun k hk => ⟨(p.2 34 k (by omega) (by omega) (by omega) (by omega)).trans (hri k hk).1, (hri k hk).2⟩
      have hN := hN.of (μ' := M) (fun a k q1 q2 => p.2 a k (by omega) (by omega) (by omega) (by omega))
      have i12 : mI M L 12 = nI (ldH h).2.2.2.1.length := hR.2.1.2.1.2
      refine C.iload dX7_answer_29 4 rfl ?_
      refine C.aload_n dX7_answer_31 1 rfl ?_
      refine C.getO fX7_62 dX7_answer_32 hS.o33 hl ?_
      refine C.getI fX7_68 dX7_answer_35 hR.o ?_
      rw [i12]
      refine C.icmp_ge 202 dX7_answer_38 rfl (fun hc38 => ?_) (fun hc38 => ?_)
      · have hge := n_le hc38
        have hie : i = (ldH h).2.2.2.1.length := by omega
        subst hie
        rw [Nat.sub_self] at hF
        refine C.lload_n dX7_answer_202 3 rfl ?_
        refine C.lret hq dX7_answer_203 ?_
        exact ⟨hF.symm, p⟩
      · have hlt : i < (ldH h).2.2.2.1.length := n_nle hc38
        refine C.aload_n dX7_answer_41 1 rfl ?_
        refine C.aload_n dX7_answer_42 2 rfl ?_
        refine C.iload dX7_answer_43 4 rfl ?_
        refine C.callSV lX7_73 dX7_answer_45 (kq_setValues hS hR hW hl hri' hN hSW hlt) rfl rfl (Nat.le_of_ble_eq_true rfl) (Nat.zero_le _) (Nat.zero_le _) (Nat.le_of_ble_eq_true rfl) (fun μ45 h45 => ?_)
        obtain ⟨sv, s12, s13⟩ := h45
        have p2 := p.sv sv
        have hS := p2.sh hS0
        have h83' : mR μ45 8 3 = some r := (p2.r 8 3).trans h83
        have h82' : mI μ45 8 2 = nI (33 + kd) := (p2.2 8 2 (by omega) (by omega) (by omega) (by omega)).trans h82
        have hcd' := hcd.of (μ' := μ45) (by rw [p2.1]) (p2.2 _ _ (by omega) (by omega) (by omega) (by omega)) (fun k => p2.2 _ _ (by omega) (by omega) (by omega) (by omega))
        obtain ⟨c1, c2, ns, c3, c4, c5, c6, c7, c8, c9⟩ := hcd'
        have hfl := clOk_lt hW (hW.walkF hlt)
        have hap : ∀ j, j < 12 → ridH h j < 1000 := fun j hj => by have := clOk_lt hW (hri j hj).2; omega
        refine C.aload_n dX7_answer_48 1 rfl ?_
        refine C.getO fX7_77 dX7_answer_49 hS.o33 hS.r33_1 ?_
        refine C.aload_n dX7_answer_52 0 rfl ?_
        refine C.getO fX7_24 dX7_answer_53 hS.o8 h83' ?_
        refine C.callVI lX7_81 dX7_answer_56 (kc_work hS c1 c2 c3 (by omega) (by omega) c5 (by omega) c9 (pv := pvQ h i) (fun k hk _ => ⟨s12 k hk, pvQ_bnd hSW hW hlt k⟩) (of := ofQ (walkF (ldH h) i) (ridH h)) (fun _ => ⟨fun j hj => by rw [s13 j hj, ofQ_in hj, lN_i], fun v q => if_neg q, ofQ_bnd (by omega) hap⟩)) hS.o11 rfl rfl (Nat.le_of_ble_eq_true rfl) (Nat.zero_le _) (Nat.zero_le _) (Nat.le_of_ble_eq_true rfl) (fun x56 μ56 h56 => ?_)
        obtain ⟨v, w1, w2, w3, w4, w5⟩ := h56
        have p3 := p2.mw w5
        have hS := p3.sh hS0
        have h82'' : mI μ56 8 2 = nI (33 + kd) := (p3.2 8 2 (by omega) (by omega) (by omega) (by omega)).trans h82
        have hv : askV h cs i = v := by
          unfold askV
          rw [c7, w1]
          rfl
        have hrt := bnd_rt w2
        rw [w4]
        have e1 : (v.toInt32 = nI 1) ↔ v = lN 1 := ⟨fun z => by rw [← hrt, z]; decide, fun z => by rw [z]; decide⟩
        have nxt : ∀ y : Int64, y = tkF kd v i (x, decide (i = 0)) → AW l G X 0 0 196 [(0, .ref (G.1 + 8)), (1, .ref (G.1 + 33)), (2, .ref (G.1 + 40)), (3, .long y), (5, .int (nI i)), (6, .int v.toInt32)] [] μ56 := by
          intro y hy
          have hgo := ih (i + 1) y μ56 (by omega) (by omega) p3 (by
            rw [hF, show (ldH h).2.2.2.1.length - i = ((ldH h).2.2.2.1.length - (i + 1)) + 1 by omega, hy]
            conv => lhs; unfold askL
            rw [hv, decide_eq_false (show ¬ i + 1 = 0 by omega)])
          rw [← nI_1] at hgo
          refine C.iinc (lv' := [(0, _), (1, _), (2, _), (3, _), (5, _), (6, _)]) _ dX7_answer_196 4 rfl rfl (nLt hX rfl) rfl ?_
          refine C.goto 29 dX7_answer_199 rfl ?_
          exact AW.pick [0, 1, 2, 3, 4] rfl hgo
        have hni : nI i = 0 ↔ i = 0 := ⟨fun z => n_eq (b := 0) z (by omega) (by omega), fun z => by rw [z]; rfl⟩
        refine C.istore (lv' := [(0, _), (1, _), (2, _), (3, _), (5, _), (6, _)]) dX7_answer_59 (nLt hX rfl) rfl ?_
        refine C.aload_n dX7_answer_61 0 rfl ?_
        refine C.getI fX7_37 dX7_answer_62 hS.o8 ?_
        rw [h82'']
        rcases (show kd = 0 ∨ kd = 1 ∨ kd = 2 ∨ kd = 3 ∨ kd = 4 ∨ kd = 5 by omega) with q | q | q | q | q | q <;> subst q
        · refine C.tableIn 104 dX7_answer_65 (by decide) (by decide) rfl rfl ?_
          refine C.iload dX7_answer_104 5 rfl ?_
          refine C.iconst (nI 1) dX7_answer_106 (by decide) ?_
          refine C.icmp_ne 124 dX7_answer_107 rfl (fun hc107 => ?_) (fun hc107 => ?_)
          · refine C.lload_n dX7_answer_124 3 rfl ?_
            refine C.lstore_n (lv' := [(0, _), (1, _), (2, _), (3, _), (5, _), (6, _)]) dX7_answer_125 (nLt hX rfl) rfl ?_
            refine C.goto 196 dX7_answer_126 rfl ?_
            refine nxt _ ?_
            first
            | (rw [tkF_0, if_neg (fun q => hc107 (e1.mpr q.1))])
            | (rw [tkF_0, if_neg (fun q => hc115 (cmp_eq.mpr q.2))])
            | (rw [tkF_0, if_pos ⟨e1.mp hc107, cmp_eq.mp hc115⟩, nI_l (show i < 2 ^ 31 by omega)])
            | (rw [tkF_1, if_neg (fun q => hc132 (e1.mpr q))])
            | (rw [tkF_1, if_pos (e1.mp hc132), nI_l (show i < 2 ^ 31 by omega)])
            | (rw [tkF_2 (w3 rfl)])
            | (rw [tkF_3])
            | (rw [tkF_4, decide_eq_true (hni.mp hc148), if_pos (Or.inl rfl)]; exact hrt)
            | (rw [tkF_4, decide_eq_false (fun q => hc148 (hni.mpr q))]; by_cases q : v ≤ x <;> simp [q])
            | (rw [tkF_5, decide_eq_true (hni.mp hc170), if_pos (Or.inl rfl)]; exact hrt)
            | (rw [tkF_5, decide_eq_false (fun q => hc170 (hni.mpr q))]; by_cases q : x ≤ v <;> simp [q])
          · refine C.lload_n dX7_answer_110 3 rfl ?_
            refine C.ldc2 kX7_60 dX7_answer_111 ?_
            refine C.lcmp dX7_answer_114 ?_
            refine C.if_ne 124 dX7_answer_115 rfl (fun hc115 => ?_) (fun hc115 => ?_)
            · refine C.lload_n dX7_answer_124 3 rfl ?_
              refine C.lstore_n (lv' := [(0, _), (1, _), (2, _), (3, _), (5, _), (6, _)]) dX7_answer_125 (nLt hX rfl) rfl ?_
              refine C.goto 196 dX7_answer_126 rfl ?_
              refine nxt _ ?_
              first
              | (rw [tkF_0, if_neg (fun q => hc107 (e1.mpr q.1))])
              | (rw [tkF_0, if_neg (fun q => hc115 (cmp_eq.mpr q.2))])
              | (rw [tkF_0, if_pos ⟨e1.mp hc107, cmp_eq.mp hc115⟩, nI_l (show i < 2 ^ 31 by omega)])
              | (rw [tkF_1, if_neg (fun q => hc132 (e1.mpr q))])
              | (rw [tkF_1, if_pos (e1.mp hc132), nI_l (show i < 2 ^ 31 by omega)])
              | (rw [tkF_2 (w3 rfl)])
              | (rw [tkF_3])
              | (rw [tkF_4, decide_eq_true (hni.mp hc148), if_pos (Or.inl rfl)]; exact hrt)
              | (rw [tkF_4, decide_eq_false (fun q => hc148 (hni.mpr q))]; by_cases q : v ≤ x <;> simp [q])
              | (rw [tkF_5, decide_eq_true (hni.mp hc170), if_pos (Or.inl rfl)]; exact hrt)
              | (rw [tkF_5, decide_eq_false (fun q => hc170 (hni.mpr q))]; by_cases q : x ≤ v <;> simp [q])
            · refine C.iload dX7_answer_118 4 rfl ?_
              refine C.i2l dX7_answer_120 ?_
              refine C.goto 125 dX7_answer_121 rfl ?_
              refine C.lstore_n (lv' := [(0, _), (1, _), (2, _), (3, _), (5, _), (6, _)]) dX7_answer_125 (nLt hX rfl) rfl ?_
              refine C.goto 196 dX7_answer_126 rfl ?_
              refine nxt _ ?_
              first
              | (rw [tkF_0, if_neg (fun q => hc107 (e1.mpr q.1))])
              | (rw [tkF_0, if_neg (fun q => hc115 (cmp_eq.mpr q.2))])
              | (rw [tkF_0, if_pos ⟨e1.mp hc107, cmp_eq.mp hc115⟩, nI_l (show i < 2 ^ 31 by omega)])
              | (rw [tkF_1, if_neg (fun q => hc132 (e1.mpr q))])
              | (rw [tkF_1, if_pos (e1.mp hc132), nI_l (show i < 2 ^ 31 by omega)])
              | (rw [tkF_2 (w3 rfl)])
              | (rw [tkF_3])
              | (rw [tkF_4, decide_eq_true (hni.mp hc148), if_pos (Or.inl rfl)]; exact hrt)
              | (rw [tkF_4, decide_eq_false (fun q => hc148 (hni.mpr q))]; by_cases q : v ≤ x <;> simp [q])
              | (rw [tkF_5, decide_eq_true (hni.mp hc170), if_pos (Or.inl rfl)]; exact hrt)
              | (rw [tkF_5, decide_eq_false (fun q => hc170 (hni.mpr q))]; by_cases q : x ≤ v <;> simp [q])
        · refine C.tableIn 129 dX7_answer_65 (by decide) (by decide) rfl rfl ?_
          refine C.iload dX7_answer_129 5 rfl ?_
          refine C.iconst (nI 1) dX7_answer_131 (by decide) ?_
          refine C.icmp_ne 141 dX7_answer_132 rfl (fun hc132 => ?_) (fun hc132 => ?_)
          · refine C.lload_n dX7_answer_141 3 rfl ?_
            refine C.lstore_n (lv' := [(0, _), (1, _), (2, _), (3, _), (5, _), (6, _)]) dX7_answer_142 (nLt hX rfl) rfl ?_
            refine C.goto 196 dX7_answer_143 rfl ?_
            refine nxt _ ?_
            first
            | (rw [tkF_0, if_neg (fun q => hc107 (e1.mpr q.1))])
            | (rw [tkF_0, if_neg (fun q => hc115 (cmp_eq.mpr q.2))])
            | (rw [tkF_0, if_pos ⟨e1.mp hc107, cmp_eq.mp hc115⟩, nI_l (show i < 2 ^ 31 by omega)])
            | (rw [tkF_1, if_neg (fun q => hc132 (e1.mpr q))])
            | (rw [tkF_1, if_pos (e1.mp hc132), nI_l (show i < 2 ^ 31 by omega)])
            | (rw [tkF_2 (w3 rfl)])
            | (rw [tkF_3])
            | (rw [tkF_4, decide_eq_true (hni.mp hc148), if_pos (Or.inl rfl)]; exact hrt)
            | (rw [tkF_4, decide_eq_false (fun q => hc148 (hni.mpr q))]; by_cases q : v ≤ x <;> simp [q])
            | (rw [tkF_5, decide_eq_true (hni.mp hc170), if_pos (Or.inl rfl)]; exact hrt)
            | (rw [tkF_5, decide_eq_false (fun q => hc170 (hni.mpr q))]; by_cases q : x ≤ v <;> simp [q])
          · refine C.iload dX7_answer_135 4 rfl ?_
            refine C.i2l dX7_answer_137 ?_
            refine C.goto 142 dX7_answer_138 rfl ?_
            refine C.lstore_n (lv' := [(0, _), (1, _), (2, _), (3, _), (5, _), (6, _)]) dX7_answer_142 (nLt hX rfl) rfl ?_
            refine C.goto 196 dX7_answer_143 rfl ?_
            refine nxt _ ?_
            first
            | (rw [tkF_0, if_neg (fun q => hc107 (e1.mpr q.1))])
            | (rw [tkF_0, if_neg (fun q => hc115 (cmp_eq.mpr q.2))])
            | (rw [tkF_0, if_pos ⟨e1.mp hc107, cmp_eq.mp hc115⟩, nI_l (show i < 2 ^ 31 by omega)])
            | (rw [tkF_1, if_neg (fun q => hc132 (e1.mpr q))])
            | (rw [tkF_1, if_pos (e1.mp hc132), nI_l (show i < 2 ^ 31 by omega)])
            | (rw [tkF_2 (w3 rfl)])
            | (rw [tkF_3])
            | (rw [tkF_4, decide_eq_true (hni.mp hc148), if_pos (Or.inl rfl)]; exact hrt)
            | (rw [tkF_4, decide_eq_false (fun q => hc148 (hni.mpr q))]; by_cases q : v ≤ x <;> simp [q])
            | (rw [tkF_5, decide_eq_true (hni.mp hc170), if_pos (Or.inl rfl)]; exact hrt)
            | (rw [tkF_5, decide_eq_false (fun q => hc170 (hni.mpr q))]; by_cases q : x ≤ v <;> simp [q])
        · refine C.tableIn 190 dX7_answer_65 (by decide) (by decide) rfl rfl ?_
          refine C.lload_n dX7_answer_190 3 rfl ?_
          refine C.iload dX7_answer_191 5 rfl ?_
          refine C.i2l dX7_answer_193 ?_
          rw [hrt]
          refine C.ladd dX7_answer_194 ?_
          refine C.lstore_n (lv' := [(0, _), (1, _), (2, _), (3, _), (5, _), (6, _)]) dX7_answer_195 (nLt hX rfl) rfl ?_
          refine nxt _ ?_
          first
          | (rw [tkF_0, if_neg (fun q => hc107 (e1.mpr q.1))])
          | (rw [tkF_0, if_neg (fun q => hc115 (cmp_eq.mpr q.2))])
          | (rw [tkF_0, if_pos ⟨e1.mp hc107, cmp_eq.mp hc115⟩, nI_l (show i < 2 ^ 31 by omega)])
          | (rw [tkF_1, if_neg (fun q => hc132 (e1.mpr q))])
          | (rw [tkF_1, if_pos (e1.mp hc132), nI_l (show i < 2 ^ 31 by omega)])
          | (rw [tkF_2 (w3 rfl)])
          | (rw [tkF_3])
          | (rw [tkF_4, decide_eq_true (hni.mp hc148), if_pos (Or.inl rfl)]; exact hrt)
          | (rw [tkF_4, decide_eq_false (fun q => hc148 (hni.mpr q))]; by_cases q : v ≤ x <;> simp [q])
          | (rw [tkF_5, decide_eq_true (hni.mp hc170), if_pos (Or.inl rfl)]; exact hrt)
          | (rw [tkF_5, decide_eq_false (fun q => hc170 (hni.mpr q))]; by_cases q : x ≤ v <;> simp [q])
        · refine C.tableIn 190 dX7_answer_65 (by decide) (by decide) rfl rfl ?_
          refine C.lload_n dX7_answer_190 3 rfl ?_
          refine C.iload dX7_answer_191 5 rfl ?_
          refine C.i2l dX7_answer_193 ?_
          rw [hrt]
          refine C.ladd dX7_answer_194 ?_
          refine C.lstore_n (lv' := [(0, _), (1, _), (2, _), (3, _), (5, _), (6, _)]) dX7_answer_195 (nLt hX rfl) rfl ?_
          refine nxt _ ?_
          first
          | (rw [tkF_0, if_neg (fun q => hc107 (e1.mpr q.1))])
          | (rw [tkF_0, if_neg (fun q => hc115 (cmp_eq.mpr q.2))])
          | (rw [tkF_0, if_pos ⟨e1.mp hc107, cmp_eq.mp hc115⟩, nI_l (show i < 2 ^ 31 by omega)])
          | (rw [tkF_1, if_neg (fun q => hc132 (e1.mpr q))])
          | (rw [tkF_1, if_pos (e1.mp hc132), nI_l (show i < 2 ^ 31 by omega)])
          | (rw [tkF_2 (w3 rfl)])
          | (rw [tkF_3])
          | (rw [tkF_4, decide_eq_true (hni.mp hc148), if_pos (Or.inl rfl)]; exact hrt)
          | (rw [tkF_4, decide_eq_false (fun q => hc148 (hni.mpr q))]; by_cases q : v ≤ x <;> simp [q])
          | (rw [tkF_5, decide_eq_true (hni.mp hc170), if_pos (Or.inl rfl)]; exact hrt)
          | (rw [tkF_5, decide_eq_false (fun q => hc170 (hni.mpr q))]; by_cases q : x ≤ v <;> simp [q])
        · refine C.tableIn 146 dX7_answer_65 (by decide) (by decide) rfl rfl ?_
          refine C.iload dX7_answer_146 4 rfl ?_
          refine C.if_ne 157 dX7_answer_148 rfl (fun hc148 => ?_) (fun hc148 => ?_)
          · refine C.lload_n dX7_answer_157 3 rfl ?_
            refine C.iload dX7_answer_158 5 rfl ?_
            refine C.i2l dX7_answer_160 ?_
            rw [hrt]
            refine C.callSL lX7_87 dX7_answer_161 (kj_maxL x v) rfl rfl (Nat.le_of_ble_eq_true rfl) (Nat.zero_le _) (Nat.zero_le _) (Nat.le_of_ble_eq_true rfl) (fun x161 μ161 h161 => ?_)
            obtain ⟨rfl, hμ⟩ := h161
            rw [hμ]
            refine C.lstore_n (lv' := [(0, _), (1, _), (2, _), (3, _), (5, _), (6, _)]) dX7_answer_164 (nLt hX rfl) rfl ?_
            refine C.goto 196 dX7_answer_165 rfl ?_
            refine nxt _ ?_
            first
            | (rw [tkF_0, if_neg (fun q => hc107 (e1.mpr q.1))])
            | (rw [tkF_0, if_neg (fun q => hc115 (cmp_eq.mpr q.2))])
            | (rw [tkF_0, if_pos ⟨e1.mp hc107, cmp_eq.mp hc115⟩, nI_l (show i < 2 ^ 31 by omega)])
            | (rw [tkF_1, if_neg (fun q => hc132 (e1.mpr q))])
            | (rw [tkF_1, if_pos (e1.mp hc132), nI_l (show i < 2 ^ 31 by omega)])
            | (rw [tkF_2 (w3 rfl)])
            | (rw [tkF_3])
            | (rw [tkF_4, decide_eq_true (hni.mp hc148), if_pos (Or.inl rfl)]; exact hrt)
            | (rw [tkF_4, decide_eq_false (fun q => hc148 (hni.mpr q))]; by_cases q : v ≤ x <;> simp [q])
            | (rw [tkF_5, decide_eq_true (hni.mp hc170), if_pos (Or.inl rfl)]; exact hrt)
            | (rw [tkF_5, decide_eq_false (fun q => hc170 (hni.mpr q))]; by_cases q : x ≤ v <;> simp [q])
          · refine C.iload dX7_answer_151 5 rfl ?_
            refine C.i2l dX7_answer_153 ?_
            refine C.goto 164 dX7_answer_154 rfl ?_
            refine C.lstore_n (lv' := [(0, _), (1, _), (2, _), (3, _), (5, _), (6, _)]) dX7_answer_164 (nLt hX rfl) rfl ?_
            refine C.goto 196 dX7_answer_165 rfl ?_
            refine nxt _ ?_
            first
            | (rw [tkF_0, if_neg (fun q => hc107 (e1.mpr q.1))])
            | (rw [tkF_0, if_neg (fun q => hc115 (cmp_eq.mpr q.2))])
            | (rw [tkF_0, if_pos ⟨e1.mp hc107, cmp_eq.mp hc115⟩, nI_l (show i < 2 ^ 31 by omega)])
            | (rw [tkF_1, if_neg (fun q => hc132 (e1.mpr q))])
            | (rw [tkF_1, if_pos (e1.mp hc132), nI_l (show i < 2 ^ 31 by omega)])
            | (rw [tkF_2 (w3 rfl)])
            | (rw [tkF_3])
            | (rw [tkF_4, decide_eq_true (hni.mp hc148), if_pos (Or.inl rfl)]; exact hrt)
            | (rw [tkF_4, decide_eq_false (fun q => hc148 (hni.mpr q))]; by_cases q : v ≤ x <;> simp [q])
            | (rw [tkF_5, decide_eq_true (hni.mp hc170), if_pos (Or.inl rfl)]; exact hrt)
            | (rw [tkF_5, decide_eq_false (fun q => hc170 (hni.mpr q))]; by_cases q : x ≤ v <;> simp [q])
        · refine C.tableIn 168 dX7_answer_65 (by decide) (by decide) rfl rfl ?_
          refine C.iload dX7_answer_168 4 rfl ?_
          refine C.if_ne 179 dX7_answer_170 rfl (fun hc170 => ?_) (fun hc170 => ?_)
          · refine C.lload_n dX7_answer_179 3 rfl ?_
            refine C.iload dX7_answer_180 5 rfl ?_
            refine C.i2l dX7_answer_182 ?_
            rw [hrt]
            refine C.callSL lX7_93 dX7_answer_183 (kj_minL x v) rfl rfl (Nat.le_of_ble_eq_true rfl) (Nat.zero_le _) (Nat.zero_le _) (Nat.le_of_ble_eq_true rfl) (fun x183 μ183 h183 => ?_)
            obtain ⟨rfl, hμ⟩ := h183
            rw [hμ]
            refine C.lstore_n (lv' := [(0, _), (1, _), (2, _), (3, _), (5, _), (6, _)]) dX7_answer_186 (nLt hX rfl) rfl ?_
            refine C.goto 196 dX7_answer_187 rfl ?_
            refine nxt _ ?_
            first
            | (rw [tkF_0, if_neg (fun q => hc107 (e1.mpr q.1))])
            | (rw [tkF_0, if_neg (fun q => hc115 (cmp_eq.mpr q.2))])
            | (rw [tkF_0, if_pos ⟨e1.mp hc107, cmp_eq.mp hc115⟩, nI_l (show i < 2 ^ 31 by omega)])
            | (rw [tkF_1, if_neg (fun q => hc132 (e1.mpr q))])
            | (rw [tkF_1, if_pos (e1.mp hc132), nI_l (show i < 2 ^ 31 by omega)])
            | (rw [tkF_2 (w3 rfl)])
            | (rw [tkF_3])
            | (rw [tkF_4, decide_eq_true (hni.mp hc148), if_pos (Or.inl rfl)]; exact hrt)
            | (rw [tkF_4, decide_eq_false (fun q => hc148 (hni.mpr q))]; by_cases q : v ≤ x <;> simp [q])
            | (rw [tkF_5, decide_eq_true (hni.mp hc170), if_pos (Or.inl rfl)]; exact hrt)
            | (rw [tkF_5, decide_eq_false (fun q => hc170 (hni.mpr q))]; by_cases q : x ≤ v <;> simp [q])
          · refine C.iload dX7_answer_173 5 rfl ?_
            refine C.i2l dX7_answer_175 ?_
            refine C.goto 186 dX7_answer_176 rfl ?_
            refine C.lstore_n (lv' := [(0, _), (1, _), (2, _), (3, _), (5, _), (6, _)]) dX7_answer_186 (nLt hX rfl) rfl ?_
            refine C.goto 196 dX7_answer_187 rfl ?_
            refine nxt _ ?_
            first
            | (rw [tkF_0, if_neg (fun q => hc107 (e1.mpr q.1))])
            | (rw [tkF_0, if_neg (fun q => hc115 (cmp_eq.mpr q.2))])
            | (rw [tkF_0, if_pos ⟨e1.mp hc107, cmp_eq.mp hc115⟩, nI_l (show i < 2 ^ 31 by omega)])
            | (rw [tkF_1, if_neg (fun q => hc132 (e1.mpr q))])
            | (rw [tkF_1, if_pos (e1.mp hc132), nI_l (show i < 2 ^ 31 by omega)])
            | (rw [tkF_2 (w3 rfl)])
            | (rw [tkF_3])
            | (rw [tkF_4, decide_eq_true (hni.mp hc148), if_pos (Or.inl rfl)]; exact hrt)
            | (rw [tkF_4, decide_eq_false (fun q => hc148 (hni.mpr q))]; by_cases q : v ≤ x <;> simp [q])
            | (rw [tkF_5, decide_eq_true (hni.mp hc170), if_pos (Or.inl rfl)]; exact hrt)
            | (rw [tkF_5, decide_eq_false (fun q => hc170 (hni.mpr q))]; by_cases q : x ≤ v <;> simp [q])
  have m25 : ∀ y : Int64, y = (if kd < 2 then -1 else lN 0) → AW l G X 0 0 25 [(0, .ref (G.1 + 8)), (1, .ref (G.1 + 33)), (2, .ref (G.1 + 40))] [.long y] μ := by
    intro y hy
    refine C.lstore_n (lv' := [(0, _), (1, _), (2, _), (3, _)]) dX7_answer_25 (nLt hX rfl) rfl ?_
    refine C.iconst (nI 0) dX7_answer_26 (by decide) ?_
    refine C.istore (lv' := [(0, _), (1, _), (2, _), (3, _), (5, _)]) dX7_answer_27 (nLt hX rfl) rfl ?_
    exact loop ((ldH h).2.2.2.1.length + 1) 0 y μ (by omega) (by omega) (AnF.refl μ) (by rw [hy]; rfl)
  refine C.aload_n dX7_answer_0 0 rfl ?_
  refine C.getI fX7_37 dX7_answer_1 hS.o8 ?_
  rw [h82]
  refine C.bipush (nI 33) dX7_answer_4 (by decide) ?_
  refine C.icmp_eq 18 dX7_answer_6 rfl (fun hc6 => ?_) (fun hc6 => ?_)
  · refine C.ldc2 kX7_60 dX7_answer_18 ?_
    refine C.goto 25 dX7_answer_21 rfl ?_
    first
    | exact m25 _ (by have q := n_eq hc6 (by omega) (by omega); rw [if_pos (by omega)])
    | exact m25 _ (by have q := n_eq hc15 (by omega) (by omega); rw [if_pos (by omega)])
    | exact m25 _ (by have q1 := n_ne hc6; have q2 := n_ne hc15; rw [if_neg (by omega)])
  · refine C.aload_n dX7_answer_9 0 rfl ?_
    refine C.getI fX7_37 dX7_answer_10 hS.o8 ?_
    rw [h82]
    refine C.bipush (nI 34) dX7_answer_13 (by decide) ?_
    refine C.icmp_ne 24 dX7_answer_15 rfl (fun hc15 => ?_) (fun hc15 => ?_)
    · refine C.lconst (lN 0) dX7_answer_24 (by decide) ?_
      first
      | exact m25 _ (by have q := n_eq hc6 (by omega) (by omega); rw [if_pos (by omega)])
      | exact m25 _ (by have q := n_eq hc15 (by omega) (by omega); rw [if_pos (by omega)])
      | exact m25 _ (by have q1 := n_ne hc6; have q2 := n_ne hc15; rw [if_neg (by omega)])
    · refine C.ldc2 kX7_60 dX7_answer_18 ?_
      refine C.goto 25 dX7_answer_21 rfl ?_
      first
      | exact m25 _ (by have q := n_eq hc6 (by omega) (by omega); rw [if_pos (by omega)])
      | exact m25 _ (by have q := n_eq hc15 (by omega) (by omega); rw [if_pos (by omega)])
      | exact m25 _ (by have q1 := n_ne hc6; have q2 := n_ne hc15; rw [if_neg (by omega)])
end KQA
