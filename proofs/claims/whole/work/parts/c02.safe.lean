/-! the class: who can come home safe -/
def setB (d : Ld) (P : Nat → Bool) : Nat := bsF (fun k => P (cK d k)) (nC d)
theorem bs_andn {f : Nat → Bool} {n k : Nat} (hn : n ≤ 49) : bsF f n &&& (2 ^ k ^^^ (2 ^ 64 - 1)) = bsF (fun j => f j && !decide (j = k)) n := bsF_ext (fun j => by
  rw [Nat.testBit_and, bsF_tb, Nat.testBit_xor, Nat.testBit_two_pow, Nat.testBit_two_pow_sub_one]
  by_cases hj : j < n
  · simp only [decide_eq_true hj, Bool.true_and, decide_eq_true (show j < 64 by omega)]
    by_cases hk : j = k
    · subst hk; simp
    · simp [hk, Ne.symm hk]
  · simp [hj])
theorem lm1 : (-1 : Int64) = lN (2 ^ 64 - 1) := by decide +kernel
section SFP
variable {d : Ld}
/-- for cells of the land, next to each other is by one step at most -/
theorem nb1_ap (hW : Wf d) {a e : Nat} (ha : clOk d a) : nb1 d a e = true ↔ clOk d e ∧ apN a e ≤ 1 := by
  have h7 := hW.w7
  have h8 := hW.h7
  unfold nb1
  constructor
  · intro h
    obtain ⟨w, hw, h2⟩ := List.any_eq_true.mp h
    have hc := of_decide_eq_true h2
    refine ⟨cb_ok hW hc, ?_⟩
    have hw9 := List.mem_range.mp hw
    unfold cb at hc
    split at hc
    · rename_i q
      have e2 := (Option.some.inj hc).symm
      have a3 : acN w ≤ 2 := by unfold acN; split; omega; split <;> omega
      have b3 : dnN w ≤ 2 := by unfold dnN; split; omega; split <;> omega
      unfold apN
      rw [e2, show (a % 7 + acN w - 1 + 7 * (a / 7 + dnN w - 1)) % 7 = a % 7 + acN w - 1 by omega, show (a % 7 + acN w - 1 + 7 * (a / 7 + dnN w - 1)) / 7 = a / 7 + dnN w - 1 by omega]
      omega
    · cases hc
  · intro h
    obtain ⟨he, hap⟩ := h
    unfold apN at hap
    have h1 := ha.1
    have h2 := ha.2
    have h3 := he.1
    have h4 := he.2
    have hx : e % 7 + 1 = a % 7 ∨ e % 7 = a % 7 ∨ e % 7 = a % 7 + 1 := by omega
    have hy : e / 7 + 1 = a / 7 ∨ e / 7 = a / 7 ∨ e / 7 = a / 7 + 1 := by omega
    have key : ∀ w : Nat, w < 9 → a % 7 + acN w = e % 7 + 1 → a / 7 + dnN w = e / 7 + 1 → (List.range 9).any (fun w => decide (cb d a w = some e)) = true := by
      intro w hw p1 p2
      refine List.any_eq_true.mpr ⟨w, List.mem_range.mpr hw, decide_eq_true ?_⟩
      unfold cb
      rw [if_pos ⟨⟨by omega, by omega⟩, by omega, by omega⟩]
      congr 1
      omega
    rcases hx with hx | hx | hx <;> rcases hy with hy | hy | hy
    · exact key 8 (by decide) (by show a % 7 + 0 = _; omega) (by show a / 7 + 0 = _; omega)
    · exact key 7 (by decide) (by show a % 7 + 0 = _; omega) (by show a / 7 + 1 = _; omega)
    · exact key 6 (by decide) (by show a % 7 + 0 = _; omega) (by show a / 7 + 2 = _; omega)
    · exact key 1 (by decide) (by show a % 7 + 1 = _; omega) (by show a / 7 + 0 = _; omega)
    · exact key 0 (by decide) (by show a % 7 + 1 = _; omega) (by show a / 7 + 1 = _; omega)
    · exact key 5 (by decide) (by show a % 7 + 1 = _; omega) (by show a / 7 + 2 = _; omega)
    · exact key 2 (by decide) (by show a % 7 + 2 = _; omega) (by show a / 7 + 0 = _; omega)
    · exact key 3 (by decide) (by show a % 7 + 2 = _; omega) (by show a / 7 + 1 = _; omega)
    · exact key 4 (by decide) (by show a % 7 + 2 = _; omega) (by show a / 7 + 2 = _; omega)
def stpN (d : Ld) (ride : Nat → Nat) (h k j : Nat) : Bool := decide (apN (cK d k) (cK d j) ≤ 1) && !(decide (k = kC d (ride (h + 1))) && decide (j = kC d (ride h)))
def stepF (d : Ld) (ride : Nat → Nat) (P : Nat → Bool) (h e : Nat) : Bool := (List.range 49).any (fun c => P c && (nb1 d c e && stpO ride h c e))
theorem step_eq (hW : Wf d) {ride : Nat → Nat} {P : Nat → Bool} {h : Nat} (hP : ∀ c, P c = true → clOk d c) (hr0 : clOk d (ride h)) (hr1 : clOk d (ride (h + 1))) {j : Nat} (hj : j < nC d) : ((List.range (nC d)).any (fun k => P (cK d k) && stpN d ride h k j) && !decide (j = kC d (ride (h + 1)))) = stepF d ride P h (cK d j) := by
  have h7 := hW.w7.2
  have h49 := hW.n49
  have ej : ∀ y, clOk d y → (j = kC d y ↔ cK d j = y) := fun y hy => ⟨fun q => by rw [q]; exact cK_kC hy, fun q => by rw [← q]; exact (kC_cK h7 hj).symm⟩
  unfold stepF
  rw [Bool.eq_iff_iff, Bool.and_eq_true]
  constructor
  · rintro ⟨p1, p2⟩
    obtain ⟨k, hk, p3⟩ := List.any_eq_true.mp p1
    have hk' := List.mem_range.mp hk
    rw [Bool.and_eq_true] at p3
    obtain ⟨p4, p5⟩ := p3
    have hck := cK_okL h7 hk'
    have hlt := clOk_lt hW hck
    have ek : ∀ y, clOk d y → (k = kC d y ↔ cK d k = y) := fun y hy => ⟨fun q => by rw [q]; exact cK_kC hy, fun q => by rw [← q]; exact (kC_cK h7 hk').symm⟩
    refine List.any_eq_true.mpr ⟨cK d k, List.mem_range.mpr (by omega), ?_⟩
    unfold stpN at p5
    rw [Bool.and_eq_true] at p5
    rw [Bool.and_eq_true, Bool.and_eq_true]
    refine ⟨p4, (nb1_ap hW hck).mpr ⟨cK_okL h7 hj, of_decide_eq_true p5.1⟩, ?_⟩
    unfold stpO
    simp only [Bool.and_eq_true, Bool.not_eq_true', decide_eq_false_iff_not, Bool.and_eq_false_iff] at p2 p5 ⊢
    rw [ej _ hr1] at p2
    rw [ej _ hr0, ek _ hr1] at p5
    exact ⟨p2, p5.2.elim Or.inr Or.inl⟩
  · intro p
    obtain ⟨x, hx, p3⟩ := List.any_eq_true.mp p
    rw [Bool.and_eq_true, Bool.and_eq_true] at p3
    obtain ⟨p4, p5, p6⟩ := p3
    have hxo := hP x p4
    have hkx := kC_lt hxo
    have ek : ∀ y, clOk d y → (kC d x = kC d y ↔ x = y) := fun y hy => kC_iff hxo hy
    unfold stpO at p6
    simp only [Bool.and_eq_true, Bool.not_eq_true', decide_eq_false_iff_not, Bool.and_eq_false_iff] at p6 ⊢
    rw [ej _ hr1]
    refine ⟨List.any_eq_true.mpr ⟨kC d x, List.mem_range.mpr hkx, ?_⟩, p6.1⟩
    unfold stpN
    rw [cK_kC hxo]
    simp only [Bool.and_eq_true, Bool.not_eq_true', decide_eq_false_iff_not, Bool.and_eq_false_iff]
    rw [ej _ hr0, ek _ hr1]
    exact ⟨p4, decide_eq_true ((nb1_ap hW hxo).mp p5).2, p6.2.elim Or.inr Or.inl⟩
theorem rch_s (ride : Nat → Nat) (home h e : Nat) : rchF d ride home (h + 1) e = stepF d ride (rchF d ride home h) h e := rfl
theorem rch_ok (hW : Wf d) {ride : Nat → Nat} {home : Nat} (hh : clOk d home) : ∀ h e, rchF d ride home h e = true → clOk d e
  | 0, e, q => by
    unfold rchF at q
    simp only [Bool.and_eq_true, decide_eq_true_eq] at q
    rw [q.1]; exact hh
  | h + 1, e, q => by
    rw [rch_s] at q
    unfold stepF at q
    obtain ⟨x, hx, p⟩ := List.any_eq_true.mp q
    rw [Bool.and_eq_true, Bool.and_eq_true] at p
    exact ((nb1_ap hW (rch_ok hW hh h x p.1)).mp p.2.1).1
theorem rch_no {ride : Nat → Nat} {home : Nat} (hz : home = ride 0) : ∀ h e, rchF d ride home h e = false
  | 0, e => by unfold rchF; simp [hz]
  | h + 1, e => by
    rw [rch_s]
    unfold stepF
    rw [Bool.eq_false_iff]
    intro q
    obtain ⟨x, hx, p⟩ := List.any_eq_true.mp q
    rw [rch_no hz h x] at p
    cases p
theorem fsF_no {f : Nat → Bool} : ∀ n k, (∀ j, f j = false) → fsF f n k = none
  | 0, _, _ => rfl
  | n + 1, k, h => by unfold fsF; rw [h k]; exact fsF_no n (k + 1) h
end SFP
section KSF2
variable {l : Launch} {G : Gm} {μ : Mm} {L b : Nat} {c : Lc} {d : Ld}
theorem kd_step (hS : ShC μ) (hb : b = 33 ∨ b = 35 ∨ b = 38) (hR : LdR μ L c d) (hW : Wf d) (hl : mR μ b 4 = some L) {ride : Nat → Nat} (hri : ∀ h, h < 12 → mI μ (b + 1) h = nI (kC d (ride h)) ∧ clOk d (ride h)) {P : Nat → Bool} (hP : ∀ c, P c = true → clOk d c) {h : Nat} (hh : h + 1 < 12) : AMet l G 1 0 0 mtX9_stepAside [.ref (G.1 + b), .long (lN (setB d P)), .int (nI h)] μ (qL (fun y μ' => y = lN (setB d (stepF d ride P h)) ∧ μ' = μ)) := by
  refine AMet.of (by decide) (Nat.le_of_ble_eq_true rfl) (fun X C hX hnm hq => ?_)
  have hB := hS.rd hb
  have h49 := hW.n49
  have r0 := hri h (by omega)
  have r1 := hri (h + 1) hh
  have k0 := kC_lt r0.2
  have k1 := kC_lt r1.2
  have hA3 := hR.1.2.2.2.1.1
  have hsb : setB d P < 2 ^ 49 := bsF_49 h49.2
  have s0 : lN 1 <<< ((nI (kC d (ride h))).toInt64 &&& 63) = lN (2 ^ (kC d (ride h))) := by rw [wb_shl 1 (by omega), Nat.one_mul]
  have s1' : lN 1 <<< ((nI (kC d (ride (h + 1)))).toInt64 &&& 63) = lN (2 ^ (kC d (ride (h + 1)))) := by rw [wb_shl 1 (by omega), Nat.one_mul]
  have loop : ∀ (n i : Nat), nC d - i < n → i ≤ nC d → AW l G X 0 0 28 [(0, .ref (G.1 + b)), (1, .long (lN (setB d P))), (3, .int (nI h)), (4, .long (lN (2 ^ (kC d (ride h))))), (6, .long (lN (2 ^ (kC d (ride (h + 1)))))), (8, .long (lN (bsF (fun j => (List.range i).any (fun k => P (cK d k) && stpN d ride h k j)) (nC d)))), (10, .int (nI i))] [] μ := by
    intro n
    induction n with
    | zero => intro i h; omega
    | succ n ih =>
      intro i hi hle
      have ih2 := ih (i + 1)
      have m98 : ∀ (A : Nat), i < nC d → A = bsF (fun j => (List.range (i + 1)).any (fun k => P (cK d k) && stpN d ride h k j)) (nC d) → AW l G X 0 0 98 [(0, .ref (G.1 + b)), (1, .long (lN (setB d P))), (3, .int (nI h)), (4, .long (lN (2 ^ (kC d (ride h))))), (6, .long (lN (2 ^ (kC d (ride (h + 1)))))), (8, .long (lN A)), (10, .int (nI i))] [] μ := by
        intro A hlt hA
        subst hA
        refine C.iinc (lv' := [(0, _), (1, _), (3, _), (4, _), (6, _), (8, _), (10, _)]) _ dX9_stepAside_98 6 rfl rfl (nLt hX rfl) rfl ?_
        refine C.goto 28 dX9_stepAside_101 rfl ?_
        have hgo := ih2 (by omega) (by omega)
        rw [← nI_1] at hgo
        exact hgo
      have m95 : ∀ (A : Nat), i < nC d → P (cK d i) = true → A = bsF (fun j => stpN d ride h i j) (nC d) → AW l G X 0 0 95 [(0, .ref (G.1 + b)), (1, .long (lN (setB d P))), (3, .int (nI h)), (4, .long (lN (2 ^ (kC d (ride h))))), (6, .long (lN (2 ^ (kC d (ride (h + 1)))))), (8, .long (lN (bsF (fun j => (List.range i).any (fun k => P (cK d k) && stpN d ride h k j)) (nC d)))), (10, .int (nI i))] [.long (lN A), .long (lN (bsF (fun j => (List.range i).any (fun k => P (cK d k) && stpN d ride h k j)) (nC d)))] μ := by
        intro A hlt hPi hA
        subst hA
        refine C.lor dX9_stepAside_95 ?_
        rw [fb_orL, bsF_or]
        refine C.lstore (lv' := [(0, _), (1, _), (3, _), (4, _), (6, _), (8, _), (10, _)]) dX9_stepAside_96 (nLt hX rfl) rfl ?_
        exact m98 _ hlt (bsF_cong (fun j _ => by rw [any_succ, hPi, Bool.true_and]))
      refine C.iload dX9_stepAside_28 6 rfl ?_
      refine C.aload_n dX9_stepAside_30 0 rfl ?_
      refine C.getO fX9_19 dX9_stepAside_31 hB.2.1 hl ?_
      refine C.callVI lX9_115 dX9_stepAside_34 (kl_cellCount hR.o (hR.r (by decide)) hA3) hR.o rfl rfl (Nat.le_of_ble_eq_true rfl) (Nat.zero_le _) (Nat.zero_le _) (Nat.le_of_ble_eq_true rfl) (fun x34 μ34 h34 => ?_)
      obtain ⟨rfl, hμ⟩ := h34
      subst hμ
      refine C.icmp_ge 104 dX9_stepAside_37 rfl (fun hc37 => ?_) (fun hc37 => ?_)
      · have hge := n_le hc37
        have hie : i = nC d := by omega
        refine C.lload dX9_stepAside_104 5 rfl ?_
        refine C.lload dX9_stepAside_106 4 rfl ?_
        refine C.ldc2 kX9_123 dX9_stepAside_108 ?_
        refine C.lxor dX9_stepAside_111 ?_
        rw [lm1, fb_xorL]
        refine C.land dX9_stepAside_112 ?_
        rw [fb_andL, bs_andn h49.2]
        refine C.lret hq dX9_stepAside_113 ?_
        subst hie
        refine ⟨?_, rfl⟩
        congr 1
        exact bsF_cong (fun j hj => step_eq hW hP r0.2 r1.2 hj)
      · have hlt := n_nle hc37
        refine C.lload_n dX9_stepAside_40 1 rfl ?_
        refine C.iload dX9_stepAside_41 6 rfl ?_
        refine C.callSNI nn_mtX12_bitOf ns_mtX12_bitOf C.hK.2.1.2.2.2.2.2 dX9_stepAside_43 (kc_bitOf (by omega) (by omega)) rfl rfl (Nat.le_of_ble_eq_true rfl) (Nat.zero_le _) (Nat.zero_le _) (Nat.le_of_ble_eq_true rfl) (fun x43 μ43 h43 => ?_)
        obtain ⟨rfl, hμ⟩ := h43
        subst hμ
        rw [show (setB d P).testBit i = P (cK d i) from by unfold setB; rw [bsF_tb, decide_eq_true hlt, Bool.true_and]]
        refine C.iconst (nI 1) dX9_stepAside_46 (by decide) ?_
        refine C.icmp_ne 98 dX9_stepAside_47 rfl (fun hc47 => ?_) (fun hc47 => ?_)
        · have hPi : P (cK d i) = false := by cases hz : P (cK d i); rfl; rw [hz] at hc47; exact absurd rfl hc47
          exact m98 _ hlt (bsF_cong (fun j _ => by rw [any_succ, hPi, Bool.false_and, Bool.or_false]))
        · have hPi : P (cK d i) = true := by cases hz : P (cK d i); rw [hz] at hc47; exact absurd hc47 (by decide); rfl
          have har := hR.2.2.1.2 i hlt
          refine C.lload dX9_stepAside_50 5 rfl ?_
          refine C.iload dX9_stepAside_52 6 rfl ?_
          refine C.aload_n dX9_stepAside_54 0 rfl ?_
          refine C.getA fX9_9 dX9_stepAside_55 hB.2.1 hB.2.2.1 ?_
          refine C.iload_n dX9_stepAside_58 2 rfl ?_
          refine C.iconst (nI 1) dX9_stepAside_59 (by decide) ?_
          refine C.iadd dX9_stepAside_60 ?_
          rw [nI_add]
          refine C.iald hB.2.2.2.2 (n_in hh) dX9_stepAside_61 ?_
          rw [n_cl, r1.1]
          refine C.icmp_ne 85 dX9_stepAside_62 rfl (fun hc62 => ?_) (fun hc62 => ?_)
          · refine C.aload_n dX9_stepAside_85 0 rfl ?_
            refine C.getO fX9_19 dX9_stepAside_86 hB.2.1 hl ?_
            refine C.getA fX9_119 dX9_stepAside_89 hR.o (hR.r (by decide)) ?_
            refine C.iload dX9_stepAside_92 6 rfl ?_
            refine C.lald hR.1.2.2.2.1.1 (n_in hlt) dX9_stepAside_94 ?_
            first | exact m95 _ hlt hPi (by unfold arB; rw [bs_andn h49.2]; exact bsF_cong (fun j _ => by unfold stpN; rw [decide_eq_true (n_eq hc62 (by omega) (by omega)), Bool.true_and])) | (rw [n_cl (by omega), har]; exact m95 _ hlt hPi (by unfold arB; exact bsF_cong (fun j _ => by unfold stpN; rw [decide_eq_false (n_ne hc62), Bool.false_and, Bool.not_false, Bool.and_true])))
          · refine C.aload_n dX9_stepAside_65 0 rfl ?_
            refine C.getO fX9_19 dX9_stepAside_66 hB.2.1 hl ?_
            refine C.getA fX9_119 dX9_stepAside_69 hR.o (hR.r (by decide)) ?_
            refine C.iload dX9_stepAside_72 6 rfl ?_
            refine C.lald hR.1.2.2.2.1.1 (n_in hlt) dX9_stepAside_74 ?_
            rw [n_cl, har]
            refine C.lload dX9_stepAside_75 3 rfl ?_
            refine C.ldc2 kX9_123 dX9_stepAside_77 ?_
            refine C.lxor dX9_stepAside_80 ?_
            rw [lm1, fb_xorL]
            refine C.land dX9_stepAside_81 ?_
            rw [fb_andL]
            refine C.goto 95 dX9_stepAside_82 rfl ?_
            first | exact m95 _ hlt hPi (by unfold arB; rw [bs_andn h49.2]; exact bsF_cong (fun j _ => by unfold stpN; rw [decide_eq_true (n_eq hc62 (by omega) (by omega)), Bool.true_and])) | (rw [n_cl (by omega), har]; exact m95 _ hlt hPi (by unfold arB; exact bsF_cong (fun j _ => by unfold stpN; rw [decide_eq_false (n_ne hc62), Bool.false_and, Bool.not_false, Bool.and_true])))
  refine C.lconst (lN 1) dX9_stepAside_0 (by decide) ?_
  refine C.aload_n dX9_stepAside_1 0 rfl ?_
  refine C.getA fX9_9 dX9_stepAside_2 hB.2.1 hB.2.2.1 ?_
  refine C.iload_n dX9_stepAside_5 2 rfl ?_
  refine C.iald hB.2.2.2.2 (n_in (by omega)) dX9_stepAside_6 ?_
  rw [n_cl, r0.1]
  refine C.lshl dX9_stepAside_7 ?_
  rw [s0]
  refine C.lstore (lv' := [(0, _), (1, _), (3, _), (4, _)]) dX9_stepAside_8 (nLt hX rfl) rfl ?_
  refine C.lconst (lN 1) dX9_stepAside_10 (by decide) ?_
  refine C.aload_n dX9_stepAside_11 0 rfl ?_
  refine C.getA fX9_9 dX9_stepAside_12 hB.2.1 hB.2.2.1 ?_
  refine C.iload_n dX9_stepAside_15 2 rfl ?_
  refine C.iconst (nI 1) dX9_stepAside_16 (by decide) ?_
  refine C.iadd dX9_stepAside_17 ?_
  rw [nI_add]
  refine C.iald hB.2.2.2.2 (n_in hh) dX9_stepAside_18 ?_
  rw [n_cl, r1.1]
  refine C.lshl dX9_stepAside_19 ?_
  rw [s1']
  refine C.lstore (lv' := [(0, _), (1, _), (3, _), (4, _), (6, _)]) dX9_stepAside_20 (nLt hX rfl) rfl ?_
  refine C.lconst (lN 0) dX9_stepAside_22 (by decide) ?_
  refine C.lstore (lv' := [(0, _), (1, _), (3, _), (4, _), (6, _), (8, _)]) dX9_stepAside_23 (nLt hX rfl) rfl ?_
  refine C.iconst (nI 0) dX9_stepAside_25 (by decide) ?_
  refine C.istore (lv' := [(0, _), (1, _), (3, _), (4, _), (6, _), (8, _), (10, _)]) dX9_stepAside_26 (nLt hX rfl) rfl ?_
  have hgo := loop (nC d + 1) 0 (by omega) (by omega)
  rw [show bsF (fun j => (List.range 0).any (fun k => P (cK d k) && stpN d ride h k j)) (nC d) = 0 from (bsF_zero _).symm] at hgo
  exact hgo
theorem kd_safe (hS : ShC μ) (hb : b = 33 ∨ b = 35 ∨ b = 38) (hR : LdR μ L c d) (hW : Wf d) (hl : mR μ b 4 = some L) {ride : Nat → Nat} (hri : ∀ h, h < 12 → mI μ (b + 1) h = nI (kC d (ride h)) ∧ clOk d (ride h)) {home goal : Nat} (hho : clOk d home) (hgo : clOk d goal) : AMet l G 2 0 0 mtX9_safeHour [.ref (G.1 + b), .int (nI (kC d home)), .int (nI (kC d goal))] μ (qI (fun y μ' => y = opI (fsF (fun k => rchF d ride home k goal) 12 0) ∧ μ' = μ)) := by
  refine AMet.of (by decide) (Nat.le_of_ble_eq_true rfl) (fun X C hX hnm hq => ?_)
  generalize hKK : fsF (fun k => rchF d ride home k goal) 12 0 = K at hq
  have hB := hS.rd hb
  have h49 := hW.n49
  have r0 := hri 0 (by omega)
  have k0 := kC_lt r0.2
  have kh := kC_lt hho
  have kg := kC_lt hgo
  have loop : ∀ (n i : Nat) (A : Nat), i + n = 12 → (i < 12 → A = setB d (rchF d ride home i)) → fsF (fun k => rchF d ride home k goal) n i = K → AW l G X 0 0 19 [(0, .ref (G.1 + b)), (1, .int (nI (kC d home))), (2, .int (nI (kC d goal))), (3, .long (lN A)), (5, .int (nI i))] [] μ := by
    intro n
    induction n with
    | zero =>
      intro i A hi hA hv
      refine C.iload dX9_safeHour_19 4 rfl ?_
      refine C.bipush (nI 12) dX9_safeHour_21 (by decide) ?_
      refine C.icmp_ge 65 dX9_safeHour_23 rfl (fun hc23 => ?_) (fun hc23 => ?_)
      · refine C.iconst (-1) dX9_safeHour_65 (by decide) ?_
        refine C.iret hq dX9_safeHour_66 ?_
        exact ⟨by rw [← hv]; rfl, rfl⟩
      · exact absurd (n_nle hc23) (by omega)
    | succ n ih =>
      intro i A hi hA hv
      have hAi := hA (by omega)
      subst hAi
      have hsb : setB d (rchF d ride home i) < 2 ^ 49 := bsF_49 h49.2
      unfold fsF at hv
      have ht : (setB d (rchF d ride home i)).testBit (kC d goal) = rchF d ride home i goal := by
        unfold setB
        rw [bsF_tb, decide_eq_true kg, Bool.true_and, cK_kC hgo]
      have m58 : ∀ A, rchF d ride home i goal = false → (i + 1 < 12 → A = setB d (rchF d ride home (i + 1))) → AW l G X 0 0 58 [(0, .ref (G.1 + b)), (1, .int (nI (kC d home))), (2, .int (nI (kC d goal))), (3, .long (lN (setB d (rchF d ride home i)))), (5, .int (nI i))] [.long (lN A)] μ := by
        intro A hno hA2
        rw [hno] at hv
        refine C.lstore_n (lv' := [(0, _), (1, _), (2, _), (3, _), (5, _)]) dX9_safeHour_58 (nLt hX rfl) rfl ?_
        refine C.iinc (lv' := [(0, _), (1, _), (2, _), (3, _), (5, _)]) _ dX9_safeHour_59 4 rfl rfl (nLt hX rfl) rfl ?_
        refine C.goto 19 dX9_safeHour_62 rfl ?_
        have hg2 := ih (i + 1) A (by omega) hA2 hv
        rw [← nI_1] at hg2
        exact hg2
      refine C.iload dX9_safeHour_19 4 rfl ?_
      refine C.bipush (nI 12) dX9_safeHour_21 (by decide) ?_
      refine C.icmp_ge 65 dX9_safeHour_23 rfl (fun hc23 => ?_) (fun hc23 => ?_)
      · exact absurd (n_le hc23) (by omega)
      · refine C.lload_n dX9_safeHour_26 3 rfl ?_
        refine C.iload_n dX9_safeHour_27 2 rfl ?_
        refine C.callSNI nn_mtX12_bitOf ns_mtX12_bitOf C.hK.2.1.2.2.2.2.2 dX9_safeHour_28 (kc_bitOf (by omega) (by omega)) rfl rfl (Nat.le_of_ble_eq_true rfl) (Nat.zero_le _) (Nat.zero_le _) (Nat.le_of_ble_eq_true rfl) (fun x28 μ28 h28 => ?_)
        obtain ⟨rfl, hμ⟩ := h28
        subst hμ
        rw [ht]
        refine C.iconst (nI 1) dX9_safeHour_31 (by decide) ?_
        refine C.icmp_ne 38 dX9_safeHour_32 rfl (fun hc32 => ?_) (fun hc32 => ?_)
        · have hno : rchF d ride home i goal = false := by cases hz : rchF d ride home i goal; rfl; rw [hz] at hc32; exact absurd rfl hc32
          refine C.iload dX9_safeHour_38 4 rfl ?_
          refine C.iconst (nI 1) dX9_safeHour_40 (by decide) ?_
          refine C.iadd dX9_safeHour_41 ?_
          refine C.bipush (nI 12) dX9_safeHour_42 (by decide) ?_
          rw [nI_add]
          refine C.icmp_ge 57 dX9_safeHour_44 rfl (fun hc44 => ?_) (fun hc44 => ?_)
          · refine C.lconst (lN 0) dX9_safeHour_57 (by decide) ?_
            first | exact m58 _ hno (fun _ => rfl) | exact m58 0 hno (fun z => absurd (n_le hc44) (by omega))
          · refine C.aload_n dX9_safeHour_47 0 rfl ?_
            refine C.lload_n dX9_safeHour_48 3 rfl ?_
            refine C.iload dX9_safeHour_49 4 rfl ?_
            refine C.callVL lX9_111 dX9_safeHour_51 (kd_step hS hb hR hW hl hri (rch_ok hW hho i) (n_nle hc44)) hB.2.1 rfl rfl (Nat.le_of_ble_eq_true rfl) (Nat.zero_le _) (Nat.zero_le _) (Nat.le_of_ble_eq_true rfl) (fun x51 μ51 h51 => ?_)
            obtain ⟨rfl, hμ⟩ := h51
            subst hμ
            refine C.goto 58 dX9_safeHour_54 rfl ?_
            first | exact m58 _ hno (fun _ => rfl) | exact m58 0 hno (fun z => absurd (n_le hc44) (by omega))
        · have hy : rchF d ride home i goal = true := by cases hz : rchF d ride home i goal; rw [hz] at hc32; exact absurd hc32 (by decide); rfl
          rw [hy] at hv
          refine C.iload dX9_safeHour_35 4 rfl ?_
          refine C.iret hq dX9_safeHour_37 ?_
          exact ⟨by rw [← hv]; rfl, rfl⟩
  refine C.iload_n dX9_safeHour_0 1 rfl ?_
  refine C.aload_n dX9_safeHour_1 0 rfl ?_
  refine C.getA fX9_9 dX9_safeHour_2 hB.2.1 hB.2.2.1 ?_
  refine C.iconst (nI 0) dX9_safeHour_5 (by decide) ?_
  refine C.iald hB.2.2.2.2 (n_in (by omega)) dX9_safeHour_6 ?_
  rw [n_cl, r0.1]
  refine C.icmp_ne 12 dX9_safeHour_7 rfl (fun hc7 => ?_) (fun hc7 => ?_)
  · refine C.lconst (lN 1) dX9_safeHour_12 (by decide) ?_
    refine C.iload_n dX9_safeHour_13 1 rfl ?_
    refine C.lshl dX9_safeHour_14 ?_
    rw [wb_shl 1 (by omega), Nat.one_mul]
    refine C.lstore_n (lv' := [(0, _), (1, _), (2, _), (3, _)]) dX9_safeHour_15 (nLt hX rfl) rfl ?_
    refine C.iconst (nI 0) dX9_safeHour_16 (by decide) ?_
    refine C.istore (lv' := [(0, _), (1, _), (2, _), (3, _), (5, _)]) dX9_safeHour_17 (nLt hX rfl) rfl ?_
    refine loop 12 0 _ rfl (fun _ => ?_) hKK
    rw [one_k hW hho]
    have hz : ¬ home = ride 0 := fun z => hc7 (by rw [z])
    exact bsF_cong (fun k _ => by unfold rchF; rw [decide_eq_false hz, Bool.not_false, Bool.and_true]; by_cases q : home = cK d k; rw [q]; rw [decide_eq_false q, decide_eq_false (Ne.symm q)])
  · refine C.iconst (-1) dX9_safeHour_10 (by decide) ?_
    refine C.iret hq dX9_safeHour_11 ?_
    have hz : home = ride 0 := kC_inj hho r0.2 (n_eq hc7 (by omega) (by omega))
    exact ⟨by rw [← hKK, fsF_no 12 0 (fun j => rch_no hz j goal)]; rfl, rfl⟩
end KSF2
