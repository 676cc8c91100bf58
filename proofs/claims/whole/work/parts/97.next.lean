/-! the class: where the hunt goes next -/
section SAMEP
variable {μ μ' : Mm} {L : Nat} {c : Lc} {d : Ld}
theorem Same.st {a k : Nat} (ha : ¬ InL a) (v : Int32) : Same InL μ (sI μ a k v) := fun b _ hb => ⟨fun j => by rw [mI_sI, if_neg (fun z : b = a ∧ j = k => ha (z.1 ▸ hb))], fun _ => rfl, fun _ => rfl⟩
theorem LdR.st (h : LdR μ L c d) {a k : Nat} (ha : ¬ InL a) (v : Int32) : LdR (sI μ a k v) L c d := h.same (Grw.of rfl) (Same.st ha v)
theorem Same.of2 (e : μ'.2 = μ.2) (h : ∀ a k, InL a → mI μ' a k = mI μ a k) : Same InL μ μ' := fun a _ ha => ⟨fun k => h a k ha, fun k => by unfold mL; rw [e], fun k => by unfold mR; rw [e]⟩
theorem LdR.of2 (h : LdR μ L c d) (e : μ'.2 = μ.2) (hI : ∀ a k, InL a → mI μ' a k = mI μ a k) : LdR μ' L c d := h.same (Grw.of (by rw [e])) (Same.of2 e hI)
theorem LdR.walk (h : LdR μ L c d) : LdI μ L d := h.2.1
end SAMEP
theorem inN_n {j n : Nat} (hj : j < 2147483648) (hn : n < 2147483648) : inN (nI j) n = if j < n then some j else none := by
  unfold inN
  by_cases h : j < n
  · rw [if_pos ⟨nI_pos hj, nI_lt h hn⟩, if_pos h]
    exact congrArg some (n_cl hj)
  · rw [if_neg (fun q => h (n_lt q.2)), if_neg h]
theorem way_in {col W a : Nat} {v : Int32} (hW : W ≤ 7) (hc : col < 7) (hv : (a = 1 ∧ v = 0) ∨ (a = 2 ∧ v = 1) ∨ (a = 0 ∧ v = -1)) : (1 ≤ col + a ∧ col + a ≤ W → nI col + v = nI (col + a - 1) ∧ inN (nI col + v) W = some (col + a - 1)) ∧ (¬ (1 ≤ col + a ∧ col + a ≤ W) → inN (nI col + v) W = none) := by
  rcases hv with ⟨rfl, rfl⟩ | ⟨rfl, rfl⟩ | ⟨rfl, rfl⟩
  · rw [Int32.add_zero, inN_n (by omega) (by omega)]
    refine ⟨fun q => ⟨by congr 1, ?_⟩, fun q => if_neg (by omega)⟩
    rw [if_pos (by omega)]
    congr 1
  · rw [nI_1, inN_n (by omega) (by omega)]
    refine ⟨fun q => ⟨by congr 1, ?_⟩, fun q => if_neg (by omega)⟩
    rw [if_pos (by omega)]
    congr 1
  · rcases Nat.eq_zero_or_pos col with h | h
    · subst h
      exact ⟨fun q => absurd q.1 (by omega), fun _ => inN_f (Or.inl (by decide))⟩
    · rw [sb_m1 h, inN_n (by omega) (by omega)]
      refine ⟨fun q => ⟨by congr 1, ?_⟩, fun q => if_neg (by omega)⟩
      rw [if_pos (by omega)]
      congr 1
theorem wayC_a : ∀ t, t < 8 → (acN (t + 1) = 1 ∧ wayC t = 0) ∨ (acN (t + 1) = 2 ∧ wayC t = 1) ∨ (acN (t + 1) = 0 ∧ wayC t = -1) := by decide +kernel
theorem wayR_a : ∀ t, t < 8 → (dnN (t + 1) = 1 ∧ wayR t = 0) ∨ (dnN (t + 1) = 2 ∧ wayR t = 1) ∨ (dnN (t + 1) = 0 ∧ wayR t = -1) := by decide +kernel
/-- the Machine's own cells -/
def MvF (μ μ' : Mm) : Prop := μ'.2 = μ.2 ∧ ∀ a k, a ≠ 12 → a ≠ 14 → ¬ (a = 11 ∧ k = 3) → mI μ' a k = mI μ a k
theorem MvF.refl (μ : Mm) : MvF μ μ := ⟨rfl, fun _ _ _ _ _ => rfl⟩
theorem MvF.trans {μ μ' μ'' : Mm} (h : MvF μ μ') (h2 : MvF μ' μ'') : MvF μ μ'' := ⟨h2.1.trans h.1, fun a k q q2 q3 => (h2.2 a k q q2 q3).trans (h.2 a k q q2 q3)⟩
theorem MvF.ofW {μ μ' : Mm} (h : MwF μ μ') : MvF μ μ' := ⟨h.1, fun a k _ q2 q3 => h.2 a k q2 q3⟩
theorem MvF.s12 {μ μ' : Mm} (h : MvF μ μ') (k : Nat) (v : Int32) : MvF μ (sI μ' 12 k v) := ⟨h.1, fun a j q q2 q3 => by rw [mI_sI, if_neg (fun z => q z.1)]; exact h.2 a j q q2 q3⟩
theorem MvF.sh {μ μ' : Mm} (h : MvF μ μ') (hS : ShC μ) : ShC μ' := hS.of (by rw [h.1])
theorem MvF.ld {μ μ' : Mm} {L : Nat} {c : Lc} {d : Ld} (h : MvF μ μ') (hR : LdR μ L c d) : LdR μ' L c d := hR.of2 h.1 (fun a k q => h.2 a k (by unfold InL at q; omega) (by unfold InL at q; omega) (by unfold InL at q; omega))
/-- a Ride's own cells -/
def RdO (μ : Mm) (b : Nat) : Prop := (b = 33 ∨ b = 35 ∨ b = 38) ∧ isO μ b 9 ∧ mR μ b 0 = some (b + 1) ∧ mR μ b 1 = some 11 ∧ isA μ (b + 1) 0 12
theorem ShC.rd {μ : Mm} (hS : ShC μ) {b : Nat} (hb : b = 33 ∨ b = 35 ∨ b = 38) : RdO μ b := by
  rcases hb with rfl | rfl | rfl
  · exact ⟨by omega, hS.o33, hS.r33_0, hS.r33_1, hS.a34⟩
  · exact ⟨by omega, hS.o35, hS.r35_0, hS.r35_1, hS.a36⟩
  · exact ⟨by omega, hS.o38, hS.r38_0, hS.r38_1, hS.a39⟩
section KNX
variable {l : Launch} {G : Gm} {μ : Mm} {L b : Nat} {c : Lc} {d : Ld}
theorem kc_isThere {a s n : Nat} (hO : isO μ a 0) (hr : mR μ a 0 = some s) (hA : isA μ s 0 n) (hn : n < 100000) : AMet l G 0 0 0 mtX0_isThere [.ref (G.1 + a)] μ (qI (fun x μ' => x = bI (decide (0 < n)) ∧ μ' = μ)) := by
  refine AMet.of (by decide) (Nat.le_of_ble_eq_true rfl) (fun X C hX hnm hq => ?_)
  refine C.aload_n dX0_isThere_0 0 rfl ?_
  refine C.getA fX0_7 dX0_isThere_1 hO hr ?_
  refine C.alen hA (by decide) dX0_isThere_4 ?_
  refine C.if_le 12 dX0_isThere_5 rfl (fun hc5 => ?_) (fun hc5 => ?_)
  · refine C.iconst (nI 0) dX0_isThere_12 (by decide) ?_
    refine C.zret hq dX0_isThere_13 (by decide) ?_
    refine ⟨?_, rfl⟩
    first | (have h0 : n = 0 := by (rcases Nat.eq_zero_or_pos n with q | q; exact q; exact absurd hc5 (nI_nle q (by omega)))
             subst h0; rfl) | (have h0 : 0 < n := by (rcases Nat.eq_zero_or_pos n with q | q; (subst q; exact absurd (by decide) hc5); exact q)
                               rw [decide_eq_true h0]; rfl)
  · refine C.iconst (nI 1) dX0_isThere_8 (by decide) ?_
    refine C.goto 13 dX0_isThere_9 rfl ?_
    refine C.zret hq dX0_isThere_13 (by decide) ?_
    refine ⟨?_, rfl⟩
    first | (have h0 : n = 0 := by (rcases Nat.eq_zero_or_pos n with q | q; exact q; exact absurd hc5 (nI_nle q (by omega)))
             subst h0; rfl) | (have h0 : 0 < n := by (rcases Nat.eq_zero_or_pos n with q | q; (subst q; exact absurd (by decide) hc5); exact q)
                               rw [decide_eq_true h0]; rfl)
theorem cb_i (hW : Wf d) {cc t : Nat} (hcc : clOk d cc) (ht : t < 8) : (∀ x, cb d cc (t + 1) = some x → (inN (nI (cc % 7) + wayC t) d.1.1).isSome = true ∧ (inN (nI (cc / 7) + wayR t) d.1.2.1).isSome = true ∧ (nI (cc / 7) + wayR t) * nI d.1.1 + (nI (cc % 7) + wayC t) = nI (kC d x)) ∧ (cb d cc (t + 1) = none → ((inN (nI (cc % 7) + wayC t) d.1.1).isSome && (inN (nI (cc / 7) + wayR t) d.1.2.1).isSome) = false) := by
  have h1 := hW.w7
  have h2 := hW.h7
  have h3 := hcc.1
  have h4 := hcc.2
  obtain ⟨a1, a2⟩ := way_in h1.2 (show cc % 7 < 7 by omega) (wayC_a t ht)
  obtain ⟨b1, b2⟩ := way_in h2.2 (show cc / 7 < 7 by omega) (wayR_a t ht)
  unfold cb
  by_cases p : 1 ≤ cc % 7 + acN (t + 1) ∧ cc % 7 + acN (t + 1) ≤ d.1.1
  · by_cases q : 1 ≤ cc / 7 + dnN (t + 1) ∧ cc / 7 + dnN (t + 1) ≤ d.1.2.1
    · rw [if_pos ⟨p, q⟩]
      refine ⟨fun x hx => ?_, fun z => (by cases z)⟩
      have hx' := Option.some.inj hx
      obtain ⟨a3, a4⟩ := a1 p
      obtain ⟨b3, b4⟩ := b1 q
      rw [a4, b4]
      refine ⟨rfl, rfl, ?_⟩
      rw [a3, b3, pk_mul, nI_add, ← hx']
      unfold kC
      congr 1
      rw [show (cc % 7 + acN (t + 1) - 1 + 7 * (cc / 7 + dnN (t + 1) - 1)) / 7 = cc / 7 + dnN (t + 1) - 1 by omega, show (cc % 7 + acN (t + 1) - 1 + 7 * (cc / 7 + dnN (t + 1) - 1)) % 7 = cc % 7 + acN (t + 1) - 1 by omega]
    · rw [if_neg (fun z => q z.2)]
      refine ⟨fun x hx => (by cases hx), fun _ => ?_⟩
      rw [b2 q]
      simp
  · rw [if_neg (fun z => p z.1)]
    refine ⟨fun x hx => (by cases hx), fun _ => ?_⟩
    rw [a2 p]
    rfl
theorem kd_next (hS : ShC μ) (hb : b = 33 ∨ b = 35 ∨ b = 38) (hR : LdR μ L c d) (hW : Wf d) (hl : mR μ b 4 = some L) {x : Nat} (hx : x < 2 ^ 49) (hcl : mL μ b 5 = lN x) {ng : Nat} (hn : mI μ b 7 = nI ng) (hng : ng ≤ 999) {cc hour : Nat} (hcc : clOk d cc) (hh : hour < 12) : AMet l G 3 0 0 mtX9_next [.ref (G.1 + b), .int (nI (kC d cc)), .int (nI hour)] μ (qI (fun y μ' => y = nI (kC d (nxF d (fun z => x.testBit (kC d z)) (wayF d hour ng cc) cc)) ∧ MvF μ μ')) := by
  refine AMet.of (by decide) (Nat.le_of_ble_eq_true rfl) (fun X C hX hnm hq => ?_)
  have h7 := hW.w7
  have h8 := hW.h7
  have h49 := hW.n49
  have hk := kC_lt hcc
  have hm := kC_mod hcc
  have hv := kC_div hcc
  have hcx := hcc.1
  have hcy := hcc.2
  have hway := wayF_lt (d := d) hour ng cc
  have hB := hS.rd hb
  have hi := hR.2.1
  -- the eight ways
  have loop : ∀ (n k : Nat) (μ1 : Mm), k + n = 8 → MvF μ μ1 → (0 < wayF d hour ng cc → nxG d (fun z => x.testBit (kC d z)) (wayF d hour ng cc) cc 8 0 = nxG d (fun z => x.testBit (kC d z)) (wayF d hour ng cc) cc n k) → (wayF d hour ng cc = 0 → k = 0) → AW l G X 0 0 103 [(0, .ref (G.1 + b)), (1, .int (nI (kC d cc))), (2, .int (nI hour)), (3, .int (nI (cc % 7))), (4, .int (nI (cc / 7))), (5, .int (nI (wayF d hour ng cc))), (6, .int (nI k))] [] μ1 := by
    intro n
    induction n with
    | zero =>
      intro k μ1 hkn hF hgo hw0
      have hpos : 0 < wayF d hour ng cc := by
        rcases Nat.eq_zero_or_pos (wayF d hour ng cc) with q | q
        · have := hw0 q; omega
        · exact q
      refine C.iload dX9_next_103 6 rfl ?_
      refine C.bipush (nI 8) dX9_next_105 (by decide) ?_
      refine C.icmp_ge 196 dX9_next_107 rfl (fun hc107 => ?_) (fun hc107 => ?_)
      · refine C.iload_n dX9_next_196 1 rfl ?_
        refine C.iret hq dX9_next_197 ?_
        refine ⟨?_, hF⟩
        unfold nxF
        rw [if_neg (by omega), hgo hpos]
        rfl
      · exact absurd (n_nle hc107) (by omega)
    | succ n ih =>
      intro k μ1 hkn hF hgo hw0
      have hS1 := hF.sh hS
      have hB := hS1.rd hb
      have hR1 := hF.ld hR
      have hl1 : mR μ1 b 4 = some L := mR.of hl (by rw [hF.1])
      have hcl1 : mL μ1 b 5 = lN x := by rw [← hcl]; unfold mL; rw [hF.1]
      have hi1 := hR1.2.1
      have ht : (wayF d hour ng cc - 1 + k) % 8 < 8 := Nat.mod_lt _ (by decide)
      obtain ⟨cs, cn⟩ := cb_i hW hcc ht
      have m190 : 0 < wayF d hour ng cc → nxG d (fun z => x.testBit (kC d z)) (wayF d hour ng cc) cc (n + 1) k = nxG d (fun z => x.testBit (kC d z)) (wayF d hour ng cc) cc n (k + 1) → AW l G X 0 0 190 [(0, .ref (G.1 + b)), (1, .int (nI (kC d cc))), (2, .int (nI hour)), (3, .int (nI (cc % 7))), (4, .int (nI (cc / 7))), (5, .int (nI (wayF d hour ng cc))), (6, .int (nI k))] [] μ1 := by
        intro hp he
        refine C.iinc (lv' := [(0, _), (1, _), (2, _), (3, _), (4, _), (5, _), (6, _)]) _ dX9_next_190 6 rfl rfl (nLt hX rfl) rfl ?_
        refine C.goto 103 dX9_next_193 rfl ?_
        have hg2 := ih (k + 1) μ1 (by omega) hF (fun q => (hgo q).trans he) (fun q => by omega)
        rw [← nI_1] at hg2
        exact hg2
      refine C.iload dX9_next_103 6 rfl ?_
      refine C.bipush (nI 8) dX9_next_105 (by decide) ?_
      refine C.icmp_ge 196 dX9_next_107 rfl (fun hc107 => ?_) (fun hc107 => ?_)
      · exact absurd (n_le hc107) (by omega)
      · refine C.iload dX9_next_110 5 rfl ?_
        refine C.if_le 196 dX9_next_112 rfl (fun hc112 => ?_) (fun hc112 => ?_)
        · have hz : wayF d hour ng cc = 0 := by
            rcases Nat.eq_zero_or_pos (wayF d hour ng cc) with q | q
            · exact q
            · exact absurd hc112 (nI_nle q (by omega))
          refine C.iload_n dX9_next_196 1 rfl ?_
          refine C.iret hq dX9_next_197 ?_
          refine ⟨?_, hF⟩
          unfold nxF
          rw [if_pos hz]
        · have hpos : 0 < wayF d hour ng cc := by
            rcases Nat.eq_zero_or_pos (wayF d hour ng cc) with q | q
            · rw [q] at hc112; exact absurd (by decide) hc112
            · exact q
          refine C.iload dX9_next_115 5 rfl ?_
          refine C.iconst (nI 1) dX9_next_117 (by decide) ?_
          refine C.isub dX9_next_118 ?_
          refine C.iload dX9_next_119 6 rfl ?_
          rw [pk_sub (by omega)]
          refine C.iadd dX9_next_121 ?_
          rw [nI_add]
          refine C.bipush (nI 8) dX9_next_122 (by decide) ?_
          refine C.irem dX9_next_124 (by decide) ?_
          rw [pk_rem (by omega) (by decide) (by decide)]
          refine C.istore (lv' := [(0, _), (1, _), (2, _), (3, _), (4, _), (5, _), (6, _), (7, _)]) dX9_next_125 (nLt hX rfl) rfl ?_
          refine C.iload_n dX9_next_127 3 rfl ?_
          refine C.tabC dX9_next_128 ?_
          refine C.iload dX9_next_131 7 rfl ?_
          refine C.tabCld (n_in ht) dX9_next_133 ?_
          rw [n_cl (by omega)]
          refine C.iadd dX9_next_134 ?_
          refine C.istore (lv' := [(0, _), (1, _), (2, _), (3, _), (4, _), (5, _), (6, _), (7, _), (8, _)]) dX9_next_135 (nLt hX rfl) rfl ?_
          refine C.iload dX9_next_137 4 rfl ?_
          refine C.tabR dX9_next_139 ?_
          refine C.iload dX9_next_142 7 rfl ?_
          refine C.tabRld (n_in ht) dX9_next_144 ?_
          rw [n_cl (by omega)]
          refine C.iadd dX9_next_145 ?_
          refine C.istore (lv' := [(0, _), (1, _), (2, _), (3, _), (4, _), (5, _), (6, _), (7, _), (8, _), (9, _)]) dX9_next_146 (nLt hX rfl) rfl ?_
          refine C.aload_n dX9_next_148 0 rfl ?_
          refine C.getO fX9_19 dX9_next_149 hB.2.1 hl1 ?_
          refine C.iload dX9_next_152 8 rfl ?_
          refine C.iload dX9_next_154 9 rfl ?_
          refine C.callVI lX9_88 dX9_next_156 (kl_cellAt hR1.o _ _) hR1.o rfl rfl (Nat.le_of_ble_eq_true rfl) (Nat.zero_le _) (Nat.zero_le _) (Nat.le_of_ble_eq_true rfl) (fun x156 μ156 h156 => ?_)
          obtain ⟨rfl, hμ⟩ := h156
          subst hμ
          rw [hi1.1.1]
          refine C.istore (lv' := [(0, _), (1, _), (2, _), (3, _), (4, _), (5, _), (6, _), (7, _), (8, _), (9, _), (10, _)]) dX9_next_159 (nLt hX rfl) rfl ?_
          refine C.aload_n dX9_next_161 0 rfl ?_
          refine C.getO fX9_19 dX9_next_162 hB.2.1 hl1 ?_
          refine C.iload dX9_next_165 8 rfl ?_
          refine C.iload dX9_next_167 9 rfl ?_
          refine C.callVI lX9_91 dX9_next_169 (kl_holds hR1.o hi1.1.1 hi1.1.2.1 (by omega) (by omega) _ _) hR1.o rfl rfl (Nat.le_of_ble_eq_true rfl) (Nat.zero_le _) (Nat.zero_le _) (Nat.le_of_ble_eq_true rfl) (fun x169 μ169 h169 => ?_)
          obtain ⟨rfl, hμ⟩ := h169
          subst hμ
          refine C.if_eq 190 dX9_next_172 rfl (fun hc172 => ?_) (fun hc172 => ?_)
          · have hnone : cb d cc ((wayF d hour ng cc - 1 + k) % 8 + 1) = none := by
              cases hcb : cb d cc ((wayF d hour ng cc - 1 + k) % 8 + 1) with
              | none => rfl
              | some y =>
                obtain ⟨z1, z2, z3⟩ := cs y hcb
                rw [z1, z2] at hc172
                exact absurd hc172 (by decide)
            exact AW.pick [0, 1, 2, 3, 4, 5, 6] rfl (m190 hpos (by rw [nxG, hnone]))
          · obtain ⟨y, hcb⟩ : ∃ y, cb d cc ((wayF d hour ng cc - 1 + k) % 8 + 1) = some y := by
              cases hcb : cb d cc ((wayF d hour ng cc - 1 + k) % 8 + 1) with
              | some y => exact ⟨y, rfl⟩
              | none => rw [cn hcb] at hc172; exact absurd rfl hc172
            obtain ⟨z1, z2, z3⟩ := cs y hcb
            have hy := cb_ok hW hcb
            have hyk := kC_lt hy
            rw [z3]
            refine C.aload_n dX9_next_175 0 rfl ?_
            refine C.getL fX9_23 dX9_next_176 hB.2.1 ?_
            rw [hcl1]
            refine C.iload dX9_next_179 10 rfl ?_
            refine C.callSNI nn_mtX12_bitOf ns_mtX12_bitOf C.hK.2.1.2.2.2.2.2 dX9_next_181 (kc_bitOf (by omega) (by omega)) rfl rfl (Nat.le_of_ble_eq_true rfl) (Nat.zero_le _) (Nat.zero_le _) (Nat.le_of_ble_eq_true rfl) (fun x181 μ181 h181 => ?_)
            obtain ⟨rfl, hμ⟩ := h181
            subst hμ
            refine C.if_ne 190 dX9_next_184 rfl (fun hc184 => ?_) (fun hc184 => ?_)
            · have hb1 : x.testBit (kC d y) = true := b_t hc184
              exact AW.pick [0, 1, 2, 3, 4, 5, 6] rfl (m190 hpos (by rw [nxG, hcb]; simp only [hb1, if_true]))
            · refine C.iload dX9_next_187 10 rfl ?_
              refine C.iret hq dX9_next_189 ?_
              have hb0 : x.testBit (kC d y) = false := (bI_0 _).mp hc184
              refine ⟨?_, hF⟩
              unfold nxF
              rw [if_neg (by omega), hgo hpos, nxG, hcb]
              simp only [hb0, Bool.false_eq_true, if_false]
  -- the way
  have hpv : ∀ μ1 : Mm, ∀ k, k < 9 → alW 0 k = true → mI (sI (sI (sI (sI μ1 12 (17 - 17) (nI hour)) 12 (18 - 17) (nI ng)) 12 (19 - 17) (nI (cc % 7))) 12 (20 - 17) (nI (cc / 7))) 12 k = (pvR hour ng cc k).toInt32 ∧ bnd (pvR hour ng cc k) := by
    intro μ1 k _ ha
    have hk4 : k < 4 := of_decide_eq_true ha
    unfold pvR
    rw [lN_i]
    rcases (show k = 0 ∨ k = 1 ∨ k = 2 ∨ k = 3 by omega) with rfl | rfl | rfl | rfl
    · exact ⟨by simp [mI_sI], bnd_n (by simp; omega)⟩
    · exact ⟨by simp [mI_sI], bnd_n (by simp; omega)⟩
    · exact ⟨by simp [mI_sI], bnd_n (by simp; omega)⟩
    · exact ⟨by simp [mI_sI], bnd_n (by simp; omega)⟩
  have hK : CdR μ (c 17) (c 37) (alW 0) false (decide (0 = 2)) (d.2.2.2.2.2 0) := hR.2.2.2.2.2.1 0 (by decide)
  have m100 : ∀ (w : Nat) (μ1 : Mm), MvF μ μ1 → w = wayF d hour ng cc → AW l G X 0 0 100 [(0, .ref (G.1 + b)), (1, .int (nI (kC d cc))), (2, .int (nI hour)), (3, .int (nI (cc % 7))), (4, .int (nI (cc / 7))), (5, .int (nI w))] [] μ1 := by
    intro w μ1 hF hw
    subst hw
    refine C.iconst (nI 0) dX9_next_100 (by decide) ?_
    refine C.istore (lv' := [(0, _), (1, _), (2, _), (3, _), (4, _), (5, _), (6, _)]) dX9_next_101 (nLt hX rfl) rfl ?_
    exact loop 8 0 μ1 (by decide) hF (fun _ => rfl) (fun _ => rfl)
  obtain ⟨ho, hr0, ns, hA, h16, hst, han, hcd⟩ := hK
  have hIn := hR.1.2.2.1 37 (by decide) (by decide)
  refine C.aload_n dX9_next_0 0 rfl ?_
  refine C.getO fX9_19 dX9_next_1 hB.2.1 hl ?_
  refine C.iload_n dX9_next_4 1 rfl ?_
  refine C.callVI lX9_56 dX9_next_5 (kl_columnOf hR.o hi.1.1 (by omega) (by omega) (by omega)) hR.o rfl rfl (Nat.le_of_ble_eq_true rfl) (Nat.zero_le _) (Nat.zero_le _) (Nat.le_of_ble_eq_true rfl) (fun x5 μ5 h5 => ?_)
  obtain ⟨rfl, hμ⟩ := h5
  subst hμ
  rw [hm]
  refine C.istore_n (lv' := [(0, _), (1, _), (2, _), (3, _)]) dX9_next_8 (nLt hX rfl) rfl ?_
  refine C.aload_n dX9_next_9 0 rfl ?_
  refine C.getO fX9_19 dX9_next_10 hB.2.1 hl ?_
  refine C.iload_n dX9_next_13 1 rfl ?_
  refine C.callVI lX9_60 dX9_next_14 (kl_rowOf hR.o hi.1.1 (by omega) (by omega) (by omega)) hR.o rfl rfl (Nat.le_of_ble_eq_true rfl) (Nat.zero_le _) (Nat.zero_le _) (Nat.le_of_ble_eq_true rfl) (fun x14 μ14 h14 => ?_)
  obtain ⟨rfl, hμ⟩ := h14
  subst hμ
  rw [hv]
  refine C.istore (lv' := [(0, _), (1, _), (2, _), (3, _), (4, _)]) dX9_next_17 (nLt hX rfl) rfl ?_
  refine C.iconst (nI 3) dX9_next_19 (by decide) ?_
  refine C.istore (lv' := [(0, _), (1, _), (2, _), (3, _), (4, _), (5, _)]) dX9_next_20 (nLt hX rfl) rfl ?_
  refine C.aload_n dX9_next_22 0 rfl ?_
  refine C.getO fX9_19 dX9_next_23 hB.2.1 hl ?_
  refine C.getO fX9_34 dX9_next_26 hR.o (hR.r (by decide)) ?_
  refine C.callVI lX9_63 dX9_next_29 (kc_isThere ho hr0 hA (by omega)) ho rfl rfl (Nat.le_of_ble_eq_true rfl) (Nat.zero_le _) (Nat.zero_le _) (Nat.le_of_ble_eq_true rfl) (fun x29 μ29 h29 => ?_)
  obtain ⟨rfl, hμ⟩ := h29
  subst hμ
  refine C.if_eq 100 dX9_next_32 rfl (fun hc32 => ?_) (fun hc32 => ?_)
  · have h0 : ns = [] := by
      rcases Nat.eq_zero_or_pos ns.length with q | q
      · exact List.eq_nil_of_length_eq_zero q
      · rw [decide_eq_true q] at hc32; exact absurd hc32 (by decide)
    have hnone : d.2.2.2.2.2 0 = none := by
      cases hc0 : d.2.2.2.2.2 0 with
      | none => rfl
      | some cs => rw [hc0] at hcd; exact absurd h0 hcd.2.1
    exact m100 3 _ (MvF.refl _) (by unfold wayF; rw [hnone])
  · obtain ⟨cs, hc0⟩ : ∃ cs, d.2.2.2.2.2 0 = some cs := by
      cases hc0 : d.2.2.2.2.2 0 with
      | some cs => exact ⟨cs, rfl⟩
      | none => rw [hc0] at hcd; have h0 : ns = [] := hcd; subst h0; exact absurd rfl hc32
    rw [hc0] at hcd
    obtain ⟨hcs, hne, hty⟩ := hcd
    refine C.aload_n dX9_next_35 0 rfl ?_
    refine C.getO fX9_15 dX9_next_36 hB.2.1 hB.2.2.2.1 ?_
    refine C.bipush (nI 17) dX9_next_39 (by decide) ?_
    refine C.iload_n dX9_next_41 2 rfl ?_
    refine C.callVV lX9_67 dX9_next_42 (kc_setValue hS (by decide) (by decide) _) hS.o11 rfl rfl (Nat.le_of_ble_eq_true rfl) (Nat.zero_le _) (Nat.zero_le _) (Nat.le_of_ble_eq_true rfl) (fun μ42 h42 => ?_)
    have hS42 : ShC μ42 := by rw [h42]; exact hS.of rfl
    subst h42
    refine C.aload_n dX9_next_45 0 rfl ?_
    refine C.getO fX9_15 dX9_next_46 hB.2.1 hB.2.2.2.1 ?_
    refine C.bipush (nI 18) dX9_next_49 (by decide) ?_
    refine C.aload_n dX9_next_51 0 rfl ?_
    refine C.getI fX9_31 dX9_next_52 hB.2.1 ?_
    rw [mI_sI, if_neg (by omega), hn]
    refine C.callVV lX9_67 dX9_next_55 (kc_setValue hS42 (by decide) (by decide) _) hS.o11 rfl rfl (Nat.le_of_ble_eq_true rfl) (Nat.zero_le _) (Nat.zero_le _) (Nat.le_of_ble_eq_true rfl) (fun μ55 h55 => ?_)
    have hS55 : ShC μ55 := by rw [h55]; exact hS42.of rfl
    subst h55
    refine C.aload_n dX9_next_58 0 rfl ?_
    refine C.getO fX9_15 dX9_next_59 hB.2.1 hB.2.2.2.1 ?_
    refine C.bipush (nI 19) dX9_next_62 (by decide) ?_
    refine C.iload_n dX9_next_64 3 rfl ?_
    refine C.callVV lX9_67 dX9_next_65 (kc_setValue hS55 (by decide) (by decide) _) hS.o11 rfl rfl (Nat.le_of_ble_eq_true rfl) (Nat.zero_le _) (Nat.zero_le _) (Nat.le_of_ble_eq_true rfl) (fun μ65 h65 => ?_)
    have hS65 : ShC μ65 := by rw [h65]; exact hS55.of rfl
    subst h65
    refine C.aload_n dX9_next_68 0 rfl ?_
    refine C.getO fX9_15 dX9_next_69 hB.2.1 hB.2.2.2.1 ?_
    refine C.bipush (nI 20) dX9_next_72 (by decide) ?_
    refine C.iload dX9_next_74 4 rfl ?_
    refine C.callVV lX9_67 dX9_next_76 (kc_setValue hS65 (by decide) (by decide) _) hS.o11 rfl rfl (Nat.le_of_ble_eq_true rfl) (Nat.zero_le _) (Nat.zero_le _) (Nat.le_of_ble_eq_true rfl) (fun μ76 h76 => ?_)
    have hS76 : ShC μ76 := by rw [h76]; exact hS65.of rfl
    subst h76
    refine C.aload_n dX9_next_79 0 rfl ?_
    refine C.getO fX9_15 dX9_next_80 hB.2.1 hB.2.2.2.1 ?_
    refine C.aload_n dX9_next_83 0 rfl ?_
    refine C.getO fX9_19 dX9_next_84 hB.2.1 hl ?_
    refine C.getO fX9_34 dX9_next_87 hR.o (hR.r (by decide)) ?_
    refine C.callVI lX9_73 dX9_next_90 (kc_work (pv := pvR hour ng cc) (of := id) hS76 (ho.of rfl) hr0 (hA.of rfl) (by unfold InL at hIn; omega) (by unfold InL at hIn; omega) (fun j n q => by rw [mI_sI, if_neg (by unfold InL at hIn; omega), mI_sI, if_neg (by unfold InL at hIn; omega), mI_sI, if_neg (by unfold InL at hIn; omega), mI_sI, if_neg (by unfold InL at hIn; omega)]; exact hst j n q) (by omega) hty (hpv _) (fun z => by cases z)) hS.o11 rfl rfl (Nat.le_of_ble_eq_true rfl) (Nat.zero_le _) (Nat.zero_le _) (Nat.le_of_ble_eq_true rfl) (fun x90 μ90 h90 => ?_)
    obtain ⟨v, ev, bv, -, rfl, hF⟩ := h90
    refine C.bipush (nI 9) dX9_next_93 (by decide) ?_
    refine C.callSI lX9_77 dX9_next_95 (kj_floorMod _) rfl rfl (Nat.le_of_ble_eq_true rfl) (Nat.zero_le _) (Nat.zero_le _) (Nat.le_of_ble_eq_true rfl) (fun x95 μ95 h95 => ?_)
    obtain ⟨rfl, hμ⟩ := h95
    subst hμ
    rw [bnd_ti bv]
    refine C.istore (lv' := [(0, _), (1, _), (2, _), (3, _), (4, _), (5, _)]) dX9_next_98 (nLt hX rfl) rfl ?_
    exact m100 _ _ (((((MvF.refl _).s12 0 _).s12 1 _).s12 2 _).s12 3 _ |>.trans (MvF.ofW hF)) (by unfold wayF; rw [hc0, hcs]; show _ = (((ev64 (pvR hour ng cc) id (List.map nI ns) []).headD 0).toInt % 9).toNat; rw [ev]; rfl)
end KNX
