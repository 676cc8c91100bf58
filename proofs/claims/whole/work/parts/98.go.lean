/-! the class: a ride, hour by hour -/
def mvF (ride : Nat → Nat) (h c : Nat) : Bool := decide (¬ ride (h + 1) = ride h) && decide (ride (h + 1) = c)
def enP (d : Ld) (ride : Nat → Nat) (n : Nat) : Nat := bsF (fun k => (List.range n).any (fun h => mvF ride h (cK d k))) (nC d)
abbrev enB (d : Ld) (ride : Nat → Nat) : Nat := enP d ride 11
def rX (d : Ld) (x ng fr : Nat) : Nat → Nat := rF d (fun z => x.testBit (kC d z)) ng fr
theorem tr_any (ride : Nat → Nat) (c : Nat) : ∀ n, (List.range (n + 1)).any (fun h => decide (ride h = c)) = ((List.range n).any (fun h => mvF ride h c) || decide (ride 0 = c))
  | 0 => by simp
  | n + 1 => by
    have ih := tr_any ride c n
    have e := any_succ (k := n + 1) (f := fun h => decide (ride h = c))
    rw [e, any_succ (k := n) (f := fun h => mvF ride h c), ih]
    by_cases hm : ride (n + 1) = ride n
    · have h1 : mvF ride n c = false := by unfold mvF; simp [hm]
      rw [h1, Bool.or_false, hm]
      by_cases hc : ride n = c
      · have h2 : (List.range (n + 1)).any (fun h => decide (ride h = c)) = true := List.any_eq_true.mpr ⟨n, List.mem_range.mpr (by omega), by simp [hc]⟩
        rw [ih] at h2
        rw [h2]
        rfl
      · rw [decide_eq_false hc, Bool.or_false]
    · have h1 : mvF ride n c = decide (ride (n + 1) = c) := by unfold mvF; simp [hm]
      rw [h1]
      generalize (List.range n).any (fun h => mvF ride h c) = A
      generalize decide (ride 0 = c) = B
      generalize decide (ride (n + 1) = c) = D
      cases A <;> cases B <;> cases D <;> rfl
section RDQ
variable {d : Ld}
theorem one_k (hW : Wf d) {y : Nat} (hy : clOk d y) : 2 ^ (kC d y) = bsF (fun k => decide (y = cK d k)) (nC d) := by
  rw [bsF_one (kC_lt hy)]
  refine bsF_cong (fun k hk => ?_)
  have h1 := cK_kC hy
  have h2 := kC_cK hW.w7.2 hk
  by_cases q : k = kC d y
  · subst q; rw [h1]; simp
  · rw [decide_eq_false q, decide_eq_false (fun z => q (by rw [z, h2]))]
theorem tr_en (hW : Wf d) {ride : Nat → Nat} (h0 : clOk d (ride 0)) : enB d ride ||| 2 ^ (kC d (ride 0)) = trB d ride := by
  rw [one_k hW h0]
  unfold enB enP trB
  rw [bsF_or]
  exact bsF_cong (fun k _ => by rw [tr_any ride (cK d k) 11])
theorem enP_s (hW : Wf d) {ride : Nat → Nat} {n : Nat} (h0 : clOk d (ride (n + 1))) : enP d ride (n + 1) = enP d ride n ||| (if ride (n + 1) = ride n then 0 else 2 ^ (kC d (ride (n + 1)))) := by
  unfold enP
  by_cases h : ride (n + 1) = ride n
  · rw [if_pos h, Nat.or_zero]
    exact bsF_cong (fun k _ => by rw [any_succ]; unfold mvF; simp [h])
  · rw [if_neg h, one_k hW h0, bsF_or]
    exact bsF_cong (fun k _ => by
      rw [any_succ]
      congr 1
      unfold mvF
      simp [h])
/-- a code that doesn't ask for a part is worth the same whatever that part is -/
theorem ev_part {pv pw : Nat → Int64} {of : Int64 → Int64} : ∀ (ns : List Nat) (s : List Int64), (∀ n ∈ ns, n ≤ 10999) → (∀ k, pv k = pw k ∨ ¬ (40 + k) ∈ ns) → ev64 pv of (ns.map nI) s = ev64 pw of (ns.map nI) s
  | [], s, _, _ => rfl
  | n :: ns, s, h, hk => by
    show ev64 pv of (ns.map nI) (st64 pv of (nI n) s) = ev64 pw of (ns.map nI) (st64 pw of (nI n) s)
    have hs : st64 pv of (nI n) s = st64 pw of (nI n) s := by
      have hn := h n (List.mem_cons_self)
      unfold st64
      by_cases h1 : nI 1000 ≤ nI n
      · rw [if_pos h1, if_pos h1]
      · rw [if_neg h1, if_neg h1]
        by_cases h2 : nI 60 ≤ nI n
        · rw [if_pos h2, if_pos h2]
        · rw [if_neg h2, if_neg h2]
          by_cases h3 : nI 40 ≤ nI n
          · rw [if_pos h3, if_pos h3]
            have h4 := n_le h3
            rw [pk_sub h4]
            have e : nn (nI (n - 40)) = n - 40 := n_cl (by omega)
            rw [e]
            rcases hk (n - 40) with q | q
            · rw [q]
            · exact absurd (by rw [show 40 + (n - 40) = n by omega]; exact List.mem_cons_self) q
          · rw [if_neg h3, if_neg h3]
    rw [hs]
    exact ev_part ns _ (fun m hm => h m (List.mem_cons_of_mem _ hm)) (fun k => (hk k).imp id (fun q z => q (List.mem_cons_of_mem _ z)))
theorem TyR.le {al : Nat → Bool} {q : Bool} : ∀ {ns : List Nat} {t1 t2 : List Bool}, TyR al q ns t1 t2 → ∀ n ∈ ns, n ≤ 10999
  | [], _, _, _, n, h => absurd h (by simp)
  | m :: ns, t1, t2, h, n, hn => by
    obtain ⟨t, k1, k2, k3⟩ := h
    rcases List.mem_cons.mp hn with e | e
    · subst e
      unfold TyS at k1
      omega
    · exact k3.le n e
theorem rF_night {μ : Mm} {a s : Nat} (hK : CdR μ a s (alW 0) false (decide (0 = 2)) (d.2.2.2.2.2 0)) (hz : mI μ a 1 = nI 0) (cl : Nat → Bool) (ng ng' fr : Nat) : ∀ h, rF d cl ng fr h = rF d cl ng' fr h
  | 0 => rfl
  | h + 1 => by
    unfold rF
    rw [rF_night hK hz cl ng ng' fr h]
    congr 1
    obtain ⟨ho, hr0, ns, hA, h16, hst, han, hcd⟩ := hK
    unfold wayF
    cases hc0 : d.2.2.2.2.2 0 with
    | none => rfl
    | some cs =>
      rw [hc0] at hcd
      obtain ⟨hcs, hne, hty⟩ := hcd
      have h41 : ¬ 41 ∈ ns := fun q => by
        rw [han, decide_eq_true q] at hz
        exact absurd hz (by decide)
      dsimp only
      unfold evH
      rw [hcs, ev_part ns [] hty.le (fun k => ?_)]
      by_cases hk : k = 1
      · subst hk; exact Or.inr h41
      · exact Or.inl (by unfold pvR; simp [hk])
end RDQ
def RdV (μ : Mm) (b : Nat) (d : Ld) (L x fr ng : Nat) : Prop := (mR μ b 4 = some L ∧ mL μ b 5 = lN x ∧ mI μ b 6 = nI (kC d fr) ∧ mI μ b 7 = nI ng) ∧ (∀ h, h < 12 → mI μ (b + 1) h = nI (kC d (rX d x ng fr h))) ∧ mL μ b 2 = lN (trB d (rX d x ng fr)) ∧ mL μ b 3 = lN (enB d (rX d x ng fr))
/-- what a Ride remembers holds, if it is of this land -/
def RdK (μ : Mm) (b : Nat) (d : Ld) (L : Nat) : Prop := (∃ L', mR μ b 4 = some L' ∧ L' < mN μ) ∧ (mR μ b 4 = some L → 0 < d.1.1 → ∃ x fr ng, x < 2 ^ 49 ∧ clOk d fr ∧ ng ≤ 999 ∧ RdV μ b d L x fr ng)
/-- it has ridden so -/
def RdG (μ : Mm) (b : Nat) (d : Ld) (L x fr ng : Nat) : Prop := mR μ b 4 = some L ∧ (∀ h, h < 12 → mI μ (b + 1) h = nI (kC d (rX d x ng fr h))) ∧ mL μ b 2 = lN (trB d (rX d x ng fr)) ∧ mL μ b 3 = lN (enB d (rX d x ng fr)) ∧ RdK μ b d L
def RdF (b : Nat) (μ μ' : Mm) : Prop := μ'.2.2.2 = μ.2.2.2 ∧ (∀ a k, ¬ (a = b ∧ k = 4) → mR μ' a k = mR μ a k) ∧ (∀ a k, a ≠ b → mL μ' a k = mL μ a k) ∧ (∀ a k, a ≠ b → a ≠ b + 1 → a ≠ 12 → a ≠ 14 → ¬ (a = 11 ∧ k = 3) → mI μ' a k = mI μ a k)
section RDFP
variable {μ μ' : Mm} {b : Nat}
theorem RdF.refl (b : Nat) (μ : Mm) : RdF b μ μ := ⟨rfl, fun _ _ _ => rfl, fun _ _ _ => rfl, fun _ _ _ _ _ _ _ => rfl⟩
theorem RdF.trans {μ'' : Mm} (h : RdF b μ μ') (h2 : RdF b μ' μ'') : RdF b μ μ'' := ⟨h2.1.trans h.1, fun a k q => (h2.2.1 a k q).trans (h.2.1 a k q), fun a k q => (h2.2.2.1 a k q).trans (h.2.2.1 a k q), fun a k q1 q2 q3 q4 q5 => (h2.2.2.2 a k q1 q2 q3 q4 q5).trans (h.2.2.2 a k q1 q2 q3 q4 q5)⟩
theorem RdF.mv {μ'' : Mm} (h : RdF b μ μ') (h2 : MvF μ' μ'') : RdF b μ μ'' := ⟨by rw [h2.1]; exact h.1, fun a k q => by unfold mR; rw [h2.1]; exact h.2.1 a k q, fun a k q => by unfold mL; rw [h2.1]; exact h.2.2.1 a k q, fun a k q1 q2 q3 q4 q5 => (h2.2 a k q3 q4 q5).trans (h.2.2.2 a k q1 q2 q3 q4 q5)⟩
theorem RdF.grw (h : RdF b μ μ') : Grw μ μ' := Grw.of h.1
theorem RdF.sh (h : RdF b μ μ') (hb : b = 33 ∨ b = 35 ∨ b = 38) (hS : ShC μ) : ShC μ' := hS.grw h.grw (fun a k _ q => h.2.1 a k (fun z => q (by unfold dynR; omega)))
theorem RdF.same (h : RdF b μ μ') (hb : b = 33 ∨ b = 35 ∨ b = 38) : Same InL μ μ' := fun a _ ha => ⟨fun k => h.2.2.2 a k (by unfold InL at ha; omega) (by unfold InL at ha; omega) (by unfold InL at ha; omega) (by unfold InL at ha; omega) (by unfold InL at ha; omega), fun k => h.2.2.1 a k (by unfold InL at ha; omega), fun k => h.2.1 a k (by unfold InL at ha; omega)⟩
theorem RdF.ld (h : RdF b μ μ') (hb : b = 33 ∨ b = 35 ∨ b = 38) {L : Nat} {c : Lc} {d : Ld} (hR : LdR μ L c d) : LdR μ' L c d := hR.same h.grw (h.same hb)
end RDFP
section KGO
variable {l : Launch} {G : Gm} {μ : Mm} {L b : Nat} {c : Lc} {d : Ld}
theorem kd_go (hS : ShC μ) (hb : b = 33 ∨ b = 35 ∨ b = 38) (hR : LdR μ L c d) (hW : Wf d) (hK : RdK μ b d L) {x fr ng : Nat} (hx : x < 2 ^ 49) (hfr : clOk d fr) (hng : ng ≤ 999) : AMet l G 4 0 0 mtX9_go [.ref (G.1 + b), .ref (G.1 + L), .long (lN x), .int (nI (kC d fr)), .int (nI ng)] μ (qV (fun μ' => RdG μ' b d L x fr ng ∧ RdF b μ μ')) := by
  refine AMet.of (by decide) (Nat.le_of_ble_eq_true rfl) (fun X C hX hnm hq => ?_)
  have h49 := hW.n49
  have hkf := kC_lt hfr
  have hB := hS.rd hb
  have hok : ∀ h, clOk d (rX d x ng fr h) := fun h => rF_ok hW hfr h
  have hkl : ∀ h, kC d (rX d x ng fr h) < 49 := fun h => Nat.lt_of_lt_of_le (kC_lt (hok h)) h49.2
  have hLn : L < mN μ := hR.o.1
  -- the hours
  have loop : ∀ (n j : Nat) (μ1 : Mm), j + n = 11 → RdF b μ μ1 → (mR μ1 b 4 = some L ∧ mL μ1 b 5 = lN x ∧ mI μ1 b 6 = nI (kC d fr) ∧ mI μ1 b 7 = nI ng) → (∀ h, h ≤ j → mI μ1 (b + 1) h = nI (kC d (rX d x ng fr h))) → mL μ1 b 3 = lN (enP d (rX d x ng fr) j) → AW l G X 0 0 96 [(0, .ref (G.1 + b)), (1, .ref (G.1 + L)), (2, .long (lN x)), (4, .int (nI (kC d fr))), (5, .int (nI ng)), (6, .int (nI 0)), (7, .int (nI (j + 1)))] [] μ1 := by
    intro n
    induction n with
    | zero =>
      intro j μ1 hjn hF hv hc he
      have hj : j = 11 := by omega
      subst hj
      have hB := (hF.sh hb hS).rd hb
      refine C.iload dX9_go_96 6 rfl ?_
      refine C.bipush (nI 12) dX9_go_98 (by decide) ?_
      refine C.icmp_ge 168 dX9_go_100 rfl (fun hc100 => ?_) (fun hc100 => ?_)
      · refine C.aload_n dX9_go_168 0 rfl ?_
        refine C.aload_n dX9_go_169 0 rfl ?_
        refine C.getL fX9_46 dX9_go_170 hB.2.1 ?_
        rw [he]
        refine C.lconst (lN 1) dX9_go_173 (by decide) ?_
        refine C.iload dX9_go_174 3 rfl ?_
        refine C.lshl dX9_go_176 ?_
        rw [show lN 1 <<< ((nI (kC d fr)).toInt64 &&& 63) = lN (2 ^ (kC d fr)) from by rw [wb_shl 1 (by omega), Nat.one_mul]]
        refine C.lor dX9_go_177 ?_
        rw [fb_orL, show enP d (rX d x ng fr) 11 ||| 2 ^ (kC d fr) = trB d (rX d x ng fr) from tr_en hW (ride := rX d x ng fr) hfr]
        refine C.putL fX9_53 (Or.inl rfl) dX9_go_178 hB.2.1 ?_
        refine C.vret hq dX9_go_181 ?_
        have hN : mN μ1 = mN μ := by unfold mN; rw [hF.1]
        refine ⟨⟨hv.1, fun h hh => hc h (by omega), by simp [mL_sL], by simp [mL_sL, he], ⟨⟨L, hv.1, by show L < mN μ1; rw [hN]; exact hLn⟩, fun _ _ => ⟨x, fr, ng, hx, hfr, hng, ⟨hv.1, by simp [mL_sL, hv.2.1], hv.2.2.1, hv.2.2.2⟩, fun h hh => hc h (by omega), by simp [mL_sL], by simp [mL_sL, he]⟩⟩⟩, hF.1, hF.2.1, fun a k q => by rw [mL_sL, if_neg (fun z => q z.1)]; exact hF.2.2.1 a k q, hF.2.2.2⟩
      · exact absurd (n_nle hc100) (by decide)
    | succ n ih =>
      intro j μ1 hjn hF hv hc he
      have hS1 := hF.sh hb hS
      have hB := hS1.rd hb
      have hR1 := hF.ld hb hR
      have e0 := hc j (Nat.le_refl _)
      have en := enP_s hW (hok (j + 1))
      have m149 : ∀ (y : Nat) (μ2 : Mm), MvF μ1 μ2 → y = (if rX d x ng fr (j + 1) = rX d x ng fr j then 0 else 2 ^ (kC d (rX d x ng fr (j + 1)))) → AW l G X 0 0 149 [(0, .ref (G.1 + b)), (1, .ref (G.1 + L)), (2, .long (lN x)), (4, .int (nI (kC d fr))), (5, .int (nI ng)), (6, .int (nI 0)), (7, .int (nI (j + 1))), (8, .int (nI (kC d (rX d x ng fr (j + 1)))))] [.long (lN y), .long (lN (enP d (rX d x ng fr) j)), .ref (G.1 + b)] μ2 := by
        intro y μ2 hM hy
        have hB := (hM.sh hS1).rd hb
        have hF2 := hF.mv hM
        refine C.lor dX9_go_149 ?_
        rw [fb_orL, hy, ← en]
        refine C.putL fX9_46 (Or.inl rfl) dX9_go_150 hB.2.1 ?_
        refine C.aload_n dX9_go_153 0 rfl ?_
        refine C.getA fX9_9 dX9_go_154 hB.2.1 hB.2.2.1 ?_
        refine C.iload dX9_go_157 6 rfl ?_
        refine C.iload dX9_go_159 7 rfl ?_
        refine C.iast hB.2.2.2.2 (n_in (by omega)) dX9_go_161 ?_
        rw [n_cl]
        refine C.iinc (lv' := [(0, _), (1, _), (2, _), (4, _), (5, _), (6, _), (7, _), (8, _)]) _ dX9_go_162 6 rfl rfl (nLt hX rfl) rfl ?_
        refine C.goto 96 dX9_go_165 rfl ?_
        have hg2 := ih (j + 1) (sI (sL μ2 b 3 (lN (enP d (rX d x ng fr) (j + 1)))) (b + 1) (j + 1) (nI (kC d (rX d x ng fr (j + 1))))) (by omega) ⟨hF2.1, hF2.2.1, fun a k q => by rw [mL_sI, mL_sL, if_neg (fun z => q z.1)]; exact hF2.2.2.1 a k q, fun a k q1 q2 q3 q4 q5 => by rw [mI_sI, if_neg (fun z => q2 z.1), mI_sL]; exact hF2.2.2.2 a k q1 q2 q3 q4 q5⟩ ⟨by rw [mR_sI, mR_sL]; unfold mR; rw [hM.1]; exact hv.1, by rw [mL_sI, mL_sL, if_neg (by omega)]; unfold mL; rw [hM.1]; exact hv.2.1, by rw [mI_sI, if_neg (by omega), mI_sL, hM.2 _ _ (by omega) (by omega) (by omega)]; exact hv.2.2.1, by rw [mI_sI, if_neg (by omega), mI_sL, hM.2 _ _ (by omega) (by omega) (by omega)]; exact hv.2.2.2⟩ (fun h hh => by
          rw [mI_sI]
          by_cases q : h = j + 1
          · rw [if_pos ⟨rfl, q⟩, q]
          · rw [if_neg (fun z => q z.2), mI_sL, hM.2 _ _ (by omega) (by omega) (by omega)]; exact hc h (by omega)) (by rw [mL_sI, mL_sL, if_pos ⟨rfl, rfl⟩])
        rw [← nI_1 (j + 1)] at hg2
        exact AW.pick [0, 1, 2, 3, 4, 5, 6] rfl hg2
      refine C.iload dX9_go_96 6 rfl ?_
      refine C.bipush (nI 12) dX9_go_98 (by decide) ?_
      refine C.icmp_ge 168 dX9_go_100 rfl (fun hc100 => ?_) (fun hc100 => ?_)
      · exact absurd (n_le hc100) (by omega)
      · refine C.aload_n dX9_go_103 0 rfl ?_
        refine C.aload_n dX9_go_104 0 rfl ?_
        refine C.getA fX9_9 dX9_go_105 hB.2.1 hB.2.2.1 ?_
        refine C.iload dX9_go_108 6 rfl ?_
        refine C.iconst (nI 1) dX9_go_110 (by decide) ?_
        refine C.isub dX9_go_111 ?_
        rw [pk_sub (by omega), show j + 1 - 1 = j by omega]
        refine C.iald hB.2.2.2.2 (n_in (by omega)) dX9_go_112 ?_
        rw [n_cl, e0]
        refine C.iload dX9_go_113 6 rfl ?_
        refine C.iconst (nI 1) dX9_go_115 (by decide) ?_
        refine C.isub dX9_go_116 ?_
        rw [pk_sub (by omega), show j + 1 - 1 = j by omega]
        refine C.callVI lX9_49 dX9_go_117 (kd_next hS1 hb hR1 hW hv.1 hx hv.2.1 hv.2.2.2 hng (hok j) (by omega)) hB.2.1 rfl rfl (Nat.le_of_ble_eq_true rfl) (Nat.zero_le _) (Nat.zero_le _) (Nat.le_of_ble_eq_true rfl) (fun x117 μ117 h117 => ?_)
        obtain ⟨rfl, hM⟩ := h117
        have hB := (hM.sh hS1).rd hb
        have he2 : mL μ117 b 3 = lN (enP d (rX d x ng fr) j) := by rw [← he]; unfold mL; rw [hM.1]
        have e02 : mI μ117 (b + 1) j = nI (kC d (rX d x ng fr j)) := by rw [hM.2 _ _ (by omega) (by omega) (by omega)]; exact e0
        have hk1 := hkl (j + 1)
        have hk0 := hkl j
        rw [show nxF d (fun z => x.testBit (kC d z)) (wayF d j ng (rX d x ng fr j)) (rX d x ng fr j) = rX d x ng fr (j + 1) from rfl]
        refine C.istore (lv' := [(0, _), (1, _), (2, _), (4, _), (5, _), (6, _), (7, _), (8, _)]) dX9_go_120 (nLt hX rfl) rfl ?_
        refine C.aload_n dX9_go_122 0 rfl ?_
        refine C.dup dX9_go_123 rfl ?_
        refine C.getL fX9_46 dX9_go_124 hB.2.1 ?_
        rw [he2]
        refine C.iload dX9_go_127 7 rfl ?_
        refine C.aload_n dX9_go_129 0 rfl ?_
        refine C.getA fX9_9 dX9_go_130 hB.2.1 hB.2.2.1 ?_
        refine C.iload dX9_go_133 6 rfl ?_
        refine C.iconst (nI 1) dX9_go_135 (by decide) ?_
        refine C.isub dX9_go_136 ?_
        rw [pk_sub (by omega), show j + 1 - 1 = j by omega]
        refine C.iald hB.2.2.2.2 (n_in (by omega)) dX9_go_137 ?_
        rw [n_cl, e02]
        refine C.icmp_eq 148 dX9_go_138 rfl (fun hc138 => ?_) (fun hc138 => ?_)
        · refine C.lconst (lN 0) dX9_go_148 (by decide) ?_
          first | exact m149 0 _ hM (by rw [if_pos (kC_inj (hok _) (hok _) (n_eq hc138 (by omega) (by omega)))]) | exact m149 _ _ hM (by rw [if_neg (fun z => hc138 (by rw [z]))])
        · refine C.lconst (lN 1) dX9_go_141 (by decide) ?_
          refine C.iload dX9_go_142 7 rfl ?_
          refine C.lshl dX9_go_144 ?_
          rw [show lN 1 <<< ((nI (kC d (rX d x ng fr (j + 1)))).toInt64 &&& 63) = lN (2 ^ (kC d (rX d x ng fr (j + 1)))) from by rw [wb_shl 1 (by omega), Nat.one_mul]]
          refine C.goto 149 dX9_go_145 rfl ?_
          first | exact m149 0 _ hM (by rw [if_pos (kC_inj (hok _) (hok _) (n_eq hc138 (by omega) (by omega)))]) | exact m149 _ _ hM (by rw [if_neg (fun z => hc138 (by rw [z]))])
  -- it rides
  have fresh : AW l G X 0 0 49 [(0, .ref (G.1 + b)), (1, .ref (G.1 + L)), (2, .long (lN x)), (4, .int (nI (kC d fr))), (5, .int (nI ng))] [] μ := by
    refine C.iconst (nI 0) dX9_go_49 (by decide) ?_
    refine C.istore (lv' := [(0, _), (1, _), (2, _), (4, _), (5, _), (6, _)]) dX9_go_50 (nLt hX rfl) rfl ?_
    refine C.iload dX9_go_52 5 rfl ?_
    refine C.if_eq 58 dX9_go_54 rfl (fun hc54 => ?_) (fun hc54 => ?_)
    · refine C.aload_n dX9_go_58 0 rfl ?_
      refine C.aload_n dX9_go_59 1 rfl ?_
      refine C.putO fX9_19 (Or.inl rfl) dX9_go_60 hB.2.1 ?_
      refine C.aload_n dX9_go_63 0 rfl ?_
      refine C.lload_n dX9_go_64 2 rfl ?_
      refine C.putL fX9_23 (Or.inl rfl) dX9_go_65 hB.2.1 ?_
      refine C.aload_n dX9_go_68 0 rfl ?_
      refine C.iload dX9_go_69 3 rfl ?_
      refine C.putI fX9_27 (Or.inl rfl) dX9_go_71 hB.2.1 ?_
      refine C.aload_n dX9_go_74 0 rfl ?_
      refine C.iload dX9_go_75 4 rfl ?_
      refine C.putI fX9_31 (Or.inl rfl) dX9_go_77 hB.2.1 ?_
      refine C.aload_n dX9_go_80 0 rfl ?_
      refine C.lconst (lN 0) dX9_go_81 (by decide) ?_
      refine C.putL fX9_46 (Or.inl rfl) dX9_go_82 hB.2.1 ?_
      refine C.aload_n dX9_go_85 0 rfl ?_
      refine C.getA fX9_9 dX9_go_86 hB.2.1 (by rw [mR_sL, mR_sI, mR_sI, mR_sL, mR_sR, if_neg (by omega)]; exact hB.2.2.1) ?_
      refine C.iconst (nI 0) dX9_go_89 (by decide) ?_
      refine C.iload dX9_go_90 3 rfl ?_
      refine C.iast hB.2.2.2.2 (n_in (by decide)) dX9_go_92 ?_
      rw [n_cl]
      refine C.iconst (nI 1) dX9_go_93 (by decide) ?_
      refine C.istore (lv' := [(0, _), (1, _), (2, _), (4, _), (5, _), (6, _), (7, _)]) dX9_go_94 (nLt hX rfl) rfl ?_
      exact loop 11 0 _ (by decide) ⟨rfl, fun a k q => by simp only [mR_sI, mR_sL, mR_sR]; rw [if_neg q], fun a k q => by simp [mL_sI, mL_sL, q]; rfl, fun a k q1 q2 q3 q4 q5 => by simp [mI_sI, mI_sL, q1, q2]; rfl⟩ ⟨by simp [mR_sI, mR_sL, mR_sR], by simp [mL_sI, mL_sL], by simp [mI_sI, mI_sL], by simp [mI_sI, mI_sL]⟩ (fun h hh => by
        have : h = 0 := by omega
        subst this
        simp [mI_sI]
        rfl) (by simp [mL_sI, mL_sL]; exact congrArg lN (bsF_zero _))
    · exact absurd rfl hc54
  obtain ⟨⟨L0, hL0, hL0n⟩, hKv⟩ := hK
  have hCd : CdR μ (c 17) (c 37) (alW 0) false (decide (0 = 2)) (d.2.2.2.2.2 0) := hR.2.2.2.2.2.1 0 (by decide)
  have cached : L0 = L → mL μ b 5 = lN x → mI μ b 6 = nI (kC d fr) → (mI μ b 7 = nI ng ∨ mI μ (c 17) 1 = 0) → AW l G X 0 0 45 [(0, .ref (G.1 + b)), (1, .ref (G.1 + L)), (2, .long (lN x)), (4, .int (nI (kC d fr))), (5, .int (nI ng))] [] μ := by
    intro e1 e2 e3 e4
    subst e1
    obtain ⟨x0, fr0, ng0, k1, k2, k3, ⟨v1, v2, v3, v4⟩, v5, v6, v7⟩ := hKv hL0 (by have := hW.1.1; omega)
    have hx0 : x0 = x := (pk_lEQ (by omega) (by omega)).mp (v2.symm.trans e2)
    have hf0 : fr0 = fr := kC_inj k2 hfr (n_eq (v3.symm.trans e3) (by have := kC_lt k2; omega) (by omega))
    subst hx0
    subst hf0
    have hride : rX d x0 ng0 fr0 = rX d x0 ng fr0 := by
      rcases e4 with q | q
      · rw [n_eq (v4.symm.trans q) (by omega) (by omega)]
      · exact funext (fun h => rF_night hCd q _ ng0 ng fr0 h)
    rw [hride] at v5 v6 v7
    refine C.iconst (nI 1) dX9_go_45 (by decide) ?_
    refine C.goto 50 dX9_go_46 rfl ?_
    refine C.istore (lv' := [(0, _), (1, _), (2, _), (4, _), (5, _), (6, _)]) dX9_go_50 (nLt hX rfl) rfl ?_
    refine C.iload dX9_go_52 5 rfl ?_
    refine C.if_eq 58 dX9_go_54 rfl (fun hc54 => ?_) (fun hc54 => ?_)
    · exact absurd hc54 (by decide)
    · refine C.vret hq dX9_go_57 ?_
      exact ⟨⟨hL0, v5, v6, v7, ⟨L0, hL0, hL0n⟩, hKv⟩, RdF.refl b μ⟩
  refine C.aload_n dX9_go_0 0 rfl ?_
  refine C.getO fX9_19 dX9_go_1 hB.2.1 hL0 ?_
  refine C.aload_n dX9_go_4 1 rfl ?_
  refine C.acmp_ne 49 dX9_go_5 rfl (fun hc5 => ?_) (fun hc5 => ?_)
  · exact fresh
  · refine C.aload_n dX9_go_8 0 rfl ?_
    refine C.getL fX9_23 dX9_go_9 hB.2.1 ?_
    refine C.lload_n dX9_go_12 2 rfl ?_
    refine C.lcmp dX9_go_13 ?_
    refine C.if_ne 49 dX9_go_14 rfl (fun hc14 => ?_) (fun hc14 => ?_)
    · exact fresh
    · refine C.aload_n dX9_go_17 0 rfl ?_
      refine C.getI fX9_27 dX9_go_18 hB.2.1 ?_
      refine C.iload dX9_go_21 3 rfl ?_
      refine C.icmp_ne 49 dX9_go_23 rfl (fun hc23 => ?_) (fun hc23 => ?_)
      · exact fresh
      · refine C.aload_n dX9_go_26 0 rfl ?_
        refine C.getI fX9_31 dX9_go_27 hB.2.1 ?_
        refine C.iload dX9_go_30 4 rfl ?_
        refine C.icmp_eq 45 dX9_go_32 rfl (fun hc32 => ?_) (fun hc32 => ?_)
        · first | exact cached (by omega) (cmp_eq.mp hc14) hc23 (Or.inl hc32) | exact cached (by omega) (cmp_eq.mp hc14) hc23 (Or.inr hc42)
        · refine C.aload_n dX9_go_35 1 rfl ?_
          refine C.getO fX9_34 dX9_go_36 hR.o (hR.r (by decide)) ?_
          refine C.getZ fX9_40 dX9_go_39 hCd.1 ?_
          refine C.if_ne 49 dX9_go_42 rfl (fun hc42 => ?_) (fun hc42 => ?_)
          · exact fresh
          · first | exact cached (by omega) (cmp_eq.mp hc14) hc23 (Or.inl hc32) | exact cached (by omega) (cmp_eq.mp hc14) hc23 (Or.inr hc42)
end KGO
