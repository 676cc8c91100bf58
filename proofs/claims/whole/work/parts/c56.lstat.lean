/-! the class: chapels, bells, walkers read -/
def StQ (μ : Mm) (tp : List Nat) (L : Nat) (f g : Nat → Nat) (r : Ld × Ps) (μ' : Mm) : Prop := RD μ' (txL tp) tp.length r.2 ∧ PsOk tp.length r.2 ∧ LnF L μ μ' ∧ isO μ' L 2 ∧ mI μ' L 16 = mI μ L 16 ∧ (r.2.2.2.1 = 0 → LgR μ' L f g r.1)
section LCH
variable {μ : Mm} {L : Nat} {f g : Nat → Nat} {d : Ld}
theorem chB_app {c : Nat} (h7 : d.1.1 ≤ 7) (hc : clOk d c) : chB (d.1, d.2.1 ++ [c], d.2.2) = chB d ||| 2 ^ kC d c := by
  have hk := kC_lt hc
  unfold chB
  rw [bsF_one (n := nC d) hk, bsF_or]
  refine bsF_cong (fun k hk2 => ?_)
  have hk2' : k < nC d := hk2
  show decide (cK d k ∈ d.2.1 ++ [c]) = (decide (cK d k ∈ d.2.1) || decide (k = kC d c))
  have e : cK d k = c ↔ k = kC d c := ⟨fun z => by rw [← z, kC_cK h7 hk2'], fun z => by rw [z, cK_kC hc]⟩
  rw [← Bool.decide_or, decide_eq_decide, List.mem_append, List.mem_singleton, e]
theorem LgR.chap (h : LgR μ L f g d) {c : Nat} (h7 : d.1.1 ≤ 7) (hc : clOk d c) (hn : c ∉ d.2.1) : LgR (sL μ L 10 (lN (chB d ||| 2 ^ kC d c))) L f g (d.1, d.2.1 ++ [c], d.2.2) := by
  have hk := h.dk (μ' := sL μ L 10 (lN (chB d ||| 2 ^ kC d c))) rfl (fun a k ha => rfl)
  obtain ⟨⟨s1, i1, ⟨b1, b2⟩, e1, w1, k1, n1⟩, h2, h3⟩ := h
  refine ⟨⟨s1.of rfl rfl, i1, ⟨?_, fun k hk => ?_⟩, e1, fun i y hy => ?_, hk, ?_⟩, h2, h3⟩
  · rw [mL_sL, if_pos ⟨rfl, rfl⟩, chB_app h7 hc]
  · show mL (sL μ L 10 _) (L + 15) k = _
    rw [mL_sL, if_neg (by omega)]
    exact b2 k hk
  · obtain ⟨z0, z1, z2, z3, z4⟩ := w1 i y hy
    refine ⟨z0, z1, z2, z3, fun t ht => ?_⟩
    rw [wkC_eq (d := d) (d' := (d.1, d.2.1 ++ [c], d.2.2)) rfl]
    exact z4 t ht
  · show (d.2.1 ++ [c]).Nodup
    rw [List.nodup_append]
    exact ⟨n1, by simp, fun x hx y hy e => by rw [List.mem_singleton] at hy; exact hn (by rw [← hy, ← e]; exact hx)⟩
theorem chB_lt (h49 : nC d ≤ 49) : chB d < 2 ^ 62 := Nat.lt_of_lt_of_le (bsF_lt _ _) (Nat.pow_le_pow_right (by decide) (by omega))
theorem chB_tb {c : Nat} (hc : clOk d c) : (chB d).testBit (kC d c) = decide (c ∈ d.2.1) := by
  have hk := kC_lt hc
  unfold chB
  rw [bsF_tb, cK_kC hc]
  simp [hk]
theorem any_mem (l : List Nat) (c : Nat) : l.any (fun x => decide (x = c)) = decide (c ∈ l) := by
  rw [Bool.eq_iff_iff, List.any_eq_true, decide_eq_true_eq]
  constructor
  · rintro ⟨x, h1, h2⟩
    rw [decide_eq_true_eq] at h2
    rw [← h2]
    exact h1
  · intro h
    exact ⟨c, h, decide_eq_true rfl⟩
theorem kC_xy {x y : Nat} (hx : x < 7) : kC d (x + 7 * y) = y * d.1.1 + x := by
  unfold kC
  rw [show (x + 7 * y) / 7 = y by omega, show (x + 7 * y) % 7 = x by omega]
end LCH
section NPS
variable {tx : Nat → Nat} {e : Nat} {s : Ps}
theorem mNum_np {lo hi : Int32} (h : (mNum tx e s lo hi).2.2.2.1 = 0) : (mNum tx e s lo hi).2.2.2.2.2.1 = nI (sk tx e s.1) := by
  have hz := mNum_bad s lo hi h
  by_cases hd : dHas tx e s
  · unfold mNum at h ⊢
    rw [if_pos hz, if_pos hd.2] at h ⊢
    by_cases h2 : dl tx e (sk tx e s.1) ≤ sk tx e s.1 + 4
    · rw [if_pos h2] at h ⊢
      dsimp only at h ⊢
      split <;> rfl
    · rw [if_neg h2] at h
      exact absurd h (by show ¬ nI 1 = 0; decide)
  · rw [mNum_nd hz hd] at h
    exact absurd h (mFail_0 _ _ _ (by decide))
theorem mBadN_b (hb : ¬ s.2.2.1 = 0) (b : Bool) : mBadN s b = s := by
  unfold mBadN mFail
  rw [if_neg hb]
  split <;> rfl
theorem mFull_n {a b : Nat} {c : Int32} (h : a < b) (hb : b < 1000) : mFull s (nI a) (nI b) c = s := by
  unfold mFull
  rw [if_neg (fun z => by have := n_eq z.2 (by omega) (by omega); omega)]
end NPS
def tooM (d : Ld) : Option Nat → Bool
  | none => false
  | some w => if w = 3 then decide (10 ≤ d.2.1.length) else if w = 4 then decide (5 ≤ d.2.2.1.length) else if w = 7 then decide (6 ≤ d.2.2.2.1.length) else if w = 11 then (d.2.2.2.2.2 0).isSome else if w = 12 then (d.2.2.2.2.2 1).isSome else if w = 13 then (d.2.2.2.2.2 2).isSome else false
section KLS2
variable {l : Launch} {G : Gm} {μ : Mm} {tp : List Nat} {s : Ps} {L : Nat} {c : Lc} {f g : Nat → Nat} {d : Ld}
theorem CdR.there {a s : Nat} {al : Nat → Bool} {q t : Bool} {o : Option (List Int32)} (h : CdR μ a s al q t o) : ∃ n, isA μ s 0 n ∧ n ≤ 1600 ∧ decide (0 < n) = o.isSome := by
  obtain ⟨h1, h2, ns, h3, h4, h5, h6, h7⟩ := h
  refine ⟨ns.length, h3, h4, ?_⟩
  cases o with
  | none =>
    have : ns = [] := h7
    rw [this]
    rfl
  | some cs =>
    have : ns ≠ [] := h7.2.1
    rw [decide_eq_true (List.length_pos_iff.mpr this)]
    rfl
theorem opI_ti {o : Option Nat} (ho : ∀ w, o = some w → w < 39) {n : Nat} (hn : n < 39) (h : ¬ o = some n) : ¬ (opI o).toInt = (n : Int) := by
  intro z
  cases o with
  | none =>
    have : (opI none).toInt = -1 := by decide
    rw [this] at z
    omega
  | some w =>
    have hw := ho w rfl
    have : (opI (some w)).toInt = (w : Int) := nI_tI (by omega)
    rw [this] at z
    exact h (by rw [show w = n by omega])
theorem opI_tr {o : Option Nat} (ho : ∀ w, o = some w → w < 39) : (opI o).toInt = -1 ∨ ∃ w, o = some w ∧ (opI o).toInt = (w : Int) := by
  cases o with
  | none => exact Or.inl (by decide)
  | some w => exact Or.inr ⟨w, rfl, nI_tI (by have := ho w rfl; omega)⟩
theorem kr_tooMany (hR : LdR μ L c d) (hW : Wf d) {o : Option Nat} (ho : ∀ w, o = some w → w < 39) : AMet l G 1 0 0 mtX3_isOneTooMany [.ref (G.1 + L), .int (opI o)] μ (qI (fun z μ' => z = bI (tooM d o) ∧ μ' = μ)) := by
  refine AMet.of (by decide) (Nat.le_of_ble_eq_true rfl) (fun X C hX hnm hq => ?_)
  have h7 := hW.1.2.1
  have h49 := hW.n49.2
  have hch : mL μ L 10 = lN (chB d) := hR.2.2.1.1
  have hct : fb_ct (fun i => (chB d).testBit i) 64 = d.2.1.length := chB_ct h7 h49 hR.2.2.2.2.2.2 hW.2.1.2
  have h63 : chB d < 2 ^ 63 := Nat.lt_of_lt_of_le (chB_lt h49) (by decide)
  have hl10 := hW.2.1.1
  have hb5 := hW.2.2.1.1
  have hw6 := hW.2.2.2.1.1
  have i11 := hR.2.1.2.1.1
  have i12 := hR.2.1.2.1.2
  have dflt : tooM d o = false → AW l G X 0 0 131 [(0, .ref (G.1 + L)), (1, .int (opI o))] [] μ := by
    intro hf
    refine C.iconst (nI 0) dX3_isOneTooMany_131 (by decide) ?_
    refine C.zret hq dX3_isOneTooMany_132 (by decide) ?_
    exact ⟨by rw [hf]; rfl, rfl⟩
  have cc : ∀ w, w < 3 → ∃ n, isA μ (c (37 + w)) 0 n ∧ n ≤ 1600 ∧ decide (0 < n) = (d.2.2.2.2.2 w).isSome ∧ isO μ (c (17 + w)) 0 ∧ mR μ (c (17 + w)) 0 = some (c (37 + w)) ∧ mR μ L (17 + w) = some (c (17 + w)) := by
    intro w hw
    have := hR.2.2.2.2.2.1 w hw
    obtain ⟨n, q1, q2, q3⟩ := this.there
    exact ⟨n, q1, q2, q3, this.1, this.2.1, hR.r (by omega)⟩
  obtain ⟨n0, c00, c01, c02, c03, c04, c05⟩ := cc 0 (by omega)
  obtain ⟨n1, c10, c11, c12, c13, c14, c15⟩ := cc 1 (by omega)
  obtain ⟨n2, c20, c21, c22, c23, c24, c25⟩ := cc 2 (by omega)
  dsimp only [Nat.add_zero, Nat.reduceAdd] at c00 c03 c04 c05 c10 c13 c14 c15 c20 c23 c24 c25
  refine C.iload_n dX3_isOneTooMany_0 1 rfl ?_
  by_cases h3 : o = some 3
  · subst h3
    refine C.tableIn 60 dX3_isOneTooMany_1 (by decide) (by decide) rfl rfl ?_
    refine C.aload_n dX3_isOneTooMany_60 0 rfl ?_
    refine C.getL fX3_111 dX3_isOneTooMany_61 hR.o ?_
    rw [hch]
    refine C.callSI lX3_115 dX3_isOneTooMany_64 (kj_bitsL h63) rfl rfl (Nat.le_of_ble_eq_true rfl) (Nat.zero_le _) (Nat.zero_le _) (Nat.le_of_ble_eq_true rfl) (fun x64 μ64 h64 => ?_)
    obtain ⟨rfl, hμ⟩ := h64
    subst hμ
    rw [hct]
    refine C.bipush (nI 10) dX3_isOneTooMany_67 (by decide) ?_
    refine C.icmp_lt 76 dX3_isOneTooMany_69 rfl (fun hc69 => ?_) (fun hc69 => ?_)
    · refine C.iconst (nI 0) dX3_isOneTooMany_76 (by decide) ?_
      refine C.zret hq dX3_isOneTooMany_77 (by decide) ?_
      refine ⟨?_, rfl⟩
      show _ = bI (decide (10 ≤ d.2.1.length))
      first | (rw [decide_eq_true (n_nlt hc69)]; rfl) | (rw [decide_eq_false (Nat.not_le.mpr (n_lt hc69))]; rfl)
    · refine C.iconst (nI 1) dX3_isOneTooMany_72 (by decide) ?_
      refine C.goto 77 dX3_isOneTooMany_73 rfl ?_
      refine C.zret hq dX3_isOneTooMany_77 (by decide) ?_
      refine ⟨?_, rfl⟩
      show _ = bI (decide (10 ≤ d.2.1.length))
      first | (rw [decide_eq_true (n_nlt hc69)]; rfl) | (rw [decide_eq_false (Nat.not_le.mpr (n_lt hc69))]; rfl)
  by_cases h4 : o = some 4
  · subst h4
    refine C.tableIn 78 dX3_isOneTooMany_1 (by decide) (by decide) rfl rfl ?_
    refine C.aload_n dX3_isOneTooMany_78 0 rfl ?_
    refine C.getI fX3_121 dX3_isOneTooMany_79 hR.o ?_
    rw [i11]
    refine C.iconst (nI 5) dX3_isOneTooMany_82 (by decide) ?_
    refine C.icmp_lt 90 dX3_isOneTooMany_83 rfl (fun hc83 => ?_) (fun hc83 => ?_)
    · refine C.iconst (nI 0) dX3_isOneTooMany_90 (by decide) ?_
      refine C.zret hq dX3_isOneTooMany_91 (by decide) ?_
      refine ⟨?_, rfl⟩
      show _ = bI (decide (5 ≤ d.2.2.1.length))
      first | (rw [decide_eq_true (n_nlt hc83)]; rfl) | (rw [decide_eq_false (Nat.not_le.mpr (n_lt hc83))]; rfl)
    · refine C.iconst (nI 1) dX3_isOneTooMany_86 (by decide) ?_
      refine C.goto 91 dX3_isOneTooMany_87 rfl ?_
      refine C.zret hq dX3_isOneTooMany_91 (by decide) ?_
      refine ⟨?_, rfl⟩
      show _ = bI (decide (5 ≤ d.2.2.1.length))
      first | (rw [decide_eq_true (n_nlt hc83)]; rfl) | (rw [decide_eq_false (Nat.not_le.mpr (n_lt hc83))]; rfl)
  by_cases h7w : o = some 7
  · subst h7w
    refine C.tableIn 92 dX3_isOneTooMany_1 (by decide) (by decide) rfl rfl ?_
    refine C.aload_n dX3_isOneTooMany_92 0 rfl ?_
    refine C.getI fX3_124 dX3_isOneTooMany_93 hR.o ?_
    rw [i12]
    refine C.bipush (nI 6) dX3_isOneTooMany_96 (by decide) ?_
    refine C.icmp_lt 105 dX3_isOneTooMany_98 rfl (fun hc98 => ?_) (fun hc98 => ?_)
    · refine C.iconst (nI 0) dX3_isOneTooMany_105 (by decide) ?_
      refine C.zret hq dX3_isOneTooMany_106 (by decide) ?_
      refine ⟨?_, rfl⟩
      show _ = bI (decide (6 ≤ d.2.2.2.1.length))
      first | (rw [decide_eq_true (n_nlt hc98)]; rfl) | (rw [decide_eq_false (Nat.not_le.mpr (n_lt hc98))]; rfl)
    · refine C.iconst (nI 1) dX3_isOneTooMany_101 (by decide) ?_
      refine C.goto 106 dX3_isOneTooMany_102 rfl ?_
      refine C.zret hq dX3_isOneTooMany_106 (by decide) ?_
      refine ⟨?_, rfl⟩
      show _ = bI (decide (6 ≤ d.2.2.2.1.length))
      first | (rw [decide_eq_true (n_nlt hc98)]; rfl) | (rw [decide_eq_false (Nat.not_le.mpr (n_lt hc98))]; rfl)
  by_cases h11 : o = some 11
  · subst h11
    refine C.tableIn 107 dX3_isOneTooMany_1 (by decide) (by decide) rfl rfl ?_
    refine C.aload_n dX3_isOneTooMany_107 0 rfl ?_
    refine C.getO fX3_89 dX3_isOneTooMany_108 hR.o c05 ?_
    refine C.callVI lX3_127 dX3_isOneTooMany_111 (kc_isThere c03 c04 c00 (by omega)) c03 rfl rfl (Nat.le_of_ble_eq_true rfl) (Nat.zero_le _) (Nat.zero_le _) (Nat.le_of_ble_eq_true rfl) (fun x111 μ111 h111 => ?_)
    obtain ⟨rfl, hμ⟩ := h111
    subst hμ
    refine C.zret hq dX3_isOneTooMany_114 (bI_z _) ?_
    exact ⟨by rw [c02]; rfl, rfl⟩
  by_cases h12 : o = some 12
  · subst h12
    refine C.tableIn 115 dX3_isOneTooMany_1 (by decide) (by decide) rfl rfl ?_
    refine C.aload_n dX3_isOneTooMany_115 0 rfl ?_
    refine C.getO fX3_93 dX3_isOneTooMany_116 hR.o c15 ?_
    refine C.callVI lX3_127 dX3_isOneTooMany_119 (kc_isThere c13 c14 c10 (by omega)) c13 rfl rfl (Nat.le_of_ble_eq_true rfl) (Nat.zero_le _) (Nat.zero_le _) (Nat.le_of_ble_eq_true rfl) (fun x119 μ119 h119 => ?_)
    obtain ⟨rfl, hμ⟩ := h119
    subst hμ
    refine C.zret hq dX3_isOneTooMany_122 (bI_z _) ?_
    exact ⟨by rw [c12]; rfl, rfl⟩
  by_cases h13 : o = some 13
  · subst h13
    refine C.tableIn 123 dX3_isOneTooMany_1 (by decide) (by decide) rfl rfl ?_
    refine C.aload_n dX3_isOneTooMany_123 0 rfl ?_
    refine C.getO fX3_99 dX3_isOneTooMany_124 hR.o c25 ?_
    refine C.callVI lX3_127 dX3_isOneTooMany_127 (kc_isThere c23 c24 c20 (by omega)) c23 rfl rfl (Nat.le_of_ble_eq_true rfl) (Nat.zero_le _) (Nat.zero_le _) (Nat.le_of_ble_eq_true rfl) (fun x127 μ127 h127 => ?_)
    obtain ⟨rfl, hμ⟩ := h127
    subst hμ
    refine C.zret hq dX3_isOneTooMany_130 (bI_z _) ?_
    exact ⟨by rw [c22]; rfl, rfl⟩
  have hf : tooM d o = false := by
    cases o with
    | none => rfl
    | some w =>
      simp only [Option.some.injEq] at h3 h4 h7w h11 h12 h13
      show (if w = 3 then _ else if w = 4 then _ else if w = 7 then _ else if w = 11 then _ else if w = 12 then _ else if w = 13 then _ else false) = false
      rw [if_neg h3, if_neg h4, if_neg h7w, if_neg h11, if_neg h12, if_neg h13]
  have q3 := opI_ti ho (by omega) h3
  have q4 := opI_ti ho (by omega) h4
  have q7 := opI_ti ho (by omega) h7w
  have q11 := opI_ti ho (by omega) h11
  have q12 := opI_ti ho (by omega) h12
  have q13 := opI_ti ho (by omega) h13
  rcases opI_tr ho with hm | ⟨w, hw, hm⟩
  · exact C.tableOut 131 dX3_isOneTooMany_1 (Or.inl (by rw [hm]; decide)) rfl (dflt hf)
  · by_cases hin : 3 ≤ w ∧ w ≤ 13
    · rcases (show w = 5 ∨ w = 6 ∨ w = 8 ∨ w = 9 ∨ w = 10 by omega) with z | z | z | z | z <;> subst z <;> subst hw <;> exact C.tableIn 131 dX3_isOneTooMany_1 (by decide) (by decide) rfl rfl (dflt hf)
    · exact C.tableOut 131 dX3_isOneTooMany_1 (by rw [hm]; omega) rfl (dflt hf)
end KLS2
