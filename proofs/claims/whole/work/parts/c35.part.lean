/-! the class: a part, one level -/
def wAf (tx : Nat → Nat) (e : Nat) (s : Ps) : Ps := (wl tx e (sk tx e s.1), nI (wl tx e (sk tx e s.1)), s.2.2)
def cSums (tx : Nat → Nat) (e : Nat) (P : Pt → Pt) : Pt → Pt := cSum tx e (cProd tx e P)
def nuV (tx : Nat → Nat) (e : Nat) (s : Ps) : Int32 := if (mNum tx e s (nI 0) (nI 9999)).2.2.2.1 = 0 then (mNum tx e s (nI 0) (nI 9999)).1 else nI 0
def cOp (tx : Nat → Nat) (e : Nat) (o : Option (Pt → Pt)) (t : Pt) (f : (Pt → Pt) → Pt) : Pt := match o with
  | none => (t.1, mFail t.2 (nI 4) (nI (sk tx e t.2.1)))
  | some P => f P
def cWord (tx : Nat → Nat) (e m : Nat) (o : Option (Pt → Pt)) (t : Pt) : Option Nat → Pt
  | none => (t.1, mFail t.2 (nI 1) (nI (sk tx e t.2.1)))
  | some w => if w = 31 then cPair tx e (o.map (cSums tx e)) 5 (t.1, wAf tx e t.2) else if w = 32 then cPair tx e (o.map (cSums tx e)) 6 (t.1, wAf tx e t.2) else if isPt m (some w) then (if w = 26 then cOp tx e o t (fun P => cPut (P (t.1, wAf tx e t.2)) 60) else cPut ((t.1.1, t.1.2 || decide (w = 18)), wAf tx e t.2) (40 + (w - 17))) else (t.1, mFail t.2 (nI 1) (nI (sk tx e t.2.1)))
def cPart1 (tx : Nat → Nat) (e m : Nat) (o : Option (Pt → Pt)) (t : Pt) : Pt := if dHasB tx e t.2 then cPut (t.1, (mNum tx e t.2 (nI 0) (nI 9999)).2) (1000 + nn (nuV tx e t.2)) else if (mSign tx e t.2 (nI 40)).1 then cOp tx e o t (fun P => cNd tx e 41 (cSums tx e P (t.1, (sk tx e t.2.1 + 1, t.2.2)))) else cWord tx e m o t (wdO tx e t.2)
section PSP4
variable {tx : Nat → Nat} {e : Nat} {s : Ps} {μ0 μ μ' : Mm} {tp : List Nat} {m : Nat} {t : Pt}
theorem PsOk.num (h : PsOk e s) (hs : dHas tx e s) {lo hi : Int32} : PsOk e (mNum tx e s lo hi).2 := by
  unfold mNum
  obtain ⟨h0, hp, hD, ht⟩ := hs
  have hdp := dl_pos hp hD
  rw [if_pos h0, if_pos ⟨hp, hD, ht⟩]
  split
  · dsimp only
    split
    · exact fun _ => ⟨hdp.2, Or.inr ⟨_, Nat.le_refl _, rfl⟩, (h h0).2.2⟩
    · exact PsOk.bad (by show ¬ nI 2 = 0; decide)
  · exact PsOk.bad (by show ¬ nI 1 = 0; decide)
theorem nuV_lt (hs : dHas tx e s) : ∃ nu, nu < 10000 ∧ nuV tx e s = nI nu := by
  have key : (mNum tx e s (nI 0) (nI 9999)).1 = nI 0 ∨ ∃ nu, nu < 10000 ∧ (mNum tx e s (nI 0) (nI 9999)).1 = nI nu := by
    obtain ⟨h0, hp, hD, ht⟩ := hs
    unfold mNum
    rw [if_pos h0, if_pos ⟨hp, hD, ht⟩]
    by_cases h4 : dl tx e (sk tx e s.1) ≤ sk tx e s.1 + 4
    · rw [if_pos h4]
      refine Or.inr ⟨_, ?_, rfl⟩
      have := dval_lt (tx := tx) (q := sk tx e s.1) (dl tx e (sk tx e s.1) - sk tx e s.1) (fun i hi => by
        have := (dl_dig (tx := tx) (e := e) (q := sk tx e s.1) (sk tx e s.1 + i) (by omega) (by omega)).2
        unfold isD at this
        simp only [Bool.and_eq_true, decide_eq_true_eq] at this
        exact this.2)
      have h10 : 10 ^ (dl tx e (sk tx e s.1) - sk tx e s.1) ≤ 10 ^ 4 := Nat.pow_le_pow_right (by decide) (by omega)
      omega
    · rw [if_neg h4]
      exact Or.inl rfl
  unfold nuV
  split
  · rcases key with k | k
    · exact ⟨0, by decide, k⟩
    · exact k
  · exact ⟨0, by decide, rfl⟩
theorem wdO_has {w : Nat} (h : wdO tx e s = some w) : wHas tx e s ∧ w < 39 := by
  obtain ⟨-, h2, h3⟩ := fsF_lt _ _ _ h
  exact ⟨(here_has h3).1, by omega⟩
theorem PsOk.waf (h : PsOk e s) (hs : wHas tx e s) : PsOk e (wAf tx e s) := h.word hs (wl_pos hs.2.1 hs.2.2.1).2
theorem CP.night (h : CP μ0 tp m t μ) (b : Bool) : CP μ0 tp m ((t.1.1, b), t.2) (sI μ 5 4 (bI b)) := by
  obtain ⟨c1, c2, c3, c4, ⟨p1, p2, p3, p4, p5⟩, c6⟩ := h
  have f : PhF μ (sI μ 5 4 (bI b)) := ⟨rfl, fun a k _ _ q => by rw [mI_sI, if_neg (by omega)]⟩
  refine ⟨f.b c1, f.t c2, c3.ph (fun k => by rw [mI_sI, if_neg (by omega)]), c4, ⟨?_, ?_, ?_, p4, fun j n q => ?_⟩, c6.trans f⟩
  · rw [mI_sI, if_neg (by omega)]; exact p1
  · rw [mI_sI, if_neg (by omega)]; exact p2
  · rw [mI_sI, if_pos ⟨rfl, rfl⟩]
  · rw [mI_sI, if_neg (by omega)]; exact p5 j n q
end PSP4
section KPT
variable {l : Launch} {G : Gm} {μ0 : Mm} {tp : List Nat} {m : Nat}

theorem kf_part {o : Option (Pt → Pt)} {D op : Nat} (hm : m < 1024) (hD : 3 ≤ D) (hop : op ≤ 6) (hN : o = none → op = 6) (hP : ∀ P, o = some P → op < 6 ∧ ∀ μ t, CP μ0 tp m t μ → AMet l G D 0 0 mtX6_part [.ref (G.1 + 5), .int (nI (op + 1))] μ (qV (fun μ' => CP μ0 tp m (P t) μ'))) : ∀ μ t, CP μ0 tp m t μ → AMet l G (D + 4) 0 0 mtX6_part [.ref (G.1 + 5), .int (nI op)] μ (qV (fun μ' => CP μ0 tp m (cPart1 (txL tp) tp.length m o t) μ')) := by
  intro μ t hc
  refine AMet.of (by decide) (Nat.le_of_ble_eq_true rfl) (fun X C hX hnm hq => ?_)
  have hS := hc.1.1
  obtain ⟨cB, cT, cR, cP, cH, cF⟩ := id hc
  have hSum : ∀ S, o.map (cSums (txL tp) tp.length) = some S → op < 6 ∧ ∀ μ t, CP μ0 tp m t μ → AMet l G (D + 2) 0 0 mtX6_sum [.ref (G.1 + 5), .int (nI (op + 1))] μ (qV (fun μ' => CP μ0 tp m (S t) μ')) := by
    intro S hs
    cases o with
    | none => cases hs
    | some P =>
      obtain ⟨h1, h2⟩ := hP P rfl
      injection hs with hs
      subst hs
      exact ⟨h1, kf_sum (by omega) (kf_product hD h2)⟩
  have hNm : o.map (cSums (txL tp) tp.length) = none → op = 6 := fun z => hN (by cases o with | none => rfl | some P => cases z)
  unfold cPart1 at hq
  have m116 : ∀ w, wHas (txL tp) tp.length t.2 → w < 39 → w ≠ 31 → w ≠ 32 → MR G X (qV (fun μ' => CP μ0 tp m (cWord (txL tp) tp.length m o t (some w)) μ')) → AW l G X 0 0 116 [(0, .ref (G.1 + 5)), (1, .int (nI op)), (2, .int (nI w))] [] μ := by
    clear hq
    intro w hs hw h31 h32 hq
    unfold cWord at hq
    dsimp only at hq
    rw [if_neg h31, if_neg h32] at hq
    cases hpt : isPt m (some w) with
    | false =>
      rw [hpt, if_neg (by decide)] at hq
      refine C.aload_n dX6_part_116 0 rfl ?_
      refine C.iload_n dX6_part_117 2 rfl ?_
      refine C.callVI lX6_110 dX6_part_118 (kf_isPart hS cH hm (some w) (fun x q => by cases q; exact hw)) hS.o5 rfl rfl (by omega) (Nat.zero_le _) (Nat.zero_le _) (Nat.le_of_ble_eq_true rfl) (fun x118 μ118 h118 => ?_)
      obtain ⟨rfl, hμ⟩ := h118
      subst hμ
      refine C.if_ne 134 dX6_part_121 rfl (fun hc121 => ?_) (fun hc121 => ?_)
      · rw [hpt] at hc121
        exact absurd rfl hc121
      · refine C.aload_n dX6_part_124 0 rfl ?_
        refine C.getO fX6_9 dX6_part_125 hS.o5 hS.r5_0 ?_
        refine C.callVV lX6_87 dX6_part_128 (kw_failHere hS cR) hS.o3 rfl rfl (by omega) (Nat.zero_le _) (Nat.zero_le _) (Nat.le_of_ble_eq_true rfl) (fun μ128 h128 => ?_)
        refine C.goto 203 dX6_part_131 rfl ?_
        refine C.vret hq dX6_part_203 ?_
        exact hc.fail (by decide) h128
    | true =>
      rw [hpt, if_pos rfl] at hq
      by_cases h26 : w = 26
      · subst h26
        rw [if_pos rfl] at hq
        unfold cOp at hq
        cases o with
        | none =>
          have h6 := hN rfl
          subst h6
          dsimp only at hq
          refine C.aload_n dX6_part_116 0 rfl ?_
          refine C.iload_n dX6_part_117 2 rfl ?_
          refine C.callVI lX6_110 dX6_part_118 (kf_isPart hS cH hm (some 26) (fun x q => by cases q; decide)) hS.o5 rfl rfl (by omega) (Nat.zero_le _) (Nat.zero_le _) (Nat.le_of_ble_eq_true rfl) (fun x118 μ118 h118 => ?_)
          obtain ⟨rfl, hμ⟩ := h118
          subst hμ
          refine C.if_ne 134 dX6_part_121 rfl (fun hc121 => ?_) (fun hc121 => ?_)
          · refine C.iload_n dX6_part_134 2 rfl ?_
            refine C.bipush (nI 26) dX6_part_135 (by decide) ?_
            refine C.icmp_ne 165 dX6_part_137 rfl (fun hc137 => ?_) (fun hc137 => ?_)
            · exact absurd rfl hc137
            · refine C.aload_n dX6_part_140 0 rfl ?_
              refine C.iload_n dX6_part_141 1 rfl ?_
              refine C.callVI lX6_74 dX6_part_142 (kf_opens hS cR hs.1 (kw_advW hS cT cR hs (s' := wAf (txL tp) tp.length t.2) rfl rfl rfl) (op := 6) (by decide)) hS.o5 rfl rfl (by omega) (Nat.zero_le _) (Nat.zero_le _) (Nat.le_of_ble_eq_true rfl) (fun x142 μ142 h142 => ?_)
              obtain ⟨rfl, hz⟩ := h142
              rw [if_neg (by decide)] at hz
              have hS := ((PhF.q hz.2).b cB).1
              refine C.if_eq 203 dX6_part_145 rfl (fun hc145 => ?_) (fun hc145 => ?_)
              · refine C.vret hq dX6_part_203 ?_
                exact hc.fail (by decide) hz
              · exact absurd rfl hc145
          · rw [hpt] at hc121
            exact absurd hc121 (by decide)
        | some P =>
          obtain ⟨hlt, hP⟩ := hP P rfl
          dsimp only at hq
          refine C.aload_n dX6_part_116 0 rfl ?_
          refine C.iload_n dX6_part_117 2 rfl ?_
          refine C.callVI lX6_110 dX6_part_118 (kf_isPart hS cH hm (some 26) (fun x q => by cases q; decide)) hS.o5 rfl rfl (by omega) (Nat.zero_le _) (Nat.zero_le _) (Nat.le_of_ble_eq_true rfl) (fun x118 μ118 h118 => ?_)
          obtain ⟨rfl, hμ⟩ := h118
          subst hμ
          refine C.if_ne 134 dX6_part_121 rfl (fun hc121 => ?_) (fun hc121 => ?_)
          · refine C.iload_n dX6_part_134 2 rfl ?_
            refine C.bipush (nI 26) dX6_part_135 (by decide) ?_
            refine C.icmp_ne 165 dX6_part_137 rfl (fun hc137 => ?_) (fun hc137 => ?_)
            · exact absurd rfl hc137
            · refine C.aload_n dX6_part_140 0 rfl ?_
              refine C.iload_n dX6_part_141 1 rfl ?_
              refine C.callVI lX6_74 dX6_part_142 (kf_opens hS cR hs.1 (kw_advW hS cT cR hs (s' := wAf (txL tp) tp.length t.2) rfl rfl rfl) (op := op) hop) hS.o5 rfl rfl (by omega) (Nat.zero_le _) (Nat.zero_le _) (Nat.le_of_ble_eq_true rfl) (fun x142 μ142 h142 => ?_)
              obtain ⟨rfl, hz⟩ := h142
              rw [if_pos hlt] at hz
              rw [decide_eq_true hlt]
              have hc2 := hc.adv (s' := wAf (txL tp) tp.length t.2) (cP.waf hs) hz.1 hz.2
              have hS := hc2.1.1
              refine C.if_eq 203 dX6_part_145 rfl (fun hc145 => ?_) (fun hc145 => ?_)
              · exact absurd hc145 (by decide)
              · refine C.aload_n dX6_part_148 0 rfl ?_
                refine C.iload_n dX6_part_149 1 rfl ?_
                refine C.iconst (nI 1) dX6_part_150 (by decide) ?_
                refine C.iadd dX6_part_151 ?_
                rw [nI_add]
                refine C.callVV lX6_93 dX6_part_152 (hP _ _ hc2) hS.o5 rfl rfl (by omega) (Nat.zero_le _) (Nat.zero_le _) (Nat.le_of_ble_eq_true rfl) (fun μ152 h152 => ?_)
                have hS := h152.1.1
                refine C.aload_n dX6_part_155 0 rfl ?_
                refine C.bipush (nI 14) dX6_part_156 (by decide) ?_
                refine C.iconst (nI 0) dX6_part_158 (by decide) ?_
                refine C.callVV lX6_67 dX6_part_159 (kf_put (n := 60) hS h152.2.2.2.2.1 h152.2.2.1 (st := 14) (nu := 0) (by decide) (by decide) (by decide)) hS.o5 rfl rfl (by omega) (Nat.zero_le _) (Nat.zero_le _) (Nat.le_of_ble_eq_true rfl) (fun μ159 h159 => ?_)
                refine C.goto 203 dX6_part_162 rfl ?_
                refine C.vret hq dX6_part_203 ?_
                exact h152.put h159
          · rw [hpt] at hc121
            exact absurd hc121 (by decide)
      · rw [if_neg h26] at hq
        have h17 : 17 ≤ w ∧ w ≤ 26 := by
          unfold isPt at hpt
          rw [Bool.and_eq_true, Bool.and_eq_true, decide_eq_true_iff, decide_eq_true_iff] at hpt
          exact hpt.1
        have hsub : nI w - nI 17 = nI (w - 17) := by
          rw [show nI w = nI (w - 17) + nI 17 by rw [nI_add]; congr 1; omega]
          simp
        have m187 : ∀ b, b = (t.1.2 || decide (w = 18)) → AW l G X 0 0 187 [(0, .ref (G.1 + 5)), (1, .int (nI op)), (2, .int (nI w))] [] (sI μ 5 4 (bI b)) := by
          intro b hb
          subst hb
          have hcn := hc.night (t.1.2 || decide (w = 18))
          have hS := hcn.1.1
          refine C.aload_n dX6_part_187 0 rfl ?_
          refine C.getO fX6_9 dX6_part_188 hS.o5 hS.r5_0 ?_
          refine C.callVV lX6_64 dX6_part_191 (kw_advW hS hcn.2.1 hcn.2.2.1 hs (s' := wAf (txL tp) tp.length t.2) rfl rfl rfl) hS.o3 rfl rfl (by omega) (Nat.zero_le _) (Nat.zero_le _) (Nat.le_of_ble_eq_true rfl) (fun μ191 h191 => ?_)
          have hc2 := hcn.adv (s' := wAf (txL tp) tp.length t.2) (cP.waf hs) h191.1 h191.2
          have hS := hc2.1.1
          refine C.aload_n dX6_part_194 0 rfl ?_
          refine C.iconst (nI 1) dX6_part_195 (by decide) ?_
          refine C.iload_n dX6_part_196 2 rfl ?_
          refine C.bipush (nI 17) dX6_part_197 (by decide) ?_
          refine C.isub dX6_part_199 ?_
          rw [hsub]
          refine C.callVV lX6_67 dX6_part_200 (kf_put (n := 40 + (w - 17)) hS hc2.2.2.2.2.1 hc2.2.2.1 (st := 1) (nu := w - 17) (by decide) (by omega) (by unfold cvN; rw [if_neg (by omega), if_neg (by omega), if_pos (by omega)]; omega)) hS.o5 rfl rfl (by omega) (Nat.zero_le _) (Nat.zero_le _) (Nat.le_of_ble_eq_true rfl) (fun μ200 h200 => ?_)
          refine C.vret hq dX6_part_203 ?_
          exact hc2.put h200
        have hn4 := cH.2.2.1
        refine C.aload_n dX6_part_116 0 rfl ?_
        refine C.iload_n dX6_part_117 2 rfl ?_
        refine C.callVI lX6_110 dX6_part_118 (kf_isPart hS cH hm (some w) (fun x q => by cases q; exact hw)) hS.o5 rfl rfl (by omega) (Nat.zero_le _) (Nat.zero_le _) (Nat.le_of_ble_eq_true rfl) (fun x118 μ118 h118 => ?_)
        obtain ⟨rfl, hμ⟩ := h118
        subst hμ
        refine C.if_ne 134 dX6_part_121 rfl (fun hc121 => ?_) (fun hc121 => ?_)
        · refine C.iload_n dX6_part_134 2 rfl ?_
          refine C.bipush (nI 26) dX6_part_135 (by decide) ?_
          refine C.icmp_ne 165 dX6_part_137 rfl (fun hc137 => ?_) (fun hc137 => ?_)
          · refine C.aload_n dX6_part_165 0 rfl ?_
            refine C.aload_n dX6_part_166 0 rfl ?_
            refine C.getZ fX6_40 dX6_part_167 hS.o5 ?_
            rw [hn4]
            refine C.if_ne 179 dX6_part_170 rfl (fun hc170 => ?_) (fun hc170 => ?_)
            · refine C.iconst (nI 1) dX6_part_179 (by decide) ?_
              refine C.goto 184 dX6_part_180 rfl ?_
              refine C.putZ fX6_40 (Or.inl rfl) dX6_part_184 hS.o5 (by decide) ?_
              first | exact m187 true (by rw [b_t hc170]; rfl) | exact m187 true (by rw [decide_eq_true (n_eq hc176 (by omega) (by omega)), Bool.or_true]) | exact m187 false (by rw [(bI_0 _).mp hc170, decide_eq_false (n_ne hc176)]; rfl)
            · refine C.iload_n dX6_part_173 2 rfl ?_
              refine C.bipush (nI 18) dX6_part_174 (by decide) ?_
              refine C.icmp_ne 183 dX6_part_176 rfl (fun hc176 => ?_) (fun hc176 => ?_)
              · refine C.iconst (nI 0) dX6_part_183 (by decide) ?_
                refine C.putZ fX6_40 (Or.inl rfl) dX6_part_184 hS.o5 (by decide) ?_
                first | exact m187 true (by rw [b_t hc170]; rfl) | exact m187 true (by rw [decide_eq_true (n_eq hc176 (by omega) (by omega)), Bool.or_true]) | exact m187 false (by rw [(bI_0 _).mp hc170, decide_eq_false (n_ne hc176)]; rfl)
              · refine C.iconst (nI 1) dX6_part_179 (by decide) ?_
                refine C.goto 184 dX6_part_180 rfl ?_
                refine C.putZ fX6_40 (Or.inl rfl) dX6_part_184 hS.o5 (by decide) ?_
                first | exact m187 true (by rw [b_t hc170]; rfl) | exact m187 true (by rw [decide_eq_true (n_eq hc176 (by omega) (by omega)), Bool.or_true]) | exact m187 false (by rw [(bI_0 _).mp hc170, decide_eq_false (n_ne hc176)]; rfl)
          · exact absurd (n_eq hc137 (by omega) (by omega)) h26
        · rw [hpt] at hc121
          exact absurd hc121 (by decide)
  have m37 : dHasB (txL tp) tp.length t.2 = false → AW l G X 0 0 37 [(0, .ref (G.1 + 5)), (1, .int (nI op)), (2, .int (opI (wdO (txL tp) tp.length t.2)))] [] μ := by
    intro hd
    rw [hd, if_neg (by decide)] at hq
    cases hA : (mSign (txL tp) tp.length t.2 (nI 40)).1 with
    | true =>
      obtain ⟨hs, he⟩ := sign_has cT.by (c := 40) (by decide) (by decide) (by decide) hA
      rw [hA, if_pos rfl] at hq
      unfold cOp at hq
      cases o with
      | none =>
        have h6 := hN rfl
        subst h6
        dsimp only at hq
        refine C.aload_n dX6_part_37 0 rfl ?_
        refine C.getO fX6_9 dX6_part_38 hS.o5 hS.r5_0 ?_
        refine C.bipush (nI 40) dX6_part_41 (by decide) ?_
        refine C.callVI lX6_77 dX6_part_43 (kw_isSign hS cT cR (c := 40) (by decide) (by decide) (by decide)) hS.o3 rfl rfl (by omega) (Nat.zero_le _) (Nat.zero_le _) (Nat.le_of_ble_eq_true rfl) (fun x43 μ43 h43 => ?_)
        obtain ⟨rfl, hμ⟩ := h43
        subst hμ
        refine C.if_eq 76 dX6_part_46 rfl (fun hc46 => ?_) (fun hc46 => ?_)
        · rw [hA] at hc46
          exact absurd hc46 (by decide)
        · refine C.aload_n dX6_part_49 0 rfl ?_
          refine C.iload_n dX6_part_50 1 rfl ?_
          refine C.callVI lX6_74 dX6_part_51 (kf_opens hS cR hs.1 (kw_advS hS cT cR cP hs (s' := (sk (txL tp) tp.length t.2.1 + 1, t.2.2)) rfl rfl rfl) (op := 6) (by decide)) hS.o5 rfl rfl (by omega) (Nat.zero_le _) (Nat.zero_le _) (Nat.le_of_ble_eq_true rfl) (fun x51 μ51 h51 => ?_)
          obtain ⟨rfl, hz⟩ := h51
          rw [if_neg (by decide)] at hz
          have hS := ((PhF.q hz.2).b cB).1
          refine C.if_eq 203 dX6_part_54 rfl (fun hc54 => ?_) (fun hc54 => ?_)
          · refine C.vret hq dX6_part_203 ?_
            exact hc.fail (by decide) hz
          · exact absurd rfl hc54
      | some P =>
        obtain ⟨hlt, hSu⟩ := hSum (cSums (txL tp) tp.length P) rfl
        dsimp only at hq
        refine C.aload_n dX6_part_37 0 rfl ?_
        refine C.getO fX6_9 dX6_part_38 hS.o5 hS.r5_0 ?_
        refine C.bipush (nI 40) dX6_part_41 (by decide) ?_
        refine C.callVI lX6_77 dX6_part_43 (kw_isSign hS cT cR (c := 40) (by decide) (by decide) (by decide)) hS.o3 rfl rfl (by omega) (Nat.zero_le _) (Nat.zero_le _) (Nat.le_of_ble_eq_true rfl) (fun x43 μ43 h43 => ?_)
        obtain ⟨rfl, hμ⟩ := h43
        subst hμ
        refine C.if_eq 76 dX6_part_46 rfl (fun hc46 => ?_) (fun hc46 => ?_)
        · rw [hA] at hc46
          exact absurd hc46 (by decide)
        · refine C.aload_n dX6_part_49 0 rfl ?_
          refine C.iload_n dX6_part_50 1 rfl ?_
          refine C.callVI lX6_74 dX6_part_51 (kf_opens hS cR hs.1 (kw_advS hS cT cR cP hs (s' := (sk (txL tp) tp.length t.2.1 + 1, t.2.2)) rfl rfl rfl) (op := op) hop) hS.o5 rfl rfl (by omega) (Nat.zero_le _) (Nat.zero_le _) (Nat.le_of_ble_eq_true rfl) (fun x51 μ51 h51 => ?_)
          obtain ⟨rfl, hz⟩ := h51
          rw [if_pos hlt] at hz
          rw [decide_eq_true hlt]
          have hc2 := hc.adv (s' := (sk (txL tp) tp.length t.2.1 + 1, t.2.2)) (cP.sign hs) hz.1 hz.2
          have hS := hc2.1.1
          refine C.if_eq 203 dX6_part_54 rfl (fun hc54 => ?_) (fun hc54 => ?_)
          · exact absurd hc54 (by decide)
          · refine C.aload_n dX6_part_57 0 rfl ?_
            refine C.iload_n dX6_part_58 1 rfl ?_
            refine C.iconst (nI 1) dX6_part_59 (by decide) ?_
            refine C.iadd dX6_part_60 ?_
            rw [nI_add]
            refine C.callVV lX6_23 dX6_part_61 (hSu _ _ hc2) hS.o5 rfl rfl (by omega) (Nat.zero_le _) (Nat.zero_le _) (Nat.le_of_ble_eq_true rfl) (fun μ61 h61 => ?_)
            have hS := h61.1.1
            refine C.aload_n dX6_part_64 0 rfl ?_
            refine C.getO fX6_9 dX6_part_65 hS.o5 hS.r5_0 ?_
            refine C.bipush (nI 41) dX6_part_68 (by decide) ?_
            refine C.callVV lX6_80 dX6_part_70 (kw_needSign hS h61.2.1 h61.2.2.1 h61.2.2.2.1 (c := 41) (by decide) (by decide) (by decide)) hS.o3 rfl rfl (by omega) (Nat.zero_le _) (Nat.zero_le _) (Nat.le_of_ble_eq_true rfl) (fun μ70 h70 => ?_)
            refine C.goto 203 dX6_part_73 rfl ?_
            refine C.vret hq dX6_part_203 ?_
            exact h61.ask (c := 41) (by decide) (by decide) (by decide) h70
    | false =>
      rw [hA, if_neg (by decide)] at hq
      cases hw : wdO (txL tp) tp.length t.2 with
      | none =>
        rw [hw] at hq
        unfold cWord at hq
        dsimp only at hq
        refine C.aload_n dX6_part_37 0 rfl ?_
        refine C.getO fX6_9 dX6_part_38 hS.o5 hS.r5_0 ?_
        refine C.bipush (nI 40) dX6_part_41 (by decide) ?_
        refine C.callVI lX6_77 dX6_part_43 (kw_isSign hS cT cR (c := 40) (by decide) (by decide) (by decide)) hS.o3 rfl rfl (by omega) (Nat.zero_le _) (Nat.zero_le _) (Nat.le_of_ble_eq_true rfl) (fun x43 μ43 h43 => ?_)
        obtain ⟨rfl, hμ⟩ := h43
        subst hμ
        refine C.if_eq 76 dX6_part_46 rfl (fun hc46 => ?_) (fun hc46 => ?_)
        · refine C.iload_n dX6_part_76 2 rfl ?_
          refine C.bipush (nI 31) dX6_part_77 (by decide) ?_
          refine C.icmp_eq 88 dX6_part_79 rfl (fun hc79 => ?_) (fun hc79 => ?_)
          · exact absurd hc79 (by decide)
          · refine C.iload_n dX6_part_82 2 rfl ?_
            refine C.bipush (nI 32) dX6_part_83 (by decide) ?_
            refine C.icmp_ne 116 dX6_part_85 rfl (fun hc85 => ?_) (fun hc85 => ?_)
            · refine C.aload_n dX6_part_116 0 rfl ?_
              refine C.iload_n dX6_part_117 2 rfl ?_
              refine C.callVI lX6_110 dX6_part_118 (kf_isPart hS cH hm none (fun x q => by cases q)) hS.o5 rfl rfl (by omega) (Nat.zero_le _) (Nat.zero_le _) (Nat.le_of_ble_eq_true rfl) (fun x118 μ118 h118 => ?_)
              obtain ⟨rfl, hμ⟩ := h118
              subst hμ
              refine C.if_ne 134 dX6_part_121 rfl (fun hc121 => ?_) (fun hc121 => ?_)
              · exact absurd rfl hc121
              · refine C.aload_n dX6_part_124 0 rfl ?_
                refine C.getO fX6_9 dX6_part_125 hS.o5 hS.r5_0 ?_
                refine C.callVV lX6_87 dX6_part_128 (kw_failHere hS cR) hS.o3 rfl rfl (by omega) (Nat.zero_le _) (Nat.zero_le _) (Nat.le_of_ble_eq_true rfl) (fun μ128 h128 => ?_)
                refine C.goto 203 dX6_part_131 rfl ?_
                refine C.vret hq dX6_part_203 ?_
                exact hc.fail (by decide) h128
            · exact absurd hc85 (by decide)
        · rw [hA] at hc46
          exact absurd rfl hc46
      | some w =>
        obtain ⟨hs, hw39⟩ := wdO_has hw
        rw [hw] at hq
        by_cases h31 : w = 31
        · subst h31
          unfold cWord at hq
          dsimp only at hq
          rw [if_pos rfl] at hq
          refine C.aload_n dX6_part_37 0 rfl ?_
          refine C.getO fX6_9 dX6_part_38 hS.o5 hS.r5_0 ?_
          refine C.bipush (nI 40) dX6_part_41 (by decide) ?_
          refine C.callVI lX6_77 dX6_part_43 (kw_isSign hS cT cR (c := 40) (by decide) (by decide) (by decide)) hS.o3 rfl rfl (by omega) (Nat.zero_le _) (Nat.zero_le _) (Nat.le_of_ble_eq_true rfl) (fun x43 μ43 h43 => ?_)
          obtain ⟨rfl, hμ⟩ := h43
          subst hμ
          refine C.if_eq 76 dX6_part_46 rfl (fun hc46 => ?_) (fun hc46 => ?_)
          · refine C.iload_n dX6_part_76 2 rfl ?_
            refine C.bipush (nI 31) dX6_part_77 (by decide) ?_
            refine C.icmp_eq 88 dX6_part_79 rfl (fun hc79 => ?_) (fun hc79 => ?_)
            · refine C.aload_n dX6_part_88 0 rfl ?_
              refine C.getO fX6_9 dX6_part_89 hS.o5 hS.r5_0 ?_
              refine C.callVV lX6_64 dX6_part_92 (kw_advW hS cT cR hs (s' := wAf (txL tp) tp.length t.2) rfl rfl rfl) hS.o3 rfl rfl (by omega) (Nat.zero_le _) (Nat.zero_le _) (Nat.le_of_ble_eq_true rfl) (fun μ92 h92 => ?_)
              have hc2 := hc.adv (s' := wAf (txL tp) tp.length t.2) (cP.waf hs) h92.1 h92.2
              have hS := hc2.1.1
              refine C.aload_n dX6_part_95 0 rfl ?_
              refine C.iload_n dX6_part_96 2 rfl ?_
              refine C.bipush (nI 31) dX6_part_97 (by decide) ?_
              refine C.icmp_ne 107 dX6_part_99 rfl (fun hc99 => ?_) (fun hc99 => ?_)
              · exact absurd rfl hc99
              · refine C.bipush (nI 6) dX6_part_102 (by decide) ?_
                refine C.goto 109 dX6_part_104 rfl ?_
                refine C.iload_n dX6_part_109 1 rfl ?_
                refine C.callVV lX6_107 dX6_part_110 (kf_pair (D := D + 2) (st := 6) (n := 5) (by omega) hop hNm hSum (by decide) (by decide) _ _ hc2) hS.o5 rfl rfl (by omega) (Nat.zero_le _) (Nat.zero_le _) (Nat.le_of_ble_eq_true rfl) (fun μ110 h110 => ?_)
                refine C.goto 203 dX6_part_113 rfl ?_
                refine C.vret hq dX6_part_203 ?_
                exact h110
            · exact absurd rfl hc79
          · rw [hA] at hc46
            exact absurd rfl hc46
        · by_cases h32 : w = 32
          · subst h32
            unfold cWord at hq
            dsimp only at hq
            rw [if_neg (by decide), if_pos rfl] at hq
            refine C.aload_n dX6_part_37 0 rfl ?_
            refine C.getO fX6_9 dX6_part_38 hS.o5 hS.r5_0 ?_
            refine C.bipush (nI 40) dX6_part_41 (by decide) ?_
            refine C.callVI lX6_77 dX6_part_43 (kw_isSign hS cT cR (c := 40) (by decide) (by decide) (by decide)) hS.o3 rfl rfl (by omega) (Nat.zero_le _) (Nat.zero_le _) (Nat.le_of_ble_eq_true rfl) (fun x43 μ43 h43 => ?_)
            obtain ⟨rfl, hμ⟩ := h43
            subst hμ
            refine C.if_eq 76 dX6_part_46 rfl (fun hc46 => ?_) (fun hc46 => ?_)
            · refine C.iload_n dX6_part_76 2 rfl ?_
              refine C.bipush (nI 31) dX6_part_77 (by decide) ?_
              refine C.icmp_eq 88 dX6_part_79 rfl (fun hc79 => ?_) (fun hc79 => ?_)
              · exact absurd hc79 (by decide)
              · refine C.iload_n dX6_part_82 2 rfl ?_
                refine C.bipush (nI 32) dX6_part_83 (by decide) ?_
                refine C.icmp_ne 116 dX6_part_85 rfl (fun hc85 => ?_) (fun hc85 => ?_)
                · exact absurd rfl hc85
                · refine C.aload_n dX6_part_88 0 rfl ?_
                  refine C.getO fX6_9 dX6_part_89 hS.o5 hS.r5_0 ?_
                  refine C.callVV lX6_64 dX6_part_92 (kw_advW hS cT cR hs (s' := wAf (txL tp) tp.length t.2) rfl rfl rfl) hS.o3 rfl rfl (by omega) (Nat.zero_le _) (Nat.zero_le _) (Nat.le_of_ble_eq_true rfl) (fun μ92 h92 => ?_)
                  have hc2 := hc.adv (s' := wAf (txL tp) tp.length t.2) (cP.waf hs) h92.1 h92.2
                  have hS := hc2.1.1
                  refine C.aload_n dX6_part_95 0 rfl ?_
                  refine C.iload_n dX6_part_96 2 rfl ?_
                  refine C.bipush (nI 31) dX6_part_97 (by decide) ?_
                  refine C.icmp_ne 107 dX6_part_99 rfl (fun hc99 => ?_) (fun hc99 => ?_)
                  · refine C.bipush (nI 7) dX6_part_107 (by decide) ?_
                    refine C.iload_n dX6_part_109 1 rfl ?_
                    refine C.callVV lX6_107 dX6_part_110 (kf_pair (D := D + 2) (st := 7) (n := 6) (by omega) hop hNm hSum (by decide) (by decide) _ _ hc2) hS.o5 rfl rfl (by omega) (Nat.zero_le _) (Nat.zero_le _) (Nat.le_of_ble_eq_true rfl) (fun μ110 h110 => ?_)
                    refine C.goto 203 dX6_part_113 rfl ?_
                    refine C.vret hq dX6_part_203 ?_
                    exact h110
                  · exact absurd hc99 (by decide)
            · rw [hA] at hc46
              exact absurd rfl hc46
          · skip
            refine C.aload_n dX6_part_37 0 rfl ?_
            refine C.getO fX6_9 dX6_part_38 hS.o5 hS.r5_0 ?_
            refine C.bipush (nI 40) dX6_part_41 (by decide) ?_
            refine C.callVI lX6_77 dX6_part_43 (kw_isSign hS cT cR (c := 40) (by decide) (by decide) (by decide)) hS.o3 rfl rfl (by omega) (Nat.zero_le _) (Nat.zero_le _) (Nat.le_of_ble_eq_true rfl) (fun x43 μ43 h43 => ?_)
            obtain ⟨rfl, hμ⟩ := h43
            subst hμ
            refine C.if_eq 76 dX6_part_46 rfl (fun hc46 => ?_) (fun hc46 => ?_)
            · refine C.iload_n dX6_part_76 2 rfl ?_
              refine C.bipush (nI 31) dX6_part_77 (by decide) ?_
              refine C.icmp_eq 88 dX6_part_79 rfl (fun hc79 => ?_) (fun hc79 => ?_)
              · exact absurd (n_eq hc79 (by omega) (by omega)) h31
              · refine C.iload_n dX6_part_82 2 rfl ?_
                refine C.bipush (nI 32) dX6_part_83 (by decide) ?_
                refine C.icmp_ne 116 dX6_part_85 rfl (fun hc85 => ?_) (fun hc85 => ?_)
                · exact m116 w hs hw39 h31 h32 hq
                · exact absurd (n_eq hc85 (by omega) (by omega)) h32
            · rw [hA] at hc46
              exact absurd rfl hc46
  cases hd : dHasB (txL tp) tp.length t.2 with
  | true =>
    have hs := dHasB_iff.mp hd
    rw [hd, if_pos rfl] at hq
    obtain ⟨nu, n1, n2⟩ := nuV_lt hs
    rw [n2, nn_nI (by omega)] at hq
    refine C.aload_n dX6_part_0 0 rfl ?_
    refine C.getO fX6_9 dX6_part_1 hS.o5 hS.r5_0 ?_
    refine C.callVI lX6_96 dX6_part_4 (kw_word cB cT cR) hS.o3 rfl rfl (by omega) (Nat.zero_le _) (Nat.zero_le _) (Nat.le_of_ble_eq_true rfl) (fun x4 μ4 h4 => ?_)
    obtain ⟨rfl, hμ⟩ := h4
    subst hμ
    refine C.istore_n (lv' := [(0, _), (1, _), (2, _)]) dX6_part_7 (nLt hX rfl) rfl ?_
    refine C.aload_n dX6_part_8 0 rfl ?_
    refine C.getO fX6_9 dX6_part_9 hS.o5 hS.r5_0 ?_
    refine C.callVI lX6_99 dX6_part_12 (kw_isNumber hS cR) hS.o3 rfl rfl (by omega) (Nat.zero_le _) (Nat.zero_le _) (Nat.le_of_ble_eq_true rfl) (fun x12 μ12 h12 => ?_)
    obtain ⟨rfl, hμ⟩ := h12
    subst hμ
    refine C.if_eq 37 dX6_part_15 rfl (fun hc15 => ?_) (fun hc15 => ?_)
    · rw [hd] at hc15
      exact absurd hc15 (by decide)
    · refine C.aload_n dX6_part_18 0 rfl ?_
      refine C.iconst (nI 0) dX6_part_19 (by decide) ?_
      refine C.aload_n dX6_part_20 0 rfl ?_
      refine C.getO fX6_9 dX6_part_21 hS.o5 hS.r5_0 ?_
      refine C.iconst (nI 0) dX6_part_24 (by decide) ?_
      refine C.sipush (nI 9999) dX6_part_25 (by decide) ?_
      refine C.callVI lX6_103 dX6_part_28 (kw_takeNumber hS cT cR (nI 0) (nI 9999)) hS.o3 rfl rfl (by omega) (Nat.zero_le _) (Nat.zero_le _) (Nat.le_of_ble_eq_true rfl) (fun x28 μ28 h28 => ?_)
      obtain ⟨hz, hr, hf⟩ := h28
      have hz2 := hz.trans n2
      subst hz2
      have hc2 := hc.adv (cP.num hs (lo := nI 0) (hi := nI 9999)) hr hf
      have hS := hc2.1.1
      refine C.callVV lX6_67 dX6_part_31 (kf_put (n := 1000 + nu) hS hc2.2.2.2.2.1 hc2.2.2.1 (st := 0) (nu := nu) (by decide) (by omega) (by unfold cvN; rw [if_pos (by omega)]; omega)) hS.o5 rfl rfl (by omega) (Nat.zero_le _) (Nat.zero_le _) (Nat.le_of_ble_eq_true rfl) (fun μ31 h31 => ?_)
      refine C.goto 203 dX6_part_34 rfl ?_
      refine C.vret hq dX6_part_203 ?_
      exact hc2.put h31
  | false =>
    refine C.aload_n dX6_part_0 0 rfl ?_
    refine C.getO fX6_9 dX6_part_1 hS.o5 hS.r5_0 ?_
    refine C.callVI lX6_96 dX6_part_4 (kw_word cB cT cR) hS.o3 rfl rfl (by omega) (Nat.zero_le _) (Nat.zero_le _) (Nat.le_of_ble_eq_true rfl) (fun x4 μ4 h4 => ?_)
    obtain ⟨rfl, hμ⟩ := h4
    subst hμ
    refine C.istore_n (lv' := [(0, _), (1, _), (2, _)]) dX6_part_7 (nLt hX rfl) rfl ?_
    refine C.aload_n dX6_part_8 0 rfl ?_
    refine C.getO fX6_9 dX6_part_9 hS.o5 hS.r5_0 ?_
    refine C.callVI lX6_99 dX6_part_12 (kw_isNumber hS cR) hS.o3 rfl rfl (by omega) (Nat.zero_le _) (Nat.zero_le _) (Nat.le_of_ble_eq_true rfl) (fun x12 μ12 h12 => ?_)
    obtain ⟨rfl, hμ⟩ := h12
    subst hμ
    refine C.if_eq 37 dX6_part_15 rfl (fun hc15 => ?_) (fun hc15 => ?_)
    · exact m37 hd
    · rw [hd] at hc15
      exact absurd rfl hc15
end KPT
