/-! the reference: chapel -/

def cK (d : Ld) (k : Nat) : Nat := k % d.1.1 + 7 * (k / d.1.1)
def chapM (d : Ld) (S : St) (n : Nat) (more : Option Nat) : Nat := (nightsA d more true n (S, 0, 0, 0)).2.1
def chapS (d : Ld) (S : St) (n : Nat) (a : Nat × Option Nat) (c : Nat) : Nat × Option Nat := if c ∈ d.2.1 ∨ c = d.1.2.2 then a else if chapM d S n (some c) < a.1 then (chapM d S n (some c), some c) else a
def chapL (d : Ld) (S : St) (n : Nat) : Nat → Nat → Nat × Option Nat → Nat × Option Nat
  | 0, _, a => a
  | j + 1, k, a => chapL d S n j (k + 1) (chapS d S n a (cK d k))
def chapR (h : Hs) (n : Nat) : Nat × Option Nat := chapL (ldH h) (stH h) n ((ldH h).1.1 * (ldH h).1.2.1) 0 (chapM (ldH h) (stH h) n none, none)
def chapO (h : Hs) (n j : Nat) : Int32 := match (chapR h n).2 with
  | none => -1
  | some c => if j = 0 then nI (c % 7) else if j = 1 then nI (c / 7) else nI (chapM (ldH h) (stH h) n none - (chapR h n).1)
def chapA (h : Hs) (x y : Int32) : Int32 := match ahdN h x 1 20 with
  | some n => (match inN y 3 with
    | some j => chapO h n j
    | none => -1)
  | none => -1
section CHP
variable {d : Ld} {S : St}
theorem cK_xy {x y : Nat} (hx : x < d.1.1) : cK d (d.1.1 * y + x) = x + 7 * y := by
  unfold cK
  rw [Nat.mul_add_mod, Nat.mod_eq_of_lt hx, Nat.mul_add_div (by omega), Nat.div_eq_of_lt hx, Nat.add_zero]
theorem chapM_le (h6 : d.2.2.2.1.length ≤ 6) (n : Nat) (more : Option Nat) : chapM d S n more ≤ 6 * n := by
  have := nightsA_le h6 more true n (S, 0, 0, 0)
  unfold chapM
  dsimp only at this
  omega
end CHP
section KCH
variable {l : Launch} {G : Gm} {μ : Mm} {h : Hs}
theorem TmA.st {μ' : Mm} (t : TmA μ μ') {k : Nat} (hk : k = 66 ∨ k = 67) (v : Int32) : TmA μ (sI μ' 179 k v) := ⟨t.1, fun a j q q2 q3 q4 => by rw [mI_sI, if_neg (fun z => q ⟨z.1, by omega⟩)]; exact t.2.1 a j q q2 q3 q4, t.2.2⟩
/-- in the midst of thinking: the state is as it was -/
def MidA (h : Hs) (μ μ1 : Mm) (more : Int32) : Prop := TmA μ μ1 ∧ mI μ1 179 66 = more ∧ mI μ1 179 67 = nI 1 ∧ AsR μ1 (mI μ 225) ∧ RfN μ1 (stH h)
theorem kr_think {μ1 : Mm} (hR : RefRel μ h) (hH : HOk h) (hW : Wf (ldH h)) {more : Option Nat} (hM : MidA h μ μ1 (opI more)) (hm2 : ∀ x, more = some x → x < 49) {n : Nat} (hn : (stH h).1.1 + n ≤ 999) : AMet l G 8 0 0 mtX13_nightsGo [.ref (G.1 + 179), .int (nI n)] μ1 (qV (fun μ' => TmA μ μ' ∧ mI μ' 179 66 = opI more ∧ mI μ' 179 67 = nI 1 ∧ AsR μ' (mI μ 225) ∧ (∃ S, RfN μ' S ∧ S.2.2 = (stH h).2.2) ∧ mI μ' 179 68 = nI (chapM (ldH h) (stH h) n more))) := by
  obtain ⟨hT, h66, h67, hA, hN⟩ := hM
  refine (kn_nights (more := more) (th := true) (hT.sh hR.1.1) (hT.lm hR.2.2.2.2.1.1) hW hH.2 h67 h66 hm2 hN hH.1.2.1 hn).monoV (fun μ' q => ?_)
  obtain ⟨q1, q2, q3⟩ := q
  refine ⟨hT.trans (TmA.ofG q3), by rw [q3.2.1 _ _ (by unfold pG pW; omega) (by decide) (by decide)]; exact h66, by rw [q3.2.1 _ _ (by unfold pG pW; omega) (by decide) (by decide)]; exact h67, fun k hk => by rw [q3.2.1 _ _ (by omega) (by decide) (by decide)]; exact hA k hk, ⟨_, q1, nightsA_told (d := ldH h) more n (stH h, 0, 0, 0)⟩, q2.1⟩
theorem kr_anew {μ1 : Mm} (hR : RefRel μ h) (hH : HOk h) {more : Int32} {S : St} {v : Int32} (hT : TmA μ μ1) (h66 : mI μ1 179 66 = more) (h67 : mI μ1 179 67 = nI 1) (hA : AsR μ1 (mI μ 225)) (hN : RfN μ1 S) (ht : S.2.2 = (stH h).2.2) (h68 : mI μ1 179 68 = v) : AMet l G 0 0 0 mtX13_triesAnew [.ref (G.1 + 179)] μ1 (qV (fun μ' => MidA h μ μ' more ∧ mI μ' 179 68 = v)) := by
  have sm := hH.1.1.sm
  refine (kn_anew (hT.sh hR.1.1) hA).monoV (fun μ' q => ?_)
  obtain ⟨q1, q2, q3⟩ := q
  exact ⟨⟨hT.trans (TmA.of q2 (fun a k z1 z2 z3 => q3 a k (by omega))), by rw [q3 _ _ (by omega)]; exact h66, by rw [q3 _ _ (by omega)]; exact h67, fun k hk => by rw [q3 _ _ (by omega)]; exact hA k hk, hR.2.2.2.2.2.1.back hN ht (by rw [hH.1.2.1.2.2.1]; omega) q1 (fun k hk => q3 _ _ (by omega))⟩, by rw [q3 _ _ (by omega)]; exact h68⟩
theorem kr_chapel (hR : RefRel μ h) (hH : HOk h) (x y : Int32) : AMet l G 9 0 0 mtX13_chapel [.ref (G.1 + 179), .int x, .int y] μ (qI (fun z μ' => z = chapA h x y ∧ PR μ h μ')) := by
  refine AMet.of (by decide) (Nat.le_of_ble_eq_true rfl) (fun X C hX hnm hq => ?_)
  have hS := hR.1.1
  have hL := hR.2.2.2.2.1.1
  have hN := hR.2.2.2.2.2.1
  have sm := hH.1.1.sm
  have sw := hH.1.2.1
  unfold chapA at hq
  have m25 : ∀ n j : Nat, ahdN h x 1 20 = some n → j < 3 → inN y 3 = some j → AW l G X 0 0 25 [(0, .ref (G.1 + 179)), (1, .int (nI n)), (2, .int (nI j))] [] μ := by
    intro n j hn hj hin
    rw [hn, hin] at hq
    dsimp only at hq
    obtain ⟨hp, -, n60, hng, -⟩ := ahdN_some (by decide) (by decide) hn
    have hW := hH.1.1.w1 hp
    have hmle := chapM_le (d := ldH h) (S := stH h) sm.2.2.2.2 n
    unfold chapO at hq
    have hR2 : chapL (ldH h) (stH h) n ((ldH h).1.1 * (ldH h).1.2.1) 0 (chapM (ldH h) (stH h) n none, none) = chapR h n := rfl
    generalize hK : chapR h n = K at hq hR2
    have fin : ∀ (a : Nat × Option Nat) (μ2 : Mm) (x6 : Int32), a = K → a.1 ≤ chapM (ldH h) (stH h) n none → (∀ c, a.2 = some c → c < 49) → MidA h μ μ2 (-1) → AW l G X 0 0 164 [(0, .ref (G.1 + 179)), (1, .int (nI n)), (2, .int (nI j)), (3, .int (nI (chapM (ldH h) (stH h) n none))), (4, .int (nI a.1)), (5, .int (opI a.2)), (6, .int x6)] [] μ2 := by
      intro a μ2 x6 ha hal hac hM
      obtain ⟨hT, h66, h67, hA, hN2⟩ := hM
      have hS : ShM μ2 := hT.sh hS
      subst ha
      obtain ⟨lst, bst⟩ := a
      dsimp only at *
      cases bst with
      | none =>
        refine C.aload_n dX13_chapel_164 0 rfl ?_
        refine C.callVV lX13_582 dX13_chapel_165 (kn_back hS hA) hS.o rfl rfl (Nat.le_of_ble_eq_true rfl) (Nat.zero_le _) (Nat.zero_le _) (Nat.le_of_ble_eq_true rfl) (fun μ165 h165 => ?_)
        obtain ⟨q1, q2, q3, q4⟩ := h165
        refine C.iload dX13_chapel_168 5 rfl ?_
        refine C.iconst (-1) dX13_chapel_170 (by decide) ?_
        refine C.icmp_ne 178 dX13_chapel_171 rfl (fun hc171 => ?_) (fun hc171 => ?_)
        · exact absurd rfl hc171
        · refine C.iconst (-1) dX13_chapel_174 (by decide) ?_
          refine C.goto 207 dX13_chapel_175 rfl ?_
          refine C.iret hq dX13_chapel_207 ?_
          refine ⟨rfl, hR.tmA (hT.trans (TmA.of q2 (fun a k z1 z2 z3 => q4 a k (by omega) (by omega)))) (by rw [q4 _ _ (by omega) (by omega)]; exact h66) q3 (hN.back hN2 rfl (by rw [sw.2.2.1]; omega) q1 (fun k hk => q4 _ _ (by omega) (by omega)))⟩
      | some c =>
        have c49 := hac c rfl
        change AW l G X 0 0 164 [(0, .ref (G.1 + 179)), (1, .int (nI n)), (2, .int (nI j)), (3, .int (nI (chapM (ldH h) (stH h) n none))), (4, .int (nI lst)), (5, .int (nI c)), (6, .int x6)] [] μ2
        refine C.aload_n dX13_chapel_164 0 rfl ?_
        refine C.callVV lX13_582 dX13_chapel_165 (kn_back hS hA) hS.o rfl rfl (Nat.le_of_ble_eq_true rfl) (Nat.zero_le _) (Nat.zero_le _) (Nat.le_of_ble_eq_true rfl) (fun μ165 h165 => ?_)
        obtain ⟨q1, q2, q3, q4⟩ := h165
        have hP := hR.tmA (hT.trans (TmA.of q2 (fun a k z1 z2 z3 => q4 a k (by omega) (by omega)))) (by rw [q4 _ _ (by omega) (by omega)]; exact h66) q3 (hN.back hN2 rfl (by rw [sw.2.2.1]; omega) q1 (fun k hk => q4 _ _ (by omega) (by omega)))
        refine C.iload dX13_chapel_168 5 rfl ?_
        refine C.iconst (-1) dX13_chapel_170 (by decide) ?_
        refine C.icmp_ne 178 dX13_chapel_171 rfl (fun hc171 => ?_) (fun hc171 => ?_)
        · refine C.iload_n dX13_chapel_178 2 rfl ?_
          refine C.if_ne 190 dX13_chapel_179 rfl (fun hc179 => ?_) (fun hc179 => ?_)
          · have hj0 : ¬ j = 0 := fun q => hc179 (by rw [q]; rfl)
            refine C.iload_n dX13_chapel_190 2 rfl ?_
            refine C.iconst (nI 1) dX13_chapel_191 (by decide) ?_
            refine C.icmp_ne 203 dX13_chapel_192 rfl (fun hc192 => ?_) (fun hc192 => ?_)
            · have hj1 : ¬ j = 1 := n_ne hc192
              refine C.iload_n dX13_chapel_203 3 rfl ?_
              refine C.iload dX13_chapel_204 4 rfl ?_
              refine C.isub dX13_chapel_206 ?_
              refine C.iret hq dX13_chapel_207 ?_
              first | exact ⟨(if_pos hj0).symm, hP⟩ | exact ⟨((if_neg hj0).trans (if_pos hj1)).symm, hP⟩ | (refine ⟨?_, hP⟩; dsimp only; rw [if_neg hj0, if_neg hj1, pk_sub hal])
            · have hj1 : j = 1 := n_eq (a := j) (b := 1) hc192
              refine C.iload dX13_chapel_195 5 rfl ?_
              refine C.bipush (nI 7) dX13_chapel_197 (by decide) ?_
              refine C.idiv dX13_chapel_199 (by decide) ?_
              rw [pk_div (by omega) (by decide) (by decide)]
              refine C.goto 207 dX13_chapel_200 rfl ?_
              refine C.iret hq dX13_chapel_207 ?_
              first | exact ⟨(if_pos hj0).symm, hP⟩ | exact ⟨((if_neg hj0).trans (if_pos hj1)).symm, hP⟩ | (refine ⟨?_, hP⟩; dsimp only; rw [if_neg hj0, if_neg hj1, pk_sub hal])
          · have hj0 : j = 0 := n_eq (b := 0) hc179
            refine C.iload dX13_chapel_182 5 rfl ?_
            refine C.bipush (nI 7) dX13_chapel_184 (by decide) ?_
            refine C.irem dX13_chapel_186 (by decide) ?_
            rw [pk_rem (by omega) (by decide) (by decide)]
            refine C.goto 207 dX13_chapel_187 rfl ?_
            refine C.iret hq dX13_chapel_207 ?_
            first | exact ⟨(if_pos hj0).symm, hP⟩ | exact ⟨((if_neg hj0).trans (if_pos hj1)).symm, hP⟩ | (refine ⟨?_, hP⟩; dsimp only; rw [if_neg hj0, if_neg hj1, pk_sub hal])
        · exact absurd hc171 (n_m1 (by omega))
    have inner : ∀ (i jj yy xx : Nat) (a : Nat × Option Nat) (μ2 : Mm), (∀ (a2 : Nat × Option Nat) (μ3 : Mm) (x7 : Int32), chapL (ldH h) (stH h) n jj ((ldH h).1.1 * (yy + 1)) a2 = K → a2.1 ≤ chapM (ldH h) (stH h) n none → (∀ c, a2.2 = some c → c < 49) → MidA h μ μ3 (-1) → AW l G X 0 0 158 [(0, .ref (G.1 + 179)), (1, .int (nI n)), (2, .int (nI j)), (3, .int (nI (chapM (ldH h) (stH h) n none))), (4, .int (nI a2.1)), (5, .int (opI a2.2)), (6, .int (nI yy)), (7, .int x7)] [] μ3) → xx + i = (ldH h).1.1 → yy < (ldH h).1.2.1 → chapL (ldH h) (stH h) n (i + jj) ((ldH h).1.1 * yy + xx) a = K → a.1 ≤ chapM (ldH h) (stH h) n none → (∀ c, a.2 = some c → c < 49) → MidA h μ μ2 (-1) → AW l G X 0 0 66 [(0, .ref (G.1 + 179)), (1, .int (nI n)), (2, .int (nI j)), (3, .int (nI (chapM (ldH h) (stH h) n none))), (4, .int (nI a.1)), (5, .int (opI a.2)), (6, .int (nI yy)), (7, .int (nI xx))] [] μ2 := by
      intro i
      induction i with
      | zero =>
        intro jj yy xx a μ2 out hx hy hv hal hac hM
        have hS : ShM μ2 := hM.1.sh hS
        have g3 : mI μ2 215 3 = nI (ldH h).1.1 := (hM.1.lm hL).1.1.1
        refine C.iload dX13_chapel_66 7 rfl ?_
        refine C.aload_n dX13_chapel_68 0 rfl ?_
        refine C.getA fX13_120 dX13_chapel_69 hS.o hS.r45 ?_
        refine C.iconst (nI 3) dX13_chapel_72 (by decide) ?_
        refine C.iald hS.a45 (n_in (by decide)) dX13_chapel_73 ?_
        rw [n_cl, g3]
        refine C.icmp_ge 158 dX13_chapel_74 rfl (fun hc74 => ?_) (fun hc74 => ?_)
        · refine out a μ2 _ ?_ hal hac hM
          rw [Nat.zero_add] at hv
          rw [Nat.mul_succ, ← hv, show xx = (ldH h).1.1 by omega]
        · have := n_nle (a := (ldH h).1.1) (b := xx) hc74; omega
      | succ i ih =>
        intro jj yy xx a μ2 out hx hy hv hal hac hM
        have hS : ShM μ2 := hM.1.sh hS
        have hL2 := hM.1.lm hL
        have g3 : mI μ2 215 3 = nI (ldH h).1.1 := hL2.1.1.1
        have g5 : mI μ2 215 5 = nI (ldH h).1.2.2 := hL2.1.1.2.2
        have hst := clOk_lt hW hW.1.2.2.2.2
        rw [show i + 1 + jj = (i + jj) + 1 by omega] at hv
        unfold chapL at hv
        rw [cK_xy (show xx < (ldH h).1.1 by omega)] at hv
        have hc49 : xx + 7 * yy < 49 := by omega
        have nxt : ∀ (a2 : Nat × Option Nat) (μ3 : Mm) (x8 : Int32), a2 = chapS (ldH h) (stH h) n a (xx + 7 * yy) → a2.1 ≤ chapM (ldH h) (stH h) n none → (∀ c, a2.2 = some c → c < 49) → MidA h μ μ3 (-1) → AW l G X 0 0 152 [(0, .ref (G.1 + 179)), (1, .int (nI n)), (2, .int (nI j)), (3, .int (nI (chapM (ldH h) (stH h) n none))), (4, .int (nI a2.1)), (5, .int (opI a2.2)), (6, .int (nI yy)), (7, .int (nI xx)), (8, .int x8)] [] μ3 := by
          intro a2 μ3 x8 e1 e2 e3 e4
          subst e1
          refine C.iinc (lv' := [(0, _), (1, _), (2, _), (3, _), (4, _), (5, _), (6, _), (7, _), (8, _)]) _ dX13_chapel_152 7 rfl rfl (nLt hX rfl) rfl ?_
          refine C.goto 66 dX13_chapel_155 rfl ?_
          have hgo := ih jj yy (xx + 1) _ μ3 out (by omega) hy hv e2 e3 e4
          rw [← nI_1] at hgo
          exact AW.pick [0, 1, 2, 3, 4, 5, 6, 7] rfl hgo
        unfold chapS at nxt
        generalize hcc : xx + 7 * yy = c at *
        refine C.iload dX13_chapel_66 7 rfl ?_
        refine C.aload_n dX13_chapel_68 0 rfl ?_
        refine C.getA fX13_120 dX13_chapel_69 hS.o hS.r45 ?_
        refine C.iconst (nI 3) dX13_chapel_72 (by decide) ?_
        refine C.iald hS.a45 (n_in (by decide)) dX13_chapel_73 ?_
        rw [n_cl, g3]
        refine C.icmp_ge 158 dX13_chapel_74 rfl (fun hc74 => ?_) (fun hc74 => ?_)
        · have := n_le (a := (ldH h).1.1) (b := xx) hc74; omega
        · refine C.iload dX13_chapel_77 7 rfl ?_
          refine C.bipush (nI 7) dX13_chapel_79 (by decide) ?_
          refine C.iload dX13_chapel_81 6 rfl ?_
          refine C.imul dX13_chapel_83 ?_
          rw [pk_mul]
          refine C.iadd dX13_chapel_84 ?_
          rw [nI_add, hcc]
          refine C.istore (lv' := [(0, _), (1, _), (2, _), (3, _), (4, _), (5, _), (6, _), (7, _), (8, _)]) dX13_chapel_85 (nLt hX rfl) rfl ?_
          refine C.aload_n dX13_chapel_87 0 rfl ?_
          refine C.iload dX13_chapel_88 8 rfl ?_
          refine C.callVI lX13_470 dX13_chapel_90 (kg_isChapel hS hL2 hW (show c < 2 ^ 20 by omega)) hS.o rfl rfl (Nat.le_of_ble_eq_true rfl) (Nat.zero_le _) (Nat.zero_le _) (Nat.le_of_ble_eq_true rfl) (fun x90 μ90 h90 => ?_)
          obtain ⟨rfl, hμ⟩ := h90
          subst hμ
          refine C.if_ne 152 dX13_chapel_93 rfl (fun hc93 => ?_) (fun hc93 => ?_)
          · have hz := on_t hc93
            exact nxt a _ _ (by rw [if_pos (Or.inl hz)]) hal hac hM
          · have hz := on_f hc93
            refine C.iload dX13_chapel_96 8 rfl ?_
            refine C.aload_n dX13_chapel_98 0 rfl ?_
            refine C.getA fX13_120 dX13_chapel_99 hS.o hS.r45 ?_
            refine C.iconst (nI 5) dX13_chapel_102 (by decide) ?_
            refine C.iald hS.a45 (n_in (by decide)) dX13_chapel_103 ?_
            rw [n_cl, g5]
            refine C.icmp_ne 110 dX13_chapel_104 rfl (fun hc104 => ?_) (fun hc104 => ?_)
            · have e1 : ¬ c = (ldH h).1.2.2 := n_ne hc104
              rw [if_neg (fun q => q.elim hz e1)] at nxt
              have hM2 : MidA h μ (sI μ90 179 66 (nI c)) (opI (some c)) := ⟨hM.1.st (Or.inl rfl) _, by rw [mI_sI, if_pos ⟨rfl, rfl⟩]; rfl, by rw [mI_sI, if_neg (by omega)]; exact hM.2.2.1, fun k hk => by rw [mI_sI, if_neg (by omega)]; exact hM.2.2.2.1 k hk, hM.2.2.2.2⟩
              refine C.aload_n dX13_chapel_110 0 rfl ?_
              refine C.iload dX13_chapel_111 8 rfl ?_
              refine C.putI fX13_163 (Or.inl rfl) dX13_chapel_113 hS.o ?_
              refine C.aload_n dX13_chapel_116 0 rfl ?_
              refine C.iload_n dX13_chapel_117 1 rfl ?_
              refine C.callVV lX13_579 dX13_chapel_118 (kr_think hR hH hW hM2 (fun x q => by have := Option.some.inj q; omega) hng) hS.o rfl rfl (Nat.le_of_ble_eq_true rfl) (Nat.zero_le _) (Nat.zero_le _) (Nat.le_of_ble_eq_true rfl) (fun μ118 h118 => ?_)
              obtain ⟨t1, t2, t3, t4, ⟨S3, t5, t6⟩, t7⟩ := h118
              have hS : ShM μ118 := t1.sh hR.1.1
              have hT3 : TmA μ (sI μ118 179 66 (-1)) := t1.st (Or.inl rfl) _
              refine C.aload_n dX13_chapel_121 0 rfl ?_
              refine C.iconst (-1) dX13_chapel_122 (by decide) ?_
              refine C.putI fX13_163 (Or.inl rfl) dX13_chapel_123 hS.o ?_
              refine C.aload_n dX13_chapel_126 0 rfl ?_
              refine C.callVV lX13_529 dX13_chapel_127 (kr_anew hR hH (more := -1) (v := nI (chapM (ldH h) (stH h) n (some c))) hT3 (by rw [mI_sI, if_pos ⟨rfl, rfl⟩]) (by rw [mI_sI, if_neg (by omega)]; exact t3) (fun k hk => by rw [mI_sI, if_neg (by omega)]; exact t4 k hk) t5 t6 (by rw [mI_sI, if_neg (by omega)]; exact t7)) hS.o rfl rfl (Nat.le_of_ble_eq_true rfl) (Nat.zero_le _) (Nat.zero_le _) (Nat.le_of_ble_eq_true rfl) (fun μ127 h127 => ?_)
              obtain ⟨hM4, h68⟩ := h127
              have hS : ShM μ127 := hM4.1.sh hR.1.1
              have hm1 := hmle (some c)
              have hm0 := hmle none
              refine C.aload_n dX13_chapel_130 0 rfl ?_
              refine C.getI fX13_503 dX13_chapel_131 hS.o ?_
              rw [h68]
              refine C.iload dX13_chapel_134 4 rfl ?_
              refine C.icmp_lt 142 dX13_chapel_136 rfl (fun hc136 => ?_) (fun hc136 => ?_)
              · have hlt := n_lt (a := chapM (ldH h) (stH h) n (some c)) (b := a.1) hc136
                refine C.aload_n dX13_chapel_142 0 rfl ?_
                refine C.getI fX13_503 dX13_chapel_143 hS.o ?_
                rw [h68]
                refine C.istore (lv' := [(0, _), (1, _), (2, _), (3, _), (4, _), (5, _), (6, _), (7, _), (8, _)]) dX13_chapel_146 (nLt hX rfl) rfl ?_
                refine C.iload dX13_chapel_148 8 rfl ?_
                refine C.istore (lv' := [(0, _), (1, _), (2, _), (3, _), (4, _), (5, _), (6, _), (7, _), (8, _)]) dX13_chapel_150 (nLt hX rfl) rfl ?_
                exact nxt (chapM (ldH h) (stH h) n (some c), some c) _ _ (by rw [if_pos hlt]) (by dsimp only; omega) (fun z q => by have := Option.some.inj q; omega) hM4
              · have hge := n_nlt (a := chapM (ldH h) (stH h) n (some c)) (b := a.1) hc136
                refine C.goto 152 dX13_chapel_139 rfl ?_
                exact nxt a _ _ (by rw [if_neg (by omega)]) hal hac hM4
            · have e1 : c = (ldH h).1.2.2 := n_eq hc104
              refine C.goto 152 dX13_chapel_107 rfl ?_
              exact nxt a _ _ (by rw [if_pos (Or.inr e1)]) hal hac hM
    have outer : ∀ (r yy : Nat) (a : Nat × Option Nat) (μ2 : Mm), yy + r = (ldH h).1.2.1 → chapL (ldH h) (stH h) n ((ldH h).1.1 * r) ((ldH h).1.1 * yy) a = K → a.1 ≤ chapM (ldH h) (stH h) n none → (∀ c, a.2 = some c → c < 49) → MidA h μ μ2 (-1) → AW l G X 0 0 52 [(0, .ref (G.1 + 179)), (1, .int (nI n)), (2, .int (nI j)), (3, .int (nI (chapM (ldH h) (stH h) n none))), (4, .int (nI a.1)), (5, .int (opI a.2)), (6, .int (nI yy))] [] μ2 := by
      intro r
      induction r with
      | zero =>
        intro yy a μ2 hy hv hal hac hM
        have hS : ShM μ2 := hM.1.sh hS
        have g4 : mI μ2 215 4 = nI (ldH h).1.2.1 := (hM.1.lm hL).1.1.2.1
        refine C.iload dX13_chapel_52 6 rfl ?_
        refine C.aload_n dX13_chapel_54 0 rfl ?_
        refine C.getA fX13_120 dX13_chapel_55 hS.o hS.r45 ?_
        refine C.iconst (nI 4) dX13_chapel_58 (by decide) ?_
        refine C.iald hS.a45 (n_in (by decide)) dX13_chapel_59 ?_
        rw [n_cl, g4]
        refine C.icmp_ge 164 dX13_chapel_60 rfl (fun hc60 => ?_) (fun hc60 => ?_)
        · exact fin a μ2 _ hv hal hac hM
        · have := n_nle (a := (ldH h).1.2.1) (b := yy) hc60; omega
      | succ r ihr =>
        intro yy a μ2 hy hv hal hac hM
        have hS : ShM μ2 := hM.1.sh hS
        have g4 : mI μ2 215 4 = nI (ldH h).1.2.1 := (hM.1.lm hL).1.1.2.1
        refine C.iload dX13_chapel_52 6 rfl ?_
        refine C.aload_n dX13_chapel_54 0 rfl ?_
        refine C.getA fX13_120 dX13_chapel_55 hS.o hS.r45 ?_
        refine C.iconst (nI 4) dX13_chapel_58 (by decide) ?_
        refine C.iald hS.a45 (n_in (by decide)) dX13_chapel_59 ?_
        rw [n_cl, g4]
        refine C.icmp_ge 164 dX13_chapel_60 rfl (fun hc60 => ?_) (fun hc60 => ?_)
        · have := n_le (a := (ldH h).1.2.1) (b := yy) hc60; omega
        · refine C.iconst (nI 0) dX13_chapel_63 (by decide) ?_
          refine C.istore (lv' := [(0, _), (1, _), (2, _), (3, _), (4, _), (5, _), (6, _), (7, _)]) dX13_chapel_64 (nLt hX rfl) rfl ?_
          refine inner (ldH h).1.1 ((ldH h).1.1 * r) yy 0 a μ2 (fun a2 μ3 x7 e1 e2 e3 e4 => ?_) (by omega) (by omega) (by rw [Nat.add_zero, Nat.add_comm, ← Nat.mul_succ]; exact hv) hal hac hM
          refine C.iinc (lv' := [(0, _), (1, _), (2, _), (3, _), (4, _), (5, _), (6, _), (7, _)]) _ dX13_chapel_158 6 rfl rfl (nLt hX rfl) rfl ?_
          refine C.goto 52 dX13_chapel_161 rfl ?_
          have hgo := ihr (yy + 1) a2 μ3 (by omega) e1 e2 e3 e4
          rw [← nI_1] at hgo
          exact AW.pick [0, 1, 2, 3, 4, 5, 6] rfl hgo
    refine C.aload_n dX13_chapel_25 0 rfl ?_
    refine C.callVV lX13_576 dX13_chapel_26 (kn_aside hS) hS.o rfl rfl (Nat.le_of_ble_eq_true rfl) (Nat.zero_le _) (Nat.zero_le _) (Nat.le_of_ble_eq_true rfl) (fun μ26 h26 => ?_)
    obtain ⟨q1, q2, q3, q4⟩ := h26
    have hM1 : MidA h μ μ26 (opI none) := ⟨TmA.of q3 (fun a k z1 z2 z3 => q4 a k z2 (by omega)), by rw [q4 _ _ (by decide) (by omega)]; exact hR.1.2.2.1, q1, q2, nowR.of hN (fun k => q4 _ _ (by decide) (by omega))⟩
    have hS : ShM μ26 := hM1.1.sh hS
    refine C.aload_n dX13_chapel_29 0 rfl ?_
    refine C.iload_n dX13_chapel_30 1 rfl ?_
    refine C.callVV lX13_579 dX13_chapel_31 (kr_think (more := none) hR hH hW hM1 (fun x q => by cases q) hng) hS.o rfl rfl (Nat.le_of_ble_eq_true rfl) (Nat.zero_le _) (Nat.zero_le _) (Nat.le_of_ble_eq_true rfl) (fun μ31 h31 => ?_)
    obtain ⟨t1, t2, t3, t4, ⟨S3, t5, t6⟩, t7⟩ := h31
    have hS : ShM μ31 := t1.sh hR.1.1
    refine C.aload_n dX13_chapel_34 0 rfl ?_
    refine C.getI fX13_503 dX13_chapel_35 hS.o ?_
    rw [t7]
    refine C.istore_n (lv' := [(0, _), (1, _), (2, _), (3, _)]) dX13_chapel_38 (nLt hX rfl) rfl ?_
    refine C.aload_n dX13_chapel_39 0 rfl ?_
    refine C.callVV lX13_529 dX13_chapel_40 (kr_anew hR hH t1 t2 t3 t4 t5 t6 t7) hS.o rfl rfl (Nat.le_of_ble_eq_true rfl) (Nat.zero_le _) (Nat.zero_le _) (Nat.le_of_ble_eq_true rfl) (fun μ40 h40 => ?_)
    refine C.iload_n dX13_chapel_43 3 rfl ?_
    refine C.istore (lv' := [(0, _), (1, _), (2, _), (3, _), (4, _)]) dX13_chapel_44 (nLt hX rfl) rfl ?_
    refine C.iconst (-1) dX13_chapel_46 (by decide) ?_
    refine C.istore (lv' := [(0, _), (1, _), (2, _), (3, _), (4, _), (5, _)]) dX13_chapel_47 (nLt hX rfl) rfl ?_
    refine C.iconst (nI 0) dX13_chapel_49 (by decide) ?_
    refine C.istore (lv' := [(0, _), (1, _), (2, _), (3, _), (4, _), (5, _), (6, _)]) dX13_chapel_50 (nLt hX rfl) rfl ?_
    exact outer (ldH h).1.2.1 0 (chapM (ldH h) (stH h) n none, none) _ (by omega) hR2 (Nat.le_refl _) (fun c q => by cases q) h40.1
  refine C.aload_n dX13_chapel_0 0 rfl ?_
  refine C.iload_n dX13_chapel_1 1 rfl ?_
  refine C.iconst (nI 1) dX13_chapel_2 (by decide) ?_
  refine C.bipush (nI 20) dX13_chapel_3 (by decide) ?_
  refine C.callVI lX13_573 dX13_chapel_5 (kr_isAhead hR hH x (lo := 1) (hi := 20) (by decide) (by decide)) hS.o rfl rfl (Nat.le_of_ble_eq_true rfl) (Nat.zero_le _) (Nat.zero_le _) (Nat.le_of_ble_eq_true rfl) (fun x5 μ5 h5 => ?_)
  obtain ⟨rfl, hμ⟩ := h5
  subst hμ
  refine C.if_eq 23 dX13_chapel_8 rfl (fun hc8 => ?_) (fun hc8 => ?_)
  · have hz := (bI_0 _).mp hc8
    rw [Option.isSome_eq_false_iff, Option.isNone_iff_eq_none] at hz
    rw [hz] at hq
    refine C.iconst (-1) dX13_chapel_23 (by decide) ?_
    refine C.iret hq dX13_chapel_24 ?_
    exact ⟨rfl, PR.self hR⟩
  · obtain ⟨n, hn⟩ := Option.isSome_iff_exists.mp (b_t hc8)
    rw [hn] at hq
    refine C.iload_n dX13_chapel_11 2 rfl ?_
    refine C.i2l dX13_chapel_12 ?_
    refine C.lconst (lN 0) dX13_chapel_13 (by decide) ?_
    refine C.ldc2 kX13_546 dX13_chapel_14 ?_
    refine C.callSI lX13_307 dX13_chapel_17 (km_isIn _ _ _) rfl rfl (Nat.le_of_ble_eq_true rfl) (Nat.zero_le _) (Nat.zero_le _) (Nat.le_of_ble_eq_true rfl) (fun x17 μ17 h17 => ?_)
    obtain ⟨hx17, hμ⟩ := h17
    subst hμ
    simp only [show (2 : Int64) = lN 2 from rfl, isIn_c (n := 2) (by decide)] at hx17
    have hi := isIn_f (n := 3) (by decide) hx17
    refine C.if_ne 25 dX13_chapel_20 rfl (fun hc20 => ?_) (fun hc20 => ?_)
    · obtain ⟨j, hj, e, hin⟩ := hi.2 hc20
      obtain ⟨-, -, -, -, ex⟩ := ahdN_some (by decide) (by decide) hn
      have hgo := m25 n j hn hj hin
      rw [← ex, ← e] at hgo
      exact hgo
    · rw [hi.1 hc20] at hq
      refine C.iconst (-1) dX13_chapel_23 (by decide) ?_
      refine C.iret hq dX13_chapel_24 ?_
      exact ⟨rfl, PR.self hR⟩
end KCH
