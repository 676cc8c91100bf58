/-! the class: a Code worked out -/

section STP
variable {pv : Nat → Int64} {of : Int64 → Int64} {s : List Int64}
theorem e_num {n : Nat} (h : 1000 ≤ n) (h2 : n ≤ 10999) : st64 pv of (nI n) s = lN (n - 1000) :: s := by
  unfold st64
  rw [if_pos (nI_le h (by omega)), pk_sub h, nI_l (by omega)]
theorem e_of : st64 pv of (nI 60) s = clip64 (of (s.headD 0)) :: s.tail := rfl
theorem e_part {n : Nat} (h : 40 ≤ n) (h2 : n ≤ 48) : st64 pv of (nI n) s = pv (n - 40) :: s := by
  unfold st64
  rw [if_neg (nI_ge (by omega) (by omega)), if_neg (nI_ge (by omega) (by omega)), if_pos (nI_le h (by omega)), pk_sub h]
  show pv (nI (n - 40)).toNatClampNeg :: s = _
  rw [n_cl (by omega)]
theorem e_all : st64 pv of (nI 13) s = lN 1 :: s := rfl
theorem e_not : st64 pv of (nI 12) s = (lN 1 - s.headD 0) :: s.tail := rfl
theorem e_jn {n : Nat} (h : 1 ≤ n) (h2 : n ≤ 11) : st64 pv of (nI n) s = jn64 (nI n) (s.tail.headD 0) (s.headD 0) :: s.tail.tail := by
  unfold st64
  rw [if_neg (nI_ge (by omega) (by omega)), if_neg (nI_ge (by omega) (by omega)), if_neg (nI_ge (by omega) (by omega)), if_neg (fun q => absurd (n_eq q) (by omega)), if_neg (fun q => absurd (n_eq q) (by omega))]
end STP
theorem jn_01b {n : Nat} {a b : Int64} (h1 : 10 ≤ n) (h2 : n ≤ 11) (ha : a = lN 0 ∨ a = lN 1) (hb : b = lN 0 ∨ b = lN 1) : jn64 (nI n) a b = lN 0 ∨ jn64 (nI n) a b = lN 1 := by
  rcases (show n = 10 ∨ n = 11 by omega) with rfl | rfl <;> rcases ha with rfl | rfl <;> rcases hb with rfl | rfl <;> decide +kernel
def MwF (μ μ' : Mm) : Prop := μ'.2 = μ.2 ∧ ∀ a k, a ≠ 14 → ¬ (a = 11 ∧ k = 3) → mI μ' a k = mI μ a k
theorem ix12 {x : Int32} (h1 : ¬ x < 0) (h2 : ¬ nI 12 ≤ x) : ∃ j : Nat, j < 12 ∧ x = nI j := by
  rcases pk_ix x (n := 12) (by decide) with q | q | q
  · exact absurd q h1
  · exact absurd q h2
  · exact q
section KWK
variable {l : Launch} {G : Gm} {μ : Mm}
theorem kc_work (hS : ShC μ) {c0 s0 : Nat} (hO : isO μ c0 0) (hR : mR μ c0 0 = some s0) {ns : List Nat} (hA : isA μ s0 0 ns.length) (h14 : s0 ≠ 14) (h11 : s0 ≠ 11) (hc : ∀ j n, ns[j]? = some n → mI μ s0 j = nI (cvN n)) (hl : ns.length < 100000) {al : Nat → Bool} {q t : Bool} (hT : TyR al q ns [] [t]) {pv : Nat → Int64} (hpv : ∀ k, k < 9 → al k = true → mI μ 12 k = (pv k).toInt32 ∧ bnd (pv k)) {of : Int64 → Int64} (hof : q = true → (∀ j, j < 12 → mI μ 13 j = (of (lN j)).toInt32) ∧ (∀ v, ¬ (lN 0 ≤ v ∧ v ≤ lN 11) → of v = lN 0) ∧ (∀ v, bnd (of v))) : AMet l G 2 0 0 mtX4_work [.ref (G.1 + 11), .ref (G.1 + c0)] μ (qI (fun x μ' => ∃ v, ev64 pv of (ns.map nI) [] = [v] ∧ bnd v ∧ (t = true → v = lN 0 ∨ v = lN 1) ∧ x = v.toInt32 ∧ MwF μ μ')) := by
  refine AMet.of (by decide) (Nat.le_of_ble_eq_true rfl) (fun X C hX hnm hq => ?_)
  have hS0 := hS
  have loop : ∀ (rs : List Nat) (i : Nat) (st : List Int64) (ts : List Bool) (μ1 : Mm), ns.drop i = rs → PSt μ μ1 st → StT st ts → ts.length ≤ 64 → TyR al q rs ts [t] → ev64 pv of (rs.map nI) st = ev64 pv of (ns.map nI) [] → i ≤ ns.length → AW l G X 0 0 7 [(0, .ref (G.1 + 11)), (1, .ref (G.1 + c0)), (2, .int (nI i))] [] μ1 := by
    intro rs
    induction rs with
    | nil =>
      intro i st ts μ1 hd hP hs h64 hty hev hi
      have hin : ns.length ≤ i := List.drop_eq_nil_iff.mp hd
      have hts : ts = [t] := hty
      subst hts
      obtain ⟨v, s', rfl, hb, htv, hs'⟩ := hs.cons
      have hs2 : s' = [] := by
        cases s' with
        | nil => rfl
        | cons a b => exact hs'.elim
      subst hs2
      have hS : ShC μ1 := hP.sh hS0
      have hO1 : isO μ1 c0 0 := hO.of (by rw [hP.1.1])
      have hR1 : mR μ1 c0 0 = some s0 := mR.of hR (by rw [hP.1.1])
      have hA1 : isA μ1 s0 0 ns.length := hA.of (by rw [hP.1.1])
      refine C.iload_n dX4_work_7 2 rfl ?_
      refine C.aload_n dX4_work_8 1 rfl ?_
      refine C.getA fX4_25 dX4_work_9 hO1 hR1 ?_
      refine C.alen hA1 (by decide) dX4_work_12 ?_
      refine C.icmp_ge 173 dX4_work_13 rfl (fun hc13 => ?_) (fun hc13 => ?_)
      · refine C.aload_n dX4_work_173 0 rfl ?_
        refine C.callVI lX4_34 dX4_work_174 (kc_pop hS0 hP (by decide)) hS.o11 rfl rfl (Nat.le_of_ble_eq_true rfl) (Nat.zero_le _) (Nat.zero_le _) (Nat.le_of_ble_eq_true rfl) (fun x174 μ174 h174 => ?_)
        refine C.iret hq dX4_work_177 ?_
        exact ⟨v, hev.symm, hb, htv, h174.1, h174.2.1⟩
      · exact absurd (n_nle hc13) (by omega)
    | cons n rs ih =>
      intro i st ts μ1 hd hP hs h64 hty hev hi
      obtain ⟨ts2, hS2, hl2, hty2⟩ := hty
      have hlt : i < ns.length := by
        rcases Nat.lt_or_ge i ns.length with h | h
        · exact h
        · rw [List.drop_eq_nil_of_le h] at hd
          cases hd
      have hdc := List.drop_eq_getElem_cons hlt
      rw [hd] at hdc
      injection hdc with hn0 hd2
      have hn : ns[i]? = some n := by rw [List.getElem?_eq_getElem hlt, ← hn0]
      have hS : ShC μ1 := hP.sh hS0
      have hO1 : isO μ1 c0 0 := hO.of (by rw [hP.1.1])
      have hR1 : mR μ1 c0 0 = some s0 := mR.of hR (by rw [hP.1.1])
      have hA1 : isA μ1 s0 0 ns.length := hA.of (by rw [hP.1.1])
      have hcd1 : mI μ1 s0 i = nI (cvN n) := by rw [hP.1.2 s0 i h14 (fun z => h11 z.1)]; exact hc i n hn
      have hlen := hs.len
      have hcv : cvN n < 200000 := by
        rcases hS2 with ⟨a1, a2, _⟩ | ⟨_, rfl, _⟩ | ⟨a1, a2, _⟩ | ⟨rfl, _⟩ | ⟨rfl, _⟩ | ⟨a1, a2, _⟩ | ⟨a1, a2, _⟩ | ⟨a1, a2, _⟩ <;> (unfold cvN; repeat' split) <;> omega
      have m167 : ∀ (st' : List Int64) (μ2 : Mm), PSt μ μ2 st' → StT st' ts2 → st64 pv of (nI n) st = st' → AW l G X 0 0 167 [(0, .ref (G.1 + 11)), (1, .ref (G.1 + c0)), (2, .int (nI i))] [] μ2 := by
        intro st' μ2 k1 k2 k3
        refine C.iinc (lv' := [(0, _), (1, _), (2, _)]) _ dX4_work_167 2 rfl rfl (nLt hX rfl) rfl ?_
        refine C.goto 7 dX4_work_170 rfl ?_
        have hgo := ih (i + 1) st' ts2 μ2 hd2.symm k1 k2 hl2 hty2 (by rw [← hev, ← k3]; rfl) (by omega)
        rw [← nI_1] at hgo
        exact hgo
      have mj : ∀ (a b : Int64) (s' : List Int64), st = b :: a :: s' → 1 ≤ n → n ≤ 11 → bnd a → bnd b → (10 ≤ n → (a = lN 0 ∨ a = lN 1) ∧ (b = lN 0 ∨ b = lN 1)) → StT (jn64 (nI n) a b :: s') ts2 → AW l G X 0 0 36 [(0, .ref (G.1 + 11)), (1, .ref (G.1 + c0)), (2, .int (nI i)), (3, .int (nI (cvN n / 16))), (4, .int (nI (cvN n % 16)))] [] μ1 := by
        intro a b s' hst h1 h2 ha hb h01 hs3
        subst hst
        simp only [List.length_cons] at hlen
        have e2 : cvN n % 16 = n + 1 := by unfold cvN; rw [if_neg (by omega), if_neg (by omega), if_neg (by omega), if_neg (by omega)]; omega
        rw [e2]
        refine C.iload dX4_work_36 4 rfl ?_
        refine C.if_ne 49 dX4_work_38 rfl (fun hc38 => ?_) (fun hc38 => ?_)
        · refine C.iload dX4_work_49 4 rfl ?_
          refine C.iconst (nI 1) dX4_work_51 (by decide) ?_
          refine C.icmp_ne 78 dX4_work_52 rfl (fun hc52 => ?_) (fun hc52 => ?_)
          · refine C.iload dX4_work_78 4 rfl ?_
            refine C.bipush (nI 13) dX4_work_80 (by decide) ?_
            refine C.icmp_ne 98 dX4_work_82 rfl (fun hc82 => ?_) (fun hc82 => ?_)
            · refine C.iload dX4_work_98 4 rfl ?_
              refine C.bipush (nI 14) dX4_work_100 (by decide) ?_
              refine C.icmp_ne 141 dX4_work_102 rfl (fun hc102 => ?_) (fun hc102 => ?_)
              · refine C.aload_n dX4_work_141 0 rfl ?_
                refine C.callVI lX4_34 dX4_work_142 (kc_pop hS0 hP (by simp only [List.length_cons]; omega)) hS.o11 rfl rfl (Nat.le_of_ble_eq_true rfl) (Nat.zero_le _) (Nat.zero_le _) (Nat.le_of_ble_eq_true rfl) (fun x142 μ142 h142 => ?_)
                obtain ⟨rfl, hP2⟩ := h142
                have hS : ShC μ142 := hP2.sh hS0
                refine C.istore (lv' := [(0, _), (1, _), (2, _), (3, _), (4, _), (5, _)]) dX4_work_145 (nLt hX rfl) rfl ?_
                refine C.aload_n dX4_work_147 0 rfl ?_
                refine C.iload dX4_work_148 4 rfl ?_
                refine C.aload_n dX4_work_150 0 rfl ?_
                refine C.callVI lX4_34 dX4_work_151 (kc_pop hS0 hP2 (by omega)) hS.o11 rfl rfl (Nat.le_of_ble_eq_true rfl) (Nat.zero_le _) (Nat.zero_le _) (Nat.le_of_ble_eq_true rfl) (fun x151 μ151 h151 => ?_)
                obtain ⟨rfl, hP3⟩ := h151
                have hS : ShC μ151 := hP3.sh hS0
                refine C.i2l dX4_work_154 ?_
                rw [bnd_rt ha]
                refine C.iload dX4_work_155 5 rfl ?_
                refine C.i2l dX4_work_157 ?_
                rw [bnd_rt hb]
                refine C.callSL lX4_38 dX4_work_158 (kc_joined h1 h2 a b) rfl rfl (Nat.le_of_ble_eq_true rfl) (Nat.zero_le _) (Nat.zero_le _) (Nat.le_of_ble_eq_true rfl) (fun x158 μ158 h158 => ?_)
                obtain ⟨rfl, hμ⟩ := h158
                subst hμ
                refine C.callSI lX4_42 dX4_work_161 (kc_bounded _) rfl rfl (Nat.le_of_ble_eq_true rfl) (Nat.zero_le _) (Nat.zero_le _) (Nat.le_of_ble_eq_true rfl) (fun x161 μ161 h161 => ?_)
                obtain ⟨rfl, hμ⟩ := h161
                subst hμ
                refine C.callVV lX4_30 dX4_work_164 (kc_push hS0 hP3 (by omega) (clip64 (jnR n a b))) hS.o11 rfl rfl (Nat.le_of_ble_eq_true rfl) (Nat.zero_le _) (Nat.zero_le _) (Nat.le_of_ble_eq_true rfl) (fun μ164 h164 => ?_)
                rw [jnR_eq h1 h2 ha hb h01] at h164
                exact AW.pick [0, 1, 2] rfl (m167 _ _ h164 hs3 (e_jn h1 h2))
              · exact absurd (n_eq hc102) (by omega)
            · exact absurd (n_eq hc82) (by omega)
          · exact absurd (n_eq hc52) (by omega)
        · exact absurd hc38 (nI_ne0 (by omega) (by omega))
      have m36 : AW l G X 0 0 36 [(0, .ref (G.1 + 11)), (1, .ref (G.1 + c0)), (2, .int (nI i)), (3, .int (nI (cvN n / 16))), (4, .int (nI (cvN n % 16)))] [] μ1 := by
        rcases hS2 with ⟨a1, a2, rfl⟩ | ⟨a1, rfl, r, rfl, rfl⟩ | ⟨a1, a2, a3, rfl⟩ | ⟨rfl, rfl⟩ | ⟨rfl, r, rfl, rfl⟩ | ⟨a1, a2, r, rfl, rfl⟩ | ⟨a1, a2, r, rfl, rfl⟩ | ⟨a1, a2, r, rfl, rfl⟩
        · simp only [List.length_cons] at hl2
          have e1 : cvN n / 16 = n - 1000 := by unfold cvN; rw [if_pos a1]; omega
          have e2 : cvN n % 16 = 0 := by unfold cvN; rw [if_pos a1]; omega
          rw [e1, e2]
          refine C.iload dX4_work_36 4 rfl ?_
          refine C.if_ne 49 dX4_work_38 rfl (fun hc38 => ?_) (fun hc38 => ?_)
          · exact absurd rfl hc38
          · refine C.aload_n dX4_work_41 0 rfl ?_
            refine C.iload_n dX4_work_42 3 rfl ?_
            rw [← lN_i (n - 1000)]
            refine C.callVV lX4_30 dX4_work_43 (kc_push hS0 hP (by omega) (lN (n - 1000))) hS.o11 rfl rfl (Nat.le_of_ble_eq_true rfl) (Nat.zero_le _) (Nat.zero_le _) (Nat.le_of_ble_eq_true rfl) (fun μ43 h43 => ?_)
            refine C.goto 167 dX4_work_46 rfl ?_
            exact AW.pick [0, 1, 2] rfl (m167 _ _ h43 ⟨bnd_n (by omega), (fun z => by cases z), hs⟩ (e_num a1 a2))
        · obtain ⟨v, s', rfl, hb, htv, hs'⟩ := hs.cons
          simp only [List.length_cons] at hl2 hlen
          obtain ⟨o1, o2, o3⟩ := hof a1
          rw [show cvN 60 / 16 = 0 from rfl, show cvN 60 % 16 = 14 from rfl]
          refine C.iload dX4_work_36 4 rfl ?_
          refine C.if_ne 49 dX4_work_38 rfl (fun hc38 => ?_) (fun hc38 => ?_)
          · refine C.iload dX4_work_49 4 rfl ?_
            refine C.iconst (nI 1) dX4_work_51 (by decide) ?_
            refine C.icmp_ne 78 dX4_work_52 rfl (fun hc52 => ?_) (fun hc52 => ?_)
            · refine C.iload dX4_work_78 4 rfl ?_
              refine C.bipush (nI 13) dX4_work_80 (by decide) ?_
              refine C.icmp_ne 98 dX4_work_82 rfl (fun hc82 => ?_) (fun hc82 => ?_)
              · refine C.iload dX4_work_98 4 rfl ?_
                refine C.bipush (nI 14) dX4_work_100 (by decide) ?_
                refine C.icmp_ne 141 dX4_work_102 rfl (fun hc102 => ?_) (fun hc102 => ?_)
                · exact absurd rfl hc102
                · refine C.aload_n dX4_work_105 0 rfl ?_
                  refine C.callVI lX4_34 dX4_work_106 (kc_pop hS0 hP (by omega)) hS.o11 rfl rfl (Nat.le_of_ble_eq_true rfl) (Nat.zero_le _) (Nat.zero_le _) (Nat.le_of_ble_eq_true rfl) (fun x106 μ106 h106 => ?_)
                  obtain ⟨rfl, hP2⟩ := h106
                  have hS : ShC μ106 := hP2.sh hS0
                  have hz0 : v.toInt32 < 0 ∨ nI 12 ≤ v.toInt32 → nI 0 = (of v).toInt32 := fun z => by
                    have t1 := bnd_ti hb
                    rw [o2 v (fun y => ?_)]
                    · rfl
                    · have y1 := y.1
                      have y2 := y.2
                      rw [Int64.le_iff_toInt_le, lN_i0] at y1
                      rw [Int64.le_iff_toInt_le, pk_lT (by decide)] at y2
                      rcases z with z | z
                      · rw [i_lt, t1] at z
                        have h0 : (0 : Int32).toInt = 0 := by decide
                        omega
                      · rw [i_le, t1, nI_tI (by decide)] at z
                        omega
                  refine C.istore (lv' := [(0, _), (1, _), (2, _), (3, _), (4, _), (5, _)]) dX4_work_109 (nLt hX rfl) rfl ?_
                  refine C.aload_n dX4_work_111 0 rfl ?_
                  refine C.iload dX4_work_112 5 rfl ?_
                  refine C.if_lt 134 dX4_work_114 rfl (fun hc114 => ?_) (fun hc114 => ?_)
                  · have hz := hz0 (Or.inl hc114)
                    refine C.iconst (nI 0) dX4_work_134 (by decide) ?_
                    (try rw [hz])
                    refine C.callVV lX4_30 dX4_work_135 (kc_push hS0 hP2 (by omega) (of v)) hS.o11 rfl rfl (Nat.le_of_ble_eq_true rfl) (Nat.zero_le _) (Nat.zero_le _) (Nat.le_of_ble_eq_true rfl) (fun μ135 h135 => ?_)
                    refine C.goto 167 dX4_work_138 rfl ?_
                    exact AW.pick [0, 1, 2] rfl (m167 _ _ h135 ⟨o3 v, (fun z => by cases z), hs'⟩ (by rw [e_of]; show clip64 (of v) :: s' = _; rw [clip_bnd (o3 v)]))
                  · refine C.iload dX4_work_117 5 rfl ?_
                    refine C.bipush (nI 12) dX4_work_119 (by decide) ?_
                    refine C.icmp_ge 134 dX4_work_121 rfl (fun hc121 => ?_) (fun hc121 => ?_)
                    · have hz := hz0 (Or.inr hc121)
                      refine C.iconst (nI 0) dX4_work_134 (by decide) ?_
                      (try rw [hz])
                      refine C.callVV lX4_30 dX4_work_135 (kc_push hS0 hP2 (by omega) (of v)) hS.o11 rfl rfl (Nat.le_of_ble_eq_true rfl) (Nat.zero_le _) (Nat.zero_le _) (Nat.le_of_ble_eq_true rfl) (fun μ135 h135 => ?_)
                      refine C.goto 167 dX4_work_138 rfl ?_
                      exact AW.pick [0, 1, 2] rfl (m167 _ _ h135 ⟨o3 v, (fun z => by cases z), hs'⟩ (by rw [e_of]; show clip64 (of v) :: s' = _; rw [clip_bnd (o3 v)]))
                    · obtain ⟨j, hj, ej⟩ := ix12 hc114 hc121
                      have ev : v = lN j := by rw [← bnd_rt hb, ej, nI_l (by omega)]
                      have eo : mI μ106 13 v.toInt32.toNatClampNeg = (of v).toInt32 := by rw [ej, n_cl (by omega), hP2.1.2 13 j (by decide) (by omega), o1 j hj, ← ev]
                      refine C.aload_n dX4_work_124 0 rfl ?_
                      refine C.getA fX4_15 dX4_work_125 hS.o11 hS.r11_1 ?_
                      refine C.iload dX4_work_128 5 rfl ?_
                      refine C.iald hS.a13 (by rw [ej]; exact n_in hj) dX4_work_130 ?_
                      rw [eo]
                      refine C.goto 135 dX4_work_131 rfl ?_
                      (try rw [hz])
                      refine C.callVV lX4_30 dX4_work_135 (kc_push hS0 hP2 (by omega) (of v)) hS.o11 rfl rfl (Nat.le_of_ble_eq_true rfl) (Nat.zero_le _) (Nat.zero_le _) (Nat.le_of_ble_eq_true rfl) (fun μ135 h135 => ?_)
                      refine C.goto 167 dX4_work_138 rfl ?_
                      exact AW.pick [0, 1, 2] rfl (m167 _ _ h135 ⟨o3 v, (fun z => by cases z), hs'⟩ (by rw [e_of]; show clip64 (of v) :: s' = _; rw [clip_bnd (o3 v)]))
              · exact absurd hc82 (by decide)
            · exact absurd hc52 (by decide)
          · exact absurd hc38 (by decide)
        · simp only [List.length_cons] at hl2
          have e1 : cvN n / 16 = n - 40 := by unfold cvN; rw [if_neg (by omega), if_neg (by omega), if_pos a1]; omega
          have e2 : cvN n % 16 = 1 := by unfold cvN; rw [if_neg (by omega), if_neg (by omega), if_pos a1]; omega
          rw [e1, e2]
          have ep : mI μ1 12 (n - 40) = (pv (n - 40)).toInt32 := by rw [hP.1.2 12 _ (by decide) (by omega)]; exact (hpv (n - 40) (by omega) a3).1
          refine C.iload dX4_work_36 4 rfl ?_
          refine C.if_ne 49 dX4_work_38 rfl (fun hc38 => ?_) (fun hc38 => ?_)
          · refine C.iload dX4_work_49 4 rfl ?_
            refine C.iconst (nI 1) dX4_work_51 (by decide) ?_
            refine C.icmp_ne 78 dX4_work_52 rfl (fun hc52 => ?_) (fun hc52 => ?_)
            · exact absurd rfl hc52
            · refine C.aload_n dX4_work_55 0 rfl ?_
              refine C.iload_n dX4_work_56 3 rfl ?_
              refine C.bipush (nI 9) dX4_work_57 (by decide) ?_
              refine C.icmp_ge 71 dX4_work_59 rfl (fun hc59 => ?_) (fun hc59 => ?_)
              · exact absurd (n_le hc59) (by omega)
              · refine C.aload_n dX4_work_62 0 rfl ?_
                refine C.getA fX4_9 dX4_work_63 hS.o11 hS.r11_0 ?_
                refine C.iload_n dX4_work_66 3 rfl ?_
                refine C.iald hS.a12 (n_in (by omega)) dX4_work_67 ?_
                rw [n_cl, ep]
                refine C.goto 72 dX4_work_68 rfl ?_
                refine C.callVV lX4_30 dX4_work_72 (kc_push hS0 hP (by omega) (pv (n - 40))) hS.o11 rfl rfl (Nat.le_of_ble_eq_true rfl) (Nat.zero_le _) (Nat.zero_le _) (Nat.le_of_ble_eq_true rfl) (fun μ72 h72 => ?_)
                refine C.goto 167 dX4_work_75 rfl ?_
                exact AW.pick [0, 1, 2] rfl (m167 _ _ h72 ⟨(hpv (n - 40) (by omega) a3).2, (fun z => by cases z), hs⟩ (e_part a1 a2))
          · exact absurd hc38 (by decide)
        · simp only [List.length_cons] at hl2
          rw [show cvN 13 / 16 = 1 from rfl, show cvN 13 % 16 = 0 from rfl]
          refine C.iload dX4_work_36 4 rfl ?_
          refine C.if_ne 49 dX4_work_38 rfl (fun hc38 => ?_) (fun hc38 => ?_)
          · exact absurd rfl hc38
          · refine C.aload_n dX4_work_41 0 rfl ?_
            refine C.iload_n dX4_work_42 3 rfl ?_
            rw [← lN_i 1]
            refine C.callVV lX4_30 dX4_work_43 (kc_push hS0 hP (by omega) (lN 1)) hS.o11 rfl rfl (Nat.le_of_ble_eq_true rfl) (Nat.zero_le _) (Nat.zero_le _) (Nat.le_of_ble_eq_true rfl) (fun μ43 h43 => ?_)
            refine C.goto 167 dX4_work_46 rfl ?_
            exact AW.pick [0, 1, 2] rfl (m167 _ _ h43 ⟨bnd_n (by omega), (fun _ => Or.inr rfl), hs⟩ e_all)
        · obtain ⟨v, s', rfl, hb, htv, hs'⟩ := hs.cons
          simp only [List.length_cons] at hl2 hlen
          have h01 : lN 1 - v = lN 0 ∨ lN 1 - v = lN 1 := by
            rcases htv rfl with rfl | rfl
            · exact Or.inr (by decide)
            · exact Or.inl (by decide)
          rw [show cvN 12 / 16 = 0 from rfl, show cvN 12 % 16 = 13 from rfl]
          refine C.iload dX4_work_36 4 rfl ?_
          refine C.if_ne 49 dX4_work_38 rfl (fun hc38 => ?_) (fun hc38 => ?_)
          · refine C.iload dX4_work_49 4 rfl ?_
            refine C.iconst (nI 1) dX4_work_51 (by decide) ?_
            refine C.icmp_ne 78 dX4_work_52 rfl (fun hc52 => ?_) (fun hc52 => ?_)
            · refine C.iload dX4_work_78 4 rfl ?_
              refine C.bipush (nI 13) dX4_work_80 (by decide) ?_
              refine C.icmp_ne 98 dX4_work_82 rfl (fun hc82 => ?_) (fun hc82 => ?_)
              · exact absurd rfl hc82
              · refine C.aload_n dX4_work_85 0 rfl ?_
                refine C.iconst (nI 1) dX4_work_86 (by decide) ?_
                refine C.aload_n dX4_work_87 0 rfl ?_
                refine C.callVI lX4_34 dX4_work_88 (kc_pop hS0 hP (by omega)) hS.o11 rfl rfl (Nat.le_of_ble_eq_true rfl) (Nat.zero_le _) (Nat.zero_le _) (Nat.le_of_ble_eq_true rfl) (fun x88 μ88 h88 => ?_)
                obtain ⟨rfl, hP2⟩ := h88
                have hS : ShC μ88 := hP2.sh hS0
                refine C.isub dX4_work_91 ?_
                rw [← lN_i 1, ← Int64.toInt32_sub]
                refine C.callVV lX4_30 dX4_work_92 (kc_push hS0 hP2 (by omega) (lN 1 - v)) hS.o11 rfl rfl (Nat.le_of_ble_eq_true rfl) (Nat.zero_le _) (Nat.zero_le _) (Nat.le_of_ble_eq_true rfl) (fun μ92 h92 => ?_)
                refine C.goto 167 dX4_work_95 rfl ?_
                exact AW.pick [0, 1, 2] rfl (m167 _ _ h92 ⟨bnd_01 h01, (fun _ => h01), hs'⟩ e_not)
            · exact absurd hc52 (by decide)
          · exact absurd hc38 (by decide)
        · obtain ⟨b, s1, rfl, hb, _, hs1⟩ := hs.cons
          obtain ⟨a, s2, rfl, ha, _, hs2⟩ := hs1.cons
          exact mj a b s2 rfl a1 (by omega) ha hb (fun z => absurd z (by omega)) ⟨jn_bnd a1 a2 ha hb, (fun z => by cases z), hs2⟩
        · obtain ⟨b, s1, rfl, hb, _, hs1⟩ := hs.cons
          obtain ⟨a, s2, rfl, ha, _, hs2⟩ := hs1.cons
          exact mj a b s2 rfl (by omega) (by omega) ha hb (fun z => absurd z (by omega)) ⟨bnd_01 (jn_01 a1 a2), (fun _ => jn_01 a1 a2), hs2⟩
        · obtain ⟨b, s1, rfl, hb, tb, hs1⟩ := hs.cons
          obtain ⟨a, s2, rfl, ha, ta, hs2⟩ := hs1.cons
          exact mj a b s2 rfl (by omega) (by omega) ha hb (fun _ => ⟨ta rfl, tb rfl⟩) ⟨bnd_01 (jn_01b a1 a2 (ta rfl) (tb rfl)), (fun _ => jn_01b a1 a2 (ta rfl) (tb rfl)), hs2⟩
      refine C.iload_n dX4_work_7 2 rfl ?_
      refine C.aload_n dX4_work_8 1 rfl ?_
      refine C.getA fX4_25 dX4_work_9 hO1 hR1 ?_
      refine C.alen hA1 (by decide) dX4_work_12 ?_
      refine C.icmp_ge 173 dX4_work_13 rfl (fun hc13 => ?_) (fun hc13 => ?_)
      · exact absurd (n_le hc13) (by omega)
      · refine C.aload_n dX4_work_16 1 rfl ?_
        refine C.getA fX4_25 dX4_work_17 hO1 hR1 ?_
        refine C.iload_n dX4_work_20 2 rfl ?_
        refine C.iald hA1 (n_in hlt) dX4_work_21 ?_
        rw [n_cl, hcd1]
        refine C.iconst (nI 4) dX4_work_22 (by decide) ?_
        refine C.ishr dX4_work_23 ?_
        rw [pk_shrN (n := cvN n) (by omega) (nI 4 &&& 31) 4 (by decide)]
        refine C.istore_n (lv' := [(0, _), (1, _), (2, _), (3, _)]) dX4_work_24 (nLt hX rfl) rfl ?_
        refine C.aload_n dX4_work_25 1 rfl ?_
        refine C.getA fX4_25 dX4_work_26 hO1 hR1 ?_
        refine C.iload_n dX4_work_29 2 rfl ?_
        refine C.iald hA1 (n_in hlt) dX4_work_30 ?_
        rw [n_cl, hcd1]
        refine C.bipush (nI 15) dX4_work_31 (by decide) ?_
        refine C.iand dX4_work_33 ?_
        rw [pk_andN (n := cvN n) (by omega) (m := nI 15) 4 (by decide)]
        refine C.istore (lv' := [(0, _), (1, _), (2, _), (3, _), (4, _)]) dX4_work_34 (nLt hX rfl) rfl ?_
        exact m36
  refine C.aload_n dX4_work_0 0 rfl ?_
  refine C.iconst (nI 0) dX4_work_1 (by decide) ?_
  refine C.putI fX4_21 (Or.inl rfl) dX4_work_2 hS.o11 ?_
  refine C.iconst (nI 0) dX4_work_5 (by decide) ?_
  refine C.istore_n (lv' := [(0, _), (1, _), (2, _)]) dX4_work_6 (nLt hX rfl) rfl ?_
  exact loop ns 0 [] [] _ rfl ⟨⟨rfl, fun a k _ z => by rw [mI_sI, if_neg z]⟩, by simp [mI_sI], fun i hi => by simp at hi⟩ trivial (by decide) hT rfl (Nat.zero_le _)
/-- without steps a Code is worth 0 -/
theorem kc_work0 (hS : ShC μ) {c0 s0 : Nat} (hO : isO μ c0 0) (hR : mR μ c0 0 = some s0) (hA : isA μ s0 0 0) : AMet l G 2 0 0 mtX4_work [.ref (G.1 + 11), .ref (G.1 + c0)] μ (qI (fun x μ' => x = nI 0 ∧ MwF μ μ')) := by
  refine AMet.of (by decide) (Nat.le_of_ble_eq_true rfl) (fun X C hX hnm hq => ?_)
  have hp0 : ∀ {μ1 : Mm}, ShC μ1 → mI μ1 11 3 = nI 0 → AMet l G 0 0 0 mtX4_pop [.ref (G.1 + 11)] μ1 (qI (fun x μ' => x = nI 0 ∧ μ' = μ1)) := by
    intro μ1 hS hc
    refine AMet.of (by decide) (Nat.le_of_ble_eq_true rfl) (fun X C hX hnm hq => ?_)
    refine C.aload_n dX4_pop_0 0 rfl ?_
    refine C.getI fX4_21 dX4_pop_1 hS.o11 ?_
    rw [hc]
    refine C.if_ne 9 dX4_pop_4 rfl (fun hc4 => ?_) (fun hc4 => ?_)
    · exact absurd rfl hc4
    · refine C.iconst (nI 0) dX4_pop_7 (by decide) ?_
      refine C.iret hq dX4_pop_8 ?_
      exact ⟨rfl, rfl⟩
  have hS2 : ShC (sI μ 11 3 (nI 0)) := hS.of rfl
  have hO2 : isO (sI μ 11 3 (nI 0)) c0 0 := hO.of rfl
  have hR2 : mR (sI μ 11 3 (nI 0)) c0 0 = some s0 := hR
  have hA2 : isA (sI μ 11 3 (nI 0)) s0 0 0 := hA.of rfl
  refine C.aload_n dX4_work_0 0 rfl ?_
  refine C.iconst (nI 0) dX4_work_1 (by decide) ?_
  refine C.putI fX4_21 (Or.inl rfl) dX4_work_2 (by first | exact hS.o11 | exact hS2.o11) ?_
  refine C.iconst (nI 0) dX4_work_5 (by decide) ?_
  refine C.istore_n (lv' := [(0, _), (1, _), (2, _)]) dX4_work_6 (nLt hX rfl) rfl ?_
  refine C.iload_n dX4_work_7 2 rfl ?_
  refine C.aload_n dX4_work_8 1 rfl ?_
  refine C.getA fX4_25 dX4_work_9 hO2 hR2 ?_
  refine C.alen hA2 (by decide) dX4_work_12 ?_
  refine C.icmp_ge 173 dX4_work_13 rfl (fun hc13 => ?_) (fun hc13 => ?_)
  · refine C.aload_n dX4_work_173 0 rfl ?_
    refine C.callVI lX4_34 dX4_work_174 (hp0 hS2 (by simp [mI_sI])) (by first | exact hS.o11 | exact hS2.o11) rfl rfl (Nat.le_of_ble_eq_true rfl) (Nat.zero_le _) (Nat.zero_le _) (Nat.le_of_ble_eq_true rfl) (fun x174 μ174 h174 => ?_)
    refine C.iret hq dX4_work_177 ?_
    exact ⟨h174.1, by rw [h174.2]; exact ⟨rfl, fun a k _ z => by rw [mI_sI, if_neg z]⟩⟩
  · exact absurd (n_nle hc13) (by omega)
end KWK
