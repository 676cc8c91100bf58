/-! the reference: a night goes by -/

section KN4
variable {l : Launch} {G : Gm} {μ : Mm} {d : Ld} {S : St}
theorem RfN.ng (h : RfN μ S) (v : Nat) : RfN (sI μ 225 0 (nI v)) ((v, S.1.2), S.2) := by
  obtain ⟨a1, a2, a3, a4, a5⟩ := h
  have hg : ∀ k, k ≠ 0 → mI (sI μ 225 0 (nI v)) 225 k = mI μ 225 k := fun k q => by rw [mI_sI, if_neg (fun z => q z.2)]
  exact ⟨by rw [mI_sI, if_pos ⟨rfl, rfl⟩], by rw [hg _ (by decide)]; exact a2, fun i x q => by rw [hg _ (by omega), hg _ (by omega), hg _ (by omega), hg _ (by omega)]; exact a3 i x q, by rw [hg _ (by decide)]; exact a4, fun i x q => by rw [hg _ (by omega), hg _ (by omega), hg _ (by omega), hg _ (by omega)]; exact a5 i x q⟩
theorem RfN.rg (h : RfN μ S) (v : Nat) : RfN (sI μ 225 1 (nI v)) ((S.1.1, v), S.2) := by
  obtain ⟨a1, a2, a3, a4, a5⟩ := h
  have hg : ∀ k, k ≠ 1 → mI (sI μ 225 1 (nI v)) 225 k = mI μ 225 k := fun k q => by rw [mI_sI, if_neg (fun z => q z.2)]
  exact ⟨by rw [hg _ (by decide)]; exact a1, by rw [mI_sI, if_pos ⟨rfl, rfl⟩], fun i x q => by rw [hg _ (by omega), hg _ (by omega), hg _ (by omega), hg _ (by omega)]; exact a3 i x q, by rw [hg _ (by decide)]; exact a4, fun i x q => by rw [hg _ (by omega), hg _ (by omega), hg _ (by omega), hg _ (by omega)]; exact a5 i x q⟩
/-- what a night needs and leaves -/
def CtR (μ : Mm) (a : Ac) : Prop := mI μ 179 68 = nI a.2.1 ∧ mI μ 179 69 = nI a.2.2.1 ∧ mI μ 179 70 = nI a.2.2.2
theorem CtR.tr {μ' : Mm} {a : Ac} (h : CtR μ a) (t : TmR μ μ') : CtR μ' a := ⟨by rw [t.2.1 _ _ (by unfold pW; omega) (by decide)]; exact h.1, by rw [t.2.1 _ _ (by unfold pW; omega) (by decide)]; exact h.2.1, by rw [t.2.1 _ _ (by unfold pW; omega) (by decide)]; exact h.2.2⟩
theorem two5 {n r : Nat} (h : r < 2 ^ n) (hn : n ≤ 5) : r < 32 := by
  have : (2 : Nat) ^ n ≤ 2 ^ 5 := Nat.pow_le_pow_right (by decide) hn
  omega
theorem kn_night (hS : ShM μ) (hL : LmH μ 1 1600 d) (hW : Wf d) (hC : LdC d) {th storm : Bool} (ht : mI μ 179 67 = bI th) {more : Option Nat} (hmo : mI μ 179 66 = opI more) (hm2 : ∀ x, more = some x → x < 49) {a : Ac} (hN : RfN μ a.1) (hSW : SWf d a.1) (hc : CtR μ a) (hn : a.1.1.1 < 999) : AMet l G 7 0 0 mtX13_nightGoes [.ref (G.1 + 179), .int (bI storm)] μ (qV (fun μ' => RfN μ' (nightA d more th storm a).1 ∧ CtR μ' (nightA d more th storm a) ∧ TmG μ μ')) := by
  refine AMet.of (by decide) (Nat.le_of_ble_eq_true rfl) (fun X C hX hnm hq => ?_)
  have hS1 := hS
  have w6 := hW.2.2.2.1.1
  have hr5 := two5 hSW.2.1 hW.2.2.1.1
  generalize hri : rideN d more a.1 = ride
  have hri49 : ∀ h, ride h < 49 := fun h => by rw [← hri]; exact clOk_lt hW (rF_ok hW hW.1.2.2.2.2 h)
  unfold nightA at hq
  rw [hri] at hq
  generalize hK : nightL d ride th storm d.2.2.2.1.length 0 a = K at hq
  -- the end
  have fin : ∀ (b : Ac) (μ1 : Mm) (x2 : Int32), b = K → TmG μ μ1 → RfN μ1 b.1 → CtR μ1 b → AW l G X 0 0 97 [(0, .ref (G.1 + 179)), (1, .int (bI storm)), (2, .int x2)] [] μ1 := by
    intro b μ1 x2 hb hT hN1 hc1
    subst hb
    have hS : ShM μ1 := hT.sh hS1
    have e0 := hN1.1
    refine C.aload_n dX13_nightGoes_97 0 rfl ?_
    refine C.getA fX13_151 dX13_nightGoes_98 hS.o hS.r59 ?_
    refine C.iconst (nI 0) dX13_nightGoes_101 (by decide) ?_
    refine C.dup2 dX13_nightGoes_102 rfl rfl ?_
    refine C.iald hS.a59 (n_in (by decide)) dX13_nightGoes_103 ?_
    rw [n_cl, e0]
    refine C.iconst (nI 1) dX13_nightGoes_104 (by decide) ?_
    refine C.iadd dX13_nightGoes_105 ?_
    rw [nI_add]
    refine C.iast hS.a59 (n_in (by decide)) dX13_nightGoes_106 ?_
    rw [n_cl]
    refine C.vret hq dX13_nightGoes_107 ?_
    exact ⟨hN1.ng _, hc1, hT.now _ _⟩
  have loop : ∀ (n w : Nat) (b : Ac) (μ1 : Mm), w + n = d.2.2.2.1.length → nightL d ride th storm n w b = K → TmG μ μ1 → RfN μ1 b.1 → CtR μ1 b → SWf d b.1 → (storm = false → ∀ h, h < 12 → mI μ1 228 h = nI (ride h)) → AW l G X 0 0 10 [(0, .ref (G.1 + 179)), (1, .int (bI storm)), (2, .int (nI w))] [] μ1 := by
    intro n
    induction n with
    | zero =>
      intro w b μ1 hw hk hT hN1 hc1 hSW1 hrd
      have hS : ShM μ1 := hT.sh hS1
      have hL1 := hT.lm hL
      refine C.iload_n dX13_nightGoes_10 2 rfl ?_
      refine C.aload_n dX13_nightGoes_11 0 rfl ?_
      refine C.callVI lX13_416 dX13_nightGoes_12 (kg_walkerMany hS hL1) hS.o rfl rfl (Nat.le_of_ble_eq_true rfl) (Nat.zero_le _) (Nat.zero_le _) (Nat.le_of_ble_eq_true rfl) (fun x12 μ12 h12 => ?_)
      obtain ⟨rfl, hμ⟩ := h12
      subst hμ
      refine C.icmp_ge 97 dX13_nightGoes_15 rfl (fun hc15 => ?_) (fun hc15 => ?_)
      · exact fin b μ12 _ hk hT hN1 hc1
      · have := n_nle hc15; omega
    | succ n ih =>
      intro w b μ1 hw hk hT hN1 hc1 hSW1 hrd
      have hS : ShM μ1 := hT.sh hS1
      have hL1 := hT.lm hL
      have hwl : w < d.2.2.2.1.length := by omega
      have hwb : w < b.1.2.1.length := by rw [hSW1.2.2.1]; exact hwl
      have hlb : b.1.2.1.length ≤ 6 := by rw [hSW1.2.2.1]; exact w6
      have hx := hSW1.wk hwl
      obtain ⟨b1, b2, b3, b4⟩ := hN1.wk hwb
      obtain ⟨q1, q3⟩ := night_w0 hW hSW1 (ride := ride) (th := th) (storm := storm) hwl
      have nxt : ∀ (μ2 : Mm) (lv : List (Nat × Value)) (ks : List Nat), lv_pick lv ks = [(0, .ref (G.1 + 179)), (1, .int (bI storm)), (2, .int (nI w))] → TmG μ μ2 → RfN μ2 (nightW d ride th storm b w).1 → CtR μ2 (nightW d ride th storm b w) → (storm = false → ∀ h, h < 12 → mI μ2 228 h = nI (ride h)) → AW l G X 0 0 91 lv [] μ2 := by
        intro μ2 lv ks hlv hT2 hN2 hc2 hr2
        refine AW.pick ks hlv ?_
        refine C.iinc (lv' := [(0, _), (1, _), (2, _)]) _ dX13_nightGoes_91 2 rfl rfl (nLt hX rfl) rfl ?_
        refine C.goto 10 dX13_nightGoes_94 rfl ?_
        have hgo := ih (w + 1) _ μ2 (by omega) hk hT2 hN2 hc2 q1 hr2
        rw [← nI_1] at hgo
        exact hgo
      generalize hxx : wkS b.1 w = x at *
      unfold nightW at nxt
      rw [hxx] at nxt
      have b4' : mI μ1 225 (2 + 4 * w + 3) = nI x.2.2.2 := b4
      have x99 : x.2.2.2 ≤ 99 := hx.2.2.2
      have dec : RfN (sI μ1 225 (2 + 4 * w + 3) (nI (x.2.2.2 - 1))) (putW b.1 w (setW x 3 (x.2.2.2 - 1))) := by
        have := hN1.st (w := w) (j := 3) (x.2.2.2 - 1) hwb (by decide) hlb
        rw [hxx] at this
        exact this
      have nokept : ∀ h : Nat, keepB d (pvM h b.1.1.1 x) x = false → ∀ μ2 : Mm, RfN μ2 (b.1.1, b.1.2.1.set w (x.1, min 9999 (x.2.1 + 1), purN x.2.2.1 (payV d (pvM h b.1.1.1 x)), x.2.2.2), (meetA d th b w h).1.2.2) → RfN μ2 (meetA d th b w h).1 := by
        intro h hk μ2 hN2
        unfold meetA at hN2 ⊢
        dsimp only at hN2 ⊢
        rw [hxx, hk] at *
        exact hN2
      have kept : ∀ h : Nat, keepB d (pvM h b.1.1.1 x) x = true → ∀ μ2 : Mm, RfN μ2 (b.1.1, b.1.2.1.set w (x.1, min 9999 (x.2.1 + 1), purN x.2.2.1 (payV d (pvM h b.1.1.1 x)), x.2.2.2), (meetA d th b w h).1.2.2) → RfN (sI μ2 225 (2 + 4 * w + 3) (nI d.2.2.2.2.1.1)) (meetA d th b w h).1 := by
        intro h hk μ2 hN2
        have hst2 := hN2.st (w := w) (j := 3) d.2.2.2.2.1.1 (by simp only [List.length_set]; exact hwb) (by decide) (by simp only [List.length_set]; exact hlb)
        unfold meetA at hst2 ⊢
        unfold wkS putW at hst2
        simp only [List.set_set, List.getD_eq_getElem?_getD, List.getElem?_set_self hwb, Option.getD_some] at hst2
        dsimp only at hst2 ⊢
        have hxx2 : b.1.2.1.getD w (0, 0, 0, 0) = x := hxx
        rw [List.getD_eq_getElem?_getD] at hxx2
        rw [hxx2] at hst2
        rw [hxx]
        rw [hk] at *
        exact hst2
      refine C.iload_n dX13_nightGoes_10 2 rfl ?_
      refine C.aload_n dX13_nightGoes_11 0 rfl ?_
      refine C.callVI lX13_416 dX13_nightGoes_12 (kg_walkerMany hS hL1) hS.o rfl rfl (Nat.le_of_ble_eq_true rfl) (Nat.zero_le _) (Nat.zero_le _) (Nat.le_of_ble_eq_true rfl) (fun x12 μ12 h12 => ?_)
      obtain ⟨rfl, hμ⟩ := h12
      subst hμ
      refine C.icmp_ge 97 dX13_nightGoes_15 rfl (fun hc15 => ?_) (fun hc15 => ?_)
      · have := n_le hc15; omega
      · refine C.iconst (nI 2) dX13_nightGoes_18 (by decide) ?_
        refine C.iconst (nI 4) dX13_nightGoes_19 (by decide) ?_
        refine C.iload_n dX13_nightGoes_20 2 rfl ?_
        refine C.imul dX13_nightGoes_21 ?_
        rw [pk_mul]
        refine C.iadd dX13_nightGoes_22 ?_
        rw [nI_add]
        refine C.iconst (nI 3) dX13_nightGoes_23 (by decide) ?_
        refine C.iadd dX13_nightGoes_24 ?_
        rw [nI_add]
        refine C.istore_n (lv' := [(0, _), (1, _), (2, _), (3, _)]) dX13_nightGoes_25 (nLt hX rfl) rfl ?_
        refine C.aload_n dX13_nightGoes_26 0 rfl ?_
        refine C.getA fX13_151 dX13_nightGoes_27 hS.o hS.r59 ?_
        refine C.iload_n dX13_nightGoes_30 3 rfl ?_
        refine C.iald hS.a59 (n_in (by omega)) dX13_nightGoes_31 ?_
        rw [n_cl, b4']
        refine C.if_le 48 dX13_nightGoes_32 rfl (fun hc32 => ?_) (fun hc32 => ?_)
        · have hp : ¬ 0 < x.2.2.2 := fun z => by have := n_le (a := x.2.2.2) (b := 0) hc32; omega
          rw [if_neg hp] at nxt
          refine C.iload_n dX13_nightGoes_48 1 rfl ?_
          refine C.if_eq 56 dX13_nightGoes_49 rfl (fun hc49 => ?_) (fun hc49 => ?_)
          · have hst : storm = false := (bI_0 storm).mp hc49
            rw [if_neg (by rw [hst]; decide)] at nxt
            have hrr : ∀ h, h < 12 → mI μ12 228 h = nI (ride h) ∧ ride h < 49 := fun h hh => ⟨hrd hst h hh, hri49 h⟩
            refine C.aload_n dX13_nightGoes_56 0 rfl ?_
            refine C.iload_n dX13_nightGoes_57 2 rfl ?_
            refine C.callVI lX13_519 dX13_nightGoes_58 (ke_meetsAt hS hL1 hW hwl hrr (x := x) b1 (by rw [← b4']; congr 1; omega) hx.1 hx.2.2.2) hS.o rfl rfl (Nat.le_of_ble_eq_true rfl) (Nat.zero_le _) (Nat.zero_le _) (Nat.le_of_ble_eq_true rfl) (fun x58 μ58 h58 => ?_)
            obtain ⟨rfl, hμ⟩ := h58
            subst hμ
            cases hmt : mtF d ride x w with
            | none =>
              rw [hmt] at nxt
              refine C.istore (lv' := [(0, _), (1, _), (2, _), (3, _), (4, _)]) dX13_nightGoes_61 (nLt hX rfl) rfl ?_
              refine C.iload dX13_nightGoes_63 4 rfl ?_
              refine C.iconst (-1) dX13_nightGoes_65 (by decide) ?_
              refine C.icmp_eq 91 dX13_nightGoes_66 rfl (fun hc66 => ?_) (fun hc66 => absurd rfl hc66)
              exact nxt _ _ [0, 1, 2] rfl hT hN1 hc1 hrd
            | some h =>
            rw [hmt] at nxt
            have hh12 := mtF_lt hmt
            dsimp only at nxt
            change AW l G X _ _ _ _ [Value.int (nI h)] _
            refine C.istore (lv' := [(0, _), (1, _), (2, _), (3, _), (4, _)]) dX13_nightGoes_61 (nLt hX rfl) rfl ?_
            refine C.iload dX13_nightGoes_63 4 rfl ?_
            refine C.iconst (-1) dX13_nightGoes_65 (by decide) ?_
            refine C.icmp_eq 91 dX13_nightGoes_66 rfl (fun hc66 => ?_) (fun hc66 => ?_)
            · exact absurd hc66 (n_m1 (by omega))
            · refine C.aload_n dX13_nightGoes_69 0 rfl ?_
              refine C.iload_n dX13_nightGoes_70 2 rfl ?_
              refine C.iload dX13_nightGoes_71 4 rfl ?_
              refine C.callVI lX13_522 dX13_nightGoes_73 (kn_meets hS hL1 hW hC (by rw [hT.2.1 179 67 (by unfold pG pW; omega) (by decide) (by decide)]; exact ht) hN1 hSW1 hc1.1 hc1.2.1 hc1.2.2 hwl hh12) hS.o rfl rfl (Nat.le_of_ble_eq_true rfl) (Nat.zero_le _) (Nat.zero_le _) (Nat.le_of_ble_eq_true rfl) (fun x73 μ73 h73 => ?_)
              obtain ⟨rfl, hN2, d68, d69, d70, hT2⟩ := h73
              have hS : ShM μ73 := hT2.sh hS
              rw [hxx] at hN2
              try rw [hxx]
              have hr2 : storm = false → ∀ h, h < 12 → mI μ73 228 h = nI (ride h) := fun q h hh => by rw [hT2.2.1 228 h (by omega) (by decide)]; exact hrd q h hh
              refine C.if_eq 91 dX13_nightGoes_76 rfl (fun hc76 => ?_) (fun hc76 => ?_)
              · have hk0 := (bI_0 _).mp hc76
                exact nxt _ _ [0, 1, 2] rfl (hT.trans (TmG.ofH hT2)) (nokept _ hk0 _ hN2) ⟨d68, d69, d70⟩ hr2
              · have hk1 := b_t hc76
                refine C.aload_n dX13_nightGoes_79 0 rfl ?_
                refine C.getA fX13_151 dX13_nightGoes_80 hS.o hS.r59 ?_
                refine C.iload_n dX13_nightGoes_83 3 rfl ?_
                refine C.aload_n dX13_nightGoes_84 0 rfl ?_
                refine C.getA fX13_139 dX13_nightGoes_85 hS.o hS.r51 ?_
                refine C.iconst (nI 3) dX13_nightGoes_88 (by decide) ?_
                refine C.iald hS.a51 (n_in (by decide)) dX13_nightGoes_89 ?_
                rw [n_cl, show mI μ73 221 3 = nI d.2.2.2.2.1.1 from (hT2.lm hL1).1.2.2.1]
                refine C.iast hS.a59 (n_in (by omega)) dX13_nightGoes_90 ?_
                first | exact nxt _ _ [0, 1, 2, 3] rfl (hT.now _ _) dec hc1 hrd | exact nxt _ _ [0, 1, 2] rfl (hT.now _ _) dec hc1 hrd | (rw [n_cl]; exact nxt _ _ [0, 1, 2] rfl ((hT.trans (TmG.ofH hT2)).now _ _) (kept _ hk1 _ hN2) ⟨d68, d69, d70⟩ hr2)
          · have hst : storm = true := b_t hc49
            rw [if_pos hst] at nxt
            refine C.iconst (-1) dX13_nightGoes_52 (by decide) ?_
            refine C.goto 61 dX13_nightGoes_53 rfl ?_
            refine C.istore (lv' := [(0, _), (1, _), (2, _), (3, _), (4, _)]) dX13_nightGoes_61 (nLt hX rfl) rfl ?_
            refine C.iload dX13_nightGoes_63 4 rfl ?_
            refine C.iconst (-1) dX13_nightGoes_65 (by decide) ?_
            refine C.icmp_eq 91 dX13_nightGoes_66 rfl (fun hc66 => ?_) (fun hc66 => absurd rfl hc66)
            exact nxt _ _ [0, 1, 2] rfl hT hN1 hc1 hrd
        · have hp : 0 < x.2.2.2 := n_nle (a := x.2.2.2) (b := 0) hc32
          rw [if_pos hp] at nxt
          refine C.aload_n dX13_nightGoes_35 0 rfl ?_
          refine C.getA fX13_151 dX13_nightGoes_36 hS.o hS.r59 ?_
          refine C.iload_n dX13_nightGoes_39 3 rfl ?_
          refine C.dup2 dX13_nightGoes_40 rfl rfl ?_
          refine C.iald hS.a59 (n_in (by omega)) dX13_nightGoes_41 ?_
          rw [n_cl, b4']
          refine C.iconst (nI 1) dX13_nightGoes_42 (by decide) ?_
          refine C.isub dX13_nightGoes_43 ?_
          rw [pk_sub (by omega)]
          refine C.iast hS.a59 (n_in (by omega)) dX13_nightGoes_44 ?_
          rw [n_cl]
          refine C.goto 91 dX13_nightGoes_45 rfl ?_
          first | exact nxt _ _ [0, 1, 2, 3] rfl (hT.now _ _) dec hc1 hrd | exact nxt _ _ [0, 1, 2] rfl (hT.now _ _) dec hc1 hrd | (rw [n_cl]; exact nxt _ _ [0, 1, 2] rfl ((hT.trans (TmG.ofH hT2)).now _ _) (kept _ hk1 _ hN2) ⟨d68, d69, d70⟩ hr2)
  refine C.iload_n dX13_nightGoes_0 1 rfl ?_
  refine C.if_ne 8 dX13_nightGoes_1 rfl (fun hc1 => ?_) (fun hc1 => ?_)
  · have hst : storm = true := b_t hc1
    refine C.iconst (nI 0) dX13_nightGoes_8 (by decide) ?_
    refine C.istore_n (lv' := [(0, _), (1, _), (2, _)]) dX13_nightGoes_9 (nLt hX rfl) rfl ?_
    first | exact loop d.2.2.2.1.length 0 a _ (by omega) hK TmG.refl hN hc hSW (fun q => by rw [hst] at q; cases q) | exact loop d.2.2.2.1.length 0 a _ (by omega) hK (TmG.ofR hT0) (hN.tr hT0) (hc.tr hT0) hSW (fun q h hh => by rw [hr0 h hh, ← hri]; rfl)
  · have hst : storm = false := (bI_0 storm).mp hc1
    refine C.aload_n dX13_nightGoes_4 0 rfl ?_
    refine C.callVV lX13_516 dX13_nightGoes_5 (ke_ridesNow hS hL hW hC hN.1 (by omega) hN.2.1 hmo hm2 (by omega)) hS.o rfl rfl (Nat.le_of_ble_eq_true rfl) (Nat.zero_le _) (Nat.zero_le _) (Nat.le_of_ble_eq_true rfl) (fun μ5 h5 => ?_)
    obtain ⟨hr0, hT0⟩ := h5
    refine C.iconst (nI 0) dX13_nightGoes_8 (by decide) ?_
    refine C.istore_n (lv' := [(0, _), (1, _), (2, _)]) dX13_nightGoes_9 (nLt hX rfl) rfl ?_
    first | exact loop d.2.2.2.1.length 0 a _ (by omega) hK TmG.refl hN hc hSW (fun q => by rw [hst] at q; cases q) | exact loop d.2.2.2.1.length 0 a _ (by omega) hK (TmG.ofR hT0) (hN.tr hT0) (hc.tr hT0) hSW (fun q h hh => by rw [hr0 h hh, ← hri]; rfl)
end KN4
