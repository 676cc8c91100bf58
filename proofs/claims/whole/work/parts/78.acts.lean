/-! the reference: see; acts -/

def pushP (S : St) (ps : List St) : List St := (S :: ps).take 20
section ACTP
variable {μ : Mm} {h : Hs}
theorem RefRel.of3 {μ' : Mm} {S : St} {ps : List St} (r : RefRel μ h) (e : μ'.2.2 = μ.2.2) (hI : ∀ a k, KpI a k → a ≠ 225 → a ≠ 232 → ¬ (a = 179 ∧ (k = 76 ∨ k = 77)) → mI μ' a k = mI μ a k) (hN : RfN μ' S) (hP : RfP μ' ps) (hL : ∀ k, 12 ≤ k → mL μ' 217 k = mL μ 217 k) (hD : mL μ' 179 78 = mL μ 179 78) : RefRel μ' (tpH h, flH h, rfH h, ldH h, S, ps, rwH h, ocH h, sdH h) := by
  obtain ⟨r1, r2, r3, r4, r5, r6, r7, r8, r9, r10⟩ := r
  refine ⟨r1.of e (fun a k q => hI a k (by unfold KpI; omega) (by omega) (by omega) (by omega)) (hI _ _ (by unfold KpI; omega) (by omega) (by omega) (by omega)) (hI _ _ (by unfold KpI; omega) (by omega) (by omega) (by omega)), r2.of (hI _ _ (by unfold KpI; omega) (by omega) (by omega) (by omega)) (fun k => hI _ _ (by unfold KpI; omega) (by omega) (by omega) (by omega)), r3.of (hI _ _ (by unfold KpI; omega) (by omega) (by omega) (by omega)) (hI _ _ (by unfold KpI; omega) (by omega) (by omega) (by omega)), r4.of (fun k => hI _ _ (by unfold KpI; omega) (by omega) (by omega) (by omega)), ⟨r5.1.of (fun a k q h3 h6 => hI _ _ (by unfold KpI; omega) (by omega) (by omega) (by omega)) (fun a k q h3 => hI _ _ (by unfold KpI; omega) (by omega) (by omega) (by omega)) (fun k q => hI _ _ (by unfold KpI; omega) (by omega) (by omega) (by omega)) (fun k q => hI _ _ (by unfold KpI; omega) (by omega) (by omega) (by omega)) hL, by rw [hI _ _ (by unfold KpI; omega) (by omega) (by omega) (by omega)]; exact r5.2⟩, hN, hP, r8.of (hI _ _ (by unfold KpI; omega) (by omega) (by omega) (by omega)) (fun k => hI _ _ (by unfold KpI; omega) (by omega) (by omega) (by omega)), r9.of (hI _ _ (by unfold KpI; omega) (by omega) (by omega) (by omega)) (fun k => hI _ _ (by unfold KpI; omega) (by omega) (by omega) (by omega)), by unfold RfD; rw [hD]; exact r10⟩
theorem nowR.of187 {f g : Nat → Int32} {S : St} (hn : nowR f S) (h6 : S.2.1.length ≤ 6) (h40 : S.2.2.length ≤ 40) (e : ∀ k, k < 187 → g k = f k) : nowR g S := by
  obtain ⟨a1, a2, a3, a4, a5⟩ := hn
  refine ⟨by rw [e _ (by decide)]; exact a1, by rw [e _ (by decide)]; exact a2, fun i x q => ?_, by rw [e _ (by decide)]; exact a4, fun i x q => ?_⟩
  · have := q_lt q
    rw [e _ (by omega), e _ (by omega), e _ (by omega), e _ (by omega)]
    exact a3 i x q
  · have := q_lt q
    rw [e _ (by omega), e _ (by omega), e _ (by omega), e _ (by omega)]
    exact a5 i x q
theorem FrR.of {μ' : Mm} (e : μ'.2 = μ.2) (ho : ∀ a k, (a < 179 ∨ 258 < a) → mI μ' a k = mI μ a k) : FrR μ μ' := ⟨by rw [e], fun a k q => ⟨ho a k q, by show μ'.2.1 a k = μ.2.1 a k; rw [e]⟩⟩
end ACTP
section KAC
variable {l : Launch} {G : Gm} {μ : Mm} {h : Hs}
theorem kr_keeps (hR : RefRel μ h) (hH : HOk h) : AMet l G 0 0 0 mtX13_keeps [.ref (G.1 + 179)] μ (qV (fun μ' => PR μ (tpH h, flH h, rfH h, ldH h, stH h, pushP (stH h) (psH h), rwH h, ocH h, sdH h) μ')) := by
  refine AMet.of (by decide) (Nat.le_of_ble_eq_true rfl) (fun X C hX hnm hq => ?_)
  have hS := hR.1.1
  have hN := hR.2.2.2.2.2.1
  obtain ⟨u1, nw, u2, u3, u4⟩ := hR.2.2.2.2.2.2.1
  have h20 := hH.1.2.2.1.1
  have sw := hH.1.2.1
  generalize hn2 : (nw + 1) % 20 = n2
  have n20 : n2 < 20 := by omega
  have fin : ∀ μ1 : Mm, μ1.2 = μ.2 → mI μ1 179 77 = nI n2 → (∀ k, k < 187 → mI μ1 232 (187 * n2 + k) = mI μ 225 k) → (∀ a k, ¬ (a = 232 ∧ 187 * n2 ≤ k ∧ k < 187 * n2 + 187) → ¬ (a = 179 ∧ k = 77) → mI μ1 a k = mI μ a k) → ∀ x1 : Int32, AW l G X 0 0 49 [(0, .ref (G.1 + 179)), (1, .int x1)] [] μ1 := by
    intro μ1 he h77 hcp ho x1
    have hS : ShM μ1 := hS.of (by rw [he])
    have c76 : mI μ1 179 76 = nI (psH h).length := by rw [ho _ _ (by omega) (by omega)]; exact u1
    have post : ∀ μ2 : Mm, μ2.2 = μ.2 → (∀ a k, ¬ (a = 179 ∧ k = 76) → mI μ2 a k = mI μ1 a k) → mI μ2 179 76 = nI (pushP (stH h) (psH h)).length → PR μ (tpH h, flH h, rfH h, ldH h, stH h, pushP (stH h) (psH h), rwH h, ocH h, sdH h) μ2 := by
      intro μ2 he2 ho2 h76
      have all : ∀ a k, ¬ (a = 232 ∧ 187 * n2 ≤ k ∧ k < 187 * n2 + 187) → ¬ (a = 179 ∧ (k = 76 ∨ k = 77)) → mI μ2 a k = mI μ a k := fun a k q q2 => by rw [ho2 a k (by omega)]; exact ho a k q (by omega)
      refine ⟨hR.of3 (by rw [he2]) (fun a k _ q q2 q3 => all a k (by omega) q3) (nowR.of hN (fun k => all _ _ (by omega) (by omega))) ⟨h76, n2, n20, by rw [ho2 _ _ (by omega)]; exact h77, fun i S hi => ?_⟩ (fun k _ => by show μ2.2.1 _ _ = μ.2.1 _ _; rw [he2]) (by show μ2.2.1 _ _ = μ.2.1 _ _; rw [he2]), FrR.of he2 (fun a k q => all a k (by omega) (by omega))⟩
      unfold pushP at hi
      have hi20 := q_lt hi
      rw [List.length_take] at hi20
      rw [List.getElem?_take_of_lt (by omega)] at hi
      cases i with
      | zero =>
        have e : stH h = S := Option.some.inj hi
        subst e
        rw [show (n2 + 20 - 0) % 20 = n2 by omega]
        have hg : ∀ k, k < 187 → mI μ2 232 (187 * n2 + k) = mI μ 225 k := fun k hk => by rw [ho2 _ _ (by omega)]; exact hcp k hk
        exact nowR.of187 (f := mI μ 225) hN (by rw [sw.2.2.1]; exact hH.1.1.sm.2.2.2.2) sw.2.2.2.2.1 hg
      | succ i =>
        rw [List.getElem?_cons_succ] at hi
        have hil := q_lt hi
        have hold := u4 i S hi
        have eix : (n2 + 20 - (i + 1)) % 20 = (nw + 20 - i) % 20 := by omega
        have hne : (nw + 20 - i) % 20 ≠ n2 := by omega
        rw [eix]
        have hw6 := hH.1.2.2.1.2 S (q_mem hi)
        have s6 : S.2.1.length ≤ 6 := by rw [hw6.2.2.1]; exact hH.1.1.sm.2.2.2.2
        have s40 := hw6.2.2.2.2.1
        generalize (nw + 20 - i) % 20 = sl at *
        have hg : ∀ k, k < 187 → mI μ2 232 (187 * sl + k) = mI μ 232 (187 * sl + k) := fun k hk => by
          refine all _ _ (fun z => ?_) (by omega)
          rcases Nat.lt_or_gt_of_ne hne with q | q
          · have : 187 * sl + 187 ≤ 187 * n2 := by omega
            omega
          · have : 187 * n2 + 187 ≤ 187 * sl := by omega
            omega
        exact nowR.of187 hold s6 s40 hg
    refine C.aload_n dX13_keeps_49 0 rfl ?_
    refine C.getI fX13_407 dX13_keeps_50 hS.o ?_
    rw [c76]
    refine C.bipush (nI 20) dX13_keeps_53 (by decide) ?_
    refine C.icmp_ge 68 dX13_keeps_55 rfl (fun hc55 => ?_) (fun hc55 => ?_)
    · have hge := n_le (a := 20) (b := (psH h).length) hc55
      refine C.vret hq dX13_keeps_68 ?_
      first | exact post _ he (fun _ _ _ => rfl) (by rw [c76]; unfold pushP; rw [List.length_take, List.length_cons]; congr 1; omega) | exact post _ he (fun a k q => by rw [mI_sI, if_neg q]) (by rw [mI_sI, if_pos ⟨rfl, rfl⟩]; unfold pushP; rw [List.length_take, List.length_cons]; congr 1; omega)
    · have hlt := n_nle (a := 20) (b := (psH h).length) hc55
      refine C.aload_n dX13_keeps_58 0 rfl ?_
      refine C.dup dX13_keeps_59 rfl ?_
      refine C.getI fX13_407 dX13_keeps_60 hS.o ?_
      rw [c76]
      refine C.iconst (nI 1) dX13_keeps_63 (by decide) ?_
      refine C.iadd dX13_keeps_64 ?_
      rw [nI_add]
      refine C.putI fX13_407 (Or.inl rfl) dX13_keeps_65 hS.o ?_
      refine C.vret hq dX13_keeps_68 ?_
      first | exact post _ he (fun _ _ _ => rfl) (by rw [c76]; unfold pushP; rw [List.length_take, List.length_cons]; congr 1; omega) | exact post _ he (fun a k q => by rw [mI_sI, if_neg q]) (by rw [mI_sI, if_pos ⟨rfl, rfl⟩]; unfold pushP; rw [List.length_take, List.length_cons]; congr 1; omega)
  have loop : ∀ (j k : Nat) (μ1 : Mm), k + j = 187 → μ1.2 = μ.2 → mI μ1 179 77 = nI n2 → (∀ i, i < k → mI μ1 232 (187 * n2 + i) = mI μ 225 i) → (∀ a i, ¬ (a = 232 ∧ 187 * n2 ≤ i ∧ i < 187 * n2 + 187) → ¬ (a = 179 ∧ i = 77) → mI μ1 a i = mI μ a i) → AW l G X 0 0 15 [(0, .ref (G.1 + 179)), (1, .int (nI k))] [] μ1 := by
    intro j
    induction j with
    | zero =>
      intro k μ1 hk he h77 hcp ho
      refine C.iload_n dX13_keeps_15 1 rfl ?_
      refine C.sipush (nI 187) dX13_keeps_16 (by decide) ?_
      refine C.icmp_ge 49 dX13_keeps_19 rfl (fun hc19 => ?_) (fun hc19 => ?_)
      · exact fin μ1 he h77 (fun i hi => hcp i (by omega)) ho _
      · have := n_nle (a := 187) (b := k) hc19; omega
    | succ j ih =>
      intro k μ1 hk he h77 hcp ho
      have hS : ShM μ1 := hS.of (by rw [he])
      refine C.iload_n dX13_keeps_15 1 rfl ?_
      refine C.sipush (nI 187) dX13_keeps_16 (by decide) ?_
      refine C.icmp_ge 49 dX13_keeps_19 rfl (fun hc19 => ?_) (fun hc19 => ?_)
      · have := n_le (a := 187) (b := k) hc19; omega
      · refine C.aload_n dX13_keeps_22 0 rfl ?_
        refine C.getA fX13_176 dX13_keeps_23 hS.o hS.r75 ?_
        refine C.sipush (nI 187) dX13_keeps_26 (by decide) ?_
        refine C.aload_n dX13_keeps_29 0 rfl ?_
        refine C.getI fX13_588 dX13_keeps_30 hS.o ?_
        rw [h77]
        refine C.imul dX13_keeps_33 ?_
        rw [pk_mul]
        refine C.iload_n dX13_keeps_34 1 rfl ?_
        refine C.iadd dX13_keeps_35 ?_
        rw [nI_add]
        refine C.aload_n dX13_keeps_36 0 rfl ?_
        refine C.getA fX13_151 dX13_keeps_37 hS.o hS.r59 ?_
        refine C.iload_n dX13_keeps_40 1 rfl ?_
        refine C.iald hS.a59 (n_in (by omega)) dX13_keeps_41 ?_
        rw [n_cl, ho 225 k (by omega) (by omega)]
        refine C.iast hS.a75 (n_in (by omega)) dX13_keeps_42 ?_
        rw [n_cl]
        refine C.iinc (lv' := [(0, _), (1, _)]) _ dX13_keeps_43 1 rfl rfl (nLt hX rfl) rfl ?_
        refine C.goto 15 dX13_keeps_46 rfl ?_
        have hgo := ih (k + 1) (sI μ1 232 (187 * n2 + k) (mI μ 225 k)) (by omega) he (by rw [mI_sI, if_neg (by omega)]; exact h77) (fun i hi => by rw [mI_sI]; by_cases q : i = k; rw [if_pos ⟨rfl, by omega⟩, q]; rw [if_neg (by omega)]; exact hcp i (by omega)) (fun a i q q2 => by rw [mI_sI, if_neg (by omega)]; exact ho a i q q2)
        rw [← nI_1] at hgo
        exact hgo
  refine C.aload_n dX13_keeps_0 0 rfl ?_
  refine C.aload_n dX13_keeps_1 0 rfl ?_
  refine C.getI fX13_588 dX13_keeps_2 hS.o ?_
  rw [u3]
  refine C.iconst (nI 1) dX13_keeps_5 (by decide) ?_
  refine C.iadd dX13_keeps_6 ?_
  rw [nI_add]
  refine C.bipush (nI 20) dX13_keeps_7 (by decide) ?_
  refine C.irem dX13_keeps_9 (by decide) ?_
  rw [pk_rem (by omega) (by decide) (by decide), hn2]
  refine C.putI fX13_588 (Or.inl rfl) dX13_keeps_10 hS.o ?_
  refine C.iconst (nI 0) dX13_keeps_13 (by decide) ?_
  refine C.istore_n (lv' := [(0, _), (1, _)]) dX13_keeps_14 (nLt hX rfl) rfl ?_
  exact loop 187 0 _ rfl rfl (by simp [mI_sI]) (fun i hi => by omega) (fun a i _ q => by rw [mI_sI, if_neg q])
def undoH (h : Hs) : Hs := match psH h with
  | [] => (tpH h, flH h, upR (rfH h) 4, ldH h, stH h, psH h, rwH h, ocH h, sdH h)
  | S :: ps => (tpH h, flH h, rfH h, ldH h, S, ps, rwH h, ocH h, sdH h)
def undoA (h : Hs) : Int32 := bI (!(psH h).isEmpty)
theorem RefRel.rf2 (hR : RefRel μ h) {j : Nat} (hj : j < 6) : mI μ 181 j = rfH h j ∧ PR μ (tpH h, flH h, upR (rfH h) j, ldH h, stH h, psH h, rwH h, ocH h, sdH h) (sI μ 181 j (rfH h j + nI 1)) := ⟨hR.2.2.2.1 j hj, hR.rfs hj, (FrR.refl μ).st (by omega) _⟩
theorem kr_undo (hR : RefRel μ h) (hH : HOk h) : AMet l G 0 0 0 mtX13_undo [.ref (G.1 + 179)] μ (qI (fun x μ' => x = undoA h ∧ PR μ (undoH h) μ')) := by
  refine AMet.of (by decide) (Nat.le_of_ble_eq_true rfl) (fun X C hX hnm hq => ?_)
  have hS := hR.1.1
  have hN := hR.2.2.2.2.2.1
  obtain ⟨u1, nw, u2, u3, u4⟩ := hR.2.2.2.2.2.2.1
  have h20 := hH.1.2.2.1.1
  obtain ⟨r4, p4⟩ := hR.rf2 (j := 4) (by decide)
  unfold undoA undoH at hq
  cases hps : psH h with
  | nil =>
    rw [hps] at hq u1 p4
    refine C.aload_n dX13_undo_0 0 rfl ?_
    refine C.getI fX13_407 dX13_undo_1 hS.o ?_
    rw [u1]
    refine C.if_ne 19 dX13_undo_4 rfl (fun hc4 => ?_) (fun hc4 => ?_)
    · exact absurd rfl hc4
    · refine C.aload_n dX13_undo_7 0 rfl ?_
      refine C.getA fX13_17 dX13_undo_8 hS.o hS.r9 ?_
      refine C.iconst (nI 4) dX13_undo_11 (by decide) ?_
      refine C.dup2 dX13_undo_12 rfl rfl ?_
      refine C.iald hS.a9 (n_in (by decide)) dX13_undo_13 ?_
      rw [n_cl, r4]
      refine C.iconst (nI 1) dX13_undo_14 (by decide) ?_
      refine C.iadd dX13_undo_15 ?_
      refine C.iast hS.a9 (n_in (by decide)) dX13_undo_16 ?_
      rw [n_cl]
      refine C.iconst (nI 0) dX13_undo_17 (by decide) ?_
      refine C.zret hq dX13_undo_18 (by decide) ?_
      exact ⟨rfl, p4⟩
  | cons S0 ps =>
    have hq0 := u4 0 S0 (by rw [hps]; rfl)
    rw [show (nw + 20 - 0) % 20 = nw by omega] at hq0
    have hlen : (psH h).length = ps.length + 1 := by rw [hps]; rfl
    have sw0 := hH.1.2.2.1.2 S0 (by rw [hps]; exact List.mem_cons_self)
    have s6 : S0.2.1.length ≤ 6 := by rw [sw0.2.2.1]; exact hH.1.1.sm.2.2.2.2
    have s40 := sw0.2.2.2.2.1
    rw [hps] at hq
    dsimp only at hq
    have fin : ∀ μ1 : Mm, μ1.2 = μ.2 → (∀ k, k < 187 → mI μ1 225 k = mI μ 232 (187 * nw + k)) → (∀ a k, ¬ (a = 225 ∧ k < 187) → mI μ1 a k = mI μ a k) → ∀ x1 : Int32, AW l G X 0 0 55 [(0, .ref (G.1 + 179)), (1, .int x1)] [] μ1 := by
      intro μ1 he hcp ho x1
      have hS : ShM μ1 := hS.of (by rw [he])
      have c77 : mI μ1 179 77 = nI nw := by rw [ho _ _ (by omega)]; exact u3
      have c76 : mI (sI μ1 179 77 (nI ((nw + 19) % 20))) 179 76 = nI (psH h).length := by rw [mI_sI, if_neg (by omega), ho _ _ (by omega)]; exact u1
      refine C.aload_n dX13_undo_55 0 rfl ?_
      refine C.aload_n dX13_undo_56 0 rfl ?_
      refine C.getI fX13_588 dX13_undo_57 hS.o ?_
      rw [c77]
      refine C.bipush (nI 20) dX13_undo_60 (by decide) ?_
      refine C.iadd dX13_undo_62 ?_
      rw [nI_add]
      refine C.iconst (nI 1) dX13_undo_63 (by decide) ?_
      refine C.isub dX13_undo_64 ?_
      rw [pk_sub (by omega), show nw + 20 - 1 = nw + 19 by omega]
      refine C.bipush (nI 20) dX13_undo_65 (by decide) ?_
      refine C.irem dX13_undo_67 (by decide) ?_
      rw [pk_rem (by omega) (by decide) (by decide)]
      refine C.putI fX13_588 (Or.inl rfl) dX13_undo_68 hS.o ?_
      refine C.aload_n dX13_undo_71 0 rfl ?_
      refine C.dup dX13_undo_72 rfl ?_
      refine C.getI fX13_407 dX13_undo_73 hS.o ?_
      rw [c76, hlen]
      refine C.iconst (nI 1) dX13_undo_76 (by decide) ?_
      refine C.isub dX13_undo_77 ?_
      rw [pk_sub (by omega), Nat.add_sub_cancel]
      refine C.putI fX13_407 (Or.inl rfl) dX13_undo_78 hS.o ?_
      refine C.iconst (nI 1) dX13_undo_81 (by decide) ?_
      refine C.zret hq dX13_undo_82 (by decide) ?_
      refine ⟨rfl, hR.of3 (by rw [← he]; rfl) (fun a k _ q q2 q3 => by rw [mI_sI, if_neg (by omega), mI_sI, if_neg (by omega)]; exact ho a k (by omega)) ?_ ⟨by rw [mI_sI, if_pos ⟨rfl, rfl⟩], (nw + 19) % 20, by omega, by rw [mI_sI, if_neg (by omega), mI_sI, if_pos ⟨rfl, rfl⟩], fun i S hi => ?_⟩ (fun k _ => by show μ1.2.1 _ _ = μ.2.1 _ _; rw [he]) (by show μ1.2.1 _ _ = μ.2.1 _ _; rw [he]), FrR.of he (fun a k q => by rw [mI_sI, if_neg (by omega), mI_sI, if_neg (by omega)]; exact ho a k (by omega))⟩
      · exact nowR.of187 hq0 s6 s40 (fun k hk => by rw [mI_sI, if_neg (by omega), mI_sI, if_neg (by omega)]; exact hcp k hk)
      · have hil := q_lt hi
        rw [show ((nw + 19) % 20 + 20 - i) % 20 = (nw + 20 - (i + 1)) % 20 by omega]
        exact nowR.of (u4 (i + 1) S (by rw [hps]; exact hi)) (fun k => by rw [mI_sI, if_neg (by omega), mI_sI, if_neg (by omega)]; exact ho _ _ (by omega))
    have loop : ∀ (j k : Nat) (μ1 : Mm), k + j = 187 → μ1.2 = μ.2 → (∀ i, i < k → mI μ1 225 i = mI μ 232 (187 * nw + i)) → (∀ a i, ¬ (a = 225 ∧ i < 187) → mI μ1 a i = mI μ a i) → AW l G X 0 0 21 [(0, .ref (G.1 + 179)), (1, .int (nI k))] [] μ1 := by
      intro j
      induction j with
      | zero =>
        intro k μ1 hk he hcp ho
        refine C.iload_n dX13_undo_21 1 rfl ?_
        refine C.sipush (nI 187) dX13_undo_22 (by decide) ?_
        refine C.icmp_ge 55 dX13_undo_25 rfl (fun hc25 => ?_) (fun hc25 => ?_)
        · exact fin μ1 he (fun i hi => hcp i (by omega)) ho _
        · have := n_nle (a := 187) (b := k) hc25; omega
      | succ j ih =>
        intro k μ1 hk he hcp ho
        have hS : ShM μ1 := hS.of (by rw [he])
        have c77 : mI μ1 179 77 = nI nw := by rw [ho _ _ (by omega)]; exact u3
        refine C.iload_n dX13_undo_21 1 rfl ?_
        refine C.sipush (nI 187) dX13_undo_22 (by decide) ?_
        refine C.icmp_ge 55 dX13_undo_25 rfl (fun hc25 => ?_) (fun hc25 => ?_)
        · have := n_le (a := 187) (b := k) hc25; omega
        · refine C.aload_n dX13_undo_28 0 rfl ?_
          refine C.getA fX13_151 dX13_undo_29 hS.o hS.r59 ?_
          refine C.iload_n dX13_undo_32 1 rfl ?_
          refine C.aload_n dX13_undo_33 0 rfl ?_
          refine C.getA fX13_176 dX13_undo_34 hS.o hS.r75 ?_
          refine C.sipush (nI 187) dX13_undo_37 (by decide) ?_
          refine C.aload_n dX13_undo_40 0 rfl ?_
          refine C.getI fX13_588 dX13_undo_41 hS.o ?_
          rw [c77]
          refine C.imul dX13_undo_44 ?_
          rw [pk_mul]
          refine C.iload_n dX13_undo_45 1 rfl ?_
          refine C.iadd dX13_undo_46 ?_
          rw [nI_add]
          refine C.iald hS.a75 (n_in (by omega)) dX13_undo_47 ?_
          rw [n_cl, ho 232 _ (by omega)]
          refine C.iast hS.a59 (n_in (by omega)) dX13_undo_48 ?_
          rw [n_cl]
          refine C.iinc (lv' := [(0, _), (1, _)]) _ dX13_undo_49 1 rfl rfl (nLt hX rfl) rfl ?_
          refine C.goto 21 dX13_undo_52 rfl ?_
          have hgo := ih (k + 1) (sI μ1 225 k (mI μ 232 (187 * nw + k))) (by omega) he (fun i hi => by rw [mI_sI]; by_cases q : i = k; rw [if_pos ⟨rfl, q⟩, q]; rw [if_neg (by omega)]; exact hcp i (by omega)) (fun a i q => by rw [mI_sI, if_neg (by omega)]; exact ho a i q)
          rw [← nI_1] at hgo
          exact hgo
    refine C.aload_n dX13_undo_0 0 rfl ?_
    refine C.getI fX13_407 dX13_undo_1 hS.o ?_
    rw [u1, hlen]
    refine C.if_ne 19 dX13_undo_4 rfl (fun hc4 => ?_) (fun hc4 => ?_)
    · refine C.iconst (nI 0) dX13_undo_19 (by decide) ?_
      refine C.istore_n (lv' := [(0, _), (1, _)]) dX13_undo_20 (nLt hX rfl) rfl ?_
      exact loop 187 0 μ (by omega) rfl (fun i hi => by omega) (fun _ _ _ => rfl)
    · have := n_eq (a := ps.length + 1) (b := 0) hc4; omega
end KAC
