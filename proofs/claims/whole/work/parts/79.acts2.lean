/-! the reference: ring, does, nights, seed, chance, see -/

def ringO (h : Hs) (x y : Int32) : Option Nat := match inN x (ldH h).2.2.1.length with
  | some b => (match inN y 2 with
    | some o => if (stH h).1.2 / 2 ^ b % 2 = o then none else some b
    | none => none)
  | none => none
def rfsH (h : Hs) (j : Nat) : Hs := (tpH h, flH h, upR (rfH h) j, ldH h, stH h, psH h, rwH h, ocH h, sdH h)
def actH (h : Hs) (S : St) : Hs := (tpH h, flH h, rfH h, ldH h, S, pushP (stH h) (psH h), rwH h, ocH h, sdH h)
def ringH (h : Hs) (x y : Int32) : Hs := match ringO h x y with
  | some b => actH h (((stH h).1.1, (stH h).1.2 ^^^ 2 ^ b), (stH h).2)
  | none => rfsH h 2
def ringA (h : Hs) (x y : Int32) : Int32 := bI (ringO h x y).isSome
def doesO (h : Hs) (x y : Int32) : Option (Nat × Nat) := match inN x (ldH h).2.2.2.1.length with
  | some w => (match inN y 4 with
    | some m => if (wkS (stH h) w).1 = m then none else some (w, m)
    | none => none)
  | none => none
def doesH (h : Hs) (x y : Int32) : Hs := match doesO h x y with
  | some (w, m) => actH h (putW (stH h) w (setW (wkS (stH h) w) 0 m))
  | none => rfsH h 2
def doesA (h : Hs) (x y : Int32) : Int32 := bI (doesO h x y).isSome
def nightsH (h : Hs) (x : Int32) : Hs := match ahdN h x 1 100 with
  | some n => actH h (nightsA (ldH h) none false n (stH h, 0, 0, 0)).1
  | none => rfsH h 3
def nightsV (h : Hs) (x : Int32) : Int32 := match ahdN h x 1 100 with
  | some n => nI (nightsA (ldH h) none false n (stH h, 0, 0, 0)).2.1
  | none => -1
def seedH (h : Hs) (x : Int32) : Hs := if x < 0 then rfsH h 5 else (tpH h, flH h, rfH h, ldH h, stH h, psH h, rwH h, ocH h, nn x)
def seedA (x : Int32) : Int32 := bI (!decide (x < 0))
def drw (sd : Nat) : Nat := (1103515245 * sd + 12345) % 2147483648
def stmB (d : Ld) (sd : Nat) : Bool := decide (drw sd / 64 % 100 < d.2.2.2.2.1.2.2)
def chnL (d : Ld) : Nat → St × Nat × Nat → St × Nat × Nat
  | 0, a => a
  | n + 1, a => chnL d n ((nightA d none false (stmB d a.2.1) (a.1, 0, 0, 0)).1, drw a.2.1, if stmB d a.2.1 then a.2.2 + 1 else a.2.2)
def chanceH (h : Hs) (x : Int32) : Hs := match ahdN h x 1 100 with
  | some n => (tpH h, flH h, rfH h, ldH h, (chnL (ldH h) n (stH h, sdH h, 0)).1, pushP (stH h) (psH h), rwH h, ocH h, (chnL (ldH h) n (stH h, sdH h, 0)).2.1)
  | none => rfsH h 3
def chanceA (h : Hs) (x : Int32) : Int32 := match ahdN h x 1 100 with
  | some n => nI (chnL (ldH h) n (stH h, sdH h, 0)).2.2
  | none => -1
section KA2
variable {l : Launch} {G : Gm} {μ : Mm} {h : Hs}
theorem PR.trans {μ' μ'' : Mm} {h' h'' : Hs} (p : PR μ h' μ') (p2 : PR μ' h'' μ'') : PR μ h'' μ'' := ⟨p2.1, p.2.trans p2.2⟩
/-- the state alone is another -/
theorem RefRel.now {S : St} (hR : RefRel μ h) {μ' : Mm} (e : μ'.2 = μ.2) (ho : ∀ a k, a ≠ 225 → mI μ' a k = mI μ a k) (hN : RfN μ' S) : PR μ (tpH h, flH h, rfH h, ldH h, S, psH h, rwH h, ocH h, sdH h) μ' := ⟨hR.of2 (by rw [e]) (fun a k _ q _ => ho a k q) (by rw [ho _ _ (by decide)]; exact hR.1.2.2.1) (by rw [ho _ _ (by decide)]; exact hR.1.2.2.2) hN (fun k _ => by show μ'.2.1 _ _ = μ.2.1 _ _; rw [e]) (by show μ'.2.1 _ _ = μ.2.1 _ _; rw [e]), FrR.of e (fun a k q => ho a k (by omega))⟩
theorem kr_ring (hR : RefRel μ h) (hH : HOk h) (x y : Int32) : AMet l G 2 0 0 mtX13_ring [.ref (G.1 + 179), .int x, .int y] μ (qI (fun z μ' => z = ringA h x y ∧ PR μ (ringH h x y) μ')) := by
  refine AMet.of (by decide) (Nat.le_of_ble_eq_true rfl) (fun X C hX hnm hq => ?_)
  have hS := hR.1.1
  have hL := hR.2.2.2.2.1.1
  have hN := hR.2.2.2.2.2.1
  have sm := hH.1.1.sm
  have sw := hH.1.2.1
  have hr5 := two5 sw.2.1 sm.2.2.2.1
  obtain ⟨r2, p2⟩ := hR.rf2 (j := 2) (by decide)
  unfold ringA ringH at hq
  have no : ringO h x y = none → AW l G X 0 0 32 [(0, .ref (G.1 + 179)), (1, .int x), (2, .int y)] [] μ := by
    intro hn
    rw [hn] at hq
    refine C.aload_n dX13_ring_32 0 rfl ?_
    refine C.getA fX13_17 dX13_ring_33 hS.o hS.r9 ?_
    refine C.iconst (nI 2) dX13_ring_36 (by decide) ?_
    refine C.dup2 dX13_ring_37 rfl rfl ?_
    refine C.iald hS.a9 (n_in (by decide)) dX13_ring_38 ?_
    rw [n_cl, r2]
    refine C.iconst (nI 1) dX13_ring_39 (by decide) ?_
    refine C.iadd dX13_ring_40 ?_
    refine C.iast hS.a9 (n_in (by decide)) dX13_ring_41 ?_
    rw [n_cl]
    refine C.iconst (nI 0) dX13_ring_42 (by decide) ?_
    refine C.zret hq dX13_ring_43 (by decide) ?_
    exact ⟨rfl, p2⟩
  refine C.aload_n dX13_ring_0 0 rfl ?_
  refine C.iload_n dX13_ring_1 1 rfl ?_
  refine C.callVI lX13_551 dX13_ring_2 (kg_isBell hS hL (by omega) x) hS.o rfl rfl (Nat.le_of_ble_eq_true rfl) (Nat.zero_le _) (Nat.zero_le _) (Nat.le_of_ble_eq_true rfl) (fun x2 μ2 h2 => ?_)
  obtain ⟨hx2, hμ⟩ := h2
  subst hμ
  have hi := isIn_f (by omega) hx2
  refine C.if_eq 32 dX13_ring_5 rfl (fun hc5 => ?_) (fun hc5 => ?_)
  · exact no (by unfold ringO; rw [hi.1 hc5])
  · obtain ⟨b, hb, e, hin⟩ := hi.2 hc5
    refine C.iload_n dX13_ring_8 2 rfl ?_
    refine C.i2l dX13_ring_9 ?_
    refine C.lconst (lN 0) dX13_ring_10 (by decide) ?_
    refine C.lconst (lN 1) dX13_ring_11 (by decide) ?_
    refine C.callSI lX13_307 dX13_ring_12 (km_isIn _ _ _) rfl rfl (Nat.le_of_ble_eq_true rfl) (Nat.zero_le _) (Nat.zero_le _) (Nat.le_of_ble_eq_true rfl) (fun x12 μ12 h12 => ?_)
    obtain ⟨hx12, hμ⟩ := h12
    subst hμ
    simp only [isIn_c (n := 1) (by decide)] at hx12
    have hi2 := isIn_f (n := 2) (by decide) hx12
    refine C.if_eq 32 dX13_ring_15 rfl (fun hc15 => ?_) (fun hc15 => ?_)
    · exact no (by unfold ringO; rw [hin, hi2.1 hc15])
    · obtain ⟨o, ho, e2, hin2⟩ := hi2.2 hc15
      subst e
      subst e2
      refine C.aload_n dX13_ring_18 0 rfl ?_
      refine C.getA fX13_151 dX13_ring_19 hS.o hS.r59 ?_
      refine C.iconst (nI 1) dX13_ring_22 (by decide) ?_
      refine C.iald hS.a59 (n_in (by decide)) dX13_ring_23 ?_
      rw [n_cl, hN.2.1]
      refine C.iload_n dX13_ring_24 1 rfl ?_
      refine C.ishr dX13_ring_25 ?_
      refine C.iconst (nI 1) dX13_ring_26 (by decide) ?_
      refine C.iand dX13_ring_27 ?_
      rw [bit_eq (by omega) (by omega)]
      refine C.iload_n dX13_ring_28 2 rfl ?_
      refine C.icmp_ne 44 dX13_ring_29 rfl (fun hc29 => ?_) (fun hc29 => ?_)
      · have hz : ¬ (stH h).1.2 / 2 ^ b % 2 = o := n_ne hc29
        have hO : ringO h (nI b) (nI o) = some b := by unfold ringO; rw [hin, hin2]; exact if_neg hz
        rw [hO] at hq
        dsimp only at hq
        obtain ⟨x1, x2⟩ := xor1 hr5 (show b < 5 by omega)
        refine C.aload_n dX13_ring_44 0 rfl ?_
        refine C.callVV lX13_591 dX13_ring_45 (kr_keeps hR hH) hS.o rfl rfl (Nat.le_of_ble_eq_true rfl) (Nat.zero_le _) (Nat.zero_le _) (Nat.le_of_ble_eq_true rfl) (fun μ45 h45 => ?_)
        have hR2 := h45.1
        have hS := hR2.1.1
        have hN2 := hR2.2.2.2.2.2.1
        refine C.aload_n dX13_ring_48 0 rfl ?_
        refine C.getA fX13_151 dX13_ring_49 hS.o hS.r59 ?_
        refine C.iconst (nI 1) dX13_ring_52 (by decide) ?_
        refine C.dup2 dX13_ring_53 rfl rfl ?_
        refine C.iald hS.a59 (n_in (by decide)) dX13_ring_54 ?_
        rw [n_cl, hN2.2.1]
        refine C.iconst (nI 1) dX13_ring_55 (by decide) ?_
        refine C.iload_n dX13_ring_56 1 rfl ?_
        refine C.ishl dX13_ring_57 ?_
        refine C.ixor dX13_ring_58 ?_
        rw [show (stH (tpH h, flH h, rfH h, ldH h, stH h, pushP (stH h) (psH h), rwH h, ocH h, sdH h)).1.2 = (stH h).1.2 from rfl, x1]
        refine C.iast hS.a59 (n_in (by decide)) dX13_ring_59 ?_
        rw [n_cl]
        refine C.iconst (nI 1) dX13_ring_60 (by decide) ?_
        refine C.zret hq dX13_ring_61 (by decide) ?_
        exact ⟨rfl, h45.trans (hR2.now rfl (fun a k q => by rw [mI_sI, if_neg (fun z => q z.1)]) (hN2.rg _))⟩
      · have hz : (stH h).1.2 / 2 ^ b % 2 = o := n_eq hc29
        exact no (by unfold ringO; rw [hin, hin2]; exact if_pos hz)
theorem kr_does (hR : RefRel μ h) (hH : HOk h) (x y : Int32) : AMet l G 2 0 0 mtX13_does [.ref (G.1 + 179), .int x, .int y] μ (qI (fun z μ' => z = doesA h x y ∧ PR μ (doesH h x y) μ')) := by
  refine AMet.of (by decide) (Nat.le_of_ble_eq_true rfl) (fun X C hX hnm hq => ?_)
  have hS := hR.1.1
  have hL := hR.2.2.2.2.1.1
  have hN := hR.2.2.2.2.2.1
  have sm := hH.1.1.sm
  have sw := hH.1.2.1
  obtain ⟨r2, p2⟩ := hR.rf2 (j := 2) (by decide)
  unfold doesA doesH at hq
  have no : doesO h x y = none → AW l G X 0 0 29 [(0, .ref (G.1 + 179)), (1, .int x), (2, .int y)] [] μ := by
    intro hn
    rw [hn] at hq
    refine C.aload_n dX13_does_29 0 rfl ?_
    refine C.getA fX13_17 dX13_does_30 hS.o hS.r9 ?_
    refine C.iconst (nI 2) dX13_does_33 (by decide) ?_
    refine C.dup2 dX13_does_34 rfl rfl ?_
    refine C.iald hS.a9 (n_in (by decide)) dX13_does_35 ?_
    rw [n_cl, r2]
    refine C.iconst (nI 1) dX13_does_36 (by decide) ?_
    refine C.iadd dX13_does_37 ?_
    refine C.iast hS.a9 (n_in (by decide)) dX13_does_38 ?_
    rw [n_cl]
    refine C.iconst (nI 0) dX13_does_39 (by decide) ?_
    refine C.zret hq dX13_does_40 (by decide) ?_
    exact ⟨rfl, p2⟩
  refine C.aload_n dX13_does_0 0 rfl ?_
  refine C.iload_n dX13_does_1 1 rfl ?_
  refine C.callVI lX13_557 dX13_does_2 (kg_isWalker hS hL (by omega) x) hS.o rfl rfl (Nat.le_of_ble_eq_true rfl) (Nat.zero_le _) (Nat.zero_le _) (Nat.le_of_ble_eq_true rfl) (fun x2 μ2 h2 => ?_)
  obtain ⟨hx2, hμ⟩ := h2
  subst hμ
  have hi := isIn_f (by omega) hx2
  refine C.if_eq 29 dX13_does_5 rfl (fun hc5 => ?_) (fun hc5 => ?_)
  · exact no (by unfold doesO; rw [hi.1 hc5])
  · obtain ⟨w, hw, e, hin⟩ := hi.2 hc5
    refine C.iload_n dX13_does_8 2 rfl ?_
    refine C.i2l dX13_does_9 ?_
    refine C.lconst (lN 0) dX13_does_10 (by decide) ?_
    refine C.ldc2 kX13_560 dX13_does_11 ?_
    refine C.callSI lX13_307 dX13_does_14 (km_isIn _ _ _) rfl rfl (Nat.le_of_ble_eq_true rfl) (Nat.zero_le _) (Nat.zero_le _) (Nat.le_of_ble_eq_true rfl) (fun x14 μ14 h14 => ?_)
    obtain ⟨hx14, hμ⟩ := h14
    subst hμ
    simp only [show (3 : Int64) = lN 3 from rfl, isIn_c (n := 3) (by decide)] at hx14
    have hi2 := isIn_f (n := 4) (by decide) hx14
    refine C.if_eq 29 dX13_does_17 rfl (fun hc17 => ?_) (fun hc17 => ?_)
    · exact no (by unfold doesO; rw [hin, hi2.1 hc17])
    · obtain ⟨m, hm, e2, hin2⟩ := hi2.2 hc17
      subst e
      subst e2
      have hwl : w < (stH h).2.1.length := by rw [sw.2.2.1]; exact hw
      have b1 := (hN.wk hwl).1
      have hx3 := (sw.wk hw).1
      refine C.aload_n dX13_does_20 0 rfl ?_
      refine C.iload_n dX13_does_21 1 rfl ?_
      refine C.callVI lX13_486 dX13_does_22 (ke_manner hS (i := w) (by omega)) hS.o rfl rfl (Nat.le_of_ble_eq_true rfl) (Nat.zero_le _) (Nat.zero_le _) (Nat.le_of_ble_eq_true rfl) (fun x22 μ22 h22 => ?_)
      obtain ⟨rfl, hμ⟩ := h22
      subst hμ
      rw [b1]
      refine C.iload_n dX13_does_25 2 rfl ?_
      refine C.icmp_ne 41 dX13_does_26 rfl (fun hc26 => ?_) (fun hc26 => ?_)
      · have hz : ¬ (wkS (stH h) w).1 = m := n_ne hc26
        have hO : doesO h (nI w) (nI m) = some (w, m) := by unfold doesO; rw [hin, hin2]; exact if_neg hz
        rw [hO] at hq
        dsimp only at hq
        refine C.aload_n dX13_does_41 0 rfl ?_
        refine C.callVV lX13_591 dX13_does_42 (kr_keeps hR hH) hS.o rfl rfl (Nat.le_of_ble_eq_true rfl) (Nat.zero_le _) (Nat.zero_le _) (Nat.le_of_ble_eq_true rfl) (fun μ42 h42 => ?_)
        have hR2 := h42.1
        have hS := hR2.1.1
        have hN2 : RfN μ42 (stH h) := hR2.2.2.2.2.2.1
        refine C.aload_n dX13_does_45 0 rfl ?_
        refine C.getA fX13_151 dX13_does_46 hS.o hS.r59 ?_
        refine C.iconst (nI 2) dX13_does_49 (by decide) ?_
        refine C.iconst (nI 4) dX13_does_50 (by decide) ?_
        refine C.iload_n dX13_does_51 1 rfl ?_
        refine C.imul dX13_does_52 ?_
        rw [pk_mul]
        refine C.iadd dX13_does_53 ?_
        rw [nI_add]
        refine C.iload_n dX13_does_54 2 rfl ?_
        refine C.iast hS.a59 (n_in (by omega)) dX13_does_55 ?_
        rw [n_cl]
        refine C.iconst (nI 1) dX13_does_56 (by decide) ?_
        refine C.zret hq dX13_does_57 (by decide) ?_
        exact ⟨rfl, h42.trans (hR2.now rfl (fun a k q => by rw [mI_sI, if_neg (fun z => q z.1)]) (hN2.st (w := w) (j := 0) m hwl (by decide) (by rw [sw.2.2.1]; omega)))⟩
      · have hz : (wkS (stH h) w).1 = m := n_eq hc26
        exact no (by unfold doesO; rw [hin, hin2]; exact if_pos hz)
theorem kr_refuses (hR : RefRel μ h) {j : Nat} (hj : j < 6) : AMet l G 0 0 0 mtX13_refuses [.ref (G.1 + 179), .int (nI j)] μ (qI (fun x μ' => x = -1 ∧ PR μ (rfsH h j) μ')) := by
  refine AMet.of (by decide) (Nat.le_of_ble_eq_true rfl) (fun X C hX hnm hq => ?_)
  have hS := hR.1.1
  obtain ⟨r2, p2⟩ := hR.rf2 hj
  refine C.aload_n dX13_refuses_0 0 rfl ?_
  refine C.getA fX13_17 dX13_refuses_1 hS.o hS.r9 ?_
  refine C.iload_n dX13_refuses_4 1 rfl ?_
  refine C.dup2 dX13_refuses_5 rfl rfl ?_
  refine C.iald hS.a9 (n_in hj) dX13_refuses_6 ?_
  rw [n_cl, r2]
  refine C.iconst (nI 1) dX13_refuses_7 (by decide) ?_
  refine C.iadd dX13_refuses_8 ?_
  refine C.iast hS.a9 (n_in hj) dX13_refuses_9 ?_
  rw [n_cl]
  refine C.iconst (-1) dX13_refuses_10 (by decide) ?_
  refine C.iret hq dX13_refuses_11 ?_
  exact ⟨rfl, p2⟩
theorem RefRel.tmG {S : St} (hR : RefRel μ h) {μ' : Mm} (t : TmG μ μ') (hN : RfN μ' S) : PR μ (tpH h, flH h, rfH h, ldH h, S, psH h, rwH h, ocH h, sdH h) μ' := hR.tmA (TmA.ofG t) (by rw [t.2.1 _ _ (by unfold pG pW; omega) (by decide) (by decide)]; exact hR.1.2.2.1) (by rw [t.2.1 _ _ (by unfold pG pW; omega) (by decide) (by decide)]; exact hR.1.2.2.2) hN
theorem kr_nights (hR : RefRel μ h) (hH : HOk h) (x : Int32) : AMet l G 9 0 0 mtX13_nights [.ref (G.1 + 179), .int x] μ (qI (fun z μ' => z = nightsV h x ∧ PR μ (nightsH h x) μ')) := by
  refine AMet.of (by decide) (Nat.le_of_ble_eq_true rfl) (fun X C hX hnm hq => ?_)
  have hS := hR.1.1
  have sw := hH.1.2.1
  unfold nightsV nightsH at hq
  refine C.aload_n dX13_nights_0 0 rfl ?_
  refine C.iload_n dX13_nights_1 1 rfl ?_
  refine C.iconst (nI 1) dX13_nights_2 (by decide) ?_
  refine C.bipush (nI 100) dX13_nights_3 (by decide) ?_
  refine C.callVI lX13_573 dX13_nights_5 (kr_isAhead hR hH x (lo := 1) (hi := 100) (by decide) (by decide)) hS.o rfl rfl (Nat.le_of_ble_eq_true rfl) (Nat.zero_le _) (Nat.zero_le _) (Nat.le_of_ble_eq_true rfl) (fun x5 μ5 h5 => ?_)
  obtain ⟨rfl, hμ⟩ := h5
  subst hμ
  refine C.if_ne 17 dX13_nights_8 rfl (fun hc8 => ?_) (fun hc8 => ?_)
  · obtain ⟨n, hn⟩ := Option.isSome_iff_exists.mp (b_t hc8)
    rw [hn] at hq
    obtain ⟨hp, -, -, hng, ex⟩ := ahdN_some (by decide) (by decide) hn
    have hW := hH.1.1.w1 hp
    subst ex
    refine C.aload_n dX13_nights_17 0 rfl ?_
    refine C.callVV lX13_591 dX13_nights_18 (kr_keeps hR hH) hS.o rfl rfl (Nat.le_of_ble_eq_true rfl) (Nat.zero_le _) (Nat.zero_le _) (Nat.le_of_ble_eq_true rfl) (fun μ18 h18 => ?_)
    have hR2 := h18.1
    have hS := hR2.1.1
    refine C.aload_n dX13_nights_21 0 rfl ?_
    refine C.iload_n dX13_nights_22 1 rfl ?_
    refine C.callVV lX13_579 dX13_nights_23 (kn_nights (more := none) (th := false) (d := ldH h) (S := stH h) hS hR2.2.2.2.2.1.1 hW hH.2 hR2.1.2.2.2 hR2.1.2.2.1 (fun x q => by cases q) hR2.2.2.2.2.2.1 sw hng) hS.o rfl rfl (Nat.le_of_ble_eq_true rfl) (Nat.zero_le _) (Nat.zero_le _) (Nat.le_of_ble_eq_true rfl) (fun μ23 h23 => ?_)
    obtain ⟨hN2, hc2, hT2⟩ := h23
    have hS := hT2.sh hS
    refine C.aload_n dX13_nights_26 0 rfl ?_
    refine C.getI fX13_503 dX13_nights_27 hS.o ?_
    rw [hc2.1]
    refine C.iret hq dX13_nights_30 ?_
    exact ⟨rfl, h18.trans (hR2.tmG hT2 hN2)⟩
  · have hz := (bI_0 _).mp hc8
    rw [Option.isSome_eq_false_iff, Option.isNone_iff_eq_none] at hz
    rw [hz] at hq
    refine C.aload_n dX13_nights_11 0 rfl ?_
    refine C.iconst (nI 3) dX13_nights_12 (by decide) ?_
    refine C.callVI lX13_594 dX13_nights_13 (kr_refuses hR (j := 3) (by decide)) hS.o rfl rfl (Nat.le_of_ble_eq_true rfl) (Nat.zero_le _) (Nat.zero_le _) (Nat.le_of_ble_eq_true rfl) (fun x13 μ13 h13 => ?_)
    obtain ⟨rfl, hp⟩ := h13
    refine C.iret hq dX13_nights_16 ?_
    exact ⟨rfl, hp⟩
theorem kr_seed (hR : RefRel μ h) (x : Int32) : AMet l G 0 0 0 mtX13_seed [.ref (G.1 + 179), .int x] μ (qI (fun z μ' => z = seedA x ∧ PR μ (seedH h x) μ')) := by
  refine AMet.of (by decide) (Nat.le_of_ble_eq_true rfl) (fun X C hX hnm hq => ?_)
  have hS := hR.1.1
  obtain ⟨r5, p5⟩ := hR.rf2 (j := 5) (by decide)
  unfold seedA seedH at hq
  refine C.iload_n dX13_seed_0 1 rfl ?_
  refine C.if_ge 16 dX13_seed_1 rfl (fun hc1 => ?_) (fun hc1 => ?_)
  · have hz : ¬ x < 0 := Int32.not_lt.mpr hc1
    rw [if_neg hz, decide_eq_false hz] at hq
    obtain ⟨j, hj, e⟩ := nI_of hz
    subst e
    refine C.aload_n dX13_seed_16 0 rfl ?_
    refine C.iload_n dX13_seed_17 1 rfl ?_
    refine C.i2l dX13_seed_18 ?_
    rw [nI_l hj]
    refine C.putL fX13_179 (Or.inl rfl) dX13_seed_19 hS.o ?_
    refine C.iconst (nI 1) dX13_seed_22 (by decide) ?_
    refine C.zret hq dX13_seed_23 (by decide) ?_
    refine ⟨rfl, ?_, ⟨rfl, fun a k q => ⟨rfl, by rw [mL_sL, if_neg (by omega)]⟩⟩⟩
    obtain ⟨g1, g2, g3, g4, g5, g6, g7, g8, g9, g10⟩ := hR
    refine ⟨g1.of rfl (fun _ _ _ => rfl) rfl rfl, g2.of rfl (fun _ => rfl), g3.of rfl rfl, g4.of (fun _ => rfl), ⟨g5.1.of (fun _ _ _ _ _ => rfl) (fun _ _ _ _ => rfl) (fun _ _ => rfl) (fun _ _ => rfl) (fun k _ => by rw [mL_sL, if_neg (by omega)]), g5.2⟩, g6, g7.of rfl rfl (fun _ => rfl), g8.of rfl (fun _ => rfl), g9.of rfl (fun _ => rfl), ?_⟩
    show mL _ 179 78 = lN (nn (nI j))
    rw [nn_nI hj, mL_sL, if_pos ⟨rfl, rfl⟩]
  · have hz : x < 0 := Int32.not_le.mp hc1
    rw [if_pos hz, decide_eq_true hz] at hq
    refine C.aload_n dX13_seed_4 0 rfl ?_
    refine C.getA fX13_17 dX13_seed_5 hS.o hS.r9 ?_
    refine C.iconst (nI 5) dX13_seed_8 (by decide) ?_
    refine C.dup2 dX13_seed_9 rfl rfl ?_
    refine C.iald hS.a9 (n_in (by decide)) dX13_seed_10 ?_
    rw [n_cl, r5]
    refine C.iconst (nI 1) dX13_seed_11 (by decide) ?_
    refine C.iadd dX13_seed_12 ?_
    refine C.iast hS.a9 (n_in (by decide)) dX13_seed_13 ?_
    rw [n_cl]
    refine C.iconst (nI 0) dX13_seed_14 (by decide) ?_
    refine C.zret hq dX13_seed_15 (by decide) ?_
    exact ⟨rfl, p5⟩
theorem RefRel.sdL (hR : RefRel μ h) (v : Nat) : PR μ (tpH h, flH h, rfH h, ldH h, stH h, psH h, rwH h, ocH h, v) (sL μ 179 78 (lN v)) := by
  obtain ⟨g1, g2, g3, g4, g5, g6, g7, g8, g9, g10⟩ := hR
  exact ⟨⟨g1.of rfl (fun _ _ _ => rfl) rfl rfl, g2.of rfl (fun _ => rfl), g3.of rfl rfl, g4.of (fun _ => rfl), ⟨g5.1.of (fun _ _ _ _ _ => rfl) (fun _ _ _ _ => rfl) (fun _ _ => rfl) (fun _ _ => rfl) (fun k _ => by rw [mL_sL, if_neg (by omega)]), g5.2⟩, g6, g7.of rfl rfl (fun _ => rfl), g8.of rfl (fun _ => rfl), g9.of rfl (fun _ => rfl), by show mL _ 179 78 = lN v; rw [mL_sL, if_pos ⟨rfl, rfl⟩]⟩, ⟨rfl, fun a k q => ⟨rfl, by rw [mL_sL, if_neg (by omega)]⟩⟩⟩
theorem kr_draw (hR : RefRel μ h) (hs : sdH h < 2 ^ 31) : AMet l G 0 0 0 mtX13_drawOf [.ref (G.1 + 179), .int (nI 100)] μ (qI (fun x μ' => x = nI (drw (sdH h) / 64 % 100) ∧ PR μ (tpH h, flH h, rfH h, ldH h, stH h, psH h, rwH h, ocH h, drw (sdH h)) μ')) := by
  refine AMet.of (by decide) (Nat.le_of_ble_eq_true rfl) (fun X C hX hnm hq => ?_)
  have hS := hR.1.1
  have h78 : mL μ 179 78 = lN (sdH h) := hR.2.2.2.2.2.2.2.2.2
  have hd : drw (sdH h) < 2147483648 := Nat.mod_lt _ (by decide)
  have e2 : mL (sL μ 179 78 (lN (drw (sdH h)))) 179 78 = lN (drw (sdH h)) := by rw [mL_sL, if_pos ⟨rfl, rfl⟩]
  refine C.aload_n dX13_drawOf_0 0 rfl ?_
  refine C.ldc2 kX13_597 dX13_drawOf_1 ?_
  refine C.aload_n dX13_drawOf_4 0 rfl ?_
  refine C.getL fX13_179 dX13_drawOf_5 hS.o ?_
  rw [h78]
  refine C.lmul dX13_drawOf_8 ?_
  rw [show (1103515245 : Int64) = lN 1103515245 from rfl, lN_mul]
  refine C.ldc2 kX13_599 dX13_drawOf_9 ?_
  refine C.ladd dX13_drawOf_12 ?_
  rw [show (12345 : Int64) = lN 12345 from rfl, lN_add]
  refine C.ldc2 kX13_601 dX13_drawOf_13 ?_
  refine C.lrem dX13_drawOf_16 (by decide) ?_
  rw [show (2147483648 : Int64) = lN 2147483648 from rfl, pk_lRem (by omega) (by decide) (by decide), show (1103515245 * sdH h + 12345) % 2147483648 = drw (sdH h) from rfl]
  refine C.putL fX13_179 (Or.inl rfl) dX13_drawOf_17 hS.o ?_
  refine C.aload_n dX13_drawOf_20 0 rfl ?_
  refine C.getL fX13_179 dX13_drawOf_21 hS.o ?_
  rw [e2]
  refine C.ldc2 kX13_603 dX13_drawOf_24 ?_
  refine C.ldiv dX13_drawOf_27 (by decide) ?_
  rw [show (64 : Int64) = lN 64 from rfl, pk_lDiv (by omega) (by decide) (by decide)]
  refine C.iload_n dX13_drawOf_28 1 rfl ?_
  refine C.i2l dX13_drawOf_29 ?_
  rw [nI_l (by decide)]
  refine C.lrem dX13_drawOf_30 (by decide) ?_
  rw [pk_lRem (by omega) (by decide) (by decide)]
  refine C.l2i dX13_drawOf_31 ?_
  rw [lN_i]
  refine C.iret hq dX13_drawOf_32 ?_
  exact ⟨rfl, hR.sdL _⟩
theorem kr_chance (hR : RefRel μ h) (hH : HOk h) (x : Int32) : AMet l G 8 0 0 mtX13_chance [.ref (G.1 + 179), .int x] μ (qI (fun z μ' => z = chanceA h x ∧ PR μ (chanceH h x) μ')) := by
  refine AMet.of (by decide) (Nat.le_of_ble_eq_true rfl) (fun X C hX hnm hq => ?_)
  have hS := hR.1.1
  have sw := hH.1.2.1
  have sd31 := hH.1.2.2.2.2.2
  unfold chanceA chanceH at hq
  have m21 : ∀ (n : Nat) (μ0 : Mm), ahdN h x 1 100 = some n → PR μ (tpH h, flH h, rfH h, ldH h, stH h, pushP (stH h) (psH h), rwH h, ocH h, sdH h) μ0 → AW l G X 0 0 21 [(0, .ref (G.1 + 179)), (1, .int (nI n))] [] μ0 := by
    intro n μ0 hn hP0
    rw [hn] at hq
    dsimp only at hq
    obtain ⟨hp, -, -, hng, ex⟩ := ahdN_some (by decide) (by decide) hn
    have hW := hH.1.1.w1 hp
    have hst100 := hW.2.2.2.2.2.2.2
    generalize hK : chnL (ldH h) n (stH h, sdH h, 0) = K at hq
    have hex : ∀ v : Int32, ∃ m : Nat, v = nI m := fun v => ⟨v.toBitVec.toNat, by
      apply Int32.toBitVec_inj.mp
      show v.toBitVec = BitVec.ofNat 32 v.toBitVec.toNat
      simp⟩
    have loop : ∀ (j k : Nat) (a : St × Nat × Nat) (μ1 : Mm), k + j = n → chnL (ldH h) j a = K → PR μ (tpH h, flH h, rfH h, ldH h, a.1, pushP (stH h) (psH h), rwH h, ocH h, a.2.1) μ1 → SWf (ldH h) a.1 → a.2.1 < 2 ^ 31 → a.1.1.1 + j ≤ 999 → AW l G X 0 0 25 [(0, .ref (G.1 + 179)), (1, .int (nI n)), (2, .int (nI a.2.2)), (3, .int (nI k))] [] μ1 := by
      intro j
      induction j with
      | zero =>
        intro k a μ1 hk hv hP1 hw1 hs1 hn1
        subst hv
        refine C.iload_n dX13_chance_25 3 rfl ?_
        refine C.iload_n dX13_chance_26 1 rfl ?_
        refine C.icmp_ge 72 dX13_chance_27 rfl (fun hc27 => ?_) (fun hc27 => ?_)
        · refine C.iload_n dX13_chance_72 2 rfl ?_
          refine C.iret hq dX13_chance_73 ?_
          exact ⟨rfl, hP1⟩
        · have := n_nle (a := n) (b := k) hc27; omega
      | succ j ih =>
        intro k a μ1 hk hv hP1 hw1 hs1 hn1
        have hR1 := hP1.1
        have hS := hR1.1.1
        unfold chnL at hv
        have n100 : drw a.2.1 / 64 % 100 < 100 := Nat.mod_lt _ (by decide)
        have nxt : ∀ (sb : Bool) (μ2 : Mm), sb = stmB (ldH h) a.2.1 → PR μ (tpH h, flH h, rfH h, ldH h, a.1, pushP (stH h) (psH h), rwH h, ocH h, drw a.2.1) μ2 → AW l G X 0 0 60 [(0, .ref (G.1 + 179)), (1, .int (nI n)), (2, .int (nI (if sb then a.2.2 + 1 else a.2.2))), (3, .int (nI k)), (4, .int (bI sb))] [] μ2 := by
          intro sb μ2 hsb hP2
          subst hsb
          have hR2 := hP2.1
          have hS := hR2.1.1
          obtain ⟨m1, e1⟩ := hex (mI μ2 179 68)
          obtain ⟨m2, e2⟩ := hex (mI μ2 179 69)
          obtain ⟨ms, e3⟩ := hex (mI μ2 179 70)
          have hac := nightA_ac (d := ldH h) none false (stmB (ldH h) a.2.1) (a.1, m1, m2, ms)
          obtain ⟨w1, w3⟩ := night_a0 hW (more := none) (th := false) (storm := stmB (ldH h) a.2.1) (a := (a.1, m1, m2, ms)) hw1 (by dsimp only; omega)
          have hst : (nightA (ldH h) none false (stmB (ldH h) a.2.1) (a.1, m1, m2, ms)).1 = (nightA (ldH h) none false (stmB (ldH h) a.2.1) (a.1, 0, 0, 0)).1 := by rw [hac]; rfl
          refine C.aload_n dX13_chance_60 0 rfl ?_
          refine C.iload dX13_chance_61 4 rfl ?_
          refine C.callVV lX13_525 dX13_chance_63 (kn_night (storm := stmB (ldH h) a.2.1) (th := false) (more := none) (d := ldH h) (a := (a.1, m1, m2, ms)) hS hR2.2.2.2.2.1.1 hW hH.2 hR2.1.2.2.2 hR2.1.2.2.1 (fun x q => by cases q) hR2.2.2.2.2.2.1 hw1 ⟨e1, e2, e3⟩ (by dsimp only; omega)) hS.o rfl rfl (Nat.le_of_ble_eq_true rfl) (Nat.zero_le _) (Nat.zero_le _) (Nat.le_of_ble_eq_true rfl) (fun μ63 h63 => ?_)
          obtain ⟨hN3, hc3, hT3⟩ := h63
          rw [hst] at hN3 w1 w3
          refine C.iinc (lv' := [(0, _), (1, _), (2, _), (3, _), (4, _)]) _ dX13_chance_66 3 rfl rfl (nLt hX rfl) rfl ?_
          refine C.goto 25 dX13_chance_69 rfl ?_
          have hgo := ih (k + 1) _ μ63 (by omega) hv (hP2.trans (hR2.tmG hT3 hN3)) w1 (Nat.mod_lt _ (by decide)) (by dsimp only; rw [w3]; dsimp only; omega)
          dsimp only at hgo
          rw [show Value.int (nI (k + 1)) = Value.int (nI k + 1) by rw [nI_1]] at hgo
          exact AW.pick [0, 1, 2, 3] rfl hgo
        have m50 : ∀ (sb : Bool) (μ2 : Mm), sb = stmB (ldH h) a.2.1 → PR μ (tpH h, flH h, rfH h, ldH h, a.1, pushP (stH h) (psH h), rwH h, ocH h, drw a.2.1) μ2 → AW l G X 0 0 50 [(0, .ref (G.1 + 179)), (1, .int (nI n)), (2, .int (nI a.2.2)), (3, .int (nI k))] [.int (bI sb)] μ2 := by
          intro sb μ2 hsb hP2
          have hgo := nxt sb μ2 hsb hP2
          refine C.istore (lv' := [(0, _), (1, _), (2, _), (3, _), (4, _)]) dX13_chance_50 (nLt hX rfl) rfl ?_
          refine C.iload dX13_chance_52 4 rfl ?_
          refine C.if_eq 60 dX13_chance_54 rfl (fun hc54 => ?_) (fun hc54 => ?_)
          · have hz := (bI_0 _).mp hc54
            rw [hz] at hgo ⊢
            exact hgo
          · have hz := b_t hc54
            rw [hz, if_pos rfl, ← nI_1] at hgo
            rw [hz]
            refine C.iinc (lv' := [(0, _), (1, _), (2, _), (3, _), (4, _)]) _ dX13_chance_57 2 rfl rfl (nLt hX rfl) rfl ?_
            exact hgo
        unfold stmB at m50
        have hdr := kr_draw (l := l) (G := G) hR1 hs1
        refine C.iload_n dX13_chance_25 3 rfl ?_
        refine C.iload_n dX13_chance_26 1 rfl ?_
        refine C.icmp_ge 72 dX13_chance_27 rfl (fun hc27 => ?_) (fun hc27 => ?_)
        · have := n_le (a := n) (b := k) hc27; omega
        · refine C.aload_n dX13_chance_30 0 rfl ?_
          refine C.bipush (nI 100) dX13_chance_31 (by decide) ?_
          refine C.callVI lX13_605 dX13_chance_33 (hdr) hS.o rfl rfl (Nat.le_of_ble_eq_true rfl) (Nat.zero_le _) (Nat.zero_le _) (Nat.le_of_ble_eq_true rfl) (fun x33 μ33 h33 => ?_)
          obtain ⟨rfl, hP2⟩ := h33
          have hS := hP2.1.1.1
          have g5 : mI μ33 221 5 = nI (ldH h).2.2.2.2.1.2.2 := hP2.1.2.2.2.2.1.1.1.2.2.2.2
          refine C.aload_n dX13_chance_36 0 rfl ?_
          refine C.getA fX13_139 dX13_chance_37 hS.o hS.r51 ?_
          refine C.iconst (nI 5) dX13_chance_40 (by decide) ?_
          refine C.iald hS.a51 (n_in (by decide)) dX13_chance_41 ?_
          rw [n_cl, g5]
          refine C.icmp_ge 49 dX13_chance_42 rfl (fun hc42 => ?_) (fun hc42 => ?_)
          · have hge := n_le (a := (ldH h).2.2.2.2.1.2.2) (b := drw a.2.1 / 64 % 100) hc42
            refine C.iconst (nI 0) dX13_chance_49 (by decide) ?_
            first | exact m50 false _ (decide_eq_false (by omega)).symm (hP1.trans hP2) | exact m50 true _ (decide_eq_true hlt).symm (hP1.trans hP2)
          · have hlt := n_nle (a := (ldH h).2.2.2.2.1.2.2) (b := drw a.2.1 / 64 % 100) hc42
            refine C.iconst (nI 1) dX13_chance_45 (by decide) ?_
            refine C.goto 50 dX13_chance_46 rfl ?_
            first | exact m50 false _ (decide_eq_false (by omega)).symm (hP1.trans hP2) | exact m50 true _ (decide_eq_true hlt).symm (hP1.trans hP2)
    refine C.iconst (nI 0) dX13_chance_21 (by decide) ?_
    refine C.istore_n (lv' := [(0, _), (1, _), (2, _)]) dX13_chance_22 (nLt hX rfl) rfl ?_
    refine C.iconst (nI 0) dX13_chance_23 (by decide) ?_
    refine C.istore_n (lv' := [(0, _), (1, _), (2, _), (3, _)]) dX13_chance_24 (nLt hX rfl) rfl ?_
    exact loop n 0 (stH h, sdH h, 0) μ0 (by omega) hK hP0 sw sd31 hng
  refine C.aload_n dX13_chance_0 0 rfl ?_
  refine C.iload_n dX13_chance_1 1 rfl ?_
  refine C.iconst (nI 1) dX13_chance_2 (by decide) ?_
  refine C.bipush (nI 100) dX13_chance_3 (by decide) ?_
  refine C.callVI lX13_573 dX13_chance_5 (kr_isAhead hR hH x (lo := 1) (hi := 100) (by decide) (by decide)) hS.o rfl rfl (Nat.le_of_ble_eq_true rfl) (Nat.zero_le _) (Nat.zero_le _) (Nat.le_of_ble_eq_true rfl) (fun x5 μ5 h5 => ?_)
  obtain ⟨rfl, hμ⟩ := h5
  subst hμ
  refine C.if_ne 17 dX13_chance_8 rfl (fun hc8 => ?_) (fun hc8 => ?_)
  · obtain ⟨n, hn⟩ := Option.isSome_iff_exists.mp (b_t hc8)
    obtain ⟨-, -, -, -, ex⟩ := ahdN_some (by decide) (by decide) hn
    refine C.aload_n dX13_chance_17 0 rfl ?_
    refine C.callVV lX13_591 dX13_chance_18 (kr_keeps hR hH) hS.o rfl rfl (Nat.le_of_ble_eq_true rfl) (Nat.zero_le _) (Nat.zero_le _) (Nat.le_of_ble_eq_true rfl) (fun μ18 h18 => ?_)
    first | skip
    have hgo := m21 n μ18 hn h18
    rw [← ex] at hgo
    exact hgo
  · have hz := (bI_0 _).mp hc8
    rw [Option.isSome_eq_false_iff, Option.isNone_iff_eq_none] at hz
    rw [hz] at hq
    refine C.aload_n dX13_chance_11 0 rfl ?_
    refine C.iconst (nI 3) dX13_chance_12 (by decide) ?_
    refine C.callVI lX13_594 dX13_chance_13 (kr_refuses hR (j := 3) (by decide)) hS.o rfl rfl (Nat.le_of_ble_eq_true rfl) (Nat.zero_le _) (Nat.zero_le _) (Nat.le_of_ble_eq_true rfl) (fun x13 μ13 h13 => ?_)
    obtain ⟨rfl, hp⟩ := h13
    refine C.iret hq dX13_chance_16 ?_
    exact ⟨rfl, hp⟩
end KA2
