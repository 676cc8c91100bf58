/-! a memory that is being made; the small constructors -/
def vG : List (Nat × Nat × Int32) → Nat → Nat → Int32
  | [], _, _ => 0
  | p :: V, a, k => if a = p.1 ∧ k = p.2.1 then p.2.2 else vG V a k
theorem vG_hi {V : List (Nat × Nat × Int32)} {a : Nat} (h : ∀ p ∈ V, p.1 ≠ a) (k : Nat) : vG V a k = 0 := by
  induction V with
  | nil => rfl
  | cons p V ih =>
    unfold vG
    rw [if_neg (fun z => h p (List.mem_cons_self ..) z.1.symm)]
    exact ih (fun q hq => h q (List.mem_cons_of_mem _ hq))
/-- what is known: cells, kinds, references, ints (the rest is 0); the cells E stand as in Z -/
def Mk (Z : Mm) (E : Nat → Prop) (n : Nat) (K R : List (Nat × Nat × Nat)) (V : List (Nat × Nat × Int32)) (M : Mm) : Prop :=
  (mN M = n ∧ (∀ a, E a → a < n) ∧ (∀ p ∈ V, p.1 < n) ∧ Grw Z M) ∧ (∀ p ∈ K, p.1 < n ∧ mK M p.1 = p.2) ∧ (∀ p ∈ R, p.1 < n ∧ mR M p.1 p.2.1 = some p.2.2) ∧ (∀ a, a < n → ¬ E a → ∀ k, mI M a k = vG V a k ∧ (mL M a k = 0 ∨ (a = 179 ∧ k = 78))) ∧ (∀ a, E a → mK M a = mK Z a ∧ ∀ k, mI M a k = mI Z a k ∧ mL M a k = mL Z a k ∧ mR M a k = mR Z a k)
section MKP
variable {Z M : Mm} {E : Nat → Prop} {n : Nat} {K R : List (Nat × Nat × Nat)} {V : List (Nat × Nat × Int32)}
theorem Mk.new (h : Mk Z E n K R V M) (t m : Nat) (n' : Nat) (hn : n + 1 = n') : Mk Z E n' ((n, t, m) :: K) R V (nM M t m) := by
  subst hn
  obtain ⟨⟨h1, h2, h3, hg⟩, h4, h5, h6, h7⟩ := h
  have nw : mN (nM M t m) = n + 1 := by show mN M + 1 = _; rw [h1]
  have kk : ∀ a, mK (nM M t m) a = if a = n then (t, m) else mK M a := fun a => by
    show (if a = mN M then (t, m) else mK M a) = _
    rw [h1]
  refine ⟨⟨nw, fun a e => Nat.lt_succ_of_lt (h2 a e), fun p hp => Nat.lt_succ_of_lt (h3 p hp), hg.trans (Grw.new M t m)⟩, fun p hp => ?_, fun p hp => ?_, fun a ha he k => ?_, fun a e => ?_⟩
  · rcases List.mem_cons.mp hp with e | e
    · rw [e]
      exact ⟨Nat.lt_succ_self _, by rw [kk, if_pos rfl]⟩
    · obtain ⟨q1, q2⟩ := h4 p e
      exact ⟨by omega, by rw [kk, if_neg (by omega)]; exact q2⟩
  · obtain ⟨q1, q2⟩ := h5 p hp
    exact ⟨by omega, by rw [mR_nM, h1, if_neg (by omega)]; exact q2⟩
  · rw [mI_nM, mL_nM, h1]
    by_cases e : a = n
    · rw [if_pos e, if_pos e, e, vG_hi (fun p hp z => by have := h3 p hp; omega)]
      exact ⟨rfl, Or.inl rfl⟩
    · rw [if_neg e, if_neg e]
      exact h6 a (by omega) he k
  · have ha := h2 a e
    obtain ⟨q1, q2⟩ := h7 a e
    refine ⟨by rw [kk, if_neg (by omega)]; exact q1, fun k => ?_⟩
    rw [mI_nM, mL_nM, mR_nM, h1, if_neg (by omega), if_neg (by omega), if_neg (by omega)]
    exact q2 k
theorem Mk.putR (h : Mk Z E n K R V M) (a k r : Nat) (ha : a < n) (he : ¬ E a) (hk : ∀ p ∈ R, ¬ (p.1 = a ∧ p.2.1 = k)) : Mk Z E n K ((a, k, r) :: R) V (sR M a k (some r)) := by
  obtain ⟨h1, h4, h5, h6, h7⟩ := h
  refine ⟨⟨h1.1, h1.2.1, h1.2.2.1, h1.2.2.2.trans (Grw.of rfl)⟩, h4, fun p hp => ?_, h6, fun b e => ?_⟩
  · rcases List.mem_cons.mp hp with e | e
    · rw [e]
      exact ⟨ha, by rw [mR_sR, if_pos ⟨rfl, rfl⟩]⟩
    · refine ⟨(h5 p e).1, ?_⟩
      rw [mR_sR, if_neg (hk p e)]
      exact (h5 p e).2
  · obtain ⟨q1, q2⟩ := h7 b e
    refine ⟨q1, fun k2 => ⟨(q2 k2).1, (q2 k2).2.1, ?_⟩⟩
    rw [mR_sR, if_neg (fun z : b = a ∧ k2 = k => he (z.1 ▸ e))]
    exact (q2 k2).2.2
theorem Mk.putI (h : Mk Z E n K R V M) (a k : Nat) (v : Int32) (ha : a < n) (he : ¬ E a) : Mk Z E n K R ((a, k, v) :: V) (sI M a k v) := by
  obtain ⟨⟨h1, h2, h3, hg⟩, h4, h5, h6, h7⟩ := h
  refine ⟨⟨h1, h2, fun p hp => ?_, hg.trans (Grw.of rfl)⟩, h4, h5, fun b hb hE k2 => ⟨?_, (h6 b hb hE k2).2⟩, fun b e => ?_⟩
  · rcases List.mem_cons.mp hp with e | e
    · rw [e]; exact ha
    · exact h3 p e
  · rw [mI_sI]
    show _ = if b = a ∧ k2 = k then v else vG V b k2
    by_cases e : b = a ∧ k2 = k
    · rw [if_pos e, if_pos e]
    · rw [if_neg e, if_neg e]
      exact (h6 b hb hE k2).1
  · obtain ⟨q1, q2⟩ := h7 b e
    refine ⟨q1, fun k2 => ⟨?_, (q2 k2).2⟩⟩
    rw [mI_sI, if_neg (fun z : b = a ∧ k2 = k => he (z.1 ▸ e))]
    exact (q2 k2).1
theorem Mk.putL (h : Mk Z E n K R V M) (v : Int64) (he : ¬ E 179) : Mk Z E n K R V (sL M 179 78 v) := by
  obtain ⟨⟨h1, h2, h3, hg⟩, h4, h5, h6, h7⟩ := h
  refine ⟨⟨h1, h2, h3, hg.trans (Grw.of rfl)⟩, h4, h5, fun b hb hE k2 => ⟨(h6 b hb hE k2).1, ?_⟩, fun b e => ?_⟩
  · rw [mL_sL]
    by_cases e : b = 179 ∧ k2 = 78
    · exact Or.inr e
    · rw [if_neg e]
      exact (h6 b hb hE k2).2
  · obtain ⟨q1, q2⟩ := h7 b e
    refine ⟨q1, fun k2 => ⟨(q2 k2).1, ?_, (q2 k2).2.2⟩⟩
    rw [mL_sL, if_neg (fun z : b = 179 ∧ k2 = 78 => he (z.1 ▸ e))]
    exact (q2 k2).2.1
theorem Mk.o (h : Mk Z E n K R V M) {a c : Nat} (hm : (a, c, nF c) ∈ K) : isO M a c := ⟨by rw [h.1.1]; exact (h.2.1 _ hm).1, (h.2.1 _ hm).2⟩
theorem Mk.a (h : Mk Z E n K R V M) {a t m : Nat} (hm : (a, 100 + t, m) ∈ K) : isA M a t m := ⟨by rw [h.1.1]; exact (h.2.1 _ hm).1, (h.2.1 _ hm).2⟩
theorem Mk.r (h : Mk Z E n K R V M) {a k r : Nat} (hm : (a, k, r) ∈ R) : mR M a k = some r := (h.2.2.1 _ hm).2
theorem Mk.i (h : Mk Z E n K R V M) {a : Nat} (k : Nat) (ha : a < n) (he : ¬ E a) : mI M a k = vG V a k := (h.2.2.2.1 a ha he k).1
theorem Mk.freeze (h : Mk Z E n K R V M) (F : Nat → Prop) (hF : ∀ a, E a → F a) (hn : ∀ a, F a → a < n) : Mk M F n K R V M := ⟨⟨h.1.1, hn, h.1.2.2.1, Grw.refl _⟩, h.2.1, h.2.2.1, fun a ha he k => h.2.2.2.1 a ha (fun z => he (hF a z)) k, fun a _ => ⟨rfl, fun _ => ⟨rfl, rfl, rfl⟩⟩⟩
end MKP
def stM (μ : Mm) (a n : Nat) : Mm := sR (nM (sR (nM (sR (nM (sR (nM (sR (nM μ 100 6) a 0 (some n)) 100 6) a 1 (some (n + 1))) 100 6) a 2 (some (n + 2))) 100 6) a 3 (some (n + 3))) 100 40) a 4 (some (n + 4))
def rdM (μ : Mm) (a m L n : Nat) : Mm := sR (sR (sR (nM μ 100 12) a 0 (some n)) a 1 (some m)) a 4 (some L)
section MKC
variable {l : Launch} {G : Gm} {μ : Mm} {a : Nat}
theorem ki_tape (hO : isO μ a 11) : AMet l G 1 1 1600 mtX11_init [.ref (G.1 + a)] μ (qV (fun M => M = sR (nM μ 102 1600) a 0 (some (mN μ)))) := by
  refine AMet.of (by decide) (Nat.le_of_ble_eq_true rfl) (fun X C hX hnm hq => ?_)
  refine C.aload_n dX11_init_0 0 rfl ?_
  refine C.objI oX11_3 dX11_init_1 (by omega) (Nat.le_of_ble_eq_true rfl) oi_1 oi_2 ?_
  refine C.aload_n dX11_init_4 0 rfl ?_
  refine C.sipush (nI 1600) dX11_init_5 (by decide) ?_
  refine C.newa (t := 2) (by decide) rfl ac_byte dX11_init_8 rfl (by decide) (by omega) (by omega) ?_
  refine C.putA fX11_9 (Or.inr ⟨hnm, rfl⟩) dX11_init_10 (hO.grw (Grw.new _ _ _)) ?_
  refine C.vret hq dX11_init_13 ?_
  exact rfl
theorem ki_phrases {r : Nat} (hO : isO μ a 6) : AMet l G 1 1 1600 mtX6_init [.ref (G.1 + a), .ref (G.1 + r)] μ (qV (fun M => M = sR (nM (sR μ a 0 (some r)) 100 1600) a 1 (some (mN μ)))) := by
  refine AMet.of (by decide) (Nat.le_of_ble_eq_true rfl) (fun X C hX hnm hq => ?_)
  refine C.aload_n dX6_init_0 0 rfl ?_
  refine C.objI oX6_3 dX6_init_1 (by omega) (Nat.le_of_ble_eq_true rfl) oi_1 oi_2 ?_
  refine C.aload_n dX6_init_4 0 rfl ?_
  refine C.aload_n dX6_init_5 1 rfl ?_
  refine C.putO fX6_9 (Or.inr ⟨hnm, rfl⟩) dX6_init_6 hO ?_
  refine C.aload_n dX6_init_9 0 rfl ?_
  refine C.sipush (nI 1600) dX6_init_10 (by decide) ?_
  refine C.newa (t := 0) (by decide) rfl ac_int dX6_init_13 rfl (by decide) (by omega) (by omega) ?_
  refine C.putA fX6_15 (Or.inr ⟨hnm, rfl⟩) dX6_init_15 (hO.grw (Grw.new _ _ _)) ?_
  refine C.vret hq dX6_init_18 ?_
  exact rfl
theorem ki_landReader {r p : Nat} (hO : isO μ a 3) : AMet l G 1 0 0 mtX3_init [.ref (G.1 + a), .ref (G.1 + r), .ref (G.1 + p)] μ (qV (fun M => M = sR (sR μ a 0 (some r)) a 1 (some p))) := by
  refine AMet.of (by decide) (Nat.le_of_ble_eq_true rfl) (fun X C hX hnm hq => ?_)
  refine C.aload_n dX3_init_0 0 rfl ?_
  refine C.objI oX3_3 dX3_init_1 (by omega) (Nat.le_of_ble_eq_true rfl) oi_1 oi_2 ?_
  refine C.aload_n dX3_init_4 0 rfl ?_
  refine C.aload_n dX3_init_5 1 rfl ?_
  refine C.putO fX3_9 (Or.inr ⟨hnm, rfl⟩) dX3_init_6 hO ?_
  refine C.aload_n dX3_init_9 0 rfl ?_
  refine C.aload_n dX3_init_10 2 rfl ?_
  refine C.putO fX3_15 (Or.inr ⟨hnm, rfl⟩) dX3_init_11 hO ?_
  refine C.vret hq dX3_init_14 ?_
  exact rfl
theorem ki_machine (hO : isO μ a 4) : AMet l G 1 3 85 mtX4_init [.ref (G.1 + a)] μ (qV (fun M => M = sR (nM (sR (nM (sR (nM μ 100 9) a 0 (some (mN μ))) 100 12) a 1 (some (mN μ + 1))) 100 64) a 2 (some (mN μ + 2)))) := by
  refine AMet.of (by decide) (Nat.le_of_ble_eq_true rfl) (fun X C hX hnm hq => ?_)
  refine C.aload_n dX4_init_0 0 rfl ?_
  refine C.objI oX4_3 dX4_init_1 (by omega) (Nat.le_of_ble_eq_true rfl) oi_1 oi_2 ?_
  refine C.aload_n dX4_init_4 0 rfl ?_
  refine C.bipush (nI 9) dX4_init_5 (by decide) ?_
  refine C.newa (t := 0) (by decide) rfl ac_int dX4_init_7 rfl (by decide) (by omega) (by omega) ?_
  refine C.putA fX4_9 (Or.inr ⟨hnm, rfl⟩) dX4_init_9 (hO.grw (Grw.new _ _ _)) ?_
  refine C.aload_n dX4_init_12 0 rfl ?_
  refine C.bipush (nI 12) dX4_init_13 (by decide) ?_
  refine C.newa (t := 0) (by decide) rfl ac_int dX4_init_15 rfl (by decide) (by omega) (by omega) ?_
  refine C.putA fX4_15 (Or.inr ⟨hnm, rfl⟩) dX4_init_17 ((hO.grw (Grw.new μ 100 9)).grw (Grw.new (nM μ 100 9) 100 12)) ?_
  refine C.aload_n dX4_init_20 0 rfl ?_
  refine C.bipush (nI 64) dX4_init_21 (by decide) ?_
  refine C.newa (t := 0) (by decide) rfl ac_int dX4_init_23 rfl (by decide) (by omega) (by omega) ?_
  refine C.putA fX4_18 (Or.inr ⟨hnm, rfl⟩) dX4_init_25 (((hO.grw (Grw.new μ 100 9)).grw (Grw.new (nM μ 100 9) 100 12)).grw (Grw.new (nM (nM μ 100 9) 100 12) 100 64)) ?_
  refine C.vret hq dX4_init_28 ?_
  exact rfl
theorem ki_ride {m L : Nat} (hO : isO μ a 9) : AMet l G 1 1 12 mtX9_init [.ref (G.1 + a), .ref (G.1 + m), .ref (G.1 + L)] μ (qV (fun M => M = rdM μ a m L (mN μ))) := by
  refine AMet.of (by decide) (Nat.le_of_ble_eq_true rfl) (fun X C hX hnm hq => ?_)
  refine C.aload_n dX9_init_0 0 rfl ?_
  refine C.objI oX9_3 dX9_init_1 (by omega) (Nat.le_of_ble_eq_true rfl) oi_1 oi_2 ?_
  refine C.aload_n dX9_init_4 0 rfl ?_
  refine C.bipush (nI 12) dX9_init_5 (by decide) ?_
  refine C.newa (t := 0) (by decide) rfl ac_int dX9_init_7 rfl (by decide) (by omega) (by omega) ?_
  refine C.putA fX9_9 (Or.inr ⟨hnm, rfl⟩) dX9_init_9 (hO.grw (Grw.new _ _ _)) ?_
  refine C.aload_n dX9_init_12 0 rfl ?_
  refine C.aload_n dX9_init_13 1 rfl ?_
  refine C.putO fX9_15 (Or.inr ⟨hnm, rfl⟩) dX9_init_14 (hO.grw (Grw.new μ 100 12)) ?_
  refine C.aload_n dX9_init_17 0 rfl ?_
  refine C.aload_n dX9_init_18 2 rfl ?_
  refine C.putO fX9_19 (Or.inl rfl) dX9_init_19 (hO.grw (Grw.new μ 100 12)) ?_
  refine C.vret hq dX9_init_22 ?_
  exact rfl
theorem ki_state (hO : isO μ a 10) : AMet l G 1 5 64 mtX10_init [.ref (G.1 + a)] μ (qV (fun M => M = stM μ a (mN μ))) := by
  refine AMet.of (by decide) (Nat.le_of_ble_eq_true rfl) (fun X C hX hnm hq => ?_)
  have o1 := hO.grw (Grw.new μ 100 6)
  have o2 := o1.grw (Grw.new (nM μ 100 6) 100 6)
  have o3 := o2.grw (Grw.new (nM (nM μ 100 6) 100 6) 100 6)
  have o4 := o3.grw (Grw.new (nM (nM (nM μ 100 6) 100 6) 100 6) 100 6)
  have o5 := o4.grw (Grw.new (nM (nM (nM (nM μ 100 6) 100 6) 100 6) 100 6) 100 40)
  refine C.aload_n dX10_init_0 0 rfl ?_
  refine C.objI oX10_3 dX10_init_1 (by omega) (Nat.le_of_ble_eq_true rfl) oi_1 oi_2 ?_
  refine C.aload_n dX10_init_4 0 rfl ?_
  refine C.bipush (nI 6) dX10_init_5 (by decide) ?_
  refine C.newa (t := 0) (by decide) rfl ac_int dX10_init_7 rfl (by decide) (by omega) (by omega) ?_
  refine C.putA fX10_9 (Or.inr ⟨hnm, rfl⟩) dX10_init_9 o1 ?_
  refine C.aload_n dX10_init_12 0 rfl ?_
  refine C.bipush (nI 6) dX10_init_13 (by decide) ?_
  refine C.newa (t := 0) (by decide) rfl ac_int dX10_init_15 rfl (by decide) (by omega) (by omega) ?_
  refine C.putA fX10_15 (Or.inr ⟨hnm, rfl⟩) dX10_init_17 o2 ?_
  refine C.aload_n dX10_init_20 0 rfl ?_
  refine C.bipush (nI 6) dX10_init_21 (by decide) ?_
  refine C.newa (t := 0) (by decide) rfl ac_int dX10_init_23 rfl (by decide) (by omega) (by omega) ?_
  refine C.putA fX10_18 (Or.inr ⟨hnm, rfl⟩) dX10_init_25 o3 ?_
  refine C.aload_n dX10_init_28 0 rfl ?_
  refine C.bipush (nI 6) dX10_init_29 (by decide) ?_
  refine C.newa (t := 0) (by decide) rfl ac_int dX10_init_31 rfl (by decide) (by omega) (by omega) ?_
  refine C.putA fX10_21 (Or.inr ⟨hnm, rfl⟩) dX10_init_33 o4 ?_
  refine C.aload_n dX10_init_36 0 rfl ?_
  refine C.bipush (nI 40) dX10_init_37 (by decide) ?_
  refine C.newa (t := 0) (by decide) rfl ac_int dX10_init_39 rfl (by decide) (by omega) (by omega) ?_
  refine C.putA fX10_24 (Or.inr ⟨hnm, rfl⟩) dX10_init_41 o5 ?_
  refine C.vret hq dX10_init_44 ?_
  exact rfl
theorem ki_host {m L : Nat} (hO : isO μ a 1) : AMet l G 2 2 20 mtX1_init [.ref (G.1 + a), .ref (G.1 + m), .ref (G.1 + L)] μ (qV (fun M => M = sR (rdM (nM (sR μ a 0 (some m)) 9 8) (mN μ) m L (mN μ + 1)) a 1 (some (mN μ)))) := by
  refine AMet.of (by decide) (Nat.le_of_ble_eq_true rfl) (fun X C hX hnm hq => ?_)
  refine C.aload_n dX1_init_0 0 rfl ?_
  refine C.objI oX1_3 dX1_init_1 (by omega) (Nat.le_of_ble_eq_true rfl) oi_1 oi_2 ?_
  refine C.aload_n dX1_init_4 0 rfl ?_
  refine C.aload_n dX1_init_5 1 rfl ?_
  refine C.putO fX1_9 (Or.inr ⟨hnm, rfl⟩) dX1_init_6 hO ?_
  refine C.aload_n dX1_init_9 0 rfl ?_
  refine C.new (c := 9) rfl nX1_15 dX1_init_10 (by omega) (by decide) ?_
  rw [show nF 9 = 8 from rfl]
  refine C.dup dX1_init_13 rfl ?_
  refine C.aload_n dX1_init_14 1 rfl ?_
  refine C.aload_n dX1_init_15 2 rfl ?_
  refine C.callIV lX1_17 dX1_init_16 (ki_ride (isO_nM (sR μ a 0 (some m)) 9 0)) rfl rfl (Nat.le_of_ble_eq_true rfl) (by omega) (by omega) (Nat.le_of_ble_eq_true rfl) (fun μ16 h16 => ?_)
  subst h16
  refine C.putO fX1_20 (Or.inr ⟨hnm, rfl⟩) dX1_init_19 ((hO.grw (Grw.new μ 9 8)).grw (Grw.new (nM μ 9 8) 100 12)) ?_
  refine C.vret hq dX1_init_22 ?_
  exact rfl
theorem ki_question {r p : Nat} (hO : isO μ a 7) : AMet l G 2 2 2 mtX7_init [.ref (G.1 + a), .ref (G.1 + r), .ref (G.1 + p)] μ (qV (fun M => M = sR (sI (sR (nM (nM (sR (sR μ a 0 (some r)) a 1 (some p)) 0 2) 100 0) (mN μ) 0 (some (mN μ + 1))) (mN μ) 1 (bI false)) a 3 (some (mN μ)))) := by
  refine AMet.of (by decide) (Nat.le_of_ble_eq_true rfl) (fun X C hX hnm hq => ?_)
  refine C.aload_n dX7_init_0 0 rfl ?_
  refine C.objI oX7_3 dX7_init_1 (by omega) (Nat.le_of_ble_eq_true rfl) oi_1 oi_2 ?_
  refine C.aload_n dX7_init_4 0 rfl ?_
  refine C.aload_n dX7_init_5 1 rfl ?_
  refine C.putO fX7_9 (Or.inr ⟨hnm, rfl⟩) dX7_init_6 hO ?_
  refine C.aload_n dX7_init_9 0 rfl ?_
  refine C.aload_n dX7_init_10 2 rfl ?_
  refine C.putO fX7_15 (Or.inr ⟨hnm, rfl⟩) dX7_init_11 hO ?_
  refine C.aload_n dX7_init_14 0 rfl ?_
  refine C.new (c := 0) rfl nX7_19 dX7_init_15 (by omega) (by decide) ?_
  rw [show nF 0 = 2 from rfl]
  refine C.dup dX7_init_18 rfl ?_
  refine C.iconst (nI 0) dX7_init_19 (by decide) ?_
  refine C.newa (t := 0) (by decide) rfl ac_int dX7_init_20 rfl (by decide) (by omega) (by omega) ?_
  refine C.iconst (nI 0) dX7_init_22 (by decide) ?_
  refine C.callIV lX7_21 dX7_init_23 (kf_code (q := false) ((isO_nM (sR (sR μ a 0 (some r)) a 1 (some p)) 0 0).grw (Grw.new _ _ _))) rfl rfl (Nat.le_of_ble_eq_true rfl) (Nat.zero_le _) (Nat.zero_le _) (Nat.le_of_ble_eq_true rfl) (fun μ23 h23 => ?_)
  subst h23
  refine C.putO fX7_24 (Or.inl rfl) dX7_init_26 ((hO.grw (Grw.new μ 0 2)).grw (Grw.new (nM μ 0 2) 100 0)) ?_
  refine C.vret hq dX7_init_29 ?_
  exact rfl
end MKC
