/-! the class and the state that both tell of -/
/-- the words' numbers: six letters of five bits, the first one highest -/
def keyL : List (List Nat) := ownL ++ [[102, 105, 114, 115, 116], [108, 97, 115, 116], [111, 102, 116, 101, 110], [116, 111, 116, 97, 108], [109, 111, 115, 116], [108, 101, 97, 115, 116]]
def keyN (i : Nat) : Nat := nm32 ((keyL.getD i []).map (fun x => x - 96))
def byS (x : Nat) : Int32 := (nI x).toInt8.toInt32
def CsB (μ : Mm) : Prop := ShC μ ∧ (∀ i, i < 39 → mI μ 4 i = nI (keyN i)) ∧ 259 ≤ mN μ
def CsT (μ : Mm) (tp : List Nat) : Prop := mI μ 1 1 = nI tp.length ∧ tp.length ≤ 1600 ∧ ∀ j x, tp[j]? = some x → mI μ 2 j = byS x ∧ x < 256
def CsF (μ : Mm) (fl : Int32 × Int32) : Prop := mI μ 3 6 = fl.1 ∧ mI μ 3 7 = fl.2
def CsR (μ : Mm) (rf : Nat → Int32) : Prop := ∀ k, k < 6 → mI μ 178 k = rf k
def CsW (μ : Mm) (d : Ld) (rw : List (Nat × Nat)) : Prop := mI μ 0 16 = nI rw.length ∧ ∀ i x, rw[i]? = some x → mI μ 174 (2 * i) = nI x.1 ∧ mI μ 174 (2 * i + 1) = nI (kC d x.2)
def CsO (μ : Mm) (oc : List Nat) : Prop := mI μ 0 17 = nI oc.length ∧ oc.length ≤ 40 ∧ ∀ i x, oc[i]? = some x → mI μ 177 i = nI x
def CsD (μ : Mm) (sd : Nat) : Prop := mI μ 0 18 = nI sd
/-- the land that lies at L, and what the rides remember of it -/
def CsL (μ : Mm) (L : Nat) (c : Lc) (d : Ld) : Prop := mR μ 0 15 = some L ∧ LdR μ L c d ∧ RdK μ 33 d L ∧ RdK μ 35 d L ∧ RdK μ 38 d L
def ClsRel (μ : Mm) (h : Hs) : Prop := (CsB μ ∧ CsT μ (tpH h) ∧ CsF μ (flH h) ∧ CsR μ (rfH h)) ∧ (CsN μ 40 (stH h) ∧ CsP μ (psH h)) ∧ (CsW μ (ldH h) (rwH h) ∧ CsO μ (ocH h) ∧ CsD μ (sdH h)) ∧ ∃ L c, CsL μ L c (ldH h)
/-- the reference's cells are as before -/
def FrC (μ μ' : Mm) : Prop := Grw μ μ' ∧ ∀ a k, 179 ≤ a → a ≤ 258 → mI μ' a k = mI μ a k ∧ mL μ' a k = mL μ a k ∧ mR μ' a k = mR μ a k
def PX (μ : Mm) (h : Hs) (μ' : Mm) : Prop := ClsRel μ' h ∧ FrC μ μ'
/-- only what is written anew each time has changed -/
def scI (a : Nat) : Prop := (33 ≤ a ∧ a ≤ 39) ∨ (11 ≤ a ∧ a ≤ 14) ∨ (46 ≤ a ∧ a ≤ 51) ∨ a = 175
def scL (a : Nat) : Prop := (33 ≤ a ∧ a ≤ 39) ∨ a = 176
def ScF (μ μ' : Mm) : Prop := μ'.2.2.2 = μ.2.2.2 ∧ (∀ a k, ¬ ((a = 33 ∨ a = 35 ∨ a = 38) ∧ k = 4) → mR μ' a k = mR μ a k) ∧ (∀ a k, ¬ scL a → mL μ' a k = mL μ a k) ∧ (∀ a k, ¬ scI a → mI μ' a k = mI μ a k)
section SCP
variable {μ μ' : Mm} {h : Hs}
theorem ScF.refl (μ : Mm) : ScF μ μ := ⟨rfl, fun _ _ _ => rfl, fun _ _ _ => rfl, fun _ _ _ => rfl⟩
theorem ScF.trans {μ'' : Mm} (s : ScF μ μ') (t : ScF μ' μ'') : ScF μ μ'' := ⟨t.1.trans s.1, fun a k q => (t.2.1 a k q).trans (s.2.1 a k q), fun a k q => (t.2.2.1 a k q).trans (s.2.2.1 a k q), fun a k q => (t.2.2.2 a k q).trans (s.2.2.2 a k q)⟩
theorem ScF.ofR {b : Nat} (hb : b = 33 ∨ b = 35 ∨ b = 38) (r : RdF b μ μ') : ScF μ μ' := ⟨r.1, fun a k q => r.2.1 a k (by omega), fun a k q => r.2.2.1 a k (by unfold scL at q; omega), fun a k q => r.2.2.2 a k (by unfold scI at q; omega) (by unfold scI at q; omega) (by unfold scI at q; omega) (by unfold scI at q; omega) (by unfold scI at q; omega)⟩
theorem ScF.ofN (r : HnF 46 μ μ') : ScF μ μ' := ⟨r.1, fun a k q => r.2.1 a k (by omega), fun a k q => r.2.2.1 a k (by unfold scL at q; omega) (by unfold scL at q; omega), fun a k q => r.2.2.2 a k (by unfold scI at q; omega) (by unfold scI at q; omega) (by unfold scI at q; omega) (by unfold scI at q; omega) (by unfold scI at q; omega) (by unfold scI at q; omega) (by unfold scI at q; omega)⟩
theorem ScF.of2 (e : μ'.2 = μ.2) (hI : ∀ a k, ¬ scI a → mI μ' a k = mI μ a k) : ScF μ μ' := ⟨by rw [e], fun a k _ => by unfold mR; rw [e], fun a k _ => by unfold mL; rw [e], hI⟩
theorem ScF.grw (s : ScF μ μ') : Grw μ μ' := Grw.of s.1
theorem ScF.sh (s : ScF μ μ') (hS : ShC μ) : ShC μ' := hS.grw s.grw (fun a k _ q => s.2.1 a k (fun z => q (by unfold dynR; omega)))
theorem ScF.ld (s : ScF μ μ') {L : Nat} {c : Lc} {d : Ld} (hR : LdR μ L c d) : LdR μ' L c d := hR.same s.grw (fun a _ ha => ⟨fun k => s.2.2.2 a k (by unfold InL at ha; unfold scI; omega), fun k => s.2.2.1 a k (by unfold InL at ha; unfold scL; omega), fun k => s.2.1 a k (by unfold InL at ha; omega)⟩)
theorem ScF.n40 (s : ScF μ μ') {S : St} (hN : CsN μ 40 S) : CsN μ' 40 S := hN.of (fun a k _ _ => s.2.2.2 a k (by unfold scI; omega))
theorem CsP.of {ps : List St} (hP : CsP μ ps) (hI : ∀ a k, 52 ≤ a → a ≤ 173 → mI μ' a k = mI μ a k) : CsP μ' ps := by
  obtain ⟨p1, p2, nw, p3, p4, p5⟩ := hP
  exact ⟨by rw [hI _ _ (by omega) (by omega)]; exact p1, p2, nw, p3, by rw [hI _ _ (by omega) (by omega)]; exact p4, fun i S q => (p5 i S q).of (fun a k q1 q2 => hI a k (by omega) (by omega))⟩
theorem ScF.frc (s : ScF μ μ') : FrC μ μ' := ⟨s.grw, fun a k q1 q2 => ⟨s.2.2.2 a k (by unfold scI; omega), s.2.2.1 a k (by unfold scL; omega), s.2.1 a k (by omega)⟩⟩
theorem ClsRel.sc (hC : ClsRel μ h) (s : ScF μ μ') (hk : ∃ L c, CsL μ' L c (ldH h)) : PX μ h μ' := by
  obtain ⟨⟨⟨b1, b2, b3⟩, t, f, r⟩, ⟨n, p⟩, ⟨w, o, dd⟩, -⟩ := hC
  refine ⟨⟨⟨⟨s.sh b1, fun i q => by rw [s.2.2.2 _ _ (by unfold scI; omega)]; exact b2 i q, by unfold mN; rw [s.1]; exact b3⟩, ⟨by rw [s.2.2.2 _ _ (by unfold scI; omega)]; exact t.1, t.2.1, fun j x q => by rw [s.2.2.2 _ _ (by unfold scI; omega)]; exact t.2.2 j x q⟩, ⟨by rw [s.2.2.2 _ _ (by unfold scI; omega)]; exact f.1, by rw [s.2.2.2 _ _ (by unfold scI; omega)]; exact f.2⟩, fun k q => by rw [s.2.2.2 _ _ (by unfold scI; omega)]; exact r k q⟩, ⟨s.n40 n, p.of (fun a k _ _ => s.2.2.2 a k (by unfold scI; omega))⟩, ⟨⟨by rw [s.2.2.2 _ _ (by unfold scI; omega)]; exact w.1, fun i x q => by rw [s.2.2.2 _ _ (by unfold scI; omega), s.2.2.2 _ _ (by unfold scI; omega)]; exact w.2 i x q⟩, ⟨by rw [s.2.2.2 _ _ (by unfold scI; omega)]; exact o.1, o.2.1, fun i x q => by rw [s.2.2.2 _ _ (by unfold scI; omega)]; exact o.2.2 i x q⟩, by unfold CsD; rw [s.2.2.2 _ _ (by unfold scI; omega)]; exact dd⟩, hk⟩, s.frc⟩
theorem CsL.ride {L : Nat} {c : Lc} {d : Ld} (hL : CsL μ L c d) {b : Nat} (hb : b = 33 ∨ b = 35 ∨ b = 38) (r : RdF b μ μ') (hk : RdK μ' b d L) : CsL μ' L c d := by
  obtain ⟨h1, h2, h3, h4, h5⟩ := hL
  have hN : mN μ ≤ mN μ' := r.grw.1
  have key : ∀ b', b' = 33 ∨ b' = 35 ∨ b' = 38 → b' ≠ b → RdK μ b' d L → RdK μ' b' d L := fun b' hb' hne hk' => hk'.of hN (r.2.1 _ _ (by omega)) (fun k => r.2.2.1 _ _ hne) (fun a k q => r.2.2.2 a k (by omega) (by omega) (by omega) (by omega) (by omega))
  refine ⟨(r.2.1 _ _ (by omega)).trans h1, r.ld hb h2, ?_, ?_, ?_⟩
  · by_cases e : b = 33
    · subst e; exact hk
    · exact key 33 (by omega) (Ne.symm e) h3
  · by_cases e : b = 35
    · subst e; exact hk
    · exact key 35 (by omega) (Ne.symm e) h4
  · by_cases e : b = 38
    · subst e; exact hk
    · exact key 38 (by omega) (Ne.symm e) h5
theorem CsL.night {L : Nat} {c : Lc} {d : Ld} {sb : Nat} (hb : sb = 40 ∨ sb = 46) (hL : CsL μ L c d) (r : HnF sb μ μ') (hk : RdK μ' 38 d L) : CsL μ' L c d := by
  obtain ⟨h1, h2, h3, h4, h5⟩ := hL
  have hN : mN μ ≤ mN μ' := r.grw.1
  have key : ∀ b', b' = 33 ∨ b' = 35 → RdK μ b' d L → RdK μ' b' d L := fun b' hb' hk' => hk'.of hN (r.2.1 _ _ (by omega)) (fun k => r.2.2.1 _ _ (by omega) (by omega)) (fun a k q => r.2.2.2 a k (by omega) (by omega) (by omega) (by omega) (by omega) (by omega) (by omega))
  exact ⟨(r.2.1 _ _ (by omega)).trans h1, r.ld hb h2, key 33 (by omega) h3, key 35 (by omega) h4, hk⟩
/-- cells that neither the land nor the rides use -/
theorem CsL.of {L : Nat} {c : Lc} {d : Ld} (hL : CsL μ L c d) (e : μ'.2 = μ.2) (hI : ∀ a k, InL a ∨ (33 ≤ a ∧ a ≤ 36) ∨ a = 38 ∨ a = 39 → mI μ' a k = mI μ a k) : CsL μ' L c d := by
  obtain ⟨h1, h2, h3, h4, h5⟩ := hL
  have hN : mN μ ≤ mN μ' := by unfold mN; rw [e]; exact Nat.le_refl _
  have eR : ∀ a k, mR μ' a k = mR μ a k := fun a k => by unfold mR; rw [e]
  have eL : ∀ a k, mL μ' a k = mL μ a k := fun a k => by unfold mL; rw [e]
  exact ⟨(eR _ _).trans h1, h2.of2 e (fun a k q => hI a k (Or.inl q)), h3.of hN (eR _ _) (fun k => eL _ _) (fun a k q => hI a k (by omega)), h4.of hN (eR _ _) (fun k => eL _ _) (fun a k q => hI a k (by omega)), h5.of hN (eR _ _) (fun k => eL _ _) (fun a k q => hI a k (by omega))⟩
theorem ClsRel.self (hC : ClsRel μ h) : PX μ h μ := ⟨hC, Grw.refl μ, fun _ _ _ _ => ⟨rfl, rfl, rfl⟩⟩
theorem ClsRel.ride (hC : ClsRel μ h) {L : Nat} {c : Lc} (hL : CsL μ L c (ldH h)) {b : Nat} (hb : b = 33 ∨ b = 35 ∨ b = 38) (r : RdF b μ μ') (hk : RdK μ' b (ldH h) L) : PX μ h μ' := hC.sc (ScF.ofR hb r) ⟨L, c, hL.ride hb r hk⟩
end SCP
section CTP
variable {d : Ld}
theorem ct_list (h7 : d.1.1 ≤ 7) (h49 : nC d ≤ 49) : ∀ (L : List Nat), L.Nodup → (∀ x ∈ L, clOk d x) → fb_ct (fun i => decide (i < nC d) && decide (cK d i ∈ L)) 64 = L.length
  | [], _, _ => by
    rw [List.length_nil, fb_ct_zero]
    intro k _
    simp
  | x :: L, hn, hx => by
    have hn2 := List.nodup_cons.mp hn
    have ih := ct_list h7 h49 L hn2.2 (fun y hy => hx y (List.mem_cons_of_mem _ hy))
    have hxo := hx x (List.mem_cons_self)
    have hk := kC_lt hxo
    have hu := fb_ct_upd (fun i => decide (i < nC d) && decide (cK d i ∈ L)) true (i := kC d x) (n := 64) (by omega)
    have hp : (decide (kC d x < nC d) && decide (cK d (kC d x) ∈ L)) = false := by rw [cK_kC hxo, decide_eq_false hn2.1, Bool.and_false]
    rw [hp] at hu
    have hc : fb_ct (fun k => if k = kC d x then true else (decide (k < nC d) && decide (cK d k ∈ L))) 64 = fb_ct (fun i => decide (i < nC d) && decide (cK d i ∈ x :: L)) 64 := fb_ct_cong (fun k _ => by
      by_cases q : k = kC d x
      · subst q
        rw [if_pos rfl, decide_eq_true hk, cK_kC hxo, decide_eq_true (List.mem_cons_self)]
        rfl
      · rw [if_neg q]
        by_cases hkn : k < nC d
        · have hne : cK d k ≠ x := fun z => q (by rw [← z, kC_cK h7 hkn])
          simp [hkn, hne]
        · simp [hkn])
    rw [hc, ih] at hu
    simpa using hu
theorem chB_ct (h7 : d.1.1 ≤ 7) (h49 : nC d ≤ 49) (hn : d.2.1.Nodup) (hx : ∀ x ∈ d.2.1, clOk d x) : fb_ct (fun i => (chB d).testBit i) 64 = d.2.1.length := by
  rw [← ct_list h7 h49 d.2.1 hn hx]
  exact fb_ct_cong (fun k _ => by unfold chB; rw [bsF_tb])
end CTP
section KX1
variable {l : Launch} {G : Gm} {μ : Mm} {h : Hs}
theorem HOk.d7 (hH : HOk h) : (ldH h).1.1 ≤ 7 ∧ (ldH h).1.2.1 ≤ 7 ∧ nC (ldH h) ≤ 49 ∧ (∀ x ∈ (ldH h).2.1, clOk (ldH h) x) ∧ (ldH h).2.2.1.length ≤ 5 ∧ (ldH h).2.2.2.1.length ≤ 6 := by
  rcases hH.1.1 with hW | e
  · exact ⟨hW.w7.2, hW.h7.2, hW.n49.2, hW.2.1.2, hW.2.2.1.1, hW.2.2.2.1.1⟩
  · rw [e]
    exact ⟨by decide, by decide, by decide, (fun x hx => by cases hx), by decide, by decide⟩

theorem kx_fault (hC : ClsRel μ h) (x : Int32) : AMet l G 0 0 0 mtX12_fault [.ref (G.1 + 0), .int x] μ (qI (fun y μ' => y = faultF h x ∧ PX μ h μ')) := by
  refine AMet.of (by decide) (Nat.le_of_ble_eq_true rfl) (fun X C hX hnm hq => ?_)
  have hS := hC.1.1.1
  have hf := hC.1.2.2.1
  refine C.iload_n dX12_fault_0 1 rfl ?_
  refine C.if_ne 12 dX12_fault_1 rfl (fun hc1 => ?_) (fun hc1 => ?_)
  · refine C.iload_n dX12_fault_12 1 rfl ?_
    refine C.iconst (nI 1) dX12_fault_13 (by decide) ?_
    refine C.icmp_ne 27 dX12_fault_14 rfl (fun hc14 => ?_) (fun hc14 => ?_)
    · refine C.iconst (-1) dX12_fault_27 (by decide) ?_
      refine C.iret hq dX12_fault_28 ?_
      refine ⟨?_, hC.self⟩
      unfold faultF
      have hc1' : ¬ x = nI 0 := hc1
      first | (rw [if_neg hc1', if_pos hc14, hf.2]) | (rw [if_neg hc1', if_neg hc14])
    · refine C.aload_n dX12_fault_17 0 rfl ?_
      refine C.getO fX12_21 dX12_fault_18 hS.o0 hS.r0_1 ?_
      refine C.getI fX12_150 dX12_fault_21 hS.o3 ?_
      refine C.goto 28 dX12_fault_24 rfl ?_
      refine C.iret hq dX12_fault_28 ?_
      refine ⟨?_, hC.self⟩
      unfold faultF
      have hc1' : ¬ x = nI 0 := hc1
      first | (rw [if_neg hc1', if_pos hc14, hf.2]) | (rw [if_neg hc1', if_neg hc14])
  · refine C.aload_n dX12_fault_4 0 rfl ?_
    refine C.getO fX12_21 dX12_fault_5 hS.o0 hS.r0_1 ?_
    refine C.getI fX12_134 dX12_fault_8 hS.o3 ?_
    refine C.iret hq dX12_fault_11 ?_
    exact ⟨by rw [hf.1]; unfold faultF; exact (if_pos hc1).symm, hC.self⟩
theorem kx_status (hC : ClsRel μ h) (x : Int32) : AMet l G 0 0 0 mtX12_status [.ref (G.1 + 0), .int x] μ (qI (fun y μ' => y = statF h x ∧ PX μ h μ')) := by
  refine AMet.of (by decide) (Nat.le_of_ble_eq_true rfl) (fun X C hX hnm hq => ?_)
  have hS := hC.1.1.1
  have hr := hC.1.2.2.2
  unfold statF at hq
  refine C.iload_n dX12_status_0 1 rfl ?_
  refine C.if_lt 19 dX12_status_1 rfl (fun hc1 => ?_) (fun hc1 => ?_)
  · rw [inN_f (Or.inl hc1)] at hq
    refine C.iconst (-1) dX12_status_19 (by decide) ?_
    refine C.iret hq dX12_status_20 ?_
    first | exact ⟨rfl, hC.self⟩ | exact ⟨by rw [n_cl (by omega)]; exact hr j hj, hC.self⟩
  · refine C.iload_n dX12_status_4 1 rfl ?_
    refine C.bipush (nI 6) dX12_status_5 (by decide) ?_
    refine C.icmp_ge 19 dX12_status_7 rfl (fun hc7 => ?_) (fun hc7 => ?_)
    · rw [inN_f (Or.inr hc7)] at hq
      refine C.iconst (-1) dX12_status_19 (by decide) ?_
      refine C.iret hq dX12_status_20 ?_
      first | exact ⟨rfl, hC.self⟩ | exact ⟨by rw [n_cl (by omega)]; exact hr j hj, hC.self⟩
    · obtain ⟨j, hj, ej, e7⟩ := inN_t (n := 6) (by decide) hc1 hc7
      rw [e7] at hq
      subst ej
      refine C.aload_n dX12_status_10 0 rfl ?_
      refine C.getA fX12_108 dX12_status_11 hS.o0 hS.r0_14 ?_
      refine C.iload_n dX12_status_14 1 rfl ?_
      refine C.iald hS.a178 (n_in hj) dX12_status_15 ?_
      refine C.goto 20 dX12_status_16 rfl ?_
      refine C.iret hq dX12_status_20 ?_
      first | exact ⟨rfl, hC.self⟩ | exact ⟨by rw [n_cl (by omega)]; exact hr j hj, hC.self⟩
theorem kx_octet (hC : ClsRel μ h) (x : Int32) : AMet l G 0 0 0 mtX12_octet [.ref (G.1 + 0), .int x] μ (qI (fun y μ' => y = octF h x ∧ PX μ h μ')) := by
  refine AMet.of (by decide) (Nat.le_of_ble_eq_true rfl) (fun X C hX hnm hq => ?_)
  have hS := hC.1.1.1
  obtain ⟨o1, o2, o3⟩ := hC.2.2.1.2.1
  unfold octF at hq
  refine C.iload_n dX12_octet_0 1 rfl ?_
  refine C.if_lt 21 dX12_octet_1 rfl (fun hc1 => ?_) (fun hc1 => ?_)
  · rw [inN_f (Or.inl hc1)] at hq
    refine C.iconst (-1) dX12_octet_21 (by decide) ?_
    refine C.iret hq dX12_octet_22 ?_
    first | exact ⟨rfl, hC.self⟩ | exact ⟨by rw [n_cl (by omega)]; exact o3 j _ (by rw [List.getD_eq_getElem?_getD, List.getElem?_eq_getElem hj]; rfl), hC.self⟩
  · refine C.iload_n dX12_octet_4 1 rfl ?_
    refine C.aload_n dX12_octet_5 0 rfl ?_
    refine C.getI fX12_381 dX12_octet_6 hS.o0 ?_
    rw [o1]
    refine C.icmp_ge 21 dX12_octet_9 rfl (fun hc9 => ?_) (fun hc9 => ?_)
    · rw [inN_f (Or.inr hc9)] at hq
      refine C.iconst (-1) dX12_octet_21 (by decide) ?_
      refine C.iret hq dX12_octet_22 ?_
      first | exact ⟨rfl, hC.self⟩ | exact ⟨by rw [n_cl (by omega)]; exact o3 j _ (by rw [List.getD_eq_getElem?_getD, List.getElem?_eq_getElem hj]; rfl), hC.self⟩
    · obtain ⟨j, hj, ej, e7⟩ := inN_t (n := (ocH h).length) (by omega) hc1 hc9
      rw [e7] at hq
      subst ej
      refine C.aload_n dX12_octet_12 0 rfl ?_
      refine C.getA fX12_105 dX12_octet_13 hS.o0 hS.r0_13 ?_
      refine C.iload_n dX12_octet_16 1 rfl ?_
      refine C.iald hS.a177 (n_in (by omega)) dX12_octet_17 ?_
      refine C.goto 22 dX12_octet_18 rfl ?_
      refine C.iret hq dX12_octet_22 ?_
      first | exact ⟨rfl, hC.self⟩ | exact ⟨by rw [n_cl (by omega)]; exact o3 j _ (by rw [List.getD_eq_getElem?_getD, List.getElem?_eq_getElem hj]; rfl), hC.self⟩
theorem kx_told (hC : ClsRel μ h) (hH : HOk h) (x y : Int32) : AMet l G 1 0 0 mtX12_told [.ref (G.1 + 0), .int x, .int y] μ (qI (fun z μ' => z = toldF h x y ∧ PX μ h μ')) := by
  refine AMet.of (by decide) (Nat.le_of_ble_eq_true rfl) (fun X C hX hnm hq => ?_)
  have hS := hC.1.1.1
  refine C.aload_n dX12_told_0 0 rfl ?_
  refine C.getO fX12_80 dX12_told_1 hS.o0 hS.r0_7 ?_
  refine C.iload_n dX12_told_4 1 rfl ?_
  refine C.iload_n dX12_told_5 2 rfl ?_
  refine C.callVI lX12_268 dX12_told_6 (ks_toldOf hS.s40 hC.2.1.1 hH.1.2.1.2.2.2.2.2 x y) hS.o40 rfl rfl (Nat.le_of_ble_eq_true rfl) (Nat.zero_le _) (Nat.zero_le _) (Nat.le_of_ble_eq_true rfl) (fun x6 μ6 h6 => ?_)
  obtain ⟨rfl, hμ⟩ := h6
  subst hμ
  refine C.iret hq dX12_told_9 ?_
  exact ⟨rfl, hC.self⟩
theorem kx_has (hC : ClsRel μ h) (hH : HOk h) (x : Int32) : AMet l G 1 0 0 mtX12_has [.ref (G.1 + 0), .int x] μ (qI (fun y μ' => y = hasF h x ∧ PX μ h μ')) := by
  refine AMet.of (by decide) (Nat.le_of_ble_eq_true rfl) (fun X C hX hnm hq => ?_)
  have hS := hC.1.1.1
  obtain ⟨hN, hP⟩ := hC.2.1
  obtain ⟨hw, ho, hd⟩ := hC.2.2.1
  obtain ⟨L, c, hg, hR, -, -, -⟩ := hC.2.2.2
  have hi := hR.2.1
  have hd7 := hH.d7
  have hSW := hH.1.2.1
  have h6 : (stH h).2.1.length ≤ 6 := by rw [hSW.2.2.1]; exact hd7.2.2.2.2.2
  have hr32 : (stH h).1.2 < 32 := two5 hSW.2.1 hd7.2.2.2.2.1
  have hch : chB (ldH h) < 2 ^ 63 := Nat.lt_of_lt_of_le (bsF_49 hd7.2.2.1) (by decide)
  obtain ⟨-, -, -, f, -, -, t8, -, -⟩ := hN
  have hN := hC.2.1.1
  unfold hasF at hq
  refine C.iload_n dX12_has_0 1 rfl ?_
  cases hin1 : inN x 12 with
  | none =>
    rw [hin1] at hq
    refine C.tableOut 163 dX12_has_1 (inN_out (n := 11) (by decide) hin1) rfl ?_
    refine C.iconst (-1) dX12_has_163 (by decide) ?_
    refine C.iret hq dX12_has_164 ?_
    exact ⟨rfl, hC.self⟩
  | some j1 =>
    rw [hin1] at hq
    obtain ⟨hj1, e1⟩ := inN_some (by decide) hin1
    subst e1
    rcases (show j1 = 0 ∨ j1 = 1 ∨ j1 = 2 ∨ j1 = 3 ∨ j1 = 4 ∨ j1 = 5 ∨ j1 = 6 ∨ j1 = 7 ∨ j1 = 8 ∨ j1 = 9 ∨ j1 = 10 ∨ j1 = 11 by omega) with rfl | rfl | rfl | rfl | rfl | rfl | rfl | rfl | rfl | rfl | rfl | rfl
    · refine C.tableIn 64 dX12_has_1 (by decide) (by decide) rfl rfl ?_
      refine C.aload_n dX12_has_64 0 rfl ?_
      refine C.getO fX12_54 dX12_has_65 hS.o0 hg ?_
      refine C.getI fX12_153 dX12_has_68 hR.o ?_
      refine C.iret hq dX12_has_71 ?_
      exact ⟨hi.1.1, hC.self⟩
    · refine C.tableIn 72 dX12_has_1 (by decide) (by decide) rfl rfl ?_
      refine C.aload_n dX12_has_72 0 rfl ?_
      refine C.getO fX12_54 dX12_has_73 hS.o0 hg ?_
      refine C.getI fX12_156 dX12_has_76 hR.o ?_
      refine C.iret hq dX12_has_79 ?_
      exact ⟨hi.1.2.1, hC.self⟩
    · refine C.tableIn 80 dX12_has_1 (by decide) (by decide) rfl rfl ?_
      refine C.aload_n dX12_has_80 0 rfl ?_
      refine C.getO fX12_54 dX12_has_81 hS.o0 hg ?_
      refine C.getL fX12_159 dX12_has_84 hR.o ?_
      rw [hR.2.2.1.1]
      refine C.callSI lX12_163 dX12_has_87 (kj_bitsL hch) rfl rfl (Nat.le_of_ble_eq_true rfl) (Nat.zero_le _) (Nat.zero_le _) (Nat.le_of_ble_eq_true rfl) (fun x87 μ87 h87 => ?_)
      obtain ⟨rfl, hμ⟩ := h87
      subst hμ
      refine C.iret hq dX12_has_90 ?_
      exact ⟨congrArg nI (chB_ct hd7.1 hd7.2.2.1 hR.2.2.2.2.2.2 hd7.2.2.2.1), hC.self⟩
    · refine C.tableIn 91 dX12_has_1 (by decide) (by decide) rfl rfl ?_
      refine C.aload_n dX12_has_91 0 rfl ?_
      refine C.getO fX12_54 dX12_has_92 hS.o0 hg ?_
      refine C.getI fX12_169 dX12_has_95 hR.o ?_
      refine C.iret hq dX12_has_98 ?_
      exact ⟨hi.2.1.1, hC.self⟩
    · refine C.tableIn 99 dX12_has_1 (by decide) (by decide) rfl rfl ?_
      refine C.aload_n dX12_has_99 0 rfl ?_
      refine C.getO fX12_54 dX12_has_100 hS.o0 hg ?_
      refine C.getI fX12_172 dX12_has_103 hR.o ?_
      refine C.iret hq dX12_has_106 ?_
      exact ⟨hi.2.1.2, hC.self⟩
    · refine C.tableIn 107 dX12_has_1 (by decide) (by decide) rfl rfl ?_
      refine C.aload_n dX12_has_107 0 rfl ?_
      refine C.getO fX12_80 dX12_has_108 hS.o0 hS.r0_7 ?_
      refine C.getI fX12_175 dX12_has_111 hS.o40 ?_
      refine C.iret hq dX12_has_114 ?_
      exact ⟨hN.1.1, hC.self⟩
    · refine C.tableIn 115 dX12_has_1 (by decide) (by decide) rfl rfl ?_
      refine C.aload_n dX12_has_115 0 rfl ?_
      refine C.getO fX12_80 dX12_has_116 hS.o0 hS.r0_7 ?_
      refine C.getI fX12_178 dX12_has_119 hS.o40 ?_
      rw [hN.1.2]
      refine C.callSI lX12_181 dX12_has_122 (kj_bitsI hr32) rfl rfl (Nat.le_of_ble_eq_true rfl) (Nat.zero_le _) (Nat.zero_le _) (Nat.le_of_ble_eq_true rfl) (fun x122 μ122 h122 => ?_)
      obtain ⟨rfl, hμ⟩ := h122
      subst hμ
      refine C.iret hq dX12_has_125 ?_
      exact ⟨rfl, hC.self⟩
    · refine C.tableIn 126 dX12_has_1 (by decide) (by decide) rfl rfl ?_
      refine C.aload_n dX12_has_126 0 rfl ?_
      refine C.getO fX12_80 dX12_has_127 hS.o0 hS.r0_7 ?_
      refine C.callVI lX12_185 dX12_has_130 (ks_gone hS.s40 hN hSW.2.2.2.1 h6) hS.o40 rfl rfl (Nat.le_of_ble_eq_true rfl) (Nat.zero_le _) (Nat.zero_le _) (Nat.le_of_ble_eq_true rfl) (fun x130 μ130 h130 => ?_)
      obtain ⟨rfl, hμ⟩ := h130
      subst hμ
      refine C.iret hq dX12_has_133 ?_
      exact ⟨rfl, hC.self⟩
    · refine C.tableIn 134 dX12_has_1 (by decide) (by decide) rfl rfl ?_
      refine C.aload_n dX12_has_134 0 rfl ?_
      refine C.getO fX12_80 dX12_has_135 hS.o0 hS.r0_7 ?_
      refine C.callVI lX12_189 dX12_has_138 (ks_purses hS.s40 hN h6) hS.o40 rfl rfl (Nat.le_of_ble_eq_true rfl) (Nat.zero_le _) (Nat.zero_le _) (Nat.le_of_ble_eq_true rfl) (fun x138 μ138 h138 => ?_)
      obtain ⟨rfl, hμ⟩ := h138
      subst hμ
      refine C.iret hq dX12_has_141 ?_
      exact ⟨rfl, hC.self⟩
    · refine C.tableIn 142 dX12_has_1 (by decide) (by decide) rfl rfl ?_
      refine C.aload_n dX12_has_142 0 rfl ?_
      refine C.getO fX12_80 dX12_has_143 hS.o0 hS.r0_7 ?_
      refine C.getI fX12_192 dX12_has_146 hS.o40 ?_
      refine C.iret hq dX12_has_149 ?_
      exact ⟨t8, hC.self⟩
    · refine C.tableIn 150 dX12_has_1 (by decide) (by decide) rfl rfl ?_
      refine C.aload_n dX12_has_150 0 rfl ?_
      refine C.getI fX12_144 dX12_has_151 hS.o0 ?_
      refine C.iret hq dX12_has_154 ?_
      exact ⟨hw.1, hC.self⟩
    · refine C.tableIn 155 dX12_has_1 (by decide) (by decide) rfl rfl ?_
      refine C.aload_n dX12_has_155 0 rfl ?_
      refine C.getO fX12_90 dX12_has_156 hS.o0 hS.r0_9 ?_
      refine C.getI fX12_141 dX12_has_159 hS.o52 ?_
      refine C.iret hq dX12_has_162 ?_
      exact ⟨hP.1, hC.self⟩
end KX1
