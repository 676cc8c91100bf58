/-! the world at the law's entry -/
theorem inst_all : ∀ (c : Nat) (q : vw_C), mcl[c]? = some q → Cond.instantiable q.1 q.2.2 ∈ tables_1 := by
  intro c q h
  match c, h with
  | 0, h => cases h; exact List.mem_of_getElem? (i := 183) (by decide +kernel)
  | 1, h => cases h; exact List.mem_of_getElem? (i := 394) (by decide +kernel)
  | 2, h => cases h; exact List.mem_of_getElem? (i := 231) (by decide +kernel)
  | 3, h => cases h; exact List.mem_of_getElem? (i := 164) (by decide +kernel)
  | 4, h => cases h; exact List.mem_of_getElem? (i := 211) (by decide +kernel)
  | 5, h => cases h; exact List.mem_of_getElem? (i := 479) (by decide +kernel)
  | 6, h => cases h; exact List.mem_of_getElem? (i := 142) (by decide +kernel)
  | 7, h => cases h; exact List.mem_of_getElem? (i := 177) (by decide +kernel)
  | 8, h => cases h; exact List.mem_of_getElem? (i := 49) (by decide +kernel)
  | 9, h => cases h; exact List.mem_of_getElem? (i := 357) (by decide +kernel)
  | 10, h => cases h; exact List.mem_of_getElem? (i := 425) (by decide +kernel)
  | 11, h => cases h; exact List.mem_of_getElem? (i := 32) (by decide +kernel)
  | 12, h => cases h; exact List.mem_of_getElem? (i := 24) (by decide +kernel)
  | 13, h => cases h; exact List.mem_of_getElem? (i := 1168) (by decide +kernel)
  | c + 14, h => simp [mcl] at h
theorem prim_arr {s : State} {A : Array Value} {ty : FieldType} (h : (Cond.arrayClass ty).before A s = true) : ∃ cA : ClassId, ArrOfT s cA ty ∧ s.vm.findClass ("[" ++ ty.toString) = some cA := by
  obtain ⟨c, k, comp, h1, h2, h3⟩ := Cond.arrayClass_spec h
  exact ⟨c, fun n z => ⟨fun k h => (by cases h), k, h2, comp, h3⟩, h1⟩
def litT (i : Nat) : Term := if i = 0 then .string "WildHunt$Reader" 23 else .string "WildHunt$Reader" 29
set_option maxRecDepth 100000 in
set_option maxHeartbeats 4000000 in
theorem KK_ex {s : State} {b : Nat} (hts : ∀ w ∈ lw_tbl, w.before #[Value.ref b] s = true) (hgv : (Jvm.Cond.and given_1 narrow_1).before #[Value.ref b] s = true) : ∃ G : Gm, G.1 = s.heap.size ∧ KK G s := by
  have hs := flat_of_before _ hgv
  have hT : ∀ w ∈ tables_1, w.before #[Value.ref b] s = true := fun w h => hts w (List.mem_append_right _ h)
  have hok : ∀ w ∈ lw_ok, w.before #[Value.ref b] s = true := fun w h => hts w (List.mem_filter.mp h).1
  have hA : ∀ a : Nat, a < s.heap.size → ¬ s.heap.size ≤ a := fun a h1 h2 => by omega
  have hcl : ∀ c : Nat, ∃ q : ClassId × (Nat → Nat), ∀ r : vw_C, mcl[c]? = some r → u_Kn s r.1 r.2.1 r.2.2 q.1 q.2 := by
    intro c
    cases hc : mcl[c]? with
    | none => exact ⟨(0, fun _ => 0), fun r h => by cases h⟩
    | some r =>
      obtain ⟨C, T, N⟩ := r
      obtain ⟨c0, i0, h0⟩ := u_known (C := C) (T := T) (N := N) (n := N) hok (mcl_ok hc).1 (hT _ (inst_all c _ hc))
      exact ⟨(c0, i0), fun r h => by cases h; exact h0⟩
  obtain ⟨D, hD⟩ := Classical.axiomOfChoice hcl
  obtain ⟨k0, a0, b0⟩ := prim_arr (hT (.arrayClass .int) (List.mem_of_getElem? (i := 140) (by decide +kernel)))
  obtain ⟨k1, a1, b1⟩ := prim_arr (hT (.arrayClass .long) (List.mem_of_getElem? (i := 355) (by decide +kernel)))
  obtain ⟨k2, a2, b2⟩ := prim_arr (hT (.arrayClass .byte) (List.mem_of_getElem? (i := 47) (by decide +kernel)))
  obtain ⟨k3, a3, b3⟩ := prim_arr (hT (.arrayClass .char) (List.mem_of_getElem? (i := 1513) (by decide +kernel)))
  obtain ⟨k4, a4, b4⟩ := prim_arr (hT (.arrayClass .boolean) (List.mem_of_getElem? (i := 1514) (by decide +kernel)))
  have hao := hT (.arrayOver (.object "WildHunt$State")) (List.mem_of_getElem? (i := 485) (by decide +kernel))
  have haa := hT (.arrayOver (.array .int)) (List.mem_of_getElem? (i := 237) (by decide +kernel))
  obtain ⟨cm5, k5, q5, e1, -, e3, e4, e5⟩ := Cond.arrayOver_spec hao
  obtain ⟨cm6, k6, q6, g1, -, g3, g4, g5⟩ := arrayOverA_spec haa
  obtain ⟨tC, hC1, hC2⟩ := va_Tof (s := s) (args := #[Value.ref b]) (tm := .static "WildHunt" "WAY_COLUMNS" "[I") (ty := .int) (N := 8) (f := fun j => .int (wayC j)) (A := fun q => s.heap.size ≤ q) (by decide) (hs _ (List.mem_of_getElem? (i := 10) (by decide +kernel))) (va_eqt (hs _ (List.mem_of_getElem? (i := 11) (by decide +kernel))))
    (fun j hj => va_eqt (hs _ (va_run (f := fun j => Cond.eq (.elem (.static "WildHunt" "WAY_COLUMNS" "[I") (.int (Int32.ofNat j))) (.int (wayC j))) (N := 8) (p := 12) (by decide +kernel) j hj))) hA
  obtain ⟨tR, hR1, hR2⟩ := va_Tof (s := s) (args := #[Value.ref b]) (tm := .static "WildHunt" "WAY_ROWS" "[I") (ty := .int) (N := 8) (f := fun j => .int (wayR j)) (A := fun q => s.heap.size ≤ q) (by decide) (hs _ (List.mem_of_getElem? (i := 21) (by decide +kernel))) (va_eqt (hs _ (List.mem_of_getElem? (i := 22) (by decide +kernel))))
    (fun j hj => va_eqt (hs _ (va_run (f := fun j => Cond.eq (.elem (.static "WildHunt" "WAY_ROWS" "[I") (.int (Int32.ofNat j))) (.int (wayR j))) (N := 8) (p := 23) (by decide +kernel) j hj))) hA
  have iW := hT (.initialized "WildHunt") (List.mem_of_getElem? (i := 1) (by decide +kernel))
  have iS := hT (.initialized "java/lang/String") (List.mem_of_getElem? (i := 4) (by decide +kernel))
  have zC := va_Zof (A := fun q => s.heap.size ≤ q) (hT (.laysStatic "WildHunt" "WAY_COLUMNS" "[I") (List.mem_of_getElem? (i := 893) (by decide +kernel))) iW hC1 hA
  have zR := va_Zof (A := fun q => s.heap.size ≤ q) (hT (.laysStatic "WildHunt" "WAY_ROWS" "[I") (List.mem_of_getElem? (i := 895) (by decide +kernel))) iW hR1 hA
  have zS := va_Zof (A := fun q => s.heap.size ≤ q) (hT (.laysStatic "java/lang/String" "COMPACT_STRINGS" "Z") (List.mem_of_getElem? (i := 68) (by decide +kernel))) iS (va_eqi (z := 1) (hs _ (List.mem_of_getElem? (i := 4) (by decide +kernel)))) hA
  have zQ := va_Zqof (A := fun q => s.heap.size ≤ q) (hT (.laysStatic "jdk/internal/util/Preconditions" "SIOOBE_FORMATTER" "Ljava/util/function/BiFunction;") (List.mem_of_getElem? (i := 84) (by decide +kernel))) (hT (.initialized "jdk/internal/util/Preconditions") (List.mem_of_getElem? (i := 6) (by decide +kernel))) (hs _ (List.mem_of_getElem? (i := 5) (by decide +kernel))) hA
  obtain ⟨adK, adV, hK, hKe⟩ := vk_Sof (s := s) (args := #[Value.ref b]) (N := 2) (tm := litT) (len := litN) (byt := litB) (A := fun q => s.heap.size ≤ q) (by decide)
    (fun i hi => by rcases (show i = 0 ∨ i = 1 by omega) with rfl | rfl; exact hs _ (List.mem_of_getElem? (i := 31) (by decide +kernel)); exact hs _ (List.mem_of_getElem? (i := 199) (by decide +kernel)))
    (fun i hi => by rcases (show i = 0 ∨ i = 1 by omega) with rfl | rfl; exact hs _ (List.mem_of_getElem? (i := 32) (by decide +kernel)); exact hs _ (List.mem_of_getElem? (i := 200) (by decide +kernel)))
    (fun i hi => by rcases (show i = 0 ∨ i = 1 by omega) with rfl | rfl; exact hs _ (List.mem_of_getElem? (i := 33) (by decide +kernel)); exact hs _ (List.mem_of_getElem? (i := 201) (by decide +kernel)))
    (fun i hi => by rcases (show i = 0 ∨ i = 1 by omega) with rfl | rfl; exact hs _ (List.mem_of_getElem? (i := 34) (by decide +kernel)); exact hs _ (List.mem_of_getElem? (i := 202) (by decide +kernel)))
    (fun i hi j hj => by
      rcases (show i = 0 ∨ i = 1 by omega) with rfl | rfl
      · exact hs _ (va_run (f := fun j => Cond.eq (.elem (.field (litT 0) "java/lang/String" "value" "[B") (.int (Int32.ofNat j))) (.int ((litB.getD 0 []).getD j 0))) (N := 164) (p := 35) (by decide +kernel) j hj)
      · exact hs _ (va_run (f := fun j => Cond.eq (.elem (.field (litT 1) "java/lang/String" "value" "[B") (.int (Int32.ofNat j))) (.int ((litB.getD 1 []).getD j 0))) (N := 33) (p := 203) (by decide +kernel) j hj))
    (fun i j hi hj hne => by
      rcases (show i = 0 ∨ i = 1 by omega) with rfl | rfl <;> rcases (show j = 0 ∨ j = 1 by omega) with rfl | rfl
      · exact absurd rfl hne
      · exact Or.inl (hs _ (List.mem_of_getElem? (i := 236) (by decide +kernel)))
      · exact Or.inr (hs _ (List.mem_of_getElem? (i := 236) (by decide +kernel)))
      · exact absurd rfl hne) hA
  refine ⟨(s.heap.size, fun c => (D c).1, fun c => (D c).2, fun t => if t = 0 then k0 else if t = 1 then k1 else if t = 2 then k2 else if t = 3 then k3 else if t = 4 then k4 else if t = 5 then k5 else k6, tC, tR, adK, adV), rfl, ⟨⟨fun c q h => hD c q h, fun k q h => ?_⟩, Nat.le_refl _, zC, hC2, zR, hR2, zS, hK, zQ⟩, ⟨?_, ?_, ?_, ?_, ?_, ?_⟩, ⟨?_, ?_⟩, ⟨va_AO.of hao, haa⟩, vk_R.of (hT (.stringRef "WildHunt$Reader" 23 txt0) (List.mem_of_getElem? (i := 54) (by decide +kernel))) (hKe 0 (by decide)), vk_R.of (hT (.stringRef "WildHunt$Reader" 29 txt1) (List.mem_of_getElem? (i := 110) (by decide +kernel))) (hKe 1 (by decide))⟩
  · match k, h with
    | 0, h => cases h; exact ⟨a0, b0⟩
    | 1, h => cases h; exact ⟨a1, b1⟩
    | 2, h => cases h; exact ⟨a2, b2⟩
    | 3, h => cases h; exact ⟨a3, b3⟩
    | 4, h => cases h; exact ⟨a4, b4⟩
    | 5, h => cases h; exact ⟨fun n z => ⟨fun k h => (by cases h), q5, e3, cm5, e4⟩, q5, cm5, e3, e4, e1, e5⟩
    | 6, h => cases h; exact ⟨fun n z => ⟨fun k h => (by cases h), q6, g3, cm6, g4⟩, g5⟩
    | k + 7, h => simp [gtys] at h
  · exact va_Nw.of rfl (hT (.methodLinkNest "WildHunt" 11 yX11_init "WildHunt") (List.mem_of_getElem? (i := 33) (by decide +kernel)))
  · exact va_Nw.of rfl (hT (.methodLinkNest "WildHunt" 48 yX4_init "WildHunt") (List.mem_of_getElem? (i := 212) (by decide +kernel)))
  · exact va_Nw.of rfl (hT (.methodLinkNest "WildHunt" 79 yX10_init "WildHunt") (List.mem_of_getElem? (i := 426) (by decide +kernel)))
  · exact va_Nw.of rfl (hT (.methodLinkNest "WildHunt$Past" 17 yX10_init "WildHunt") (List.mem_of_getElem? (i := 486) (by decide +kernel)))
  · exact va_Nw.of rfl (hT (.methodLinkNest "WildHunt$LandReader" 151 yX12_bitOf "WildHunt") (List.mem_of_getElem? (i := 657) (by decide +kernel)))
  · exact va_Nw.of rfl (hT (.methodLinkNest "WildHunt$Ride" 95 yX12_bitOf "WildHunt") (List.mem_of_getElem? (i := 898) (by decide +kernel)))
  · exact va_Nw.of rfl (hT (.fieldLinkNest "WildHunt$Ride" 82 "WildHunt" "WAY_COLUMNS" "[I" "WildHunt") (List.mem_of_getElem? (i := 892) (by decide +kernel)))
  · exact va_Nw.of rfl (hT (.fieldLinkNest "WildHunt$Ride" 85 "WildHunt" "WAY_ROWS" "[I" "WildHunt") (List.mem_of_getElem? (i := 894) (by decide +kernel)))
