/-! the law from its entry -/
def Mz : Mm := (fun _ _ => 0, fun _ _ => 0, fun _ _ => none, fun _ => (0, 0), 0)
theorem whole_start {p : Program} {e : Env} {s : State} {m : MethodId} {below : List Frame} {meth : Method} {c : Code} (l : Launch) (hflags : l.flags = flags0) {b L : Nat} {xs : Nat → Int32} (hL : L ≤ 3072) (C0 : lw_At p s m meth c b L xs) : W p l e room_1 s m #[Value.ref b] below meth c s.heap [] 0 0 (lw_Z below #[Value.ref b] s) (entryFrame m ([Value.ref b] : List Value).toArray 4) := by
  obtain ⟨hx, hb, hr, hml, hown, hts, hXs, hbl, hlocks, hgv⟩ := C0
  obtain ⟨G, hG, hK⟩ := KK_ex hts hgv
  have hok : ∀ w ∈ lw_ok, w.before #[Value.ref b] s = true := fun w h => hts w (List.mem_filter.mp h).1
  have C : Cok l G (XL p e s m b below meth c) code RL 1000 ret := ⟨hx, hb, hml, hown, hok, hK, hlocks, hr, by show 1000 ≤ 2048; decide, by show 64 * 1000 ≤ 84000; decide⟩
  have hX : (XL p e s m b below meth c).2.2.1 = 4 := rfl
  have main : AW l G (XL p e s m b below meth c) 600000 7302250 0 [(0, .ref b)] [] Mz := by
    refine C.new (c := 12) rfl nL_7 dL_law_0 (by decide) (by decide) ?_
    rw [show nF 12 = 19 from rfl, show mN Mz = 0 from rfl]
    have h0 := (Mk.base (M := Mz) (E := e0) rfl (fun a q => absurd q (Nat.not_lt_zero a)) (fun a q => False.elim q)).new 12 19 1 rfl
    generalize nM Mz 12 19 = M1 at h0 ⊢
    refine C.dup dL_law_3 rfl ?_
    refine C.callIV lL_9 dL_law_4 (ki_class h0) rfl rfl (Nat.le_of_ble_eq_true rfl) (by decide) (by decide) (Nat.le_of_ble_eq_true rfl) (fun μ4 h4 => ?_)
    refine C.astore_n (lv' := [(0, _), (1, _)]) dL_law_7 (nLt hX rfl) rfl ?_
    refine C.new (c := 13) rfl nL_10 dL_law_8 (by decide) (by decide) ?_
    rw [show nF 13 = 113 from rfl, h4.2]
    have h8 := (Mk.base (M := μ4) (E := e3) h4.2 (fun a q => q) (fun a q => q)).new 13 113 180 rfl
    generalize nM μ4 13 113 = M8 at h8 ⊢
    refine C.dup dL_law_11 rfl ?_
    refine C.callIV lL_12 dL_law_12 (ki_ref h8) rfl rfl (Nat.le_of_ble_eq_true rfl) (by decide) (by decide) (Nat.le_of_ble_eq_true rfl) (fun μ12 h12 => ?_)
    refine C.astore_n (lv' := [(0, _), (1, _), (2, _)]) dL_law_15 (nLt hX rfl) rfl ?_
    refine C.iconst (nI 0) dL_law_16 (by decide) ?_
    refine C.istore_n (lv' := [(0, _), (1, _), (2, _), (3, _)]) dL_law_17 (nLt hX rfl) rfl ?_
    exact law_loop C hG hL hXs hbl 513 0 _ _ hs0 μ12 (by omega) (by decide) (by decide) (by decide) (cls_start (h4.1.mv h4.2 h12.1) (by rw [h12.1.1.1]; exact Nat.le_refl _)) (ref_start h12.1 h12.2) hs0_ok
  have hl := lv_entry [Value.ref b] (n := 4) (Nat.le_of_ble_eq_true rfl)
  rw [lg_entry_eq]
  exact main s.heap [] 0 0 _ ⟨by rw [hG]; rfl, fun a ha => absurd ha (Nat.not_lt_zero a)⟩ va_S.rf (Nat.le_of_eq (Nat.zero_add _)) (Nat.le_of_eq (Nat.zero_add _)) hl
