/-! the class: what was read, written down -/
section KWR
variable {l : Launch} {G : Gm} {μ : Mm} {m : Nat} {c : List Nat × Bool}
def wrM (μ : Mm) (n : Nat) (q : Bool) : Mm := sI (sR (nM (sA (nM μ 100 n) (mN μ) (va_cpy (mI (nM μ 100 n) 6) (mI (nM μ 100 n) (mN μ)) 0 0 n)) 0 2) (mN μ + 1) 0 (some (mN μ))) (mN μ + 1) 1 (bI q)

theorem kf_written (hS : ShC μ) (hN : 259 ≤ mN μ) (hP : PhR μ m c) : AMet l G 2 2 (c.1.length + 2) mtX6_written [.ref (G.1 + 5)] μ (qR G.1 (fun r μ' => r = mN μ + 1 ∧ μ' = wrM μ c.1.length c.2)) := by
  refine AMet.of (by decide) (Nat.le_of_ble_eq_true rfl) (fun X C hX hnm hq => ?_)
  obtain ⟨p1, p2, p3, p4, p5⟩ := hP
  have hS2 : ShC (nM μ 100 c.1.length) := hS.grw (Grw.new μ 100 c.1.length) (fun a k q _ => by show (if a = mN μ then (fun _ => none) else μ.2.2.1 a) k = _; rw [if_neg (by omega)]; rfl)
  have e2 : ∀ a k, a ≠ mN μ → mI (nM μ 100 c.1.length) a k = mI μ a k := fun a k q => by show (if a = mN μ then (fun _ => 0) else μ.1 a) k = _; rw [if_neg q]; rfl
  have hA1 : isA (nM μ 100 c.1.length) (mN μ) 0 c.1.length := ⟨Nat.lt_succ_self _, if_pos rfl⟩
  generalize hM1 : nM μ 100 c.1.length = M1 at *
  have n1 : mN M1 = mN μ + 1 := by rw [← hM1]; rfl
  have hS3 : ShC (sA M1 (mN μ) (va_cpy (mI M1 6) (mI M1 (mN μ)) 0 0 c.1.length)) := hS2.of rfl
  have e3 : ∀ k, mI (sA M1 (mN μ) (va_cpy (mI M1 6) (mI M1 (mN μ)) 0 0 c.1.length)) 5 k = mI μ 5 k := fun k => by rw [mI_sA, if_neg (by omega)]; exact e2 5 k (by omega)
  generalize hM2 : sA M1 (mN μ) (va_cpy (mI M1 6) (mI M1 (mN μ)) 0 0 c.1.length) = M2 at *
  have n2 : mN M2 = mN μ + 1 := by rw [← hM2]; exact n1
  have hS4 : ShC (nM M2 0 2) := hS3.grw (Grw.new M2 0 2) (fun a k q _ => by show (if a = mN M2 then (fun _ => none) else M2.2.2.1 a) k = _; rw [if_neg (by omega)]; rfl)
  have e4 : mI (nM M2 0 2) 5 4 = bI c.2 := by
    show (if 5 = mN M2 then (fun _ => 0) else M2.1 5) 4 = _
    rw [if_neg (by omega)]
    exact (e3 4).trans p3
  have hO4 : isO (nM M2 0 2) (mN M2) 0 := ⟨Nat.lt_succ_self _, if_pos rfl⟩
  refine C.aload_n dX6_written_0 0 rfl ?_
  refine C.getI fX6_33 dX6_written_1 hS.o5 ?_
  rw [p1]
  refine C.newa (t := 0) (by decide) rfl ac_int dX6_written_4 rfl (by omega) (by omega) (by omega) ?_
  rw [hM1]
  have hS := hS2
  refine C.astore_n (lv' := [(0, _), (1, _)]) dX6_written_6 (nLt hX rfl) rfl ?_
  refine C.aload_n dX6_written_7 0 rfl ?_
  refine C.getA fX6_15 dX6_written_8 hS.o5 hS.r5_1 ?_
  refine C.iconst (nI 0) dX6_written_11 (by decide) ?_
  refine C.aload_n dX6_written_12 1 rfl ?_
  refine C.iconst (nI 0) dX6_written_13 (by decide) ?_
  refine C.aload_n dX6_written_14 0 rfl ?_
  refine C.getI fX6_33 dX6_written_15 hS.o5 ?_
  rw [e2 5 2 (by omega), p1]
  refine C.copyI acX6_44 hS2.a6 hA1 (by omega) (by decide) (by decide) (nI_pos (by omega)) (by rw [n_cl (n := 0), n_cl (n := c.1.length)]; omega) (by rw [n_cl (n := 0), n_cl (n := c.1.length)]; omega) (Nat.le_of_ble_eq_true rfl) (Nat.le_of_ble_eq_true rfl) dX6_written_18 ?_
  rw [n_cl (n := 0), n_cl (n := c.1.length), hM2]
  refine C.new (c := 0) rfl nX6_50 dX6_written_21 (by omega) (by rw [show nF 0 = 2 from rfl]; omega) ?_
  rw [show nF 0 = 2 from rfl]
  have hS := hS4
  refine C.dup dX6_written_24 rfl ?_
  refine C.aload_n dX6_written_25 1 rfl ?_
  refine C.aload_n dX6_written_26 0 rfl ?_
  refine C.getZ fX6_40 dX6_written_27 hS.o5 ?_
  rw [e4]
  refine C.callIV lX6_52 dX6_written_30 (kf_code hO4) rfl rfl (Nat.le_of_ble_eq_true rfl) (Nat.zero_le _) (Nat.zero_le _) (Nat.le_of_ble_eq_true rfl) (fun μ30 h30 => ?_)
  refine C.aret hq dX6_written_33 ?_
  exact ⟨n2, by rw [h30, n2]; unfold wrM; rw [hM1, hM2]⟩
end KWR
