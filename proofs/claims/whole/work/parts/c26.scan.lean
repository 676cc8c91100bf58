/-! the class: words and numbers read, the loop of advance -/
def SwF (μ μ' : Mm) : Prop := μ'.2 = μ.2 ∧ ∀ a k, ¬ (a = 3 ∧ (k = 2 ∨ k = 3 ∨ k = 5)) → mI μ' a k = mI μ a k
section SWP
theorem let_i {x : Nat} (h : isL x = true) : byS x - nI 97 + nI 1 = nI (x - 96) ∧ x - 96 < 32 ∧ byS x = nI x := by
  unfold isL at h
  simp only [Bool.and_eq_true, decide_eq_true_eq] at h
  have e := byS_lo (x := x) (by omega)
  refine ⟨?_, by omega, e⟩
  rw [e]
  have : ∀ k : Fin 26, nI (97 + k.val) - nI 97 + nI 1 = nI (1 + k.val) := by decide
  have := this ⟨x - 97, by omega⟩
  rw [show 97 + (x - 97) = x by omega, show 1 + (x - 97) = x - 96 by omega] at this
  exact this
theorem dig_i {x v : Nat} (h : isD x = true) : nI v * nI 10 + (byS x - nI 48) = nI (10 * v + (x - 48)) := by
  unfold isD at h
  simp only [Bool.and_eq_true, decide_eq_true_eq] at h
  have e : byS x - nI 48 = nI (x - 48) := by
    rw [byS_lo (by omega), show nI x = nI (x - 48) + nI 48 by rw [nI_add]; congr 1; omega]
    simp
  rw [e, pk_mul, nI_add, Nat.mul_comm]
theorem shl5 {x n : Nat} (hn : n < 6) (hx : x < 32) : nI x <<< ((nI 5 * (nI 5 - nI n)) &&& 31) = nI (x * 2 ^ (5 * (5 - n))) := by
  have h1 : (nI 5 * (nI 5 - nI n)) &&& 31 = nI (5 * (5 - n)) := by
    rcases (show n = 0 ∨ n = 1 ∨ n = 2 ∨ n = 3 ∨ n = 4 ∨ n = 5 by omega) with rfl | rfl | rfl | rfl | rfl | rfl <;> decide
  rw [h1]
  apply pk_shlN
  · rcases (show n = 0 ∨ n = 1 ∨ n = 2 ∨ n = 3 ∨ n = 4 ∨ n = 5 by omega) with rfl | rfl | rfl | rfl | rfl | rfl <;> decide
  · have : 2 ^ (5 * (5 - n)) ≤ 2 ^ 25 := Nat.pow_le_pow_right (by decide) (by omega)
    have := Nat.mul_le_mul (show x ≤ 31 by omega) this
    omega
end SWP
section KSC
variable {l : Launch} {G : Gm} {tp : List Nat}

theorem kq_loopW {X : Cx} {d : Nat} {Q : Mm → Prop} (C : Cok l G X mtX8_advance.2.1 mtX8_advance.1.cls d mtX8_advance.2.2.2) (hX : X.2.2.1 = mtX8_advance.2.2.1) {M : Mm} (hS : ShC M) (hT : CsT M tp) {p : Nat} (hp : p ≤ tp.length) (h4 : mI M 3 4 = nI p) (h5 : mI M 3 5 = nI p) (hq : MR G X (qV Q)) (hQ : ∀ μ', SwF M μ' → mI μ' 3 2 = nI 1 → mI μ' 3 3 = nI (nm32 (tkW (txL tp) tp.length p)) → mI μ' 3 5 = nI (wl (txL tp) tp.length p) → Q μ') (x1 x2 x3 : Int32) : AW l G X 0 0 255 [(0, .ref (G.1 + 3)), (1, .int x1), (2, .int x2), (3, .int x3), (4, .int (nI 97)), (5, .int (nI 122))] [] (sI (sI M 3 2 (nI 1)) 3 3 (nI 0)) := by
  have hS0 := hS
  have hT0 := hT
  have h1600 := hT.2.1
  have hby : ∀ k, k < tp.length → mI M 2 k = byS (txL tp k) ∧ txL tp k < 256 := fun k q => hT.2.2 k _ (txL_q q)
  have fin : ∀ (n : Nat) (μ1 : Mm), p + n ≤ tp.length → SwF M μ1 → mI μ1 3 2 = nI 1 → mI μ1 3 3 = nI (pk5 (tkW (txL tp) tp.length p) n) → mI μ1 3 5 = nI (p + n) → wl (txL tp) tp.length (p + n) = wl (txL tp) tp.length p → ¬ (p + n < tp.length ∧ isL (txL tp (p + n)) = true) → AW l G X 0 0 410 [(0, .ref (G.1 + 3)), (1, .int x1), (2, .int x2), (3, .int x3), (4, .int (nI 97)), (5, .int (nI 122))] [] μ1 := by
    intro n μ1 hn hF m2 m3 m5 hw hno
    have hwl : wl (txL tp) tp.length p = p + n := by rw [← hw]; unfold wl; exact rn_stop hno
    refine C.vret hq dX8_advance_410 ?_
    exact hQ _ hF m2 (by rw [m3, pk5_len _ n (by rw [tkW_len]; omega)]) (by rw [m5, hwl])
  have loop : ∀ (j n : Nat) (μ1 : Mm), p + n + j = tp.length → SwF M μ1 → mI μ1 3 2 = nI 1 → mI μ1 3 3 = nI (pk5 (tkW (txL tp) tp.length p) n) → mI μ1 3 5 = nI (p + n) → wl (txL tp) tp.length (p + n) = wl (txL tp) tp.length p → AW l G X 0 0 255 [(0, .ref (G.1 + 3)), (1, .int x1), (2, .int x2), (3, .int x3), (4, .int (nI 97)), (5, .int (nI 122))] [] μ1 := by
    intro j
    induction j with
    | zero =>
      intro n μ1 hn hF m2 m3 m5 hw
      have hS : ShC μ1 := hS0.of (by rw [hF.1])
      have m1 : mI μ1 1 1 = nI tp.length := (hF.2 _ _ (by omega)).trans hT0.1
      refine C.aload_n dX8_advance_255 0 rfl ?_
      refine C.getI fX8_51 dX8_advance_256 hS.o3 ?_
      refine C.aload_n dX8_advance_259 0 rfl ?_
      refine C.getO fX8_9 dX8_advance_260 hS.o3 hS.r3_0 ?_
      refine C.getI fX8_64 dX8_advance_263 hS.o1 ?_
      rw [m5, m1]
      refine C.icmp_ge 410 dX8_advance_266 rfl (fun hc266 => ?_) (fun hc266 => ?_)
      · exact fin n μ1 (by omega) hF m2 m3 m5 hw (by omega)
      · exact absurd (n_nle hc266) (by omega)
    | succ j ih =>
      intro n μ1 hn hF m2 m3 m5 hw
      have hS : ShC μ1 := hS0.of (by rw [hF.1])
      have m1 : mI μ1 1 1 = nI tp.length := (hF.2 _ _ (by omega)).trans hT0.1
      have m4 : mI μ1 3 4 = nI p := (hF.2 _ _ (by omega)).trans h4
      have hlt : p + n < tp.length := by omega
      obtain ⟨b1, b2⟩ := hby (p + n) hlt
      have hb : mI μ1 2 (p + n) = byS (txL tp (p + n)) := (hF.2 _ _ (by omega)).trans b1
      have hLL := byS_L b2
      have hsub : nI (p + n) - nI p = nI n := by rw [Nat.add_comm, ← nI_add]; simp
      have nxt : isL (txL tp (p + n)) = true → ∀ μ2, SwF M μ2 → mI μ2 3 2 = nI 1 → mI μ2 3 3 = nI (pk5 (tkW (txL tp) tp.length p) (n + 1)) → mI μ2 3 5 = nI (p + n) → AW l G X 0 0 397 [(0, .ref (G.1 + 3)), (1, .int x1), (2, .int x2), (3, .int x3), (4, .int (nI 97)), (5, .int (nI 122))] [] μ2 := by
        intro hL μ2 hF2 q2 q3 q5
        have hS : ShC μ2 := hS0.of (by rw [hF2.1])
        refine C.aload_n dX8_advance_397 0 rfl ?_
        refine C.dup dX8_advance_398 rfl ?_
        refine C.getI fX8_51 dX8_advance_399 hS.o3 ?_
        rw [q5]
        refine C.iconst (nI 1) dX8_advance_402 (by decide) ?_
        refine C.iadd dX8_advance_403 ?_
        rw [nI_add]
        refine C.putI fX8_51 (Or.inl rfl) dX8_advance_404 hS.o3 ?_
        refine C.goto 255 dX8_advance_407 rfl ?_
        refine ih (n + 1) _ (by omega) ⟨hF2.1, fun a k q => ?_⟩ ?_ ?_ ?_ ?_
        · rw [mI_sI, if_neg (by omega)]; exact hF2.2 a k q
        · rw [mI_sI, if_neg (by omega)]; exact q2
        · rw [mI_sI, if_neg (by omega)]; exact q3
        · rw [mI_sI, if_pos ⟨rfl, rfl⟩]; rfl
        · rw [← hw]; unfold wl; rw [rn_step (f := fun q => isL (txL tp q)) hlt hL]; rfl
      refine C.aload_n dX8_advance_255 0 rfl ?_
      refine C.getI fX8_51 dX8_advance_256 hS.o3 ?_
      refine C.aload_n dX8_advance_259 0 rfl ?_
      refine C.getO fX8_9 dX8_advance_260 hS.o3 hS.r3_0 ?_
      refine C.getI fX8_64 dX8_advance_263 hS.o1 ?_
      rw [m5, m1]
      refine C.icmp_ge 410 dX8_advance_266 rfl (fun hc266 => ?_) (fun hc266 => ?_)
      · exact absurd (n_le hc266) (by omega)
      · refine C.aload_n dX8_advance_269 0 rfl ?_
        refine C.getO fX8_9 dX8_advance_270 hS.o3 hS.r3_0 ?_
        refine C.getA fX8_69 dX8_advance_273 hS.o1 hS.r1_0 ?_
        refine C.aload_n dX8_advance_276 0 rfl ?_
        refine C.getI fX8_51 dX8_advance_277 hS.o3 ?_
        rw [m5]
        refine C.bald hS.a2 (n_in (by omega)) dX8_advance_280 ?_
        rw [n_cl, hb]
        refine C.iload dX8_advance_281 4 rfl ?_
        refine C.icmp_lt 410 dX8_advance_283 rfl (fun hc283 => ?_) (fun hc283 => ?_)
        · exact fin n μ1 (by omega) hF m2 m3 m5 hw (fun z => absurd (hLL.mpr z.2).1 (Int32.not_le.mpr hc283))
        · refine C.aload_n dX8_advance_286 0 rfl ?_
          refine C.getO fX8_9 dX8_advance_287 hS.o3 hS.r3_0 ?_
          refine C.getA fX8_69 dX8_advance_290 hS.o1 hS.r1_0 ?_
          refine C.aload_n dX8_advance_293 0 rfl ?_
          refine C.getI fX8_51 dX8_advance_294 hS.o3 ?_
          rw [m5]
          refine C.bald hS.a2 (n_in (by omega)) dX8_advance_297 ?_
          rw [n_cl, hb]
          refine C.iload dX8_advance_298 5 rfl ?_
          refine C.icmp_gt 410 dX8_advance_300 rfl (fun hc300 => ?_) (fun hc300 => ?_)
          · exact fin n μ1 (by omega) hF m2 m3 m5 hw (fun z => absurd (hLL.mpr z.2).2 (Int32.not_le.mpr hc300))
          · have hL : isL (txL tp (p + n)) = true := hLL.mp ⟨Int32.not_lt.mp hc283, Int32.not_lt.mp hc300⟩
            obtain ⟨li, l32, -⟩ := let_i hL
            have hwn : p + n < wl (txL tp) tp.length p := by
              rw [← hw]; unfold wl; rw [rn_step (f := fun q => isL (txL tp q)) hlt hL]
              have := rn_le (f := fun q => isL (txL tp q)) (e := tp.length) (p := p + n + 1) (by omega)
              omega
            have hgd := tkW_get hwn
            refine C.aload_n dX8_advance_303 0 rfl ?_
            refine C.getO fX8_9 dX8_advance_304 hS.o3 hS.r3_0 ?_
            refine C.getA fX8_69 dX8_advance_307 hS.o1 hS.r1_0 ?_
            refine C.aload_n dX8_advance_310 0 rfl ?_
            refine C.getI fX8_51 dX8_advance_311 hS.o3 ?_
            rw [m5]
            refine C.bald hS.a2 (n_in (by omega)) dX8_advance_314 ?_
            rw [n_cl, hb]
            refine C.iload dX8_advance_315 4 rfl ?_
            refine C.isub dX8_advance_317 ?_
            refine C.istore (lv' := [(0, _), (1, _), (2, _), (3, _), (4, _), (5, _), (6, _)]) dX8_advance_318 (nLt hX rfl) rfl ?_
            refine C.aload_n dX8_advance_320 0 rfl ?_
            refine C.getI fX8_51 dX8_advance_321 hS.o3 ?_
            refine C.aload_n dX8_advance_324 0 rfl ?_
            refine C.getI fX8_57 dX8_advance_325 hS.o3 ?_
            rw [m5, m4]
            refine C.isub dX8_advance_328 ?_
            rw [hsub]
            refine C.istore (lv' := [(0, _), (1, _), (2, _), (3, _), (4, _), (5, _), (6, _), (7, _)]) dX8_advance_329 (nLt hX rfl) rfl ?_
            refine C.aload_n dX8_advance_331 0 rfl ?_
            refine C.getI fX8_48 dX8_advance_332 hS.o3 ?_
            rw [m2]
            refine C.iconst (nI 1) dX8_advance_335 (by decide) ?_
            refine C.icmp_ne 369 dX8_advance_336 rfl (fun hc336 => ?_) (fun hc336 => ?_)
            · exact absurd rfl hc336
            · refine C.iload dX8_advance_339 7 rfl ?_
              refine C.bipush (nI 6) dX8_advance_341 (by decide) ?_
              refine C.icmp_ge 369 dX8_advance_343 rfl (fun hc343 => ?_) (fun hc343 => ?_)
              · have hn6 : 6 ≤ n := n_le hc343 (by omega) (by omega)
                refine C.aload_n dX8_advance_369 0 rfl ?_
                refine C.getI fX8_48 dX8_advance_370 hS.o3 ?_
                rw [m2]
                refine C.iconst (nI 2) dX8_advance_373 (by decide) ?_
                refine C.icmp_ne 397 dX8_advance_374 rfl (fun hc374 => ?_) (fun hc374 => ?_)
                · refine AW.pick [0, 1, 2, 3, 4, 5] rfl ?_
                  first | exact nxt hL μ1 hF m2 (by rw [m3, pk5_ge _ n hn6, pk5_ge _ (n + 1) (by omega)]) m5 | exact nxt hL _ ⟨hF.1, fun a k q => by rw [mI_sI, if_neg (by omega)]; exact hF.2 a k q⟩ (by rw [mI_sI, if_neg (by omega)]; exact m2) (by rw [mI_sI, if_pos ⟨rfl, rfl⟩]) (by rw [mI_sI, if_neg (by omega)]; exact m5)
                · exact absurd hc374 (by decide)
              · have hn6 : n < 6 := n_nle hc343 (by omega) (by omega)
                refine C.aload_n dX8_advance_346 0 rfl ?_
                refine C.dup dX8_advance_347 rfl ?_
                refine C.getI fX8_73 dX8_advance_348 hS.o3 ?_
                rw [m3]
                refine C.iload dX8_advance_351 6 rfl ?_
                refine C.iconst (nI 1) dX8_advance_353 (by decide) ?_
                refine C.iadd dX8_advance_354 ?_
                rw [li]
                refine C.iconst (nI 5) dX8_advance_355 (by decide) ?_
                refine C.iconst (nI 5) dX8_advance_356 (by decide) ?_
                refine C.iload dX8_advance_357 7 rfl ?_
                refine C.isub dX8_advance_359 ?_
                refine C.imul dX8_advance_360 ?_
                refine C.ishl dX8_advance_361 ?_
                rw [shl5 hn6 l32, ← hgd]
                refine C.ior dX8_advance_362 ?_
                rw [pk5_or _ (tkW_lt p) hn6]
                refine C.putI fX8_73 (Or.inl rfl) dX8_advance_363 hS.o3 ?_
                refine C.goto 397 dX8_advance_366 rfl ?_
                refine AW.pick [0, 1, 2, 3, 4, 5] rfl ?_
                first | exact nxt hL μ1 hF m2 (by rw [m3, pk5_ge _ n hn6, pk5_ge _ (n + 1) (by omega)]) m5 | exact nxt hL _ ⟨hF.1, fun a k q => by rw [mI_sI, if_neg (by omega)]; exact hF.2 a k q⟩ (by rw [mI_sI, if_neg (by omega)]; exact m2) (by rw [mI_sI, if_pos ⟨rfl, rfl⟩]) (by rw [mI_sI, if_neg (by omega)]; exact m5)
  have e5 : mI (sI (sI M 3 2 (nI 1)) 3 3 (nI 0)) 3 5 = nI (p + 0) := by rw [mI_sI, if_neg (by omega), mI_sI, if_neg (by omega)]; exact h5
  exact loop (tp.length - p) 0 (sI (sI M 3 2 (nI 1)) 3 3 (nI 0)) (by omega) ⟨rfl, fun a k q => by rw [mI_sI, if_neg (by omega), mI_sI, if_neg (by omega)]⟩ (by rw [mI_sI, if_neg (by omega), mI_sI, if_pos ⟨rfl, rfl⟩]) (by rw [mI_sI, if_pos ⟨rfl, rfl⟩]; rfl) e5 rfl
theorem kq_loopD {X : Cx} {d : Nat} {Q : Mm → Prop} (C : Cok l G X mtX8_advance.2.1 mtX8_advance.1.cls d mtX8_advance.2.2.2) (hX : X.2.2.1 = mtX8_advance.2.2.1) {M : Mm} (hS : ShC M) (hT : CsT M tp) {p : Nat} (hp : p ≤ tp.length) (h4 : mI M 3 4 = nI p) (h5 : mI M 3 5 = nI p) (hq : MR G X (qV Q)) (hQ : ∀ μ', SwF M μ' → mI μ' 3 2 = nI 2 → mI μ' 3 3 = nI (dval (txL tp) p (min 4 (dl (txL tp) tp.length p - p))) → mI μ' 3 5 = nI (dl (txL tp) tp.length p) → Q μ') (x1 x2 x3 : Int32) : AW l G X 0 0 255 [(0, .ref (G.1 + 3)), (1, .int x1), (2, .int x2), (3, .int x3), (4, .int (nI 48)), (5, .int (nI 57))] [] (sI (sI M 3 2 (nI 2)) 3 3 (nI 0)) := by
  have hS0 := hS
  have hT0 := hT
  have h1600 := hT.2.1
  have hby : ∀ k, k < tp.length → mI M 2 k = byS (txL tp k) ∧ txL tp k < 256 := fun k q => hT.2.2 k _ (txL_q q)
  have fin : ∀ (n : Nat) (μ1 : Mm), p + n ≤ tp.length → SwF M μ1 → mI μ1 3 2 = nI 2 → mI μ1 3 3 = nI (dval (txL tp) p (min 4 n)) → mI μ1 3 5 = nI (p + n) → dl (txL tp) tp.length (p + n) = dl (txL tp) tp.length p → ¬ (p + n < tp.length ∧ isD (txL tp (p + n)) = true) → AW l G X 0 0 410 [(0, .ref (G.1 + 3)), (1, .int x1), (2, .int x2), (3, .int x3), (4, .int (nI 48)), (5, .int (nI 57))] [] μ1 := by
    intro n μ1 hn hF m2 m3 m5 hw hno
    have hwl : dl (txL tp) tp.length p = p + n := by rw [← hw]; unfold dl; exact rn_stop hno
    refine C.vret hq dX8_advance_410 ?_
    exact hQ _ hF m2 (by rw [m3, hwl, Nat.add_sub_cancel_left]) (by rw [m5, hwl])
  have loop : ∀ (j n : Nat) (μ1 : Mm), p + n + j = tp.length → SwF M μ1 → mI μ1 3 2 = nI 2 → mI μ1 3 3 = nI (dval (txL tp) p (min 4 n)) → mI μ1 3 5 = nI (p + n) → dl (txL tp) tp.length (p + n) = dl (txL tp) tp.length p → AW l G X 0 0 255 [(0, .ref (G.1 + 3)), (1, .int x1), (2, .int x2), (3, .int x3), (4, .int (nI 48)), (5, .int (nI 57))] [] μ1 := by
    intro j
    induction j with
    | zero =>
      intro n μ1 hn hF m2 m3 m5 hw
      have hS : ShC μ1 := hS0.of (by rw [hF.1])
      have m1 : mI μ1 1 1 = nI tp.length := (hF.2 _ _ (by omega)).trans hT0.1
      refine C.aload_n dX8_advance_255 0 rfl ?_
      refine C.getI fX8_51 dX8_advance_256 hS.o3 ?_
      refine C.aload_n dX8_advance_259 0 rfl ?_
      refine C.getO fX8_9 dX8_advance_260 hS.o3 hS.r3_0 ?_
      refine C.getI fX8_64 dX8_advance_263 hS.o1 ?_
      rw [m5, m1]
      refine C.icmp_ge 410 dX8_advance_266 rfl (fun hc266 => ?_) (fun hc266 => ?_)
      · exact fin n μ1 (by omega) hF m2 m3 m5 hw (by omega)
      · exact absurd (n_nle hc266) (by omega)
    | succ j ih =>
      intro n μ1 hn hF m2 m3 m5 hw
      have hS : ShC μ1 := hS0.of (by rw [hF.1])
      have m1 : mI μ1 1 1 = nI tp.length := (hF.2 _ _ (by omega)).trans hT0.1
      have m4 : mI μ1 3 4 = nI p := (hF.2 _ _ (by omega)).trans h4
      have hlt : p + n < tp.length := by omega
      obtain ⟨b1, b2⟩ := hby (p + n) hlt
      have hb : mI μ1 2 (p + n) = byS (txL tp (p + n)) := (hF.2 _ _ (by omega)).trans b1
      have hLL := byS_D b2
      have hsub : nI (p + n) - nI p = nI n := by rw [Nat.add_comm, ← nI_add]; simp
      have nxt : isD (txL tp (p + n)) = true → ∀ μ2, SwF M μ2 → mI μ2 3 2 = nI 2 → mI μ2 3 3 = nI (dval (txL tp) p (min 4 (n + 1))) → mI μ2 3 5 = nI (p + n) → AW l G X 0 0 397 [(0, .ref (G.1 + 3)), (1, .int x1), (2, .int x2), (3, .int x3), (4, .int (nI 48)), (5, .int (nI 57))] [] μ2 := by
        intro hL μ2 hF2 q2 q3 q5
        have hS : ShC μ2 := hS0.of (by rw [hF2.1])
        refine C.aload_n dX8_advance_397 0 rfl ?_
        refine C.dup dX8_advance_398 rfl ?_
        refine C.getI fX8_51 dX8_advance_399 hS.o3 ?_
        rw [q5]
        refine C.iconst (nI 1) dX8_advance_402 (by decide) ?_
        refine C.iadd dX8_advance_403 ?_
        rw [nI_add]
        refine C.putI fX8_51 (Or.inl rfl) dX8_advance_404 hS.o3 ?_
        refine C.goto 255 dX8_advance_407 rfl ?_
        refine ih (n + 1) _ (by omega) ⟨hF2.1, fun a k q => ?_⟩ ?_ ?_ ?_ ?_
        · rw [mI_sI, if_neg (by omega)]; exact hF2.2 a k q
        · rw [mI_sI, if_neg (by omega)]; exact q2
        · rw [mI_sI, if_neg (by omega)]; exact q3
        · rw [mI_sI, if_pos ⟨rfl, rfl⟩]; rfl
        · rw [← hw]; unfold dl; rw [rn_step (f := fun q => isD (txL tp q)) hlt hL]; rfl
      refine C.aload_n dX8_advance_255 0 rfl ?_
      refine C.getI fX8_51 dX8_advance_256 hS.o3 ?_
      refine C.aload_n dX8_advance_259 0 rfl ?_
      refine C.getO fX8_9 dX8_advance_260 hS.o3 hS.r3_0 ?_
      refine C.getI fX8_64 dX8_advance_263 hS.o1 ?_
      rw [m5, m1]
      refine C.icmp_ge 410 dX8_advance_266 rfl (fun hc266 => ?_) (fun hc266 => ?_)
      · exact absurd (n_le hc266) (by omega)
      · refine C.aload_n dX8_advance_269 0 rfl ?_
        refine C.getO fX8_9 dX8_advance_270 hS.o3 hS.r3_0 ?_
        refine C.getA fX8_69 dX8_advance_273 hS.o1 hS.r1_0 ?_
        refine C.aload_n dX8_advance_276 0 rfl ?_
        refine C.getI fX8_51 dX8_advance_277 hS.o3 ?_
        rw [m5]
        refine C.bald hS.a2 (n_in (by omega)) dX8_advance_280 ?_
        rw [n_cl, hb]
        refine C.iload dX8_advance_281 4 rfl ?_
        refine C.icmp_lt 410 dX8_advance_283 rfl (fun hc283 => ?_) (fun hc283 => ?_)
        · exact fin n μ1 (by omega) hF m2 m3 m5 hw (fun z => absurd (hLL.mpr z.2).1 (Int32.not_le.mpr hc283))
        · refine C.aload_n dX8_advance_286 0 rfl ?_
          refine C.getO fX8_9 dX8_advance_287 hS.o3 hS.r3_0 ?_
          refine C.getA fX8_69 dX8_advance_290 hS.o1 hS.r1_0 ?_
          refine C.aload_n dX8_advance_293 0 rfl ?_
          refine C.getI fX8_51 dX8_advance_294 hS.o3 ?_
          rw [m5]
          refine C.bald hS.a2 (n_in (by omega)) dX8_advance_297 ?_
          rw [n_cl, hb]
          refine C.iload dX8_advance_298 5 rfl ?_
          refine C.icmp_gt 410 dX8_advance_300 rfl (fun hc300 => ?_) (fun hc300 => ?_)
          · exact fin n μ1 (by omega) hF m2 m3 m5 hw (fun z => absurd (hLL.mpr z.2).2 (Int32.not_le.mpr hc300))
          · have hL : isD (txL tp (p + n)) = true := hLL.mp ⟨Int32.not_lt.mp hc283, Int32.not_lt.mp hc300⟩
            refine C.aload_n dX8_advance_303 0 rfl ?_
            refine C.getO fX8_9 dX8_advance_304 hS.o3 hS.r3_0 ?_
            refine C.getA fX8_69 dX8_advance_307 hS.o1 hS.r1_0 ?_
            refine C.aload_n dX8_advance_310 0 rfl ?_
            refine C.getI fX8_51 dX8_advance_311 hS.o3 ?_
            rw [m5]
            refine C.bald hS.a2 (n_in (by omega)) dX8_advance_314 ?_
            rw [n_cl, hb]
            refine C.iload dX8_advance_315 4 rfl ?_
            refine C.isub dX8_advance_317 ?_
            refine C.istore (lv' := [(0, _), (1, _), (2, _), (3, _), (4, _), (5, _), (6, _)]) dX8_advance_318 (nLt hX rfl) rfl ?_
            refine C.aload_n dX8_advance_320 0 rfl ?_
            refine C.getI fX8_51 dX8_advance_321 hS.o3 ?_
            refine C.aload_n dX8_advance_324 0 rfl ?_
            refine C.getI fX8_57 dX8_advance_325 hS.o3 ?_
            rw [m5, m4]
            refine C.isub dX8_advance_328 ?_
            rw [hsub]
            refine C.istore (lv' := [(0, _), (1, _), (2, _), (3, _), (4, _), (5, _), (6, _), (7, _)]) dX8_advance_329 (nLt hX rfl) rfl ?_
            refine C.aload_n dX8_advance_331 0 rfl ?_
            refine C.getI fX8_48 dX8_advance_332 hS.o3 ?_
            rw [m2]
            refine C.iconst (nI 1) dX8_advance_335 (by decide) ?_
            refine C.icmp_ne 369 dX8_advance_336 rfl (fun hc336 => ?_) (fun hc336 => ?_)
            · refine C.aload_n dX8_advance_369 0 rfl ?_
              refine C.getI fX8_48 dX8_advance_370 hS.o3 ?_
              rw [m2]
              refine C.iconst (nI 2) dX8_advance_373 (by decide) ?_
              refine C.icmp_ne 397 dX8_advance_374 rfl (fun hc374 => ?_) (fun hc374 => ?_)
              · exact absurd rfl hc374
              · refine C.iload dX8_advance_377 7 rfl ?_
                refine C.iconst (nI 4) dX8_advance_379 (by decide) ?_
                refine C.icmp_ge 397 dX8_advance_380 rfl (fun hc380 => ?_) (fun hc380 => ?_)
                · have hn4 : 4 ≤ n := n_le hc380 (by omega) (by omega)
                  refine AW.pick [0, 1, 2, 3, 4, 5] rfl ?_
                  first | exact nxt hL μ1 hF m2 (by rw [show min 4 (n + 1) = min 4 n by omega]; exact m3) m5 | exact nxt hL _ ⟨hF.1, fun a k q => by rw [mI_sI, if_neg (by omega)]; exact hF.2 a k q⟩ (by rw [mI_sI, if_neg (by omega)]; exact m2) (by rw [mI_sI, if_pos ⟨rfl, rfl⟩, e4]; rfl) (by rw [mI_sI, if_neg (by omega)]; exact m5)
                · have hn4 : n < 4 := n_nle hc380 (by omega) (by omega)
                  have e4 : min 4 (n + 1) = n + 1 := by omega
                  have e5 : min 4 n = n := by omega
                  rw [e5] at m3
                  refine C.aload_n dX8_advance_383 0 rfl ?_
                  refine C.aload_n dX8_advance_384 0 rfl ?_
                  refine C.getI fX8_73 dX8_advance_385 hS.o3 ?_
                  rw [m3]
                  refine C.bipush (nI 10) dX8_advance_388 (by decide) ?_
                  refine C.imul dX8_advance_390 ?_
                  refine C.iload dX8_advance_391 6 rfl ?_
                  refine C.iadd dX8_advance_393 ?_
                  rw [dig_i hL]
                  refine C.putI fX8_73 (Or.inl rfl) dX8_advance_394 hS.o3 ?_
                  refine AW.pick [0, 1, 2, 3, 4, 5] rfl ?_
                  first | exact nxt hL μ1 hF m2 (by rw [show min 4 (n + 1) = min 4 n by omega]; exact m3) m5 | exact nxt hL _ ⟨hF.1, fun a k q => by rw [mI_sI, if_neg (by omega)]; exact hF.2 a k q⟩ (by rw [mI_sI, if_neg (by omega)]; exact m2) (by rw [mI_sI, if_pos ⟨rfl, rfl⟩, e4]; rfl) (by rw [mI_sI, if_neg (by omega)]; exact m5)
            · exact absurd hc336 (by decide)
  have e5 : mI (sI (sI M 3 2 (nI 2)) 3 3 (nI 0)) 3 5 = nI (p + 0) := by rw [mI_sI, if_neg (by omega), mI_sI, if_neg (by omega)]; exact h5
  exact loop (tp.length - p) 0 (sI (sI M 3 2 (nI 2)) 3 3 (nI 0)) (by omega) ⟨rfl, fun a k q => by rw [mI_sI, if_neg (by omega), mI_sI, if_neg (by omega)]⟩ (by rw [mI_sI, if_neg (by omega), mI_sI, if_pos ⟨rfl, rfl⟩]) (by rw [mI_sI, if_pos ⟨rfl, rfl⟩]; rfl) e5 rfl
end KSC
