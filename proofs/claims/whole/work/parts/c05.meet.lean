/-! the class: a meeting -/
def wth (pv : Nat → Int64) (of : Int64 → Int64) (o : Option (List Int32)) : Int64 := match o with
  | none => lN 0
  | some cs => (ev64 pv of cs []).headD 0
def HmF (sb : Nat) (μ μ' : Mm) : Prop := μ'.2 = μ.2 ∧ ∀ x k, x ≠ 12 → x ≠ 14 → ¬ (x = 11 ∧ k = 3) → ¬ (sb ≤ x ∧ x ≤ sb + 5) → x ≠ 37 → mI μ' x k = mI μ x k
theorem HmF.trans {sb : Nat} {μ μ' μ'' : Mm} (h : HmF sb μ μ') (h2 : HmF sb μ' μ'') : HmF sb μ μ'' := ⟨h2.1.trans h.1, fun x k q1 q2 q3 q4 q5 => (h2.2 x k q1 q2 q3 q4 q5).trans (h.2 x k q1 q2 q3 q4 q5)⟩
theorem HmF.refl (sb : Nat) (μ : Mm) : HmF sb μ μ := ⟨rfl, fun _ _ _ _ _ _ _ => rfl⟩
theorem HmF.ofV {sb : Nat} {μ μ' : Mm} (h : MvF μ μ') : HmF sb μ μ' := ⟨h.1, fun x k q1 q2 q3 _ _ => h.2 x k q1 q2 q3⟩
theorem HmF.ofS {sb : Nat} {μ μ' : Mm} (h : SfF sb μ μ') : HmF sb μ μ' := ⟨h.1, fun x k _ _ _ q4 _ => h.2 x k q4⟩
theorem HmF.sh {sb : Nat} {μ μ' : Mm} (h : HmF sb μ μ') (hS : ShC μ) : ShC μ' := hS.of (by rw [h.1])
theorem HmF.ld {sb : Nat} {μ μ' : Mm} (h : HmF sb μ μ') (hb : sb = 40 ∨ sb = 46) {L : Nat} {c : Lc} {d : Ld} (hR : LdR μ L c d) : LdR μ' L c d := hR.of2 h.1 (fun a k q => h.2 a k (by unfold InL at q; omega) (by unfold InL at q; omega) (by unfold InL at q; omega) (by unfold InL at q; omega) (by unfold InL at q; omega))
theorem pur_i {p : Nat} {v : Int64} (hp : p ≤ 9999) (hv : bnd v) : (if (if nI 9999 ≤ nI p + v.toInt32 then nI 9999 else nI p + v.toInt32) ≤ nI 0 then nI 0 else (if nI 9999 ≤ nI p + v.toInt32 then nI 9999 else nI p + v.toInt32)) = nI (purN p v) := by
  obtain ⟨h1, h2⟩ := hv
  have hx : (nI p + v.toInt32).toInt = (p : Int) + v.toInt := by
    rw [Int32.toInt_add, nI_tI (by omega), bnd_ti ⟨h1, h2⟩]
    exact Int.bmod_eq_of_le (by omega) (by omega)
  have hy : (lN p + v).toInt = (p : Int) + v.toInt := by
    rw [Int64.toInt_add, pk_lT (by omega)]
    exact Int.bmod_eq_of_le (by omega) (by omega)
  have e0 : (0 : Int64).toInt = 0 := by decide
  have e9 : (9999 : Int64).toInt = 9999 := by decide
  have n9 : (nI 9999).toInt = 9999 := by decide
  have n0 : (nI 0).toInt = 0 := by decide
  unfold purN
  by_cases a : 9999 ≤ (p : Int) + v.toInt
  · rw [if_pos (show nI 9999 ≤ nI p + v.toInt32 by rw [i_le, n9, hx]; exact a), if_neg (by decide), if_neg (show ¬ ¬ 0 ≤ lN p + v by rw [Int64.le_iff_toInt_le, hy, e0]; omega)]
    by_cases q : ¬ lN p + v ≤ 9999
    · rw [if_pos q]
    · rw [if_neg q]
      rw [Int64.le_iff_toInt_le, hy, e9] at q
      show nI 9999 = nI (lN p + v).toInt.toNat
      congr 1
      rw [hy]
      omega
  · rw [if_neg (show ¬ nI 9999 ≤ nI p + v.toInt32 by rw [i_le, n9, hx]; exact a)]
    by_cases q : (p : Int) + v.toInt ≤ 0
    · rw [if_pos (show nI p + v.toInt32 ≤ nI 0 by rw [i_le, n0, hx]; exact q)]
      by_cases q2 : ¬ 0 ≤ lN p + v
      · rw [if_pos q2]
      · rw [if_neg q2]
        rw [Int64.le_iff_toInt_le, hy, e0] at q2
        rw [if_neg (show ¬ ¬ lN p + v ≤ 9999 by rw [Int64.le_iff_toInt_le, hy, e9]; omega)]
        show nI 0 = nI (lN p + v).toInt.toNat
        congr 1
        rw [hy]
        omega
    · rw [if_neg (show ¬ nI p + v.toInt32 ≤ nI 0 by rw [i_le, n0, hx]; exact q), if_neg (show ¬ ¬ 0 ≤ lN p + v by rw [Int64.le_iff_toInt_le, hy, e0]; omega), if_neg (show ¬ ¬ lN p + v ≤ 9999 by rw [Int64.le_iff_toInt_le, hy, e9]; omega)]
      apply Int32.toInt_inj.mp
      show _ = (nI (lN p + v).toInt.toNat).toInt
      rw [hx, hy, nI_tI (by omega)]
      omega
theorem CsN.put {μ μ' : Mm} {b : Nat} {S : St} (h : CsN μ b S) {w : Nat} (hw : w < S.2.1.length) {x' : Wk} (e : ∀ a k, b ≤ a → a ≤ b + 5 → ¬ (b + 1 ≤ a ∧ a ≤ b + 4 ∧ k = w) → mI μ' a k = mI μ a k) (h1 : mI μ' (b + 1) w = nI x'.1) (h2 : mI μ' (b + 2) w = nI x'.2.1) (h3 : mI μ' (b + 3) w = nI x'.2.2.1) (h4 : mI μ' (b + 4) w = nI x'.2.2.2) : CsN μ' b (putW S w x') := by
  obtain ⟨⟨n1, n2⟩, n3, n4, f, n5, n6, n7, n8, n9⟩ := h
  have hw6 := (n3 w _ (List.getElem?_eq_getElem hw)).1
  refine ⟨⟨by rw [e _ _ (by omega) (by omega) (by omega)]; exact n1, by rw [e _ _ (by omega) (by omega) (by omega)]; exact n2⟩, fun i x q => ?_, fun i q q2 => ?_, f, n5, by rw [e _ _ (by omega) (by omega) (by omega)]; exact n6, by rw [e _ _ (by omega) (by omega) (by omega)]; exact n7, n8, fun i x q => by rw [e _ _ (by omega) (by omega) (by omega)]; exact n9 i x q⟩
  · have q' : (S.2.1.set w x')[i]? = some x := q
    by_cases hi : i = w
    · subst hi
      rw [List.getElem?_set_self hw] at q'
      have ex : x' = x := Option.some.inj q'
      subst ex
      exact ⟨hw6, h1, h2, h3, h4⟩
    · rw [List.getElem?_set_ne (Ne.symm hi)] at q'
      obtain ⟨z0, z1, z2, z3, z4⟩ := n3 i x q'
      exact ⟨z0, by rw [e _ _ (by omega) (by omega) (by omega)]; exact z1, by rw [e _ _ (by omega) (by omega) (by omega)]; exact z2, by rw [e _ _ (by omega) (by omega) (by omega)]; exact z3, by rw [e _ _ (by omega) (by omega) (by omega)]; exact z4⟩
  · have q' : S.2.1.length ≤ i := by
      have := q
      unfold putW at this
      rw [List.length_set] at this
      exact this
    obtain ⟨z1, z2⟩ := n4 i q' q2
    exact ⟨by rw [e _ _ (by omega) (by omega) (by omega)]; exact z1, by rw [e _ _ (by omega) (by omega) (by omega)]; exact z2⟩
section KMEET
variable {l : Launch} {G : Gm} {μ : Mm} {L sb : Nat} {c : Lc} {d : Ld}
theorem kc_worth (hS : ShC μ) {a s : Nat} {al : Nat → Bool} {q t : Bool} {o : Option (List Int32)} (hC : CdR μ a s al q t o) (hs : InL s) {pv : Nat → Int64} (hpv : ∀ k, k < 9 → al k = true → mI μ 12 k = (pv k).toInt32 ∧ bnd (pv k)) {of : Int64 → Int64} (hof : q = true → (∀ j, j < 12 → mI μ 13 j = (of (lN j)).toInt32) ∧ (∀ v, ¬ (lN 0 ≤ v ∧ v ≤ lN 11) → of v = lN 0) ∧ (∀ v, bnd (of v))) : AMet l G 2 0 0 mtX4_work [.ref (G.1 + 11), .ref (G.1 + a)] μ (qI (fun x μ' => bnd (wth pv of o) ∧ (t = true → wth pv of o = lN 0 ∨ wth pv of o = lN 1) ∧ x = (wth pv of o).toInt32 ∧ MwF μ μ')) := by
  obtain ⟨ho, hr, ns, hA, h16, hst, han, hcd⟩ := hC
  cases o with
  | none =>
    have h0 : ns = [] := hcd
    subst h0
    exact (kc_work0 hS ho hr hA).monoI (fun x μ' h => ⟨bnd_n (by omega), fun _ => Or.inl rfl, by rw [h.1]; rfl, h.2⟩)
  | some cs =>
    obtain ⟨hcs, hne, hty⟩ := hcd
    refine (kc_work hS ho hr hA (by unfold InL at hs; omega) (by unfold InL at hs; omega) hst (by omega) hty hpv hof).monoI (fun x μ' h => ?_)
    obtain ⟨v, h1, h2, h3, h4, h5⟩ := h
    have e : wth pv of (some cs) = v := by
      show (ev64 pv of cs []).headD 0 = v
      rw [hcs, h1]
      rfl
    rw [e]
    exact ⟨h2, h3, h4, h5⟩
/-- the host's counts, and who was met -/
def HcR (μ : Mm) (a : Ac) : Prop := mI μ 37 2 = nI a.2.1 ∧ mI μ 37 3 = nI a.2.2.1 ∧ mI μ 37 4 = nI a.2.2.2

theorem kh_meet (hS : ShC μ) (hb : sb = 40 ∨ sb = 46) (hR : LdR μ L c d) (hW : Wf d) {a : Ac} (hN : CsN μ sb a.1) (hSW : SWf d a.1) (hc : HcR μ a) {w h : Nat} (hw : w < d.2.2.2.1.length) (hh : h < 12) : AMet l G 3 0 0 mtX1_meet [.ref (G.1 + 37), .ref (G.1 + L), .ref (G.1 + sb), .int (nI w), .int (nI h)] μ (qV (fun μ' => CsN μ' sb (meetA d false a w h).1 ∧ HcR μ' (meetA d false a w h) ∧ HmF sb μ μ')) := by
  refine AMet.of (by decide) (Nat.le_of_ble_eq_true rfl) (fun X C hX hnm hq => ?_)
  have w6 := hW.2.2.2.1.1
  have hO : StO μ sb := by rcases hb with rfl | rfl; exact hS.s40; exact hS.s46
  have hwl : w < a.1.2.1.length := by rw [hSW.2.2.1]; exact hw
  obtain ⟨hw6, n1, n2, n3, n4⟩ := hN.wk hwl
  obtain ⟨z1, z2, z3, z4⟩ := hSW.wk hw
  have hng := hSW.1
  have hK1 : CdR μ (c 18) (c 38) (alW 1) false (decide (1 = 2)) (d.2.2.2.2.2 1) := hR.2.2.2.2.2.1 1 (by decide)
  have hK2 : CdR μ (c 19) (c 39) (alW 2) false (decide (2 = 2)) (d.2.2.2.2.2 2) := hR.2.2.2.2.2.1 2 (by decide)
  have hI38 := hR.1.2.2.1 38 (by decide) (by decide)
  have hI39 := hR.1.2.2.1 39 (by decide) (by decide)
  have hI18 := hR.1.2.2.1 18 (by decide) (by decide)
  have hI19 := hR.1.2.2.1 19 (by decide) (by decide)
  have hi := hR.2.1
  -- the end: told and counted
  have fin : ∀ (kp : Bool) (μ1 : Mm), kp = keepB d (pvM h a.1.1.1 (wkS a.1 w)) (wkS a.1 w) → HmF sb μ μ1 → CsN μ1 sb (a.1.1, a.1.2.1.set w ((wkS a.1 w).1, min 9999 ((wkS a.1 w).2.1 + 1), purN (wkS a.1 w).2.2.1 (payV d (pvM h a.1.1.1 (wkS a.1 w))), if kp then d.2.2.2.2.1.1 else (wkS a.1 w).2.2.2), a.1.2.2) → mI μ1 37 2 = nI a.2.1 → mI μ1 37 3 = nI (if kp then a.2.2.1 + 1 else a.2.2.1) → mI μ1 37 4 = nI a.2.2.2 → AW l G X 0 0 184 [(0, .ref (G.1 + 37)), (1, .ref (G.1 + L)), (2, .ref (G.1 + sb)), (3, .int (nI w)), (4, .int (nI h)), (6, .int (bI kp))] [] μ1 := by
    intro kp μ1 hkp hF hN1 c2 c3 c4
    have hS1 := hF.sh hS
    have hO1 : StO μ1 sb := by rcases hb with rfl | rfl; exact hS1.s40; exact hS1.s46
    have m198 : AW l G X 0 0 198 [(0, .ref (G.1 + 37)), (1, .ref (G.1 + L)), (2, .ref (G.1 + sb)), (3, .int (nI w)), (4, .int (nI h)), (6, .int (bI kp))] [.int (nI (if kp then 1 else 0)), .int (nI w), .int (nI h), .ref (G.1 + sb)] μ1 := by
      refine C.callVV lX1_113 dX1_meet_198 (ks_tell hO1 hN1 (show a.1.1.1 < 10000 by omega) (by omega) (by omega) (by split <;> omega)) hO1.o rfl rfl (Nat.le_of_ble_eq_true rfl) (Nat.zero_le _) (Nat.zero_le _) (Nat.le_of_ble_eq_true rfl) (fun μ198 h198 => ?_)
      obtain ⟨hN2, hF2⟩ := h198
      have hS : ShC μ198 := hS1.of (by rw [hF2.1])
      have f2 : mI μ198 37 2 = nI a.2.1 := by rw [hF2.2 _ _ (by omega)]; exact c2
      have f3 : mI μ198 37 3 = nI (if kp then a.2.2.1 + 1 else a.2.2.1) := by rw [hF2.2 _ _ (by omega)]; exact c3
      have f4 : mI (sI μ198 37 2 (nI (a.2.1 + 1))) 37 4 = nI a.2.2.2 := by rw [mI_sI, if_neg (by omega), hF2.2 _ _ (by omega)]; exact c4
      refine C.aload_n dX1_meet_201 0 rfl ?_
      refine C.dup dX1_meet_202 rfl ?_
      refine C.getI fX1_24 dX1_meet_203 hS.o37 ?_
      rw [f2]
      refine C.iconst (nI 1) dX1_meet_206 (by decide) ?_
      refine C.iadd dX1_meet_207 ?_
      rw [nI_add]
      refine C.putI fX1_24 (Or.inl rfl) dX1_meet_208 hS.o37 ?_
      refine C.aload_n dX1_meet_211 0 rfl ?_
      refine C.dup dX1_meet_212 rfl ?_
      refine C.getI fX1_57 dX1_meet_213 hS.o37 ?_
      rw [f4]
      refine C.iconst (nI 1) dX1_meet_216 (by decide) ?_
      refine C.iload_n dX1_meet_217 3 rfl ?_
      refine C.ishl dX1_meet_218 ?_
      rw [pk_shlN (n := 1) (nI w &&& 31) w (s_l w (by omega)) (by have := Nat.pow_lt_pow_right (a := 2) (by decide) (show w < 8 by omega); omega), Nat.one_mul]
      refine C.ior dX1_meet_219 ?_
      rw [fa_or]
      refine C.putI fX1_57 (Or.inl rfl) dX1_meet_220 hS.o37 ?_
      refine C.vret hq dX1_meet_223 ?_
      refine ⟨?_, ⟨by simp [mI_sI, meetA], ?_, by simp [mI_sI, meetA]⟩, (hF.trans (HmF.ofS hF2)).trans ⟨rfl, fun x k _ _ _ _ q5 => by simp only [mI_sI]; rw [if_neg (fun z => q5 z.1), if_neg (fun z => q5 z.1)]⟩⟩
      · unfold meetA
        dsimp only
        rw [← hkp]
        exact hN2.of (fun x k h1 h2 => by simp only [mI_sI]; rw [if_neg (by omega), if_neg (by omega)])
      · simp only [mI_sI]
        rw [if_neg (by omega), if_neg (by omega), f3]
        unfold meetA
        dsimp only
        rw [← hkp]
    refine C.aload_n dX1_meet_184 2 rfl ?_
    refine C.iload dX1_meet_185 4 rfl ?_
    refine C.iload_n dX1_meet_187 3 rfl ?_
    refine C.iload dX1_meet_188 5 rfl ?_
    refine C.if_eq 197 dX1_meet_190 rfl (fun hc190 => ?_) (fun hc190 => ?_)
    · have hk0 : kp = false := (bI_0 _).mp hc190
      subst hk0
      refine C.iconst (nI 0) dX1_meet_197 (by decide) ?_
      exact m198
    · have hk1 : kp = true := b_t hc190
      subst hk1
      refine C.iconst (nI 1) dX1_meet_193 (by decide) ?_
      refine C.goto 198 dX1_meet_194 rfl ?_
      exact m198
  have hpay : payV d (pvM h a.1.1.1 (wkS a.1 w)) = wth (pvM h a.1.1.1 (wkS a.1 w)) id (d.2.2.2.2.2 1) := by
    unfold payV wth
    cases d.2.2.2.2.2 1 <;> rfl
  have hkeep : keepB d (pvM h a.1.1.1 (wkS a.1 w)) (wkS a.1 w) = (decide ((wkS a.1 w).1 = 1) || decide (wth (pvM h a.1.1.1 (wkS a.1 w)) id (d.2.2.2.2.2 2) = lN 1)) := by
    unfold keepB wth
    cases d.2.2.2.2.2 2 with
    | none => rw [show decide (lN 0 = lN 1) = false from by decide]
    | some cs => rfl
  have n12 : ¬ InL 12 := by unfold InL; omega
  generalize hpv0 : pvM h a.1.1.1 (wkS a.1 w) = pv at *
  have hpvk : ∀ k, alW 1 k = true → pv k = lN (if k = 0 then h else if k = 1 then a.1.1.1 else if k = 4 then (wkS a.1 w).1 else if k = 5 then (wkS a.1 w).2.1 else (wkS a.1 w).2.2.1) := fun k _ => by rw [← hpv0]; rfl
  have hvals : ∀ μ1 : Mm, ∀ k, k < 9 → alW 1 k = true → mI (sI (sI (sI (sI (sI μ1 12 (17 - 17) (nI h)) 12 (18 - 17) (nI a.1.1.1)) 12 (21 - 17) (nI (wkS a.1 w).1)) 12 (22 - 17) (nI (wkS a.1 w).2.1)) 12 (23 - 17) (nI (wkS a.1 w).2.2.1)) 12 k = (pv k).toInt32 ∧ bnd (pv k) := by
    intro μ1 k _ ha
    rw [hpvk k ha, lN_i]
    have hk5 : k = 0 ∨ k = 1 ∨ k = 4 ∨ k = 5 ∨ k = 6 := by
      have : al1 k = true := ha
      unfold al1 at this
      simp only [Bool.or_eq_true, Bool.and_eq_true, decide_eq_true_eq] at this
      omega
    rcases hk5 with rfl | rfl | rfl | rfl | rfl
    · exact ⟨by simp [mI_sI], bnd_n (by simp; omega)⟩
    · exact ⟨by simp [mI_sI], bnd_n (by simp; omega)⟩
    · exact ⟨by simp [mI_sI], bnd_n (by simp; omega)⟩
    · exact ⟨by simp [mI_sI], bnd_n (by simp; omega)⟩
    · exact ⟨by simp [mI_sI], bnd_n (by simp; omega)⟩
  -- behind the two codes
  have m112 : ∀ (kp : Bool) (v : Int64) (μ1 : Mm), kp = keepB d pv (wkS a.1 w) → v = payV d pv → bnd v → MvF μ μ1 → AW l G X 0 0 112 [(0, .ref (G.1 + 37)), (1, .ref (G.1 + L)), (2, .ref (G.1 + sb)), (3, .int (nI w)), (4, .int (nI h)), (5, .int v.toInt32)] [.int (bI kp)] μ1 := by
    intro kp v μ1 hkp hv hbv hM
    subst hv
    have hS1 := hM.sh hS
    have hO1 : StO μ1 sb := by rcases hb with rfl | rfl; exact hS1.s40; exact hS1.s46
    have hR1 := hM.ld hR
    have hN1 : CsN μ1 sb a.1 := hN.of (fun a k h1 h2 => hM.2 a k (by omega) (by omega) (by omega))
    obtain ⟨-, e1, e2, e3, e4⟩ := hN1.wk hwl
    have k2 : mI μ1 37 2 = nI a.2.1 := by rw [hM.2 _ _ (by omega) (by omega) (by omega)]; exact hc.1
    have k3 : mI μ1 37 3 = nI a.2.2.1 := by rw [hM.2 _ _ (by omega) (by omega) (by omega)]; exact hc.2.1
    have k4 : mI μ1 37 4 = nI a.2.2.2 := by rw [hM.2 _ _ (by omega) (by omega) (by omega)]; exact hc.2.2
    have hyear := hR1.2.1.2.2.1
    have hHm : HmF sb μ μ1 := HmF.ofV hM
    have e2' : mI (sI μ1 (sb + 3) w (nI (purN (wkS a.1 w).2.2.1 (payV d pv)))) (sb + 2) w = nI (wkS a.1 w).2.1 := by rw [mI_sI, if_neg (by omega)]; exact e2
    have hyr2 : mI (sI (sI μ1 (sb + 3) w (nI (purN (wkS a.1 w).2.2.1 (payV d pv)))) (sb + 2) w (nI (min 9999 ((wkS a.1 w).2.1 + 1)))) L 13 = nI d.2.2.2.2.1.1 := by
      have hIL := hR.1.1.2
      rw [mI_sI, if_neg (by unfold InL at hIL; omega), mI_sI, if_neg (by unfold InL at hIL; omega)]
      exact hyear
    have k3' : mI (sI (sI (sI μ1 (sb + 3) w (nI (purN (wkS a.1 w).2.2.1 (payV d pv)))) (sb + 2) w (nI (min 9999 ((wkS a.1 w).2.1 + 1)))) (sb + 4) w (nI d.2.2.2.2.1.1)) 37 3 = nI a.2.2.1 := by
      simp only [mI_sI]
      rw [if_neg (by omega), if_neg (by omega), if_neg (by omega)]
      exact k3
    refine C.istore (lv' := [(0, _), (1, _), (2, _), (3, _), (4, _), (5, _), (6, _)]) dX1_meet_112 (nLt hX rfl) rfl ?_
    refine C.aload_n dX1_meet_114 2 rfl ?_
    refine C.getA fX1_93 dX1_meet_115 hO1.o hO1.r2 ?_
    refine C.iload_n dX1_meet_118 3 rfl ?_
    refine C.iconst (nI 0) dX1_meet_119 (by decide) ?_
    refine C.sipush (nI 9999) dX1_meet_120 (by decide) ?_
    refine C.aload_n dX1_meet_123 2 rfl ?_
    refine C.getA fX1_93 dX1_meet_124 hO1.o hO1.r2 ?_
    refine C.iload_n dX1_meet_127 3 rfl ?_
    refine C.iald hO1.a2 (n_in hw6) dX1_meet_128 ?_
    rw [n_cl, e3]
    refine C.iload dX1_meet_129 5 rfl ?_
    refine C.iadd dX1_meet_131 ?_
    refine C.callSI lX1_107 dX1_meet_132 (kj_minI _ _) rfl rfl (Nat.le_of_ble_eq_true rfl) (Nat.zero_le _) (Nat.zero_le _) (Nat.le_of_ble_eq_true rfl) (fun x132 μ132 h132 => ?_)
    obtain ⟨rfl, hμ⟩ := h132
    subst hμ
    refine C.callSI lX1_75 dX1_meet_135 (kj_maxI _ _) rfl rfl (Nat.le_of_ble_eq_true rfl) (Nat.zero_le _) (Nat.zero_le _) (Nat.le_of_ble_eq_true rfl) (fun x135 μ135 h135 => ?_)
    obtain ⟨rfl, hμ⟩ := h135
    subst hμ
    rw [pur_i z3 hbv]
    refine C.iast hO1.a2 (n_in hw6) dX1_meet_138 ?_
    rw [n_cl (by omega)]
    refine C.aload_n dX1_meet_139 2 rfl ?_
    refine C.getA fX1_90 dX1_meet_140 hO1.o hO1.r1 ?_
    refine C.iload_n dX1_meet_143 3 rfl ?_
    refine C.sipush (nI 9999) dX1_meet_144 (by decide) ?_
    refine C.aload_n dX1_meet_147 2 rfl ?_
    refine C.getA fX1_90 dX1_meet_148 hO1.o hO1.r1 ?_
    refine C.iload_n dX1_meet_151 3 rfl ?_
    refine C.iald hO1.a1 (n_in hw6) dX1_meet_152 ?_
    rw [n_cl (by omega), e2']
    refine C.iconst (nI 1) dX1_meet_153 (by decide) ?_
    refine C.iadd dX1_meet_154 ?_
    rw [nI_add]
    refine C.callSI lX1_107 dX1_meet_155 (kj_minI _ _) rfl rfl (Nat.le_of_ble_eq_true rfl) (Nat.zero_le _) (Nat.zero_le _) (Nat.le_of_ble_eq_true rfl) (fun x155 μ155 h155 => ?_)
    obtain ⟨rfl, hμ⟩ := h155
    subst hμ
    rw [mn_n (by decide) (by omega)]
    refine C.iast hO1.a1 (n_in hw6) dX1_meet_158 ?_
    rw [n_cl (by omega)]
    refine C.iload dX1_meet_159 6 rfl ?_
    refine C.if_eq 184 dX1_meet_161 rfl (fun hc161 => ?_) (fun hc161 => ?_)
    · have hk0 : kp = false := (bI_0 _).mp hc161
      subst hk0
      refine AW.pick [0, 1, 2, 3, 4, 6] rfl (fin false _ hkp (hHm.trans ⟨rfl, fun x k q1 q2 q3 q4 q5 => ?_⟩) (hN1.put hwl ?_ ?_ ?_ ?_ ?_) ?_ ?_ ?_)
      · simp only [mI_sI]; rw [if_neg (by omega), if_neg (by omega)]
      · intro x k h1 h2 h3; simp only [mI_sI]; rw [if_neg (by omega), if_neg (by omega)]
      · simp only [mI_sI]; rw [if_neg (by omega), if_neg (by omega)]; exact e1
      · simp [mI_sI]
      · simp [mI_sI]
      · simp only [mI_sI]; rw [if_neg (by omega), if_neg (by omega)]; exact e4
      · simp only [mI_sI]; rw [if_neg (by omega), if_neg (by omega)]; exact k2
      · simp only [mI_sI]; rw [if_neg (by omega), if_neg (by omega)]; exact k3
      · simp only [mI_sI]; rw [if_neg (by omega), if_neg (by omega)]; exact k4
    · have hk1 : kp = true := b_t hc161
      subst hk1
      refine C.aload_n dX1_meet_164 2 rfl ?_
      refine C.getA fX1_67 dX1_meet_165 hO1.o hO1.r3 ?_
      refine C.iload_n dX1_meet_168 3 rfl ?_
      refine C.aload_n dX1_meet_169 1 rfl ?_
      refine C.getI fX1_110 dX1_meet_170 hR1.o ?_
      rw [hyr2]
      refine C.iast hO1.a3 (n_in hw6) dX1_meet_173 ?_
      rw [n_cl (by omega)]
      refine C.aload_n dX1_meet_174 0 rfl ?_
      refine C.dup dX1_meet_175 rfl ?_
      refine C.getI fX1_28 dX1_meet_176 hS1.o37 ?_
      rw [k3']
      refine C.iconst (nI 1) dX1_meet_179 (by decide) ?_
      refine C.iadd dX1_meet_180 ?_
      rw [nI_add]
      refine C.putI fX1_28 (Or.inl rfl) dX1_meet_181 hS1.o37 ?_
      refine AW.pick [0, 1, 2, 3, 4, 6] rfl (fin true _ hkp (hHm.trans ⟨rfl, fun x k q1 q2 q3 q4 q5 => ?_⟩) (hN1.put hwl ?_ ?_ ?_ ?_ ?_) ?_ ?_ ?_)
      · simp only [mI_sI]; rw [if_neg (by omega), if_neg (by omega), if_neg (by omega), if_neg (by omega)]
      · intro x k h1 h2 h3; simp only [mI_sI]; rw [if_neg (by omega), if_neg (by omega), if_neg (by omega), if_neg (by omega)]
      · simp only [mI_sI]; rw [if_neg (by omega), if_neg (by omega), if_neg (by omega), if_neg (by omega)]; exact e1
      · rw [mI_sI, if_neg (by omega), mI_sI, if_neg (by omega), mI_sI, if_pos ⟨rfl, rfl⟩]
      · rw [mI_sI, if_neg (by omega), mI_sI, if_neg (by omega), mI_sI, if_neg (by omega), mI_sI, if_pos ⟨rfl, rfl⟩]
      · rw [mI_sI, if_neg (by omega), mI_sI, if_pos ⟨rfl, rfl⟩]; rfl
      · simp only [mI_sI]; rw [if_neg (by omega), if_neg (by omega), if_neg (by omega), if_neg (by omega)]; exact k2
      · rw [mI_sI, if_pos ⟨rfl, rfl⟩]; rfl
      · simp only [mI_sI]; rw [if_neg (by omega), if_neg (by omega), if_neg (by omega), if_neg (by omega)]; exact k4
  have m82 : ∀ μ1 : Mm, bnd (payV d pv) → MvF μ μ1 → ShC μ1 → StO μ1 sb → LdR μ1 L c d → CdR μ1 (c 19) (c 39) (alW 2) false (decide (2 = 2)) (d.2.2.2.2.2 2) → mI μ1 (sb + 1) w = nI (wkS a.1 w).1 → (∀ k, k < 9 → alW 2 k = true → mI μ1 12 k = (pv k).toInt32 ∧ bnd (pv k)) → AW l G X 0 0 82 [(0, .ref (G.1 + 37)), (1, .ref (G.1 + L)), (2, .ref (G.1 + sb)), (3, .int (nI w)), (4, .int (nI h)), (5, .int (payV d pv).toInt32)] [] μ1 := by
    intro μ1 hbv hM hS1 hO1 hR1 hK hm1 hv1
    have hS := hS1
    refine C.aload_n dX1_meet_82 2 rfl ?_
    refine C.getA fX1_87 dX1_meet_83 hO1.o hO1.r0 ?_
    refine C.iload_n dX1_meet_86 3 rfl ?_
    refine C.iald hO1.a0 (n_in hw6) dX1_meet_87 ?_
    rw [n_cl, hm1]
    refine C.iconst (nI 1) dX1_meet_88 (by decide) ?_
    refine C.icmp_eq 107 dX1_meet_89 rfl (fun hc89 => ?_) (fun hc89 => ?_)
    · have he : (wkS a.1 w).1 = 1 := n_eq hc89 (by omega) (by omega)
      have hkt : true = keepB d pv (wkS a.1 w) := by rw [hkeep, decide_eq_true he]; rfl
      refine C.iconst (nI 1) dX1_meet_107 (by decide) ?_
      refine C.goto 112 dX1_meet_108 rfl ?_
      first | exact m112 true _ _ hkt rfl hbv hM | exact m112 true _ _ (by rw [hkeep, decide_eq_true (show wth pv id (d.2.2.2.2.2 2) = lN 1 from by rw [← bnd_rt bk, hc104]; rfl), Bool.or_true]) rfl hbv hM100 | exact m112 false _ _ (by rw [hkeep, decide_eq_false hne, decide_eq_false (fun z => hc104 (by rw [z]; rfl))]; rfl) rfl hbv hM100
    · refine C.aload_n dX1_meet_92 0 rfl ?_
      refine C.getO fX1_9 dX1_meet_93 hS.o37 hS.r37_0 ?_
      refine C.aload_n dX1_meet_96 1 rfl ?_
      refine C.getO fX1_104 dX1_meet_97 hR1.o (hR1.r (by decide)) ?_
      refine C.callVI lX1_100 dX1_meet_100 (kc_worth hS1 hK hI39 hv1 (of := id) (fun z => by cases z)) hS.o11 rfl rfl (Nat.le_of_ble_eq_true rfl) (Nat.zero_le _) (Nat.zero_le _) (Nat.le_of_ble_eq_true rfl) (fun x100 μ100 h100 => ?_)
      obtain ⟨bk, tk, rfl, hF100⟩ := h100
      have hne : ¬ (wkS a.1 w).1 = 1 := fun z => hc89 (by rw [z])
      have hM100 := hM.trans (MvF.ofW hF100)
      refine C.iconst (nI 1) dX1_meet_103 (by decide) ?_
      refine C.icmp_ne 111 dX1_meet_104 rfl (fun hc104 => ?_) (fun hc104 => ?_)
      · refine C.iconst (nI 0) dX1_meet_111 (by decide) ?_
        first | exact m112 true _ _ hkt rfl hbv hM | exact m112 true _ _ (by rw [hkeep, decide_eq_true (show wth pv id (d.2.2.2.2.2 2) = lN 1 from by rw [← bnd_rt bk, hc104]; rfl), Bool.or_true]) rfl hbv hM100 | exact m112 false _ _ (by rw [hkeep, decide_eq_false hne, decide_eq_false (fun z => hc104 (by rw [z]; rfl))]; rfl) rfl hbv hM100
      · refine C.iconst (nI 1) dX1_meet_107 (by decide) ?_
        refine C.goto 112 dX1_meet_108 rfl ?_
        first | exact m112 true _ _ hkt rfl hbv hM | exact m112 true _ _ (by rw [hkeep, decide_eq_true (show wth pv id (d.2.2.2.2.2 2) = lN 1 from by rw [← bnd_rt bk, hc104]; rfl), Bool.or_true]) rfl hbv hM100 | exact m112 false _ _ (by rw [hkeep, decide_eq_false hne, decide_eq_false (fun z => hc104 (by rw [z]; rfl))]; rfl) rfl hbv hM100
  have hR5 := ((((hR.st n12 (k := 17 - 17) (nI h)).st n12 (k := 18 - 17) (nI a.1.1.1)).st n12 (k := 21 - 17) (nI (wkS a.1 w).1)).st n12 (k := 22 - 17) (nI (wkS a.1 w).2.1)).st n12 (k := 23 - 17) (nI (wkS a.1 w).2.2.1)
  have hK15 : CdR (sI (sI (sI (sI (sI μ 12 (17 - 17) (nI h)) 12 (18 - 17) (nI a.1.1.1)) 12 (21 - 17) (nI (wkS a.1 w).1)) 12 (22 - 17) (nI (wkS a.1 w).2.1)) 12 (23 - 17) (nI (wkS a.1 w).2.2.1)) (c 18) (c 38) (alW 1) false (decide (1 = 2)) (d.2.2.2.2.2 1) := hR5.2.2.2.2.2.1 1 (by decide)
  have hv5 := hvals μ
  have hm5 : MvF μ (sI (sI (sI (sI (sI μ 12 (17 - 17) (nI h)) 12 (18 - 17) (nI a.1.1.1)) 12 (21 - 17) (nI (wkS a.1 w).1)) 12 (22 - 17) (nI (wkS a.1 w).2.1)) 12 (23 - 17) (nI (wkS a.1 w).2.2.1)) := (((((MvF.refl μ).s12 _ _).s12 _ _).s12 _ _).s12 _ _).s12 _ _
  have hS5 : ShC (sI (sI (sI (sI (sI μ 12 (17 - 17) (nI h)) 12 (18 - 17) (nI a.1.1.1)) 12 (21 - 17) (nI (wkS a.1 w).1)) 12 (22 - 17) (nI (wkS a.1 w).2.1)) 12 (23 - 17) (nI (wkS a.1 w).2.2.1)) := hS.of rfl
  refine C.aload_n dX1_meet_0 0 rfl ?_
  refine C.getO fX1_9 dX1_meet_1 hS.o37 hS.r37_0 ?_
  refine C.bipush (nI 17) dX1_meet_4 (by decide) ?_
  refine C.iload dX1_meet_6 4 rfl ?_
  refine C.callVV lX1_81 dX1_meet_8 (kc_setValue hS (by decide) (by decide) _) hS.o11 rfl rfl (Nat.le_of_ble_eq_true rfl) (Nat.zero_le _) (Nat.zero_le _) (Nat.le_of_ble_eq_true rfl) (fun μ8 h8 => ?_)
  have hS8 : ShC μ8 := by rw [h8]; exact hS.of rfl
  subst h8
  refine C.aload_n dX1_meet_11 0 rfl ?_
  refine C.getO fX1_9 dX1_meet_12 hS.o37 hS.r37_0 ?_
  refine C.bipush (nI 18) dX1_meet_15 (by decide) ?_
  refine C.aload_n dX1_meet_17 2 rfl ?_
  refine C.getI fX1_49 dX1_meet_18 hO.o ?_
  rw [mI_sI, if_neg (by omega), hN.1.1]
  refine C.callVV lX1_81 dX1_meet_21 (kc_setValue hS8 (by decide) (by decide) _) hS.o11 rfl rfl (Nat.le_of_ble_eq_true rfl) (Nat.zero_le _) (Nat.zero_le _) (Nat.le_of_ble_eq_true rfl) (fun μ21 h21 => ?_)
  have hS21 : ShC μ21 := by rw [h21]; exact hS8.of rfl
  subst h21
  refine C.aload_n dX1_meet_24 0 rfl ?_
  refine C.getO fX1_9 dX1_meet_25 hS.o37 hS.r37_0 ?_
  refine C.bipush (nI 21) dX1_meet_28 (by decide) ?_
  refine C.aload_n dX1_meet_30 2 rfl ?_
  refine C.getA fX1_87 dX1_meet_31 hO.o hO.r0 ?_
  refine C.iload_n dX1_meet_34 3 rfl ?_
  refine C.iald hO.a0 (n_in hw6) dX1_meet_35 ?_
  rw [n_cl, mI_sI, if_neg (by omega), mI_sI, if_neg (by omega), n1]
  refine C.callVV lX1_81 dX1_meet_36 (kc_setValue hS21 (by decide) (by decide) _) hS.o11 rfl rfl (Nat.le_of_ble_eq_true rfl) (Nat.zero_le _) (Nat.zero_le _) (Nat.le_of_ble_eq_true rfl) (fun μ36 h36 => ?_)
  have hS36 : ShC μ36 := by rw [h36]; exact hS21.of rfl
  subst h36
  refine C.aload_n dX1_meet_39 0 rfl ?_
  refine C.getO fX1_9 dX1_meet_40 hS.o37 hS.r37_0 ?_
  refine C.bipush (nI 22) dX1_meet_43 (by decide) ?_
  refine C.aload_n dX1_meet_45 2 rfl ?_
  refine C.getA fX1_90 dX1_meet_46 hO.o hO.r1 ?_
  refine C.iload_n dX1_meet_49 3 rfl ?_
  refine C.iald hO.a1 (n_in hw6) dX1_meet_50 ?_
  rw [n_cl, mI_sI, if_neg (by omega), mI_sI, if_neg (by omega), mI_sI, if_neg (by omega), n2]
  refine C.callVV lX1_81 dX1_meet_51 (kc_setValue hS36 (by decide) (by decide) _) hS.o11 rfl rfl (Nat.le_of_ble_eq_true rfl) (Nat.zero_le _) (Nat.zero_le _) (Nat.le_of_ble_eq_true rfl) (fun μ51 h51 => ?_)
  have hS51 : ShC μ51 := by rw [h51]; exact hS36.of rfl
  subst h51
  refine C.aload_n dX1_meet_54 0 rfl ?_
  refine C.getO fX1_9 dX1_meet_55 hS.o37 hS.r37_0 ?_
  refine C.bipush (nI 23) dX1_meet_58 (by decide) ?_
  refine C.aload_n dX1_meet_60 2 rfl ?_
  refine C.getA fX1_93 dX1_meet_61 hO.o hO.r2 ?_
  refine C.iload_n dX1_meet_64 3 rfl ?_
  refine C.iald hO.a2 (n_in hw6) dX1_meet_65 ?_
  rw [n_cl, mI_sI, if_neg (by omega), mI_sI, if_neg (by omega), mI_sI, if_neg (by omega), mI_sI, if_neg (by omega), n3]
  refine C.callVV lX1_81 dX1_meet_66 (kc_setValue hS51 (by decide) (by decide) _) hS.o11 rfl rfl (Nat.le_of_ble_eq_true rfl) (Nat.zero_le _) (Nat.zero_le _) (Nat.le_of_ble_eq_true rfl) (fun μ66 h66 => ?_)
  subst h66
  refine C.aload_n dX1_meet_69 0 rfl ?_
  refine C.getO fX1_9 dX1_meet_70 hS.o37 hS.r37_0 ?_
  refine C.aload_n dX1_meet_73 1 rfl ?_
  refine C.getO fX1_96 dX1_meet_74 hR.o (hR.r (by decide)) ?_
  refine C.callVI lX1_100 dX1_meet_77 (kc_worth hS5 hK15 hI38 hv5 (of := id) (fun z => by cases z)) hS.o11 rfl rfl (Nat.le_of_ble_eq_true rfl) (Nat.zero_le _) (Nat.zero_le _) (Nat.le_of_ble_eq_true rfl) (fun x77 μ77 h77 => ?_)
  obtain ⟨bv, -, rfl, hF77⟩ := h77
  have hm77 := hm5.trans (MvF.ofW hF77)
  have hS77 := hm77.sh hS
  have hO77 : StO μ77 sb := by rcases hb with rfl | rfl; exact hS77.s40; exact hS77.s46
  have hR77 := hm77.ld hR
  have hK277 : CdR μ77 (c 19) (c 39) (alW 2) false (decide (2 = 2)) (d.2.2.2.2.2 2) := hR77.2.2.2.2.2.1 2 (by decide)
  have hm1 : mI μ77 (sb + 1) w = nI (wkS a.1 w).1 := by rw [hm77.2 _ _ (by omega) (by omega) (by omega)]; exact n1
  have hv77 : ∀ k, k < 9 → alW 2 k = true → mI μ77 12 k = (pv k).toInt32 ∧ bnd (pv k) := fun k hk ha => by rw [hF77.2 12 k (by decide) (by omega)]; exact hv5 k hk ha
  refine C.istore (lv' := [(0, _), (1, _), (2, _), (3, _), (4, _), (5, _)]) dX1_meet_80 (nLt hX rfl) rfl ?_
  refine AW.pick [0, 1, 2, 3, 4, 5] rfl ?_
  rw [← hpay] at bv
  rw [← hpay]
  exact m82 μ77 bv hm77 hS77 hO77 hR77 hK277 hm1 hv77
end KMEET
