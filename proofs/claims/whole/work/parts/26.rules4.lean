/-! rules over the memory: nest mates, copies, arrays of references -/
/-- a row of rows of ints -/
def nG (μ : Mm) (N K : Nat) : Mm := (fun b => if mN μ ≤ b then (fun _ => 0) else mI μ b, fun b => if mN μ ≤ b then (fun _ => 0) else mL μ b, fun b => if b = mN μ then (fun j => if j < N then some (mN μ + 1 + j) else none) else if mN μ ≤ b then (fun _ => none) else mR μ b, fun b => if b = mN μ then (106, N) else if mN μ < b ∧ b ≤ mN μ + N then (100, K) else mK μ b, mN μ + 1 + N)
theorem vr_outer (c : ClassId) (N h0 : Nat) : ∀ i : Nat, Jvm.Free.Multi.outerC c N h0 i = arrV c N (fun j => va_rf (if j < i then some (h0 + 1 + j) else none))
  | 0 => by
    show ({ cls := c, slots := Array.replicate N .null, vm := .none } : Cell) = _
    rw [arrV_new]
    refine congrArg (arrV c N) (funext fun j => ?_)
    simp [va_rf]
  | i + 1 => by
    show (Jvm.Free.Multi.outerC c N h0 i).setSlot i (.ref (h0 + 1 + i)) = _
    rw [vr_outer c N h0 i, arrV_store]
    refine congrArg (arrV c N) (funext fun j => ?_)
    by_cases e : j = i
    · subst e
      simp [updV, va_rf]
    · by_cases h : j < i
      · simp [updV, e, h, Nat.lt_succ_of_lt h]
      · simp [updV, e, h, show ¬ j < i + 1 by omega]
section AMR5
variable {l : Launch} {G : Gm} {X : Cx} {cc : ByteArray} {own : String} {d : Nat} {rt : Option FieldType} {bc bs pc : Nat} {lv lv' : List (Nat × Value)} {st : List Value} {μ : Mm}
theorem Cok.callSN (C : Cok l G X cc own d rt) {y : Mt} {idx n d' mc' ms' : Nat} {As stk : List Value} {Q : Option Value → Mm → Prop} (L : LkN y n) (hsta : Cond.static y.1 ∈ lw_ok) (hN : va_Nw (.methodLinkNest own idx y.1 "WildHunt") X.1.2.2.2) (hd : decode cc pc = .ok (.invokestatic idx, 3)) (hM : AMet l G d' mc' ms' y As μ Q) (hn : As.length = n) (hst : stk = As.reverse ++ st) (hdd : d' + 1 ≤ d) (hbc : mc' ≤ bc) (hbs : ms' ≤ bs) (hw : (st.map fun v => v.category).sum ≤ 8) (kk : ∀ (r : Option Value) (μ' : Mm), Q r μ' → AW l G X (bc - mc') (bs - ms') (pc + 3) lv (r.toList ++ st) μ') : AW l G X bc bs pc lv stk μ := by
  intro H locs cells slots ls hR hS hc hs hl
  obtain ⟨⟨w4, w5⟩, hdesc, hmax⟩ := L
  have hfr := C.hfr
  have hlo := C.hlo
  subst hst
  exact am_call (va_runSN (Ts := lw_ok) (own := own) (host := "WildHunt") (bytes := y.2.1) (maxL := y.2.2.1) (ret := y.2.2.2) (n := n) (As := As) (rest := st) ⟨C.hx, C.hb, C.hml, C.hown, C.hts⟩ hM ⟨va_cnB n C.hts (wz_good w5) rfl rfl rfl hN (C.hts _ w4) hdesc ⟨by show d' + 1 ≤ _; omega, by show 8 + (y.2.2.1 + 11) + 64 * d' ≤ _; omega⟩, C.hts _ hsta, trivial⟩ ⟨pc_blind, fun U hU hW => C.pre hR hS _ U hU hW⟩ rfl hn hl.1 rfl (lv_room hw) hd ⟨by omega, by omega⟩) hS (fun r μ' H1 locs1 g0 g1 g2 => kk r μ' g0 H1 locs1 (cells + mc') (slots + ms') ls g1 g2 (by omega) (by omega) hl)
theorem Cok.callIN (C : Cok l G X cc own d rt) {y : Mt} {idx n a d' mc' ms' : Nat} {As stk : List Value} {Q : Option Value → Mm → Prop} (L : LkN y n) (hnm : y.1.name = "<init>" ∧ y.2.2.2 = none) (hsta : Cond.instanceMethod y.1 ∈ lw_ok) (hN : va_Nw (.methodLinkNest own idx y.1 "WildHunt") X.1.2.2.2) (hd : decode cc pc = .ok (.invokespecial idx, 3)) (hM : AMet l G d' mc' ms' y (.ref (G.1 + a) :: As) μ Q) (hn : As.length = n) (hst : stk = As.reverse ++ .ref (G.1 + a) :: st) (hdd : d' + 1 ≤ d) (hbc : mc' ≤ bc) (hbs : ms' ≤ bs) (hw : (st.map fun v => v.category).sum ≤ 8) (kk : ∀ (r : Option Value) (μ' : Mm), Q r μ' → AW l G X (bc - mc') (bs - ms') (pc + 3) lv (r.toList ++ st) μ') : AW l G X bc bs pc lv stk μ := by
  intro H locs cells slots ls hR hS hc hs hl
  obtain ⟨⟨w4, w5⟩, hdesc, hmax⟩ := L
  have hfr := C.hfr
  have hlo := C.hlo
  subst hst
  obtain ⟨y1, y2, y3, y4⟩ := y
  obtain ⟨hn1, hn2⟩ := hnm
  cases hn2
  exact am_call (va_runIN (Ts := lw_ok) (own := own) (host := "WildHunt") (bytes := y2) (maxL := y3) (n := n) (As := As) (rest := st) ⟨C.hx, C.hb, C.hml, C.hown, C.hts⟩ hM ⟨va_cnB n C.hts (wz_good w5) rfl rfl rfl hN (C.hts _ w4) hdesc ⟨by show d' + 1 ≤ _; omega, by show 8 + (y3 + 11) + 64 * d' ≤ _; dsimp only at hmax; omega⟩, hn1, C.hts _ hsta⟩ ⟨pc_blind, fun U hU hW => C.pre hR hS _ U hU hW⟩ rfl hn hl.1 rfl (lv_room hw) hd ⟨by omega, by omega⟩) hS (fun r μ' H1 locs1 g0 g1 g2 => kk r μ' g0 H1 locs1 (cells + mc') (slots + ms') ls g1 g2 (by omega) (by omega) hl)
theorem Cok.callSNI (C : Cok l G X cc own d rt) {y : Mt} {idx n d' mc' ms' : Nat} {As stk : List Value} {Q : Int32 → Mm → Prop} (L : LkN y n) (hsta : Cond.static y.1 ∈ lw_ok) (hN : va_Nw (.methodLinkNest own idx y.1 "WildHunt") X.1.2.2.2) (hd : decode cc pc = .ok (.invokestatic idx, 3)) (hM : AMet l G d' mc' ms' y As μ (qI Q)) (hn : As.length = n) (hst : stk = As.reverse ++ st) (hdd : d' + 1 ≤ d) (hbc : mc' ≤ bc) (hbs : ms' ≤ bs) (hw : (st.map fun v => v.category).sum ≤ 8) (kk : ∀ (x : Int32) (μ' : Mm), Q x μ' → AW l G X (bc - mc') (bs - ms') (pc + 3) lv (.int x :: st) μ') : AW l G X bc bs pc lv stk μ := C.callSN L hsta hN hd hM hn hst hdd hbc hbs hw (fun r μ' h => by obtain ⟨x, rfl, hx⟩ := h; exact kk x μ' hx)
theorem Cok.callINV (C : Cok l G X cc own d rt) {y : Mt} {idx n a d' mc' ms' : Nat} {As stk : List Value} {Q : Mm → Prop} (L : LkN y n) (hnm : y.1.name = "<init>" ∧ y.2.2.2 = none) (hsta : Cond.instanceMethod y.1 ∈ lw_ok) (hN : va_Nw (.methodLinkNest own idx y.1 "WildHunt") X.1.2.2.2) (hd : decode cc pc = .ok (.invokespecial idx, 3)) (hM : AMet l G d' mc' ms' y (.ref (G.1 + a) :: As) μ (qV Q)) (hn : As.length = n) (hst : stk = As.reverse ++ .ref (G.1 + a) :: st) (hdd : d' + 1 ≤ d) (hbc : mc' ≤ bc) (hbs : ms' ≤ bs) (hw : (st.map fun v => v.category).sum ≤ 8) (kk : ∀ (μ' : Mm), Q μ' → AW l G X (bc - mc') (bs - ms') (pc + 3) lv st μ') : AW l G X bc bs pc lv stk μ := C.callIN L hnm hsta hN hd hM hn hst hdd hbc hbs hw (fun r μ' h => by obtain ⟨rfl, hx⟩ := h; exact kk μ' hx)
theorem Cok.anew (C : Cok l G X cc own d rt) {idx : Nat} {n : Int32} {N : Nat} (hw : Cond.classLink own idx "WildHunt$State" ∈ lw_ok) (hd : decode cc pc = .ok (.anewarray idx, 3)) (hn : n = nI N) (hN : N < 100000) (h1 : 1 ≤ bc) (h2 : N ≤ bs) (kk : AW l G X (bc - 1) (bs - N) (pc + 3) lv (.ref (G.1 + mN μ) :: st) (nM μ 105 N)) : AW l G X bc bs pc lv (.int n :: st) μ := by
  intro H locs cells slots ls hR hS hc hs hl
  have hN31 : N < 2 ^ 31 := by omega
  have hcl : n.toNatClampNeg = N := by rw [hn]; exact nI_clamp hN31
  refine W.anew C.hx C.hb C.hown (C.hts _ hw) (va_AO.use C.hK.2.2.2.1.1) (g := F0 X.2.1.1 pc ls (.int n :: st)) rfl hd rfl (by rw [hn]; exact nI_pos hN31) (by rw [hcl]; omega) (by omega) (by rw [hcl]; omega) fun cA kA comp f1 f2 f3 f4 => ?_
  obtain ⟨kA', comp', r1, r2, r3, r4⟩ := (C.hK.1.1.2 5 _ (gty G (by decide))).2
  have hcA : cA = G.2.2.2.1 5 := Option.some.inj (f1.symm.trans r4)
  rw [hcl, hR.1]
  refine kk _ locs (cells + 1) (slots + N) ls (hR.new (by simp) (fun q hq => by rw [Array.getElem?_push, if_neg (Nat.ne_of_lt hq)]) ?_) ⟨?_, fun q g1 g2 => ?_, hS.2.2⟩ (by omega) (by omega) hl
  · have ho : isA (nM μ 105 N) (mN μ) 5 N := ⟨by show mN μ < mN μ + 1; omega, by simp [mK, nM]⟩
    rw [mE_arr ho]
    have i3 : mR (nM μ 105 N) (mN μ) = fun _ => none := by simp [mR, nM]
    have ep : mPay G.1 (nM μ 105 N) 5 (mN μ) = .inr (.inr (.inr (.inr (fun _ => none)))) := by simp [mPay, i3]
    rw [ep]
    show (H.push _)[G.1 + mN μ]? = some (vp_cell _ _)
    rw [← hR.1, Array.getElem?_push, if_pos rfl, vp_cell_q, arrV_new, hcA]
    rfl
  · have := hS.1; simp; omega
  · rw [Array.getElem?_push, if_neg (Nat.ne_of_lt (Nat.lt_of_lt_of_le g1 hS.1))]
    exact hS.2.1 q g1 g2
theorem Cok.aast (C : Cok l G X cc own d rt) {a n r : Nat} {i : Int32} (ha : isA μ a 5 n) (hin : vp_in i n) (ho : isO μ r 10) (hd : decode cc pc = .ok (.aastore, 1)) (kk : AW l G X bc bs (pc + 1) lv st (sR μ a i.toNatClampNeg (some r))) : AW l G X bc bs pc lv (.ref (G.1 + r) :: .int i :: .ref (G.1 + a) :: st) μ := by
  intro H locs cells slots ls hR hS hc hs hl
  have hlt : i.toNatClampNeg < n := Nat.not_le.mp fun q => hin (Or.inr q)
  have h0 : ¬ i < 0 := fun q => hin (Or.inl q)
  have hP := hR.one ho.1
  rw [mE_obj ho (by decide)] at hP
  obtain ⟨r', hr', cellV, g1, g2, g3, -⟩ := hP 0 _ rfl
  have hcls := (C.hK.1.1.1 10 (RX10, TX10, 9) rfl).2
  obtain ⟨kA, comp, k1, k2, k3, -⟩ := (C.hK.1.1.2 5 _ (gty G (by decide))).2
  have hcomp : comp = (gD G).1 10 := Option.some.inj (k3.symm.trans hcls.1)
  subst hcomp
  obtain ⟨kC, hkC, -⟩ := hcls.2
  refine W.aast C.hx C.hb (hR.cellA ha) (fun q h => by cases h) (fun h => by cases h) k1 k2 rfl hkC ⟨h0, by show _ < (arrV _ _ _).slots.size; rw [arrV_size]; exact hlt⟩ g1 (fun q h => by rw [g3] at h; cases h) (by rw [g2]; exact hkC) (by rw [g2]; exact va_assign hcls) rfl rfl hd fun H1 e z oq => kk H1 _ cells slots ls (hR.put (μ' := sR μ a i.toNatClampNeg (some r)) rfl z oq (fun b hb => mE_off rfl rfl (sR_off hb) rfl) ?_) (hS.put z oq (Nat.le_add_right _ _)) hc hs hl
  have ha' : isA (sR μ a i.toNatClampNeg (some r)) a 5 n := ha
  rw [mE_arr ha']
  show H1[G.1 + a]? = some (vp_cell _ (n, .inr (.inr (.inr (.inr (fun j => (mR (sR μ a i.toNatClampNeg (some r)) a j).map (G.1 + ·)))))))
  rw [e, show mPay G.1 μ 5 a = .inr (.inr (.inr (.inr (fun j => (mR μ a j).map (G.1 + ·))))) from rfl, vp_cell_q, vp_cell_q, arrV_store]
  congr 2
  funext q
  by_cases hq : q = i.toNatClampNeg
  · subst hq
    simp [updV, mR, sR, va_rf]
  · simp [updV, mR, sR, hq]
/-- System.arraycopy between int arrays -/
theorem Cok.copyI (C : Cok l G X cc own d rt) {idx a b n0 n1 : Nat} {sp dp n : Int32} (hw : Cond.methodLink own idx arraycopyName ∈ lw_ok ∧ Cond.native arraycopyName ∈ lw_ok ∧ Cond.static arraycopyName ∈ lw_ok ∧ Cond.initialized "java/lang/System" ∈ lw_ok) (ha : isA μ a 0 n0) (hb2 : isA μ b 0 n1) (hab : a ≠ b) (h1 : ¬ sp < 0) (h2 : ¬ dp < 0) (h3 : ¬ n < 0) (h4 : sp.toNatClampNeg + n.toNatClampNeg ≤ n0) (h5 : dp.toNatClampNeg + n.toNatClampNeg ≤ n1) (hdd : 1 ≤ d) (hst : (st.map fun v => v.category).sum ≤ 8) (hd : decode cc pc = .ok (.invokestatic idx, 3)) (kk : AW l G X bc bs (pc + 3) lv st (sA μ b (va_cpy (mI μ a) (mI μ b) sp.toNatClampNeg dp.toNatClampNeg n.toNatClampNeg))) : AW l G X bc bs pc lv (.int n :: .int dp :: .ref (G.1 + b) :: .int sp :: .ref (G.1 + a) :: st) μ := by
  intro H locs cells slots ls hR hS hc hs hl
  have hfr := C.hfr
  have hlo := C.hlo
  have hP : va_P (gD G) mcl [(G.1 + a, .inl (G.2.2.2.1 0, n0, .inl (mI μ a))), (G.1 + b, .inl (G.2.2.2.1 0, n1, .inl (mI μ b)))] H := (hR.oneA ha).app (hR.oneA hb2)
  have hD : va_D (gA G) [(G.1 + a, .inl (G.2.2.2.1 0, n0, .inl (mI μ a))), (G.1 + b, .inl (G.2.2.2.1 0, n1, .inl (mI μ b)))] := by
    refine va_D.app (w1 := [(G.1 + a, .inl (G.2.2.2.1 0, n0, .inl (mI μ a)))]) (one_D (Nat.le_add_right _ _)) (one_D (Nat.le_add_right _ _)) (fun i j p q hi hj => ?_)
    have h0 : i < 1 := (List.getElem?_eq_some_iff.mp hi).1
    have h1 : j < 1 := (List.getElem?_eq_some_iff.mp hj).1
    rw [show i = 0 by omega] at hi
    rw [show j = 0 by omega] at hj
    cases hi
    cases hj
    show G.1 + a ≠ G.1 + b
    omega
  have hsz := hR.1
  have e9 : nativeFrameWords "java/lang/System" "arraycopy" 5 ≤ 40 := by decide +kernel
  intro T hT Xs
  have nn : ∀ z : Int32, ¬ z < 0 → z.toInt = (z.toNatClampNeg : Int) := by
    intro z hz
    have hz0 : (0 : Int) ≤ z.toInt := by
      have := Int32.not_lt.mp hz
      simpa using Int32.le_iff_toInt_le.mp this
    show z.toInt = ((z.toInt.toNat : Nat) : Int)
    omega
  have hc0 : H[G.1 + a]? = some (vp_cell (G.2.2.2.1 0) (n0, .inl (mI μ a))) := hR.cellA ha
  have hc1 : H[G.1 + b]? = some (vp_cell (G.2.2.2.1 0) (n1, .inl (mI μ b))) := hR.cellA hb2
  obtain ⟨-, k0, hk0, cm0, hkk0⟩ := (C.hK.1.1.2 0 _ (gty G (by decide))).1 n0 (fun j => .int (mI μ a j))
  obtain ⟨vm', X', step⟩ := Xs.arraycopy C.hx C.hown (C.hts _ hw.1) (C.hts _ hw.2.1) (C.hts _ hw.2.2.1) (C.hts _ hw.2.2.2) (src := G.1 + a) (dst := G.1 + b) (cs := vp_cell (G.2.2.2.1 0) (n0, .inl (mI μ a))) (cd := vp_cell (G.2.2.2.1 0) (n1, .inl (mI μ b))) (srcPos := sp) (destPos := dp) (n := n) (by rw [hT]; exact hc0) (by rw [hT]; exact hc1)
    (fun _ h => by cases h) (fun _ h => by cases h) (fun h => by cases h) (fun h => by cases h) hk0 hk0 hkk0 hkk0 (by simp [aty, refKind]) h1 h2 h3
    (by rw [nn sp h1, nn n h3]; show ¬ _ > ((arrV (G.2.2.2.1 0) n0 (fun j => .int (mI μ a j))).slots.size : Int); rw [arrV_size]; omega)
    (by rw [nn dp h2, nn n h3]; show ¬ _ > ((arrV (G.2.2.2.1 0) n1 (fun j => .int (mI μ b j))).slots.size : Int); rw [arrV_size]; omega)
    (fun vm₁ _ i hi => by
      have e : (vp_cell (G.2.2.2.1 0) (n0, .inl (mI μ a))).slots.getD (sp.toNatClampNeg + i) .null = .int (mI μ a (sp.toNatClampNeg + i)) := by
        show (arrV (G.2.2.2.1 0) n0 (fun j => .int (mI μ a j))).slots.getD _ _ = _
        rw [Array.getD_eq_getD_getElem?, arrV_read _ _ (by omega)]
        rfl
      refine ⟨?_, ?_⟩
      · rw [e]
        rfl
      · rw [e]
        exact trivial)
    (g := F0 X.2.1.1 pc ls (.int n :: .int dp :: .ref (G.1 + b) :: .int sp :: .ref (G.1 + a) :: st)) rfl (hl.1.trans C.hml.symm) (rest := st) rfl (by rw [C.hb]; exact hd) (by omega) (by show 2 * 0 + _ + _ ≤ _; omega)
  have e1 : copied (vp_cell (G.2.2.2.1 0) (n0, .inl (mI μ a))) (vp_cell (G.2.2.2.1 0) (n1, .inl (mI μ b))) sp dp n = vp_cell (G.2.2.2.1 0) (n1, .inl (va_cpy (mI μ a) (mI μ b) sp.toNatClampNeg dp.toNatClampNeg n.toNatClampNeg)) := va_copied (fun z => .int z) _ _ (mI μ a) (mI μ b) h4
  rw [e1] at X' step
  have hlt : G.1 + b < H.size := (Array.getElem?_eq_some_iff.mp hc1).1
  generalize hcw : vp_cell (G.2.2.2.1 0) (n1, .inl (va_cpy (mI μ a) (mI μ b) sp.toNatClampNeg dp.toNatClampNeg n.toNatClampNeg)) = cw at X' step
  have oq : ∀ q : Nat, q ≠ G.1 + b → (H.setIfInBounds (G.1 + b) cw)[q]? = H[q]? := fun q hq => by simp [Array.getElem?_setIfInBounds, Ne.symm hq]
  have hRn : Rep G (sA μ b (va_cpy (mI μ a) (mI μ b) sp.toNatClampNeg dp.toNatClampNeg n.toNatClampNeg)) (H.setIfInBounds (G.1 + b) cw) := by
    refine hR.put (a := b) (μ' := sA μ b (va_cpy (mI μ a) (mI μ b) sp.toNatClampNeg dp.toNatClampNeg n.toNatClampNeg)) rfl (by simp) oq (fun q hq => mE_off (sA_off hq) rfl rfl rfl) ?_
    have ha' : isA (sA μ b (va_cpy (mI μ a) (mI μ b) sp.toNatClampNeg dp.toNatClampNeg n.toNatClampNeg)) b 0 n1 := hb2
    rw [mE_arr ha']
    show (H.setIfInBounds (G.1 + b) cw)[G.1 + b]? = some (vp_cell _ (n1, .inl (mI (sA μ b _) b)))
    have e2 : mI (sA μ b (va_cpy (mI μ a) (mI μ b) sp.toNatClampNeg dp.toNatClampNeg n.toNatClampNeg)) b = va_cpy (mI μ a) (mI μ b) sp.toNatClampNeg dp.toNatClampNeg n.toNatClampNeg := by simp [mI, sA]
    rw [e2, hcw]
    simp [Array.getElem?_setIfInBounds, hlt]
  obtain ⟨t, a1, b1⟩ := kk _ _ cells slots ls hRn ⟨by simp; exact hS.1, fun q g1 g2 => by
      rw [oq q (fun e => g2 (by rw [e]; exact Nat.le_add_right _ _))]
      exact hS.2.1 q g1 g2, fun q hq => by
      rcases List.mem_append.mp hq with h | h
      · exact hS.2.2 q h
      · obtain ⟨z, -, hz⟩ := List.mem_map.mp h
        rw [← hz]
        exact Nat.le_add_right _ _⟩ hc hs hl _ (by rw [← hT]; rfl) X'
  exact ⟨t, step t a1, b1⟩
/-- new int[N][K] -/
theorem Cok.mna (C : Cok l G X cc own d rt) {idx : Nat} {n k : Int32} {N K : Nat} (hw : Cond.classLink own idx "[[I" ∈ lw_ok ∧ Cond.arrayClass .int ∈ lw_ok) (hd : decode cc pc = .ok (.multianewarray idx 2, 4)) (hn : n = nI N) (hk : k = nI K) (hN : N < 1000) (hK : K < 1000) (h1 : 1 + N ≤ bc) (h2 : N + N * K ≤ bs) (kk : AW l G X (bc - (1 + N)) (bs - (N + N * K)) (pc + 4) lv (.ref (G.1 + mN μ) :: st) (nG μ N K)) : AW l G X bc bs pc lv (.int k :: .int n :: st) μ := by
  intro H locs cells slots ls hR hS hc hs hl
  have cN : n.toNatClampNeg = N := by rw [hn]; exact nI_clamp (by omega)
  have cK : k.toNatClampNeg = K := by rw [hk]; exact nI_clamp (by omega)
  have pN : ¬ n < 0 := by rw [hn]; exact nI_pos (by omega)
  have pK : ¬ k < 0 := by rw [hk]; exact nI_pos (by omega)
  intro T hT Xs
  obtain ⟨vm₁, cA, comp, -, fA, fC, hO, -, X', step⟩ := Xs.multianewarray2F (ty := .int) C.hx C.hown (C.hts _ hw.1) C.hK.2.2.2.1.2 (C.hts _ hw.2) (g := F0 X.2.1.1 pc ls (.int k :: .int n :: st)) rfl (by rw [C.hb]; exact hd) rfl pN pK (by rw [cN]; omega) (by rw [cK]; show K * 4 ≤ _; omega) (by rw [cK]; omega) rfl rfl (by rw [cN]; omega) (by rw [cN, cK]; omega)
  rw [cN, cK] at X' step
  have hA0 : cA = G.2.2.2.1 6 := Option.some.inj (fA.symm.trans (C.hK.1.1.2 6 _ (gty G (by decide))).2)
  have hC0 : comp = G.2.2.2.1 0 := Option.some.inj (fC.symm.trans (C.hK.1.1.2 0 _ (gty G (by decide))).2)
  subst hA0
  subst hC0
  generalize hF : Jvm.Free.Multi.fill (T.setVm vm₁) (G.2.2.2.1 6) (G.2.2.2.1 0) N K (defaultValue .int) N = F at X' step
  have hTh : (T.setVm vm₁).heap = H := hT
  obtain ⟨f1, f2, -, -⟩ := Jvm.Free.Multi.fill_facts (T.setVm vm₁) (G.2.2.2.1 6) (G.2.2.2.1 0) N K (defaultValue .int) N
  rw [hF, hTh] at f1 f2
  have hold : ∀ x : Nat, x < H.size → F.heap[x]? = H[x]? := fun x hx => by
    have := Jvm.Free.Multi.fill_old (T.setVm vm₁) (G.2.2.2.1 6) (G.2.2.2.1 0) N K (defaultValue .int) (a := x) (by rw [hTh]; exact hx) N
    rw [hF, hTh] at this
    exact this
  have hrow : ∀ j : Nat, j < N → F.heap[H.size + 1 + j]? = some (vp_cell (G.2.2.2.1 0) (K, .inl (fun _ => 0))) := fun j hj => by
    have := Jvm.Free.Multi.fill_inner (T.setVm vm₁) (G.2.2.2.1 6) (G.2.2.2.1 0) N K (defaultValue .int) N j hj
    rw [hF, hTh] at this
    rw [this]
    show some ({ cls := G.2.2.2.1 0, slots := Array.replicate K (defaultValue .int), vm := .none } : Cell) = _
    rw [arrV_new]
    rfl
  have hout : Jvm.Free.Multi.outerC (G.2.2.2.1 6) N H.size N = vp_cell (G.2.2.2.1 6) (N, .inr (.inr (.inr (.inr (fun i => if i < N then some (H.size + 1 + i) else none))))) := by
    rw [vp_cell_q]
    exact vr_outer (G.2.2.2.1 6) N H.size N
  rw [hout] at f2
  have hz := hR.1
  have hnn : mN (nG μ N K) = mN μ + 1 + N := rfl
  have hRn : Rep G (nG μ N K) F.heap := by
    refine ⟨by rw [f1, hnn, hz]; omega, fun b hb => ?_⟩
    rw [hnn] at hb
    by_cases e0 : b < mN μ
    · have a1 : ¬ mN μ ≤ b := by omega
      have a2 : ¬ b = mN μ := by omega
      have a3 : ¬ (mN μ < b ∧ b ≤ mN μ + N) := by omega
      have hE : mE G (nG μ N K) b = mE G μ b := mE_off (by simp [mI, nG, a1]) (by simp [mL, nG, a1]) (by simp [mR, nG, a1, a2]) (by show (if b = mN μ then _ else _) = _; rw [if_neg a2, if_neg a3])
      rw [hE]
      exact (hR.2 b e0).kept (hold _ ((hR.2 b e0).lt))
    · by_cases e1 : b = mN μ
      · subst e1
        have ho : isA (nG μ N K) (mN μ) 6 N := ⟨by rw [hnn]; omega, by simp [mK, nG]⟩
        rw [mE_arr ho]
        show F.heap[G.1 + mN μ]? = some (vp_cell _ _)
        rw [← hz, f2, show mPay G.1 (nG μ N K) 6 (mN μ) = .inr (.inr (.inr (.inr (fun j => (mR (nG μ N K) (mN μ) j).map (G.1 + ·))))) from rfl]
        congr 7
        funext j
        by_cases hj : j < N
        · simp [mR, nG, hj, hz]; omega
        · simp [mR, nG, hj]
      · have hb1 : mN μ < b := by omega
        have ho : isA (nG μ N K) b 0 K := ⟨by rw [hnn]; exact hb, by show (if b = mN μ then _ else _) = _; rw [if_neg e1, if_pos ⟨hb1, by omega⟩]⟩
        rw [mE_arr ho]
        show F.heap[G.1 + b]? = some (vp_cell _ _)
        have hr := hrow (b - mN μ - 1) (by omega)
        have e2 : H.size + 1 + (b - mN μ - 1) = G.1 + b := by omega
        rw [e2] at hr
        rw [hr, show mPay G.1 (nG μ N K) 0 b = .inl (mI (nG μ N K) b) from rfl]
        have i1 : mI (nG μ N K) b = fun _ => 0 := by simp [mI, nG, Nat.le_of_lt hb1]
        rw [i1]
  obtain ⟨t, a1, b1⟩ := kk F.heap locs (cells + 1 + N) (slots + N + N * K) ls hRn ⟨by rw [f1]; have := hS.1; omega, fun q g1 g2 => (hold q (Nat.lt_of_lt_of_le g1 hS.1)).trans (hS.2.1 q g1 g2), hS.2.2⟩ (by omega) (by omega) hl F rfl X'
  refine ⟨t, step t ?_, b1⟩
  have e : T.heap.size = G.1 + mN μ := by rw [hT]; exact hz
  rw [e]
  exact a1
/-- a literal -/
theorem Cok.ldS0 (C : Cok l G X cc RX8 d rt) (hd : decode cc pc = .ok (.ldc 23, 2)) (kk : AW l G X bc bs (pc + 2) lv (.ref (G.2.2.2.2.2.2.1 0) :: st) μ) : AW l G X bc bs pc lv st μ :=
  fun H locs cells slots ls hR hS hc hs hl => va_ldcS (own := RX8) (tx := txt0) C.hx C.hb C.hown C.hK.2.2.2.2.1 hd (kk H locs cells slots ls hR hS hc hs hl)
theorem Cok.ldS1 (C : Cok l G X cc RX8 d rt) (hd : decode cc pc = .ok (.ldc 29, 2)) (kk : AW l G X bc bs (pc + 2) lv (.ref (G.2.2.2.2.2.2.1 1) :: st) μ) : AW l G X bc bs pc lv st μ :=
  fun H locs cells slots ls hR hS hc hs hl => va_ldcS (own := RX8) (tx := txt1) C.hx C.hb C.hown C.hK.2.2.2.2.2 hd (kk H locs cells slots ls hR hS hc hs hl)
end AMR5
