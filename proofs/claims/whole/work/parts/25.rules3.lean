/-! rules over the memory: making, returns, calls, a contract out of a walk -/
section AMR4
variable {l : Launch} {G : Gm} {X : Cx} {cc : ByteArray} {own : String} {d : Nat} {rt : Option FieldType} {bc bs pc : Nat} {lv lv' : List (Nat × Value)} {st : List Value} {μ : Mm}
theorem Cok.new (C : Cok l G X cc own d rt) {idx c : Nat} {Cn : String} {T : u_T} (hcl : mcl[c]? = some (Cn, T, nF c)) (hw : Cond.classLink own idx Cn ∈ lw_ok ∧ Cond.instantiable Cn (nF c) ∈ lw_ok ∧ Cond.initialized Cn ∈ lw_ok) (hd : decode cc pc = .ok (.new idx, 3)) (h1 : 1 ≤ bc) (h2 : nF c ≤ bs) (kk : AW l G X (bc - 1) (bs - nF c) (pc + 3) lv (.ref (G.1 + mN μ) :: st) (nM μ c (nF c))) : AW l G X bc bs pc lv st μ := by
  intro H locs cells slots ls hR hS hc hs hl
  have hKn := C.hK.1.1.1 c _ hcl
  refine W.newcK C.hx C.hb C.hown (C.hts _ hw.1) (C.hts _ hw.2.1) (C.hts _ hw.2.2) (g := F0 X.2.1.1 pc ls st) rfl hd (by omega) (by omega) hKn.2.1 hR.1 fun H1 kC hkC e1 z1 o1 => ?_
  have hlt := mcl_lt hcl
  have h14 : c < 14 := by
    have := (List.getElem?_eq_some_iff.mp hcl).1
    exact this
  refine kk H1 locs (cells + 1) (slots + nF c) ls (hR.new (by rw [hR.1]; exact z1) (fun q hq => o1 q (by rw [← hR.1]; exact hq)) ?_) ⟨?_, fun q g1 g2 => ?_, hS.2.2⟩ (by omega) (by omega) hl
  · have ho : isO (nM μ c (nF c)) (mN μ) c := ⟨by show mN μ < mN μ + 1; omega, by simp [mK, nM]⟩
    rw [mE_obj ho hlt]
    refine ⟨_, hcl, (u_born (mty c) C.hts (mcl_ok hcl).1 hKn hkC e1 (mcl_ok hcl).2.1).to (fun j hj => ?_)⟩
    rw [mF_new (b := G.1) (μ := μ) (c := c) (n := nF c) (okTy_all c h14 j hj) j]
    simp [vp_V, hj]
  · have := hS.1; rw [hR.1] at this; omega
  · rw [o1 q (by rw [← hR.1]; exact Nat.lt_of_lt_of_le g1 hS.1)]
    exact hS.2.1 q g1 g2
theorem Cok.newa (C : Cok l G X cc own d rt) {t : Nat} {atype : ArrayType} {n : Int32} {N : Nat} (ht : t < 5) (hat : newarray.typeOf atype = aty t) (hw : Cond.arrayClass (aty t) ∈ lw_ok) (hd : decode cc pc = .ok (.newarray atype, 2)) (hn : n = nI N) (hN : N < 100000) (h1 : 1 ≤ bc) (h2 : N ≤ bs) (kk : AW l G X (bc - 1) (bs - N) (pc + 2) lv (.ref (G.1 + mN μ) :: st) (nM μ (100 + t) N)) : AW l G X bc bs pc lv (.int n :: st) μ := by
  intro H locs cells slots ls hR hS hc hs hl
  have hN31 : N < 2 ^ 31 := by omega
  have hcb : componentBytes (aty t) ≤ 8 := by
    rcases (show t = 0 ∨ t = 1 ∨ t = 2 ∨ t = 3 ∨ t = 4 by omega) with rfl | rfl | rfl | rfl | rfl <;> decide
  refine va_newaK C.hx C.hb (by rw [hat]; exact C.hts _ hw) (g := F0 X.2.1.1 pc ls (.int n :: st)) rfl hd rfl (N := N) (by rw [hn]; exact nI_pos hN31) (by rw [hn]; exact nI_clamp hN31) (by rw [hat]; exact Nat.le_trans (Nat.mul_le_mul_left N hcb) (by omega)) (by omega) (by omega) hR.1 fun H1 cA e1 z1 o1 a1 f1 => ?_
  have hRA := (C.hK.1.1.2 t _ (gty G (by omega))).2
  have hcA : cA = G.2.2.2.1 t := by
    rw [hat] at f1
    have : X.1.2.2.2.vm.findClass ("[" ++ (aty t).toString) = some (G.2.2.2.1 t) := by
      rcases (show t = 0 ∨ t = 1 ∨ t = 2 ∨ t = 3 ∨ t = 4 by omega) with rfl | rfl | rfl | rfl | rfl <;> exact hRA
    exact Option.some.inj (f1.symm.trans this)
  refine kk H1 locs (cells + 1) (slots + N) ls (hR.new (by rw [hR.1]; exact z1) (fun q hq => o1 q (by rw [← hR.1]; exact hq)) ?_) ⟨?_, fun q g1 g2 => ?_, hS.2.2⟩ (by omega) (by omega) hl
  · have ho : isA (nM μ (100 + t) N) (mN μ) t N := ⟨by show mN μ < mN μ + 1; omega, by simp [mK, nM]⟩
    rw [mE_arr ho]
    show H1[G.1 + mN μ]? = some (vp_cell _ _)
    rw [e1, hcA, hat]
    have i1 : mI (nM μ (100 + t) N) (mN μ) = fun _ => 0 := by simp [mI, nM]
    have i2 : mL (nM μ (100 + t) N) (mN μ) = fun _ => 0 := by simp [mL, nM]
    rcases (show t = 0 ∨ t = 1 ∨ t = 2 ∨ t = 3 ∨ t = 4 by omega) with rfl | rfl | rfl | rfl | rfl
    · rw [show mPay G.1 (nM μ (100 + 0) N) 0 (mN μ) = .inl (fun _ => 0) by simp [mPay, i1]]; rfl
    · rw [show mPay G.1 (nM μ (100 + 1) N) 1 (mN μ) = .inr (.inl (fun _ => 0)) by simp [mPay, i2]]; rfl
    · rw [show mPay G.1 (nM μ (100 + 2) N) 2 (mN μ) = .inl (fun _ => 0) by simp [mPay, i1]]; rfl
    · rw [show mPay G.1 (nM μ (100 + 3) N) 3 (mN μ) = .inl (fun _ => 0) by simp [mPay, i1]]; rfl
    · rw [show mPay G.1 (nM μ (100 + 4) N) 4 (mN μ) = .inl (fun _ => 0) by simp [mPay, i1]]; rfl
  · have := hS.1; rw [hR.1] at this; omega
  · rw [o1 q (by rw [← hR.1]; exact Nat.lt_of_lt_of_le g1 hS.1)]
    exact hS.2.1 q g1 g2
/-- the ends -/
theorem AW.fin {Q : Option Value → Mm → Prop} {v : Option Value} {stk : List Value} (hq : MR G X Q) (hQ : Q v μ) (h : ∀ (H : Heap) (locs : List Loc) (ls : Array Slot), (∀ t : State, t.heap = H → X.1.2.2.2.WarmedH t.vm → QcE G Q X.2.1.2.1 X.1.2.2.2 (.returned v) t) → (∀ q ∈ locs, gA G q.base) → W X.1.1 l X.1.2.1 X.1.2.2.1 X.1.2.2.2 X.2.1.1 X.2.1.2.1 X.2.1.2.2.1 X.2.1.2.2.2.1 X.2.1.2.2.2.2 H locs X.1.2.2.1.cells X.1.2.2.1.slots (MQ X.2.1.2.2.1 (QcE G Q) X.2.1.2.1 X.1.2.2.2 X.1.2.2.1.cells X.1.2.2.1.slots (gA G)) (F0 X.2.1.1 pc ls stk)) : AW l G X bc bs pc lv stk μ := by
  intro H locs cells slots ls hR hS hc hs hl
  rw [hq]
  refine W.widen (k := X.1.2.2.1.cells) (n := X.1.2.2.1.slots) (by omega) (by omega) (h H locs ls (fun t ht hW => ⟨v, μ, rfl, hQ, by rw [ht]; exact hR, hS.F ht⟩) hS.2.2)
theorem Cok.iret (C : Cok l G X cc own d (some .int)) {Q : Int32 → Mm → Prop} {v : Int32} (hq : MR G X (qI Q)) (hd : decode cc pc = .ok (.ireturn, 1)) (h : Q v μ) : AW l G X bc bs pc lv [.int v] μ := AW.fin hq (⟨v, rfl, h⟩ : qI Q (some (.int v)) μ) fun H locs ls h1 h2 => W.iret C.hx C.hb C.hrt h1 h2 hd C.hlk
theorem Cok.zret (C : Cok l G X cc own d (some .boolean)) {Q : Int32 → Mm → Prop} {v : Int32} (hq : MR G X (qI Q)) (hd : decode cc pc = .ok (.ireturn, 1)) (hv : v = 0 ∨ v = 1) (h : Q v μ) : AW l G X bc bs pc lv [.int v] μ := AW.fin hq (⟨v, rfl, h⟩ : qI Q (some (.int v)) μ) fun H locs ls h1 h2 => W.zret C.hx C.hb C.hrt (by rcases hv with rfl | rfl <;> rfl) h1 h2 hd C.hlk
theorem Cok.lret (C : Cok l G X cc own d (some .long)) {Q : Int64 → Mm → Prop} {v : Int64} (hq : MR G X (qL Q)) (hd : decode cc pc = .ok (.lreturn, 1)) (h : Q v μ) : AW l G X bc bs pc lv [.long v] μ := AW.fin hq (⟨v, rfl, h⟩ : qL Q (some (.long v)) μ) fun H locs ls h1 h2 => W.lret C.hx C.hb C.hrt h1 h2 hd C.hlk
theorem Cok.vret (C : Cok l G X cc own d none) {Q : Mm → Prop} (hq : MR G X (qV Q)) (hd : decode cc pc = .ok (.return_, 1)) (h : Q μ) : AW l G X bc bs pc lv [] μ := AW.fin hq (⟨rfl, h⟩ : qV Q none μ) fun H locs ls h1 h2 => W.vret C.hx C.hb C.hrt h1 h2 hd C.hlk
theorem Cok.aret {n : String} (C : Cok l G X cc own d (some (.object n))) {Q : Nat → Mm → Prop} {r : Nat} (hq : MR G X (qR G.1 Q)) (hd : decode cc pc = .ok (.areturn, 1)) (h : Q r μ) : AW l G X bc bs pc lv [.ref (G.1 + r)] μ := AW.fin hq (⟨r, rfl, h⟩ : qR G.1 Q (some (.ref (G.1 + r))) μ) fun H locs ls h1 h2 => W.aret C.hx C.hb C.hrt (Or.inl ⟨_, rfl⟩) (Or.inr ⟨_, rfl⟩) h1 h2 hd C.hlk
/-- behind a call -/
theorem am_call {p : Program} {l : Launch} {e : Env} {R : Room} {s : State} {m : MethodId} {args : Array Value} {below : List Frame} {meth : Method} {c : Code} {H : Heap} {locs : List Loc} {cells slots : Nat} {Qf : State → Prop} {pc : Nat} {ls : Array Slot} {rest st0 : List Value} {a : Array Value} {mc ms : Nat} {Q : Option Value → Mm → Prop} (hr : va_Run p l e R s m args below meth c H locs cells slots mc ms (F0 m pc ls st0) rest (QcE G Q a) (gA G)) (hS : va_S (gA G) s.heap H locs)
    (kk : ∀ (r : Option Value) (μ' : Mm) (H1 : Heap) (locs1 : List Loc), Q r μ' → Rep G μ' H1 → va_S (gA G) s.heap H1 locs1 → W p l e R s m args below meth c H1 locs1 (cells + mc) (slots + ms) Qf (F0 m (pc + 3) ls (r.toList ++ rest))) : W p l e R s m args below meth c H locs cells slots Qf (F0 m pc ls st0) := by
  intro T hT X
  obtain ⟨v, st₀, t, T', L, h0, X', hL, e1, e2, ⟨r, μ', hv, hQ, hRp, hz, hk⟩, stp⟩ := hr T hT X
  cases hv
  rw [h0] at hz hk
  obtain ⟨t2, a1, b1⟩ := kk v μ' T'.heap (locs ++ L) hQ (by rw [e1]; exact hRp)
    ⟨Nat.le_trans hS.1 (by rw [e1]; exact hz), fun q h1 h2 => by rw [e1, hk q (Nat.lt_of_lt_of_le h1 hS.1) h2]; exact hS.2.1 q h1 h2, fun q hq => by
      rcases List.mem_append.mp hq with h | h
      · exact hS.2.2 q h
      · exact hL q h⟩ T' rfl X'
  exact ⟨t2, stp t2 a1, b1⟩
theorem Cok.pre (C : Cok l G X cc own d rt) {H : Heap} {locs : List Loc} (hR : Rep G μ H) (hS : va_S (gA G) X.1.2.2.2.heap H locs) (As : List Value) : ∀ U : State, U.heap = H → X.1.2.2.2.WarmedH U.vm → va_Pc As (fun U => Rep G μ U.heap ∧ KK G U) As.toArray U := by
  intro U hU hW
  refine ⟨rfl, by rw [hU]; exact hR, C.hK.to hW ?_ (fun q h1 h2 => by rw [hU]; exact hS.2.1 q h1 h2)⟩
  rw [hU, hR.1]
  omega
theorem Cok.callV (C : Cok l G X cc own d rt) {y : Mt} {idx c n a d' mc' ms' : Nat} {As stk : List Value} {Q : Option Value → Mm → Prop} (L : LkV own idx y c n) (hd : decode cc pc = .ok (.invokevirtual idx, 3)) (hM : AMet l G d' mc' ms' y (.ref (G.1 + a) :: As) μ Q) (ho : isO μ a c) (hn : As.length = n) (hst : stk = As.reverse ++ .ref (G.1 + a) :: st) (hdd : d' + 1 ≤ d) (hbc : mc' ≤ bc) (hbs : ms' ≤ bs) (hw : (st.map fun v => v.category).sum ≤ 8) (kk : ∀ (r : Option Value) (μ' : Mm), Q r μ' → AW l G X (bc - mc') (bs - ms') (pc + 3) lv (r.toList ++ st) μ') : AW l G X bc bs pc lv stk μ := by
  intro H locs cells slots ls hR hS hc hs hl
  obtain ⟨⟨w1, w2, w3, w4, w5⟩, ⟨q, hq, hqy⟩, hdesc, hmax⟩ := L
  have hfr := C.hfr
  have hlo := C.hlo
  have hlt := mcl_lt hq
  have hqN : q = (q.1, q.2.1, q.2.2) := rfl
  have hP := hR.one ho.1
  rw [mE_obj ho hlt] at hP
  subst hst
  refine am_call (va_runV (Ts := lw_ok) (own := own) (C := y.1.cls) (bytes := y.2.1) (maxL := y.2.2.1) (ret := y.2.2.2) (n := n) (As := As) (rest := st) ⟨C.hx, C.hb, C.hml, C.hown, C.hts⟩ hM (cwV n C.hts ?_ rfl rfl rfl ⟨rfl, hdesc⟩ ⟨by show d' + 1 ≤ _; omega, by show 8 + (y.2.2.1 + 11) + 64 * d' ≤ _; omega⟩) ⟨pc_blind, ?_, fun U hU hW => C.pre hR hS _ U hU hW⟩ rfl hn hl.1 rfl (lv_room hw) hd ⟨by omega, by omega⟩) hS (fun r μ' H1 locs1 g0 g1 g2 => kk r μ' g0 H1 locs1 (cells + mc') (slots + ms') ls g1 g2 (by omega) (by omega) hl)
  · intro w hw'
    have hm : w ∈ lw_ok := by
      unfold wsV at hw'
      rcases List.mem_append.mp hw' with h | h
      · simp only [List.mem_cons, List.not_mem_nil, or_false] at h
        rcases h with rfl | rfl | rfl | rfl
        · exact w1
        · exact w2
        · exact w3
        · exact w4
      · exact (wz_good w5 w h).1
    exact ⟨hm, good_of_word (ok_good hm)⟩
  · rw [← hqy]
    exact va_recv C.hK.1.1 hP (ci := c) (q0 := 0) hq rfl
theorem Cok.callS (C : Cok l G X cc own d rt) {y : Mt} {idx n d' mc' ms' : Nat} {As stk : List Value} {Q : Option Value → Mm → Prop} (L : LkS own idx y n) (hd : decode cc pc = .ok (.invokestatic idx, 3)) (hM : AMet l G d' mc' ms' y As μ Q) (hn : As.length = n) (hst : stk = As.reverse ++ st) (hdd : d' + 1 ≤ d) (hbc : mc' ≤ bc) (hbs : ms' ≤ bs) (hw : (st.map fun v => v.category).sum ≤ 8) (kk : ∀ (r : Option Value) (μ' : Mm), Q r μ' → AW l G X (bc - mc') (bs - ms') (pc + 3) lv (r.toList ++ st) μ') : AW l G X bc bs pc lv stk μ := by
  intro H locs cells slots ls hR hS hc hs hl
  obtain ⟨⟨w1, w2, w4, w5⟩, hdesc, hmax⟩ := L
  have hfr := C.hfr
  have hlo := C.hlo
  subst hst
  refine am_call (va_runS (Ts := lw_ok) (own := own) (bytes := y.2.1) (maxL := y.2.2.1) (ret := y.2.2.2) (n := n) (As := As) (rest := st) ⟨C.hx, C.hb, C.hml, C.hown, C.hts⟩ hM (va_cwS n C.hts ?_ rfl rfl rfl hdesc ⟨by show d' + 1 ≤ _; omega, by show 8 + (y.2.2.1 + 11) + 64 * d' ≤ _; omega⟩) ⟨pc_blind, fun U hU hW => C.pre hR hS _ U hU hW⟩ rfl hn hl.1 rfl (lv_room hw) hd ⟨by omega, by omega⟩) hS (fun r μ' H1 locs1 g0 g1 g2 => kk r μ' g0 H1 locs1 (cells + mc') (slots + ms') ls g1 g2 (by omega) (by omega) hl)
  intro w hw'
  have hm : w ∈ lw_ok := by
    unfold va_wsS at hw'
    rcases List.mem_append.mp hw' with h | h
    · simp only [List.mem_cons, List.not_mem_nil, or_false] at h
      rcases h with rfl | rfl | rfl
      · exact w1
      · exact w2
      · exact w4
    · exact (wz_good w5 w h).1
  exact ⟨hm, good_of_word (ok_good hm)⟩
theorem Cok.callI (C : Cok l G X cc own d rt) {y : Mt} {idx n a d' mc' ms' : Nat} {As stk : List Value} {Q : Option Value → Mm → Prop} (L : LkI own idx y n) (hd : decode cc pc = .ok (.invokespecial idx, 3)) (hM : AMet l G d' mc' ms' y (.ref (G.1 + a) :: As) μ Q) (hn : As.length = n) (hst : stk = As.reverse ++ .ref (G.1 + a) :: st) (hdd : d' + 1 ≤ d) (hbc : mc' ≤ bc) (hbs : ms' ≤ bs) (hw : (st.map fun v => v.category).sum ≤ 8) (kk : ∀ (r : Option Value) (μ' : Mm), Q r μ' → AW l G X (bc - mc') (bs - ms') (pc + 3) lv (r.toList ++ st) μ') : AW l G X bc bs pc lv stk μ := by
  intro H locs cells slots ls hR hS hc hs hl
  obtain ⟨⟨w1, w2, w4, w5⟩, hdesc, hmax, hnm, hrn⟩ := L
  have hfr := C.hfr
  have hlo := C.hlo
  subst hst
  obtain ⟨y1, y2, y3, y4⟩ := y
  cases hrn
  exact am_call (va_runI (Ts := lw_ok) (own := own) (bytes := y2) (maxL := y3) (n := n) (As := As) (rest := st) ⟨C.hx, C.hb, C.hml, C.hown, C.hts⟩ hM (cwI n C.hts (wz_good w5) rfl rfl rfl (C.hts _ w4) (C.hts _ w1) (C.hts _ w2) hnm hdesc ⟨by show d' + 1 ≤ _; omega, by show 8 + (y3 + 11) + 64 * d' ≤ _; dsimp only at hmax; omega⟩) ⟨pc_blind, fun U hU hW => C.pre hR hS _ U hU hW⟩ rfl hn hl.1 rfl (lv_room hw) hd ⟨by omega, by omega⟩) hS (fun r μ' H1 locs1 g0 g1 g2 => kk r μ' g0 H1 locs1 (cells + mc') (slots + ms') ls g1 g2 (by omega) (by omega) hl)
theorem Cok.callVI (C : Cok l G X cc own d rt) {y : Mt} {idx c n a d' mc' ms' : Nat} {As stk : List Value} {Q : Int32 → Mm → Prop} (L : LkV own idx y c n) (hd : decode cc pc = .ok (.invokevirtual idx, 3)) (hM : AMet l G d' mc' ms' y (.ref (G.1 + a) :: As) μ (qI Q)) (ho : isO μ a c) (hn : As.length = n) (hst : stk = As.reverse ++ .ref (G.1 + a) :: st) (hdd : d' + 1 ≤ d) (hbc : mc' ≤ bc) (hbs : ms' ≤ bs) (hw : (st.map fun v => v.category).sum ≤ 8) (kk : ∀ (x : Int32) (μ' : Mm), Q x μ' → AW l G X (bc - mc') (bs - ms') (pc + 3) lv (.int x :: st) μ') : AW l G X bc bs pc lv stk μ := C.callV L hd hM ho hn hst hdd hbc hbs hw (fun r μ' h => by obtain ⟨x, rfl, hx⟩ := h; exact kk x μ' hx)
theorem Cok.callVL (C : Cok l G X cc own d rt) {y : Mt} {idx c n a d' mc' ms' : Nat} {As stk : List Value} {Q : Int64 → Mm → Prop} (L : LkV own idx y c n) (hd : decode cc pc = .ok (.invokevirtual idx, 3)) (hM : AMet l G d' mc' ms' y (.ref (G.1 + a) :: As) μ (qL Q)) (ho : isO μ a c) (hn : As.length = n) (hst : stk = As.reverse ++ .ref (G.1 + a) :: st) (hdd : d' + 1 ≤ d) (hbc : mc' ≤ bc) (hbs : ms' ≤ bs) (hw : (st.map fun v => v.category).sum ≤ 8) (kk : ∀ (x : Int64) (μ' : Mm), Q x μ' → AW l G X (bc - mc') (bs - ms') (pc + 3) lv (.long x :: st) μ') : AW l G X bc bs pc lv stk μ := C.callV L hd hM ho hn hst hdd hbc hbs hw (fun r μ' h => by obtain ⟨x, rfl, hx⟩ := h; exact kk x μ' hx)
theorem Cok.callVV (C : Cok l G X cc own d rt) {y : Mt} {idx c n a d' mc' ms' : Nat} {As stk : List Value} {Q : Mm → Prop} (L : LkV own idx y c n) (hd : decode cc pc = .ok (.invokevirtual idx, 3)) (hM : AMet l G d' mc' ms' y (.ref (G.1 + a) :: As) μ (qV Q)) (ho : isO μ a c) (hn : As.length = n) (hst : stk = As.reverse ++ .ref (G.1 + a) :: st) (hdd : d' + 1 ≤ d) (hbc : mc' ≤ bc) (hbs : ms' ≤ bs) (hw : (st.map fun v => v.category).sum ≤ 8) (kk : ∀ (μ' : Mm), Q μ' → AW l G X (bc - mc') (bs - ms') (pc + 3) lv st μ') : AW l G X bc bs pc lv stk μ := C.callV L hd hM ho hn hst hdd hbc hbs hw (fun r μ' h => by obtain ⟨rfl, hx⟩ := h; exact kk μ' hx)
theorem Cok.callVR (C : Cok l G X cc own d rt) {y : Mt} {idx c n a d' mc' ms' : Nat} {As stk : List Value} {Q : Nat → Mm → Prop} (L : LkV own idx y c n) (hd : decode cc pc = .ok (.invokevirtual idx, 3)) (hM : AMet l G d' mc' ms' y (.ref (G.1 + a) :: As) μ (qR G.1 Q)) (ho : isO μ a c) (hn : As.length = n) (hst : stk = As.reverse ++ .ref (G.1 + a) :: st) (hdd : d' + 1 ≤ d) (hbc : mc' ≤ bc) (hbs : ms' ≤ bs) (hw : (st.map fun v => v.category).sum ≤ 8) (kk : ∀ (x : Nat) (μ' : Mm), Q x μ' → AW l G X (bc - mc') (bs - ms') (pc + 3) lv (.ref (G.1 + x) :: st) μ') : AW l G X bc bs pc lv stk μ := C.callV L hd hM ho hn hst hdd hbc hbs hw (fun r μ' h => by obtain ⟨x, rfl, hx⟩ := h; exact kk x μ' hx)
theorem Cok.callSI (C : Cok l G X cc own d rt) {y : Mt} {idx n d' mc' ms' : Nat} {As stk : List Value} {Q : Int32 → Mm → Prop} (L : LkS own idx y n) (hd : decode cc pc = .ok (.invokestatic idx, 3)) (hM : AMet l G d' mc' ms' y As μ (qI Q)) (hn : As.length = n) (hst : stk = As.reverse ++ st) (hdd : d' + 1 ≤ d) (hbc : mc' ≤ bc) (hbs : ms' ≤ bs) (hw : (st.map fun v => v.category).sum ≤ 8) (kk : ∀ (x : Int32) (μ' : Mm), Q x μ' → AW l G X (bc - mc') (bs - ms') (pc + 3) lv (.int x :: st) μ') : AW l G X bc bs pc lv stk μ := C.callS L hd hM hn hst hdd hbc hbs hw (fun r μ' h => by obtain ⟨x, rfl, hx⟩ := h; exact kk x μ' hx)
theorem Cok.callSL (C : Cok l G X cc own d rt) {y : Mt} {idx n d' mc' ms' : Nat} {As stk : List Value} {Q : Int64 → Mm → Prop} (L : LkS own idx y n) (hd : decode cc pc = .ok (.invokestatic idx, 3)) (hM : AMet l G d' mc' ms' y As μ (qL Q)) (hn : As.length = n) (hst : stk = As.reverse ++ st) (hdd : d' + 1 ≤ d) (hbc : mc' ≤ bc) (hbs : ms' ≤ bs) (hw : (st.map fun v => v.category).sum ≤ 8) (kk : ∀ (x : Int64) (μ' : Mm), Q x μ' → AW l G X (bc - mc') (bs - ms') (pc + 3) lv (.long x :: st) μ') : AW l G X bc bs pc lv stk μ := C.callS L hd hM hn hst hdd hbc hbs hw (fun r μ' h => by obtain ⟨x, rfl, hx⟩ := h; exact kk x μ' hx)
theorem Cok.callSV (C : Cok l G X cc own d rt) {y : Mt} {idx n d' mc' ms' : Nat} {As stk : List Value} {Q : Mm → Prop} (L : LkS own idx y n) (hd : decode cc pc = .ok (.invokestatic idx, 3)) (hM : AMet l G d' mc' ms' y As μ (qV Q)) (hn : As.length = n) (hst : stk = As.reverse ++ st) (hdd : d' + 1 ≤ d) (hbc : mc' ≤ bc) (hbs : ms' ≤ bs) (hw : (st.map fun v => v.category).sum ≤ 8) (kk : ∀ (μ' : Mm), Q μ' → AW l G X (bc - mc') (bs - ms') (pc + 3) lv st μ') : AW l G X bc bs pc lv stk μ := C.callS L hd hM hn hst hdd hbc hbs hw (fun r μ' h => by obtain ⟨rfl, hx⟩ := h; exact kk μ' hx)
theorem Cok.callSR (C : Cok l G X cc own d rt) {y : Mt} {idx n d' mc' ms' : Nat} {As stk : List Value} {Q : Nat → Mm → Prop} (L : LkS own idx y n) (hd : decode cc pc = .ok (.invokestatic idx, 3)) (hM : AMet l G d' mc' ms' y As μ (qR G.1 Q)) (hn : As.length = n) (hst : stk = As.reverse ++ st) (hdd : d' + 1 ≤ d) (hbc : mc' ≤ bc) (hbs : ms' ≤ bs) (hw : (st.map fun v => v.category).sum ≤ 8) (kk : ∀ (x : Nat) (μ' : Mm), Q x μ' → AW l G X (bc - mc') (bs - ms') (pc + 3) lv (.ref (G.1 + x) :: st) μ') : AW l G X bc bs pc lv stk μ := C.callS L hd hM hn hst hdd hbc hbs hw (fun r μ' h => by obtain ⟨x, rfl, hx⟩ := h; exact kk x μ' hx)
theorem Cok.callIV (C : Cok l G X cc own d rt) {y : Mt} {idx n a d' mc' ms' : Nat} {As stk : List Value} {Q : Mm → Prop} (L : LkI own idx y n) (hd : decode cc pc = .ok (.invokespecial idx, 3)) (hM : AMet l G d' mc' ms' y (.ref (G.1 + a) :: As) μ (qV Q)) (hn : As.length = n) (hst : stk = As.reverse ++ .ref (G.1 + a) :: st) (hdd : d' + 1 ≤ d) (hbc : mc' ≤ bc) (hbs : ms' ≤ bs) (hw : (st.map fun v => v.category).sum ≤ 8) (kk : ∀ (μ' : Mm), Q μ' → AW l G X (bc - mc') (bs - ms') (pc + 3) lv st μ') : AW l G X bc bs pc lv stk μ := C.callI L hd hM hn hst hdd hbc hbs hw (fun r μ' h => by obtain ⟨rfl, hx⟩ := h; exact kk μ' hx)
/-- Object's own constructor -/
theorem Cok.objI (C : Cok l G X cc own d rt) {idx a : Nat} (hw : Cond.methodLink own idx Lib.objectInit ∈ lw_ok) (hd : decode cc pc = .ok (.invokespecial idx, 3)) (hdd : 1 ≤ d) (hst : (st.map fun v => v.category).sum ≤ 8) (h2 : Cond.instanceMethod Lib.objectInit ∈ lw_ok) (h3 : Cond.code Lib.objectInit ⟨#[0xb1]⟩ 1 none ∈ lw_ok) (kk : AW l G X bc bs (pc + 3) lv st μ) : AW l G X bc bs pc lv (.ref a :: st) μ := by
  intro H locs cells slots ls hR hS hc hs hl
  have hfr := C.hfr
  have hlo := C.hlo
  exact W.objInit C.hx C.hb C.hown (C.hts _ hw) (C.hts _ h2) (C.hts _ h3) (g := F0 X.2.1.1 pc ls (.ref a :: st)) rfl (hl.1.trans C.hml.symm) rfl hd (by omega) (by show 2 * 0 + _ + 12 ≤ _; omega) (kk H locs cells slots ls hR hS hc hs hl)
end AMR4
/-- a contract out of a walk -/
theorem AMet.of {l : Launch} {G : Gm} {d mc ms : Nat} {y : Mt} {As : List Value} {μ : Mm} {Q : Option Value → Mm → Prop} (hy : plainName y.1.cls = true) (hA : (lg_sl As).length ≤ y.2.2.1) (body : ∀ X : Cx, Cok l G X y.2.1 y.1.cls d y.2.2.2 → X.2.2.1 = y.2.2.1 → X.2.1.2.2.2.1.name = y.1.name → MR G X Q → AW l G X mc ms 0 (lv_args 0 As) [] μ) : AMet l G d mc ms y As μ Q := by
  refine Met.ofW (cc := y.2.1) (maxL := y.2.2.1) (ret := y.2.2.2) hy rfl ?_
  intro p e s m args below meth c s₁ B hml hv
  obtain ⟨rfl, hR, hK⟩ := hv
  have hts := atoms_spec (ws := wz y) B.pre
  have hin : meth.name = y.1.name := (name_of_methodNamed B.named B.method).1
  have C : Cok l G ((p, e, { frames := d, cells := mc, slots := ms, locals := 64 * d }, s), (m, As.toArray, below, meth, c), (y.2.2.1, MQ below (QcE G Q) As.toArray s mc ms (gA G))) y.2.1 y.1.cls d y.2.2.2 := ⟨B.exec, B.bytes, hml, findClass_of_methodNamed B.named, fun w hw => hts w (List.mem_cons_of_mem _ hw), hK, B.notSynchronized, B.returns, Nat.le_refl _, Nat.le_refl _⟩
  have hl := lv_entry As (n := y.2.2.1) hA
  rw [lg_entry_eq]
  exact body _ C rfl hin rfl s.heap [] 0 0 _ hR va_S.rf (Nat.le_of_eq (Nat.zero_add _)) (Nat.le_of_eq (Nat.zero_add _)) hl
