/-! the reference: behind a part -/

def qTop (S : Int32 → Bool) : List Int32 → List Int32 → List Int32 × List Int32
  | cs, [] => (cs, [])
  | cs, w :: ws => if S w then qTop S (cs ++ [w]) ws else (cs, w :: ws)
def mulS (w : Int32) : Bool := decide (w = nI 3) || decide (w = nI 4)
def addS (w : Int32) : Bool := decide (w = nI 3) || decide (w = nI 4) || decide (w = nI 1) || decide (w = nI 2)
def clB (b : Int32) : Bool := decide (b = nI 20) || decide (b = nI 23) || decide (b = nI 24)
/-- one closing bracket -/
def gCl1 (p : Nat) (t : Tt) (d : List Int32 × List Int32) : Tt := qEnd ((if d.2.headD 0 = nI 20 then d.1 else d.1 ++ [if d.2.headD 0 = nI 23 then nI 5 else nI 6], d.2.tail, t.1.2.2.1 - nI 1, t.1.2.2.2), (p + 1, t.2.2))
def gClose (tx : Nat → Nat) (e : Nat) : Nat → Tt → Tt
  | 0, t => (t.1, mLook tx e t.2)
  | n + 1, t => if chr tx e (sk tx e t.2.1) = nI 41 ∧ clB (qBrk t.1.2.1 t.1.2.2.2) = true then gClose tx e n (gCl1 (sk tx e t.2.1) t (qDown t.1.1 t.1.2.1 t.1.2.2.2)) else (t.1, mLook tx e t.2)
def gTk (tx : Nat → Nat) (e : Nat) (s : Ps) (a b : Int32) : Bool × Bool × Ps := if (mSign tx e s a).1 then (true, true, (mSign tx e s a).2) else ((mSign tx e (mSign tx e s a).2 b).1, false, (mSign tx e (mSign tx e s a).2 b).2)
def gBr (tx : Nat → Nat) (e : Nat) (t : Tt) : Bool × Tt :=
  if qBrk t.1.2.1 t.1.2.2.2 = nI 21 ∨ qBrk t.1.2.1 t.1.2.2.2 = nI 22 then
    (if (mAskSign tx e t.2 (nI 44)).2.2.1 = 0 then (true, (((qDown t.1.1 t.1.2.1 t.1.2.2.2).1, ((qDown t.1.1 t.1.2.1 t.1.2.2.2).2.headD 0 + nI 2) :: (qDown t.1.1 t.1.2.1 t.1.2.2.2).2.tail, t.1.2.2), mAskSign tx e t.2 (nI 44)))
     else (false, (t.1, mAskSign tx e t.2 (nI 44))))
  else if qBrk t.1.2.1 t.1.2.2.2 = -1 then (false, t) else (false, (t.1, mFail t.2 (nI 1) (nI t.2.1)))
def gPlus (tx : Nat → Nat) (e : Nat) (t : Tt) : Bool × Tt :=
  if (gTk tx e t.2 (nI 43) (nI 45)).1 then (true, (((qTop addS t.1.1 t.1.2.1).1, (if (gTk tx e t.2 (nI 43) (nI 45)).2.1 then nI 1 else nI 2) :: (qTop addS t.1.1 t.1.2.1).2, t.1.2.2), (gTk tx e t.2 (nI 43) (nI 45)).2.2))
  else gBr tx e (t.1, (gTk tx e t.2 (nI 43) (nI 45)).2.2)
def gRest (tx : Nat → Nat) (e : Nat) (t : Tt) : Bool × Tt :=
  if (gTk tx e t.2 (nI 42) (nI 47)).1 then (true, (((qTop mulS t.1.1 t.1.2.1).1, (if (gTk tx e t.2 (nI 42) (nI 47)).2.1 then nI 3 else nI 4) :: (qTop mulS t.1.1 t.1.2.1).2, t.1.2.2), (gTk tx e t.2 (nI 42) (nI 47)).2.2))
  else gPlus tx e (t.1, (gTk tx e t.2 (nI 42) (nI 47)).2.2)
def gOn (tx : Nat → Nat) (e : Nat) (t : Tt) : Bool × Tt := gRest tx e (gClose tx e (e + 1 - t.2.1) t)
theorem qTop_len (S : Int32 → Bool) : ∀ (ws cs : List Int32), (qTop S cs ws).1.length + (qTop S cs ws).2.length = cs.length + ws.length
  | [], cs => rfl
  | w :: ws, cs => by
    unfold qTop
    split
    · rw [qTop_len S ws]; simp; omega
    · rfl
theorem qDown_len : ∀ (ws cs : List Int32) (bs : Nat), (qDown cs ws bs).1.length + (qDown cs ws bs).2.length = cs.length + ws.length
  | [], cs, bs => rfl
  | w :: ws, cs, bs => by
    unfold qDown
    split
    · rw [qDown_len ws]; simp; omega
    · rfl
theorem qEnds_len : ∀ (ws cs : List Int32) (op : Int32) (bs : Nat), (qEnds cs ws op bs).1.length + (qEnds cs ws op bs).2.1.length = cs.length + ws.length
  | [], cs, op, bs => rfl
  | w :: ws, cs, op, bs => by
    unfold qEnds
    split
    · rw [qEnds_len ws]; simp; omega
    · rfl
theorem qNots_len : ∀ (ws cs : List Int32) (op : Int32), (qNots cs ws op).1.length + (qNots cs ws op).2.1.length = cs.length + ws.length
  | [], cs, op => rfl
  | w :: ws, cs, op => by
    unfold qNots
    split
    · rw [qNots_len ws]; simp; omega
    · rfl
theorem qEnd_len (t : Tt) : (qEnd t).1.1.length + (qEnd t).1.2.1.length = t.1.1.length + t.1.2.1.length := by
  unfold qEnd
  split
  · exact qEnds_len _ _ _ _
  · rfl
theorem qEnd_2 (t : Tt) : (qEnd t).2 = t.2 ∧ (qEnd t).1.2.2.2 = t.1.2.2.2 := by
  unfold qEnd
  split
  · exact ⟨rfl, rfl⟩
  · exact ⟨rfl, rfl⟩
/-- down to a bracket: it is on top then -/
theorem qDown_brk : ∀ (ws cs : List Int32) (bs : Nat), qBrk ws bs ≠ -1 → ∃ cs' ws', qDown cs ws bs = (cs', qBrk ws bs :: ws') ∧ bs ≤ ws'.length ∧ isBr (qBrk ws bs) = true
  | [], cs, bs, h => absurd rfl h
  | w :: ws, cs, bs, h => by
    unfold qBrk at h ⊢
    unfold qDown
    split at h
    · rename_i hb
      rw [if_pos hb]
      split at h
      · rename_i hw
        rw [if_pos hw, if_neg (by simp [hw])]
        exact ⟨cs, ws, rfl, hb, hw⟩
      · rename_i hw
        rw [if_neg hw, if_pos ⟨hb, by simpa using hw⟩]
        exact qDown_brk ws _ bs h
    · exact absurd rfl h
theorem on_t {p : Prop} [Decidable p] (h : ¬ bI (decide p) = 0) : p := by
  by_cases hp : p
  · exact hp
  · rw [decide_eq_false hp] at h; exact absurd rfl h
theorem on_f {p : Prop} [Decidable p] (h : bI (decide p) = 0) : ¬ p := fun hp => by
  rw [decide_eq_true hp] at h
  exact absurd h (by decide)
theorem b_t {b : Bool} (h : ¬ bI b = 0) : b = true := by cases b; exact absurd rfl h; rfl
section QMRP
variable {μ μ1 : Mm} {s : Ps}
theorem QM.rep {cs ws : List Int32} {w op : Int32} {bs : Nat} (h : QM μ μ1 (cs, w :: ws, op, bs) s) (v : Int32) : QM μ (sI μ1 256 ws.length v) (cs, v :: ws, op, bs) s := by
  have h2 := h.pop.push v
  have e1 : sI (sI (sI μ1 179 104 (nI ws.length)) 256 ws.length v) 179 104 (nI (ws.length + 1)) = sI μ1 256 ws.length v := Mm_ext (fun a k => by
    have h3 := h.2.2.1.2.1
    simp only [mI_sI]
    by_cases c : a = 179 ∧ k = 104
    · rw [if_pos c, if_neg (by omega), c.1, c.2, h3]; simp
    · rw [if_neg c, if_neg c]) rfl
  dsimp only at h2
  rw [e1] at h2
  exact h2
end QMRP
section KMQ5
variable {l : Launch} {G : Gm} {μ μ1 : Mm} {q : Qt} {s : Ps} {tx : Nat → Nat} {e : Nat}
theorem mSign_t {s : Ps} {c : Nat} (hc : c < 256) (h : (mSign tx e s (nI c)).1 = true) (hx : ∀ j, j < e → tx j < 256) : sk tx e s.1 < e ∧ tx (sk tx e s.1) = c ∧ (mSign tx e s (nI c)).2 = (sk tx e s.1 + 1, s.2) := by
  unfold mSign at h ⊢
  split at h
  · rename_i hb
    split at h
    · rename_i hcc
      rw [if_pos hb, if_pos hcc]
      have hl := chr_lt hcc (by omega)
      refine ⟨hl, ?_, rfl⟩
      unfold chr at hcc
      rw [if_pos hl] at hcc
      have := hx _ hl
      exact n_eq hcc
    · cases h
  · cases h
theorem mSign_f {s : Ps} {c : Int32} (hz : s.2.2.1 = 0) (h : (mSign tx e s c).1 = false) : (mSign tx e s c).2 = mLook tx e s := by
  unfold mSign at h ⊢
  rw [if_pos hz] at h ⊢
  split at h
  · cases h
  · rename_i hc
    rw [if_neg hc]
theorem kq_on (hS : ShM μ) (hT : TxM μ tx e) (hQ : QM μ μ1 q s) (hz : s.2.2.1 = 0) (hp : s.1 ≤ e) (hl : q.1.length + q.2.1.length < 1690) (hbs : q.2.2.2 < 1700) : AMet l G 3 0 0 mtX13_qGoesOn [.ref (G.1 + 179)] μ1 (qI (fun x μ' => x = bI (gOn tx e (q, s)).1 ∧ QM μ μ' (gOn tx e (q, s)).2.1 (gOn tx e (q, s)).2.2)) := by
  refine AMet.of (by decide) (Nat.le_of_ble_eq_true rfl) (fun X C hX hnm hq => ?_)
  have hS1 := hS
  have he := hT.2.1
  have hx : ∀ j, j < e → tx j < 256 := fun j hj => (hT.2.2 j hj).2
  generalize hK : gOn tx e (q, s) = K at hq
  -- 308: no sign
  have m308 : ∀ (t : Tt) (μ1 : Mm), QM μ μ1 t.1 t.2 → t.2.2.2.1 = 0 → t.2.1 ≤ e → t.1.1.length + t.1.2.1.length < 1690 → t.1.2.2.2 < 1700 → gBr tx e t = K → AW l G X 0 0 308 [(0, .ref (G.1 + 179))] [] μ1 := by
    intro t μ1 hQ hz hp hl hbs hk
    obtain ⟨⟨cs, ws, op, bs⟩, s⟩ := t
    dsimp only at hQ hz hp hl hbs
    have hS : ShM μ1 := hQ.sh hS1
    unfold gBr at hk
    dsimp only at hk
    have m326 : ∀ w : Int32, qBrk ws bs = w → w = nI 21 ∨ w = nI 22 → AW l G X 0 0 326 [(0, .ref (G.1 + 179))] [] μ1 := by
      intro w hw hww
      rw [if_pos (by rw [hw]; exact hww)] at hk
      obtain ⟨cs', ws', hd, hb', -⟩ := qDown_brk ws cs bs (by rw [hw]; rcases hww with h | h <;> rw [h] <;> decide)
      have hln := qDown_len ws cs bs
      rw [hd, hw] at hln
      simp only [List.length_cons] at hln
      by_cases hz2 : (mAskSign tx e s (nI 44)).2.2.1 = 0
      · rw [if_pos hz2, hd, hw] at hk
        refine C.aload_n dX13_qGoesOn_326 0 rfl ?_
        refine C.bipush (nI 44) dX13_qGoesOn_327 (by decide) ?_
        refine C.callVV lX13_344 dX13_qGoesOn_329 (kq_asksSign hS1 hT hQ hp _) hS.o rfl rfl (Nat.le_of_ble_eq_true rfl) (Nat.zero_le _) (Nat.zero_le _) (Nat.le_of_ble_eq_true rfl) (fun μ329 h329 => ?_)
        have hS : ShM μ329 := h329.sh hS1
        refine C.aload_n dX13_qGoesOn_332 0 rfl ?_
        refine C.getI fX13_264 dX13_qGoesOn_333 hS.o ?_
        rw [h329.2.1.2.2.1]
        refine C.if_eq 341 dX13_qGoesOn_336 rfl (fun hc336 => ?_) (fun hc336 => ?_)
        · refine C.aload_n dX13_qGoesOn_341 0 rfl ?_
          refine C.callVV lX13_638 dX13_qGoesOn_342 (kq_qDown hS1 h329 (by dsimp only; omega) hbs) hS.o rfl rfl (Nat.le_of_ble_eq_true rfl) (Nat.zero_le _) (Nat.zero_le _) (Nat.le_of_ble_eq_true rfl) (fun μ342 h342 => ?_)
          have h4 : QM μ μ342 (cs', w :: ws', op, bs) (mAskSign tx e s (nI 44)) := by have := h342; dsimp only at this; rw [hd, hw] at this; exact this
          have hS : ShM μ342 := h4.sh hS1
          refine C.aload_n dX13_qGoesOn_345 0 rfl ?_
          refine C.getA fX13_252 dX13_qGoesOn_346 hS.o hS.r103 ?_
          refine C.aload_n dX13_qGoesOn_349 0 rfl ?_
          refine C.getI fX13_358 dX13_qGoesOn_350 hS.o ?_
          rw [h4.2.2.1.2.1]
          refine C.iconst (nI 1) dX13_qGoesOn_353 (by decide) ?_
          refine C.isub dX13_qGoesOn_354 ?_
          rw [pk_sub (by simp), List.length_cons, Nat.add_sub_cancel]
          refine C.dup2 dX13_qGoesOn_355 rfl rfl ?_
          refine C.iald hS.a103 (n_in (by omega)) dX13_qGoesOn_356 ?_
          rw [n_cl, h4.top]
          refine C.iconst (nI 2) dX13_qGoesOn_357 (by decide) ?_
          refine C.iadd dX13_qGoesOn_358 ?_
          refine C.iast hS.a103 (n_in (by omega)) dX13_qGoesOn_359 ?_
          refine C.iconst (nI 1) dX13_qGoesOn_360 (by decide) ?_
          refine C.zret hq dX13_qGoesOn_361 (by decide) ?_
          rw [← hk]
          refine ⟨rfl, ?_⟩
          rw [n_cl]
          exact h4.rep _
        · exact absurd hz2 hc336
      · rw [if_neg hz2] at hk
        refine C.aload_n dX13_qGoesOn_326 0 rfl ?_
        refine C.bipush (nI 44) dX13_qGoesOn_327 (by decide) ?_
        refine C.callVV lX13_344 dX13_qGoesOn_329 (kq_asksSign hS1 hT hQ hp _) hS.o rfl rfl (Nat.le_of_ble_eq_true rfl) (Nat.zero_le _) (Nat.zero_le _) (Nat.le_of_ble_eq_true rfl) (fun μ329 h329 => ?_)
        have hS : ShM μ329 := h329.sh hS1
        refine C.aload_n dX13_qGoesOn_332 0 rfl ?_
        refine C.getI fX13_264 dX13_qGoesOn_333 hS.o ?_
        rw [h329.2.1.2.2.1]
        refine C.if_eq 341 dX13_qGoesOn_336 rfl (fun hc336 => ?_) (fun hc336 => ?_)
        · exact absurd hc336 hz2
        · refine C.iconst (nI 0) dX13_qGoesOn_339 (by decide) ?_
          refine C.zret hq dX13_qGoesOn_340 (by decide) ?_
          rw [← hk]
          exact ⟨rfl, h329⟩
    refine C.aload_n dX13_qGoesOn_308 0 rfl ?_
    refine C.callVI lX13_635 dX13_qGoesOn_309 (kq_qBracket hS1 hQ (by dsimp only; omega) hbs) hS.o rfl rfl (Nat.le_of_ble_eq_true rfl) (Nat.zero_le _) (Nat.zero_le _) (Nat.le_of_ble_eq_true rfl) (fun x309 μ309 h309 => ?_)
    obtain ⟨rfl, hμ⟩ := h309
    subst hμ
    refine C.bipush (nI 21) dX13_qGoesOn_312 (by decide) ?_
    refine C.icmp_eq 326 dX13_qGoesOn_314 rfl (fun hc314 => ?_) (fun hc314 => ?_)
    · exact m326 _ rfl (Or.inl hc314)
    · refine C.aload_n dX13_qGoesOn_317 0 rfl ?_
      refine C.callVI lX13_635 dX13_qGoesOn_318 (kq_qBracket hS1 hQ (by dsimp only; omega) hbs) hS.o rfl rfl (Nat.le_of_ble_eq_true rfl) (Nat.zero_le _) (Nat.zero_le _) (Nat.le_of_ble_eq_true rfl) (fun x318 μ318 h318 => ?_)
      obtain ⟨rfl, hμ⟩ := h318
      subst hμ
      refine C.bipush (nI 22) dX13_qGoesOn_321 (by decide) ?_
      refine C.icmp_ne 362 dX13_qGoesOn_323 rfl (fun hc323 => ?_) (fun hc323 => ?_)
      · rw [if_neg (fun h => h.elim hc314 hc323)] at hk
        refine C.aload_n dX13_qGoesOn_362 0 rfl ?_
        refine C.callVI lX13_635 dX13_qGoesOn_363 (kq_qBracket hS1 hQ (by dsimp only; omega) hbs) hS.o rfl rfl (Nat.le_of_ble_eq_true rfl) (Nat.zero_le _) (Nat.zero_le _) (Nat.le_of_ble_eq_true rfl) (fun x363 μ363 h363 => ?_)
        obtain ⟨rfl, hμ⟩ := h363
        subst hμ
        refine C.iconst (-1) dX13_qGoesOn_366 (by decide) ?_
        refine C.icmp_eq 386 dX13_qGoesOn_367 rfl (fun hc367 => ?_) (fun hc367 => ?_)
        · rw [if_pos hc367] at hk
          refine C.iconst (nI 0) dX13_qGoesOn_386 (by decide) ?_
          refine C.zret hq dX13_qGoesOn_387 (by decide) ?_
          rw [← hk]
          first | exact ⟨rfl, hQ⟩ | exact ⟨rfl, h383⟩
        · rw [if_neg hc367] at hk
          refine C.aload_n dX13_qGoesOn_370 0 rfl ?_
          refine C.getI fX13_264 dX13_qGoesOn_371 hS.o ?_
          rw [hQ.2.1.2.2.1]
          refine C.if_ne 386 dX13_qGoesOn_374 rfl (fun hc374 => ?_) (fun hc374 => ?_)
          · exact absurd hz hc374
          · refine C.aload_n dX13_qGoesOn_377 0 rfl ?_
            refine C.iconst (nI 1) dX13_qGoesOn_378 (by decide) ?_
            refine C.aload_n dX13_qGoesOn_379 0 rfl ?_
            refine C.getI fX13_270 dX13_qGoesOn_380 hS.o ?_
            rw [hQ.2.1.1]
            refine C.callVV lX13_294 dX13_qGoesOn_383 (kq_fail hS1 hQ _ _) hS.o rfl rfl (Nat.le_of_ble_eq_true rfl) (Nat.zero_le _) (Nat.zero_le _) (Nat.le_of_ble_eq_true rfl) (fun μ383 h383 => ?_)
            refine C.iconst (nI 0) dX13_qGoesOn_386 (by decide) ?_
            refine C.zret hq dX13_qGoesOn_387 (by decide) ?_
            rw [← hk]
            first | exact ⟨rfl, hQ⟩ | exact ⟨rfl, h383⟩
      · exact m326 _ rfl (Or.inr hc323)
  -- 207: plus or less
  have m207 : ∀ (t : Tt) (μ1 : Mm), QM μ μ1 t.1 t.2 → t.2.2.2.1 = 0 → t.2.1 ≤ e → t.1.1.length + t.1.2.1.length < 1690 → t.1.2.2.2 < 1700 → gPlus tx e t = K → AW l G X 0 0 207 [(0, .ref (G.1 + 179))] [] μ1 := by
    intro t μ1 hQ hz hp hl hbs hk
    obtain ⟨⟨cs0, ws0, op, bs⟩, s⟩ := t
    dsimp only at hQ hz hp hl hbs
    unfold gPlus at hk
    dsimp only at hk
    have hsk := sk_le (tx := tx) hp
    have m286 : ∀ (wh : Int32) (s2 : Ps) (cs ws : List Int32) (μ1 : Mm), QM μ μ1 (cs, ws, op, bs) s2 → cs.length + ws.length < 1690 → (true, ((cs, wh :: ws, op, bs), s2)) = K → AW l G X 0 0 286 [(0, .ref (G.1 + 179)), (1, .int wh)] [] μ1 := by
      intro wh s2 cs ws μ1 hQ hl hk
      have hS : ShM μ1 := hQ.sh hS1
      have hw : mI μ1 179 104 = nI ws.length := hQ.2.2.1.2.1
      refine C.aload_n dX13_qGoesOn_286 0 rfl ?_
      refine C.getA fX13_252 dX13_qGoesOn_287 hS.o hS.r103 ?_
      refine C.aload_n dX13_qGoesOn_290 0 rfl ?_
      refine C.getI fX13_358 dX13_qGoesOn_291 hS.o ?_
      rw [hw]
      refine C.iload_n dX13_qGoesOn_294 1 rfl ?_
      refine C.iast hS.a103 (n_in (by omega)) dX13_qGoesOn_295 ?_
      rw [n_cl]
      refine C.aload_n dX13_qGoesOn_296 0 rfl ?_
      refine C.dup dX13_qGoesOn_297 rfl ?_
      refine C.getI fX13_358 dX13_qGoesOn_298 hS.o ?_
      rw [show mI (sI μ1 256 ws.length wh) 179 104 = nI ws.length from hw]
      refine C.iconst (nI 1) dX13_qGoesOn_301 (by decide) ?_
      refine C.iadd dX13_qGoesOn_302 ?_
      rw [nI_add]
      refine C.putI fX13_358 (Or.inl rfl) dX13_qGoesOn_303 hS.o ?_
      refine C.iconst (nI 1) dX13_qGoesOn_306 (by decide) ?_
      refine C.zret hq dX13_qGoesOn_307 (by decide) ?_
      rw [← hk]
      exact ⟨rfl, hQ.push wh⟩
    have lp : ∀ (wh : Int32) (s2 : Ps) (ws cs : List Int32) (μ1 : Mm), QM μ μ1 (cs, ws, op, bs) s2 → cs.length + ws.length < 1690 → (true, (((qTop addS cs ws).1, wh :: (qTop addS cs ws).2, op, bs), s2)) = K → AW l G X 0 0 247 [(0, .ref (G.1 + 179)), (1, .int wh)] [] μ1 := by
      intro wh s2 ws
      induction ws with
      | nil =>
        intro cs μ1 hQ hl hk
        have hS : ShM μ1 := hQ.sh hS1
        refine C.aload_n dX13_qGoesOn_247 0 rfl ?_
        refine C.iconst (nI 3) dX13_qGoesOn_248 (by decide) ?_
        refine C.callVI lX13_641 dX13_qGoesOn_249 (kq_qIsOn hS1 hQ (by simp) _) hS.o rfl rfl (Nat.le_of_ble_eq_true rfl) (Nat.zero_le _) (Nat.zero_le _) (Nat.le_of_ble_eq_true rfl) (fun x249 μ249 h249 => ?_)
        obtain ⟨rfl, hμ⟩ := h249
        subst hμ
        refine C.if_ne 279 dX13_qGoesOn_252 rfl (fun hc252 => ?_) (fun hc252 => ?_)
        · exact absurd (on_t hc252) (by simp)
        · refine C.aload_n dX13_qGoesOn_255 0 rfl ?_
          refine C.iconst (nI 4) dX13_qGoesOn_256 (by decide) ?_
          refine C.callVI lX13_641 dX13_qGoesOn_257 (kq_qIsOn hS1 hQ (by simp) _) hS.o rfl rfl (Nat.le_of_ble_eq_true rfl) (Nat.zero_le _) (Nat.zero_le _) (Nat.le_of_ble_eq_true rfl) (fun x257 μ257 h257 => ?_)
          obtain ⟨rfl, hμ⟩ := h257
          subst hμ
          refine C.if_ne 279 dX13_qGoesOn_260 rfl (fun hc260 => ?_) (fun hc260 => ?_)
          · exact absurd (on_t hc260) (by simp)
          · refine C.aload_n dX13_qGoesOn_263 0 rfl ?_
            refine C.iconst (nI 1) dX13_qGoesOn_264 (by decide) ?_
            refine C.callVI lX13_641 dX13_qGoesOn_265 (kq_qIsOn hS1 hQ (by simp) _) hS.o rfl rfl (Nat.le_of_ble_eq_true rfl) (Nat.zero_le _) (Nat.zero_le _) (Nat.le_of_ble_eq_true rfl) (fun x265 μ265 h265 => ?_)
            obtain ⟨rfl, hμ⟩ := h265
            subst hμ
            refine C.if_ne 279 dX13_qGoesOn_268 rfl (fun hc268 => ?_) (fun hc268 => ?_)
            · exact absurd (on_t hc268) (by simp)
            · refine C.aload_n dX13_qGoesOn_271 0 rfl ?_
              refine C.iconst (nI 2) dX13_qGoesOn_272 (by decide) ?_
              refine C.callVI lX13_641 dX13_qGoesOn_273 (kq_qIsOn hS1 hQ (by simp) _) hS.o rfl rfl (Nat.le_of_ble_eq_true rfl) (Nat.zero_le _) (Nat.zero_le _) (Nat.le_of_ble_eq_true rfl) (fun x273 μ273 h273 => ?_)
              obtain ⟨rfl, hμ⟩ := h273
              subst hμ
              refine C.if_eq 286 dX13_qGoesOn_276 rfl (fun hc276 => ?_) (fun hc276 => ?_)
              · exact m286 _ _ _ _ _ hQ hl hk
              · exact absurd (on_t hc276) (by simp)
      | cons w ws ih =>
        intro cs μ1 hQ hl hk
        have hS : ShM μ1 := hQ.sh hS1
        simp only [List.length_cons] at hl
        have m279 : addS w = true → AW l G X 0 0 279 [(0, .ref (G.1 + 179)), (1, .int wh)] [] μ1 := by
          intro hs
          unfold qTop at hk
          rw [if_pos hs] at hk
          refine C.aload_n dX13_qGoesOn_279 0 rfl ?_
          refine C.callVV lX13_614 dX13_qGoesOn_280 (kq_qDrops hS1 hQ (by omega) (by omega)) hS.o rfl rfl (Nat.le_of_ble_eq_true rfl) (Nat.zero_le _) (Nat.zero_le _) (Nat.le_of_ble_eq_true rfl) (fun μ280 h280 => ?_)
          refine C.goto 247 dX13_qGoesOn_283 rfl ?_
          exact ih _ _ h280 (by simp; omega) hk
        refine C.aload_n dX13_qGoesOn_247 0 rfl ?_
        refine C.iconst (nI 3) dX13_qGoesOn_248 (by decide) ?_
        refine C.callVI lX13_641 dX13_qGoesOn_249 (kq_qIsOn hS1 hQ (by simp; omega) _) hS.o rfl rfl (Nat.le_of_ble_eq_true rfl) (Nat.zero_le _) (Nat.zero_le _) (Nat.le_of_ble_eq_true rfl) (fun x249 μ249 h249 => ?_)
        obtain ⟨rfl, hμ⟩ := h249
        subst hμ
        refine C.if_ne 279 dX13_qGoesOn_252 rfl (fun hc252 => ?_) (fun hc252 => ?_)
        · exact m279 (by have := on_t hc252; simp at this; simp [addS, this])
        · refine C.aload_n dX13_qGoesOn_255 0 rfl ?_
          refine C.iconst (nI 4) dX13_qGoesOn_256 (by decide) ?_
          refine C.callVI lX13_641 dX13_qGoesOn_257 (kq_qIsOn hS1 hQ (by simp; omega) _) hS.o rfl rfl (Nat.le_of_ble_eq_true rfl) (Nat.zero_le _) (Nat.zero_le _) (Nat.le_of_ble_eq_true rfl) (fun x257 μ257 h257 => ?_)
          obtain ⟨rfl, hμ⟩ := h257
          subst hμ
          refine C.if_ne 279 dX13_qGoesOn_260 rfl (fun hc260 => ?_) (fun hc260 => ?_)
          · exact m279 (by have := on_t hc260; simp at this; simp [addS, this])
          · refine C.aload_n dX13_qGoesOn_263 0 rfl ?_
            refine C.iconst (nI 1) dX13_qGoesOn_264 (by decide) ?_
            refine C.callVI lX13_641 dX13_qGoesOn_265 (kq_qIsOn hS1 hQ (by simp; omega) _) hS.o rfl rfl (Nat.le_of_ble_eq_true rfl) (Nat.zero_le _) (Nat.zero_le _) (Nat.le_of_ble_eq_true rfl) (fun x265 μ265 h265 => ?_)
            obtain ⟨rfl, hμ⟩ := h265
            subst hμ
            refine C.if_ne 279 dX13_qGoesOn_268 rfl (fun hc268 => ?_) (fun hc268 => ?_)
            · exact m279 (by have := on_t hc268; simp at this; simp [addS, this])
            · refine C.aload_n dX13_qGoesOn_271 0 rfl ?_
              refine C.iconst (nI 2) dX13_qGoesOn_272 (by decide) ?_
              refine C.callVI lX13_641 dX13_qGoesOn_273 (kq_qIsOn hS1 hQ (by simp; omega) _) hS.o rfl rfl (Nat.le_of_ble_eq_true rfl) (Nat.zero_le _) (Nat.zero_le _) (Nat.le_of_ble_eq_true rfl) (fun x273 μ273 h273 => ?_)
              obtain ⟨rfl, hμ⟩ := h273
              subst hμ
              refine C.if_eq 286 dX13_qGoesOn_276 rfl (fun hc276 => ?_) (fun hc276 => ?_)
              · have hs : ¬ addS w = true := by have h1 := on_f hc252; have h2 := on_f hc260; have h3 := on_f hc268; have h4 := on_f hc276; simp at h1 h2 h3 h4; simp [addS, h1, h2, h3, h4]
                unfold qTop at hk
                rw [if_neg hs] at hk
                exact m286 _ _ _ _ _ hQ (by simp; omega) hk
              · exact m279 (by have := on_t hc276; simp at this; simp [addS, this])
    have m225 : ∀ (p : Nat) (v : Nat) (s2 : Ps) (μ1 : Mm), QM μ μ1 (cs0, ws0, op, bs) s2 → s2.1 = p + 1 → p < e → tx p = v → v < 256 → (true, (((qTop addS cs0 ws0).1, (if v = 43 then nI 1 else nI 2) :: (qTop addS cs0 ws0).2, op, bs), s2)) = K → AW l G X 0 0 225 [(0, .ref (G.1 + 179))] [] μ1 := by
      intro p v s2 μ1 hQ hp2 hpe htx hv hk
      have hS : ShM μ1 := hQ.sh hS1
      have ha := hQ.2.1.1
      have htp : mI μ1 180 p = nI v := by rw [((hQ.txm hT).2.2 p hpe).1, htx]
      rw [hp2] at ha
      refine C.aload_n dX13_qGoesOn_225 0 rfl ?_
      refine C.getA fX13_7 dX13_qGoesOn_226 hS.o hS.r0 ?_
      refine C.aload_n dX13_qGoesOn_229 0 rfl ?_
      refine C.getI fX13_270 dX13_qGoesOn_230 hS.o ?_
      rw [ha]
      refine C.iconst (nI 1) dX13_qGoesOn_233 (by decide) ?_
      refine C.isub dX13_qGoesOn_234 ?_
      rw [pk_sub (by omega), Nat.add_sub_cancel]
      refine C.iald hS.a0 (n_in (by omega)) dX13_qGoesOn_235 ?_
      rw [n_cl, htp]
      refine C.bipush (nI 43) dX13_qGoesOn_236 (by decide) ?_
      refine C.icmp_ne 245 dX13_qGoesOn_238 rfl (fun hc238 => ?_) (fun hc238 => ?_)
      · rw [if_neg (n_ne hc238)] at hk
        refine C.iconst (nI 2) dX13_qGoesOn_245 (by decide) ?_
        refine C.istore_n (lv' := [(0, _), (1, _)]) dX13_qGoesOn_246 (nLt hX rfl) rfl ?_
        exact lp _ _ _ _ _ hQ hl hk
      · rw [if_pos (n_eq hc238)] at hk
        refine C.iconst (nI 1) dX13_qGoesOn_241 (by decide) ?_
        refine C.goto 246 dX13_qGoesOn_242 rfl ?_
        refine C.istore_n (lv' := [(0, _), (1, _)]) dX13_qGoesOn_246 (nLt hX rfl) rfl ?_
        exact lp _ _ _ _ _ hQ hl hk
    have hS : ShM μ1 := hQ.sh hS1
    refine C.aload_n dX13_qGoesOn_207 0 rfl ?_
    refine C.bipush (nI 43) dX13_qGoesOn_208 (by decide) ?_
    refine C.callVI lX13_298 dX13_qGoesOn_210 (kq_sign hS1 hT hQ hp _) hS.o rfl rfl (Nat.le_of_ble_eq_true rfl) (Nat.zero_le _) (Nat.zero_le _) (Nat.le_of_ble_eq_true rfl) (fun x210 μ210 h210 => ?_)
    obtain ⟨rfl, hQ2⟩ := h210
    have hS : ShM μ210 := hQ2.sh hS1
    refine C.if_ne 225 dX13_qGoesOn_213 rfl (fun hc213 => ?_) (fun hc213 => ?_)
    · have hb := b_t hc213
      obtain ⟨g1, g2, g3⟩ := mSign_t (by decide) hb hx
      have hg : gTk tx e s (nI 43) (nI 45) = (true, true, (mSign tx e s (nI 43)).2) := by unfold gTk; rw [if_pos hb]
      rw [hg] at hk
      exact m225 (sk tx e s.1) 43 _ _ hQ2 (by rw [g3]) g1 g2 (by decide) (by simpa using hk)
    · have hb := (bI_0 _).mp hc213
      have hsf := mSign_f hz hb
      rw [hsf] at hQ2
      have hp2 : (mLook tx e s).1 ≤ e := hsk.2
      refine C.aload_n dX13_qGoesOn_216 0 rfl ?_
      refine C.bipush (nI 45) dX13_qGoesOn_217 (by decide) ?_
      refine C.callVI lX13_298 dX13_qGoesOn_219 (kq_sign hS1 hT hQ2 hp2 _) hS.o rfl rfl (Nat.le_of_ble_eq_true rfl) (Nat.zero_le _) (Nat.zero_le _) (Nat.le_of_ble_eq_true rfl) (fun x219 μ219 h219 => ?_)
      obtain ⟨rfl, hQ3⟩ := h219
      have hS : ShM μ219 := hQ3.sh hS1
      refine C.if_eq 308 dX13_qGoesOn_222 rfl (fun hc222 => ?_) (fun hc222 => ?_)
      · have hb2 := (bI_0 _).mp hc222
        have hsf2 := mSign_f (s := mLook tx e s) hz hb2
        have hg : gTk tx e s (nI 43) (nI 45) = (false, false, mLook tx e (mLook tx e s)) := by unfold gTk; rw [hb, hsf, hb2, hsf2]; rfl
        rw [hg] at hk
        rw [hsf2] at hQ3
        exact m308 ((cs0, ws0, op, bs), mLook tx e (mLook tx e s)) _ hQ3 hz ((sk_le hp2).2) hl hbs (by simpa using hk)
      · have hb2 := b_t hc222
        obtain ⟨g1, g2, g3⟩ := mSign_t (by decide) hb2 hx
        have hg : gTk tx e s (nI 43) (nI 45) = (true, false, (mSign tx e (mLook tx e s) (nI 45)).2) := by unfold gTk; rw [hb, hsf, hb2]; rfl
        rw [hg] at hk
        exact m225 _ 45 _ _ hQ3 (by rw [g3]) g1 g2 (by decide) (by simpa using hk)
  -- 122: times or by
  have m122 : ∀ (t : Tt) (μ1 : Mm), QM μ μ1 t.1 t.2 → t.2.2.2.1 = 0 → t.2.1 ≤ e → t.1.1.length + t.1.2.1.length < 1690 → t.1.2.2.2 < 1700 → gRest tx e t = K → AW l G X 0 0 122 [(0, .ref (G.1 + 179))] [] μ1 := by
    intro t μ1 hQ hz hp hl hbs hk
    obtain ⟨⟨cs0, ws0, op, bs⟩, s⟩ := t
    dsimp only at hQ hz hp hl hbs
    unfold gRest at hk
    dsimp only at hk
    have hsk := sk_le (tx := tx) hp
    have m185 : ∀ (wh : Int32) (s2 : Ps) (cs ws : List Int32) (μ1 : Mm), QM μ μ1 (cs, ws, op, bs) s2 → cs.length + ws.length < 1690 → (true, ((cs, wh :: ws, op, bs), s2)) = K → AW l G X 0 0 185 [(0, .ref (G.1 + 179)), (1, .int wh)] [] μ1 := by
      intro wh s2 cs ws μ1 hQ hl hk
      have hS : ShM μ1 := hQ.sh hS1
      have hw : mI μ1 179 104 = nI ws.length := hQ.2.2.1.2.1
      refine C.aload_n dX13_qGoesOn_185 0 rfl ?_
      refine C.getA fX13_252 dX13_qGoesOn_186 hS.o hS.r103 ?_
      refine C.aload_n dX13_qGoesOn_189 0 rfl ?_
      refine C.getI fX13_358 dX13_qGoesOn_190 hS.o ?_
      rw [hw]
      refine C.iload_n dX13_qGoesOn_193 1 rfl ?_
      refine C.iast hS.a103 (n_in (by omega)) dX13_qGoesOn_194 ?_
      rw [n_cl]
      refine C.aload_n dX13_qGoesOn_195 0 rfl ?_
      refine C.dup dX13_qGoesOn_196 rfl ?_
      refine C.getI fX13_358 dX13_qGoesOn_197 hS.o ?_
      rw [show mI (sI μ1 256 ws.length wh) 179 104 = nI ws.length from hw]
      refine C.iconst (nI 1) dX13_qGoesOn_200 (by decide) ?_
      refine C.iadd dX13_qGoesOn_201 ?_
      rw [nI_add]
      refine C.putI fX13_358 (Or.inl rfl) dX13_qGoesOn_202 hS.o ?_
      refine C.iconst (nI 1) dX13_qGoesOn_205 (by decide) ?_
      refine C.zret hq dX13_qGoesOn_206 (by decide) ?_
      rw [← hk]
      exact ⟨rfl, hQ.push wh⟩
    have lp : ∀ (wh : Int32) (s2 : Ps) (ws cs : List Int32) (μ1 : Mm), QM μ μ1 (cs, ws, op, bs) s2 → cs.length + ws.length < 1690 → (true, (((qTop mulS cs ws).1, wh :: (qTop mulS cs ws).2, op, bs), s2)) = K → AW l G X 0 0 162 [(0, .ref (G.1 + 179)), (1, .int wh)] [] μ1 := by
      intro wh s2 ws
      induction ws with
      | nil =>
        intro cs μ1 hQ hl hk
        have hS : ShM μ1 := hQ.sh hS1
        refine C.aload_n dX13_qGoesOn_162 0 rfl ?_
        refine C.iconst (nI 3) dX13_qGoesOn_163 (by decide) ?_
        refine C.callVI lX13_641 dX13_qGoesOn_164 (kq_qIsOn hS1 hQ (by simp) _) hS.o rfl rfl (Nat.le_of_ble_eq_true rfl) (Nat.zero_le _) (Nat.zero_le _) (Nat.le_of_ble_eq_true rfl) (fun x164 μ164 h164 => ?_)
        obtain ⟨rfl, hμ⟩ := h164
        subst hμ
        refine C.if_ne 178 dX13_qGoesOn_167 rfl (fun hc167 => ?_) (fun hc167 => ?_)
        · exact absurd (on_t hc167) (by simp)
        · refine C.aload_n dX13_qGoesOn_170 0 rfl ?_
          refine C.iconst (nI 4) dX13_qGoesOn_171 (by decide) ?_
          refine C.callVI lX13_641 dX13_qGoesOn_172 (kq_qIsOn hS1 hQ (by simp) _) hS.o rfl rfl (Nat.le_of_ble_eq_true rfl) (Nat.zero_le _) (Nat.zero_le _) (Nat.le_of_ble_eq_true rfl) (fun x172 μ172 h172 => ?_)
          obtain ⟨rfl, hμ⟩ := h172
          subst hμ
          refine C.if_eq 185 dX13_qGoesOn_175 rfl (fun hc175 => ?_) (fun hc175 => ?_)
          · exact m185 _ _ _ _ _ hQ hl hk
          · exact absurd (on_t hc175) (by simp)
      | cons w ws ih =>
        intro cs μ1 hQ hl hk
        have hS : ShM μ1 := hQ.sh hS1
        simp only [List.length_cons] at hl
        have m178 : mulS w = true → AW l G X 0 0 178 [(0, .ref (G.1 + 179)), (1, .int wh)] [] μ1 := by
          intro hs
          unfold qTop at hk
          rw [if_pos hs] at hk
          refine C.aload_n dX13_qGoesOn_178 0 rfl ?_
          refine C.callVV lX13_614 dX13_qGoesOn_179 (kq_qDrops hS1 hQ (by omega) (by omega)) hS.o rfl rfl (Nat.le_of_ble_eq_true rfl) (Nat.zero_le _) (Nat.zero_le _) (Nat.le_of_ble_eq_true rfl) (fun μ179 h179 => ?_)
          refine C.goto 162 dX13_qGoesOn_182 rfl ?_
          exact ih _ _ h179 (by simp; omega) hk
        refine C.aload_n dX13_qGoesOn_162 0 rfl ?_
        refine C.iconst (nI 3) dX13_qGoesOn_163 (by decide) ?_
        refine C.callVI lX13_641 dX13_qGoesOn_164 (kq_qIsOn hS1 hQ (by simp; omega) _) hS.o rfl rfl (Nat.le_of_ble_eq_true rfl) (Nat.zero_le _) (Nat.zero_le _) (Nat.le_of_ble_eq_true rfl) (fun x164 μ164 h164 => ?_)
        obtain ⟨rfl, hμ⟩ := h164
        subst hμ
        refine C.if_ne 178 dX13_qGoesOn_167 rfl (fun hc167 => ?_) (fun hc167 => ?_)
        · exact m178 (by have := on_t hc167; simp at this; simp [mulS, this])
        · refine C.aload_n dX13_qGoesOn_170 0 rfl ?_
          refine C.iconst (nI 4) dX13_qGoesOn_171 (by decide) ?_
          refine C.callVI lX13_641 dX13_qGoesOn_172 (kq_qIsOn hS1 hQ (by simp; omega) _) hS.o rfl rfl (Nat.le_of_ble_eq_true rfl) (Nat.zero_le _) (Nat.zero_le _) (Nat.le_of_ble_eq_true rfl) (fun x172 μ172 h172 => ?_)
          obtain ⟨rfl, hμ⟩ := h172
          subst hμ
          refine C.if_eq 185 dX13_qGoesOn_175 rfl (fun hc175 => ?_) (fun hc175 => ?_)
          · have hs : ¬ mulS w = true := by have h1 := on_f hc167; have h2 := on_f hc175; simp at h1 h2; simp [mulS, h1, h2]
            unfold qTop at hk
            rw [if_neg hs] at hk
            exact m185 _ _ _ _ _ hQ (by simp; omega) hk
          · exact m178 (by have := on_t hc175; simp at this; simp [mulS, this])
    have m140 : ∀ (p : Nat) (v : Nat) (s2 : Ps) (μ1 : Mm), QM μ μ1 (cs0, ws0, op, bs) s2 → s2.1 = p + 1 → p < e → tx p = v → v < 256 → (true, (((qTop mulS cs0 ws0).1, (if v = 42 then nI 3 else nI 4) :: (qTop mulS cs0 ws0).2, op, bs), s2)) = K → AW l G X 0 0 140 [(0, .ref (G.1 + 179))] [] μ1 := by
      intro p v s2 μ1 hQ hp2 hpe htx hv hk
      have hS : ShM μ1 := hQ.sh hS1
      have ha := hQ.2.1.1
      have htp : mI μ1 180 p = nI v := by rw [((hQ.txm hT).2.2 p hpe).1, htx]
      rw [hp2] at ha
      refine C.aload_n dX13_qGoesOn_140 0 rfl ?_
      refine C.getA fX13_7 dX13_qGoesOn_141 hS.o hS.r0 ?_
      refine C.aload_n dX13_qGoesOn_144 0 rfl ?_
      refine C.getI fX13_270 dX13_qGoesOn_145 hS.o ?_
      rw [ha]
      refine C.iconst (nI 1) dX13_qGoesOn_148 (by decide) ?_
      refine C.isub dX13_qGoesOn_149 ?_
      rw [pk_sub (by omega), Nat.add_sub_cancel]
      refine C.iald hS.a0 (n_in (by omega)) dX13_qGoesOn_150 ?_
      rw [n_cl, htp]
      refine C.bipush (nI 42) dX13_qGoesOn_151 (by decide) ?_
      refine C.icmp_ne 160 dX13_qGoesOn_153 rfl (fun hc153 => ?_) (fun hc153 => ?_)
      · rw [if_neg (n_ne hc153)] at hk
        refine C.iconst (nI 4) dX13_qGoesOn_160 (by decide) ?_
        refine C.istore_n (lv' := [(0, _), (1, _)]) dX13_qGoesOn_161 (nLt hX rfl) rfl ?_
        exact lp _ _ _ _ _ hQ hl hk
      · rw [if_pos (n_eq hc153)] at hk
        refine C.iconst (nI 3) dX13_qGoesOn_156 (by decide) ?_
        refine C.goto 161 dX13_qGoesOn_157 rfl ?_
        refine C.istore_n (lv' := [(0, _), (1, _)]) dX13_qGoesOn_161 (nLt hX rfl) rfl ?_
        exact lp _ _ _ _ _ hQ hl hk
    have hS : ShM μ1 := hQ.sh hS1
    refine C.aload_n dX13_qGoesOn_122 0 rfl ?_
    refine C.bipush (nI 42) dX13_qGoesOn_123 (by decide) ?_
    refine C.callVI lX13_298 dX13_qGoesOn_125 (kq_sign hS1 hT hQ hp _) hS.o rfl rfl (Nat.le_of_ble_eq_true rfl) (Nat.zero_le _) (Nat.zero_le _) (Nat.le_of_ble_eq_true rfl) (fun x125 μ125 h125 => ?_)
    obtain ⟨rfl, hQ2⟩ := h125
    have hS : ShM μ125 := hQ2.sh hS1
    refine C.if_ne 140 dX13_qGoesOn_128 rfl (fun hc128 => ?_) (fun hc128 => ?_)
    · have hb := b_t hc128
      obtain ⟨g1, g2, g3⟩ := mSign_t (by decide) hb hx
      have hg : gTk tx e s (nI 42) (nI 47) = (true, true, (mSign tx e s (nI 42)).2) := by unfold gTk; rw [if_pos hb]
      rw [hg] at hk
      exact m140 (sk tx e s.1) 42 _ _ hQ2 (by rw [g3]) g1 g2 (by decide) (by simpa using hk)
    · have hb := (bI_0 _).mp hc128
      have hsf := mSign_f hz hb
      rw [hsf] at hQ2
      have hp2 : (mLook tx e s).1 ≤ e := hsk.2
      refine C.aload_n dX13_qGoesOn_131 0 rfl ?_
      refine C.bipush (nI 47) dX13_qGoesOn_132 (by decide) ?_
      refine C.callVI lX13_298 dX13_qGoesOn_134 (kq_sign hS1 hT hQ2 hp2 _) hS.o rfl rfl (Nat.le_of_ble_eq_true rfl) (Nat.zero_le _) (Nat.zero_le _) (Nat.le_of_ble_eq_true rfl) (fun x134 μ134 h134 => ?_)
      obtain ⟨rfl, hQ3⟩ := h134
      have hS : ShM μ134 := hQ3.sh hS1
      refine C.if_eq 207 dX13_qGoesOn_137 rfl (fun hc137 => ?_) (fun hc137 => ?_)
      · have hb2 := (bI_0 _).mp hc137
        have hsf2 := mSign_f (s := mLook tx e s) hz hb2
        have hg : gTk tx e s (nI 42) (nI 47) = (false, false, mLook tx e (mLook tx e s)) := by unfold gTk; rw [hb, hsf, hb2, hsf2]; rfl
        rw [hg] at hk
        rw [hsf2] at hQ3
        exact m207 ((cs0, ws0, op, bs), mLook tx e (mLook tx e s)) _ hQ3 hz ((sk_le hp2).2) hl hbs (by simpa using hk)
      · have hb2 := b_t hc137
        obtain ⟨g1, g2, g3⟩ := mSign_t (by decide) hb2 hx
        have hg : gTk tx e s (nI 42) (nI 47) = (true, false, (mSign tx e (mLook tx e s) (nI 47)).2) := by unfold gTk; rw [hb, hsf, hb2]; rfl
        rw [hg] at hk
        exact m140 _ 47 _ _ hQ3 (by rw [g3]) g1 g2 (by decide) (by simpa using hk)
  -- the closing brackets
  have loop : ∀ (n : Nat) (t : Tt) (μ1 : Mm), QM μ μ1 t.1 t.2 → t.2.2.2.1 = 0 → t.2.1 ≤ e → t.1.1.length + t.1.2.1.length < 1690 → t.1.2.2.2 < 1700 → e - t.2.1 < n → gRest tx e (gClose tx e n t) = K → AW l G X 0 0 0 [(0, .ref (G.1 + 179))] [] μ1 := by
    intro n
    induction n with
    | zero => intro t μ1 _ _ _ _ _ h; omega
    | succ n ih =>
      intro t μ1 hQ hz hp hl hbs hn hk
      obtain ⟨⟨cs, ws, op, bs⟩, s⟩ := t
      dsimp only at hQ hz hp hl hbs hn
      have hS : ShM μ1 := hQ.sh hS1
      have hsk := sk_le (tx := tx) hp
      unfold gClose at hk
      dsimp only at hk
      have o122 : ∀ μ1, QM μ μ1 (cs, ws, op, bs) (mLook tx e s) → ¬ (chr tx e (sk tx e s.1) = nI 41 ∧ clB (qBrk ws bs) = true) → AW l G X 0 0 122 [(0, .ref (G.1 + 179))] [] μ1 := by
        intro μ1 hQ hc
        rw [if_neg hc] at hk
        exact m122 (_, _) μ1 hQ hz hsk.2 hl hbs hk
      have m43 : ∀ μ1, QM μ μ1 (cs, ws, op, bs) (mLook tx e s) → chr tx e (sk tx e s.1) = nI 41 → clB (qBrk ws bs) = true → AW l G X 0 0 43 [(0, .ref (G.1 + 179))] [] μ1 := by
        intro μ1 hQ hc hcl
        rw [if_pos ⟨hc, hcl⟩] at hk
        have hlt := chr_lt hc (by decide)
        have hS : ShM μ1 := hQ.sh hS1
        generalize hw : qBrk ws bs = w at hcl
        have hcl3 : w = nI 20 ∨ w = nI 23 ∨ w = nI 24 := by simpa [clB, or_assoc] using hcl
        obtain ⟨cs', ws', hd, hb', -⟩ := qDown_brk ws cs bs (by rw [hw]; rcases hcl3 with h | h | h <;> rw [h] <;> decide)
        have hln := qDown_len ws cs bs
        rw [hw] at hd
        rw [hd] at hln hk
        simp only [List.length_cons] at hln
        have hgc : gCl1 (sk tx e s.1) ((cs, ws, op, bs), s) (cs', w :: ws') = qEnd ((if w = nI 20 then cs' else cs' ++ [if w = nI 23 then nI 5 else nI 6], ws', op - nI 1, bs), (sk tx e s.1 + 1, s.2)) := rfl
        have hQ2 := hQ.at (sk tx e s.1 + 1)
        have hQat : mI μ1 179 2 = nI (sk tx e s.1) := hQ.2.1.1
        have hS2 : ShM (sI μ1 179 2 (nI (sk tx e s.1 + 1))) := hS.of rfl
        have m115 : ∀ (cs2 : List Int32) (μ2 : Mm), QM μ μ2 (cs2, ws', op - nI 1, bs) (sk tx e s.1 + 1, s.2) → cs2.length + ws'.length < 1690 → gRest tx e (gClose tx e n (qEnd ((cs2, ws', op - nI 1, bs), (sk tx e s.1 + 1, s.2)))) = K → AW l G X 0 0 115 [(0, .ref (G.1 + 179))] [] μ2 := by
          intro cs2 μ2 hQ3 hl3 hk3
          have hS : ShM μ2 := hQ3.sh hS1
          have e2 := qEnd_2 ((cs2, ws', op - nI 1, bs), (sk tx e s.1 + 1, s.2))
          have el := qEnd_len ((cs2, ws', op - nI 1, bs), (sk tx e s.1 + 1, s.2))
          dsimp only at e2 el
          refine C.aload_n dX13_qGoesOn_115 0 rfl ?_
          refine C.callVV lX13_632 dX13_qGoesOn_116 (kq_ends hS1 hQ3 (by dsimp only; omega) hbs) hS.o rfl rfl (Nat.le_of_ble_eq_true rfl) (Nat.zero_le _) (Nat.zero_le _) (Nat.le_of_ble_eq_true rfl) (fun μ116 h116 => ?_)
          refine C.goto 0 dX13_qGoesOn_119 rfl ?_
          exact ih _ _ h116 (by rw [e2.1]; exact hz) (by rw [e2.1]; show sk tx e s.1 + 1 ≤ e; omega) (by omega) (by rw [e2.2]; exact hbs) (by rw [e2.1]; show e - (sk tx e s.1 + 1) < n; omega) hk3
        refine C.aload_n dX13_qGoesOn_43 0 rfl ?_
        refine C.dup dX13_qGoesOn_44 rfl ?_
        refine C.getI fX13_270 dX13_qGoesOn_45 hS.o ?_
        rw [hQat]
        refine C.iconst (nI 1) dX13_qGoesOn_48 (by decide) ?_
        refine C.iadd dX13_qGoesOn_49 ?_
        rw [nI_add]
        refine C.putI fX13_270 (Or.inl rfl) dX13_qGoesOn_50 hS.o ?_
        refine C.aload_n dX13_qGoesOn_53 0 rfl ?_
        refine C.callVV lX13_638 dX13_qGoesOn_54 (kq_qDown hS1 hQ2 (by dsimp only; omega) hbs) hS.o rfl rfl (Nat.le_of_ble_eq_true rfl) (Nat.zero_le _) (Nat.zero_le _) (Nat.le_of_ble_eq_true rfl) (fun μ54 h54 => ?_)
        have h4 : QM μ μ54 (cs', w :: ws', op, bs) (sk tx e s.1 + 1, s.2) := by have := h54; dsimp only at this; rw [hd] at this; exact this
        have hS : ShM μ54 := h4.sh hS1
        have ht := h4.top
        have hQ5 := h4.pop.op (op - nI 1)
        refine C.aload_n dX13_qGoesOn_57 0 rfl ?_
        refine C.dup dX13_qGoesOn_58 rfl ?_
        refine C.getI fX13_358 dX13_qGoesOn_59 hS.o ?_
        rw [h4.2.2.1.2.1]
        refine C.iconst (nI 1) dX13_qGoesOn_62 (by decide) ?_
        refine C.isub dX13_qGoesOn_63 ?_
        rw [pk_sub (by simp), List.length_cons, Nat.add_sub_cancel]
        refine C.putI fX13_358 (Or.inl rfl) dX13_qGoesOn_64 hS.o ?_
        refine C.aload_n dX13_qGoesOn_67 0 rfl ?_
        refine C.dup dX13_qGoesOn_68 rfl ?_
        refine C.getI fX13_361 dX13_qGoesOn_69 hS.o ?_
        rw [show mI (sI μ54 179 104 (nI ws'.length)) 179 105 = op from h4.2.2.1.2.2.1]
        refine C.iconst (nI 1) dX13_qGoesOn_72 (by decide) ?_
        refine C.isub dX13_qGoesOn_73 ?_
        refine C.putI fX13_361 (Or.inl rfl) dX13_qGoesOn_74 hS.o ?_
        refine C.aload_n dX13_qGoesOn_77 0 rfl ?_
        refine C.getA fX13_252 dX13_qGoesOn_78 hS.o hS.r103 ?_
        refine C.aload_n dX13_qGoesOn_81 0 rfl ?_
        refine C.getI fX13_358 dX13_qGoesOn_82 hS.o ?_
        rw [show mI (sI (sI μ54 179 104 (nI ws'.length)) 179 105 (op - nI 1)) 179 104 = nI ws'.length by simp [mI_sI]]
        refine C.iald hS.a103 (n_in (by omega)) dX13_qGoesOn_85 ?_
        rw [n_cl, show mI (sI (sI μ54 179 104 (nI ws'.length)) 179 105 (op - nI 1)) 256 ws'.length = w from ht]
        refine C.bipush (nI 20) dX13_qGoesOn_86 (by decide) ?_
        refine C.icmp_eq 115 dX13_qGoesOn_88 rfl (fun hc88 => ?_) (fun hc88 => ?_)
        · rw [hgc, if_pos hc88] at hk
          exact m115 _ _ hQ5 (by dsimp only; omega) hk
        · refine C.aload_n dX13_qGoesOn_91 0 rfl ?_
          refine C.aload_n dX13_qGoesOn_92 0 rfl ?_
          refine C.getA fX13_252 dX13_qGoesOn_93 hS.o hS.r103 ?_
          refine C.aload_n dX13_qGoesOn_96 0 rfl ?_
          refine C.getI fX13_358 dX13_qGoesOn_97 hS.o ?_
          rw [show mI (sI (sI μ54 179 104 (nI ws'.length)) 179 105 (op - nI 1)) 179 104 = nI ws'.length by simp [mI_sI]]
          refine C.iald hS.a103 (n_in (by omega)) dX13_qGoesOn_100 ?_
          rw [n_cl, show mI (sI (sI μ54 179 104 (nI ws'.length)) 179 105 (op - nI 1)) 256 ws'.length = w from ht]
          refine C.bipush (nI 23) dX13_qGoesOn_101 (by decide) ?_
          refine C.icmp_ne 110 dX13_qGoesOn_103 rfl (fun hc103 => ?_) (fun hc103 => ?_)
          · rw [hgc, if_neg hc88, if_neg hc103] at hk
            refine C.bipush (nI 6) dX13_qGoesOn_110 (by decide) ?_
            refine C.callVV lX13_608 dX13_qGoesOn_112 (kq_qCode hS1 hQ5 (by dsimp only; omega) _) hS.o rfl rfl (Nat.le_of_ble_eq_true rfl) (Nat.zero_le _) (Nat.zero_le _) (Nat.le_of_ble_eq_true rfl) (fun μ112 h112 => ?_)
            exact m115 _ _ h112 (by simp; omega) hk
          · rw [hgc, if_neg hc88, if_pos hc103] at hk
            refine C.iconst (nI 5) dX13_qGoesOn_106 (by decide) ?_
            refine C.goto 112 dX13_qGoesOn_107 rfl ?_
            refine C.callVV lX13_608 dX13_qGoesOn_112 (kq_qCode hS1 hQ5 (by dsimp only; omega) _) hS.o rfl rfl (Nat.le_of_ble_eq_true rfl) (Nat.zero_le _) (Nat.zero_le _) (Nat.le_of_ble_eq_true rfl) (fun μ112 h112 => ?_)
            exact m115 _ _ h112 (by simp; omega) hk
      refine C.aload_n dX13_qGoesOn_0 0 rfl ?_
      refine C.getI fX13_264 dX13_qGoesOn_1 hS.o ?_
      rw [hQ.2.1.2.2.1]
      refine C.if_ne 122 dX13_qGoesOn_4 rfl (fun hc4 => ?_) (fun hc4 => ?_)
      · exact absurd hz hc4
      · refine C.aload_n dX13_qGoesOn_7 0 rfl ?_
        refine C.callVI lX13_276 dX13_qGoesOn_8 (kq_look hS1 hT hQ hp) hS.o rfl rfl (Nat.le_of_ble_eq_true rfl) (Nat.zero_le _) (Nat.zero_le _) (Nat.le_of_ble_eq_true rfl) (fun x8 μ8 h8 => ?_)
        obtain ⟨rfl, hQ2⟩ := h8
        have hS : ShM μ8 := hQ2.sh hS1
        refine C.bipush (nI 41) dX13_qGoesOn_11 (by decide) ?_
        refine C.icmp_ne 122 dX13_qGoesOn_13 rfl (fun hc13 => ?_) (fun hc13 => ?_)
        · exact o122 _ hQ2 (fun h => hc13 h.1)
        · refine C.aload_n dX13_qGoesOn_16 0 rfl ?_
          refine C.callVI lX13_635 dX13_qGoesOn_17 (kq_qBracket hS1 hQ2 (by dsimp only; omega) hbs) hS.o rfl rfl (Nat.le_of_ble_eq_true rfl) (Nat.zero_le _) (Nat.zero_le _) (Nat.le_of_ble_eq_true rfl) (fun x17 μ17 h17 => ?_)
          obtain ⟨rfl, hμ⟩ := h17
          subst hμ
          refine C.bipush (nI 20) dX13_qGoesOn_20 (by decide) ?_
          refine C.icmp_eq 43 dX13_qGoesOn_22 rfl (fun hc22 => ?_) (fun hc22 => ?_)
          · exact m43 _ hQ2 hc13 (by have h : qBrk ws bs = nI 20 := hc22; simp [clB, h])
          · refine C.aload_n dX13_qGoesOn_25 0 rfl ?_
            refine C.callVI lX13_635 dX13_qGoesOn_26 (kq_qBracket hS1 hQ2 (by dsimp only; omega) hbs) hS.o rfl rfl (Nat.le_of_ble_eq_true rfl) (Nat.zero_le _) (Nat.zero_le _) (Nat.le_of_ble_eq_true rfl) (fun x26 μ26 h26 => ?_)
            obtain ⟨rfl, hμ⟩ := h26
            subst hμ
            refine C.bipush (nI 23) dX13_qGoesOn_29 (by decide) ?_
            refine C.icmp_eq 43 dX13_qGoesOn_31 rfl (fun hc31 => ?_) (fun hc31 => ?_)
            · exact m43 _ hQ2 hc13 (by have h : qBrk ws bs = nI 23 := hc31; simp [clB, h])
            · refine C.aload_n dX13_qGoesOn_34 0 rfl ?_
              refine C.callVI lX13_635 dX13_qGoesOn_35 (kq_qBracket hS1 hQ2 (by dsimp only; omega) hbs) hS.o rfl rfl (Nat.le_of_ble_eq_true rfl) (Nat.zero_le _) (Nat.zero_le _) (Nat.le_of_ble_eq_true rfl) (fun x35 μ35 h35 => ?_)
              obtain ⟨rfl, hμ⟩ := h35
              subst hμ
              refine C.bipush (nI 24) dX13_qGoesOn_38 (by decide) ?_
              refine C.icmp_ne 122 dX13_qGoesOn_40 rfl (fun hc40 => ?_) (fun hc40 => ?_)
              · exact o122 _ hQ2 (fun h => by have h1 : ¬ qBrk ws bs = nI 20 := hc22; have h2 : ¬ qBrk ws bs = nI 23 := hc31; have h3 : ¬ qBrk ws bs = nI 24 := hc40; have h4 := h.2; simp [clB, h1, h2, h3] at h4)
              · exact m43 _ hQ2 hc13 (by have h : qBrk ws bs = nI 24 := hc40; simp [clB, h])
  exact loop (e + 1 - s.1) (q, s) μ1 hQ hz hp hl hbs (by dsimp only; omega) hK
end KMQ5
