/-! the reference: one statement -/

abbrev wChapel : List Nat := [99, 104, 97, 112, 101, 108]
abbrev wBell : List Nat := [98, 101, 108, 108]
abbrev wWalker : List Nat := [119, 97, 108, 107, 101, 114]
abbrev wRides : List Nat := [114, 105, 100, 101, 115]
abbrev wPays : List Nat := [112, 97, 121, 115]
abbrev wKeeps : List Nat := [107, 101, 101, 112, 115]
abbrev wYear : List Nat := [121, 101, 97, 114]
abbrev wHarm : List Nat := [104, 97, 114, 109]
abbrev wStorm : List Nat := [115, 116, 111, 114, 109]
abbrev tkS (s : Ps) (n : Nat) : Ps := (s.1 + n, nI (s.1 + n), s.2.2)
def rBody (tx : Nat → Nat) (e : Nat) (d : Ld) (s : Ps) : Ld × Ps :=
  if hereW tx e s.1 s.2.1 wChapel = true then rChap tx e d (tkS s 6) (nI s.1)
  else if hereW tx e s.1 s.2.1 wBell = true then rBell tx e d (tkS s 4) (nI s.1)
  else if hereW tx e s.1 s.2.1 wWalker = true then rWalk tx e d (tkS s 6) (nI s.1)
  else if hereW tx e s.1 s.2.1 wRides = true then rCode tx e 0 d (tkS s 5) (nI s.1)
  else if hereW tx e s.1 s.2.1 wPays = true then rCode tx e 1 d (tkS s 4) (nI s.1)
  else if hereW tx e s.1 s.2.1 wKeeps = true then rCode tx e 2 d (tkS s 5) (nI s.1)
  else if hereW tx e s.1 s.2.1 wYear = true then rSet tx e 0 1 99 d (tkS s 4)
  else if hereW tx e s.1 s.2.1 wHarm = true then rSet tx e 1 0 999 d (tkS s 4)
  else rSet tx e 2 0 100 d (mAsks tx e s wStorm)
def rStat (tx : Nat → Nat) (e : Nat) (d : Ld) (st : Nat) (s : Ps) : Ld × Nat × Ps :=
  if st = 80 then (d, st, mFail s (nI 5) (nI s.1)) else ((rBody tx e d s).1, st + 1, mAskSign tx e (rBody tx e d s).2 (nI 59))
section RLE
variable {tx : Nat → Nat} {e : Nat} {d : Ld} {s : Ps}
theorem rNew_le (hp : s.1 ≤ e) : s.1 ≤ (rNew tx e d s).2.1 ∧ (rNew tx e d s).2.1 ≤ e := by
  unfold rNew
  dsimp only
  rw [mDup_1]
  exact ⟨mName_ge s hp, mName_le hp⟩
theorem rBell_le (hp : s.1 ≤ e) (bg : Int32) : s.1 ≤ (rBell tx e d s bg).2.1 ∧ (rBell tx e d s bg).2.1 ≤ e := by
  unfold rBell
  dsimp only
  have h1 := mFull_1 s (nI d.2.2.1.length) (nI 5) bg
  generalize mFull s (nI d.2.2.1.length) (nI 5) bg = s1 at h1 ⊢
  have h2 := rNew_le (tx := tx) (d := d) (s := s1) (e := e) (by omega)
  generalize rNew tx e d s1 = r2 at h2 ⊢
  have g3 := mAsks_ge (tx := tx) r2.2 wAt h2.2
  have l3 := mAsks_le (tx := tx) (s := r2.2) wAt h2.2
  generalize mAsks tx e r2.2 wAt = s3 at g3 l3 ⊢
  have g4 := mCell_ge (tx := tx) s3 (nI d.1.1) (nI d.1.2.1) l3
  have l4 := mCell_le (tx := tx) (nI d.1.1) (nI d.1.2.1) l3
  generalize mCell tx e s3 (nI d.1.1) (nI d.1.2.1) = r4 at g4 l4 ⊢
  have g5 := mAsks_ge (tx := tx) r4.2 wRope l4
  have l5 := mAsks_le (tx := tx) (s := r4.2) wRope l4
  generalize mAsks tx e r4.2 wRope = s5 at g5 l5 ⊢
  have g6 := (mNum_ge (tx := tx) s5 (nI 0) (nI 99) l5).1
  have l6 := mNum_le (tx := tx) (nI 0) (nI 99) l5
  split
  · split
    · dsimp only; omega
    · dsimp only; omega
  · dsimp only; omega
theorem rWalk_le (hp : s.1 ≤ e) (bg : Int32) : s.1 ≤ (rWalk tx e d s bg).2.1 ∧ (rWalk tx e d s bg).2.1 ≤ e := by
  unfold rWalk
  dsimp only
  have h1 := mFull_1 s (nI d.2.2.2.1.length) (nI 6) bg
  generalize mFull s (nI d.2.2.2.1.length) (nI 6) bg = s1 at h1 ⊢
  have h2 := rNew_le (tx := tx) (d := d) (s := s1) (e := e) (by omega)
  generalize rNew tx e d s1 = r2 at h2 ⊢
  have g3 := mAsks_ge (tx := tx) r2.2 wFrom h2.2
  have l3 := mAsks_le (tx := tx) (s := r2.2) wFrom h2.2
  generalize mAsks tx e r2.2 wFrom = s3 at g3 l3 ⊢
  have g4 := mCell_ge (tx := tx) s3 (nI d.1.1) (nI d.1.2.1) l3
  have l4 := mCell_le (tx := tx) (nI d.1.1) (nI d.1.2.1) l3
  generalize mCell tx e s3 (nI d.1.1) (nI d.1.2.1) = r4 at g4 l4 ⊢
  have g5 := mAsks_ge (tx := tx) r4.2 wTo l4
  have l5 := mAsks_le (tx := tx) (s := r4.2) wTo l4
  generalize mAsks tx e r4.2 wTo = s5 at g5 l5 ⊢
  have g6 := mCell_ge (tx := tx) s5 (nI d.1.1) (nI d.1.2.1) l5
  have l6 := mCell_le (tx := tx) (nI d.1.1) (nI d.1.2.1) l5
  generalize mCell tx e s5 (nI d.1.1) (nI d.1.2.1) = r6 at g6 l6 ⊢
  have g7 := mAsks_ge (tx := tx) r6.2 wDoes l6
  have l7 := mAsks_le (tx := tx) (s := r6.2) wDoes l6
  generalize mAsks tx e r6.2 wDoes = s7 at g7 l7 ⊢
  have g8 := (mNum_ge (tx := tx) s7 (nI 0) (nI 3) l7).1
  have l8 := mNum_le (tx := tx) (nI 0) (nI 3) l7
  split
  · split
    · dsimp only; omega
    · dsimp only; omega
  · dsimp only; omega
theorem rChap_le (hp : s.1 ≤ e) (bg : Int32) : s.1 ≤ (rChap tx e d s bg).2.1 ∧ (rChap tx e d s bg).2.1 ≤ e := by
  unfold rChap
  dsimp only
  have h1 := mFull_1 s (nI d.2.1.length) (nI 10) bg
  generalize mFull s (nI d.2.1.length) (nI 10) bg = s1 at h1 ⊢
  have g4 := mCell_ge (tx := tx) (e := e) s1 (nI d.1.1) (nI d.1.2.1) (by omega)
  have l4 := mCell_le (tx := tx) (e := e) (s := s1) (nI d.1.1) (nI d.1.2.1) (by omega)
  generalize mCell tx e s1 (nI d.1.1) (nI d.1.2.1) = r4 at g4 l4 ⊢
  have h5 := mBadN_1 r4.2 (d.2.1.any (fun x => decide (x = nn r4.1)) || decide (nn r4.1 = d.1.2.2))
  split
  · split
    · dsimp only; rw [h5]; omega
    · dsimp only; rw [h5]; omega
  · dsimp only; omega
theorem rCode_le (he : e ≤ 1600) (hz : s.2.2.1 = 0) (hp : s.1 ≤ e) (w : Nat) (bg : Int32) : s.1 ≤ (rCode tx e w d s bg).2.1 ∧ (rCode tx e w d s bg).2.1 ≤ e := by
  obtain ⟨i1, i2⟩ := rdCode_iv (tx := tx) (w := w) he hz hp
  have := i1.1
  unfold rCode
  split
  · split
    · exact ⟨i2, this⟩
    · exact ⟨i2, this⟩
  · dsimp only; rw [mFail_1]; omega
theorem rSet_le (hp : s.1 ≤ e) (j lo hi : Nat) : s.1 ≤ (rSet tx e j lo hi d s).2.1 ∧ (rSet tx e j lo hi d s).2.1 ≤ e := ⟨(mNum_ge (tx := tx) s (nI lo) (nI hi) hp).1, mNum_le (tx := tx) (nI lo) (nI hi) hp⟩
theorem rBody_le (he : e ≤ 1600) (hz : s.2.2.1 = 0) (hp : s.1 ≤ e) : s.1 ≤ (rBody tx e d s).2.1 ∧ (rBody tx e d s).2.1 ≤ e := by
  unfold rBody
  have up : ∀ n (u : Nat), s.1 + n ≤ u ∧ u ≤ e → s.1 ≤ u ∧ u ≤ e := fun n u h => ⟨by omega, h.2⟩
  split
  · rename_i h; exact up 6 _ (rChap_le (s := tkS s 6) (hereW_len h hp) _)
  split
  · rename_i h; exact up 4 _ (rBell_le (s := tkS s 4) (hereW_len h hp) _)
  split
  · rename_i h; exact up 6 _ (rWalk_le (s := tkS s 6) (hereW_len h hp) _)
  split
  · rename_i h; exact up 5 _ (rCode_le (s := tkS s 5) he hz (hereW_len h hp) _ _)
  split
  · rename_i h; exact up 4 _ (rCode_le (s := tkS s 4) he hz (hereW_len h hp) _ _)
  split
  · rename_i h; exact up 5 _ (rCode_le (s := tkS s 5) he hz (hereW_len h hp) _ _)
  split
  · rename_i h; exact up 4 _ (rSet_le (s := tkS s 4) (hereW_len h hp) _ _ _)
  split
  · rename_i h; exact up 4 _ (rSet_le (s := tkS s 4) (hereW_len h hp) _ _ _)
  · have g := mAsks_ge (tx := tx) s wStorm hp
    have l := mAsks_le (tx := tx) (s := s) wStorm hp
    have := rSet_le (tx := tx) (d := d) (s := mAsks tx e s wStorm) l 2 0 100
    omega
theorem mAskSign_adv (s : Ps) (c : Int32) (hp : s.1 ≤ e) (h : (mAskSign tx e s c).2.2.1 = 0) : s.1 + 1 ≤ (mAskSign tx e s c).1 := by
  have h1 := sk_le (tx := tx) hp
  unfold mAskSign at h ⊢
  split at h
  · rename_i hb
    rw [if_pos hb]
    split at h
    · rename_i ht
      rw [if_pos ht]
      unfold mSign at ht ⊢
      rw [if_pos hb] at ht ⊢
      split at ht
      · rename_i hc
        rw [if_pos hc]
        dsimp only
        omega
      · cases ht
    · exact absurd h (mFail_0 _ _ _ (by decide))
  · rename_i hb
    exact absurd h hb
end RLE
section KMST
variable {l : Launch} {G : Gm} {μ0 μ : Mm} {d : Ld} {st : Nat} {s : Ps} {tx : Nat → Nat} {e : Nat}
theorem TM.ps (h : TM μ0 μ d st s) {s' : Ps} (hb : s'.2.2.1 = 0 → s.2.2.1 = 0) (hg : s.1 ≤ s'.1) : TM μ0 (pw μ s') d st s' := by
  obtain ⟨hF, hP, hG⟩ := h
  refine ⟨hF.pw _, Pf.pw _ _, fun hz => ?_⟩
  obtain ⟨hWf, hst, h56, c, hc, hcs, hL⟩ := hG (hb hz)
  have hf : ∀ k, k = 55 ∨ k = 56 → mI (pw μ s') 179 k = mI μ 179 k := fun k hk => pw_off _ _ (Or.inr (by omega))
  have ho : ∀ a k, a ≠ 179 → mI (pw μ s') a k = mI μ a k := fun a k ha => pw_offA _ _ ha
  refine ⟨hWf, hst, by rw [hf 56 (Or.inr rfl)]; exact h56, c, by rw [hf 55 (Or.inl rfl)]; exact hc, by omega, ⟨⟨?_, ?_, ?_⟩, ?_, ?_, ?_, ?_⟩⟩
  · exact ⟨by rw [ho _ _ (by decide)]; exact hL.1.1.1, by rw [ho _ _ (by decide)]; exact hL.1.1.2.1, by rw [ho _ _ (by decide)]; exact hL.1.1.2.2⟩
  · exact ⟨by rw [ho _ _ (by decide)]; exact hL.1.2.1.1, by rw [ho _ _ (by decide)]; exact hL.1.2.1.2.1, by rw [ho _ _ (by decide)]; exact hL.1.2.1.2.2⟩
  · exact ⟨by rw [ho _ _ (by decide)]; exact hL.1.2.2.1, by rw [ho _ _ (by decide)]; exact hL.1.2.2.2.1, by rw [ho _ _ (by decide)]; exact hL.1.2.2.2.2⟩
  · exact fun i z hz => by rw [ho _ _ (by decide)]; exact hL.2.1 i z hz
  · exact fun i z hz => by rw [ho _ _ (by decide), ho _ _ (by decide)]; exact hL.2.2.1 i z hz
  · exact fun i z hz => by rw [ho _ _ (by decide), ho _ _ (by decide), ho _ _ (by decide)]; exact hL.2.2.2.1 i z hz
  · intro w hw
    obtain ⟨k1, k2⟩ := hL.2.2.2.2 w hw
    refine ⟨fun q => by rw [ho _ _ (by decide)]; exact k1 q, fun cs q => ?_⟩
    obtain ⟨f, f1, f2, f3, f4⟩ := k2 cs q
    exact ⟨f, f1, by rw [ho _ _ (by decide)]; exact f2, by rw [ho _ _ (by decide)]; exact f3, fun i hi => by rw [ho _ _ (by decide)]; exact f4 i hi⟩
/-- one more statement -/
theorem TM.st56 (h : TM μ0 μ d st s) (h80 : s.2.2.1 = 0 → st < 80) (v : Int32) (hv : s.2.2.1 = 0 → v = nI (st + 1)) : TM μ0 (sI μ 179 56 v) d (st + 1) s := by
  obtain ⟨hF, hP, hG⟩ := h
  have ho : ∀ a k, ¬ (a = 179 ∧ k = 56) → mI (sI μ 179 56 v) a k = mI μ a k := fun a k ha => by rw [mI_sI, if_neg ha]
  refine ⟨hF.st (by unfold TchI; omega) _, ⟨?_, ?_, ?_, ?_, ?_, ?_⟩, fun hz => ?_⟩
  · rw [ho _ _ (by omega)]; exact hP.1
  · rw [ho _ _ (by omega)]; exact hP.2.1
  · rw [ho _ _ (by omega)]; exact hP.2.2.1
  · rw [ho _ _ (by omega)]; exact hP.2.2.2.1
  · rw [ho _ _ (by omega)]; exact hP.2.2.2.2.1
  · rw [ho _ _ (by omega)]; exact hP.2.2.2.2.2
  obtain ⟨hWf, hst, h56, c, hc, hcs, hL⟩ := hG hz
  refine ⟨hWf, h80 hz, by rw [mI_sI, if_pos ⟨rfl, rfl⟩]; exact hv hz, c, by rw [ho _ _ (by omega)]; exact hc, hcs, ⟨⟨?_, ?_, ?_⟩, ?_, ?_, ?_, ?_⟩⟩
  · exact ⟨by rw [ho _ _ (by omega)]; exact hL.1.1.1, by rw [ho _ _ (by omega)]; exact hL.1.1.2.1, by rw [ho _ _ (by omega)]; exact hL.1.1.2.2⟩
  · exact ⟨by rw [ho _ _ (by omega)]; exact hL.1.2.1.1, by rw [ho _ _ (by omega)]; exact hL.1.2.1.2.1, by rw [ho _ _ (by omega)]; exact hL.1.2.1.2.2⟩
  · exact ⟨by rw [ho _ _ (by omega)]; exact hL.1.2.2.1, by rw [ho _ _ (by omega)]; exact hL.1.2.2.2.1, by rw [ho _ _ (by omega)]; exact hL.1.2.2.2.2⟩
  · exact fun i z hz => by rw [ho _ _ (by omega)]; exact hL.2.1 i z hz
  · exact fun i z hz => by rw [ho _ _ (by omega), ho _ _ (by omega)]; exact hL.2.2.1 i z hz
  · exact fun i z hz => by rw [ho _ _ (by omega), ho _ _ (by omega), ho _ _ (by omega)]; exact hL.2.2.2.1 i z hz
  · intro w hw
    obtain ⟨k1, k2⟩ := hL.2.2.2.2 w hw
    refine ⟨fun q => by rw [ho _ _ (by omega)]; exact k1 q, fun cs q => ?_⟩
    obtain ⟨f, f1, f2, f3, f4⟩ := k2 cs q
    exact ⟨f, f1, by rw [ho _ _ (by omega)]; exact f2, by rw [ho _ _ (by omega)]; exact f3, fun i hi => by rw [ho _ _ (by omega)]; exact f4 i hi⟩
theorem hW_f {s : Ps} {ws : List Nat} (hz : s.2.2.1 = 0) (hk : sk tx e s.1 = s.1) (h : bI (mTakes tx e s ws).1 = 0) : ¬ hereW tx e s.1 s.2.1 ws = true := fun q => by
  rw [mTakes_t s hz hk _ q] at h
  exact absurd h (by decide : ¬ bI true = 0)
theorem hW_t {s : Ps} {ws : List Nat} (hz : s.2.2.1 = 0) (hk : sk tx e s.1 = s.1) (h : ¬ bI (mTakes tx e s ws).1 = 0) : hereW tx e s.1 s.2.1 ws = true := by
  by_cases q : hereW tx e s.1 s.2.1 ws = true
  · exact q
  · rw [mTakes_f s hz hk _ q] at h
    exact absurd rfl h
theorem kt_takes (hS : ShM μ0) (hW : WdM μ0) (hT : TxM μ0 tx e) (hM : TM μ0 μ d st s) (hz : s.2.2.1 = 0) (hk : sk tx e s.1 = s.1) (hp : s.1 ≤ e) {a : Nat} {ws : List Nat} (hm : (a, ws) ∈ wdT) : AMet l G 2 0 0 mtX13_takes [.ref (G.1 + 179), .ref (G.1 + a)] μ (qI (fun x μ' => x = bI (hereW tx e s.1 s.2.1 ws) ∧ (hereW tx e s.1 s.2.1 ws = true → TM μ0 μ' d st (tkS s ws.length)) ∧ (¬ hereW tx e s.1 s.2.1 ws = true → μ' = μ))) := by
  have h := kp_takes (l := l) (G := G) (hM.1.sh hS) (hM.1.wd hW) (hM.1.txm hT) hp hm
  rw [hM.2.1.self] at h
  refine h.monoI (fun x μ' hx => ?_)
  by_cases hh : hereW tx e s.1 s.2.1 ws = true
  · rw [mTakes_t s hz hk _ hh] at hx
    exact ⟨by rw [hh]; exact hx.1, fun _ => by rw [hx.2]; exact hM.ps (fun _ => hz) (by show s.1 ≤ s.1 + ws.length; omega), fun q => absurd hh q⟩
  · rw [mTakes_f s hz hk _ hh] at hx
    exact ⟨by rw [Bool.eq_false_iff.mpr hh]; exact hx.1, fun q => absurd q hh, fun _ => by rw [hx.2]; exact hM.2.1.self⟩
theorem kt_bell (hS : ShM μ0) (hW : WdM μ0) (hT : TxM μ0 tx e) (hM : TM μ0 μ d st s) (hz : s.2.2.1 = 0) (hp : s.1 ≤ e) (bg : Int32) : AMet l G 5 0 0 mtX13_bellTold [.ref (G.1 + 179), .int bg] μ (qV (fun μ' => TM μ0 μ' (rBell tx e d s bg).1 st (rBell tx e d s bg).2)) := by
  obtain ⟨hWf, hst, h56, c, hc, hcs, hL⟩ := hM.2.2 hz
  have h := kp_bellTold (l := l) (G := G) (hM.1.sh hS) (hM.1.wd hW) (hM.1.txm hT) hp hL.1.2.1.1 hL.1.2.1.2.1 hWf.2.2.1.1 hWf.2.2.2.1.1 bg
  rw [hM.2.1.self] at h
  exact h.monoV (fun μ' hx => by rw [hx]; exact tm_bell hM hz hp bg)
theorem kt_walk (hS : ShM μ0) (hW : WdM μ0) (hT : TxM μ0 tx e) (hM : TM μ0 μ d st s) (hz : s.2.2.1 = 0) (hp : s.1 ≤ e) (bg : Int32) : AMet l G 5 0 0 mtX13_walkerTold [.ref (G.1 + 179), .int bg] μ (qV (fun μ' => TM μ0 μ' (rWalk tx e d s bg).1 st (rWalk tx e d s bg).2)) := by
  obtain ⟨hWf, hst, h56, c, hc, hcs, hL⟩ := hM.2.2 hz
  have h := kp_walkerTold (l := l) (G := G) (hM.1.sh hS) (hM.1.wd hW) (hM.1.txm hT) hp hL.1.2.1.1 hL.1.2.1.2.1 hWf.2.2.1.1 hWf.2.2.2.1.1 bg
  rw [hM.2.1.self] at h
  exact h.monoV (fun μ' hx => by rw [hx]; exact tm_walk hM hz hp bg)
theorem kt_chap (hS : ShM μ0) (hT : TxM μ0 tx e) (hM : TM μ0 μ d st s) (hz : s.2.2.1 = 0) (hp : s.1 ≤ e) (bg : Int32) : AMet l G 3 0 0 mtX13_chapelTold [.ref (G.1 + 179), .int bg] μ (qV (fun μ' => TM μ0 μ' (rChap tx e d s bg).1 st (rChap tx e d s bg).2)) := by
  obtain ⟨hWf, hst, h56, c, hc, hcs, hL⟩ := hM.2.2 hz
  have h := kp_chapelTold (l := l) (G := G) (hM.1.sh hS) (hM.1.txm hT) hp hL.1.2.1.2.2 hWf.2.1.1 bg
  rw [hM.2.1.self] at h
  exact h.monoV (fun μ' hx => by rw [hx]; exact tm_chap hM hz hp bg)
theorem kt_code (hS : ShM μ0) (hW : WdM μ0) (hT : TxM μ0 tx e) (hM : TM μ0 μ d st s) (hz : s.2.2.1 = 0) (hp : s.1 ≤ e) {w : Nat} (hw : w < 3) (bg : Int32) : AMet l G 9 0 0 mtX13_codesTold [.ref (G.1 + 179), .int (nI w), .int bg] μ (qV (fun μ' => TM μ0 μ' (rCode tx e w d s bg).1 st (rCode tx e w d s bg).2)) := by
  obtain ⟨hWf, hst, h56, c, hc, hcs, hL⟩ := hM.2.2 hz
  have h := kp_codesTold (l := l) (G := G) (hM.1.sh hS) (hM.1.wd hW) (hM.1.txm hT) hM.2.1 hz hp hw hc hcs bg
  exact h.monoV (fun μ' hx => tm_code hT.2.1 hw hM hz hp bg hc hcs hx)
theorem kt_num (hS : ShM μ0) (hT : TxM μ0 tx e) (hM : TM μ0 μ d st s) (hp : s.1 ≤ e) (lo hi : Int32) : AMet l G 1 0 0 mtX13_number [.ref (G.1 + 179), .int lo, .int hi] μ (qI (fun x μ' => x = (mNum tx e s lo hi).1 ∧ μ' = pw μ (mNum tx e s lo hi).2)) := by
  have h := kp_number (l := l) (G := G) (hM.1.sh hS) (hM.1.txm hT) hp lo hi
  rw [hM.2.1.self] at h
  exact h
theorem kt_asks (hS : ShM μ0) (hW : WdM μ0) (hT : TxM μ0 tx e) (hM : TM μ0 μ d st s) (hp : s.1 ≤ e) {a : Nat} {ws : List Nat} (hm : (a, ws) ∈ wdT) : AMet l G 3 0 0 mtX13_asks [.ref (G.1 + 179), .ref (G.1 + a)] μ (qV (fun μ' => TM μ0 μ' d st (mAsks tx e s ws))) := by
  have h := kp_asks (l := l) (G := G) (hM.1.sh hS) (hM.1.wd hW) (hM.1.txm hT) hp hm
  rw [hM.2.1.self] at h
  exact h.monoV (fun μ' hx => by rw [hx]; exact hM.ps (mAsks_bad _ _) (mAsks_ge _ _ hp))
theorem kt_askSign (hS : ShM μ0) (hT : TxM μ0 tx e) (hM : TM μ0 μ d st s) (hp : s.1 ≤ e) (c : Int32) : AMet l G 2 0 0 mtX13_asksSign [.ref (G.1 + 179), .int c] μ (qV (fun μ' => TM μ0 μ' d st (mAskSign tx e s c))) := by
  have h := kp_asksSign (l := l) (G := G) (hM.1.sh hS) (hM.1.txm hT) hp c
  rw [hM.2.1.self] at h
  exact h.monoV (fun μ' hx => by rw [hx]; exact hM.ps (mAskSign_bad _ _) (mAskSign_ge _ _ hp))
theorem kt_statement (hS : ShM μ0) (hW : WdM μ0) (hT : TxM μ0 tx e) (hM : TM μ0 μ d st s) (hz : s.2.2.1 = 0) (hk : sk tx e s.1 = s.1) (hp : s.1 ≤ e) : AMet l G 10 0 0 mtX13_statementTold [.ref (G.1 + 179)] μ (qV (fun μ' => TM μ0 μ' (rStat tx e d st s).1 (rStat tx e d st s).2.1 (rStat tx e d st s).2.2)) := by
  refine AMet.of (by decide) (Nat.le_of_ble_eq_true rfl) (fun X C hX hnm hq => ?_)
  have hS0 := hS
  have hS : ShM μ := hM.1.sh hS
  have he := hT.2.1
  obtain ⟨hWf, hst, h56, c, hc, hcs, hL⟩ := hM.2.2 hz
  have hat : mI μ 179 2 = nI s.1 := hM.2.1.1
  unfold rStat at hq
  by_cases h80 : st = 80
  · rw [if_pos h80] at hq
    refine C.aload_n dX13_statementTold_0 0 rfl ?_
    refine C.getI fX13_270 dX13_statementTold_1 hS.o ?_
    rw [hat]
    refine C.istore_n (lv' := [(0, _), (1, _)]) dX13_statementTold_4 (nLt hX rfl) rfl ?_
    refine C.aload_n dX13_statementTold_5 0 rfl ?_
    refine C.getI fX13_376 dX13_statementTold_6 hS.o ?_
    rw [h56, h80]
    refine C.bipush (nI 80) dX13_statementTold_9 (by decide) ?_
    refine C.icmp_ne 21 dX13_statementTold_11 rfl (fun hc11 => ?_) (fun hc11 => ?_)
    · exact absurd rfl hc11
    · refine C.aload_n dX13_statementTold_14 0 rfl ?_
      refine C.iconst (nI 5) dX13_statementTold_15 (by decide) ?_
      refine C.iload_n dX13_statementTold_16 1 rfl ?_
      refine C.callVV lX13_294 dX13_statementTold_17 ((by have h := kp_fail (l := l) (G := G) hS s (nI 5) (nI s.1); rw [hM.2.1.self] at h; exact h)) hS.o rfl rfl (Nat.le_of_ble_eq_true rfl) (Nat.zero_le _) (Nat.zero_le _) (Nat.le_of_ble_eq_true rfl) (fun μ17 h17 => ?_)
      subst h17
      refine C.vret hq dX13_statementTold_20 ?_
      exact hM.bad (mFail_0 _ _ _ (by decide))
  · rw [if_neg h80] at hq
    have hlb := rBody_le (tx := tx) (d := d) (s := s) he hz hp
    have m214 : ∀ (μ2 : Mm), TM μ0 μ2 (rBody tx e d s).1 st (rBody tx e d s).2 → AW l G X 0 0 214 [(0, .ref (G.1 + 179)), (1, .int (nI s.1))] [] μ2 := by
      intro μ2 hM2
      generalize rBody tx e d s = b at hM2 hlb hq
      have hS : ShM μ2 := hM2.1.sh hS0
      refine C.aload_n dX13_statementTold_214 0 rfl ?_
      refine C.bipush (nI 59) dX13_statementTold_215 (by decide) ?_
      refine C.callVV lX13_344 dX13_statementTold_217 (kt_askSign hS0 hT hM2 hlb.2 _) hS.o rfl rfl (Nat.le_of_ble_eq_true rfl) (Nat.zero_le _) (Nat.zero_le _) (Nat.le_of_ble_eq_true rfl) (fun μ217 h217 => ?_)
      have hS : ShM μ217 := h217.1.sh hS0
      refine C.aload_n dX13_statementTold_220 0 rfl ?_
      refine C.dup dX13_statementTold_221 rfl ?_
      refine C.getI fX13_376 dX13_statementTold_222 hS.o ?_
      refine C.iconst (nI 1) dX13_statementTold_225 (by decide) ?_
      refine C.iadd dX13_statementTold_226 ?_
      refine C.putI fX13_376 (Or.inl rfl) dX13_statementTold_227 hS.o ?_
      refine C.vret hq dX13_statementTold_230 ?_
      exact h217.st56 (fun _ => by omega) _ (fun hz3 => by rw [(h217.2.2 hz3).2.2.1, nI_add])
    unfold rBody at m214
    refine C.aload_n dX13_statementTold_0 0 rfl ?_
    refine C.getI fX13_270 dX13_statementTold_1 hS.o ?_
    rw [hat]
    refine C.istore_n (lv' := [(0, _), (1, _)]) dX13_statementTold_4 (nLt hX rfl) rfl ?_
    refine C.aload_n dX13_statementTold_5 0 rfl ?_
    refine C.getI fX13_376 dX13_statementTold_6 hS.o ?_
    rw [h56]
    refine C.bipush (nI 80) dX13_statementTold_9 (by decide) ?_
    refine C.icmp_ne 21 dX13_statementTold_11 rfl (fun hc11 => ?_) (fun hc11 => ?_)
    · refine C.aload_n dX13_statementTold_21 0 rfl ?_
      refine C.aload_n dX13_statementTold_22 0 rfl ?_
      refine C.getA fX13_30 dX13_statementTold_23 hS.o hS.r14 ?_
      refine C.callVI lX13_291 dX13_statementTold_26 (kt_takes hS0 hW hT hM hz hk hp (List.mem_of_getElem? (l := wdT) (i := 3) rfl)) hS.o rfl rfl (Nat.le_of_ble_eq_true rfl) (Nat.zero_le _) (Nat.zero_le _) (Nat.le_of_ble_eq_true rfl) (fun x26 μ26 h26 => ?_)
      obtain ⟨rfl, tk26, no26⟩ := h26
      refine C.if_eq 40 dX13_statementTold_29 rfl (fun hc29 => ?_) (fun hc29 => ?_)
      · have w26 := b_f hc29
        rw [if_neg w26] at m214
        have hμ26 := no26 w26
        subst hμ26
        refine C.aload_n dX13_statementTold_40 0 rfl ?_
        refine C.aload_n dX13_statementTold_41 0 rfl ?_
        refine C.getA fX13_33 dX13_statementTold_42 hS.o hS.r15 ?_
        refine C.callVI lX13_291 dX13_statementTold_45 (kt_takes hS0 hW hT hM hz hk hp (List.mem_of_getElem? (l := wdT) (i := 4) rfl)) hS.o rfl rfl (Nat.le_of_ble_eq_true rfl) (Nat.zero_le _) (Nat.zero_le _) (Nat.le_of_ble_eq_true rfl) (fun x45 μ45 h45 => ?_)
        obtain ⟨rfl, tk45, no45⟩ := h45
        refine C.if_eq 59 dX13_statementTold_48 rfl (fun hc48 => ?_) (fun hc48 => ?_)
        · have w45 := b_f hc48
          rw [if_neg w45] at m214
          have hμ45 := no45 w45
          subst hμ45
          refine C.aload_n dX13_statementTold_59 0 rfl ?_
          refine C.aload_n dX13_statementTold_60 0 rfl ?_
          refine C.getA fX13_42 dX13_statementTold_61 hS.o hS.r18 ?_
          refine C.callVI lX13_291 dX13_statementTold_64 (kt_takes hS0 hW hT hM hz hk hp (List.mem_of_getElem? (l := wdT) (i := 7) rfl)) hS.o rfl rfl (Nat.le_of_ble_eq_true rfl) (Nat.zero_le _) (Nat.zero_le _) (Nat.le_of_ble_eq_true rfl) (fun x64 μ64 h64 => ?_)
          obtain ⟨rfl, tk64, no64⟩ := h64
          refine C.if_eq 78 dX13_statementTold_67 rfl (fun hc67 => ?_) (fun hc67 => ?_)
          · have w64 := b_f hc67
            rw [if_neg w64] at m214
            have hμ64 := no64 w64
            subst hμ64
            refine C.aload_n dX13_statementTold_78 0 rfl ?_
            refine C.aload_n dX13_statementTold_79 0 rfl ?_
            refine C.getA fX13_54 dX13_statementTold_80 hS.o hS.r22 ?_
            refine C.callVI lX13_291 dX13_statementTold_83 (kt_takes hS0 hW hT hM hz hk hp (List.mem_of_getElem? (l := wdT) (i := 11) rfl)) hS.o rfl rfl (Nat.le_of_ble_eq_true rfl) (Nat.zero_le _) (Nat.zero_le _) (Nat.le_of_ble_eq_true rfl) (fun x83 μ83 h83 => ?_)
            obtain ⟨rfl, tk83, no83⟩ := h83
            refine C.if_eq 98 dX13_statementTold_86 rfl (fun hc86 => ?_) (fun hc86 => ?_)
            · have w83 := b_f hc86
              rw [if_neg w83] at m214
              have hμ83 := no83 w83
              subst hμ83
              refine C.aload_n dX13_statementTold_98 0 rfl ?_
              refine C.aload_n dX13_statementTold_99 0 rfl ?_
              refine C.getA fX13_57 dX13_statementTold_100 hS.o hS.r23 ?_
              refine C.callVI lX13_291 dX13_statementTold_103 (kt_takes hS0 hW hT hM hz hk hp (List.mem_of_getElem? (l := wdT) (i := 12) rfl)) hS.o rfl rfl (Nat.le_of_ble_eq_true rfl) (Nat.zero_le _) (Nat.zero_le _) (Nat.le_of_ble_eq_true rfl) (fun x103 μ103 h103 => ?_)
              obtain ⟨rfl, tk103, no103⟩ := h103
              refine C.if_eq 118 dX13_statementTold_106 rfl (fun hc106 => ?_) (fun hc106 => ?_)
              · have w103 := b_f hc106
                rw [if_neg w103] at m214
                have hμ103 := no103 w103
                subst hμ103
                refine C.aload_n dX13_statementTold_118 0 rfl ?_
                refine C.aload_n dX13_statementTold_119 0 rfl ?_
                refine C.getA fX13_60 dX13_statementTold_120 hS.o hS.r24 ?_
                refine C.callVI lX13_291 dX13_statementTold_123 (kt_takes hS0 hW hT hM hz hk hp (List.mem_of_getElem? (l := wdT) (i := 13) rfl)) hS.o rfl rfl (Nat.le_of_ble_eq_true rfl) (Nat.zero_le _) (Nat.zero_le _) (Nat.le_of_ble_eq_true rfl) (fun x123 μ123 h123 => ?_)
                obtain ⟨rfl, tk123, no123⟩ := h123
                refine C.if_eq 138 dX13_statementTold_126 rfl (fun hc126 => ?_) (fun hc126 => ?_)
                · have w123 := b_f hc126
                  rw [if_neg w123] at m214
                  have hμ123 := no123 w123
                  subst hμ123
                  refine C.aload_n dX13_statementTold_138 0 rfl ?_
                  refine C.aload_n dX13_statementTold_139 0 rfl ?_
                  refine C.getA fX13_63 dX13_statementTold_140 hS.o hS.r25 ?_
                  refine C.callVI lX13_291 dX13_statementTold_143 (kt_takes hS0 hW hT hM hz hk hp (List.mem_of_getElem? (l := wdT) (i := 14) rfl)) hS.o rfl rfl (Nat.le_of_ble_eq_true rfl) (Nat.zero_le _) (Nat.zero_le _) (Nat.le_of_ble_eq_true rfl) (fun x143 μ143 h143 => ?_)
                  obtain ⟨rfl, tk143, no143⟩ := h143
                  refine C.if_eq 165 dX13_statementTold_146 rfl (fun hc146 => ?_) (fun hc146 => ?_)
                  · have w143 := b_f hc146
                    rw [if_neg w143] at m214
                    have hμ143 := no143 w143
                    subst hμ143
                    refine C.aload_n dX13_statementTold_165 0 rfl ?_
                    refine C.aload_n dX13_statementTold_166 0 rfl ?_
                    refine C.getA fX13_66 dX13_statementTold_167 hS.o hS.r26 ?_
                    refine C.callVI lX13_291 dX13_statementTold_170 (kt_takes hS0 hW hT hM hz hk hp (List.mem_of_getElem? (l := wdT) (i := 15) rfl)) hS.o rfl rfl (Nat.le_of_ble_eq_true rfl) (Nat.zero_le _) (Nat.zero_le _) (Nat.le_of_ble_eq_true rfl) (fun x170 μ170 h170 => ?_)
                    obtain ⟨rfl, tk170, no170⟩ := h170
                    refine C.if_eq 193 dX13_statementTold_173 rfl (fun hc173 => ?_) (fun hc173 => ?_)
                    · have w170 := b_f hc173
                      rw [if_neg w170] at m214
                      have hμ170 := no170 w170
                      subst hμ170
                      refine C.aload_n dX13_statementTold_193 0 rfl ?_
                      refine C.aload_n dX13_statementTold_194 0 rfl ?_
                      refine C.getA fX13_69 dX13_statementTold_195 hS.o hS.r27 ?_
                      refine C.callVV lX13_337 dX13_statementTold_198 (kt_asks hS0 hW hT hM hp (List.mem_of_getElem? (l := wdT) (i := 16) rfl)) hS.o rfl rfl (Nat.le_of_ble_eq_true rfl) (Nat.zero_le _) (Nat.zero_le _) (Nat.le_of_ble_eq_true rfl) (fun μ198 h198 => ?_)
                      have hS : ShM μ198 := h198.1.sh hS0
                      refine C.aload_n dX13_statementTold_201 0 rfl ?_
                      refine C.getA fX13_139 dX13_statementTold_202 hS.o hS.r51 ?_
                      refine C.iconst (nI 2) dX13_statementTold_205 (by decide) ?_
                      refine C.aload_n dX13_statementTold_206 0 rfl ?_
                      refine C.iconst (nI 0) dX13_statementTold_207 (by decide) ?_
                      refine C.bipush (nI 100) dX13_statementTold_208 (by decide) ?_
                      refine C.callVI lX13_333 dX13_statementTold_210 (kt_num hS0 hT h198 (mAsks_le _ hp) _ _) hS.o rfl rfl (Nat.le_of_ble_eq_true rfl) (Nat.zero_le _) (Nat.zero_le _) (Nat.le_of_ble_eq_true rfl) (fun x210 μ210 h210 => ?_)
                      obtain ⟨rfl, rfl⟩ := h210
                      have hS : ShM (pw μ198 (mNum tx e (mAsks tx e s wStorm) (nI 0) (nI 100)).2) := hS.pw _
                      have hE := tm_set (tx := tx) (j := 2) (lo := 0) (hi := 100) (by decide) (by decide) h198 (mAsks_le _ hp)
                      refine C.iast hS.a51 (n_in (by decide)) dX13_statementTold_213 ?_
                      (try rw [n_cl])
                      exact m214 _ hE
                    · have w170 := b_t hc173
                      have hl := hereW_len w170 hp
                      have TK := tk170 w170
                      rw [if_pos w170] at m214
                      have hS : ShM μ170 := TK.1.sh hS0
                      refine C.aload_n dX13_statementTold_176 0 rfl ?_
                      refine C.getA fX13_139 dX13_statementTold_177 hS.o hS.r51 ?_
                      refine C.iconst (nI 1) dX13_statementTold_180 (by decide) ?_
                      refine C.aload_n dX13_statementTold_181 0 rfl ?_
                      refine C.iconst (nI 0) dX13_statementTold_182 (by decide) ?_
                      refine C.sipush (nI 999) dX13_statementTold_183 (by decide) ?_
                      refine C.callVI lX13_333 dX13_statementTold_186 (kt_num hS0 hT TK hl _ _) hS.o rfl rfl (Nat.le_of_ble_eq_true rfl) (Nat.zero_le _) (Nat.zero_le _) (Nat.le_of_ble_eq_true rfl) (fun x186 μ186 h186 => ?_)
                      obtain ⟨rfl, rfl⟩ := h186
                      have hS : ShM (pw μ170 (mNum tx e (tkS s wHarm.length) (nI 0) (nI 999)).2) := hS.pw _
                      have hE := tm_set (tx := tx) (j := 1) (lo := 0) (hi := 999) (by decide) (by decide) TK hl
                      refine C.iast hS.a51 (n_in (by decide)) dX13_statementTold_189 ?_
                      refine C.goto 214 dX13_statementTold_190 rfl ?_
                      (try rw [n_cl])
                      exact m214 _ hE
                  · have w143 := b_t hc146
                    have hl := hereW_len w143 hp
                    have TK := tk143 w143
                    rw [if_pos w143] at m214
                    have hS : ShM μ143 := TK.1.sh hS0
                    refine C.aload_n dX13_statementTold_149 0 rfl ?_
                    refine C.getA fX13_139 dX13_statementTold_150 hS.o hS.r51 ?_
                    refine C.iconst (nI 0) dX13_statementTold_153 (by decide) ?_
                    refine C.aload_n dX13_statementTold_154 0 rfl ?_
                    refine C.iconst (nI 1) dX13_statementTold_155 (by decide) ?_
                    refine C.bipush (nI 99) dX13_statementTold_156 (by decide) ?_
                    refine C.callVI lX13_333 dX13_statementTold_158 (kt_num hS0 hT TK hl _ _) hS.o rfl rfl (Nat.le_of_ble_eq_true rfl) (Nat.zero_le _) (Nat.zero_le _) (Nat.le_of_ble_eq_true rfl) (fun x158 μ158 h158 => ?_)
                    obtain ⟨rfl, rfl⟩ := h158
                    have hS : ShM (pw μ143 (mNum tx e (tkS s wYear.length) (nI 1) (nI 99)).2) := hS.pw _
                    have hE := tm_set (tx := tx) (j := 0) (lo := 1) (hi := 99) (by decide) (by decide) TK hl
                    refine C.iast hS.a51 (n_in (by decide)) dX13_statementTold_161 ?_
                    refine C.goto 214 dX13_statementTold_162 rfl ?_
                    (try rw [n_cl])
                    exact m214 _ hE
                · have w123 := b_t hc126
                  have hl := hereW_len w123 hp
                  have TK := tk123 w123
                  rw [if_pos w123] at m214
                  have hS : ShM μ123 := TK.1.sh hS0
                  refine C.aload_n dX13_statementTold_129 0 rfl ?_
                  refine C.iconst (nI 2) dX13_statementTold_130 (by decide) ?_
                  refine C.iload_n dX13_statementTold_131 1 rfl ?_
                  refine C.callVV lX13_388 dX13_statementTold_132 (kt_code hS0 hW hT TK hz hl (w := 2) (by decide) _) hS.o rfl rfl (Nat.le_of_ble_eq_true rfl) (Nat.zero_le _) (Nat.zero_le _) (Nat.le_of_ble_eq_true rfl) (fun μ132 h132 => ?_)
                  have hE := h132
                  refine C.goto 214 dX13_statementTold_135 rfl ?_
                  (try rw [n_cl])
                  exact m214 _ hE
              · have w103 := b_t hc106
                have hl := hereW_len w103 hp
                have TK := tk103 w103
                rw [if_pos w103] at m214
                have hS : ShM μ103 := TK.1.sh hS0
                refine C.aload_n dX13_statementTold_109 0 rfl ?_
                refine C.iconst (nI 1) dX13_statementTold_110 (by decide) ?_
                refine C.iload_n dX13_statementTold_111 1 rfl ?_
                refine C.callVV lX13_388 dX13_statementTold_112 (kt_code hS0 hW hT TK hz hl (w := 1) (by decide) _) hS.o rfl rfl (Nat.le_of_ble_eq_true rfl) (Nat.zero_le _) (Nat.zero_le _) (Nat.le_of_ble_eq_true rfl) (fun μ112 h112 => ?_)
                have hE := h112
                refine C.goto 214 dX13_statementTold_115 rfl ?_
                (try rw [n_cl])
                exact m214 _ hE
            · have w83 := b_t hc86
              have hl := hereW_len w83 hp
              have TK := tk83 w83
              rw [if_pos w83] at m214
              have hS : ShM μ83 := TK.1.sh hS0
              refine C.aload_n dX13_statementTold_89 0 rfl ?_
              refine C.iconst (nI 0) dX13_statementTold_90 (by decide) ?_
              refine C.iload_n dX13_statementTold_91 1 rfl ?_
              refine C.callVV lX13_388 dX13_statementTold_92 (kt_code hS0 hW hT TK hz hl (w := 0) (by decide) _) hS.o rfl rfl (Nat.le_of_ble_eq_true rfl) (Nat.zero_le _) (Nat.zero_le _) (Nat.le_of_ble_eq_true rfl) (fun μ92 h92 => ?_)
              have hE := h92
              refine C.goto 214 dX13_statementTold_95 rfl ?_
              (try rw [n_cl])
              exact m214 _ hE
          · have w64 := b_t hc67
            have hl := hereW_len w64 hp
            have TK := tk64 w64
            rw [if_pos w64] at m214
            have hS : ShM μ64 := TK.1.sh hS0
            refine C.aload_n dX13_statementTold_70 0 rfl ?_
            refine C.iload_n dX13_statementTold_71 1 rfl ?_
            refine C.callVV lX13_385 dX13_statementTold_72 (kt_walk hS0 hW hT TK hz hl _) hS.o rfl rfl (Nat.le_of_ble_eq_true rfl) (Nat.zero_le _) (Nat.zero_le _) (Nat.le_of_ble_eq_true rfl) (fun μ72 h72 => ?_)
            have hE := h72
            refine C.goto 214 dX13_statementTold_75 rfl ?_
            (try rw [n_cl])
            exact m214 _ hE
        · have w45 := b_t hc48
          have hl := hereW_len w45 hp
          have TK := tk45 w45
          rw [if_pos w45] at m214
          have hS : ShM μ45 := TK.1.sh hS0
          refine C.aload_n dX13_statementTold_51 0 rfl ?_
          refine C.iload_n dX13_statementTold_52 1 rfl ?_
          refine C.callVV lX13_382 dX13_statementTold_53 (kt_bell hS0 hW hT TK hz hl _) hS.o rfl rfl (Nat.le_of_ble_eq_true rfl) (Nat.zero_le _) (Nat.zero_le _) (Nat.le_of_ble_eq_true rfl) (fun μ53 h53 => ?_)
          have hE := h53
          refine C.goto 214 dX13_statementTold_56 rfl ?_
          (try rw [n_cl])
          exact m214 _ hE
      · have w26 := b_t hc29
        have hl := hereW_len w26 hp
        have TK := tk26 w26
        rw [if_pos w26] at m214
        have hS : ShM μ26 := TK.1.sh hS0
        refine C.aload_n dX13_statementTold_32 0 rfl ?_
        refine C.iload_n dX13_statementTold_33 1 rfl ?_
        refine C.callVV lX13_379 dX13_statementTold_34 (kt_chap hS0 hT TK hz hl _) hS.o rfl rfl (Nat.le_of_ble_eq_true rfl) (Nat.zero_le _) (Nat.zero_le _) (Nat.le_of_ble_eq_true rfl) (fun μ34 h34 => ?_)
        have hE := h34
        refine C.goto 214 dX13_statementTold_37 rfl ?_
        (try rw [n_cl])
        exact m214 _ hE
    · exact absurd (n_eq (b := 80) hc11) h80
end KMST
