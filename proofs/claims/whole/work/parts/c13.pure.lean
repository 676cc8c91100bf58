/-! nights ahead: what is told doesn't matter; a chapel where it never comes changes nothing -/
def EqT (a b : Ac) : Prop := a.1.1 = b.1.1 ∧ a.1.2.1 = b.1.2.1 ∧ a.2 = b.2
section NTH
variable {d : Ld}
theorem wkS_eq {S T : St} (h : S.2.1 = T.2.1) (w : Nat) : wkS S w = wkS T w := by unfold wkS; rw [h]
theorem eqW {ride : Nat → Nat} {t1 t2 storm : Bool} {a b : Ac} (h : EqT a b) (w : Nat) : EqT (nightW d ride t1 storm a w) (nightW d ride t2 storm b w) := by
  obtain ⟨h1, h2, h3⟩ := h
  have hw := wkS_eq h2 w
  unfold nightW
  rw [hw]
  by_cases q : 0 < (wkS b.1 w).2.2.2
  · rw [if_pos q, if_pos q]
    exact ⟨h1, by show a.1.2.1.set _ _ = b.1.2.1.set _ _; rw [h2], h3⟩
  · rw [if_neg q, if_neg q]
    cases storm with
    | true => exact ⟨h1, h2, h3⟩
    | false =>
      simp only [Bool.false_eq_true, if_false]
      cases hm : mtF d ride (wkS b.1 w) w with
      | none => exact ⟨h1, h2, h3⟩
      | some k =>
        unfold meetA
        dsimp only
        rw [hw, h1, h2, h3]
        exact ⟨rfl, rfl, rfl⟩
theorem eqL {ride : Nat → Nat} {t1 t2 storm : Bool} : ∀ (n w : Nat) (a b : Ac), EqT a b → EqT (nightL d ride t1 storm n w a) (nightL d ride t2 storm n w b)
  | 0, _, _, _, h => h
  | n + 1, w, a, b, h => eqL n (w + 1) _ _ (eqW h w)
theorem eqA {more : Option Nat} {t1 t2 storm : Bool} {a b : Ac} (h : EqT a b) : EqT (nightA d more t1 storm a) (nightA d more t2 storm b) := by
  have hr : rideN d more a.1 = rideN d more b.1 := by unfold rideN; rw [h.1]
  unfold nightA
  rw [hr]
  obtain ⟨k1, k2, k3⟩ := eqL (d := d) (ride := rideN d more b.1) (t1 := t1) (t2 := t2) (storm := storm) d.2.2.2.1.length 0 a b h
  exact ⟨by dsimp only; rw [k1], k2, k3⟩
/-- as the class lets nights go by: who was met is begun anew each night -/
def nitC (d : Ld) (more : Option Nat) : Nat → St × Nat × Nat → St × Nat × Nat
  | 0, a => a
  | n + 1, a => nitC d more n ((nightA d more false false (a.1, a.2.1, a.2.2, 0)).1, (nightA d more false false (a.1, a.2.1, a.2.2, 0)).2.1, (nightA d more false false (a.1, a.2.1, a.2.2, 0)).2.2.1)
def EqC (a : Ac) (b : St × Nat × Nat) : Prop := a.1.1 = b.1.1 ∧ a.1.2.1 = b.1.2.1 ∧ a.2.1 = b.2.1 ∧ a.2.2.1 = b.2.2
theorem eqC1 {more : Option Nat} {th : Bool} {a : Ac} {b : St × Nat × Nat} (h : EqC a b) : EqC (nightA d more th false a) ((nightA d more false false (b.1, b.2.1, b.2.2, 0)).1, (nightA d more false false (b.1, b.2.1, b.2.2, 0)).2.1, (nightA d more false false (b.1, b.2.1, b.2.2, 0)).2.2.1) := by
  obtain ⟨h1, h2, h3, h4⟩ := h
  rw [nightA_ac more th false a, nightA_ac more false false (b.1, b.2.1, b.2.2, 0)]
  obtain ⟨k1, k2, k3⟩ := eqA (d := d) (more := more) (t1 := th) (t2 := false) (storm := false) (a := (a.1, 0, 0, 0)) (b := (b.1, 0, 0, 0)) ⟨h1, h2, rfl⟩
  unfold acA
  dsimp only
  exact ⟨k1, k2, by rw [h3, k3], by rw [h4, k3]⟩
theorem eqCn {more : Option Nat} {th : Bool} : ∀ (n : Nat) (a : Ac) (b : St × Nat × Nat), EqC a b → EqC (nightsA d more th n a) (nitC d more n b)
  | 0, _, _, h => h
  | n + 1, a, b, h => eqCn n _ _ (eqC1 h)
theorem nitC_wf (hW : Wf d) {more : Option Nat} : ∀ (n : Nat) (b : St × Nat × Nat), SWf d b.1 → b.1.1.1 + n ≤ 999 → SWf d (nitC d more n b).1
  | 0, b, h, _ => h
  | n + 1, b, h, hn => by
    have hn' : b.1.1.1 < 999 := by omega
    obtain ⟨k1, k2⟩ := night_a0 hW (more := more) (th := false) (storm := false) (a := (b.1, b.2.1, b.2.2, 0)) h hn'
    refine nitC_wf hW n _ k1 ?_
    dsimp only
    rw [k2]
    dsimp only
    omega
/-- where it came, over the nights -/
def entC (d : Ld) (more : Option Nat) : Nat → St × Nat × Nat → Nat → Nat
  | 0, _, E => E
  | n + 1, a, E => entC d more n ((nightA d more false false (a.1, a.2.1, a.2.2, 0)).1, (nightA d more false false (a.1, a.2.1, a.2.2, 0)).2.1, (nightA d more false false (a.1, a.2.1, a.2.2, 0)).2.2.1) (E ||| enB d (rideN d more a.1))
theorem enP_tb (hW : Wf d) {ride : Nat → Nat} {n c : Nat} (hc : clOk d c) : (enP d ride n).testBit (kC d c) = (List.range n).any (fun h => mvF ride h c) := by
  unfold enP
  rw [bsF_tb, decide_eq_true (kC_lt hc), Bool.true_and, cK_kC hc]
theorem entC_mono {more : Option Nat} {k : Nat} : ∀ (n : Nat) (a : St × Nat × Nat) (E : Nat), E.testBit k = true → (entC d more n a E).testBit k = true
  | 0, _, _, h => h
  | n + 1, a, E, h => entC_mono n _ _ (by rw [Nat.testBit_or, h]; rfl)
theorem entC_lt (hW : Wf d) {more : Option Nat} : ∀ (n : Nat) (a : St × Nat × Nat) (E : Nat), E < 2 ^ 49 → entC d more n a E < 2 ^ 49
  | 0, _, _, h => h
  | n + 1, a, E, h => entC_lt hW n _ _ (Nat.or_lt_two_pow h (bsF_49 hW.n49.2))
theorem cb_ne {y w x : Nat} (hw : 1 ≤ w ∧ w ≤ 8) (h : cb d y w = some x) : x ≠ y := by
  unfold cb at h
  split at h
  · rename_i q
    have e := (Option.some.inj h).symm
    intro z
    rw [z] at e
    have hh : acN w ≠ 1 ∨ dnN w ≠ 1 := by
      rcases (show w = 1 ∨ w = 2 ∨ w = 3 ∨ w = 4 ∨ w = 5 ∨ w = 6 ∨ w = 7 ∨ w = 8 by omega) with rfl | rfl | rfl | rfl | rfl | rfl | rfl | rfl <;> decide
    have a3 : acN w ≤ 2 := by unfold acN; split; omega; split <;> omega
    have b3 : dnN w ≤ 2 := by unfold dnN; split; omega; split <;> omega
    omega
  · cases h
/-- either it stays, or it goes to an open cell -/
theorem nxF_open {cl : Nat → Bool} {way y : Nat} : nxF d cl way y = y ∨ cl (nxF d cl way y) = false := by
  have hg : ∀ m k, nxG d cl way y m k = y ∨ cl (nxG d cl way y m k) = false := by
    intro m
    induction m with
    | zero => intro k; exact Or.inl rfl
    | succ m ih =>
      intro k
      unfold nxG
      cases hcb : cb d y ((way - 1 + k) % 8 + 1) with
      | none => exact ih _
      | some z =>
        dsimp only
        by_cases q : cl z = true
        · rw [if_pos q]; exact ih _
        · rw [if_neg q]; exact Or.inr (by simpa using q)
  unfold nxF
  split
  · exact Or.inl rfl
  · exact hg _ _
/-- one more closed cell to which it doesn't go changes nothing -/
theorem nxF_more {cl cl' : Nat → Bool} {c way y : Nat} (h : ∀ z, cl' z = (cl z || decide (z = c))) (hn : nxF d cl way y = y ∨ nxF d cl way y ≠ c) : nxF d cl' way y = nxF d cl way y := by
  have hg : ∀ m k, (nxG d cl way y m k = y ∨ nxG d cl way y m k ≠ c) → nxG d cl' way y m k = nxG d cl way y m k := by
    intro m
    induction m with
    | zero => intro k _; rfl
    | succ m ih =>
      intro k hq
      unfold nxG at hq ⊢
      cases hcb : cb d y ((way - 1 + k) % 8 + 1) with
      | none =>
        rw [hcb] at hq
        exact ih _ hq
      | some z =>
        rw [hcb] at hq
        dsimp only at hq ⊢
        rw [h z]
        by_cases q : cl z = true
        · rw [if_pos q] at hq
          rw [q, Bool.true_or, if_pos rfl, if_pos rfl]
          exact ih _ hq
        · have q0 : cl z = false := by simpa using q
          rw [q0] at hq ⊢
          rw [if_neg (by decide)] at hq
          have hne := cb_ne ⟨by omega, by omega⟩ hcb
          have hzc : z ≠ c := hq.elim (fun e => absurd e hne) id
          rw [decide_eq_false hzc, Bool.or_self, if_neg (by decide), if_neg (by decide)]
  unfold nxF at hn ⊢
  split
  · rfl
  · rename_i hw
    rw [if_neg hw] at hn
    exact hg _ _ hn
theorem rF_more {cl cl' : Nat → Bool} {c ng st : Nat} (h : ∀ z, cl' z = (cl z || decide (z = c))) : ∀ n, (List.range n).any (fun k => mvF (rF d cl ng st) k c) = false → rF d cl' ng st n = rF d cl ng st n
  | 0, _ => rfl
  | n + 1, q => by
    rw [any_succ, Bool.or_eq_false_iff] at q
    have ih := rF_more h n q.1
    have hm := q.2
    have e1 : rF d cl ng st (n + 1) = nxF d cl (wayF d n ng (rF d cl ng st n)) (rF d cl ng st n) := rfl
    have e2 : rF d cl' ng st (n + 1) = nxF d cl' (wayF d n ng (rF d cl' ng st n)) (rF d cl' ng st n) := rfl
    rw [e1, e2, ih]
    apply nxF_more h
    unfold mvF at hm
    rw [e1] at hm
    by_cases z : nxF d cl (wayF d n ng (rF d cl ng st n)) (rF d cl ng st n) = rF d cl ng st n
    · exact Or.inl z
    · right
      intro w
      rw [decide_eq_true z, Bool.true_and] at hm
      exact of_decide_eq_false hm w
theorem mtF_cong {r1 r2 : Nat → Nat} (h : ∀ k, k < 12 → r1 k = r2 k) (x : Wk) (w : Nat) : mtF d r1 x w = mtF d r2 x w := by
  unfold mtF
  split
  · rfl
  · exact fsF_cong 12 0 (fun j _ hj => by rw [h j (by omega)])
theorem nightL_cong {r1 r2 : Nat → Nat} {th storm : Bool} (h : ∀ k, k < 12 → r1 k = r2 k) : ∀ (n w : Nat) (a : Ac), nightL d r1 th storm n w a = nightL d r2 th storm n w a
  | 0, _, _ => rfl
  | n + 1, w, a => by
    have e : nightW d r1 th storm a w = nightW d r2 th storm a w := by
      unfold nightW
      rw [mtF_cong h]
    unfold nightL
    rw [e]
    exact nightL_cong h n _ _
theorem ride_more (hW : Wf d) {S : St} {c : Nat} (hc : clOk d c) (h : (enB d (rideN d none S)).testBit (kC d c) = false) : ∀ k, k < 12 → rideN d (some c) S k = rideN d none S k := by
  intro k hk
  rw [enP_tb hW hc] at h
  unfold rideN at h ⊢
  refine rF_more (c := c) (fun z => ?_) k ?_
  · unfold cls
    have : decide (some c = some z) = decide (z = c) := by
      by_cases q : z = c
      · subst q; simp
      · simp [q, Ne.symm q]
    rw [this]
    simp only [decide_false, Bool.or_false, reduceCtorEq]
    cases decide (z ∈ d.2.1) <;> cases ringF d S.1.2 z <;> cases decide (z = c) <;> rfl
  · rw [Bool.eq_false_iff] at h ⊢
    intro q
    obtain ⟨x, hx, hx2⟩ := List.any_eq_true.mp q
    exact h (List.any_eq_true.mpr ⟨x, List.mem_range.mpr (by have := List.mem_range.mp hx; omega), hx2⟩)
theorem nit_more (hW : Wf d) {c : Nat} (hc : clOk d c) : ∀ (n : Nat) (a : St × Nat × Nat) (E : Nat), (entC d none n a E).testBit (kC d c) = false → nitC d (some c) n a = nitC d none n a
  | 0, _, _, _ => rfl
  | n + 1, a, E, h => by
    have h0 : (enB d (rideN d none a.1)).testBit (kC d c) = false := by
      cases q : (enB d (rideN d none a.1)).testBit (kC d c) with
      | false => rfl
      | true =>
        have := entC_mono (d := d) (more := none) (k := kC d c) n ((nightA d none false false (a.1, a.2.1, a.2.2, 0)).1, (nightA d none false false (a.1, a.2.1, a.2.2, 0)).2.1, (nightA d none false false (a.1, a.2.1, a.2.2, 0)).2.2.1) (E ||| enB d (rideN d none a.1)) (by rw [Nat.testBit_or, q, Bool.or_true])
        unfold entC at h
        rw [this] at h
        cases h
    have hr := ride_more hW hc h0
    have e : nightA d (some c) false false (a.1, a.2.1, a.2.2, 0) = nightA d none false false (a.1, a.2.1, a.2.2, 0) := by
      unfold nightA
      dsimp only
      rw [nightL_cong hr]
    unfold nitC
    rw [e]
    exact nit_more hW hc n _ _ h
/-- it never comes to a chapel -/
theorem ent_chap (hW : Wf d) {c : Nat} (hc : clOk d c) (hin : c ∈ d.2.1) : ∀ (n : Nat) (a : St × Nat × Nat) (E : Nat), E.testBit (kC d c) = false → (entC d none n a E).testBit (kC d c) = false
  | 0, _, _, h => h
  | n + 1, a, E, h => by
    unfold entC
    refine ent_chap hW hc hin n _ _ ?_
    rw [Nat.testBit_or, h, Bool.false_or, enP_tb hW hc, Bool.eq_false_iff]
    intro q
    obtain ⟨x, hx, hx2⟩ := List.any_eq_true.mp q
    unfold mvF at hx2
    rw [Bool.and_eq_true] at hx2
    have m1 := of_decide_eq_true hx2.1
    have m2 := of_decide_eq_true hx2.2
    have hop : rideN d none a.1 (x + 1) = rideN d none a.1 x ∨ cls d none a.1.1.2 (rideN d none a.1 (x + 1)) = false := nxF_open
    rcases hop with z | z
    · exact m1 z
    · rw [m2] at z
      unfold cls at z
      rw [decide_eq_true hin] at z
      cases z
theorem chapM_nit {S : St} (n : Nat) (more : Option Nat) : chapM d S n more = (nitC d more n (S, 0, 0)).2.1 := (eqCn (more := more) (th := true) n (S, 0, 0, 0) (S, 0, 0) ⟨rfl, rfl, rfl, rfl⟩).2.2.1
end NTH
