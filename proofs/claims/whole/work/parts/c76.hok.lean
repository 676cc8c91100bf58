/-! what both tell of stays well formed -/
section HKP
variable {h : Hs}
theorem LdOk.wf {d : Ld} (h : LdOk d) (hp : 0 < d.1.1) : Wf d := by
  rcases h with q | q
  · exact q
  · rw [q] at hp
    exact absurd hp (by decide)
theorem LdOk.n5 {d : Ld} (h : LdOk d) : d.2.2.1.length ≤ 5 ∧ d.2.2.2.1.length ≤ 6 := by
  rcases h with q | q
  · exact ⟨q.2.2.1.1, q.2.2.2.1.1⟩
  · rw [q]
    exact ⟨by decide, by decide⟩
theorem pushP_ok {d : Ld} {S : St} {ps : List St} (hS : SWf d S) (hp : ps.length ≤ 20 ∧ ∀ T ∈ ps, SWf d T) : (pushP S ps).length ≤ 20 ∧ ∀ T ∈ pushP S ps, SWf d T := by
  unfold pushP
  refine ⟨by rw [List.length_take]; exact Nat.min_le_left _ _, fun T hT => ?_⟩
  rcases List.mem_cons.mp (List.mem_of_mem_take hT) with e | e
  · rw [e]; exact hS
  · exact hp.2 T e
theorem hk_rfs (hH : HOk h) (j : Nat) : HOk (rfsH h j) := ⟨⟨hH.1.1, hH.1.2.1, hH.1.2.2.1, hH.1.2.2.2.1, hH.1.2.2.2.2.1, hH.1.2.2.2.2.2⟩, hH.2⟩
theorem hk_act (hH : HOk h) {S : St} (hS : SWf (ldH h) S) : HOk (actH h S) := ⟨⟨hH.1.1, hS, pushP_ok hH.1.2.1 hH.1.2.2.1, hH.1.2.2.2.1, hH.1.2.2.2.2.1, hH.1.2.2.2.2.2⟩, hH.2⟩
theorem hk_tp (hH : HOk h) {tp : List Nat} {fl : Int32 × Int32} {rf : Nat → Int32} (ht : tp.length ≤ 1600 ∧ ∀ x ∈ tp, x < 256) : HOk (tp, fl, rf, ldH h, stH h, psH h, rwH h, ocH h, sdH h) := ⟨⟨hH.1.1, hH.1.2.1, hH.1.2.2.1, hH.1.2.2.2.1, ht, hH.1.2.2.2.2.2⟩, hH.2⟩
theorem nil_tp : ([] : List Nat).length ≤ 1600 ∧ ∀ x ∈ ([] : List Nat), x < 256 := ⟨by decide, fun x hx => nil_m hx⟩
theorem byN_256 (w : Int32) (j : Nat) : byN w j < 256 := by
  obtain ⟨k, h1, h2⟩ := and255 (w >>> (nI (8 * (3 - j)) &&& 31))
  unfold byN
  rw [h2, nn_nI (by omega)]
  exact h1
theorem hk_feed (hH : HOk h) (a b c d e : Int32) : HOk (feedH h a b c d e) := by
  unfold feedH
  split
  · rename_i hl
    refine hk_tp hH ⟨?_, fun x hx => ?_⟩
    · rw [List.length_append]
      have : (fdB a b c d e).length = 20 := by unfold fdB; rw [List.length_map, List.length_range]
      omega
    · rcases List.mem_append.mp hx with q | q
      · exact hH.1.2.2.2.2.1.2 x q
      · unfold fdB at q
        obtain ⟨k, -, rfl⟩ := List.mem_map.mp q
        exact byN_256 _ _
  · exact hk_rfs hH 0
theorem hk_end (hH : HOk h) (x : Int32) : HOk (endH h x) := by
  unfold endH
  split
  · refine hk_tp hH ⟨?_, fun y hy => hH.1.2.2.2.2.1.2 y (List.mem_of_mem_take hy)⟩
    rw [List.length_take]
    exact Nat.le_trans (Nat.min_le_right _ _) hH.1.2.2.2.2.1.1
  · exact hk_rfs hH 0
theorem st0_wf {d : Ld} (hW : Wf d) : SWf d (st0 d) := by
  refine ⟨Nat.zero_le _, Nat.pos_of_ne_zero (by simp), by unfold st0; rw [List.length_map], fun x hx => ?_, by simp [st0], fun x hx => nil_m hx⟩
  unfold st0 at hx
  obtain ⟨y, hy, rfl⟩ := List.mem_map.mp hx
  exact ⟨(hW.2.2.2.1.2 y hy).2.2.2, Nat.zero_le _, Nat.zero_le _, Nat.zero_le _⟩
theorem hk_land (hH : HOk h) {R : Ld × Nat × Ps} (hW : R.2.2.2.2.1 = 0 → Wf R.1 ∧ LdC R.1) : HOk (landH h R) := by
  unfold landH
  split
  · rename_i hz
    obtain ⟨h1, h2⟩ := hW hz
    exact ⟨⟨Or.inl h1, st0_wf h1, ⟨Nat.zero_le _, fun x hx => nil_m hx⟩, ⟨Nat.zero_le _, fun x hx => nil_m hx⟩, nil_tp, hH.1.2.2.2.2.2⟩, h2⟩
  · exact hk_tp hH nil_tp
theorem hk_see (hH : HOk h) : HOk (seeH h) := by
  unfold seeH
  split
  · rename_i hk
    unfold seeOk seeB at hk
    simp only [Bool.and_eq_true, decide_eq_true_eq, List.all_eq_true, List.mem_range] at hk
    obtain ⟨⟨h0, h1, h2, h3⟩, h4⟩ := hk
    have hW := hH.1.1.wf h0
    refine ⟨⟨hH.1.1, hH.1.2.1, hH.1.2.2.1, ⟨?_, fun x hx => ?_⟩, nil_tp, hH.1.2.2.2.2.2⟩, hH.2⟩
    · show (seeR h).length ≤ 12
      unfold seeR
      rw [List.length_map, List.length_range]
      exact h3
    · have hx' : x ∈ seeR h := hx
      unfold seeR at hx'
      obtain ⟨k, hk, rfl⟩ := List.mem_map.mp hx'
      have g := h4 k (List.mem_range.mp hk)
      unfold seeG at g
      simp only [Bool.and_eq_true, decide_eq_true_eq] at g
      have := hW.1
      show txL (tpH h) (3 * k) < 12 ∧ clOk (ldH h) (txL (tpH h) (3 * k + 1) + 7 * txL (tpH h) (3 * k + 2))
      unfold clOk
      exact ⟨g.1, by omega, by omega⟩
  · exact hk_tp hH nil_tp
theorem hk_ring (hH : HOk h) (x y : Int32) : HOk (ringH h x y) := by
  unfold ringH
  split
  · rename_i b hb
    refine hk_act hH ?_
    have hb5 : b < (ldH h).2.2.1.length := by
      unfold ringO at hb
      split at hb
      · rename_i b' hb'
        have q := (inN_some (by have := hH.1.1.n5; omega) hb').1
        split at hb
        · split at hb
          · cases hb
          · cases hb
            exact q
        · cases hb
      · cases hb
    obtain ⟨s1, s2, s3⟩ := hH.1.2.1
    exact ⟨s1, Nat.xor_lt_two_pow s2 (Nat.pow_lt_pow_right (by decide) hb5), s3⟩
  · exact hk_rfs hH 2
theorem hk_does (hH : HOk h) (x y : Int32) : HOk (doesH h x y) := by
  unfold doesH
  split
  · rename_i w m hb
    refine hk_act hH ?_
    unfold doesO at hb
    split at hb
    · rename_i w' hw'
      have q := (inN_some (by have := hH.1.1.n5; omega) hw').1
      split at hb
      · rename_i m' hm'
        have q2 := (inN_some (by decide) hm').1
        split at hb
        · cases hb
        · cases hb
          obtain ⟨k1, k2⟩ := hH.1.2.1.wk q
          exact hH.1.2.1.put ⟨by show m ≤ 3; omega, k2⟩
      · cases hb
    · cases hb
  · exact hk_rfs hH 2
theorem hk_nights (hH : HOk h) (x : Int32) : HOk (nightsH h x) := by
  unfold nightsH
  split
  · rename_i n hn
    obtain ⟨h0, -, -, h3, -⟩ := ahdN_some (by decide) (by decide) hn
    exact hk_act hH (nights_a (hH.1.1.wf h0) n (stH h, 0, 0, 0) hH.1.2.1 (by show 0 < 64; decide) h3).1
  · exact hk_rfs hH 3
theorem drw_31 (sd : Nat) : drw sd < 2 ^ 31 := by
  unfold drw
  exact Nat.mod_lt _ (by decide)
theorem chnL_wf {d : Ld} (hW : Wf d) : ∀ (n : Nat) (a : St × Nat × Nat), SWf d a.1 → a.2.1 < 2 ^ 31 → a.1.1.1 + n ≤ 999 → SWf d (chnL d n a).1 ∧ (chnL d n a).2.1 < 2 ^ 31
  | 0, a, h1, h2, _ => ⟨h1, h2⟩
  | n + 1, a, h1, h2, h3 => by
    have q := night_a hW (more := none) (th := false) (storm := stmB d a.2.1) (a := (a.1, 0, 0, 0)) h1 (by show 0 < 64; decide) (by show a.1.1.1 < 999; omega)
    unfold chnL
    refine chnL_wf hW n _ q.1 (drw_31 _) ?_
    dsimp only
    rw [q.2.2]
    dsimp only
    omega
theorem hk_chance (hH : HOk h) (x : Int32) : HOk (chanceH h x) := by
  unfold chanceH
  split
  · rename_i n hn
    obtain ⟨h0, -, -, h3, -⟩ := ahdN_some (by decide) (by decide) hn
    have q := chnL_wf (hH.1.1.wf h0) n (stH h, sdH h, 0) hH.1.2.1 hH.1.2.2.2.2.2 h3
    exact ⟨⟨hH.1.1, q.1, pushP_ok hH.1.2.1 hH.1.2.2.1, hH.1.2.2.2.1, hH.1.2.2.2.2.1, q.2⟩, hH.2⟩
  · exact hk_rfs hH 3
theorem hk_undo (hH : HOk h) : HOk (undoH h) := by
  unfold undoH
  split
  · exact hk_rfs hH 4
  · rename_i S ps e
    have hp := hH.1.2.2.1
    rw [e] at hp
    exact ⟨⟨hH.1.1, hp.2 S (List.mem_cons_self ..), ⟨by have := hp.1; rw [List.length_cons] at this; show ps.length ≤ 20; omega, fun T hT => hp.2 T (List.mem_cons_of_mem _ hT)⟩, hH.1.2.2.2.1, hH.1.2.2.2.2.1, hH.1.2.2.2.2.2⟩, hH.2⟩
theorem nn_31 (x : Int32) : nn x < 2 ^ 31 := by
  have h1 := Int32.toInt_lt x
  show x.toInt.toNat < 2 ^ 31
  omega
theorem hk_seed (hH : HOk h) (x : Int32) : HOk (seedH h x) := by
  unfold seedH
  split
  · exact hk_rfs hH 5
  · exact ⟨⟨hH.1.1, hH.1.2.1, hH.1.2.2.1, hH.1.2.2.2.1, hH.1.2.2.2.2.1, nn_31 x⟩, hH.2⟩
theorem hk_ask (hH : HOk h) (q : Nat × Tt) : HOk (askH h q) := by
  unfold askH
  split <;> exact hk_tp hH nil_tp
theorem hk_image (hH : HOk h) : HOk (imageH h) := ⟨⟨hH.1.1, hH.1.2.1, hH.1.2.2.1, hH.1.2.2.2.1, hH.1.2.2.2.2.1, hH.1.2.2.2.2.2⟩, hH.2⟩
theorem hk_on (hH : HOk h) : HOk (onH h) := by
  unfold onH
  split
  · rename_i hk
    obtain ⟨h0, h1, h2, h3, h4⟩ := onOk_len hk
    refine ⟨⟨hH.1.1, ⟨h2, h3, ?_, fun x hx => ?_, Nat.zero_le _, fun x hx => nil_m hx⟩, ⟨Nat.zero_le _, fun x hx => nil_m hx⟩, hH.1.2.2.2.1, nil_tp, hH.1.2.2.2.2.2⟩, hH.2⟩
    · show (onS h).2.1.length = (ldH h).2.2.2.1.length
      unfold onS
      rw [List.length_map, List.length_range]
    · have hx' : x ∈ (onS h).2.1 := hx
      unfold onS at hx'
      obtain ⟨w, hw, rfl⟩ := List.mem_map.mp hx'
      have g := h4 w (List.mem_range.mp hw)
      unfold onG at g
      simp only [Bool.and_eq_true, decide_eq_true_eq] at g
      exact g
  · exact hk_tp hH nil_tp
end HKP
