/-! the four readings of the class and the reference's; codes that are typed are well formed; names -/
theorem m_15 : ∀ k : Fin 10, (15 : Nat).testBit k.val = alw (nI 0) (nI k.val) := by decide +kernel
theorem m_115 : ∀ k : Fin 10, (115 : Nat).testBit k.val = alw (nI 1) (nI k.val) := by decide +kernel
theorem m_1023 : ∀ k : Fin 10, (1023 : Nat).testBit k.val = alw (nI 2) (nI k.val) := by decide +kernel
theorem al_0 : ∀ k : Fin 9, alw (nI 0) (nI k.val) = true → al0 k.val = true := by decide +kernel
theorem al_1 : ∀ k : Fin 9, alw (nI 1) (nI k.val) = true → al1 k.val = true := by decide +kernel
theorem al_2 : ∀ k : Fin 9, alw (nI 2) (nI k.val) = true → al2 k.val = true := by decide +kernel
section INS
variable {tx : Nat → Nat} {e : Nat} {s : Ps}
def cRd (tx : Nat → Nat) (e w : Nat) (s : Ps) : Pt := if w = 2 then cTests tx e (cFc tx e 115 6) (([], false), s) else cSums tx e (cPt tx e (if w = 0 then 15 else 115) 6) (([], false), s)
theorem rdg_code (he : e ≤ 1600) (hz : s.2.2.1 = 0) (hs : s.1 ≤ e) {w : Nat} (hw : w < 3) : Rdg tx e (alW w) false (decide (w = 2)) (rdCode tx e w s) s (cRd tx e w s) := by
  rcases (show w = 0 ∨ w = 1 ∨ w = 2 by omega) with h | h | h
  · subst h
    exact rdg_sums (tk := nI 0) (al := al0) (q := false) he (fun k hk => m_15 ⟨k, hk⟩) (fun k hk => al_0 ⟨k, hk⟩) (fun h => absurd h (by decide)) hz hs
  · subst h
    exact rdg_sums (tk := nI 1) (al := al1) (q := false) he (fun k hk => m_115 ⟨k, hk⟩) (fun k hk => al_1 ⟨k, hk⟩) (fun h => absurd h (by decide)) hz hs
  · subst h
    exact rdg_test (tk := nI 1) (al := al1) (q := false) he (fun k hk => m_115 ⟨k, hk⟩) (fun k hk => al_1 ⟨k, hk⟩) (fun h => absurd h (by decide)) hz hs
theorem rdg_askT (he : e ≤ 1600) (hz : s.2.2.1 = 0) (hs : s.1 ≤ e) : Rdg tx e al2 true true (tTest tx e (nI 2) (t0 s)) s (cTests tx e (cFc tx e 1023 6) (([], false), s)) := rdg_test (tk := nI 2) (al := al2) (q := true) he (fun k hk => m_1023 ⟨k, hk⟩) (fun k hk => al_2 ⟨k, hk⟩) (fun _ => rfl) hz hs
theorem rdg_askS (he : e ≤ 1600) (hz : s.2.2.1 = 0) (hs : s.1 ≤ e) : Rdg tx e al2 true false (sSums tx e (nI 2) (t0 s)) s (cSums tx e (cPt tx e 1023 6) (([], false), s)) := rdg_sums (tk := nI 2) (al := al2) (q := true) he (fun k hk => m_1023 ⟨k, hk⟩) (fun k hk => al_2 ⟨k, hk⟩) (fun _ => rfl) hz hs
end INS
theorem n_ge {a b : Nat} (ha : a < 2147483648) (hb : b < 2147483648) : (nI a ≤ nI b) = (a ≤ b) := propext (nI_leI ha hb)
theorem TyS.wf {al : Nat → Bool} {q : Bool} {n : Nat} {ts t : List Bool} (h : TyS al q n ts t) : okC al q (nI n) ts.length ∧ nxC (nI n) ts.length = t.length := by
  have hn : n < 100000 := by rcases h with h | h | h | h | h | h | h | h <;> omega
  have e1 : (nI n = nI 13) = (n = 13) := propext ⟨fun z => n_eq z, fun z => by rw [z]⟩
  have e2 : (nI n = nI 12) = (n = 12) := propext ⟨fun z => n_eq z, fun z => by rw [z]⟩
  have e3 : (nI n = nI 60) = (n = 60) := propext ⟨fun z => n_eq z, fun z => by rw [z]⟩
  unfold okC nxC
  simp only [n_ge (show 1000 < 2147483648 by omega) (show n < 2147483648 by omega), n_ge (show 60 < 2147483648 by omega) (show n < 2147483648 by omega), n_ge (show 40 < 2147483648 by omega) (show n < 2147483648 by omega), n_ge (show n < 2147483648 by omega) (show 48 < 2147483648 by omega), e1, e2, e3]
  rcases h with h | h | h | h | h | h | h | h
  · obtain ⟨h1, h2, h3⟩ := h
    simp only [if_pos h1, h3]
    exact ⟨trivial, rfl⟩
  · obtain ⟨h1, h2, r, h3, h4⟩ := h
    have b1 : ¬ 1000 ≤ n := by omega
    have b2 : 60 ≤ n := by omega
    simp only [if_neg b1, if_pos b2, h3, h4]
    exact ⟨⟨h1, h2, by simp⟩, by simp⟩
  · obtain ⟨h1, h2, h3, h4⟩ := h
    have b1 : ¬ 1000 ≤ n := by omega
    have b2 : ¬ 60 ≤ n := by omega
    simp only [if_neg b1, if_neg b2, if_pos h1, h4, pk_sub h1, nn_nI (show n - 40 < 2147483648 by omega)]
    exact ⟨⟨h3, h2⟩, rfl⟩
  · obtain ⟨h1, h2⟩ := h
    have b1 : ¬ 1000 ≤ n := by omega
    have b2 : ¬ 60 ≤ n := by omega
    have b3 : ¬ 40 ≤ n := by omega
    simp only [if_neg b1, if_neg b2, if_neg b3, if_pos h1, h2]
    exact ⟨trivial, rfl⟩
  · obtain ⟨h1, r, h2, h3⟩ := h
    have b1 : ¬ 1000 ≤ n := by omega
    have b2 : ¬ 60 ≤ n := by omega
    have b3 : ¬ 40 ≤ n := by omega
    have b4 : ¬ n = 13 := by omega
    simp only [if_neg b1, if_neg b2, if_neg b3, if_neg b4, if_pos h1, h2, h3]
    exact ⟨by simp, by simp⟩
  · obtain ⟨h1, h2, r, h3, h4⟩ := h
    have b1 : ¬ 1000 ≤ n := by omega
    have b2 : ¬ 60 ≤ n := by omega
    have b3 : ¬ 40 ≤ n := by omega
    have b4 : ¬ n = 13 := by omega
    have b5 : ¬ n = 12 := by omega
    simp only [if_neg b1, if_neg b2, if_neg b3, if_neg b4, if_neg b5, h3, h4]
    exact ⟨by simp, by simp⟩
  · obtain ⟨h1, h2, r, h3, h4⟩ := h
    have b1 : ¬ 1000 ≤ n := by omega
    have b2 : ¬ 60 ≤ n := by omega
    have b3 : ¬ 40 ≤ n := by omega
    have b4 : ¬ n = 13 := by omega
    have b5 : ¬ n = 12 := by omega
    simp only [if_neg b1, if_neg b2, if_neg b3, if_neg b4, if_neg b5, h3, h4]
    exact ⟨by simp, by simp⟩
  · obtain ⟨h1, h2, r, h3, h4⟩ := h
    have b1 : ¬ 1000 ≤ n := by omega
    have b2 : ¬ 60 ≤ n := by omega
    have b3 : ¬ 40 ≤ n := by omega
    have b4 : ¬ n = 13 := by omega
    have b5 : ¬ n = 12 := by omega
    simp only [if_neg b1, if_neg b2, if_neg b3, if_neg b4, if_neg b5, h3, h4]
    exact ⟨by simp, by simp⟩
theorem TyR.wf {al : Nat → Bool} {q b : Bool} : ∀ (ns : List Nat) (ts : List Bool), TyR al q ns ts [b] → wfC al q (ns.map nI) ts.length
  | [], ts, h => by
    have : ts = [b] := h
    rw [this]
    rfl
  | n :: ns, ts, h => by
    obtain ⟨t, h1, h2, h3⟩ := h
    obtain ⟨k1, k2⟩ := h1.wf
    refine ⟨k1, ?_⟩
    rw [k2]
    exact TyR.wf ns t h3
theorem nm27_inj {a b : List Nat} (ha : nmOk a) (hb : nmOk b) (h : nm27 a = nm27 b) : a = b := by
  obtain ⟨a1, a2⟩ := nm27_dg a.length a rfl ha.2.2
  obtain ⟨b1, b2⟩ := nm27_dg b.length b rfl hb.2.2
  have hl : a.length = b.length := by rw [← a1, ← b1, h]
  refine List.ext_getElem hl (fun k h1 h2 => ?_)
  have e1 := a2 k h1
  have e2 := b2 k h2
  rw [← hl, ← h, e1] at e2
  rw [List.getD_eq_getElem?_getD, List.getD_eq_getElem?_getD, List.getElem?_eq_getElem h1, List.getElem?_eq_getElem h2] at e2
  exact e2
theorem nmR.eq {v v' : Nat} {x x' : Int32} (h : nmR v x) (h' : nmR v' x') : x = x' ↔ v = v' := by
  obtain ⟨ls, h1, h2, h3⟩ := h
  obtain ⟨ls', k1, k2, k3⟩ := h'
  have hlt : ∀ (l : List Nat), nmOk l → nm32 l < 2147483648 := by
    intro l hl
    have hg : ∀ k, l.getD k 0 ≤ 26 := by
      intro k
      rw [List.getD_eq_getElem?_getD]
      cases hk : l[k]? with
      | none => simp
      | some y => exact (hl.2.2 y (List.mem_of_getElem? hk)).2
    have := hg 0
    have := hg 1
    have := hg 2
    have := hg 3
    have := hg 4
    have := hg 5
    unfold nm32
    omega
  constructor
  · intro e
    rw [h3, k3] at e
    have := nm32_inj h1 k1 (n_eq e (hlt ls h1) (hlt ls' k1))
    rw [h2, k2, this]
  · intro e
    rw [h2, k2] at e
    have := nm27_inj h1 k1 e
    rw [h3, k3, this]
