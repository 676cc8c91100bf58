/-! the reference: nights ahead; counts -/

def nightsA (d : Ld) (more : Option Nat) (th : Bool) : Nat → Ac → Ac
  | 0, a => a
  | n + 1, a => nightsA d more th n (nightA d more th false a)
def popN (r : Nat) : Nat := r % 2 + r / 2 % 2 + r / 4 % 2 + r / 8 % 2 + r / 16 % 2
def goneN (S : St) : Nat := S.2.1.countP (fun x => decide (0 < x.2.2.2))
def pursN (S : St) : Nat := (S.2.1.map (fun x => x.2.2.1)).sum
def inN (x : Int32) (n : Nat) : Option Nat := if ¬ x < 0 ∧ x < nI n then some (nn x) else none
theorem inN_some {x : Int32} {n j : Nat} (hn : n < 2147483648) (h : inN x n = some j) : j < n ∧ x = nI j := by
  unfold inN at h
  split at h
  · rename_i q
    obtain ⟨k, hk, e⟩ := in_ex hn q
    have e2 : nn x = j := Option.some.inj h
    rw [e, nn_nI (by omega)] at e2
    subst e2
    exact ⟨hk, e⟩
  · cases h
theorem inN_none {x : Int32} {n : Nat} (h : inN x n = none) : ¬ (¬ x < 0 ∧ x < nI n) := by
  unfold inN at h
  split at h
  · cases h
  · assumption
theorem inN_nI {k n : Nat} (hk : k < 2147483648) (hn : n < 2147483648) : inN (nI k) n = if k < n then some k else none := by
  unfold inN
  by_cases h : k < n
  · rw [if_pos h, if_pos ⟨nI_pos (by omega), (nI_ltI (by omega) (by omega)).mpr h⟩, nn_nI hk]
  · rw [if_neg h, if_neg (fun q => h (n_lt q.2))]
theorem nights_a {d : Ld} (hW : Wf d) {more : Option Nat} {th : Bool} : ∀ (n : Nat) (a : Ac), SWf d a.1 → a.2.2.2 < 64 → a.1.1.1 + n ≤ 999 → SWf d (nightsA d more th n a).1 ∧ (nightsA d more th n a).2.2.2 < 64 ∧ (nightsA d more th n a).1.1 = (a.1.1.1 + n, a.1.1.2)
  | 0, a, h, hm, _ => ⟨h, hm, rfl⟩
  | n + 1, a, h, hm, hn => by
    unfold nightsA
    obtain ⟨q1, q2, q3⟩ := night_a hW (more := more) (th := th) (storm := false) h hm (by omega)
    obtain ⟨r1, r2, r3⟩ := nights_a hW (more := more) (th := th) n _ q1 q2 (by rw [q3]; dsimp only; omega)
    refine ⟨r1, r2, r3.trans ?_⟩
    rw [q3]
    dsimp only
    rw [show a.1.1.1 + 1 + n = a.1.1.1 + (n + 1) by omega]
section KAH
variable {l : Launch} {G : Gm} {μ : Mm} {d : Ld} {S : St}
theorem CtR.st {a : Ac} (hc : CtR μ a) {k : Nat} (h : k ≠ 68 ∧ k ≠ 69 ∧ k ≠ 70) (v : Int32) : CtR (sI μ 179 k v) a := ⟨by rw [mI_sI, if_neg (by omega)]; exact hc.1, by rw [mI_sI, if_neg (by omega)]; exact hc.2.1, by rw [mI_sI, if_neg (by omega)]; exact hc.2.2⟩
theorem kn_nights (hS : ShM μ) (hL : LmH μ 1 1600 d) (hW : Wf d) (hC : LdC d) {th : Bool} (ht : mI μ 179 67 = bI th) {more : Option Nat} (hmo : mI μ 179 66 = opI more) (hm2 : ∀ x, more = some x → x < 49) (hN : RfN μ S) (hSW : SWf d S) {n : Nat} (hn : S.1.1 + n ≤ 999) : AMet l G 8 0 0 mtX13_nightsGo [.ref (G.1 + 179), .int (nI n)] μ (qV (fun μ' => RfN μ' (nightsA d more th n (S, 0, 0, 0)).1 ∧ CtR μ' (nightsA d more th n (S, 0, 0, 0)) ∧ TmG μ μ')) := by
  refine AMet.of (by decide) (Nat.le_of_ble_eq_true rfl) (fun X C hX hnm hq => ?_)
  have hS1 := hS
  generalize hK : nightsA d more th n (S, 0, 0, 0) = K at hq
  have loop : ∀ (j k : Nat) (a : Ac) (μ1 : Mm), k + j = n → nightsA d more th j a = K → TmG μ μ1 → RfN μ1 a.1 → CtR μ1 a → SWf d a.1 → a.2.2.2 < 64 → a.1.1.1 + j ≤ 999 → AW l G X 0 0 17 [(0, .ref (G.1 + 179)), (1, .int (nI n)), (2, .int (nI k))] [] μ1 := by
    intro j
    induction j with
    | zero =>
      intro k a μ1 hk hv hT hN1 hc1 hSW1 hm1 hn1
      subst hv
      refine C.iload_n dX13_nightsGo_17 2 rfl ?_
      refine C.iload_n dX13_nightsGo_18 1 rfl ?_
      refine C.icmp_ge 33 dX13_nightsGo_19 rfl (fun hc19 => ?_) (fun hc19 => ?_)
      · refine C.vret hq dX13_nightsGo_33 ?_
        exact ⟨hN1, hc1, hT⟩
      · have := n_nle (a := n) (b := k) hc19; omega
    | succ j ih =>
      intro k a μ1 hk hv hT hN1 hc1 hSW1 hm1 hn1
      have hS : ShM μ1 := hT.sh hS1
      unfold nightsA at hv
      obtain ⟨q1, q2, q3⟩ := night_a hW (more := more) (th := th) (storm := false) hSW1 hm1 (by omega)
      refine C.iload_n dX13_nightsGo_17 2 rfl ?_
      refine C.iload_n dX13_nightsGo_18 1 rfl ?_
      refine C.icmp_ge 33 dX13_nightsGo_19 rfl (fun hc19 => ?_) (fun hc19 => ?_)
      · have := n_le (a := n) (b := k) hc19; omega
      · refine C.aload_n dX13_nightsGo_22 0 rfl ?_
        refine C.iconst (nI 0) dX13_nightsGo_23 (by decide) ?_
        refine C.callVV lX13_525 dX13_nightsGo_24 (kn_night (storm := false) hS (hT.lm hL) hW hC (by rw [hT.2.1 179 67 (by unfold pG pW; omega) (by decide) (by decide)]; exact ht) (by rw [hT.2.1 179 66 (by unfold pG pW; omega) (by decide) (by decide)]; exact hmo) hm2 hN1 hSW1 hc1 (by omega)) hS.o rfl rfl (Nat.le_of_ble_eq_true rfl) (Nat.zero_le _) (Nat.zero_le _) (Nat.le_of_ble_eq_true rfl) (fun μ24 h24 => ?_)
        refine C.iinc (lv' := [(0, _), (1, _), (2, _)]) _ dX13_nightsGo_27 2 rfl rfl (nLt hX rfl) rfl ?_
        refine C.goto 17 dX13_nightsGo_30 rfl ?_
        have hgo := ih (k + 1) _ μ24 (by omega) hv (hT.trans h24.2.2) h24.1 h24.2.1 q1 q2 (by rw [q3]; dsimp only; omega)
        rw [← nI_1] at hgo
        exact hgo
  refine C.aload_n dX13_nightsGo_0 0 rfl ?_
  refine C.iconst (nI 0) dX13_nightsGo_1 (by decide) ?_
  refine C.putI fX13_503 (Or.inl rfl) dX13_nightsGo_2 hS.o ?_
  refine C.aload_n dX13_nightsGo_5 0 rfl ?_
  refine C.iconst (nI 0) dX13_nightsGo_6 (by decide) ?_
  refine C.putI fX13_509 (Or.inl rfl) dX13_nightsGo_7 hS.o ?_
  refine C.aload_n dX13_nightsGo_10 0 rfl ?_
  refine C.iconst (nI 0) dX13_nightsGo_11 (by decide) ?_
  refine C.putI fX13_506 (Or.inl rfl) dX13_nightsGo_12 hS.o ?_
  refine C.iconst (nI 0) dX13_nightsGo_15 (by decide) ?_
  refine C.istore_n (lv' := [(0, _), (1, _), (2, _)]) dX13_nightsGo_16 (nLt hX rfl) rfl ?_
  exact loop n 0 (S, 0, 0, 0) _ (by omega) hK (((TmG.refl.st (by unfold pG; omega) _).st (by unfold pG; omega) _).st (by unfold pG; omega) _) hN ⟨by simp [mI_sI], by simp [mI_sI], by simp [mI_sI]⟩ hSW (show 0 < 64 by decide) hn
/-- the first 26 numbers of the state are laid aside -/
def AsR (μ : Mm) (f : Nat → Int32) : Prop := ∀ k, k < 26 → mI μ 226 k = f k
theorem kn_aside (hS : ShM μ) : AMet l G 0 0 0 mtX13_putsAside [.ref (G.1 + 179)] μ (qV (fun μ' => mI μ' 179 67 = nI 1 ∧ AsR μ' (mI μ 225) ∧ μ'.2 = μ.2 ∧ ∀ a k, a ≠ 226 → ¬ (a = 179 ∧ k = 67) → mI μ' a k = mI μ a k)) := by
  refine AMet.of (by decide) (Nat.le_of_ble_eq_true rfl) (fun X C hX hnm hq => ?_)
  have hS1 := hS
  have loop : ∀ (j k : Nat) (μ1 : Mm), k + j = 26 → μ1.2 = μ.2 → mI μ1 179 67 = nI 1 → (∀ i, i < k → mI μ1 226 i = mI μ 225 i) → (∀ a i, a ≠ 226 → ¬ (a = 179 ∧ i = 67) → mI μ1 a i = mI μ a i) → AW l G X 0 0 7 [(0, .ref (G.1 + 179)), (1, .int (nI k))] [] μ1 := by
    intro j
    induction j with
    | zero =>
      intro k μ1 hk he h67 hi ho
      refine C.iload_n dX13_putsAside_7 1 rfl ?_
      refine C.bipush (nI 26) dX13_putsAside_8 (by decide) ?_
      refine C.icmp_ge 31 dX13_putsAside_10 rfl (fun hc10 => ?_) (fun hc10 => ?_)
      · refine C.vret hq dX13_putsAside_31 ?_
        exact ⟨h67, fun i h => hi i (by omega), he, ho⟩
      · have := n_nle (a := 26) (b := k) hc10; omega
    | succ j ih =>
      intro k μ1 hk he h67 hi ho
      have hS : ShM μ1 := hS1.of (by rw [he])
      refine C.iload_n dX13_putsAside_7 1 rfl ?_
      refine C.bipush (nI 26) dX13_putsAside_8 (by decide) ?_
      refine C.icmp_ge 31 dX13_putsAside_10 rfl (fun hc10 => ?_) (fun hc10 => ?_)
      · have := n_le (a := 26) (b := k) hc10; omega
      · refine C.aload_n dX13_putsAside_13 0 rfl ?_
        refine C.getA fX13_154 dX13_putsAside_14 hS.o hS.r60 ?_
        refine C.iload_n dX13_putsAside_17 1 rfl ?_
        refine C.aload_n dX13_putsAside_18 0 rfl ?_
        refine C.getA fX13_151 dX13_putsAside_19 hS.o hS.r59 ?_
        refine C.iload_n dX13_putsAside_22 1 rfl ?_
        refine C.iald hS.a59 (n_in (by omega)) dX13_putsAside_23 ?_
        rw [n_cl, ho 225 k (by decide) (by omega)]
        refine C.iast hS.a60 (n_in (by omega)) dX13_putsAside_24 ?_
        rw [n_cl]
        refine C.iinc (lv' := [(0, _), (1, _)]) _ dX13_putsAside_25 1 rfl rfl (nLt hX rfl) rfl ?_
        refine C.goto 7 dX13_putsAside_28 rfl ?_
        have hgo := ih (k + 1) (sI μ1 226 k (mI μ 225 k)) (by omega) he (by rw [mI_sI, if_neg (by omega)]; exact h67) (fun i h => by rw [mI_sI]; by_cases q : i = k; rw [if_pos ⟨rfl, q⟩, q]; rw [if_neg (fun z => q z.2)]; exact hi i (by omega)) (fun a i q q2 => by rw [mI_sI, if_neg (fun z => q z.1)]; exact ho a i q q2)
        rw [← nI_1] at hgo
        exact hgo
  refine C.aload_n dX13_putsAside_0 0 rfl ?_
  refine C.iconst (nI 1) dX13_putsAside_1 (by decide) ?_
  refine C.putZ fX13_495 (Or.inl rfl) dX13_putsAside_2 hS.o (by decide) ?_
  refine C.iconst (nI 0) dX13_putsAside_5 (by decide) ?_
  refine C.istore_n (lv' := [(0, _), (1, _)]) dX13_putsAside_6 (nLt hX rfl) rfl ?_
  exact loop 26 0 _ rfl rfl (by simp [mI_sI]) (fun i h => by omega) (fun a i _ q => by rw [mI_sI, if_neg q])
theorem kn_anew (hS : ShM μ) {f : Nat → Int32} (hA : AsR μ f) : AMet l G 0 0 0 mtX13_triesAnew [.ref (G.1 + 179)] μ (qV (fun μ' => (∀ k, k < 26 → mI μ' 225 k = f k) ∧ μ'.2 = μ.2 ∧ ∀ a k, ¬ (a = 225 ∧ k < 26) → mI μ' a k = mI μ a k)) := by
  refine AMet.of (by decide) (Nat.le_of_ble_eq_true rfl) (fun X C hX hnm hq => ?_)
  have hS1 := hS
  have loop : ∀ (j k : Nat) (μ1 : Mm), k + j = 26 → μ1.2 = μ.2 → (∀ i, i < k → mI μ1 225 i = f i) → (∀ a i, ¬ (a = 225 ∧ i < 26) → mI μ1 a i = mI μ a i) → AW l G X 0 0 2 [(0, .ref (G.1 + 179)), (1, .int (nI k))] [] μ1 := by
    intro j
    induction j with
    | zero =>
      intro k μ1 hk he hi ho
      refine C.iload_n dX13_triesAnew_2 1 rfl ?_
      refine C.bipush (nI 26) dX13_triesAnew_3 (by decide) ?_
      refine C.icmp_ge 26 dX13_triesAnew_5 rfl (fun hc5 => ?_) (fun hc5 => ?_)
      · refine C.vret hq dX13_triesAnew_26 ?_
        exact ⟨fun i h => hi i (by omega), he, ho⟩
      · have := n_nle (a := 26) (b := k) hc5; omega
    | succ j ih =>
      intro k μ1 hk he hi ho
      have hS : ShM μ1 := hS1.of (by rw [he])
      refine C.iload_n dX13_triesAnew_2 1 rfl ?_
      refine C.bipush (nI 26) dX13_triesAnew_3 (by decide) ?_
      refine C.icmp_ge 26 dX13_triesAnew_5 rfl (fun hc5 => ?_) (fun hc5 => ?_)
      · have := n_le (a := 26) (b := k) hc5; omega
      · refine C.aload_n dX13_triesAnew_8 0 rfl ?_
        refine C.getA fX13_151 dX13_triesAnew_9 hS.o hS.r59 ?_
        refine C.iload_n dX13_triesAnew_12 1 rfl ?_
        refine C.aload_n dX13_triesAnew_13 0 rfl ?_
        refine C.getA fX13_154 dX13_triesAnew_14 hS.o hS.r60 ?_
        refine C.iload_n dX13_triesAnew_17 1 rfl ?_
        refine C.iald hS.a60 (n_in (by omega)) dX13_triesAnew_18 ?_
        rw [n_cl, ho 226 k (by omega), hA k (by omega)]
        refine C.iast hS.a59 (n_in (by omega)) dX13_triesAnew_19 ?_
        rw [n_cl]
        refine C.iinc (lv' := [(0, _), (1, _)]) _ dX13_triesAnew_20 1 rfl rfl (nLt hX rfl) rfl ?_
        refine C.goto 2 dX13_triesAnew_23 rfl ?_
        have hgo := ih (k + 1) (sI μ1 225 k (f k)) (by omega) he (fun i h => by rw [mI_sI]; by_cases q : i = k; rw [if_pos ⟨rfl, q⟩, q]; rw [if_neg (fun z => q z.2)]; exact hi i (by omega)) (fun a i q => by rw [mI_sI, if_neg (by omega)]; exact ho a i q)
        rw [← nI_1] at hgo
        exact hgo
  refine C.iconst (nI 0) dX13_triesAnew_0 (by decide) ?_
  refine C.istore_n (lv' := [(0, _), (1, _)]) dX13_triesAnew_1 (nLt hX rfl) rfl ?_
  exact loop 26 0 _ rfl rfl (fun i h => by omega) (fun a i _ => rfl)
theorem kn_back (hS : ShM μ) {f : Nat → Int32} (hA : AsR μ f) : AMet l G 1 0 0 mtX13_takesBack [.ref (G.1 + 179)] μ (qV (fun μ' => (∀ k, k < 26 → mI μ' 225 k = f k) ∧ μ'.2 = μ.2 ∧ mI μ' 179 67 = nI 0 ∧ ∀ a k, ¬ (a = 225 ∧ k < 26) → ¬ (a = 179 ∧ k = 67) → mI μ' a k = mI μ a k)) := by
  refine AMet.of (by decide) (Nat.le_of_ble_eq_true rfl) (fun X C hX hnm hq => ?_)
  refine C.aload_n dX13_takesBack_0 0 rfl ?_
  refine C.callVV lX13_529 dX13_takesBack_1 (kn_anew hS hA) hS.o rfl rfl (Nat.le_of_ble_eq_true rfl) (Nat.zero_le _) (Nat.zero_le _) (Nat.le_of_ble_eq_true rfl) (fun μ1 h1 => ?_)
  obtain ⟨q1, q2, q3⟩ := h1
  have hS : ShM μ1 := hS.of (by rw [q2])
  refine C.aload_n dX13_takesBack_4 0 rfl ?_
  refine C.iconst (nI 0) dX13_takesBack_5 (by decide) ?_
  refine C.putZ fX13_495 (Or.inl rfl) dX13_takesBack_6 hS.o (by decide) ?_
  refine C.vret hq dX13_takesBack_9 ?_
  exact ⟨fun k h => q1 k h, q2, by simp [mI_sI], fun a k z1 z2 => by rw [mI_sI, if_neg z2]; exact q3 a k z1⟩
theorem kn_bits {r : Nat} (hr : r < 32) : AMet l G 0 0 0 mtX13_bits [.int (nI r)] μ (qI (fun x μ' => x = nI (popN r) ∧ μ' = μ)) := by
  have stp : ∀ s, s < 32 → s ≠ 0 → ∃ t, t < s ∧ nI s &&& (nI s - nI 1) = nI t ∧ popN s = popN t + 1 := by
    have h : ∀ s : Fin 32, s.val ≠ 0 → ∃ t : Fin 32, t.val < s.val ∧ nI s.val &&& (nI s.val - nI 1) = nI t.val ∧ popN s.val = popN t.val + 1 := by decide +kernel
    intro s hs h0
    obtain ⟨t, q⟩ := h ⟨s, hs⟩ h0
    exact ⟨t.val, q⟩
  refine AMet.of (by decide) (Nat.le_of_ble_eq_true rfl) (fun X C hX hnm hq => ?_)
  have loop : ∀ (j s n : Nat), s ≤ j → s < 32 → n + popN s = popN r → AW l G X 0 0 4 [(0, .int (nI r)), (1, .int (nI n)), (2, .int (nI s))] [] μ := by
    intro j
    induction j with
    | zero =>
      intro s n hs hs2 hn
      have h0 : s = 0 := by omega
      subst h0
      refine C.iload_n dX13_bits_4 2 rfl ?_
      refine C.if_eq 20 dX13_bits_5 rfl (fun hc5 => ?_) (fun hc5 => ?_)
      · refine C.iload_n dX13_bits_20 1 rfl ?_
        refine C.iret hq dX13_bits_21 ?_
        exact ⟨by rw [← hn]; rfl, rfl⟩
      · exact absurd rfl hc5
    | succ j ih =>
      intro s n hs hs2 hn
      refine C.iload_n dX13_bits_4 2 rfl ?_
      refine C.if_eq 20 dX13_bits_5 rfl (fun hc5 => ?_) (fun hc5 => ?_)
      · have h0 : s = 0 := n_eq (b := 0) hc5
        subst h0
        refine C.iload_n dX13_bits_20 1 rfl ?_
        refine C.iret hq dX13_bits_21 ?_
        exact ⟨by rw [← hn]; rfl, rfl⟩
      · have h0 : s ≠ 0 := fun z => hc5 (by rw [z]; rfl)
        obtain ⟨t, t1, t2, t3⟩ := stp s hs2 h0
        refine C.iinc (lv' := [(0, _), (1, _), (2, _)]) _ dX13_bits_8 1 rfl rfl (nLt hX rfl) rfl ?_
        refine C.iload_n dX13_bits_11 2 rfl ?_
        refine C.iload_n dX13_bits_12 2 rfl ?_
        refine C.iconst (nI 1) dX13_bits_13 (by decide) ?_
        refine C.isub dX13_bits_14 ?_
        refine C.iand dX13_bits_15 ?_
        rw [t2]
        refine C.istore_n (lv' := [(0, _), (1, _), (2, _)]) dX13_bits_16 (nLt hX rfl) rfl ?_
        refine C.goto 4 dX13_bits_17 rfl ?_
        have hgo := ih t (n + 1) (by omega) (by omega) (by omega)
        rw [← nI_1] at hgo
        exact hgo
  refine C.iconst (nI 0) dX13_bits_0 (by decide) ?_
  refine C.istore_n (lv' := [(0, _), (1, _)]) dX13_bits_1 (nLt hX rfl) rfl ?_
  refine C.iload_n dX13_bits_2 0 rfl ?_
  refine C.istore_n (lv' := [(0, _), (1, _), (2, _)]) dX13_bits_3 (nLt hX rfl) rfl ?_
  exact loop r r 0 (by omega) hr (by omega)
theorem take_cnt {α : Type} {L : List α} {p : α → Bool} {k : Nat} {x : α} (h : L[k]? = some x) : (L.take (k + 1)).countP p = (L.take k).countP p + (if p x then 1 else 0) := by
  rw [List.take_add_one, h]
  simp [List.countP_append, List.countP_cons]
theorem take_sum {L : List Nat} {k x : Nat} (h : L[k]? = some x) : (L.take (k + 1)).sum = (L.take k).sum + x := by
  rw [List.take_add_one, h]
  simp
theorem kn_goneMany (hS : ShM μ) (hL : LmH μ 1 1600 d) (hN : RfN μ S) (hl : S.2.1.length = d.2.2.2.1.length) (h6 : d.2.2.2.1.length ≤ 6) (hg : ∀ x ∈ S.2.1, WkOk x) : AMet l G 1 0 0 mtX13_goneMany [.ref (G.1 + 179)] μ (qI (fun x μ' => x = nI (goneN S) ∧ μ' = μ)) := by
  refine AMet.of (by decide) (Nat.le_of_ble_eq_true rfl) (fun X C hX hnm hq => ?_)
  have loop : ∀ (j k : Nat), k + j = d.2.2.2.1.length → AW l G X 0 0 4 [(0, .ref (G.1 + 179)), (1, .int (nI ((S.2.1.take k).countP (fun x => decide (0 < x.2.2.2))))), (2, .int (nI k))] [] μ := by
    intro j
    induction j with
    | zero =>
      intro k hk
      refine C.iload_n dX13_goneMany_4 2 rfl ?_
      refine C.aload_n dX13_goneMany_5 0 rfl ?_
      refine C.callVI lX13_416 dX13_goneMany_6 (kg_walkerMany hS hL) hS.o rfl rfl (Nat.le_of_ble_eq_true rfl) (Nat.zero_le _) (Nat.zero_le _) (Nat.le_of_ble_eq_true rfl) (fun x6 μ6 h6 => ?_)
      obtain ⟨rfl, hμ⟩ := h6
      subst hμ
      refine C.icmp_ge 29 dX13_goneMany_9 rfl (fun hc9 => ?_) (fun hc9 => ?_)
      · refine C.iload_n dX13_goneMany_29 1 rfl ?_
        refine C.iret hq dX13_goneMany_30 ?_
        exact ⟨by unfold goneN; rw [List.take_of_length_le (by omega)], rfl⟩
      · have := n_nle hc9; omega
    | succ j ih =>
      intro k hk
      have hkl : k < S.2.1.length := by omega
      have b4 := (hN.wk hkl).2.2.2
      have hw := hg _ (wkS_mem hkl)
      have htc := take_cnt (p := fun x : Wk => decide (0 < x.2.2.2)) (wkS_q hkl)
      have hgo := ih (k + 1) (by omega)
      rw [htc] at hgo
      obtain ⟨w1, w2, w3, w4⟩ := hw
      refine C.iload_n dX13_goneMany_4 2 rfl ?_
      refine C.aload_n dX13_goneMany_5 0 rfl ?_
      refine C.callVI lX13_416 dX13_goneMany_6 (kg_walkerMany hS hL) hS.o rfl rfl (Nat.le_of_ble_eq_true rfl) (Nat.zero_le _) (Nat.zero_le _) (Nat.le_of_ble_eq_true rfl) (fun x6 μ6 h6 => ?_)
      obtain ⟨rfl, hμ⟩ := h6
      subst hμ
      refine C.icmp_ge 29 dX13_goneMany_9 rfl (fun hc9 => ?_) (fun hc9 => ?_)
      · have := n_le hc9; omega
      · refine C.aload_n dX13_goneMany_12 0 rfl ?_
        refine C.iload_n dX13_goneMany_13 2 rfl ?_
        refine C.callVI lX13_489 dX13_goneMany_14 (ke_gone hS (i := k) (by omega)) hS.o rfl rfl (Nat.le_of_ble_eq_true rfl) (Nat.zero_le _) (Nat.zero_le _) (Nat.le_of_ble_eq_true rfl) (fun x14 μ14 h14 => ?_)
        obtain ⟨rfl, hμ⟩ := h14
        subst hμ
        rw [b4]
        refine C.if_le 23 dX13_goneMany_17 rfl (fun hc17 => ?_) (fun hc17 => ?_)
        · have hz : ¬ 0 < (wkS S k).2.2.2 := fun z => by have := n_le (a := (wkS S k).2.2.2) (b := 0) hc17; omega
          rw [if_neg (by simpa using hz), Nat.add_zero] at hgo
          refine C.iinc (lv' := [(0, _), (1, _), (2, _)]) _ dX13_goneMany_23 2 rfl rfl (nLt hX rfl) rfl ?_
          refine C.goto 4 dX13_goneMany_26 rfl ?_
          rw [← nI_1] at hgo
          exact hgo
        · have hz : 0 < (wkS S k).2.2.2 := n_nle (a := (wkS S k).2.2.2) (b := 0) hc17
          rw [if_pos (by simpa using hz), ← nI_1] at hgo
          refine C.iinc (lv' := [(0, _), (1, _), (2, _)]) _ dX13_goneMany_20 1 rfl rfl (nLt hX rfl) rfl ?_
          refine C.iinc (lv' := [(0, _), (1, _), (2, _)]) _ dX13_goneMany_23 2 rfl rfl (nLt hX rfl) rfl ?_
          refine C.goto 4 dX13_goneMany_26 rfl ?_
          rw [← nI_1] at hgo
          exact hgo
  refine C.iconst (nI 0) dX13_goneMany_0 (by decide) ?_
  refine C.istore_n (lv' := [(0, _), (1, _)]) dX13_goneMany_1 (nLt hX rfl) rfl ?_
  refine C.iconst (nI 0) dX13_goneMany_2 (by decide) ?_
  refine C.istore_n (lv' := [(0, _), (1, _), (2, _)]) dX13_goneMany_3 (nLt hX rfl) rfl ?_
  exact loop d.2.2.2.1.length 0 (by omega)
theorem kn_purses (hS : ShM μ) (hL : LmH μ 1 1600 d) (hN : RfN μ S) (hl : S.2.1.length = d.2.2.2.1.length) (h6 : d.2.2.2.1.length ≤ 6) : AMet l G 1 0 0 mtX13_pursesAll [.ref (G.1 + 179)] μ (qI (fun x μ' => x = nI (pursN S) ∧ μ' = μ)) := by
  refine AMet.of (by decide) (Nat.le_of_ble_eq_true rfl) (fun X C hX hnm hq => ?_)
  have loop : ∀ (j k : Nat), k + j = d.2.2.2.1.length → AW l G X 0 0 4 [(0, .ref (G.1 + 179)), (1, .int (nI (((S.2.1.map (fun x => x.2.2.1)).take k).sum))), (2, .int (nI k))] [] μ := by
    intro j
    induction j with
    | zero =>
      intro k hk
      refine C.iload_n dX13_pursesAll_4 2 rfl ?_
      refine C.aload_n dX13_pursesAll_5 0 rfl ?_
      refine C.callVI lX13_416 dX13_pursesAll_6 (kg_walkerMany hS hL) hS.o rfl rfl (Nat.le_of_ble_eq_true rfl) (Nat.zero_le _) (Nat.zero_le _) (Nat.le_of_ble_eq_true rfl) (fun x6 μ6 h6 => ?_)
      obtain ⟨rfl, hμ⟩ := h6
      subst hμ
      refine C.icmp_ge 26 dX13_pursesAll_9 rfl (fun hc9 => ?_) (fun hc9 => ?_)
      · refine C.iload_n dX13_pursesAll_26 1 rfl ?_
        refine C.iret hq dX13_pursesAll_27 ?_
        exact ⟨by unfold pursN; rw [List.take_of_length_le (by simp; omega)], rfl⟩
      · have := n_nle hc9; omega
    | succ j ih =>
      intro k hk
      have hkl : k < S.2.1.length := by omega
      have b3 := (hN.wk hkl).2.2.1
      have hts := take_sum (L := S.2.1.map (fun x => x.2.2.1)) (k := k) (x := (wkS S k).2.2.1) (by rw [List.getElem?_map, wkS_q hkl]; rfl)
      have hgo := ih (k + 1) (by omega)
      rw [hts] at hgo
      refine C.iload_n dX13_pursesAll_4 2 rfl ?_
      refine C.aload_n dX13_pursesAll_5 0 rfl ?_
      refine C.callVI lX13_416 dX13_pursesAll_6 (kg_walkerMany hS hL) hS.o rfl rfl (Nat.le_of_ble_eq_true rfl) (Nat.zero_le _) (Nat.zero_le _) (Nat.le_of_ble_eq_true rfl) (fun x6 μ6 h6 => ?_)
      obtain ⟨rfl, hμ⟩ := h6
      subst hμ
      refine C.icmp_ge 26 dX13_pursesAll_9 rfl (fun hc9 => ?_) (fun hc9 => ?_)
      · have := n_le hc9; omega
      · refine C.iload_n dX13_pursesAll_12 1 rfl ?_
        refine C.aload_n dX13_pursesAll_13 0 rfl ?_
        refine C.iload_n dX13_pursesAll_14 2 rfl ?_
        refine C.callVI lX13_498 dX13_pursesAll_15 (ke_purse hS (i := k) (by omega)) hS.o rfl rfl (Nat.le_of_ble_eq_true rfl) (Nat.zero_le _) (Nat.zero_le _) (Nat.le_of_ble_eq_true rfl) (fun x15 μ15 h15 => ?_)
        obtain ⟨rfl, hμ⟩ := h15
        subst hμ
        rw [b3]
        refine C.iadd dX13_pursesAll_18 ?_
        rw [nI_add]
        refine C.istore_n (lv' := [(0, _), (1, _), (2, _)]) dX13_pursesAll_19 (nLt hX rfl) rfl ?_
        refine C.iinc (lv' := [(0, _), (1, _), (2, _)]) _ dX13_pursesAll_20 2 rfl rfl (nLt hX rfl) rfl ?_
        refine C.goto 4 dX13_pursesAll_23 rfl ?_
        rw [← nI_1] at hgo
        exact hgo
  refine C.iconst (nI 0) dX13_pursesAll_0 (by decide) ?_
  refine C.istore_n (lv' := [(0, _), (1, _)]) dX13_pursesAll_1 (nLt hX rfl) rfl ?_
  refine C.iconst (nI 0) dX13_pursesAll_2 (by decide) ?_
  refine C.istore_n (lv' := [(0, _), (1, _), (2, _)]) dX13_pursesAll_3 (nLt hX rfl) rfl ?_
  exact loop d.2.2.2.1.length 0 (by omega)
end KAH
