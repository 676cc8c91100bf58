/-! the reference: peal, rest -/

def betB (best : Option Nat) (k : Nat) : Bool := match best with
  | none => true
  | some b => decide (popN k < popN b)
def selS (P : Nat → Bool) (best : Option Nat) (k : Nat) : Option Nat := if betB best k && P k then some k else best
theorem selS_p {P : Nat → Bool} {b : Option Nat} {k : Nat} (h1 : betB b k = true) (h2 : P k = true) : selS P b k = some k := by unfold selS; rw [h1, h2]; rfl
theorem selS_1 {P : Nat → Bool} {b : Option Nat} {k : Nat} (h1 : betB b k = false) : selS P b k = b := by unfold selS; rw [h1]; rfl
theorem selS_2 {P : Nat → Bool} {b : Option Nat} {k : Nat} (h2 : P k = false) : selS P b k = b := by unfold selS; rw [h2, Bool.and_false]; rfl
def selL (P : Nat → Bool) : Nat → Nat → Option Nat → Option Nat
  | 0, _, b => b
  | n + 1, k, b => selL P n (k + 1) (selS P b k)
def rideB (h : Hs) (set : Nat) : Nat → Nat := rF (ldH h) (cls (ldH h) none set) (stH h).1.1 (ldH h).1.2.2
def noMet (h : Hs) (ride : Nat → Nat) : Bool := (List.range (ldH h).2.2.2.1.length).all (fun w => decide (mtF (ldH h) ride (wkS (stH h) w) w = none))
def restP (h : Hs) (set : Nat) : Bool := (List.range (ldH h).2.2.1.length).all (fun b => decide (lossF (ldH h) (rideB h set) set b ≤ lossF (ldH h) (rideB h (set ^^^ 2 ^ b)) (set ^^^ 2 ^ b) b))
def pealA (h : Hs) : Int32 := if 0 < (ldH h).1.1 then opI (selL (fun k => noMet h (rideB h k)) (2 ^ (ldH h).2.2.1.length) 0 none) else -1
def restA (h : Hs) : Int32 := if 0 < (ldH h).1.1 then opI (selL (restP h) (2 ^ (ldH h).2.2.1.length) 0 none) else -1
theorem all_succ {k : Nat} {f : Nat → Bool} : (List.range (k + 1)).all f = ((List.range k).all f && f k) := by rw [List.range_succ, List.all_append]; simp
theorem all_le {f : Nat → Bool} {k n : Nat} (hk : k < n) (h : f k = false) : (List.range n).all f = false := by
  rw [Bool.eq_false_iff]
  intro q
  rw [List.all_eq_true] at q
  have := q k (List.mem_range.mpr hk)
  rw [h] at this
  cases this
theorem shl1 {n : Nat} (hn : n ≤ 5) : nI 1 <<< (nI n &&& 31) = nI (2 ^ n) := by
  have h : ∀ n : Fin 6, nI 1 <<< (nI n.val &&& 31) = nI (2 ^ n.val) := by decide
  exact h ⟨n, by omega⟩
theorem xor1 {s b : Nat} (hs : s < 32) (hb : b < 5) : nI s ^^^ (nI 1 <<< (nI b &&& 31)) = nI (s ^^^ 2 ^ b) ∧ s ^^^ 2 ^ b < 32 := by
  have h : ∀ s : Fin 32, ∀ b : Fin 5, nI s.val ^^^ (nI 1 <<< (nI b.val &&& 31)) = nI (s.val ^^^ 2 ^ b.val) ∧ s.val ^^^ 2 ^ b.val < 32 := by decide +kernel
  exact h ⟨s, hs⟩ ⟨b, hb⟩
theorem pow5 {n : Nat} (hn : n ≤ 5) : 1 ≤ 2 ^ n ∧ 2 ^ n ≤ 32 := by
  have h : ∀ n : Fin 6, 1 ≤ 2 ^ n.val ∧ 2 ^ n.val ≤ 32 := by decide
  exact h ⟨n, by omega⟩
theorem popN_lt {r : Nat} : popN r < 10 := by unfold popN; omega
section KPL
variable {l : Launch} {G : Gm} {μ : Mm} {h : Hs}
theorem TmR.trans {μ' μ'' : Mm} (t : TmR μ μ') (t2 : TmR μ' μ'') : TmR μ μ'' := ⟨t2.1.trans t.1, fun a k q q2 => (t2.2.1 a k q q2).trans (t.2.1 a k q q2), fun a k q => (t2.2.2 a k q).trans (t.2.2 a k q)⟩
theorem TmR.refl : TmR μ μ := ⟨rfl, fun _ _ _ _ => rfl, fun _ _ _ => rfl⟩
/-- a ride is laid from the land's begin for any bells -/
theorem kr_lays {μ1 : Mm} (hR : RefRel μ h) (hT : TmR μ μ1) (hH : HOk h) (hW : Wf (ldH h)) {set c : Nat} (hs : set < 32) (hc : clOk (ldH h) c) : AMet l G 5 0 0 mtX13_laysRide [.ref (G.1 + 179), .int (nI c), .int (nI set)] μ1 (qV (fun μ' => (∀ k, k < 12 → mI μ' 228 k = nI (rF (ldH h) (cls (ldH h) none set) (stH h).1.1 c k) ∧ rF (ldH h) (cls (ldH h) none set) (stH h).1.1 c k < 49) ∧ TmR μ μ')) := by
  have hR1 := (hR.tmR hT).1
  have sw := hH.1.2.1
  exact (ke_laysRide (more := none) hR1.1.1 hR1.2.2.2.2.1.1 hW hH.2 hR1.2.2.2.2.2.1.1 (by have := sw.1; omega) hR1.1.2.2.1 (fun x q => by cases q) hc (by omega)).monoV (fun μ' q => ⟨fun k hk => ⟨q.1 k hk, clOk_lt hW (rF_ok hW hc k)⟩, hT.trans q.2⟩)
theorem kr_anyMet {μ1 : Mm} (hR : RefRel μ h) (hT : TmR μ μ1) (hH : HOk h) (hW : Wf (ldH h)) {ride : Nat → Nat} (hri : ∀ k, k < 12 → mI μ1 228 k = nI (ride k) ∧ ride k < 49) : AMet l G 3 0 0 mtX13_isAnyMet [.ref (G.1 + 179)] μ1 (qI (fun x μ' => x = bI (!noMet h ride) ∧ μ' = μ1)) := by
  refine AMet.of (by decide) (Nat.le_of_ble_eq_true rfl) (fun X C hX hnm hq => ?_)
  have hR1 := (hR.tmR hT).1
  have hS := hR1.1.1
  have hL := hR1.2.2.2.2.1.1
  have hN := hR1.2.2.2.2.2.1
  have sm := hH.1.1.sm
  have sw := hH.1.2.1
  have loop : ∀ (j k : Nat), k + j = (ldH h).2.2.2.1.length → (List.range k).all (fun w => decide (mtF (ldH h) ride (wkS (stH h) w) w = none)) = true → AW l G X 0 0 2 [(0, .ref (G.1 + 179)), (1, .int (nI k))] [] μ1 := by
    intro j
    induction j with
    | zero =>
      intro k hk ha
      refine C.iload_n dX13_isAnyMet_2 1 rfl ?_
      refine C.aload_n dX13_isAnyMet_3 0 rfl ?_
      refine C.callVI lX13_416 dX13_isAnyMet_4 (kg_walkerMany hS hL) hS.o rfl rfl (Nat.le_of_ble_eq_true rfl) (Nat.zero_le _) (Nat.zero_le _) (Nat.le_of_ble_eq_true rfl) (fun x4 μ4 h4 => ?_)
      obtain ⟨rfl, hμ⟩ := h4
      subst hμ
      refine C.icmp_ge 27 dX13_isAnyMet_7 rfl (fun hc7 => ?_) (fun hc7 => ?_)
      · refine C.iconst (nI 0) dX13_isAnyMet_27 (by decide) ?_
        refine C.zret hq dX13_isAnyMet_28 (by decide) ?_
        refine ⟨?_, rfl⟩
        unfold noMet
        rw [← show k = (ldH h).2.2.2.1.length by omega, ha]
        rfl
      · have := n_nle hc7; omega
    | succ j ih =>
      intro k hk ha
      have hkl : k < (ldH h).2.2.2.1.length := by omega
      have hx := sw.wk hkl
      obtain ⟨b1, b2, b3, b4⟩ := hN.wk (show k < (stH h).2.1.length by rw [sw.2.2.1]; exact hkl)
      refine C.iload_n dX13_isAnyMet_2 1 rfl ?_
      refine C.aload_n dX13_isAnyMet_3 0 rfl ?_
      refine C.callVI lX13_416 dX13_isAnyMet_4 (kg_walkerMany hS hL) hS.o rfl rfl (Nat.le_of_ble_eq_true rfl) (Nat.zero_le _) (Nat.zero_le _) (Nat.le_of_ble_eq_true rfl) (fun x4 μ4 h4 => ?_)
      obtain ⟨rfl, hμ⟩ := h4
      subst hμ
      refine C.icmp_ge 27 dX13_isAnyMet_7 rfl (fun hc7 => ?_) (fun hc7 => ?_)
      · have := n_le hc7; omega
      · refine C.aload_n dX13_isAnyMet_10 0 rfl ?_
        refine C.iload_n dX13_isAnyMet_11 1 rfl ?_
        refine C.callVI lX13_519 dX13_isAnyMet_12 (ke_meetsAt hS hL hW hkl hri (x := wkS (stH h) k) b1 (by rw [← b4]; congr 1; omega) hx.1 hx.2.2.2) hS.o rfl rfl (Nat.le_of_ble_eq_true rfl) (Nat.zero_le _) (Nat.zero_le _) (Nat.le_of_ble_eq_true rfl) (fun x12 μ12 h12 => ?_)
        obtain ⟨rfl, hμ⟩ := h12
        subst hμ
        cases hm : mtF (ldH h) ride (wkS (stH h) k) k with
        | none =>
          refine C.iconst (-1) dX13_isAnyMet_15 (by decide) ?_
          refine C.icmp_eq 21 dX13_isAnyMet_16 rfl (fun hc16 => ?_) (fun hc16 => absurd rfl hc16)
          refine C.iinc (lv' := [(0, _), (1, _)]) _ dX13_isAnyMet_21 1 rfl rfl (nLt hX rfl) rfl ?_
          refine C.goto 2 dX13_isAnyMet_24 rfl ?_
          have hgo := ih (k + 1) (by omega) (by rw [all_succ, ha, hm]; rfl)
          rw [← nI_1] at hgo
          exact hgo
        | some t =>
        have ht12 := mtF_lt hm
        change AW l G X _ _ _ _ [Value.int (nI t)] _
        refine C.iconst (-1) dX13_isAnyMet_15 (by decide) ?_
        refine C.icmp_eq 21 dX13_isAnyMet_16 rfl (fun hc16 => ?_) (fun hc16 => ?_)
        · exact absurd hc16 (n_m1 (by omega))
        · refine C.iconst (nI 1) dX13_isAnyMet_19 (by decide) ?_
          refine C.zret hq dX13_isAnyMet_20 (by decide) ?_
          refine ⟨?_, rfl⟩
          unfold noMet
          rw [all_le hkl (by rw [hm]; rfl)]
          rfl
  refine C.iconst (nI 0) dX13_isAnyMet_0 (by decide) ?_
  refine C.istore_n (lv' := [(0, _), (1, _)]) dX13_isAnyMet_1 (nLt hX rfl) rfl ?_
  exact loop _ 0 (Nat.zero_add _) rfl
theorem selS_lt {P : Nat → Bool} {b : Option Nat} {k n : Nat} (hb : ∀ x, b = some x → x < n) (hk : k < n) : ∀ x, selS P b k = some x → x < n := by
  intro x hx
  unfold selS at hx
  split at hx
  · have := Option.some.inj hx; omega
  · exact hb x hx
theorem kr_peal (hR : RefRel μ h) (hH : HOk h) : AMet l G 6 0 0 mtX13_peal [.ref (G.1 + 179)] μ (qI (fun x μ' => x = pealA h ∧ PR μ h μ')) := by
  refine AMet.of (by decide) (Nat.le_of_ble_eq_true rfl) (fun X C hX hnm hq => ?_)
  have sm := hH.1.1.sm
  have h57 := hR.2.2.2.2.1.2
  unfold pealA at hq
  by_cases hp : 0 < (ldH h).1.1
  · rw [if_pos hp] at h57 hq
    have hW := hH.1.1.w1 hp
    have p5 := pow5 sm.2.2.2.1
    generalize hK : selL (fun k => noMet h (rideB h k)) (2 ^ (ldH h).2.2.1.length) 0 none = K at hq
    have hS := hR.1.1
    have loop : ∀ (j k : Nat) (b : Option Nat) (μ1 : Mm), k + j = 2 ^ (ldH h).2.2.1.length → selL (fun k => noMet h (rideB h k)) j k b = K → TmR μ μ1 → (∀ x, b = some x → x < 32) → AW l G X 0 0 13 [(0, .ref (G.1 + 179)), (1, .int (opI b)), (2, .int (nI k))] [] μ1 := by
      intro j
      induction j with
      | zero =>
        intro k b μ1 hk hv hT hb
        have hR1 := (hR.tmR hT).1
        have hS := hR1.1.1
        have hL := hR1.2.2.2.2.1.1
        refine C.iload_n dX13_peal_13 2 rfl ?_
        refine C.iconst (nI 1) dX13_peal_14 (by decide) ?_
        refine C.aload_n dX13_peal_15 0 rfl ?_
        refine C.callVI lX13_413 dX13_peal_16 (kg_bellMany hS hL) hS.o rfl rfl (Nat.le_of_ble_eq_true rfl) (Nat.zero_le _) (Nat.zero_le _) (Nat.le_of_ble_eq_true rfl) (fun x16 μ16 h16 => ?_)
        obtain ⟨rfl, hμ⟩ := h16
        subst hμ
        refine C.ishl dX13_peal_19 ?_
        rw [shl1 sm.2.2.2.1]
        refine C.icmp_ge 68 dX13_peal_20 rfl (fun hc20 => ?_) (fun hc20 => ?_)
        · refine C.iload_n dX13_peal_68 1 rfl ?_
          refine C.iret hq dX13_peal_69 ?_
          exact ⟨by rw [← hv]; rfl, hR.tmR hT⟩
        · have := n_nle hc20; omega
      | succ j ih =>
        intro k b μ1 hk hv hT hb
        have hR1 := (hR.tmR hT).1
        have hS := hR1.1.1
        have hL := hR1.2.2.2.2.1.1
        have hk32 : k < 32 := by omega
        unfold selL at hv
        have nxt : ∀ (μ2 : Mm) (b2 : Option Nat), b2 = selS (fun k => noMet h (rideB h k)) b k → TmR μ μ2 → AW l G X 0 0 62 [(0, .ref (G.1 + 179)), (1, .int (opI b2)), (2, .int (nI k))] [] μ2 := by
          intro μ2 b2 e hT2
          subst e
          refine C.iinc (lv' := [(0, _), (1, _), (2, _)]) _ dX13_peal_62 2 rfl rfl (nLt hX rfl) rfl ?_
          refine C.goto 13 dX13_peal_65 rfl ?_
          have hgo := ih (k + 1) _ μ2 (by omega) hv hT2 (selS_lt hb hk32)
          rw [← nI_1] at hgo
          exact hgo
        have m42 : betB b k = true → AW l G X 0 0 42 [(0, .ref (G.1 + 179)), (1, .int (opI b)), (2, .int (nI k))] [] μ1 := by
          intro hz
          refine C.aload_n dX13_peal_42 0 rfl ?_
          refine C.aload_n dX13_peal_43 0 rfl ?_
          refine C.getA fX13_120 dX13_peal_44 hS.o hS.r45 ?_
          refine C.iconst (nI 5) dX13_peal_47 (by decide) ?_
          refine C.iald hS.a45 (n_in (by decide)) dX13_peal_48 ?_
          rw [n_cl, show mI μ1 215 5 = nI (ldH h).1.2.2 from hL.1.1.2.2]
          refine C.iload_n dX13_peal_49 2 rfl ?_
          refine C.callVV lX13_480 dX13_peal_50 (kr_lays hR hT hH hW hk32 hW.1.2.2.2.2) hS.o rfl rfl (Nat.le_of_ble_eq_true rfl) (Nat.zero_le _) (Nat.zero_le _) (Nat.le_of_ble_eq_true rfl) (fun μ50 h50 => ?_)
          obtain ⟨hri, hT2⟩ := h50
          have hS : ShM μ50 := (hR.tmR hT2).1.1.1
          refine C.aload_n dX13_peal_53 0 rfl ?_
          refine C.callVI lX13_567 dX13_peal_54 (kr_anyMet (ride := rideB h k) hR hT2 hH hW hri) hS.o rfl rfl (Nat.le_of_ble_eq_true rfl) (Nat.zero_le _) (Nat.zero_le _) (Nat.le_of_ble_eq_true rfl) (fun x54 μ54 h54 => ?_)
          obtain ⟨rfl, hμ⟩ := h54
          subst hμ
          refine C.if_ne 62 dX13_peal_57 rfl (fun hc57 => ?_) (fun hc57 => ?_)
          · have hz2 := b_t hc57
            exact nxt _ b (selS_2 (by simpa using hz2)).symm hT2
          · have hz2 := (bI_0 _).mp hc57
            refine C.iload_n dX13_peal_60 2 rfl ?_
            refine C.istore_n (lv' := [(0, _), (1, _), (2, _)]) dX13_peal_61 (nLt hX rfl) rfl ?_
            exact nxt _ (some k) (selS_p hz (by simpa using hz2)).symm hT2
        cases b with
        | none =>
          refine C.iload_n dX13_peal_13 2 rfl ?_
          refine C.iconst (nI 1) dX13_peal_14 (by decide) ?_
          refine C.aload_n dX13_peal_15 0 rfl ?_
          refine C.callVI lX13_413 dX13_peal_16 (kg_bellMany hS hL) hS.o rfl rfl (Nat.le_of_ble_eq_true rfl) (Nat.zero_le _) (Nat.zero_le _) (Nat.le_of_ble_eq_true rfl) (fun x16 μ16 h16 => ?_)
          obtain ⟨rfl, hμ⟩ := h16
          subst hμ
          refine C.ishl dX13_peal_19 ?_
          rw [shl1 sm.2.2.2.1]
          refine C.icmp_ge 68 dX13_peal_20 rfl (fun hc20 => ?_) (fun hc20 => ?_)
          · have := n_le hc20; omega
          · refine C.iload_n dX13_peal_23 1 rfl ?_
            refine C.iconst (-1) dX13_peal_24 (by decide) ?_
            refine C.icmp_eq 42 dX13_peal_25 rfl (fun hc25 => ?_) (fun hc25 => ?_)
            · exact m42 rfl
            · exact absurd rfl hc25
        | some b =>
          have hb32 := hb b rfl
          change AW l G X 0 0 13 [(0, .ref (G.1 + 179)), (1, .int (nI b)), (2, .int (nI k))] [] μ1
          refine C.iload_n dX13_peal_13 2 rfl ?_
          refine C.iconst (nI 1) dX13_peal_14 (by decide) ?_
          refine C.aload_n dX13_peal_15 0 rfl ?_
          refine C.callVI lX13_413 dX13_peal_16 (kg_bellMany hS hL) hS.o rfl rfl (Nat.le_of_ble_eq_true rfl) (Nat.zero_le _) (Nat.zero_le _) (Nat.le_of_ble_eq_true rfl) (fun x16 μ16 h16 => ?_)
          obtain ⟨rfl, hμ⟩ := h16
          subst hμ
          refine C.ishl dX13_peal_19 ?_
          rw [shl1 sm.2.2.2.1]
          refine C.icmp_ge 68 dX13_peal_20 rfl (fun hc20 => ?_) (fun hc20 => ?_)
          · have := n_le hc20; omega
          · refine C.iload_n dX13_peal_23 1 rfl ?_
            refine C.iconst (-1) dX13_peal_24 (by decide) ?_
            refine C.icmp_eq 42 dX13_peal_25 rfl (fun hc25 => ?_) (fun hc25 => ?_)
            · exact absurd hc25 (n_m1 (by omega))
            · refine C.iload_n dX13_peal_28 2 rfl ?_
              refine C.callSI lX13_532 dX13_peal_29 (kn_bits hk32) rfl rfl (Nat.le_of_ble_eq_true rfl) (Nat.zero_le _) (Nat.zero_le _) (Nat.le_of_ble_eq_true rfl) (fun x29 μ29 h29 => ?_)
              obtain ⟨rfl, hμ⟩ := h29
              subst hμ
              refine C.iload_n dX13_peal_32 1 rfl ?_
              refine C.callSI lX13_532 dX13_peal_33 (kn_bits hb32) rfl rfl (Nat.le_of_ble_eq_true rfl) (Nat.zero_le _) (Nat.zero_le _) (Nat.le_of_ble_eq_true rfl) (fun x33 μ33 h33 => ?_)
              obtain ⟨rfl, hμ⟩ := h33
              subst hμ
              refine C.icmp_lt 42 dX13_peal_36 rfl (fun hc36 => ?_) (fun hc36 => ?_)
              · have hlt := n_lt hc36 (by have := popN_lt (r := k); omega) (by have := popN_lt (r := b); omega)
                exact m42 (decide_eq_true hlt)
              · have hge := n_nlt hc36 (by have := popN_lt (r := k); omega) (by have := popN_lt (r := b); omega)
                refine C.goto 62 dX13_peal_39 rfl ?_
                exact nxt _ (some b) (selS_1 (b := some b) (k := k) (show decide (popN k < popN b) = false from decide_eq_false (by omega))).symm hT
    refine C.aload_n dX13_peal_0 0 rfl ?_
    refine C.getZ fX13_403 dX13_peal_1 hS.o ?_
    rw [h57]
    refine C.if_ne 9 dX13_peal_4 rfl (fun hc4 => ?_) (fun hc4 => ?_)
    · refine C.iconst (-1) dX13_peal_9 (by decide) ?_
      refine C.istore_n (lv' := [(0, _), (1, _)]) dX13_peal_10 (nLt hX rfl) rfl ?_
      refine C.iconst (nI 0) dX13_peal_11 (by decide) ?_
      refine C.istore_n (lv' := [(0, _), (1, _), (2, _)]) dX13_peal_12 (nLt hX rfl) rfl ?_
      exact loop _ 0 none μ (Nat.zero_add _) hK TmR.refl (fun x q => by cases q)
    · exact absurd hc4 (by decide)
  · rw [if_neg hp] at h57 hq
    have hS := hR.1.1
    refine C.aload_n dX13_peal_0 0 rfl ?_
    refine C.getZ fX13_403 dX13_peal_1 hS.o ?_
    rw [h57]
    refine C.if_ne 9 dX13_peal_4 rfl (fun hc4 => ?_) (fun hc4 => ?_)
    · exact absurd rfl hc4
    · refine C.iconst (-1) dX13_peal_7 (by decide) ?_
      refine C.iret hq dX13_peal_8 ?_
      exact ⟨rfl, PR.self hR⟩
theorem kr_isRest {μ1 : Mm} (hR : RefRel μ h) (hT : TmR μ μ1) (hH : HOk h) (hW : Wf (ldH h)) {set : Nat} (hs : set < 32) : AMet l G 6 0 0 mtX13_isRest [.ref (G.1 + 179), .int (nI set)] μ1 (qI (fun x μ' => x = bI (restP h set) ∧ TmR μ μ')) := by
  refine AMet.of (by decide) (Nat.le_of_ble_eq_true rfl) (fun X C hX hnm hq => ?_)
  have sm := hH.1.1.sm
  have loop : ∀ (j k : Nat) (μ2 : Mm), k + j = (ldH h).2.2.1.length → TmR μ μ2 → (List.range k).all (fun b => decide (lossF (ldH h) (rideB h set) set b ≤ lossF (ldH h) (rideB h (set ^^^ 2 ^ b)) (set ^^^ 2 ^ b) b)) = true → AW l G X 0 0 2 [(0, .ref (G.1 + 179)), (1, .int (nI set)), (2, .int (nI k))] [] μ2 := by
    intro j
    induction j with
    | zero =>
      intro k μ2 hk hT2 ha
      have hR1 := (hR.tmR hT2).1
      have hS := hR1.1.1
      have hL := hR1.2.2.2.2.1.1
      refine C.iload_n dX13_isRest_2 2 rfl ?_
      refine C.aload_n dX13_isRest_3 0 rfl ?_
      refine C.callVI lX13_413 dX13_isRest_4 (kg_bellMany hS hL) hS.o rfl rfl (Nat.le_of_ble_eq_true rfl) (Nat.zero_le _) (Nat.zero_le _) (Nat.le_of_ble_eq_true rfl) (fun x4 μ4 h4 => ?_)
      obtain ⟨rfl, hμ⟩ := h4
      subst hμ
      refine C.icmp_ge 65 dX13_isRest_7 rfl (fun hc7 => ?_) (fun hc7 => ?_)
      · refine C.iconst (nI 1) dX13_isRest_65 (by decide) ?_
        refine C.zret hq dX13_isRest_66 (by decide) ?_
        refine ⟨?_, hT2⟩
        unfold restP
        rw [← show k = (ldH h).2.2.1.length by omega, ha]
        rfl
      · have := n_nle hc7; omega
    | succ j ih =>
      intro k μ2 hk hT2 ha
      have hkl : k < (ldH h).2.2.1.length := by omega
      have hR1 := (hR.tmR hT2).1
      have hS := hR1.1.1
      have hL := hR1.2.2.2.2.1.1
      obtain ⟨x1, x2⟩ := xor1 hs (show k < 5 by omega)
      have br := hW.bellR hkl
      have hm := hW.2.2.2.2.2.2.1
      have l1 : lossF (ldH h) (rideB h set) set k < 2000 := by unfold lossF; split <;> split <;> omega
      have l2 : lossF (ldH h) (rideB h (set ^^^ 2 ^ k)) (set ^^^ 2 ^ k) k < 2000 := by unfold lossF; split <;> split <;> omega
      refine C.iload_n dX13_isRest_2 2 rfl ?_
      refine C.aload_n dX13_isRest_3 0 rfl ?_
      refine C.callVI lX13_413 dX13_isRest_4 (kg_bellMany hS hL) hS.o rfl rfl (Nat.le_of_ble_eq_true rfl) (Nat.zero_le _) (Nat.zero_le _) (Nat.le_of_ble_eq_true rfl) (fun x4 μ4 h4 => ?_)
      obtain ⟨rfl, hμ⟩ := h4
      subst hμ
      refine C.icmp_ge 65 dX13_isRest_7 rfl (fun hc7 => ?_) (fun hc7 => ?_)
      · have := n_le hc7; omega
      · refine C.aload_n dX13_isRest_10 0 rfl ?_
        refine C.aload_n dX13_isRest_11 0 rfl ?_
        refine C.getA fX13_120 dX13_isRest_12 hS.o hS.r45 ?_
        refine C.iconst (nI 5) dX13_isRest_15 (by decide) ?_
        refine C.iald hS.a45 (n_in (by decide)) dX13_isRest_16 ?_
        rw [n_cl, show mI μ4 215 5 = nI (ldH h).1.2.2 from hL.1.1.2.2]
        refine C.iload_n dX13_isRest_17 1 rfl ?_
        refine C.callVV lX13_480 dX13_isRest_18 (kr_lays hR hT2 hH hW hs hW.1.2.2.2.2) hS.o rfl rfl (Nat.le_of_ble_eq_true rfl) (Nat.zero_le _) (Nat.zero_le _) (Nat.le_of_ble_eq_true rfl) (fun μ18 h18 => ?_)
        obtain ⟨hri, hT3⟩ := h18
        have hR1 := (hR.tmR hT3).1
        have hS := hR1.1.1
        have hL := hR1.2.2.2.2.1.1
        refine C.aload_n dX13_isRest_21 0 rfl ?_
        refine C.iload_n dX13_isRest_22 2 rfl ?_
        refine C.iload_n dX13_isRest_23 1 rfl ?_
        refine C.callVI lX13_554 dX13_isRest_24 (kn_loses hS hL hW hkl hs hri) hS.o rfl rfl (Nat.le_of_ble_eq_true rfl) (Nat.zero_le _) (Nat.zero_le _) (Nat.le_of_ble_eq_true rfl) (fun x24 μ24 h24 => ?_)
        obtain ⟨rfl, hμ⟩ := h24
        subst hμ
        refine C.istore_n (lv' := [(0, _), (1, _), (2, _), (3, _)]) dX13_isRest_27 (nLt hX rfl) rfl ?_
        refine C.aload_n dX13_isRest_28 0 rfl ?_
        refine C.aload_n dX13_isRest_29 0 rfl ?_
        refine C.getA fX13_120 dX13_isRest_30 hS.o hS.r45 ?_
        refine C.iconst (nI 5) dX13_isRest_33 (by decide) ?_
        refine C.iald hS.a45 (n_in (by decide)) dX13_isRest_34 ?_
        rw [n_cl, show mI μ24 215 5 = nI (ldH h).1.2.2 from hL.1.1.2.2]
        refine C.iload_n dX13_isRest_35 1 rfl ?_
        refine C.iconst (nI 1) dX13_isRest_36 (by decide) ?_
        refine C.iload_n dX13_isRest_37 2 rfl ?_
        refine C.ishl dX13_isRest_38 ?_
        refine C.ixor dX13_isRest_39 ?_
        rw [x1]
        refine C.callVV lX13_480 dX13_isRest_40 (kr_lays hR hT3 hH hW x2 hW.1.2.2.2.2) hS.o rfl rfl (Nat.le_of_ble_eq_true rfl) (Nat.zero_le _) (Nat.zero_le _) (Nat.le_of_ble_eq_true rfl) (fun μ40 h40 => ?_)
        obtain ⟨hri2, hT4⟩ := h40
        have hR1 := (hR.tmR hT4).1
        have hS := hR1.1.1
        have hL := hR1.2.2.2.2.1.1
        refine C.aload_n dX13_isRest_43 0 rfl ?_
        refine C.iload_n dX13_isRest_44 2 rfl ?_
        refine C.iload_n dX13_isRest_45 1 rfl ?_
        refine C.iconst (nI 1) dX13_isRest_46 (by decide) ?_
        refine C.iload_n dX13_isRest_47 2 rfl ?_
        refine C.ishl dX13_isRest_48 ?_
        refine C.ixor dX13_isRest_49 ?_
        rw [x1]
        refine C.callVI lX13_554 dX13_isRest_50 (kn_loses hS hL hW hkl x2 hri2) hS.o rfl rfl (Nat.le_of_ble_eq_true rfl) (Nat.zero_le _) (Nat.zero_le _) (Nat.le_of_ble_eq_true rfl) (fun x50 μ50 h50 => ?_)
        obtain ⟨rfl, hμ⟩ := h50
        subst hμ
        refine C.iload_n dX13_isRest_53 3 rfl ?_
        refine C.icmp_ge 59 dX13_isRest_54 rfl (fun hc54 => ?_) (fun hc54 => ?_)
        · have hle := n_le (a := lossF (ldH h) (rideB h set) set k) (b := lossF (ldH h) (rideB h (set ^^^ 2 ^ k)) (set ^^^ 2 ^ k) k) hc54
          refine C.iinc (lv' := [(0, _), (1, _), (2, _), (3, _)]) _ dX13_isRest_59 2 rfl rfl (nLt hX rfl) rfl ?_
          refine C.goto 2 dX13_isRest_62 rfl ?_
          have hgo := ih (k + 1) _ (by omega) hT4 (by rw [all_succ, ha, decide_eq_true hle]; rfl)
          rw [← nI_1] at hgo
          exact AW.pick [0, 1, 2] rfl hgo
        · have hlt := n_nle (a := lossF (ldH h) (rideB h set) set k) (b := lossF (ldH h) (rideB h (set ^^^ 2 ^ k)) (set ^^^ 2 ^ k) k) hc54
          refine C.iconst (nI 0) dX13_isRest_57 (by decide) ?_
          refine C.zret hq dX13_isRest_58 (by decide) ?_
          refine ⟨?_, hT4⟩
          unfold restP
          rw [all_le hkl (decide_eq_false (by omega))]
          rfl
  refine C.iconst (nI 0) dX13_isRest_0 (by decide) ?_
  refine C.istore_n (lv' := [(0, _), (1, _), (2, _)]) dX13_isRest_1 (nLt hX rfl) rfl ?_
  exact loop _ 0 μ1 (Nat.zero_add _) hT rfl
theorem kr_rest (hR : RefRel μ h) (hH : HOk h) : AMet l G 7 0 0 mtX13_rest [.ref (G.1 + 179)] μ (qI (fun x μ' => x = restA h ∧ PR μ h μ')) := by
  refine AMet.of (by decide) (Nat.le_of_ble_eq_true rfl) (fun X C hX hnm hq => ?_)
  have sm := hH.1.1.sm
  have h57 := hR.2.2.2.2.1.2
  unfold restA at hq
  by_cases hp : 0 < (ldH h).1.1
  · rw [if_pos hp] at h57 hq
    have hW := hH.1.1.w1 hp
    have p5 := pow5 sm.2.2.2.1
    generalize hK : selL (restP h) (2 ^ (ldH h).2.2.1.length) 0 none = K at hq
    have hS := hR.1.1
    have loop : ∀ (j k : Nat) (b : Option Nat) (μ1 : Mm), k + j = 2 ^ (ldH h).2.2.1.length → selL (restP h) j k b = K → TmR μ μ1 → (∀ x, b = some x → x < 32) → AW l G X 0 0 13 [(0, .ref (G.1 + 179)), (1, .int (opI b)), (2, .int (nI k))] [] μ1 := by
      intro j
      induction j with
      | zero =>
        intro k b μ1 hk hv hT hb
        have hR1 := (hR.tmR hT).1
        have hS := hR1.1.1
        have hL := hR1.2.2.2.2.1.1
        refine C.iload_n dX13_rest_13 2 rfl ?_
        refine C.iconst (nI 1) dX13_rest_14 (by decide) ?_
        refine C.aload_n dX13_rest_15 0 rfl ?_
        refine C.callVI lX13_413 dX13_rest_16 (kg_bellMany hS hL) hS.o rfl rfl (Nat.le_of_ble_eq_true rfl) (Nat.zero_le _) (Nat.zero_le _) (Nat.le_of_ble_eq_true rfl) (fun x16 μ16 h16 => ?_)
        obtain ⟨rfl, hμ⟩ := h16
        subst hμ
        refine C.ishl dX13_rest_19 ?_
        rw [shl1 sm.2.2.2.1]
        refine C.icmp_ge 55 dX13_rest_20 rfl (fun hc20 => ?_) (fun hc20 => ?_)
        · refine C.iload_n dX13_rest_55 1 rfl ?_
          refine C.iret hq dX13_rest_56 ?_
          exact ⟨by rw [← hv]; rfl, hR.tmR hT⟩
        · have := n_nle hc20; omega
      | succ j ih =>
        intro k b μ1 hk hv hT hb
        have hR1 := (hR.tmR hT).1
        have hS := hR1.1.1
        have hL := hR1.2.2.2.2.1.1
        have hk32 : k < 32 := by omega
        unfold selL at hv
        have nxt : ∀ (μ2 : Mm) (b2 : Option Nat), b2 = selS (restP h) b k → TmR μ μ2 → AW l G X 0 0 49 [(0, .ref (G.1 + 179)), (1, .int (opI b2)), (2, .int (nI k))] [] μ2 := by
          intro μ2 b2 e hT2
          subst e
          refine C.iinc (lv' := [(0, _), (1, _), (2, _)]) _ dX13_rest_49 2 rfl rfl (nLt hX rfl) rfl ?_
          refine C.goto 13 dX13_rest_52 rfl ?_
          have hgo := ih (k + 1) _ μ2 (by omega) hv hT2 (selS_lt hb hk32)
          rw [← nI_1] at hgo
          exact hgo
        have m42 : betB b k = true → AW l G X 0 0 39 [(0, .ref (G.1 + 179)), (1, .int (opI b)), (2, .int (nI k))] [] μ1 := by
          intro hz
          refine C.aload_n dX13_rest_39 0 rfl ?_
          refine C.iload_n dX13_rest_40 2 rfl ?_
          refine C.callVI lX13_570 dX13_rest_41 (kr_isRest hR hT hH hW hk32) hS.o rfl rfl (Nat.le_of_ble_eq_true rfl) (Nat.zero_le _) (Nat.zero_le _) (Nat.le_of_ble_eq_true rfl) (fun x41 μ41 h41 => ?_)
          obtain ⟨rfl, hT2⟩ := h41
          refine C.if_eq 49 dX13_rest_44 rfl (fun hc44 => ?_) (fun hc44 => ?_)
          · have hz2 := (bI_0 _).mp hc44
            exact nxt _ b (selS_2 hz2).symm hT2
          · have hz2 := b_t hc44
            refine C.iload_n dX13_rest_47 2 rfl ?_
            refine C.istore_n (lv' := [(0, _), (1, _), (2, _)]) dX13_rest_48 (nLt hX rfl) rfl ?_
            exact nxt _ (some k) (selS_p hz hz2).symm hT2
        cases b with
        | none =>
          refine C.iload_n dX13_rest_13 2 rfl ?_
          refine C.iconst (nI 1) dX13_rest_14 (by decide) ?_
          refine C.aload_n dX13_rest_15 0 rfl ?_
          refine C.callVI lX13_413 dX13_rest_16 (kg_bellMany hS hL) hS.o rfl rfl (Nat.le_of_ble_eq_true rfl) (Nat.zero_le _) (Nat.zero_le _) (Nat.le_of_ble_eq_true rfl) (fun x16 μ16 h16 => ?_)
          obtain ⟨rfl, hμ⟩ := h16
          subst hμ
          refine C.ishl dX13_rest_19 ?_
          rw [shl1 sm.2.2.2.1]
          refine C.icmp_ge 55 dX13_rest_20 rfl (fun hc20 => ?_) (fun hc20 => ?_)
          · have := n_le hc20; omega
          · refine C.iload_n dX13_rest_23 1 rfl ?_
            refine C.iconst (-1) dX13_rest_24 (by decide) ?_
            refine C.icmp_eq 39 dX13_rest_25 rfl (fun hc25 => ?_) (fun hc25 => ?_)
            · exact m42 rfl
            · exact absurd rfl hc25
        | some b =>
          have hb32 := hb b rfl
          change AW l G X 0 0 13 [(0, .ref (G.1 + 179)), (1, .int (nI b)), (2, .int (nI k))] [] μ1
          refine C.iload_n dX13_rest_13 2 rfl ?_
          refine C.iconst (nI 1) dX13_rest_14 (by decide) ?_
          refine C.aload_n dX13_rest_15 0 rfl ?_
          refine C.callVI lX13_413 dX13_rest_16 (kg_bellMany hS hL) hS.o rfl rfl (Nat.le_of_ble_eq_true rfl) (Nat.zero_le _) (Nat.zero_le _) (Nat.le_of_ble_eq_true rfl) (fun x16 μ16 h16 => ?_)
          obtain ⟨rfl, hμ⟩ := h16
          subst hμ
          refine C.ishl dX13_rest_19 ?_
          rw [shl1 sm.2.2.2.1]
          refine C.icmp_ge 55 dX13_rest_20 rfl (fun hc20 => ?_) (fun hc20 => ?_)
          · have := n_le hc20; omega
          · refine C.iload_n dX13_rest_23 1 rfl ?_
            refine C.iconst (-1) dX13_rest_24 (by decide) ?_
            refine C.icmp_eq 39 dX13_rest_25 rfl (fun hc25 => ?_) (fun hc25 => ?_)
            · exact absurd hc25 (n_m1 (by omega))
            · refine C.iload_n dX13_rest_28 2 rfl ?_
              refine C.callSI lX13_532 dX13_rest_29 (kn_bits hk32) rfl rfl (Nat.le_of_ble_eq_true rfl) (Nat.zero_le _) (Nat.zero_le _) (Nat.le_of_ble_eq_true rfl) (fun x29 μ29 h29 => ?_)
              obtain ⟨rfl, hμ⟩ := h29
              subst hμ
              refine C.iload_n dX13_rest_32 1 rfl ?_
              refine C.callSI lX13_532 dX13_rest_33 (kn_bits hb32) rfl rfl (Nat.le_of_ble_eq_true rfl) (Nat.zero_le _) (Nat.zero_le _) (Nat.le_of_ble_eq_true rfl) (fun x33 μ33 h33 => ?_)
              obtain ⟨rfl, hμ⟩ := h33
              subst hμ
              refine C.icmp_ge 49 dX13_rest_36 rfl (fun hc36 => ?_) (fun hc36 => ?_)
              · have hge := n_le hc36 (by have := popN_lt (r := b); omega) (by have := popN_lt (r := k); omega)
                exact nxt _ (some b) (selS_1 (b := some b) (k := k) (show decide (popN k < popN b) = false from decide_eq_false (by omega))).symm hT
              · have hlt := n_nle hc36 (by have := popN_lt (r := b); omega) (by have := popN_lt (r := k); omega)
                exact m42 (decide_eq_true hlt)
    refine C.aload_n dX13_rest_0 0 rfl ?_
    refine C.getZ fX13_403 dX13_rest_1 hS.o ?_
    rw [h57]
    refine C.if_ne 9 dX13_rest_4 rfl (fun hc4 => ?_) (fun hc4 => ?_)
    · refine C.iconst (-1) dX13_rest_9 (by decide) ?_
      refine C.istore_n (lv' := [(0, _), (1, _)]) dX13_rest_10 (nLt hX rfl) rfl ?_
      refine C.iconst (nI 0) dX13_rest_11 (by decide) ?_
      refine C.istore_n (lv' := [(0, _), (1, _), (2, _)]) dX13_rest_12 (nLt hX rfl) rfl ?_
      exact loop _ 0 none μ (Nat.zero_add _) hK TmR.refl (fun x q => by cases q)
    · exact absurd hc4 (by decide)
  · rw [if_neg hp] at h57 hq
    have hS := hR.1.1
    refine C.aload_n dX13_rest_0 0 rfl ?_
    refine C.getZ fX13_403 dX13_rest_1 hS.o ?_
    rw [h57]
    refine C.if_ne 9 dX13_rest_4 rfl (fun hc4 => ?_) (fun hc4 => ?_)
    · exact absurd rfl hc4
    · refine C.iconst (-1) dX13_rest_7 (by decide) ?_
      refine C.iret hq dX13_rest_8 ?_
      exact ⟨rfl, PR.self hR⟩
end KPL
