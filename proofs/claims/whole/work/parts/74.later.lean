/-! the reference: later, first -/

def ahdN (h : Hs) (x : Int32) (lo hi : Nat) : Option Nat := if 0 < (ldH h).1.1 ∧ nI lo ≤ x ∧ x ≤ nI hi ∧ (stH h).1.1 + nn x ≤ 999 then some (nn x) else none
def laterA (h : Hs) (x y : Int32) : Int32 := match ahdN h x 0 60 with
  | some n => (match inN y 4 with
    | some 0 => nI (nightsA (ldH h) none true n (stH h, 0, 0, 0)).2.1
    | some 1 => nI (goneN (nightsA (ldH h) none true n (stH h, 0, 0, 0)).1)
    | some 2 => nI (pursN (nightsA (ldH h) none true n (stH h, 0, 0, 0)).1)
    | some _ => nI (nightsA (ldH h) none true n (stH h, 0, 0, 0)).2.2.1
    | none => -1)
  | none => -1
def firstL (d : Ld) (w : Nat) : Nat → Nat → St → Option Nat
  | 0, _, _ => none
  | j + 1, n, S => if S.1.1 < 999 then (if bitN (nightA d none true false (S, 0, 0, 0)).2.2.2 w then some n else firstL d w j (n + 1) (nightA d none true false (S, 0, 0, 0)).1) else none
def firstA (h : Hs) (x : Int32) : Int32 := match inN x (ldH h).2.2.2.1.length with
  | some w => opI (firstL (ldH h) w 60 1 (stH h))
  | none => -1
/-- counts only add up -/
def acA (a b : Ac) : Ac := (b.1, a.2.1 + b.2.1, a.2.2.1 + b.2.2.1, a.2.2.2 ||| b.2.2.2)
section ACP
variable {d : Ld}
theorem acA_0 (S : St) (a : Ac) : acA (S, 0, 0, 0) a = a := by
  unfold acA
  simp
theorem nightW_ac (ride : Nat → Nat) (th storm : Bool) (a : Ac) (w : Nat) : nightW d ride th storm a w = acA a (nightW d ride th storm (a.1, 0, 0, 0) w) := by
  obtain ⟨S, m, k, s⟩ := a
  unfold nightW acA
  dsimp only
  split
  · simp
  · split
    · simp
    · split
      · simp
      · unfold meetA
        dsimp only
        split <;> simp
theorem nightL_ac (ride : Nat → Nat) (th storm : Bool) : ∀ (n w : Nat) (a : Ac), nightL d ride th storm n w a = acA a (nightL d ride th storm n w (a.1, 0, 0, 0))
  | 0, w, a => by unfold nightL acA; simp
  | n + 1, w, a => by
    unfold nightL
    rw [nightL_ac ride th storm n (w + 1) (nightW d ride th storm a w), nightL_ac ride th storm n (w + 1) (nightW d ride th storm (a.1, 0, 0, 0) w), nightW_ac ride th storm a w]
    generalize nightW d ride th storm (a.1, 0, 0, 0) w = b
    unfold acA
    dsimp only
    generalize nightL d ride th storm n (w + 1) (b.1, 0, 0, 0) = c
    simp only [Nat.add_assoc, Nat.or_assoc]
theorem nightA_ac (more : Option Nat) (th storm : Bool) (a : Ac) : nightA d more th storm a = acA a (nightA d more th storm (a.1, 0, 0, 0)) := by
  unfold nightA
  rw [nightL_ac _ th storm _ 0 a]
  rfl
theorem nightsA_ac (more : Option Nat) (th : Bool) : ∀ (n : Nat) (a : Ac), nightsA d more th n a = acA a (nightsA d more th n (a.1, 0, 0, 0))
  | 0, a => by unfold nightsA acA; simp
  | n + 1, a => by
    unfold nightsA
    rw [nightsA_ac more th n (nightA d more th false a), nightsA_ac more th n (nightA d more th false (a.1, 0, 0, 0)), nightA_ac more th false a]
    generalize nightA d more th false (a.1, 0, 0, 0) = b
    unfold acA
    dsimp only
    generalize nightsA d more th n (b.1, 0, 0, 0) = c
    simp only [Nat.add_assoc, Nat.or_assoc]
theorem nightW_le (ride : Nat → Nat) (th storm : Bool) (a : Ac) (w : Nat) : (nightW d ride th storm a w).2.1 ≤ a.2.1 + 1 := by
  unfold nightW
  split
  · dsimp only; omega
  · split
    · omega
    · split
      · omega
      · unfold meetA; dsimp only; omega
theorem nightL_le (ride : Nat → Nat) (th storm : Bool) : ∀ (n w : Nat) (a : Ac), (nightL d ride th storm n w a).2.1 ≤ a.2.1 + n
  | 0, w, a => Nat.le_refl _
  | n + 1, w, a => by
    unfold nightL
    have h1 := nightL_le ride th storm n (w + 1) (nightW d ride th storm a w)
    have h2 := nightW_le (d := d) ride th storm a w
    omega
theorem nightsA_le (h6 : d.2.2.2.1.length ≤ 6) (more : Option Nat) (th : Bool) : ∀ (n : Nat) (a : Ac), (nightsA d more th n a).2.1 ≤ a.2.1 + 6 * n
  | 0, a => by unfold nightsA; omega
  | n + 1, a => by
    unfold nightsA
    have h1 := nightsA_le h6 more th n (nightA d more th false a)
    have h2 : (nightA d more th false a).2.1 ≤ a.2.1 + d.2.2.2.1.length := nightL_le _ th false _ 0 a
    omega
theorem nightW_told (ride : Nat → Nat) (storm : Bool) (a : Ac) (w : Nat) : (nightW d ride true storm a w).1.2.2 = a.1.2.2 := by
  unfold nightW
  split
  · rfl
  · split
    · rfl
    · split
      · rfl
      · rfl
theorem nightL_told (ride : Nat → Nat) (storm : Bool) : ∀ (n w : Nat) (a : Ac), (nightL d ride true storm n w a).1.2.2 = a.1.2.2
  | 0, w, a => rfl
  | n + 1, w, a => by
    unfold nightL
    rw [nightL_told ride storm n, nightW_told]
theorem nightA_told (more : Option Nat) (storm : Bool) (a : Ac) : (nightA d more true storm a).1.2.2 = a.1.2.2 := nightL_told _ storm _ 0 a
theorem nightsA_told (more : Option Nat) : ∀ (n : Nat) (a : Ac), (nightsA d more true n a).1.2.2 = a.1.2.2
  | 0, a => rfl
  | n + 1, a => by
    unfold nightsA
    rw [nightsA_told more n, nightA_told]
theorem bitN_or (a b w : Nat) : bitN (a ||| b) w = (bitN a w || bitN b w) := by
  have h : ∀ r, bitN r w = Nat.testBit r w := fun r => by unfold bitN; rw [Nat.testBit_eq_decide_div_mod_eq]
  rw [h, h, h, Nat.testBit_or]
theorem ahdN_some {h : Hs} {x : Int32} {lo hi n : Nat} (hlo : lo < 1000) (hhi : hi < 1000) (q : ahdN h x lo hi = some n) : 0 < (ldH h).1.1 ∧ lo ≤ n ∧ n ≤ hi ∧ (stH h).1.1 + n ≤ 999 ∧ x = nI n := by
  unfold ahdN at q
  split at q
  · rename_i z
    obtain ⟨k, k1, k2, e⟩ := c_sub (a := 0) (m := lo) (n := hi) (by omega) (by omega) z.2.1 z.2.2.1
    have e2 : nn x = n := Option.some.inj q
    rw [e, nn_nI (by omega)] at e2
    subst e2
    rw [e, nn_nI (by omega)] at z
    exact ⟨z.1, k1, k2, z.2.2.2, e⟩
  · cases q
end ACP
/-- what thinking ahead may touch -/
def TmA (μ μ' : Mm) : Prop := μ'.2.2 = μ.2.2 ∧ (∀ a k, ¬ (a = 179 ∧ (pG k ∨ k = 66 ∨ k = 67)) → a ≠ 228 → a ≠ 225 → a ≠ 226 → mI μ' a k = mI μ a k) ∧ (∀ a k, a ≠ 257 → mL μ' a k = mL μ a k)
section KLT
variable {l : Launch} {G : Gm} {μ : Mm} {h : Hs} {d : Ld}
theorem TmA.refl : TmA μ μ := ⟨rfl, fun _ _ _ _ _ _ => rfl, fun _ _ _ => rfl⟩
theorem TmA.trans {μ' μ'' : Mm} (t : TmA μ μ') (t2 : TmA μ' μ'') : TmA μ μ'' := ⟨t2.1.trans t.1, fun a k q q2 q3 q4 => (t2.2.1 a k q q2 q3 q4).trans (t.2.1 a k q q2 q3 q4), fun a k q => (t2.2.2 a k q).trans (t.2.2 a k q)⟩
theorem TmA.ofG {μ' : Mm} (t : TmG μ μ') : TmA μ μ' := ⟨t.1, fun a k q q2 q3 _ => t.2.1 a k (fun z => q ⟨z.1, Or.inl z.2⟩) q2 q3, t.2.2⟩
theorem TmA.of {μ' : Mm} (e : μ'.2 = μ.2) (ho : ∀ a k, a ≠ 225 → a ≠ 226 → ¬ (a = 179 ∧ (k = 66 ∨ k = 67 ∨ k = 68 ∨ k = 69 ∨ k = 70)) → mI μ' a k = mI μ a k) : TmA μ μ' := ⟨by rw [e], fun a k q _ q3 q4 => ho a k q3 q4 (fun z => q ⟨z.1, by unfold pG; omega⟩), fun a k _ => by show μ'.2.1 a k = μ.2.1 a k; rw [e]⟩
theorem TmA.sh {μ' : Mm} (t : TmA μ μ') (hS : ShM μ) : ShM μ' := hS.of t.1
theorem TmA.lm {μ' : Mm} (t : TmA μ μ') (hL : LmH μ 1 1600 d) : LmH μ' 1 1600 d := hL.of (fun a k q _ _ => t.2.1 a k (by omega) (by omega) (by omega) (by omega)) (fun a k q _ => t.2.1 a k (by omega) (by omega) (by omega) (by omega)) (fun k _ => t.2.1 _ k (by omega) (by omega) (by omega) (by omega)) (fun k _ => t.2.1 _ k (by omega) (by omega) (by omega) (by omega)) (fun k _ => t.2.2 217 k (by decide))
theorem RefRel.of2 {μ' : Mm} {S : St} (r : RefRel μ h) (e : μ'.2.2 = μ.2.2) (hI : ∀ a k, KpI a k → a ≠ 225 → ¬ (a = 179 ∧ (k = 66 ∨ k = 67)) → mI μ' a k = mI μ a k) (h66 : mI μ' 179 66 = -1) (h67 : mI μ' 179 67 = nI 0) (hN : RfN μ' S) (hL : ∀ k, 12 ≤ k → mL μ' 217 k = mL μ 217 k) (hD : mL μ' 179 78 = mL μ 179 78) : RefRel μ' (tpH h, flH h, rfH h, ldH h, S, psH h, rwH h, ocH h, sdH h) := by
  obtain ⟨r1, r2, r3, r4, r5, r6, r7, r8, r9, r10⟩ := r
  refine ⟨r1.of e (fun a k q => hI a k (by unfold KpI; omega) (by omega) (by omega)) (by rw [h66, r1.2.2.1]) (by rw [h67, r1.2.2.2]), r2.of (hI _ _ (by unfold KpI; omega) (by omega) (by omega)) (fun k => hI _ _ (by unfold KpI; omega) (by omega) (by omega)), r3.of (hI _ _ (by unfold KpI; omega) (by omega) (by omega)) (hI _ _ (by unfold KpI; omega) (by omega) (by omega)), r4.of (fun k => hI _ _ (by unfold KpI; omega) (by omega) (by omega)), ⟨r5.1.of (fun a k q h3 h6 => hI _ _ (by unfold KpI; omega) (by omega) (by omega)) (fun a k q h3 => hI _ _ (by unfold KpI; omega) (by omega) (by omega)) (fun k q => hI _ _ (by unfold KpI; omega) (by omega) (by omega)) (fun k q => hI _ _ (by unfold KpI; omega) (by omega) (by omega)) hL, by rw [hI _ _ (by unfold KpI; omega) (by omega) (by omega)]; exact r5.2⟩, hN, r7.of (hI _ _ (by unfold KpI; omega) (by omega) (by omega)) (hI _ _ (by unfold KpI; omega) (by omega) (by omega)) (fun k => hI _ _ (by unfold KpI; omega) (by omega) (by omega)), r8.of (hI _ _ (by unfold KpI; omega) (by omega) (by omega)) (fun k => hI _ _ (by unfold KpI; omega) (by omega) (by omega)), r9.of (hI _ _ (by unfold KpI; omega) (by omega) (by omega)) (fun k => hI _ _ (by unfold KpI; omega) (by omega) (by omega)), by unfold RfD; rw [hD]; exact r10⟩
theorem RefRel.tmA {μ' : Mm} {S : St} (r : RefRel μ h) (t : TmA μ μ') (h66 : mI μ' 179 66 = -1) (h67 : mI μ' 179 67 = nI 0) (hN : RfN μ' S) : PR μ (tpH h, flH h, rfH h, ldH h, S, psH h, rwH h, ocH h, sdH h) μ' := ⟨r.of2 t.1 (fun a k q q2 q3 => t.2.1 a k (fun z => by unfold KpI at q; unfold pG pW at z; omega) (by unfold KpI at q; omega) q2 (by unfold KpI at q; omega)) h66 h67 hN (fun k _ => t.2.2 217 k (by decide)) (t.2.2 179 78 (by decide)), ⟨t.1, fun a k q => ⟨t.2.1 a k (by omega) (by omega) (by omega) (by omega), t.2.2 a k (by omega)⟩⟩⟩
/-- the numbers that were laid aside are back -/
theorem RfN.back {μ2 μ3 : Mm} {S S' : St} (hN : RfN μ S) (hN2 : RfN μ2 S') (ht : S'.2.2 = S.2.2) (h6 : S.2.1.length ≤ 6) (h1 : ∀ k, k < 26 → mI μ3 225 k = mI μ 225 k) (h2 : ∀ k, 26 ≤ k → mI μ3 225 k = mI μ2 225 k) : RfN μ3 S := by
  obtain ⟨a1, a2, a3, a4, a5⟩ := hN
  obtain ⟨b1, b2, b3, b4, b5⟩ := hN2
  rw [ht] at b4 b5
  refine ⟨by rw [h1 _ (by decide)]; exact a1, by rw [h1 _ (by decide)]; exact a2, fun i x q => ?_, by rw [h2 _ (by decide)]; exact b4, fun i x q => ?_⟩
  · have := q_lt q
    rw [h1 _ (by omega), h1 _ (by omega), h1 _ (by omega), h1 _ (by omega)]
    exact a3 i x q
  · rw [h2 _ (by omega), h2 _ (by omega), h2 _ (by omega), h2 _ (by omega)]
    exact b5 i x q
theorem kr_isAhead (hR : RefRel μ h) (hH : HOk h) (x : Int32) {lo hi : Nat} (hlo : lo < 1000) (hhi : hi < 1000) : AMet l G 1 0 0 mtX13_isAhead [.ref (G.1 + 179), .int x, .int (nI lo), .int (nI hi)] μ (qI (fun y μ' => y = bI (ahdN h x lo hi).isSome ∧ μ' = μ)) := by
  refine AMet.of (by decide) (Nat.le_of_ble_eq_true rfl) (fun X C hX hnm hq => ?_)
  have hS := hR.1.1
  have h57 := hR.2.2.2.2.1.2
  have hN := hR.2.2.2.2.2.1
  have ng := hH.1.2.1.1
  unfold ahdN at hq
  by_cases hp : 0 < (ldH h).1.1
  · rw [if_pos hp] at h57
    refine C.aload_n dX13_isAhead_0 0 rfl ?_
    refine C.getZ fX13_403 dX13_isAhead_1 hS.o ?_
    rw [h57]
    refine C.if_eq 37 dX13_isAhead_4 rfl (fun hc4 => ?_) (fun hc4 => ?_)
    · exact absurd hc4 (by decide)
    · refine C.iload_n dX13_isAhead_7 1 rfl ?_
      refine C.i2l dX13_isAhead_8 ?_
      refine C.iload_n dX13_isAhead_9 2 rfl ?_
      refine C.i2l dX13_isAhead_10 ?_
      refine C.iload_n dX13_isAhead_11 3 rfl ?_
      refine C.i2l dX13_isAhead_12 ?_
      refine C.callSI lX13_307 dX13_isAhead_13 (km_isIn _ _ _) rfl rfl (Nat.le_of_ble_eq_true rfl) (Nat.zero_le _) (Nat.zero_le _) (Nat.le_of_ble_eq_true rfl) (fun x13 μ13 h13 => ?_)
      obtain ⟨hx13, hμ⟩ := h13
      subst hμ
      simp only [wide_le] at hx13
      refine C.if_eq 37 dX13_isAhead_16 rfl (fun hc16 => ?_) (fun hc16 => ?_)
      · have hn : ¬ (nI lo ≤ x ∧ x ≤ nI hi) := fun q => by rw [if_pos q] at hx13; rw [hx13] at hc16; exact absurd hc16 (by decide)
        refine C.iconst (nI 0) dX13_isAhead_37 (by decide) ?_
        refine C.zret hq dX13_isAhead_38 (by decide) ?_
        refine ⟨?_, rfl⟩
        first | (rw [if_pos ⟨hp, hy.1, hy.2, by rw [nn_nI (by omega)]; exact hle⟩]; rfl) | (rw [if_neg (fun q => hn ⟨q.2.1, q.2.2.1⟩)]; rfl) | (rw [if_neg (fun q => by have := q.2.2.2; rw [nn_nI (by omega)] at this; omega)]; rfl)
      · have hy : nI lo ≤ x ∧ x ≤ nI hi := by by_cases q : (nI lo ≤ x ∧ x ≤ nI hi); exact q; rw [if_neg q] at hx13; exact absurd hx13 hc16
        obtain ⟨k, k1, k2, e⟩ := c_sub (a := 0) (m := lo) (n := hi) (by omega) (by omega) hy.1 hy.2
        subst e
        refine C.aload_n dX13_isAhead_19 0 rfl ?_
        refine C.getA fX13_151 dX13_isAhead_20 hS.o hS.r59 ?_
        refine C.iconst (nI 0) dX13_isAhead_23 (by decide) ?_
        refine C.iald hS.a59 (n_in (by decide)) dX13_isAhead_24 ?_
        rw [n_cl, hN.1]
        refine C.iload_n dX13_isAhead_25 1 rfl ?_
        refine C.iadd dX13_isAhead_26 ?_
        rw [nI_add]
        refine C.sipush (nI 999) dX13_isAhead_27 (by decide) ?_
        refine C.icmp_gt 37 dX13_isAhead_30 rfl (fun hc30 => ?_) (fun hc30 => ?_)
        · have hgt := n_lt (a := 999) (b := (stH h).1.1 + k) hc30
          refine C.iconst (nI 0) dX13_isAhead_37 (by decide) ?_
          refine C.zret hq dX13_isAhead_38 (by decide) ?_
          refine ⟨?_, rfl⟩
          first | (rw [if_pos ⟨hp, hy.1, hy.2, by rw [nn_nI (by omega)]; exact hle⟩]; rfl) | (rw [if_neg (fun q => hn ⟨q.2.1, q.2.2.1⟩)]; rfl) | (rw [if_neg (fun q => by have := q.2.2.2; rw [nn_nI (by omega)] at this; omega)]; rfl)
        · have hle := n_nlt (a := 999) (b := (stH h).1.1 + k) hc30
          refine C.iconst (nI 1) dX13_isAhead_33 (by decide) ?_
          refine C.goto 38 dX13_isAhead_34 rfl ?_
          refine C.zret hq dX13_isAhead_38 (by decide) ?_
          refine ⟨?_, rfl⟩
          first | (rw [if_pos ⟨hp, hy.1, hy.2, by rw [nn_nI (by omega)]; exact hle⟩]; rfl) | (rw [if_neg (fun q => hn ⟨q.2.1, q.2.2.1⟩)]; rfl) | (rw [if_neg (fun q => by have := q.2.2.2; rw [nn_nI (by omega)] at this; omega)]; rfl)
  · rw [if_neg hp] at h57
    rw [if_neg (fun q => hp q.1)] at hq
    refine C.aload_n dX13_isAhead_0 0 rfl ?_
    refine C.getZ fX13_403 dX13_isAhead_1 hS.o ?_
    rw [h57]
    refine C.if_eq 37 dX13_isAhead_4 rfl (fun hc4 => ?_) (fun hc4 => ?_)
    · refine C.iconst (nI 0) dX13_isAhead_37 (by decide) ?_
      refine C.zret hq dX13_isAhead_38 (by decide) ?_
      exact ⟨rfl, rfl⟩
    · exact absurd rfl hc4
theorem kr_later (hR : RefRel μ h) (hH : HOk h) (x y : Int32) : AMet l G 9 0 0 mtX13_later [.ref (G.1 + 179), .int x, .int y] μ (qI (fun z μ' => z = laterA h x y ∧ PR μ h μ')) := by
  refine AMet.of (by decide) (Nat.le_of_ble_eq_true rfl) (fun X C hX hnm hq => ?_)
  have hS := hR.1.1
  have hL := hR.2.2.2.2.1.1
  have hN := hR.2.2.2.2.2.1
  have sm := hH.1.1.sm
  have sw := hH.1.2.1
  unfold laterA at hq
  have m25 : ∀ n j : Nat, ahdN h x 0 60 = some n → j < 4 → inN y 4 = some j → AW l G X 0 0 25 [(0, .ref (G.1 + 179)), (1, .int (nI n)), (2, .int (nI j))] [] μ := by
    intro n j hn hj hin
    rw [hn, hin] at hq
    dsimp only at hq
    obtain ⟨hp, -, n60, hng, -⟩ := ahdN_some (by decide) (by decide) hn
    have hW := hH.1.1.w1 hp
    obtain ⟨sw2, -, -⟩ := nights_a hW (more := none) (th := true) n (stH h, 0, 0, 0) sw (show 0 < 64 by decide) hng
    have htold := nightsA_told (d := ldH h) none n (stH h, 0, 0, 0)
    generalize hK : nightsA (ldH h) none true n (stH h, 0, 0, 0) = K at *
    have m73 : ∀ (v : Int32) (μ2 : Mm), v = (match some j with | some 0 => nI K.2.1 | some 1 => nI (goneN K.1) | some 2 => nI (pursN K.1) | some _ => nI K.2.2.1 | none => -1) → TmA μ μ2 → mI μ2 179 66 = -1 → AsR μ2 (mI μ 225) → RfN μ2 K.1 → AW l G X 0 0 73 [(0, .ref (G.1 + 179)), (1, .int (nI n)), (2, .int (nI j))] [.int v] μ2 := by
      intro v μ2 hv hT h66 hA hN2
      have hS : ShM μ2 := hT.sh hS
      refine C.istore_n (lv' := [(0, _), (1, _), (2, _), (3, _)]) dX13_later_73 (nLt hX rfl) rfl ?_
      refine C.aload_n dX13_later_74 0 rfl ?_
      refine C.callVV lX13_582 dX13_later_75 (kn_back hS hA) hS.o rfl rfl (Nat.le_of_ble_eq_true rfl) (Nat.zero_le _) (Nat.zero_le _) (Nat.le_of_ble_eq_true rfl) (fun μ75 h75 => ?_)
      obtain ⟨q1, q2, q3, q4⟩ := h75
      refine C.iload_n dX13_later_78 3 rfl ?_
      refine C.iret hq dX13_later_79 ?_
      refine ⟨hv, hR.tmA (hT.trans (TmA.of q2 (fun a k z1 z2 z3 => q4 a k (by omega) (by omega)))) (by rw [q4 _ _ (by omega) (by omega)]; exact h66) q3 (hN.back hN2 htold (by rw [sw.2.2.1]; omega) q1 (fun k hk => q4 _ _ (by omega) (by omega)))⟩
    refine C.aload_n dX13_later_25 0 rfl ?_
    refine C.callVV lX13_576 dX13_later_26 (kn_aside hS) hS.o rfl rfl (Nat.le_of_ble_eq_true rfl) (Nat.zero_le _) (Nat.zero_le _) (Nat.le_of_ble_eq_true rfl) (fun μ26 h26 => ?_)
    obtain ⟨q1, q2, q3, q4⟩ := h26
    have hT1 : TmA μ μ26 := TmA.of q3 (fun a k z1 z2 z3 => q4 a k z2 (by omega))
    have hS : ShM μ26 := hT1.sh hS
    refine C.aload_n dX13_later_29 0 rfl ?_
    refine C.iload_n dX13_later_30 1 rfl ?_
    refine C.callVV lX13_579 dX13_later_31 (kn_nights (more := none) (th := true) hS (hT1.lm hL) hW hH.2 q1 (by rw [q4 _ _ (by decide) (by omega)]; exact hR.1.2.2.1) (fun x q => by cases q) (nowR.of hN (fun k => q4 _ _ (by decide) (by omega))) sw hng) hS.o rfl rfl (Nat.le_of_ble_eq_true rfl) (Nat.zero_le _) (Nat.zero_le _) (Nat.le_of_ble_eq_true rfl) (fun μ31 h31 => ?_)
    obtain ⟨hN2, hc2, hT2⟩ := h31
    rw [hK] at hN2 hc2
    have hT3 := hT1.trans (TmA.ofG hT2)
    have hS : ShM μ31 := hT2.sh hS
    have hL := hT3.lm hL
    have h66 : mI μ31 179 66 = -1 := by rw [hT2.2.1 _ _ (by unfold pG pW; omega) (by decide) (by decide), q4 _ _ (by decide) (by omega)]; exact hR.1.2.2.1
    have hA : AsR μ31 (mI μ 225) := fun k hk => by rw [hT2.2.1 _ _ (by omega) (by decide) (by decide)]; exact q2 k hk
    refine C.iload_n dX13_later_34 2 rfl ?_
    refine C.if_ne 45 dX13_later_35 rfl (fun hc35 => ?_) (fun hc35 => ?_)
    · have hj0 : j ≠ 0 := fun q => hc35 (by rw [q]; rfl)
      refine C.iload_n dX13_later_45 2 rfl ?_
      refine C.iconst (nI 1) dX13_later_46 (by decide) ?_
      refine C.icmp_ne 57 dX13_later_47 rfl (fun hc47 => ?_) (fun hc47 => ?_)
      · have hj1 : j ≠ 1 := n_ne hc47
        refine C.iload_n dX13_later_57 2 rfl ?_
        refine C.iconst (nI 2) dX13_later_58 (by decide) ?_
        refine C.icmp_ne 69 dX13_later_59 rfl (fun hc59 => ?_) (fun hc59 => ?_)
        · have hj2 : j ≠ 2 := n_ne hc59
          have hj3 : j = 3 := by omega
          subst hj3
          refine C.aload_n dX13_later_69 0 rfl ?_
          refine C.getI fX13_509 dX13_later_70 hS.o ?_
          first | exact m73 _ _ rfl hT3 h66 hA hN2 | (rw [hc2.2.1]; exact m73 _ _ rfl hT3 h66 hA hN2)
        · have hj2 : j = 2 := n_eq (a := j) (b := 2) hc59
          subst hj2
          refine C.aload_n dX13_later_62 0 rfl ?_
          refine C.callVI lX13_538 dX13_later_63 (kn_purses hS hL hN2 sw2.2.2.1 sm.2.2.2.2) hS.o rfl rfl (Nat.le_of_ble_eq_true rfl) (Nat.zero_le _) (Nat.zero_le _) (Nat.le_of_ble_eq_true rfl) (fun x63 μ63 h63 => ?_)
          obtain ⟨rfl, hμ⟩ := h63
          subst hμ
          refine C.goto 73 dX13_later_66 rfl ?_
          first | exact m73 _ _ rfl hT3 h66 hA hN2 | (rw [hc2.2.1]; exact m73 _ _ rfl hT3 h66 hA hN2)
      · have hj1 : j = 1 := n_eq (a := j) (b := 1) hc47
        subst hj1
        refine C.aload_n dX13_later_50 0 rfl ?_
        refine C.callVI lX13_535 dX13_later_51 (kn_goneMany hS hL hN2 sw2.2.2.1 sm.2.2.2.2 sw2.2.2.2.1) hS.o rfl rfl (Nat.le_of_ble_eq_true rfl) (Nat.zero_le _) (Nat.zero_le _) (Nat.le_of_ble_eq_true rfl) (fun x51 μ51 h51 => ?_)
        obtain ⟨rfl, hμ⟩ := h51
        subst hμ
        refine C.goto 73 dX13_later_54 rfl ?_
        first | exact m73 _ _ rfl hT3 h66 hA hN2 | (rw [hc2.2.1]; exact m73 _ _ rfl hT3 h66 hA hN2)
    · have hj0 : j = 0 := n_eq (b := 0) hc35
      subst hj0
      refine C.aload_n dX13_later_38 0 rfl ?_
      refine C.getI fX13_503 dX13_later_39 hS.o ?_
      rw [hc2.1]
      refine C.goto 73 dX13_later_42 rfl ?_
      first | exact m73 _ _ rfl hT3 h66 hA hN2 | (rw [hc2.2.1]; exact m73 _ _ rfl hT3 h66 hA hN2)
  refine C.aload_n dX13_later_0 0 rfl ?_
  refine C.iload_n dX13_later_1 1 rfl ?_
  refine C.iconst (nI 0) dX13_later_2 (by decide) ?_
  refine C.bipush (nI 60) dX13_later_3 (by decide) ?_
  refine C.callVI lX13_573 dX13_later_5 (kr_isAhead hR hH x (lo := 0) (hi := 60) (by decide) (by decide)) hS.o rfl rfl (Nat.le_of_ble_eq_true rfl) (Nat.zero_le _) (Nat.zero_le _) (Nat.le_of_ble_eq_true rfl) (fun x5 μ5 h5 => ?_)
  obtain ⟨rfl, hμ⟩ := h5
  subst hμ
  refine C.if_eq 23 dX13_later_8 rfl (fun hc8 => ?_) (fun hc8 => ?_)
  · have hz := (bI_0 _).mp hc8
    rw [Option.isSome_eq_false_iff, Option.isNone_iff_eq_none] at hz
    rw [hz] at hq
    refine C.iconst (-1) dX13_later_23 (by decide) ?_
    refine C.iret hq dX13_later_24 ?_
    exact ⟨rfl, PR.self hR⟩
  · obtain ⟨n, hn⟩ := Option.isSome_iff_exists.mp (b_t hc8)
    rw [hn] at hq
    refine C.iload_n dX13_later_11 2 rfl ?_
    refine C.i2l dX13_later_12 ?_
    refine C.lconst (lN 0) dX13_later_13 (by decide) ?_
    refine C.ldc2 kX13_560 dX13_later_14 ?_
    refine C.callSI lX13_307 dX13_later_17 (km_isIn _ _ _) rfl rfl (Nat.le_of_ble_eq_true rfl) (Nat.zero_le _) (Nat.zero_le _) (Nat.le_of_ble_eq_true rfl) (fun x17 μ17 h17 => ?_)
    obtain ⟨hx17, hμ⟩ := h17
    subst hμ
    simp only [show (3 : Int64) = lN 3 from rfl, isIn_c (n := 3) (by decide)] at hx17
    have hi := isIn_f (n := 4) (by decide) hx17
    refine C.if_ne 25 dX13_later_20 rfl (fun hc20 => ?_) (fun hc20 => ?_)
    · obtain ⟨j, hj, e, hin⟩ := hi.2 hc20
      obtain ⟨-, -, -, -, ex⟩ := ahdN_some (by decide) (by decide) hn
      have hgo := m25 n j hn hj hin
      rw [← ex, ← e] at hgo
      exact hgo
    · rw [hi.1 hc20] at hq
      refine C.iconst (-1) dX13_later_23 (by decide) ?_
      refine C.iret hq dX13_later_24 ?_
      exact ⟨rfl, PR.self hR⟩
theorem kr_first (hR : RefRel μ h) (hH : HOk h) (x : Int32) : AMet l G 8 0 0 mtX13_first [.ref (G.1 + 179), .int x] μ (qI (fun z μ' => z = firstA h x ∧ PR μ h μ')) := by
  refine AMet.of (by decide) (Nat.le_of_ble_eq_true rfl) (fun X C hX hnm hq => ?_)
  have hS := hR.1.1
  have hL := hR.2.2.2.2.1.1
  have hN := hR.2.2.2.2.2.1
  have sm := hH.1.1.sm
  have sw := hH.1.2.1
  unfold firstA at hq
  have m12 : ∀ w : Nat, inN x (ldH h).2.2.2.1.length = some w → w < (ldH h).2.2.2.1.length → AW l G X 0 0 12 [(0, .ref (G.1 + 179)), (1, .int (nI w)), (2, .int (-1))] [] μ := by
    intro w hin hw
    rw [hin] at hq
    dsimp only at hq
    have hW := hH.1.1.w2 hw
    generalize hK : firstL (ldH h) w 60 1 (stH h) = K at hq
    have fin : ∀ (b : Option Nat) (μ2 : Mm) (x3 : Int32) (S : St), b = K → TmA μ μ2 → mI μ2 179 66 = -1 → AsR μ2 (mI μ 225) → RfN μ2 S → S.2.2 = (stH h).2.2 → AW l G X 0 0 71 [(0, .ref (G.1 + 179)), (1, .int (nI w)), (2, .int (opI b)), (3, .int x3)] [] μ2 := by
      intro b μ2 x3 S hb hT h66 hA hN2 htold
      have hS : ShM μ2 := hT.sh hS
      refine C.aload_n dX13_first_71 0 rfl ?_
      refine C.callVV lX13_582 dX13_first_72 (kn_back hS hA) hS.o rfl rfl (Nat.le_of_ble_eq_true rfl) (Nat.zero_le _) (Nat.zero_le _) (Nat.le_of_ble_eq_true rfl) (fun μ72 h72 => ?_)
      obtain ⟨q1, q2, q3, q4⟩ := h72
      refine C.iload_n dX13_first_75 2 rfl ?_
      refine C.iret hq dX13_first_76 ?_
      refine ⟨by rw [hb], hR.tmA (hT.trans (TmA.of q2 (fun a k z1 z2 z3 => q4 a k (by omega) (by omega)))) (by rw [q4 _ _ (by omega) (by omega)]; exact h66) q3 (hN.back hN2 htold (by rw [sw.2.2.1]; omega) q1 (fun k hk => q4 _ _ (by omega) (by omega)))⟩
    have loop : ∀ (j n : Nat) (a : Ac) (μ2 : Mm), n + j = 61 → firstL (ldH h) w j n a.1 = K → TmA μ μ2 → mI μ2 179 66 = -1 → mI μ2 179 67 = nI 1 → AsR μ2 (mI μ 225) → RfN μ2 a.1 → CtR μ2 a → SWf (ldH h) a.1 → a.2.2.2 < 64 → bitN a.2.2.2 w = false → a.1.2.2 = (stH h).2.2 → AW l G X 0 0 23 [(0, .ref (G.1 + 179)), (1, .int (nI w)), (2, .int (-1)), (3, .int (nI n))] [] μ2 := by
      intro j
      induction j with
      | zero =>
        intro n a μ2 hn hv hT h66 h67 hA hN2 hc2 sw2 hm2 hb2 htold
        refine C.iload_n dX13_first_23 3 rfl ?_
        refine C.bipush (nI 60) dX13_first_24 (by decide) ?_
        refine C.icmp_gt 71 dX13_first_26 rfl (fun hc26 => ?_) (fun hc26 => ?_)
        · exact fin none μ2 _ a.1 hv hT h66 hA hN2 htold
        · have := n_nlt (a := 60) (b := n) hc26; omega
      | succ j ih =>
        intro n a μ2 hn hv hT h66 h67 hA hN2 hc2 sw2 hm2 hb2 htold
        have hS : ShM μ2 := hT.sh hS
        unfold firstL at hv
        have ng := sw2.1
        have hac := nightA_ac (d := ldH h) none true false a
        have hbit : bitN (nightA (ldH h) none true false a).2.2.2 w = bitN (nightA (ldH h) none true false (a.1, 0, 0, 0)).2.2.2 w := by
          rw [hac]
          show bitN (a.2.2.2 ||| _) w = _
          rw [bitN_or, hb2, Bool.false_or]
        have hst : (nightA (ldH h) none true false a).1 = (nightA (ldH h) none true false (a.1, 0, 0, 0)).1 := by rw [hac]; rfl
        rw [← hbit, ← hst] at hv
        refine C.iload_n dX13_first_23 3 rfl ?_
        refine C.bipush (nI 60) dX13_first_24 (by decide) ?_
        refine C.icmp_gt 71 dX13_first_26 rfl (fun hc26 => ?_) (fun hc26 => ?_)
        · have := n_lt (a := 60) (b := n) hc26; omega
        · refine C.iload_n dX13_first_29 2 rfl ?_
          refine C.iconst (-1) dX13_first_30 (by decide) ?_
          refine C.icmp_ne 71 dX13_first_31 rfl (fun hc31 => ?_) (fun hc31 => ?_)
          · exact absurd rfl hc31
          · refine C.aload_n dX13_first_34 0 rfl ?_
            refine C.getA fX13_151 dX13_first_35 hS.o hS.r59 ?_
            refine C.iconst (nI 0) dX13_first_38 (by decide) ?_
            refine C.iald hS.a59 (n_in (by decide)) dX13_first_39 ?_
            rw [n_cl, hN2.1]
            refine C.sipush (nI 999) dX13_first_40 (by decide) ?_
            refine C.icmp_ge 71 dX13_first_43 rfl (fun hc43 => ?_) (fun hc43 => ?_)
            · have hge := n_le (a := 999) (b := a.1.1.1) hc43
              rw [if_neg (by omega)] at hv
              exact fin none μ2 _ a.1 hv hT h66 hA hN2 htold
            · have hlt := n_nle (a := 999) (b := a.1.1.1) hc43
              rw [if_pos hlt] at hv
              obtain ⟨w1, w2, w3⟩ := night_a hW (more := none) (th := true) (storm := false) sw2 hm2 hlt
              have htd := nightA_told (d := ldH h) none false a
              refine C.aload_n dX13_first_46 0 rfl ?_
              refine C.iconst (nI 0) dX13_first_47 (by decide) ?_
              refine C.callVV lX13_525 dX13_first_48 (kn_night (storm := false) (th := true) (more := none) hS (hT.lm hL) hW hH.2 h67 h66 (fun x q => by cases q) hN2 sw2 hc2 hlt) hS.o rfl rfl (Nat.le_of_ble_eq_true rfl) (Nat.zero_le _) (Nat.zero_le _) (Nat.le_of_ble_eq_true rfl) (fun μ48 h48 => ?_)
              obtain ⟨hN3, hc3, hT3⟩ := h48
              have hS : ShM μ48 := hT3.sh hS
              have hT4 := hT.trans (TmA.ofG hT3)
              have k66 : mI μ48 179 66 = -1 := by rw [hT3.2.1 _ _ (by unfold pG pW; omega) (by decide) (by decide)]; exact h66
              have k67 : mI μ48 179 67 = nI 1 := by rw [hT3.2.1 _ _ (by unfold pG pW; omega) (by decide) (by decide)]; exact h67
              have hA3 : AsR μ48 (mI μ 225) := fun k hk => by rw [hT3.2.1 _ _ (by omega) (by decide) (by decide)]; exact hA k hk
              generalize nightA (ldH h) none true false a = b at *
              refine C.aload_n dX13_first_51 0 rfl ?_
              refine C.getI fX13_506 dX13_first_52 hS.o ?_
              rw [hc3.2.2]
              refine C.iload_n dX13_first_55 1 rfl ?_
              refine C.ishr dX13_first_56 ?_
              refine C.iconst (nI 1) dX13_first_57 (by decide) ?_
              refine C.iand dX13_first_58 ?_
              rw [bit_eq (by omega) (by omega)]
              refine C.iconst (nI 1) dX13_first_59 (by decide) ?_
              refine C.icmp_ne 65 dX13_first_60 rfl (fun hc60 => ?_) (fun hc60 => ?_)
              · have hz : bitN b.2.2.2 w = false := by unfold bitN; exact decide_eq_false (n_ne hc60)
                rw [hz] at hv
                refine C.iinc (lv' := [(0, _), (1, _), (2, _), (3, _)]) _ dX13_first_65 3 rfl rfl (nLt hX rfl) rfl ?_
                refine C.goto 23 dX13_first_68 rfl ?_
                have hgo := ih (n + 1) b μ48 (by omega) hv hT4 k66 k67 hA3 hN3 hc3 w1 w2 hz (htd.trans htold)
                rw [← nI_1] at hgo
                exact hgo
              · have hz : bitN b.2.2.2 w = true := by unfold bitN; exact decide_eq_true (n_eq (a := b.2.2.2 / 2 ^ w % 2) (b := 1) hc60)
                rw [hz] at hv
                refine C.iload_n dX13_first_63 3 rfl ?_
                refine C.istore_n (lv' := [(0, _), (1, _), (2, _), (3, _)]) dX13_first_64 (nLt hX rfl) rfl ?_
                refine C.iinc (lv' := [(0, _), (1, _), (2, _), (3, _)]) _ dX13_first_65 3 rfl rfl (nLt hX rfl) rfl ?_
                refine C.goto 23 dX13_first_68 rfl ?_
                first | skip
                refine C.iload_n dX13_first_23 3 rfl ?_
                refine C.bipush (nI 60) dX13_first_24 (by decide) ?_
                have hout := fun x3 : Int32 => fin (some n) μ48 x3 b.1 hv hT4 k66 hA3 hN3 (htd.trans htold)
                refine C.icmp_gt 71 dX13_first_26 rfl (fun hc26 => ?_) (fun hc26 => ?_)
                · exact hout _
                · refine C.iload_n dX13_first_29 2 rfl ?_
                  refine C.iconst (-1) dX13_first_30 (by decide) ?_
                  refine C.icmp_ne 71 dX13_first_31 rfl (fun hc31 => ?_) (fun hc31 => ?_)
                  · exact hout _
                  · exact absurd hc31 (n_m1 (by omega))
    have hex : ∀ v : Int32, ∃ m : Nat, v = nI m := fun v => ⟨v.toBitVec.toNat, by
      apply Int32.toBitVec_inj.mp
      show v.toBitVec = BitVec.ofNat 32 v.toBitVec.toNat
      simp⟩
    refine C.aload_n dX13_first_12 0 rfl ?_
    refine C.callVV lX13_576 dX13_first_13 (kn_aside hS) hS.o rfl rfl (Nat.le_of_ble_eq_true rfl) (Nat.zero_le _) (Nat.zero_le _) (Nat.le_of_ble_eq_true rfl) (fun μ13 h13 => ?_)
    obtain ⟨q1, q2, q3, q4⟩ := h13
    have hT1 : TmA μ (sI μ13 179 70 (nI 0)) := TmA.of q3 (fun a k z1 z2 z3 => by rw [mI_sI, if_neg (by omega)]; exact q4 a k z2 (by omega))
    have hS : ShM μ13 := hS.of (by rw [q3])
    obtain ⟨m1, e1⟩ := hex (mI (sI μ13 179 70 (nI 0)) 179 68)
    obtain ⟨m2, e2⟩ := hex (mI (sI μ13 179 70 (nI 0)) 179 69)
    refine C.aload_n dX13_first_16 0 rfl ?_
    refine C.iconst (nI 0) dX13_first_17 (by decide) ?_
    refine C.putI fX13_506 (Or.inl rfl) dX13_first_18 hS.o ?_
    refine C.iconst (nI 1) dX13_first_21 (by decide) ?_
    refine C.istore_n (lv' := [(0, _), (1, _), (2, _), (3, _)]) dX13_first_22 (nLt hX rfl) rfl ?_
    exact loop 60 1 (stH h, m1, m2, 0) _ (by omega) hK hT1 (by rw [mI_sI, if_neg (by omega), q4 _ _ (by decide) (by omega)]; exact hR.1.2.2.1) (by rw [mI_sI, if_neg (by omega)]; exact q1) (fun k hk => by rw [mI_sI, if_neg (by omega)]; exact q2 k hk) (nowR.of hN (fun k => by rw [mI_sI, if_neg (by omega)]; exact q4 _ _ (by decide) (by omega))) ⟨e1, e2, by rw [mI_sI, if_pos ⟨rfl, rfl⟩]⟩ sw (show 0 < 64 by decide) (by unfold bitN; simp) rfl
  refine C.aload_n dX13_first_0 0 rfl ?_
  refine C.iload_n dX13_first_1 1 rfl ?_
  refine C.callVI lX13_557 dX13_first_2 (kg_isWalker hS hL (by omega) x) hS.o rfl rfl (Nat.le_of_ble_eq_true rfl) (Nat.zero_le _) (Nat.zero_le _) (Nat.le_of_ble_eq_true rfl) (fun x2 μ2 h2 => ?_)
  obtain ⟨hx2, hμ⟩ := h2
  subst hμ
  have hi := isIn_f (by omega) hx2
  refine C.if_ne 10 dX13_first_5 rfl (fun hc5 => ?_) (fun hc5 => ?_)
  · obtain ⟨w, hw, e, hin⟩ := hi.2 hc5
    refine C.iconst (-1) dX13_first_10 (by decide) ?_
    refine C.istore_n (lv' := [(0, _), (1, _), (2, _)]) dX13_first_11 (nLt hX rfl) rfl ?_
    first | skip
    have hgo := m12 w hin hw
    rw [← e] at hgo
    exact hgo
  · rw [hi.1 hc5] at hq
    refine C.iconst (-1) dX13_first_8 (by decide) ?_
    refine C.iret hq dX13_first_9 ?_
    exact ⟨rfl, PR.self hR⟩
end KLT
