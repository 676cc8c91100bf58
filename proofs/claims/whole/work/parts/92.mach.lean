/-! codes with their kinds; the class's Machine -/
def bnd (v : Int64) : Prop := -1000000 ≤ v.toInt ∧ v.toInt ≤ 1000000
theorem M1i : (1000000 : Int64).toInt = 1000000 := by decide
theorem M2i : (-1000000 : Int64).toInt = -1000000 := by decide
theorem lN_i0 : (lN 0).toInt = 0 := by decide
theorem lN_i1 : (lN 1).toInt = 1 := by decide
theorem bnd_rt {v : Int64} (h : bnd v) : v.toInt32.toInt64 = v := Int64.toInt_inj.mp (by
  obtain ⟨h1, h2⟩ := h
  rw [Int32.toInt_toInt64, Int64.toInt_toInt32]
  exact Int.bmod_eq_of_le (by omega) (by omega))
theorem bnd_ti {v : Int64} (h : bnd v) : v.toInt32.toInt = v.toInt := by
  obtain ⟨h1, h2⟩ := h
  rw [Int64.toInt_toInt32]
  exact Int.bmod_eq_of_le (by omega) (by omega)
theorem bnd_n {n : Nat} (h : n ≤ 1000000) : bnd (lN n) := by
  unfold bnd
  rw [pk_lT (by omega)]
  omega
theorem bnd_clip (v : Int64) : bnd (clip64 v) := by
  unfold clip64 bnd
  split
  · rw [M1i]; omega
  · split
    · rw [M2i]; omega
    · rename_i h1 h2
      rw [Int64.le_iff_toInt_le, M1i] at h1
      rw [Int64.le_iff_toInt_le, M2i] at h2
      omega
theorem clip_bnd {v : Int64} (h : bnd v) : clip64 v = v := by
  obtain ⟨h1, h2⟩ := h
  unfold clip64
  rw [if_neg (by rw [Int64.le_iff_toInt_le, M1i]; omega), if_neg (by rw [Int64.le_iff_toInt_le, M2i]; omega)]
theorem clip_mm (v : Int64) : (if (if 1000000 ≤ v then 1000000 else v) ≤ -1000000 then -1000000 else (if 1000000 ≤ v then 1000000 else v)) = clip64 v := by
  unfold clip64
  apply Int64.toInt_inj.mp
  have e1 := M1i
  have e2 := M2i
  by_cases h1 : 1000000 ≤ v
  · rw [if_pos h1]
    rw [if_neg (show ¬ ((1000000 : Int64) ≤ -1000000) by decide)]
    rw [Int64.le_iff_toInt_le, e1] at h1
    split
    · rfl
    · rename_i h2
      rw [Int64.le_iff_toInt_le, e1] at h2
      rw [if_neg (by rw [Int64.le_iff_toInt_le, e2]; omega)]
      omega
  · rw [if_neg h1]
    rw [Int64.le_iff_toInt_le, e1] at h1
    rw [if_neg (show ¬ ¬ v ≤ 1000000 by rw [Int64.le_iff_toInt_le, e1]; omega)]
    by_cases h2 : v ≤ -1000000
    · rw [if_pos h2]
      rw [Int64.le_iff_toInt_le, e2] at h2
      split
      · rfl
      · rename_i h3
        rw [Int64.le_iff_toInt_le, e2] at h3
        omega
    · rw [if_neg h2, if_neg (by rw [Int64.le_iff_toInt_le, e2] at h2 ⊢; omega)]
theorem flo_bnd {a b : Int64} (ha : bnd a) (hb : bnd b) : bnd (flo64 a b) := by
  obtain ⟨h1, h2⟩ := ha
  obtain ⟨h3, h4⟩ := hb
  unfold flo64
  split
  · exact bnd_n (n := 0) (by omega)
  · rename_i hb0
    have hbi : b.toInt ≠ 0 := fun q => hb0 (Int64.toInt_inj.mp q)
    have hab : (a.toInt.tdiv b.toInt).natAbs = a.toInt.natAbs / b.toInt.natAbs := Int.natAbs_tdiv _ _
    have hle := Nat.div_le_self a.toInt.natAbs b.toInt.natAbs
    have hq : (a / b).toInt = a.toInt.tdiv b.toInt := by
      rw [Int64.toInt_div]
      exact Int.bmod_eq_of_le (by omega) (by omega)
    split
    · rename_i hr
      have h5 : 2 ≤ b.toInt.natAbs := by
        rcases Nat.lt_or_ge b.toInt.natAbs 2 with q | q
        · exfalso
          apply hr.1
          rw [l_sub0]
          apply Int64.toInt_inj.mp
          have hb1 : b.toInt = 1 ∨ b.toInt = -1 := by omega
          rw [Int64.toInt_mul, hq]
          rcases hb1 with z | z
          · rw [z, Int.tdiv_one, Int.mul_one]
            exact Int.bmod_eq_of_le (by omega) (by omega)
          · rw [z, Int.tdiv_neg, Int.tdiv_one]
            rw [show -a.toInt * -1 = a.toInt by omega]
            exact Int.bmod_eq_of_le (by omega) (by omega)
        · exact q
      have h6 : a.toInt.natAbs / b.toInt.natAbs ≤ a.toInt.natAbs / 2 := Nat.div_le_div_left h5 (by decide)
      have h7 : (a / b - lN 1).toInt = a.toInt.tdiv b.toInt - 1 := by
        rw [Int64.toInt_sub, hq, lN_i1]
        exact Int.bmod_eq_of_le (by omega) (by omega)
      unfold bnd
      rw [h7]
      omega
    · unfold bnd
      rw [hq]
      omega
/-- what a code does to the kinds on the pile: false a number, true a test -/
def TyS (al : Nat → Bool) (q : Bool) (n : Nat) (ts ts' : List Bool) : Prop :=
  (1000 ≤ n ∧ n ≤ 10999 ∧ ts' = false :: ts) ∨ (q = true ∧ n = 60 ∧ ∃ r, ts = false :: r ∧ ts' = false :: r) ∨ (40 ≤ n ∧ n ≤ 48 ∧ al (n - 40) = true ∧ ts' = false :: ts) ∨ (n = 13 ∧ ts' = true :: ts) ∨ (n = 12 ∧ ∃ r, ts = true :: r ∧ ts' = true :: r) ∨ (1 ≤ n ∧ n ≤ 6 ∧ ∃ r, ts = false :: false :: r ∧ ts' = false :: r) ∨ (7 ≤ n ∧ n ≤ 9 ∧ ∃ r, ts = false :: false :: r ∧ ts' = true :: r) ∨ (10 ≤ n ∧ n ≤ 11 ∧ ∃ r, ts = true :: true :: r ∧ ts' = true :: r)
def TyR (al : Nat → Bool) (q : Bool) : List Nat → List Bool → List Bool → Prop
  | [], ts, tf => ts = tf
  | n :: r, ts, tf => ∃ t, TyS al q n ts t ∧ t.length ≤ 64 ∧ TyR al q r t tf
theorem TyR.app {al : Nat → Bool} {q : Bool} : ∀ {a b : List Nat} {t1 t2 t3 : List Bool}, TyR al q a t1 t2 → TyR al q b t2 t3 → TyR al q (a ++ b) t1 t3
  | [], b, t1, t2, t3, h, h2 => by
    have : t1 = t2 := h
    subst this
    exact h2
  | n :: a, b, t1, t2, t3, h, h2 => by
    obtain ⟨t, k1, k2, k3⟩ := h
    exact ⟨t, k1, k2, k3.app h2⟩
theorem TyR.one {al : Nat → Bool} {q : Bool} {n : Nat} {t1 t2 : List Bool} (h : TyS al q n t1 t2) (hl : t2.length ≤ 64) : TyR al q [n] t1 t2 := ⟨t2, h, hl, rfl⟩
/-- the pile keeps to its kinds -/
def StT : List Int64 → List Bool → Prop
  | [], [] => True
  | v :: s, t :: r => bnd v ∧ (t = true → v = lN 0 ∨ v = lN 1) ∧ StT s r
  | _, _ => False
theorem StT.len : ∀ {s : List Int64} {t : List Bool}, StT s t → s.length = t.length
  | [], [], _ => rfl
  | _ :: _, _ :: _, h => by simp only [List.length_cons]; rw [h.2.2.len]
  | [], _ :: _, h => h.elim
  | _ :: _, [], h => h.elim
theorem StT.cons {t : Bool} {r : List Bool} : ∀ {s : List Int64}, StT s (t :: r) → ∃ v s', s = v :: s' ∧ bnd v ∧ (t = true → v = lN 0 ∨ v = lN 1) ∧ StT s' r
  | [], h => h.elim
  | v :: s', h => ⟨v, s', rfl, h⟩
theorem j_1 (a b : Int64) : jn64 (nI 1) a b = clip64 (a + b) := by unfold jn64; rw [if_pos rfl]
theorem j_2 (a b : Int64) : jn64 (nI 2) a b = clip64 (a - b) := by unfold jn64; rw [if_neg (by decide), if_pos rfl]
theorem j_3 (a b : Int64) : jn64 (nI 3) a b = clip64 (a * b) := by unfold jn64; rw [if_neg (by decide), if_neg (by decide), if_pos rfl]
theorem j_4 (a b : Int64) : jn64 (nI 4) a b = flo64 a b := by unfold jn64; rw [if_neg (by decide), if_neg (by decide), if_neg (by decide), if_pos rfl]
theorem j_5 (a b : Int64) : jn64 (nI 5) a b = (if b ≤ a then b else a) := by unfold jn64; rw [if_neg (by decide), if_neg (by decide), if_neg (by decide), if_neg (by decide), if_pos rfl]
theorem j_6 (a b : Int64) : jn64 (nI 6) a b = (if a ≤ b then b else a) := by unfold jn64; rw [if_neg (by decide), if_neg (by decide), if_neg (by decide), if_neg (by decide), if_neg (by decide), if_pos rfl]
theorem j_7 (a b : Int64) : jn64 (nI 7) a b = (if b ≤ a then lN 0 else lN 1) := by unfold jn64; rw [if_neg (by decide), if_neg (by decide), if_neg (by decide), if_neg (by decide), if_neg (by decide), if_neg (by decide), if_pos rfl]
theorem j_8 (a b : Int64) : jn64 (nI 8) a b = (if a ≤ b then lN 0 else lN 1) := by unfold jn64; rw [if_neg (by decide), if_neg (by decide), if_neg (by decide), if_neg (by decide), if_neg (by decide), if_neg (by decide), if_neg (by decide), if_pos rfl]
theorem j_9 (a b : Int64) : jn64 (nI 9) a b = (if a = b then lN 1 else lN 0) := by unfold jn64; rw [if_neg (by decide), if_neg (by decide), if_neg (by decide), if_neg (by decide), if_neg (by decide), if_neg (by decide), if_neg (by decide), if_neg (by decide), if_pos rfl]
theorem j_10 (a b : Int64) : jn64 (nI 10) a b = a * b := by unfold jn64; rw [if_neg (by decide), if_neg (by decide), if_neg (by decide), if_neg (by decide), if_neg (by decide), if_neg (by decide), if_neg (by decide), if_neg (by decide), if_neg (by decide), if_pos rfl]
theorem j_11 (a b : Int64) : jn64 (nI 11) a b = (if a + b ≤ lN 0 then lN 0 else lN 1) := by unfold jn64; rw [if_neg (by decide), if_neg (by decide), if_neg (by decide), if_neg (by decide), if_neg (by decide), if_neg (by decide), if_neg (by decide), if_neg (by decide), if_neg (by decide), if_neg (by decide)]
theorem jn_bnd {n : Nat} {a b : Int64} (h1 : 1 ≤ n) (h2 : n ≤ 6) (ha : bnd a) (hb : bnd b) : bnd (jn64 (nI n) a b) := by
  rcases (show n = 1 ∨ n = 2 ∨ n = 3 ∨ n = 4 ∨ n = 5 ∨ n = 6 by omega) with rfl | rfl | rfl | rfl | rfl | rfl
  · rw [j_1]; exact bnd_clip _
  · rw [j_2]; exact bnd_clip _
  · rw [j_3]; exact bnd_clip _
  · rw [j_4]; exact flo_bnd ha hb
  · rw [j_5]
    split
    · exact hb
    · exact ha
  · rw [j_6]
    split
    · exact hb
    · exact ha
theorem jn_01 {n : Nat} {a b : Int64} (h1 : 7 ≤ n) (h2 : n ≤ 9) : jn64 (nI n) a b = lN 0 ∨ jn64 (nI n) a b = lN 1 := by
  rcases (show n = 7 ∨ n = 8 ∨ n = 9 by omega) with rfl | rfl | rfl
  · rw [j_7]
    split
    · exact Or.inl rfl
    · exact Or.inr rfl
  · rw [j_8]
    split
    · exact Or.inl rfl
    · exact Or.inr rfl
  · rw [j_9]
    split
    · exact Or.inr rfl
    · exact Or.inl rfl
theorem bnd_01 {v : Int64} (h : v = lN 0 ∨ v = lN 1) : bnd v := by
  rcases h with rfl | rfl
  · exact bnd_n (by omega)
  · exact bnd_n (by omega)
/-- what the class joins, before it is bounded -/
def jnR (n : Nat) (a b : Int64) : Int64 := if n = 1 then a + b else if n = 2 then a - b else if n = 3 then a * b else if n = 4 then flo64 a b else if n = 5 then (if a ≤ b then a else b) else if n = 6 then (if b ≤ a then a else b) else if n = 7 then (if b ≤ a then lN 0 else lN 1) else if n = 8 then (if a ≤ b then lN 0 else lN 1) else if n = 9 then (if a = b then lN 1 else lN 0) else if n = 10 then a &&& b else a ||| b
theorem r_1 (a b : Int64) : jnR 1 a b = a + b := rfl
theorem r_2 (a b : Int64) : jnR 2 a b = a - b := rfl
theorem r_3 (a b : Int64) : jnR 3 a b = a * b := rfl
theorem r_4 (a b : Int64) : jnR 4 a b = flo64 a b := rfl
theorem r_5 (a b : Int64) : jnR 5 a b = (if a ≤ b then a else b) := rfl
theorem r_6 (a b : Int64) : jnR 6 a b = (if b ≤ a then a else b) := rfl
theorem r_7 (a b : Int64) : jnR 7 a b = (if b ≤ a then lN 0 else lN 1) := rfl
theorem r_8 (a b : Int64) : jnR 8 a b = (if a ≤ b then lN 0 else lN 1) := rfl
theorem r_9 (a b : Int64) : jnR 9 a b = (if a = b then lN 1 else lN 0) := rfl
theorem r_10 (a b : Int64) : jnR 10 a b = a &&& b := rfl
theorem r_11 (a b : Int64) : jnR 11 a b = a ||| b := rfl
theorem jnR_eq {n : Nat} {a b : Int64} (h1 : 1 ≤ n) (h2 : n ≤ 11) (ha : bnd a) (hb : bnd b) (ht : 10 ≤ n → (a = lN 0 ∨ a = lN 1) ∧ (b = lN 0 ∨ b = lN 1)) : clip64 (jnR n a b) = jn64 (nI n) a b := by
  have h56 : bnd (jn64 (nI 5) a b) ∧ bnd (jn64 (nI 6) a b) := ⟨jn_bnd (by omega) (by omega) ha hb, jn_bnd (by omega) (by omega) ha hb⟩
  rcases (show n = 1 ∨ n = 2 ∨ n = 3 ∨ n = 4 ∨ n = 5 ∨ n = 6 ∨ n = 7 ∨ n = 8 ∨ n = 9 ∨ n = 10 ∨ n = 11 by omega) with rfl | rfl | rfl | rfl | rfl | rfl | rfl | rfl | rfl | rfl | rfl
  · rw [j_1, r_1]
  · rw [j_2, r_2]
  · rw [j_3, r_3]
  · rw [j_4, r_4]; exact clip_bnd (flo_bnd ha hb)
  · have e : jnR 5 a b = jn64 (nI 5) a b := by
      rw [j_5, r_5]
      by_cases q : a ≤ b
      · by_cases q2 : b ≤ a
        · rw [if_pos q, if_pos q2]; exact Int64.le_antisymm q q2
        · rw [if_pos q, if_neg q2]
      · rw [if_neg q, if_pos ((Int64.le_total a b).resolve_left q)]
    rw [e]; exact clip_bnd h56.1
  · have e : jnR 6 a b = jn64 (nI 6) a b := by
      rw [j_6, r_6]
      by_cases q : a ≤ b
      · by_cases q2 : b ≤ a
        · rw [if_pos q, if_pos q2]; exact Int64.le_antisymm q q2
        · rw [if_pos q, if_neg q2]
      · rw [if_neg q, if_pos ((Int64.le_total a b).resolve_left q)]
    rw [e]; exact clip_bnd h56.2
  · have z := bnd_01 (jn_01 (n := 7) (a := a) (b := b) (by omega) (by omega))
    rw [j_7] at z ⊢; rw [r_7]; exact clip_bnd z
  · have z := bnd_01 (jn_01 (n := 8) (a := a) (b := b) (by omega) (by omega))
    rw [j_8] at z ⊢; rw [r_8]; exact clip_bnd z
  · have z := bnd_01 (jn_01 (n := 9) (a := a) (b := b) (by omega) (by omega))
    rw [j_9] at z ⊢; rw [r_9]; exact clip_bnd z
  · obtain ⟨h3, h4⟩ := ht (by omega)
    rw [j_10, r_10]
    rcases h3 with rfl | rfl <;> rcases h4 with rfl | rfl <;> decide +kernel
  · obtain ⟨h3, h4⟩ := ht (by omega)
    rw [j_11, r_11]
    rcases h3 with rfl | rfl <;> rcases h4 with rfl | rfl <;> decide +kernel
/-- a code of the reference as the class writes it -/
def cvN (n : Nat) : Nat := if 1000 ≤ n then (n - 1000) * 16 else if 60 ≤ n then 14 else if 40 ≤ n then (n - 40) * 16 + 1 else if n = 13 then 16 else n + 1
/-- the class's pile, last first -/
def PSt (μ μ1 : Mm) (st : List Int64) : Prop := (μ1.2 = μ.2 ∧ (∀ a k, a ≠ 14 → ¬ (a = 11 ∧ k = 3) → mI μ1 a k = mI μ a k)) ∧ mI μ1 11 3 = nI st.length ∧ ∀ i, i < st.length → mI μ1 14 i = (st.reverse.getD i 0).toInt32
section PSP
variable {μ μ1 : Mm} {st : List Int64}
theorem PSt.sh (h : PSt μ μ1 st) (hS : ShC μ) : ShC μ1 := hS.of (by rw [h.1.1])
theorem PSt.push (h : PSt μ μ1 st) (v : Int64) : PSt μ (sI (sI μ1 14 st.length v.toInt32) 11 3 (nI (st.length + 1))) (v :: st) := by
  obtain ⟨⟨a1, a2⟩, b, c⟩ := h
  refine ⟨⟨a1, fun a k q q2 => by rw [mI_sI, if_neg q2, mI_sI, if_neg (fun z => q z.1)]; exact a2 a k q q2⟩, by simp [mI_sI], fun i hi => ?_⟩
  rw [mI_sI, if_neg (by omega), mI_sI]
  by_cases hl : i = st.length
  · rw [if_pos ⟨rfl, hl⟩, hl]; simp
  · have hi' : i < st.length := by simp at hi; omega
    rw [if_neg (by omega), c i hi']
    simp only [List.reverse_cons]
    rw [List.getD_eq_getElem?_getD, List.getD_eq_getElem?_getD, List.getElem?_append_left (by simpa using hi')]
theorem PSt.top {v : Int64} (h : PSt μ μ1 (v :: st)) : mI μ1 14 st.length = v.toInt32 := by
  rw [h.2.2 st.length (by simp)]
  simp
theorem PSt.pop {v : Int64} (h : PSt μ μ1 (v :: st)) : PSt μ (sI μ1 11 3 (nI st.length)) st := by
  obtain ⟨⟨a1, a2⟩, b, c⟩ := h
  refine ⟨⟨a1, fun a k q q2 => by rw [mI_sI, if_neg q2]; exact a2 a k q q2⟩, by simp [mI_sI], fun i hi => ?_⟩
  rw [mI_sI, if_neg (by omega), c i (by simp; omega)]
  simp only [List.reverse_cons]
  rw [List.getD_eq_getElem?_getD, List.getD_eq_getElem?_getD, List.getElem?_append_left (by simpa using hi)]
end PSP
section KMA
variable {l : Launch} {G : Gm} {μ μ1 : Mm} {st : List Int64}

theorem kc_push (hS : ShC μ) (hP : PSt μ μ1 st) (hl : st.length < 64) (v : Int64) : AMet l G 0 0 0 mtX4_push [.ref (G.1 + 11), .int v.toInt32] μ1 (qV (fun μ' => PSt μ μ' (v :: st))) := by
  refine AMet.of (by decide) (Nat.le_of_ble_eq_true rfl) (fun X C hX hnm hq => ?_)
  have hS : ShC μ1 := hP.sh hS
  have hc := hP.2.1
  have hc2 : mI (sI μ1 14 st.length v.toInt32) 11 3 = nI st.length := by rw [mI_sI, if_neg (by omega)]; exact hc
  refine C.aload_n dX4_push_0 0 rfl ?_
  refine C.getI fX4_21 dX4_push_1 hS.o11 ?_
  refine C.bipush (nI 64) dX4_push_4 (by decide) ?_
  rw [hc]
  refine C.icmp_ge 29 dX4_push_6 rfl (fun hc6 => ?_) (fun hc6 => ?_)
  · exact absurd (n_le hc6) (by omega)
  · refine C.aload_n dX4_push_9 0 rfl ?_
    refine C.getA fX4_18 dX4_push_10 hS.o11 hS.r11_2 ?_
    refine C.aload_n dX4_push_13 0 rfl ?_
    refine C.getI fX4_21 dX4_push_14 hS.o11 ?_
    rw [hc]
    refine C.iload_n dX4_push_17 1 rfl ?_
    refine C.iast hS.a14 (n_in (by omega)) dX4_push_18 ?_
    rw [n_cl]
    refine C.aload_n dX4_push_19 0 rfl ?_
    refine C.dup dX4_push_20 rfl ?_
    refine C.getI fX4_21 dX4_push_21 hS.o11 ?_
    rw [hc2]
    refine C.iconst (nI 1) dX4_push_24 (by decide) ?_
    refine C.iadd dX4_push_25 ?_
    rw [nI_add]
    refine C.putI fX4_21 (Or.inl rfl) dX4_push_26 hS.o11 ?_
    refine C.vret hq dX4_push_29 ?_
    exact hP.push v
theorem kc_pop (hS : ShC μ) {v : Int64} (hP : PSt μ μ1 (v :: st)) (hl : st.length < 64) : AMet l G 0 0 0 mtX4_pop [.ref (G.1 + 11)] μ1 (qI (fun x μ' => x = v.toInt32 ∧ PSt μ μ' st)) := by
  refine AMet.of (by decide) (Nat.le_of_ble_eq_true rfl) (fun X C hX hnm hq => ?_)
  have hS : ShC μ1 := hP.sh hS
  have hc := hP.2.1
  simp only [List.length_cons] at hc
  have hc2 : mI (sI μ1 11 3 (nI st.length)) 11 3 = nI st.length := by simp [mI_sI]
  have hS2 : ShC (sI μ1 11 3 (nI st.length)) := hS.of rfl
  refine C.aload_n dX4_pop_0 0 rfl ?_
  refine C.getI fX4_21 dX4_pop_1 hS.o11 ?_
  rw [hc]
  refine C.if_ne 9 dX4_pop_4 rfl (fun hc4 => ?_) (fun hc4 => ?_)
  · refine C.aload_n dX4_pop_9 0 rfl ?_
    refine C.dup dX4_pop_10 rfl ?_
    refine C.getI fX4_21 dX4_pop_11 hS.o11 ?_
    rw [hc]
    refine C.iconst (nI 1) dX4_pop_14 (by decide) ?_
    refine C.isub dX4_pop_15 ?_
    rw [pk_sub (by omega), show st.length + 1 - 1 = st.length by omega]
    refine C.putI fX4_21 (Or.inl rfl) dX4_pop_16 hS.o11 ?_
    refine C.aload_n dX4_pop_19 0 rfl ?_
    refine C.getA fX4_18 dX4_pop_20 hS.o11 hS.r11_2 ?_
    refine C.aload_n dX4_pop_23 0 rfl ?_
    refine C.getI fX4_21 dX4_pop_24 hS.o11 ?_
    rw [hc2]
    refine C.iald hS.a14 (n_in (by omega)) dX4_pop_27 ?_
    rw [n_cl]
    refine C.iret hq dX4_pop_28 ?_
    exact ⟨by rw [mI_sI, if_neg (by omega)]; exact hP.top, hP.pop⟩
  · exact absurd hc4 (nI_ne0 (by omega) (by omega))
theorem kc_bounded (v : Int64) : AMet l G 1 0 0 mtX4_bounded [.long v] μ (qI (fun x μ' => x = (clip64 v).toInt32 ∧ μ' = μ)) := by
  refine AMet.of (by decide) (Nat.le_of_ble_eq_true rfl) (fun X C hX hnm hq => ?_)
  refine C.ldc2 kX4_58 dX4_bounded_0 ?_
  refine C.ldc2 kX4_60 dX4_bounded_3 ?_
  refine C.lload_n dX4_bounded_6 0 rfl ?_
  refine C.callSL lX4_52 dX4_bounded_7 (kj_minL _ _) rfl rfl (Nat.le_of_ble_eq_true rfl) (Nat.zero_le _) (Nat.zero_le _) (Nat.le_of_ble_eq_true rfl) (fun x7 μ7 h7 => ?_)
  obtain ⟨rfl, hμ⟩ := h7
  subst hμ
  refine C.callSL lX4_55 dX4_bounded_10 (kj_maxL _ _) rfl rfl (Nat.le_of_ble_eq_true rfl) (Nat.zero_le _) (Nat.zero_le _) (Nat.le_of_ble_eq_true rfl) (fun x10 μ10 h10 => ?_)
  obtain ⟨rfl, hμ⟩ := h10
  subst hμ
  refine C.l2i dX4_bounded_13 ?_
  refine C.iret hq dX4_bounded_14 ?_
  exact ⟨by rw [← clip_mm], rfl⟩
theorem kc_joined {n : Nat} (h1 : 1 ≤ n) (h2 : n ≤ 11) (a b : Int64) : AMet l G 1 0 0 mtX4_joined [.int (nI (n + 1)), .long a, .long b] μ (qL (fun x μ' => x = jnR n a b ∧ μ' = μ)) := by
  refine AMet.of (by decide) (Nat.le_of_ble_eq_true rfl) (fun X C hX hnm hq => ?_)
  rcases (show n = 1 ∨ n = 2 ∨ n = 3 ∨ n = 4 ∨ n = 5 ∨ n = 6 ∨ n = 7 ∨ n = 8 ∨ n = 9 ∨ n = 10 ∨ n = 11 by omega) with rfl | rfl | rfl | rfl | rfl | rfl | rfl | rfl | rfl | rfl | rfl
  · skip
    refine C.iload_n dX4_joined_0 0 rfl ?_
    refine C.tableIn 56 dX4_joined_1 (by decide) (by decide) rfl rfl ?_
    refine C.lload_n dX4_joined_56 1 rfl ?_
    refine C.lload_n dX4_joined_57 2 rfl ?_
    refine C.ladd dX4_joined_58 ?_
    refine C.lret hq dX4_joined_59 ?_
    exact ⟨rfl, rfl⟩
  · skip
    refine C.iload_n dX4_joined_0 0 rfl ?_
    refine C.tableIn 60 dX4_joined_1 (by decide) (by decide) rfl rfl ?_
    refine C.lload_n dX4_joined_60 1 rfl ?_
    refine C.lload_n dX4_joined_61 2 rfl ?_
    refine C.lsub dX4_joined_62 ?_
    refine C.lret hq dX4_joined_63 ?_
    exact ⟨rfl, rfl⟩
  · skip
    refine C.iload_n dX4_joined_0 0 rfl ?_
    refine C.tableIn 64 dX4_joined_1 (by decide) (by decide) rfl rfl ?_
    refine C.lload_n dX4_joined_64 1 rfl ?_
    refine C.lload_n dX4_joined_65 2 rfl ?_
    refine C.lmul dX4_joined_66 ?_
    refine C.lret hq dX4_joined_67 ?_
    exact ⟨rfl, rfl⟩
  · have hfl : b = lN 0 → lN 0 = flo64 a b := fun q => by unfold flo64; exact (if_pos q).symm
    refine C.iload_n dX4_joined_0 0 rfl ?_
    refine C.tableIn 68 dX4_joined_1 (by decide) (by decide) rfl rfl ?_
    refine C.lload_n dX4_joined_68 2 rfl ?_
    refine C.lconst (lN 0) dX4_joined_69 (by decide) ?_
    refine C.lcmp dX4_joined_70 ?_
    refine C.if_ne 78 dX4_joined_71 rfl (fun hc71 => ?_) (fun hc71 => ?_)
    · refine C.lload_n dX4_joined_78 1 rfl ?_
      refine C.lload_n dX4_joined_79 2 rfl ?_
      refine C.callSL lX4_46 dX4_joined_80 (kj_floorDiv (fun z => hc71 (cmp_eq.mpr z))) rfl rfl (Nat.le_of_ble_eq_true rfl) (Nat.zero_le _) (Nat.zero_le _) (Nat.le_of_ble_eq_true rfl) (fun x80 μ80 h80 => ?_)
      obtain ⟨rfl, hμ⟩ := h80
      subst hμ
      refine C.lret hq dX4_joined_83 ?_
      first | exact ⟨rfl, rfl⟩ | exact ⟨hfl (cmp_eq.mp hc71), rfl⟩
    · refine C.lconst (lN 0) dX4_joined_74 (by decide) ?_
      refine C.goto 83 dX4_joined_75 rfl ?_
      refine C.lret hq dX4_joined_83 ?_
      first | exact ⟨rfl, rfl⟩ | exact ⟨hfl (cmp_eq.mp hc71), rfl⟩
  · skip
    refine C.iload_n dX4_joined_0 0 rfl ?_
    refine C.tableIn 84 dX4_joined_1 (by decide) (by decide) rfl rfl ?_
    refine C.lload_n dX4_joined_84 1 rfl ?_
    refine C.lload_n dX4_joined_85 2 rfl ?_
    refine C.callSL lX4_52 dX4_joined_86 (kj_minL _ _) rfl rfl (Nat.le_of_ble_eq_true rfl) (Nat.zero_le _) (Nat.zero_le _) (Nat.le_of_ble_eq_true rfl) (fun x86 μ86 h86 => ?_)
    obtain ⟨rfl, hμ⟩ := h86
    subst hμ
    refine C.lret hq dX4_joined_89 ?_
    exact ⟨rfl, rfl⟩
  · skip
    refine C.iload_n dX4_joined_0 0 rfl ?_
    refine C.tableIn 90 dX4_joined_1 (by decide) (by decide) rfl rfl ?_
    refine C.lload_n dX4_joined_90 1 rfl ?_
    refine C.lload_n dX4_joined_91 2 rfl ?_
    refine C.callSL lX4_55 dX4_joined_92 (kj_maxL _ _) rfl rfl (Nat.le_of_ble_eq_true rfl) (Nat.zero_le _) (Nat.zero_le _) (Nat.le_of_ble_eq_true rfl) (fun x92 μ92 h92 => ?_)
    obtain ⟨rfl, hμ⟩ := h92
    subst hμ
    refine C.lret hq dX4_joined_95 ?_
    exact ⟨rfl, rfl⟩
  · skip
    refine C.iload_n dX4_joined_0 0 rfl ?_
    refine C.tableIn 96 dX4_joined_1 (by decide) (by decide) rfl rfl ?_
    refine C.lload_n dX4_joined_96 1 rfl ?_
    refine C.lload_n dX4_joined_97 2 rfl ?_
    refine C.lcmp dX4_joined_98 ?_
    refine C.if_ge 106 dX4_joined_99 rfl (fun hc99 => ?_) (fun hc99 => ?_)
    · refine C.lconst (lN 0) dX4_joined_106 (by decide) ?_
      refine C.lret hq dX4_joined_107 ?_
      first | exact ⟨(if_pos (cmp_ge.mp hc99)).symm, rfl⟩ | exact ⟨(if_neg (fun z => hc99 (cmp_ge.mpr z))).symm, rfl⟩
    · refine C.lconst (lN 1) dX4_joined_102 (by decide) ?_
      refine C.goto 107 dX4_joined_103 rfl ?_
      refine C.lret hq dX4_joined_107 ?_
      first | exact ⟨(if_pos (cmp_ge.mp hc99)).symm, rfl⟩ | exact ⟨(if_neg (fun z => hc99 (cmp_ge.mpr z))).symm, rfl⟩
  · skip
    refine C.iload_n dX4_joined_0 0 rfl ?_
    refine C.tableIn 108 dX4_joined_1 (by decide) (by decide) rfl rfl ?_
    refine C.lload_n dX4_joined_108 1 rfl ?_
    refine C.lload_n dX4_joined_109 2 rfl ?_
    refine C.lcmp dX4_joined_110 ?_
    refine C.if_le 118 dX4_joined_111 rfl (fun hc111 => ?_) (fun hc111 => ?_)
    · refine C.lconst (lN 0) dX4_joined_118 (by decide) ?_
      refine C.lret hq dX4_joined_119 ?_
      first | exact ⟨(if_pos (cmp_le.mp hc111)).symm, rfl⟩ | exact ⟨(if_neg (fun z => hc111 (cmp_le.mpr z))).symm, rfl⟩
    · refine C.lconst (lN 1) dX4_joined_114 (by decide) ?_
      refine C.goto 119 dX4_joined_115 rfl ?_
      refine C.lret hq dX4_joined_119 ?_
      first | exact ⟨(if_pos (cmp_le.mp hc111)).symm, rfl⟩ | exact ⟨(if_neg (fun z => hc111 (cmp_le.mpr z))).symm, rfl⟩
  · skip
    refine C.iload_n dX4_joined_0 0 rfl ?_
    refine C.tableIn 120 dX4_joined_1 (by decide) (by decide) rfl rfl ?_
    refine C.lload_n dX4_joined_120 1 rfl ?_
    refine C.lload_n dX4_joined_121 2 rfl ?_
    refine C.lcmp dX4_joined_122 ?_
    refine C.if_ne 130 dX4_joined_123 rfl (fun hc123 => ?_) (fun hc123 => ?_)
    · refine C.lconst (lN 0) dX4_joined_130 (by decide) ?_
      refine C.lret hq dX4_joined_131 ?_
      first | exact ⟨(if_pos (cmp_eq.mp hc123)).symm, rfl⟩ | exact ⟨(if_neg (fun z => hc123 (cmp_eq.mpr z))).symm, rfl⟩
    · refine C.lconst (lN 1) dX4_joined_126 (by decide) ?_
      refine C.goto 131 dX4_joined_127 rfl ?_
      refine C.lret hq dX4_joined_131 ?_
      first | exact ⟨(if_pos (cmp_eq.mp hc123)).symm, rfl⟩ | exact ⟨(if_neg (fun z => hc123 (cmp_eq.mpr z))).symm, rfl⟩
  · skip
    refine C.iload_n dX4_joined_0 0 rfl ?_
    refine C.tableIn 132 dX4_joined_1 (by decide) (by decide) rfl rfl ?_
    refine C.lload_n dX4_joined_132 1 rfl ?_
    refine C.lload_n dX4_joined_133 2 rfl ?_
    refine C.land dX4_joined_134 ?_
    refine C.lret hq dX4_joined_135 ?_
    exact ⟨rfl, rfl⟩
  · skip
    refine C.iload_n dX4_joined_0 0 rfl ?_
    refine C.tableOut 136 dX4_joined_1 (Or.inr (by decide)) rfl ?_
    refine C.lload_n dX4_joined_136 1 rfl ?_
    refine C.lload_n dX4_joined_137 2 rfl ?_
    refine C.lor dX4_joined_138 ?_
    refine C.lret hq dX4_joined_139 ?_
    exact ⟨rfl, rfl⟩
theorem kc_setValue (hS : ShC μ) {w : Nat} (h1 : 17 ≤ w) (h2 : w < 26) (v : Int32) : AMet l G 0 0 0 mtX4_setValue [.ref (G.1 + 11), .int (nI w), .int v] μ (qV (fun μ' => μ' = sI μ 12 (w - 17) v)) := by
  refine AMet.of (by decide) (Nat.le_of_ble_eq_true rfl) (fun X C hX hnm hq => ?_)
  refine C.aload_n dX4_setValue_0 0 rfl ?_
  refine C.getA fX4_9 dX4_setValue_1 hS.o11 hS.r11_0 ?_
  refine C.iload_n dX4_setValue_4 1 rfl ?_
  refine C.bipush (nI 17) dX4_setValue_5 (by decide) ?_
  refine C.isub dX4_setValue_7 ?_
  rw [pk_sub h1]
  refine C.iload_n dX4_setValue_8 2 rfl ?_
  refine C.iast hS.a12 (n_in (by omega)) dX4_setValue_9 ?_
  rw [n_cl]
  refine C.vret hq dX4_setValue_10 ?_
  rfl
end KMA
