/-! the reference's words, signs, numbers -/

def wdT : List (Nat × List Nat) := [(182, [108, 97, 110, 100]), (183, [98, 121]), (184, [104, 117, 110, 116]), (185, [99, 104, 97, 112, 101, 108]), (186, [98, 101, 108, 108]), (187, [97, 116]), (188, [114, 111, 112, 101]), (189, [119, 97, 108, 107, 101, 114]), (190, [102, 114, 111, 109]), (191, [116, 111]), (192, [100, 111, 101, 115]), (193, [114, 105, 100, 101, 115]), (194, [112, 97, 121, 115]), (195, [107, 101, 101, 112, 115]), (196, [121, 101, 97, 114]), (197, [104, 97, 114, 109]), (198, [115, 116, 111, 114, 109]), (199, [104, 111, 117, 114]), (200, [110, 105, 103, 104, 116]), (201, [99, 111, 108, 117, 109, 110]), (202, [114, 111, 119]), (203, [109, 97, 110, 110, 101, 114]), (204, [109, 101, 116]), (205, [112, 117, 114, 115, 101]), (206, [110, 117, 109, 98, 101, 114]), (207, [103, 111, 110, 101]), (208, [110, 101, 97, 114]), (209, [111, 114]), (210, [97, 110, 100]), (211, [110, 111, 116]), (212, [97, 108, 108]), (213, [109, 105, 110]), (214, [109, 97, 120]), (233, [102, 105, 114, 115, 116]), (234, [108, 97, 115, 116]), (235, [111, 102, 116, 101, 110]), (236, [116, 111, 116, 97, 108]), (237, [109, 111, 115, 116]), (238, [108, 101, 97, 115, 116]), (239, [110, 111, 116]), (240, [97, 110, 100]), (241, [111, 114]), (242, [97, 108, 108]), (243, [109, 105, 110]), (244, [109, 97, 120]), (245, [104, 111, 117, 114]), (246, [110, 105, 103, 104, 116]), (247, [99, 111, 108, 117, 109, 110]), (248, [114, 111, 119]), (249, [109, 97, 110, 110, 101, 114]), (250, [109, 101, 116]), (251, [112, 117, 114, 115, 101]), (252, [110, 117, 109, 98, 101, 114]), (253, [103, 111, 110, 101]), (254, [110, 101, 97, 114])]
/-- the words' rows hold their letters -/
def WdM (μ : Mm) : Prop := ∀ a ws, (a, ws) ∈ wdT → ∀ i, i < ws.length → mI μ a i = nI (ws.getD i 0)
theorem wdT_ok : ∀ q ∈ wdT, q.1 ≠ 179 ∧ q.1 ≠ 180 ∧ q.2.length < 1000 ∧ 0 < q.2.length ∧ (∀ i, i < q.2.length → q.2.getD i 0 < 256) ∧ (shT.any (fun r => r.2.1 == q.1 && r.2.2.1 == 3 && r.2.2.2 == q.2.length)) = true := by decide +kernel
theorem WdM.isA {μ : Mm} (hS : ShM μ) {a : Nat} {ws : List Nat} (h : (a, ws) ∈ wdT) : isA μ a 3 ws.length := by
  have h1 := (wdT_ok _ h).2.2.2.2.2
  obtain ⟨⟨k, a', t, n⟩, hm, he⟩ := List.any_eq_true.mp h1
  simp only [Bool.and_eq_true, beq_iff_eq] at he
  obtain ⟨⟨h2, h3⟩, h4⟩ := he
  have := (hS.2 k a' t n hm).2
  rw [h2, h3, h4] at this
  exact this
theorem wide_le (a b : Int32) : a.toInt64 ≤ b.toInt64 ↔ a ≤ b := by rw [Int64.le_iff_toInt_le, Int32.le_iff_toInt_le, Int32.toInt_toInt64, Int32.toInt_toInt64]
theorem bI_0 (b : Bool) : bI b = 0 ↔ b = false := by cases b <;> simp [bI] <;> decide
theorem bI_z (b : Bool) : bI b = 0 ∨ bI b = 1 := by cases b; exact Or.inl rfl; exact Or.inr rfl
theorem sk_sk {tx : Nat → Nat} {e p : Nat} (h : p ≤ e) : sk tx e (sk tx e p) = sk tx e p := by
  generalize hn : e - p = n
  induction n generalizing p with
  | zero => rw [sk_stop (p := p) (by omega), sk_stop (by omega)]
  | succ n ih =>
    by_cases c : p < e ∧ (tx p = 10 ∨ tx p = 32)
    · rw [sk_step c.1 c.2]
      exact ih (by omega) (by omega)
    · rw [sk_stop c, sk_stop c]
def mTakes (tx : Nat → Nat) (e : Nat) (s : Ps) (ws : List Nat) : Bool × Ps := if (mHere tx e s ws).1 then (true, ((mHere tx e s ws).2.1 + ws.length, nI ((mHere tx e s ws).2.1 + ws.length), (mHere tx e s ws).2.2.2)) else (false, (mHere tx e s ws).2)
def mAsks (tx : Nat → Nat) (e : Nat) (s : Ps) (ws : List Nat) : Ps := if s.2.2.1 = 0 then (if (mTakes tx e s ws).1 then (mTakes tx e s ws).2 else mFail (mTakes tx e s ws).2 (nI 1) (nI (mTakes tx e s ws).2.1)) else s
def mSign (tx : Nat → Nat) (e : Nat) (s : Ps) (c : Int32) : Bool × Ps := if s.2.2.1 = 0 then (if chr tx e (sk tx e s.1) = c then (true, (sk tx e s.1 + 1, s.2)) else (false, mLook tx e s)) else (false, s)
def mAskSign (tx : Nat → Nat) (e : Nat) (s : Ps) (c : Int32) : Ps := if s.2.2.1 = 0 then (if (mSign tx e s c).1 then (mSign tx e s c).2 else mFail (mSign tx e s c).2 (nI 1) (nI (mSign tx e s c).2.1)) else s
def dval (tx : Nat → Nat) (q : Nat) : Nat → Nat
  | 0 => 0
  | n + 1 => 10 * dval tx q n + (tx (q + n) - 48)
def mNum (tx : Nat → Nat) (e : Nat) (s : Ps) (lo hi : Int32) : Int32 × Ps :=
  if s.2.2.1 = 0 then
    if sk tx e s.1 < e ∧ isD (tx (sk tx e s.1)) = true ∧ ¬ nI (sk tx e s.1) = s.2.1 then
      if dl tx e (sk tx e s.1) ≤ sk tx e s.1 + 4 then
        (nI (dval tx (sk tx e s.1) (dl tx e (sk tx e s.1) - sk tx e s.1)),
          if lo ≤ nI (dval tx (sk tx e s.1) (dl tx e (sk tx e s.1) - sk tx e s.1)) ∧ nI (dval tx (sk tx e s.1) (dl tx e (sk tx e s.1) - sk tx e s.1)) ≤ hi then (dl tx e (sk tx e s.1), nI (dl tx e (sk tx e s.1)), s.2.2.1, s.2.2.2.1, nI (sk tx e s.1), s.2.2.2.2.2)
          else (dl tx e (sk tx e s.1), nI (dl tx e (sk tx e s.1)), nI 2, nI (sk tx e s.1), nI (sk tx e s.1), s.2.2.2.2.2))
      else (nI 0, (sk tx e s.1 + 4, s.2.1, nI 1, nI (sk tx e s.1 + 4), s.2.2.2.2))
    else (nI 0, mFail (mLook tx e s) (nI 1) (nI (sk tx e s.1)))
  else (nI 0, s)
theorem dl_dig {tx : Nat → Nat} {e q : Nat} : ∀ r, q ≤ r → r < dl tx e q → r < e ∧ isD (tx r) = true := by
  intro r h1 h2
  by_cases hq : q < e ∧ isD (tx q) = true
  · generalize hn : r - q = n
    induction n generalizing q with
    | zero => rw [show r = q by omega]; exact hq
    | succ n ih =>
      unfold dl at h2
      rw [rn_step (f := fun q => isD (tx q)) hq.1 hq.2] at h2
      by_cases c : q + 1 < e ∧ isD (tx (q + 1)) = true
      · exact ih (q := q + 1) (by omega) h2 c (by omega)
      · rw [rn_stop (f := fun q => isD (tx q)) c] at h2
        omega
  · unfold dl at h2
    rw [rn_stop (f := fun q => isD (tx q)) hq] at h2
    omega
theorem dval_lt {tx : Nat → Nat} {q : Nat} : ∀ n, (∀ i, i < n → tx (q + i) ≤ 57) → dval tx q n < 10 ^ n
  | 0, _ => by simp [dval]
  | n + 1, h => by
    have h1 := dval_lt n (fun i hi => h i (by omega))
    have h2 := h n (by omega)
    simp only [dval]
    rw [Nat.pow_succ]
    omega
theorem isD_le {c : Nat} (h : isD c = true) : 48 ≤ c ∧ c ≤ 57 := by unfold isD at h; simpa using h
theorem isL_le {c : Nat} (h : isL c = true) : 97 ≤ c ∧ c ≤ 122 := by unfold isL at h; simpa using h
section KM3
variable {l : Launch} {G : Gm} {μ : Mm} {tx : Nat → Nat} {e : Nat}
theorem kp_here (hS : ShM μ) (hW : WdM μ) (hT : TxM μ tx e) {s : Ps} (hp : s.1 ≤ e) {a : Nat} {ws : List Nat} (hm : (a, ws) ∈ wdT) : AMet l G 1 0 0 mtX13_isHere [.ref (G.1 + 179), .ref (G.1 + a)] (pw μ s) (qI (fun x μ' => x = bI (mHere tx e s ws).1 ∧ μ' = pw μ (mHere tx e s ws).2)) :=
  kp_isHere hS hT hp (WdM.isA hS hm) (fun i hi => ⟨hW a ws hm i hi, (wdT_ok _ hm).2.2.2.2.1 i hi⟩) (wdT_ok _ hm).1 (wdT_ok _ hm).2.2.1
theorem mHere_le (s : Ps) (ws : List Nat) (hp : s.1 ≤ e) : (mHere tx e s ws).2.1 ≤ e := by
  unfold mHere
  split
  · exact (sk_le hp).2
  · exact hp
theorem mHere_len (s : Ps) (ws : List Nat) (hp : s.1 ≤ e) (h : (mHere tx e s ws).1 = true) : (mHere tx e s ws).2.1 + ws.length ≤ e := by
  unfold mHere at h ⊢
  split at h
  · rename_i hb
    rw [if_pos hb]
    unfold hereW at h
    simp only [Bool.and_eq_true, decide_eq_true_eq] at h
    have hl : ws.length = wl tx e (sk tx e s.1) - sk tx e s.1 := by rw [← h.2]; simp [tok]
    have := rn_le (f := fun q => isL (tx q)) (e := e) (p := sk tx e s.1) (sk_le hp).2
    show sk tx e s.1 + ws.length ≤ e
    unfold wl at hl
    omega
  · cases h
theorem kp_takes (hS : ShM μ) (hW : WdM μ) (hT : TxM μ tx e) {s : Ps} (hp : s.1 ≤ e) {a : Nat} {ws : List Nat} (hm : (a, ws) ∈ wdT) : AMet l G 2 0 0 mtX13_takes [.ref (G.1 + 179), .ref (G.1 + a)] (pw μ s) (qI (fun x μ' => x = bI (mTakes tx e s ws).1 ∧ μ' = pw μ (mTakes tx e s ws).2)) := by
  refine AMet.of (by decide) (Nat.le_of_ble_eq_true rfl) (fun X C hX hnm hq => ?_)
  have hS1 := hS
  have hS : ShM (pw μ s) := hS1.pw _
  have hA := WdM.isA hS1 hm
  have he := hT.2.1
  have hle := mHere_le (tx := tx) s ws hp
  have hlen := mHere_len (tx := tx) s ws hp
  refine C.aload_n dX13_takes_0 0 rfl ?_
  refine C.aload_n dX13_takes_1 1 rfl ?_
  refine C.callVI lX13_287 dX13_takes_2 (kp_here hS1 hW hT hp hm) hS.o rfl rfl (Nat.le_of_ble_eq_true rfl) (Nat.zero_le _) (Nat.zero_le _) (Nat.le_of_ble_eq_true rfl) (fun x2 μ2 h2 => ?_)
  obtain ⟨rfl, rfl⟩ := h2
  rcases hr : (mHere tx e s ws) with ⟨b, p, en, bd, bp, np, mp⟩
  rw [hr] at hle hlen
  dsimp only at hle hlen ⊢
  refine C.if_ne 10 dX13_takes_5 rfl (fun hc5 => ?_) (fun hc5 => ?_)
  · have hb : b = true := by cases b; exact absurd rfl hc5; rfl
    have hlen := hlen hb
    refine C.aload_n dX13_takes_10 0 rfl ?_
    refine C.dup dX13_takes_11 rfl ?_
    refine C.getI fX13_270 dX13_takes_12 hS.o ?_
    refine C.aload_n dX13_takes_15 1 rfl ?_
    refine C.alen hA (by decide) dX13_takes_16 ?_
    refine C.iadd dX13_takes_17 ?_
    simp only [pw_2, nI_add]
    refine C.putI fX13_270 (Or.inl rfl) dX13_takes_18 hS.o ?_
    rw [pw_s2]
    refine C.aload_n dX13_takes_21 0 rfl ?_
    refine C.aload_n dX13_takes_22 0 rfl ?_
    refine C.getI fX13_270 dX13_takes_23 hS.o ?_
    simp only [pw_2]
    refine C.putI fX13_284 (Or.inl rfl) dX13_takes_26 hS.o ?_
    rw [pw_s4]
    refine C.iconst (nI 1) dX13_takes_29 (by decide) ?_
    refine C.zret hq dX13_takes_30 (by decide) ?_
    unfold mTakes
    rw [hr, hb]
    exact ⟨rfl, rfl⟩
  · have hb : b = false := (bI_0 b).mp (by simpa using hc5)
    refine C.iconst (nI 0) dX13_takes_8 (by decide) ?_
    refine C.zret hq dX13_takes_9 (by decide) ?_
    unfold mTakes
    rw [hr, hb]
    exact ⟨rfl, rfl⟩
theorem kp_asks (hS : ShM μ) (hW : WdM μ) (hT : TxM μ tx e) {s : Ps} (hp : s.1 ≤ e) {a : Nat} {ws : List Nat} (hm : (a, ws) ∈ wdT) : AMet l G 3 0 0 mtX13_asks [.ref (G.1 + 179), .ref (G.1 + a)] (pw μ s) (qV (fun μ' => μ' = pw μ (mAsks tx e s ws))) := by
  refine AMet.of (by decide) (Nat.le_of_ble_eq_true rfl) (fun X C hX hnm hq => ?_)
  have hS1 := hS
  have hS : ShM (pw μ s) := hS1.pw _
  refine C.aload_n dX13_asks_0 0 rfl ?_
  refine C.getI fX13_264 dX13_asks_1 hS.o ?_
  rw [pw_5]
  refine C.if_ne 24 dX13_asks_4 rfl (fun hc4 => ?_) (fun hc4 => ?_)
  · refine C.vret hq dX13_asks_24 ?_
    unfold mAsks
    rw [if_neg hc4]
  · refine C.aload_n dX13_asks_7 0 rfl ?_
    refine C.aload_n dX13_asks_8 1 rfl ?_
    refine C.callVI lX13_291 dX13_asks_9 (kp_takes hS1 hW hT hp hm) hS.o rfl rfl (Nat.le_of_ble_eq_true rfl) (Nat.zero_le _) (Nat.zero_le _) (Nat.le_of_ble_eq_true rfl) (fun x9 μ9 h9 => ?_)
    obtain ⟨rfl, rfl⟩ := h9
    refine C.if_ne 24 dX13_asks_12 rfl (fun hc12 => ?_) (fun hc12 => ?_)
    · refine C.vret hq dX13_asks_24 ?_
      have hb : (mTakes tx e s ws).1 = true := by cases hb : (mTakes tx e s ws).1; rw [hb] at hc12; exact absurd rfl hc12; rfl
      unfold mAsks
      rw [if_pos (by simpa using hc4), if_pos hb]
    · refine C.aload_n dX13_asks_15 0 rfl ?_
      refine C.iconst (nI 1) dX13_asks_16 (by decide) ?_
      refine C.aload_n dX13_asks_17 0 rfl ?_
      refine C.getI fX13_270 dX13_asks_18 hS.o ?_
      refine C.callVV lX13_294 dX13_asks_21 (kp_fail hS1 _ _ _) hS.o rfl rfl (Nat.le_of_ble_eq_true rfl) (Nat.zero_le _) (Nat.zero_le _) (Nat.le_of_ble_eq_true rfl) (fun μ21 h21 => ?_)
      subst h21
      rw [pw_2]
      refine C.vret hq dX13_asks_24 ?_
      have hb : ¬ (mTakes tx e s ws).1 = true := by rw [(bI_0 (mTakes tx e s ws).1).mp (by simpa using hc12)]; decide
      unfold mAsks
      rw [if_pos (by simpa using hc4), if_neg hb]
theorem kp_takesSign (hS : ShM μ) (hT : TxM μ tx e) {s : Ps} (hp : s.1 ≤ e) (c : Int32) : AMet l G 1 0 0 mtX13_takesSign [.ref (G.1 + 179), .int c] (pw μ s) (qI (fun x μ' => x = bI (mSign tx e s c).1 ∧ μ' = pw μ (mSign tx e s c).2)) := by
  refine AMet.of (by decide) (Nat.le_of_ble_eq_true rfl) (fun X C hX hnm hq => ?_)
  obtain ⟨p, en, bd, bp, np, mp⟩ := s
  have hS1 := hS
  have hS : ShM (pw μ (p, en, bd, bp, np, mp)) := hS1.pw _
  refine C.aload_n dX13_takesSign_0 0 rfl ?_
  refine C.getI fX13_264 dX13_takesSign_1 hS.o ?_
  rw [pw_5]
  refine C.if_ne 15 dX13_takesSign_4 rfl (fun hc4 => ?_) (fun hc4 => ?_)
  · refine C.iconst (nI 0) dX13_takesSign_15 (by decide) ?_
    refine C.zret hq dX13_takesSign_16 (by decide) ?_
    unfold mSign
    rw [if_neg hc4]
    exact ⟨rfl, rfl⟩
  · refine C.aload_n dX13_takesSign_7 0 rfl ?_
    refine C.callVI lX13_276 dX13_takesSign_8 (kp_look hS1 hT hp) hS.o rfl rfl (Nat.le_of_ble_eq_true rfl) (Nat.zero_le _) (Nat.zero_le _) (Nat.le_of_ble_eq_true rfl) (fun x8 μ8 h8 => ?_)
    obtain ⟨rfl, rfl⟩ := h8
    refine C.iload_n dX13_takesSign_11 1 rfl ?_
    refine C.icmp_eq 17 dX13_takesSign_12 rfl (fun hc12 => ?_) (fun hc12 => ?_)
    · refine C.aload_n dX13_takesSign_17 0 rfl ?_
      refine C.dup dX13_takesSign_18 rfl ?_
      refine C.getI fX13_270 dX13_takesSign_19 hS.o ?_
      refine C.iconst (nI 1) dX13_takesSign_22 (by decide) ?_
      simp only [pw_2, mLook]
      refine C.iadd dX13_takesSign_23 ?_
      rw [nI_add]
      refine C.putI fX13_270 (Or.inl rfl) dX13_takesSign_24 hS.o ?_
      rw [pw_s2]
      refine C.iconst (nI 1) dX13_takesSign_27 (by decide) ?_
      refine C.zret hq dX13_takesSign_28 (by decide) ?_
      unfold mSign
      rw [if_pos (by simpa using hc4), if_pos hc12]
      exact ⟨rfl, rfl⟩
    · refine C.iconst (nI 0) dX13_takesSign_15 (by decide) ?_
      refine C.zret hq dX13_takesSign_16 (by decide) ?_
      unfold mSign
      rw [if_pos (by simpa using hc4), if_neg hc12]
      exact ⟨rfl, rfl⟩
theorem kp_asksSign (hS : ShM μ) (hT : TxM μ tx e) {s : Ps} (hp : s.1 ≤ e) (c : Int32) : AMet l G 2 0 0 mtX13_asksSign [.ref (G.1 + 179), .int c] (pw μ s) (qV (fun μ' => μ' = pw μ (mAskSign tx e s c))) := by
  refine AMet.of (by decide) (Nat.le_of_ble_eq_true rfl) (fun X C hX hnm hq => ?_)
  have hS1 := hS
  have hS : ShM (pw μ s) := hS1.pw _
  refine C.aload_n dX13_asksSign_0 0 rfl ?_
  refine C.getI fX13_264 dX13_asksSign_1 hS.o ?_
  rw [pw_5]
  refine C.if_ne 24 dX13_asksSign_4 rfl (fun hc4 => ?_) (fun hc4 => ?_)
  · refine C.vret hq dX13_asksSign_24 ?_
    unfold mAskSign
    rw [if_neg hc4]
  · refine C.aload_n dX13_asksSign_7 0 rfl ?_
    refine C.iload_n dX13_asksSign_8 1 rfl ?_
    refine C.callVI lX13_298 dX13_asksSign_9 (kp_takesSign hS1 hT hp c) hS.o rfl rfl (Nat.le_of_ble_eq_true rfl) (Nat.zero_le _) (Nat.zero_le _) (Nat.le_of_ble_eq_true rfl) (fun x9 μ9 h9 => ?_)
    obtain ⟨rfl, rfl⟩ := h9
    refine C.if_ne 24 dX13_asksSign_12 rfl (fun hc12 => ?_) (fun hc12 => ?_)
    · refine C.vret hq dX13_asksSign_24 ?_
      have hb : (mSign tx e s c).1 = true := by cases hb : (mSign tx e s c).1; rw [hb] at hc12; exact absurd rfl hc12; rfl
      unfold mAskSign
      rw [if_pos (by simpa using hc4), if_pos hb]
    · refine C.aload_n dX13_asksSign_15 0 rfl ?_
      refine C.iconst (nI 1) dX13_asksSign_16 (by decide) ?_
      refine C.aload_n dX13_asksSign_17 0 rfl ?_
      refine C.getI fX13_270 dX13_asksSign_18 hS.o ?_
      refine C.callVV lX13_294 dX13_asksSign_21 (kp_fail hS1 _ _ _) hS.o rfl rfl (Nat.le_of_ble_eq_true rfl) (Nat.zero_le _) (Nat.zero_le _) (Nat.le_of_ble_eq_true rfl) (fun μ21 h21 => ?_)
      subst h21
      rw [pw_2]
      refine C.vret hq dX13_asksSign_24 ?_
      have hb : ¬ (mSign tx e s c).1 = true := by rw [(bI_0 (mSign tx e s c).1).mp (by simpa using hc12)]; decide
      unfold mAskSign
      rw [if_pos (by simpa using hc4), if_neg hb]
theorem kp_number (hS : ShM μ) (hT : TxM μ tx e) {s : Ps} (hp : s.1 ≤ e) (lo hi : Int32) : AMet l G 1 0 0 mtX13_number [.ref (G.1 + 179), .int lo, .int hi] (pw μ s) (qI (fun x μ' => x = (mNum tx e s lo hi).1 ∧ μ' = pw μ (mNum tx e s lo hi).2)) := by
  refine AMet.of (by decide) (Nat.le_of_ble_eq_true rfl) (fun X C hX hnm hq => ?_)
  obtain ⟨p, en, bd, bp, np, mp⟩ := s
  have hS1 := hS
  have hS : ShM (pw μ (p, en, bd, bp, np, mp)) := hS1.pw _
  have hB := hT.2.2
  have he := hT.2.1
  have hsk := sk_le (tx := tx) hp
  dsimp only at hp hsk
  generalize hqd : sk tx e p = q at hsk
  have hmL : mLook tx e (p, en, bd, bp, np, mp) = (q, en, bd, bp, np, mp) := by unfold mLook; rw [← hqd]
  have r3 : ∀ s : Ps, mI (pw μ s) 179 3 = nI e := fun s => by rw [pw_off _ _ (by decide)]; exact hT.1
  have rT : ∀ (s : Ps) (j : Nat), j < e → mI (pw μ s) 180 j = nI (tx j) := fun s j hj => by rw [pw_off _ _ (by omega)]; exact (hB j hj).1
  have hL256 : ∀ j, j < e → tx j < 256 := fun j hj => (hB j hj).2
  have bad : bd = 0 → ¬ (q < e ∧ isD (tx q) = true ∧ ¬ nI q = en) → AW l G X 0 0 30 [(0, .ref (G.1 + 179)), (1, .int lo), (2, .int hi)] [] (pw μ (q, en, bd, bp, np, mp)) := by
    intro hbd hn
    refine C.aload_n dX13_number_30 0 rfl ?_
    refine C.iconst (nI 1) dX13_number_31 (by decide) ?_
    refine C.aload_n dX13_number_32 0 rfl ?_
    refine C.getI fX13_270 dX13_number_33 hS.o ?_
    refine C.callVV lX13_294 dX13_number_36 (kp_fail hS1 _ _ _) hS.o rfl rfl (Nat.le_of_ble_eq_true rfl) (Nat.zero_le _) (Nat.zero_le _) (Nat.le_of_ble_eq_true rfl) (fun μ36 h36 => ?_)
    subst h36
    rw [pw_2]
    refine C.iconst (nI 0) dX13_number_39 (by decide) ?_
    refine C.iret hq dX13_number_40 ?_
    unfold mNum
    rw [if_pos hbd, hqd, if_neg hn, hmL]
    exact ⟨rfl, rfl⟩
  have loop : ∀ (n r : Nat), bd = 0 → (q < e ∧ isD (tx q) = true ∧ ¬ nI q = en) → e - r < n → q ≤ r → r ≤ e → r ≤ q + 4 → dl tx e q = dl tx e r → (∀ i, i < r - q → tx (q + i) ≤ 57) → AW l G X 0 0 49 [(0, .ref (G.1 + 179)), (1, .int lo), (2, .int hi), (3, .int (nI q)), (4, .int (nI (dval tx q (r - q))))] [] (pw μ (r, en, bd, bp, np, mp)) := by
    intro n
    induction n with
    | zero => intro r _ _ h; omega
    | succ n ih =>
      intro r hbd hl1 hn hqr hre hr4 hd hall
      have hv : dval tx q (r - q) < 10000 := by
        have h1 := dval_lt (tx := tx) (q := q) (r - q) hall
        have h2 : 10 ^ (r - q) ≤ 10 ^ 4 := Nat.pow_le_pow_right (by omega) (by omega)
        omega
      have fin : ¬ (r < e ∧ isD (tx r) = true) → AW l G X 0 0 129 [(0, .ref (G.1 + 179)), (1, .int lo), (2, .int hi), (3, .int (nI q)), (4, .int (nI (dval tx q (r - q))))] [] (pw μ (r, en, bd, bp, np, mp)) := by
        intro hstop
        have hdr : dl tx e q = r := by rw [hd]; exact rn_stop hstop
        refine C.aload_n dX13_number_129 0 rfl ?_
        refine C.aload_n dX13_number_130 0 rfl ?_
        refine C.getI fX13_270 dX13_number_131 hS.o ?_
        simp only [pw_2]
        refine C.putI fX13_284 (Or.inl rfl) dX13_number_134 hS.o ?_
        rw [pw_s4]
        refine C.aload_n dX13_number_137 0 rfl ?_
        refine C.iload_n dX13_number_138 3 rfl ?_
        refine C.putI fX13_304 (Or.inl rfl) dX13_number_139 hS.o ?_
        rw [pw_s10]
        refine C.iload dX13_number_142 4 rfl ?_
        refine C.i2l dX13_number_144 ?_
        refine C.iload_n dX13_number_145 1 rfl ?_
        refine C.i2l dX13_number_146 ?_
        refine C.iload_n dX13_number_147 2 rfl ?_
        refine C.i2l dX13_number_148 ?_
        refine C.callSI lX13_307 dX13_number_149 (km_isIn _ _ _) rfl rfl (Nat.le_of_ble_eq_true rfl) (Nat.zero_le _) (Nat.zero_le _) (Nat.le_of_ble_eq_true rfl) (fun x149 μ149 h149 => ?_)
        obtain ⟨rfl, rfl⟩ := h149
        simp only [wide_le]
        refine C.if_ne 161 dX13_number_152 rfl (fun hc152 => ?_) (fun hc152 => ?_)
        · have hin : lo ≤ nI (dval tx q (r - q)) ∧ nI (dval tx q (r - q)) ≤ hi := by by_cases h : lo ≤ nI (dval tx q (r - q)) ∧ nI (dval tx q (r - q)) ≤ hi; exact h; rw [if_neg h] at hc152; exact absurd rfl hc152
          refine C.iload dX13_number_161 4 rfl ?_
          refine C.iret hq dX13_number_163 ?_
          unfold mNum
          rw [if_pos hbd, hqd, if_pos hl1, hdr, if_pos hr4, if_pos hin]
          exact ⟨rfl, rfl⟩
        · have hin : ¬ (lo ≤ nI (dval tx q (r - q)) ∧ nI (dval tx q (r - q)) ≤ hi) := fun h => by rw [if_pos h] at hc152; exact absurd hc152 (by decide)
          refine C.aload_n dX13_number_155 0 rfl ?_
          refine C.iconst (nI 2) dX13_number_156 (by decide) ?_
          refine C.iload_n dX13_number_157 3 rfl ?_
          refine C.callVV lX13_294 dX13_number_158 (kp_fail hS1 _ _ _) hS.o rfl rfl (Nat.le_of_ble_eq_true rfl) (Nat.zero_le _) (Nat.zero_le _) (Nat.le_of_ble_eq_true rfl) (fun μ158 h158 => ?_)
          subst h158
          refine C.iload dX13_number_161 4 rfl ?_
          refine C.iret hq dX13_number_163 ?_
          unfold mNum
          rw [if_pos hbd, hqd, if_pos hl1, hdr, if_pos hr4, if_neg hin]
          refine ⟨rfl, ?_⟩
          unfold mFail
          rw [if_pos hbd]
      refine C.aload_n dX13_number_49 0 rfl ?_
      refine C.getI fX13_270 dX13_number_50 hS.o ?_
      refine C.aload_n dX13_number_53 0 rfl ?_
      refine C.getI fX13_273 dX13_number_54 hS.o ?_
      simp only [pw_2, r3]
      refine C.icmp_ge 129 dX13_number_57 rfl (fun hc57 => ?_) (fun hc57 => ?_)
      · have hge := n_le hc57
        exact fin (by omega)
      · have hlt := n_nle hc57
        refine C.aload_n dX13_number_60 0 rfl ?_
        refine C.getA fX13_7 dX13_number_61 hS.o hS.r0 ?_
        refine C.aload_n dX13_number_64 0 rfl ?_
        refine C.getI fX13_270 dX13_number_65 hS.o ?_
        simp only [pw_2]
        refine C.iald hS.a0 (n_in (by omega)) dX13_number_68 ?_
        refine C.callSI lX13_301 dX13_number_69 (km_isDigit _) rfl rfl (Nat.le_of_ble_eq_true rfl) (Nat.zero_le _) (Nat.zero_le _) (Nat.le_of_ble_eq_true rfl) (fun x69 μ69 h69 => ?_)
        obtain ⟨rfl, rfl⟩ := h69
        rw [n_cl, rT _ _ hlt]
        simp only [nI_D (hL256 r hlt)]
        refine C.if_eq 129 dX13_number_72 rfl (fun hc72 => ?_) (fun hc72 => ?_)
        · refine fin (fun h => ?_)
          rw [if_pos h.2] at hc72
          exact absurd hc72 (by decide)
        · have hlr : isD (tx r) = true := by by_cases h : isD (tx r) = true; exact h; rw [if_neg h] at hc72; exact absurd rfl hc72
          have h48 := isD_le hlr
          refine C.aload_n dX13_number_75 0 rfl ?_
          refine C.getI fX13_270 dX13_number_76 hS.o ?_
          refine C.iload_n dX13_number_79 3 rfl ?_
          simp only [pw_2]
          refine C.isub dX13_number_80 ?_
          refine C.iconst (nI 4) dX13_number_81 (by decide) ?_
          rw [pk_sub hqr]
          refine C.icmp_ne 96 dX13_number_82 rfl (fun hc82 => ?_) (fun hc82 => ?_)
          · have h4 : r - q ≠ 4 := n_ne hc82
            refine C.bipush (nI 10) dX13_number_96 (by decide) ?_
            refine C.iload dX13_number_98 4 rfl ?_
            refine C.imul dX13_number_100 ?_
            rw [pk_mul]
            refine C.aload_n dX13_number_101 0 rfl ?_
            refine C.getA fX13_7 dX13_number_102 hS.o hS.r0 ?_
            refine C.aload_n dX13_number_105 0 rfl ?_
            refine C.getI fX13_270 dX13_number_106 hS.o ?_
            simp only [pw_2]
            refine C.iald hS.a0 (n_in (by omega)) dX13_number_109 ?_
            rw [n_cl, rT _ _ hlt]
            refine C.iadd dX13_number_110 ?_
            rw [nI_add]
            refine C.bipush (nI 48) dX13_number_111 (by decide) ?_
            refine C.isub dX13_number_113 ?_
            rw [pk_sub (by omega)]
            refine C.istore (lv' := [(0, _), (1, _), (2, _), (3, _), (4, _)]) dX13_number_114 (nLt hX rfl) rfl ?_
            refine C.aload_n dX13_number_116 0 rfl ?_
            refine C.dup dX13_number_117 rfl ?_
            refine C.getI fX13_270 dX13_number_118 hS.o ?_
            refine C.iconst (nI 1) dX13_number_121 (by decide) ?_
            simp only [pw_2]
            refine C.iadd dX13_number_122 ?_
            rw [nI_add]
            refine C.putI fX13_270 (Or.inl rfl) dX13_number_123 hS.o ?_
            rw [pw_s2]
            refine C.goto 49 dX13_number_126 rfl ?_
            have := ih (r + 1) hbd hl1 (by omega) (by omega) (by omega) (by omega) (by rw [hd]; exact rn_step hlt hlr) (fun i hi => by rcases Nat.lt_or_ge i (r - q) with h | h; exact hall i h; rw [show q + i = r by omega]; exact h48.2)
            rw [show r + 1 - q = (r - q) + 1 by omega, dval, show q + (r - q) = r by omega, ← Nat.add_sub_assoc h48.1] at this
            exact this
          · have h4 : r - q = 4 := n_eq (by simpa using hc82)
            refine C.aload_n dX13_number_85 0 rfl ?_
            refine C.iconst (nI 1) dX13_number_86 (by decide) ?_
            refine C.aload_n dX13_number_87 0 rfl ?_
            refine C.getI fX13_270 dX13_number_88 hS.o ?_
            refine C.callVV lX13_294 dX13_number_91 (kp_fail hS1 _ _ _) hS.o rfl rfl (Nat.le_of_ble_eq_true rfl) (Nat.zero_le _) (Nat.zero_le _) (Nat.le_of_ble_eq_true rfl) (fun μ91 h91 => ?_)
            subst h91
            rw [pw_2]
            refine C.iconst (nI 0) dX13_number_94 (by decide) ?_
            refine C.iret hq dX13_number_95 ?_
            unfold mNum
            have hgt : ¬ dl tx e q ≤ q + 4 := by
              rw [hd]
              unfold dl
              rw [rn_step (f := fun q => isD (tx q)) hlt hlr]
              have := rn_le (f := fun q => isD (tx q)) (e := e) (p := r + 1) (by omega)
              omega
            rw [if_pos hbd, hqd, if_pos hl1, if_neg hgt]
            refine ⟨rfl, ?_⟩
            unfold mFail
            rw [if_pos hbd]
            rw [show r = q + 4 by omega]
  refine C.aload_n dX13_number_0 0 rfl ?_
  refine C.getI fX13_264 dX13_number_1 hS.o ?_
  rw [pw_5]
  refine C.if_eq 9 dX13_number_4 rfl (fun hc4 => ?_) (fun hc4 => ?_)
  · refine C.aload_n dX13_number_9 0 rfl ?_
    refine C.callVI lX13_276 dX13_number_10 (kp_look hS1 hT (s := (p, en, bd, bp, np, mp)) hp) hS.o rfl rfl (Nat.le_of_ble_eq_true rfl) (Nat.zero_le _) (Nat.zero_le _) (Nat.le_of_ble_eq_true rfl) (fun x10 μ10 h10 => ?_)
    obtain ⟨rfl, rfl⟩ := h10
    dsimp only
    rw [hmL, hqd]
    refine C.callSI lX13_301 dX13_number_13 (km_isDigit _) rfl rfl (Nat.le_of_ble_eq_true rfl) (Nat.zero_le _) (Nat.zero_le _) (Nat.le_of_ble_eq_true rfl) (fun x13 μ13 h13 => ?_)
    obtain ⟨rfl, rfl⟩ := h13
    simp only [chr_D hL256]
    refine C.if_eq 30 dX13_number_16 rfl (fun hc16 => ?_) (fun hc16 => ?_)
    · exact bad hc4 (fun h => by rw [if_pos ⟨h.1, h.2.1⟩] at hc16; exact absurd hc16 (by decide))
    · have hl1 : q < e ∧ isD (tx q) = true := by by_cases h : q < e ∧ isD (tx q) = true; exact h; rw [if_neg h] at hc16; exact absurd rfl hc16
      refine C.aload_n dX13_number_19 0 rfl ?_
      refine C.getI fX13_270 dX13_number_20 hS.o ?_
      refine C.aload_n dX13_number_23 0 rfl ?_
      refine C.getI fX13_284 dX13_number_24 hS.o ?_
      simp only [pw_2, pw_4]
      refine C.icmp_ne 41 dX13_number_27 rfl (fun hc27 => ?_) (fun hc27 => ?_)
      · refine C.aload_n dX13_number_41 0 rfl ?_
        refine C.getI fX13_270 dX13_number_42 hS.o ?_
        simp only [pw_2]
        refine C.istore_n (lv' := [(0, _), (1, _), (2, _), (3, _)]) dX13_number_45 (nLt hX rfl) rfl ?_
        refine C.iconst (nI 0) dX13_number_46 (by decide) ?_
        refine C.istore (lv' := [(0, _), (1, _), (2, _), (3, _), (4, _)]) dX13_number_47 (nLt hX rfl) rfl ?_
        have := loop (e - q + 1) q hc4 ⟨hl1.1, hl1.2, hc27⟩ (by omega) (Nat.le_refl _) hsk.2 (by omega) rfl (fun i hi => by omega)
        rw [Nat.sub_self] at this
        exact this
      · exact bad hc4 (fun h => h.2.2 hc27)
  · refine C.iconst (nI 0) dX13_number_7 (by decide) ?_
    refine C.iret hq dX13_number_8 ?_
    unfold mNum
    rw [if_neg hc4]
    exact ⟨rfl, rfl⟩
end KM3
