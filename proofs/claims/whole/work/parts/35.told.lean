/-! the reference: names, cells, fullness -/

def nval (tx : Nat → Nat) (q : Nat) : Nat → Nat
  | 0 => 0
  | n + 1 => 27 * nval tx q n + (tx (q + n) - 96)
def mName (tx : Nat → Nat) (e : Nat) (s : Ps) : Nat × Ps :=
  if s.2.2.1 = 0 then
    if sk tx e s.1 < e ∧ isL (tx (sk tx e s.1)) = true ∧ ¬ nI (sk tx e s.1) = s.2.1 ∧ isOwn tx e (sk tx e s.1) s.2.1 = false then
      if wl tx e (sk tx e s.1) ≤ sk tx e s.1 + 6 then (nval tx (sk tx e s.1) (wl tx e (sk tx e s.1) - sk tx e s.1), (wl tx e (sk tx e s.1), nI (wl tx e (sk tx e s.1)), s.2.2.1, s.2.2.2.1, s.2.2.2.2.1, nI (sk tx e s.1)))
      else (0, (sk tx e s.1 + 6, s.2.1, nI 1, nI (sk tx e s.1 + 6), s.2.2.2.2.1, nI (sk tx e s.1)))
    else (0, mFail (mLook tx e s) (nI 1) (nI (sk tx e s.1)))
  else (0, s)
theorem nval_lt {tx : Nat → Nat} {q : Nat} : ∀ n, (∀ i, i < n → tx (q + i) ≤ 122) → nval tx q n < 27 ^ n
  | 0, _ => by simp [nval]
  | n + 1, h => by
    have h1 := nval_lt n (fun i hi => h i (by omega))
    have h2 := h n (by omega)
    simp only [nval]
    rw [Nat.pow_succ]
    omega
theorem mFail_1 (s : Ps) (k q : Int32) : (mFail s k q).1 = s.1 := by unfold mFail; split <;> rfl
section PLE
variable {tx : Nat → Nat} {e : Nat} {s : Ps}
theorem mTakes_le (ws : List Nat) (hp : s.1 ≤ e) : (mTakes tx e s ws).2.1 ≤ e := by
  unfold mTakes
  split
  · rename_i h
    exact mHere_len s ws hp h
  · exact mHere_le s ws hp
theorem mAsks_le (ws : List Nat) (hp : s.1 ≤ e) : (mAsks tx e s ws).1 ≤ e := by
  unfold mAsks
  split
  · split
    · exact mTakes_le ws hp
    · rw [mFail_1]; exact mTakes_le ws hp
  · exact hp
theorem mSign_le {c : Nat} (hc : c < 2147483648) (hp : s.1 ≤ e) : (mSign tx e s (nI c)).2.1 ≤ e := by
  unfold mSign
  have := sk_le (tx := tx) hp
  split
  · split
    · rename_i h
      unfold chr at h
      split at h
      · show sk tx e s.1 + 1 ≤ e
        omega
      · exact absurd h.symm (n_m1 hc)
    · exact this.2
  · exact hp
theorem mAskSign_le {c : Nat} (hc : c < 2147483648) (hp : s.1 ≤ e) : (mAskSign tx e s (nI c)).1 ≤ e := by
  unfold mAskSign
  split
  · split
    · exact mSign_le hc hp
    · rw [mFail_1]; exact mSign_le hc hp
  · exact hp
theorem mNum_le (lo hi : Int32) (hp : s.1 ≤ e) : (mNum tx e s lo hi).2.1 ≤ e := by
  unfold mNum
  have h1 := sk_le (tx := tx) hp
  have h2 := rn_le (f := fun q => isD (tx q)) (e := e) (p := sk tx e s.1) h1.2
  split
  · split
    · split
      · dsimp only
        split
        · exact h2.2
        · exact h2.2
      · show sk tx e s.1 + 4 ≤ e
        unfold dl at *
        omega
    · rw [mFail_1]; exact h1.2
  · exact hp
theorem mName_le (hp : s.1 ≤ e) : (mName tx e s).2.1 ≤ e := by
  unfold mName
  have h1 := sk_le (tx := tx) hp
  have h2 := rn_le (f := fun q => isL (tx q)) (e := e) (p := sk tx e s.1) h1.2
  split
  · split
    · split
      · exact h2.2
      · show sk tx e s.1 + 6 ≤ e
        unfold wl at *
        omega
    · rw [mFail_1]; exact h1.2
  · exact hp
end PLE
def mCell (tx : Nat → Nat) (e : Nat) (s : Ps) (sx sy : Int32) : Int32 × Ps := ((if (mNum tx e (mNum tx e s (nI 0) (sx - nI 1)).2 (nI 0) (sy - nI 1)).2.2.2.1 = 0 then (mNum tx e s (nI 0) (sx - nI 1)).1 + nI 7 * (mNum tx e (mNum tx e s (nI 0) (sx - nI 1)).2 (nI 0) (sy - nI 1)).1 else nI 0), (mNum tx e (mNum tx e s (nI 0) (sx - nI 1)).2 (nI 0) (sy - nI 1)).2)
def mFull (s : Ps) (mk room begun : Int32) : Ps := if s.2.2.1 = 0 ∧ mk = room then mFail s (nI 5) begun else s
theorem pw_a (μ : Mm) (s : Ps) {a k : Nat} {v : Int32} (h : a ≠ 179) : sI (pw μ s) a k v = pw (sI μ a k v) s := pw_ext (by rw [mI_sI, if_neg (by omega), pw_2]) (by rw [mI_sI, if_neg (by omega), pw_4]) (by rw [mI_sI, if_neg (by omega), pw_5]) (by rw [mI_sI, if_neg (by omega), pw_6]) (by rw [mI_sI, if_neg (by omega), pw_10]) (by rw [mI_sI, if_neg (by omega), pw_44]) (fun b j hb => by rw [mI_sI, mI_sI, pw_off _ _ hb]) rfl
theorem pw_L (μ : Mm) (s : Ps) {a k : Nat} {v : Int64} : sL (pw μ s) a k v = pw (sL μ a k v) s := rfl
theorem TxM.st {μ : Mm} {tx : Nat → Nat} {e : Nat} (h : TxM μ tx e) {a k : Nat} {v : Int32} (ha : a ≠ 179 ∨ k ≠ 3) (hb : a ≠ 180) : TxM (sI μ a k v) tx e := ⟨by rw [mI_sI, if_neg (by omega)]; exact h.1, h.2.1, fun j hj => by rw [mI_sI, if_neg (by omega)]; exact h.2.2 j hj⟩
theorem WdM.st {μ : Mm} (h : WdM μ) {a k : Nat} {v : Int32} (ha : wdT.all (fun q => q.1 != a) = true) : WdM (sI μ a k v) := fun b ws hm i hi => by
  have h1 := List.all_eq_true.mp ha _ hm
  have h2 : b ≠ a := by simpa using h1
  rw [mI_sI, if_neg (fun q => h2 q.1)]
  exact h b ws hm i hi
section KM5
variable {l : Launch} {G : Gm} {μ : Mm} {tx : Nat → Nat} {e : Nat}
theorem kp_cellTold (hS : ShM μ) (hT : TxM μ tx e) {s : Ps} (hp : s.1 ≤ e) : AMet l G 2 0 0 mtX13_cellTold [.ref (G.1 + 179)] (pw μ s) (qI (fun x μ' => x = (mCell tx e s (mI μ 215 0) (mI μ 215 1)).1 ∧ μ' = pw μ (mCell tx e s (mI μ 215 0) (mI μ 215 1)).2)) := by
  refine AMet.of (by decide) (Nat.le_of_ble_eq_true rfl) (fun X C hX hnm hq => ?_)
  have hS1 := hS
  have hS : ShM (pw μ s) := hS1.pw _
  have r0 : ∀ (s : Ps) (k : Nat), mI (pw μ s) 215 k = mI μ 215 k := fun s k => pw_off _ _ (Or.inl (by decide))
  have p1 := mNum_le (tx := tx) (nI 0) (mI μ 215 0 - nI 1) hp
  refine C.aload_n dX13_cellTold_0 0 rfl ?_
  refine C.iconst (nI 0) dX13_cellTold_1 (by decide) ?_
  refine C.aload_n dX13_cellTold_2 0 rfl ?_
  refine C.getA fX13_120 dX13_cellTold_3 hS.o hS.r45 ?_
  refine C.iconst (nI 0) dX13_cellTold_6 (by decide) ?_
  refine C.iald hS.a45 (n_in (by decide)) dX13_cellTold_7 ?_
  refine C.iconst (nI 1) dX13_cellTold_8 (by decide) ?_
  rw [n_cl, r0]
  refine C.isub dX13_cellTold_9 ?_
  refine C.callVI lX13_333 dX13_cellTold_10 (kp_number hS1 hT hp _ _) hS.o rfl rfl (Nat.le_of_ble_eq_true rfl) (Nat.zero_le _) (Nat.zero_le _) (Nat.le_of_ble_eq_true rfl) (fun x10 μ10 h10 => ?_)
  obtain ⟨rfl, rfl⟩ := h10
  refine C.istore_n (lv' := [(0, _), (1, _)]) dX13_cellTold_13 (nLt hX rfl) rfl ?_
  refine C.aload_n dX13_cellTold_14 0 rfl ?_
  refine C.iconst (nI 0) dX13_cellTold_15 (by decide) ?_
  refine C.aload_n dX13_cellTold_16 0 rfl ?_
  refine C.getA fX13_120 dX13_cellTold_17 hS.o hS.r45 ?_
  refine C.iconst (nI 1) dX13_cellTold_20 (by decide) ?_
  refine C.iald hS.a45 (n_in (by decide)) dX13_cellTold_21 ?_
  refine C.iconst (nI 1) dX13_cellTold_22 (by decide) ?_
  rw [n_cl, r0]
  refine C.isub dX13_cellTold_23 ?_
  refine C.callVI lX13_333 dX13_cellTold_24 (kp_number hS1 hT p1 _ _) hS.o rfl rfl (Nat.le_of_ble_eq_true rfl) (Nat.zero_le _) (Nat.zero_le _) (Nat.le_of_ble_eq_true rfl) (fun x24 μ24 h24 => ?_)
  obtain ⟨rfl, rfl⟩ := h24
  refine C.istore_n (lv' := [(0, _), (1, _), (2, _)]) dX13_cellTold_27 (nLt hX rfl) rfl ?_
  refine C.aload_n dX13_cellTold_28 0 rfl ?_
  refine C.getI fX13_264 dX13_cellTold_29 hS.o ?_
  rw [pw_5]
  refine C.if_ne 44 dX13_cellTold_32 rfl (fun hc32 => ?_) (fun hc32 => ?_)
  · refine C.iconst (nI 0) dX13_cellTold_44 (by decide) ?_
    refine C.iret hq dX13_cellTold_45 ?_
    unfold mCell
    rw [if_neg hc32]
    exact ⟨rfl, rfl⟩
  · refine C.iload_n dX13_cellTold_35 1 rfl ?_
    refine C.bipush (nI 7) dX13_cellTold_36 (by decide) ?_
    refine C.iload_n dX13_cellTold_38 2 rfl ?_
    refine C.imul dX13_cellTold_39 ?_
    refine C.iadd dX13_cellTold_40 ?_
    refine C.goto 45 dX13_cellTold_41 rfl ?_
    refine C.iret hq dX13_cellTold_45 ?_
    unfold mCell
    rw [if_pos (by simpa using hc32)]
    exact ⟨rfl, rfl⟩
theorem kp_isFull (hS : ShM μ) (s : Ps) {k : Nat} (hk : k < 6) (room begun : Int32) : AMet l G 1 0 0 mtX13_isFull [.ref (G.1 + 179), .int (nI k), .int room, .int begun] (pw μ s) (qI (fun x μ' => x = (if (mFull s (mI μ 216 k) room begun).2.2.1 = 0 then nI 0 else nI 1) ∧ μ' = pw μ (mFull s (mI μ 216 k) room begun))) := by
  refine AMet.of (by decide) (Nat.le_of_ble_eq_true rfl) (fun X C hX hnm hq => ?_)
  have hS1 := hS
  have hS : ShM (pw μ s) := hS1.pw _
  have r0 : ∀ (s : Ps) (k : Nat), mI (pw μ s) 216 k = mI μ 216 k := fun s k => pw_off _ _ (Or.inl (by decide))
  have fin : ∀ s1 : Ps, s1 = mFull s (mI μ 216 k) room begun → AW l G X 0 0 23 [(0, .ref (G.1 + 179)), (1, .int (nI k)), (2, .int room), (3, .int begun)] [] (pw μ s1) := by
    intro s1 h1
    have hS : ShM (pw μ s1) := hS1.pw _
    refine C.aload_n dX13_isFull_23 0 rfl ?_
    refine C.getI fX13_264 dX13_isFull_24 hS.o ?_
    rw [pw_5]
    refine C.if_eq 34 dX13_isFull_27 rfl (fun hc27 => ?_) (fun hc27 => ?_)
    · refine C.iconst (nI 0) dX13_isFull_34 (by decide) ?_
      refine C.zret hq dX13_isFull_35 (by decide) ?_
      rw [← h1, if_pos hc27]
      exact ⟨rfl, rfl⟩
    · refine C.iconst (nI 1) dX13_isFull_30 (by decide) ?_
      refine C.goto 35 dX13_isFull_31 rfl ?_
      refine C.zret hq dX13_isFull_35 (by decide) ?_
      rw [← h1, if_neg hc27]
      exact ⟨rfl, rfl⟩
  refine C.aload_n dX13_isFull_0 0 rfl ?_
  refine C.getI fX13_264 dX13_isFull_1 hS.o ?_
  rw [pw_5]
  refine C.if_ne 23 dX13_isFull_4 rfl (fun hc4 => ?_) (fun hc4 => ?_)
  · exact fin s (by unfold mFull; rw [if_neg (fun h => hc4 h.1)])
  · refine C.aload_n dX13_isFull_7 0 rfl ?_
    refine C.getA fX13_123 dX13_isFull_8 hS.o hS.r46 ?_
    refine C.iload_n dX13_isFull_11 1 rfl ?_
    refine C.iald hS.a46 (n_in hk) dX13_isFull_12 ?_
    refine C.iload_n dX13_isFull_13 2 rfl ?_
    rw [n_cl, r0]
    refine C.icmp_ne 23 dX13_isFull_14 rfl (fun hc14 => ?_) (fun hc14 => ?_)
    · exact fin s (by unfold mFull; rw [if_neg (fun h => hc14 h.2)])
    · refine C.aload_n dX13_isFull_17 0 rfl ?_
      refine C.iconst (nI 5) dX13_isFull_18 (by decide) ?_
      refine C.iload_n dX13_isFull_19 3 rfl ?_
      refine C.callVV lX13_294 dX13_isFull_20 (kp_fail hS1 _ _ _) hS.o rfl rfl (Nat.le_of_ble_eq_true rfl) (Nat.zero_le _) (Nat.zero_le _) (Nat.le_of_ble_eq_true rfl) (fun μ20 h20 => ?_)
      subst h20
      exact fin _ (by unfold mFull; rw [if_pos ⟨by simpa using hc4, by simpa using hc14⟩])
theorem kp_name (hS : ShM μ) (hW : WdM μ) (hT : TxM μ tx e) {s : Ps} (hp : s.1 ≤ e) : AMet l G 3 0 0 mtX13_name [.ref (G.1 + 179)] (pw μ s) (qL (fun x μ' => x = lN (mName tx e s).1 ∧ μ' = pw μ (mName tx e s).2)) := by
  refine AMet.of (by decide) (Nat.le_of_ble_eq_true rfl) (fun X C hX hnm hq => ?_)
  obtain ⟨p, en, bd, bp, np, mp⟩ := s
  have hS1 := hS
  have hS : ShM (pw μ (p, en, bd, bp, np, mp)) := hS1.pw _
  have hB := hT.2.2
  have he := hT.2.1
  have hsk := sk_le (tx := tx) hp
  have hss := sk_sk (tx := tx) hp
  dsimp only at hp hsk hss
  generalize hqd : sk tx e p = q at hsk hss
  have hmL : mLook tx e (p, en, bd, bp, np, mp) = (q, en, bd, bp, np, mp) := by unfold mLook; rw [← hqd]
  have r3 : ∀ s : Ps, mI (pw μ s) 179 3 = nI e := fun s => by rw [pw_off _ _ (by decide)]; exact hT.1
  have rT : ∀ (s : Ps) (j : Nat), j < e → mI (pw μ s) 180 j = nI (tx j) := fun s j hj => by rw [pw_off _ _ (by omega)]; exact (hB j hj).1
  have hL256 : ∀ j, j < e → tx j < 256 := fun j hj => (hB j hj).2
  have bad : bd = 0 → ¬ (q < e ∧ isL (tx q) = true ∧ ¬ nI q = en ∧ isOwn tx e q en = false) → AW l G X 0 0 37 [(0, .ref (G.1 + 179))] [] (pw μ (q, en, bd, bp, np, mp)) := by
    intro hbd hn
    refine C.aload_n dX13_name_37 0 rfl ?_
    refine C.iconst (nI 1) dX13_name_38 (by decide) ?_
    refine C.aload_n dX13_name_39 0 rfl ?_
    refine C.getI fX13_270 dX13_name_40 hS.o ?_
    refine C.callVV lX13_294 dX13_name_43 (kp_fail hS1 _ _ _) hS.o rfl rfl (Nat.le_of_ble_eq_true rfl) (Nat.zero_le _) (Nat.zero_le _) (Nat.le_of_ble_eq_true rfl) (fun μ43 h43 => ?_)
    subst h43
    simp only [pw_2]
    refine C.lconst (lN 0) dX13_name_46 (by decide) ?_
    refine C.lret hq dX13_name_47 ?_
    unfold mName
    rw [if_pos hbd, hqd, if_neg hn, hmL]
    exact ⟨rfl, rfl⟩
  have loop : ∀ (n r : Nat), bd = 0 → (q < e ∧ isL (tx q) = true ∧ ¬ nI q = en ∧ isOwn tx e q en = false) → e - r < n → q ≤ r → r ≤ e → r ≤ q + 6 → wl tx e q = wl tx e r → (∀ i, i < r - q → tx (q + i) ≤ 122) → AW l G X 0 0 58 [(0, .ref (G.1 + 179)), (1, .long (lN (nval tx q (r - q))))] [] (pw μ (r, en, bd, bp, np, nI q)) := by
    intro n
    induction n with
    | zero => intro r _ _ h; omega
    | succ n ih =>
      intro r hbd hl1 hn hqr hre hr4 hd hall
      have hv : nval tx q (r - q) < 387420489 := by
        have h1 := nval_lt (tx := tx) (q := q) (r - q) hall
        have h2 : 27 ^ (r - q) ≤ 27 ^ 6 := Nat.pow_le_pow_right (by omega) (by omega)
        omega
      have fin : ¬ (r < e ∧ isL (tx r) = true) → AW l G X 0 0 145 [(0, .ref (G.1 + 179)), (1, .long (lN (nval tx q (r - q))))] [] (pw μ (r, en, bd, bp, np, nI q)) := by
        intro hstop
        have hdr : wl tx e q = r := by rw [hd]; exact rn_stop hstop
        refine C.aload_n dX13_name_145 0 rfl ?_
        refine C.aload_n dX13_name_146 0 rfl ?_
        refine C.getI fX13_270 dX13_name_147 hS.o ?_
        simp only [pw_2]
        refine C.putI fX13_284 (Or.inl rfl) dX13_name_150 hS.o ?_
        rw [pw_s4]
        refine C.lload_n dX13_name_153 1 rfl ?_
        refine C.lret hq dX13_name_154 ?_
        unfold mName
        rw [if_pos hbd, hqd, if_pos hl1, hdr, if_pos hr4]
        exact ⟨rfl, rfl⟩
      refine C.aload_n dX13_name_58 0 rfl ?_
      refine C.getI fX13_270 dX13_name_59 hS.o ?_
      refine C.aload_n dX13_name_62 0 rfl ?_
      refine C.getI fX13_273 dX13_name_63 hS.o ?_
      simp only [pw_2, r3]
      refine C.icmp_ge 145 dX13_name_66 rfl (fun hc66 => ?_) (fun hc66 => ?_)
      · have hge := n_le hc66
        exact fin (by omega)
      · have hlt := n_nle hc66
        refine C.aload_n dX13_name_69 0 rfl ?_
        refine C.getA fX13_7 dX13_name_70 hS.o hS.r0 ?_
        refine C.aload_n dX13_name_73 0 rfl ?_
        refine C.getI fX13_270 dX13_name_74 hS.o ?_
        simp only [pw_2]
        refine C.iald hS.a0 (n_in (by omega)) dX13_name_77 ?_
        refine C.callSI lX13_280 dX13_name_78 (km_isLetter _) rfl rfl (Nat.le_of_ble_eq_true rfl) (Nat.zero_le _) (Nat.zero_le _) (Nat.le_of_ble_eq_true rfl) (fun x78 μ78 h78 => ?_)
        obtain ⟨rfl, rfl⟩ := h78
        rw [n_cl, rT _ _ hlt]
        simp only [nI_L (hL256 r hlt)]
        refine C.if_eq 145 dX13_name_81 rfl (fun hc81 => ?_) (fun hc81 => ?_)
        · refine fin (fun h => ?_)
          rw [if_pos h.2] at hc81
          exact absurd hc81 (by decide)
        · have hlr : isL (tx r) = true := by by_cases h : isL (tx r) = true; exact h; rw [if_neg h] at hc81; exact absurd rfl hc81
          have h48 := isL_le hlr
          refine C.aload_n dX13_name_84 0 rfl ?_
          refine C.getI fX13_270 dX13_name_85 hS.o ?_
          refine C.aload_n dX13_name_88 0 rfl ?_
          refine C.getI fX13_315 dX13_name_89 hS.o ?_
          simp only [pw_2, pw_44]
          refine C.isub dX13_name_92 ?_
          refine C.bipush (nI 6) dX13_name_93 (by decide) ?_
          rw [pk_sub hqr]
          refine C.icmp_ne 109 dX13_name_95 rfl (fun hc95 => ?_) (fun hc95 => ?_)
          · have h4 : r - q ≠ 6 := n_ne hc95
            refine C.ldc2 kX13_318 dX13_name_109 ?_
            rw [show (27 : Int64) = lN 27 from rfl]
            refine C.lload_n dX13_name_112 1 rfl ?_
            refine C.lmul dX13_name_113 ?_
            rw [lN_mul]
            refine C.aload_n dX13_name_114 0 rfl ?_
            refine C.getA fX13_7 dX13_name_115 hS.o hS.r0 ?_
            refine C.aload_n dX13_name_118 0 rfl ?_
            refine C.getI fX13_270 dX13_name_119 hS.o ?_
            simp only [pw_2]
            refine C.iald hS.a0 (n_in (by omega)) dX13_name_122 ?_
            rw [n_cl, rT _ _ hlt]
            refine C.i2l dX13_name_123 ?_
            rw [nI_l (by have := hL256 r hlt; omega)]
            refine C.ladd dX13_name_124 ?_
            rw [lN_add]
            refine C.ldc2 kX13_320 dX13_name_125 ?_
            rw [show (97 : Int64) = lN 97 from rfl]
            refine C.lsub dX13_name_128 ?_
            rw [lN_sub (by omega)]
            refine C.lconst (lN 1) dX13_name_129 (by decide) ?_
            refine C.ladd dX13_name_130 ?_
            rw [lN_add]
            refine C.lstore_n (lv' := [(0, _), (1, _)]) dX13_name_131 (nLt hX rfl) rfl ?_
            refine C.aload_n dX13_name_132 0 rfl ?_
            refine C.dup dX13_name_133 rfl ?_
            refine C.getI fX13_270 dX13_name_134 hS.o ?_
            simp only [pw_2]
            refine C.iconst (nI 1) dX13_name_137 (by decide) ?_
            refine C.iadd dX13_name_138 ?_
            rw [nI_add]
            refine C.putI fX13_270 (Or.inl rfl) dX13_name_139 hS.o ?_
            rw [pw_s2]
            refine C.goto 58 dX13_name_142 rfl ?_
            have := ih (r + 1) hbd hl1 (by omega) (by omega) (by omega) (by omega) (by rw [hd]; exact rn_step hlt hlr) (fun i hi => by rcases Nat.lt_or_ge i (r - q) with h | h; exact hall i h; rw [show q + i = r by omega]; exact h48.2)
            rw [show r + 1 - q = (r - q) + 1 by omega, nval, show q + (r - q) = r by omega, show 27 * nval tx q (r - q) + (tx r - 96) = 27 * nval tx q (r - q) + tx r - 97 + 1 by omega] at this
            exact this
          · have h4 : r - q = 6 := n_eq (by simpa using hc95)
            refine C.aload_n dX13_name_98 0 rfl ?_
            refine C.iconst (nI 1) dX13_name_99 (by decide) ?_
            refine C.aload_n dX13_name_100 0 rfl ?_
            refine C.getI fX13_270 dX13_name_101 hS.o ?_
            refine C.callVV lX13_294 dX13_name_104 (kp_fail hS1 _ _ _) hS.o rfl rfl (Nat.le_of_ble_eq_true rfl) (Nat.zero_le _) (Nat.zero_le _) (Nat.le_of_ble_eq_true rfl) (fun μ104 h104 => ?_)
            subst h104
            simp only [pw_2]
            refine C.lconst (lN 0) dX13_name_107 (by decide) ?_
            refine C.lret hq dX13_name_108 ?_
            unfold mName
            have hgt : ¬ wl tx e q ≤ q + 6 := by
              rw [hd]
              unfold wl
              rw [rn_step (f := fun q => isL (tx q)) hlt hlr]
              have := rn_le (f := fun q => isL (tx q)) (e := e) (p := r + 1) (by omega)
              omega
            rw [if_pos hbd, hqd, if_pos hl1, if_neg hgt]
            refine ⟨rfl, ?_⟩
            unfold mFail
            rw [if_pos hbd]
            rw [show r = q + 6 by omega]
  refine C.aload_n dX13_name_0 0 rfl ?_
  refine C.getI fX13_264 dX13_name_1 hS.o ?_
  rw [pw_5]
  refine C.if_eq 9 dX13_name_4 rfl (fun hc4 => ?_) (fun hc4 => ?_)
  · refine C.aload_n dX13_name_9 0 rfl ?_
    refine C.callVI lX13_276 dX13_name_10 (kp_look hS1 hT (s := (p, en, bd, bp, np, mp)) hp) hS.o rfl rfl (Nat.le_of_ble_eq_true rfl) (Nat.zero_le _) (Nat.zero_le _) (Nat.le_of_ble_eq_true rfl) (fun x10 μ10 h10 => ?_)
    obtain ⟨rfl, rfl⟩ := h10
    dsimp only
    rw [hmL, hqd]
    refine C.callSI lX13_280 dX13_name_13 (km_isLetter _) rfl rfl (Nat.le_of_ble_eq_true rfl) (Nat.zero_le _) (Nat.zero_le _) (Nat.le_of_ble_eq_true rfl) (fun x13 μ13 h13 => ?_)
    obtain ⟨rfl, rfl⟩ := h13
    simp only [chr_L hL256]
    refine C.if_eq 37 dX13_name_16 rfl (fun hc16 => ?_) (fun hc16 => ?_)
    · exact bad hc4 (fun h => by rw [if_pos ⟨h.1, h.2.1⟩] at hc16; exact absurd hc16 (by decide))
    · have hl1 : q < e ∧ isL (tx q) = true := by by_cases h : q < e ∧ isL (tx q) = true; exact h; rw [if_neg h] at hc16; exact absurd rfl hc16
      refine C.aload_n dX13_name_19 0 rfl ?_
      refine C.getI fX13_270 dX13_name_20 hS.o ?_
      refine C.aload_n dX13_name_23 0 rfl ?_
      refine C.getI fX13_284 dX13_name_24 hS.o ?_
      simp only [pw_2, pw_4]
      refine C.icmp_eq 37 dX13_name_27 rfl (fun hc27 => ?_) (fun hc27 => ?_)
      · exact bad hc4 (fun h => h.2.2.1 hc27)
      · refine C.aload_n dX13_name_30 0 rfl ?_
        refine C.callVI lX13_311 dX13_name_31 (kp_isOwnHere hS1 hW hT (s := (q, en, bd, bp, np, mp)) hsk.2 hc4 hss) hS.o rfl rfl (Nat.le_of_ble_eq_true rfl) (Nat.zero_le _) (Nat.zero_le _) (Nat.le_of_ble_eq_true rfl) (fun x31 μ31 h31 => ?_)
        obtain ⟨rfl, rfl⟩ := h31
        dsimp only
        refine C.if_eq 48 dX13_name_34 rfl (fun hc34 => ?_) (fun hc34 => ?_)
        · have hno := (bI_0 _).mp hc34
          refine C.aload_n dX13_name_48 0 rfl ?_
          refine C.aload_n dX13_name_49 0 rfl ?_
          refine C.getI fX13_270 dX13_name_50 hS.o ?_
          simp only [pw_2]
          refine C.putI fX13_315 (Or.inl rfl) dX13_name_53 hS.o ?_
          rw [pw_s44]
          refine C.lconst (lN 0) dX13_name_56 (by decide) ?_
          refine C.lstore_n (lv' := [(0, _), (1, _)]) dX13_name_57 (nLt hX rfl) rfl ?_
          have := loop (e - q + 1) q hc4 ⟨hl1.1, hl1.2, hc27, hno⟩ (by omega) (Nat.le_refl _) hsk.2 (by omega) rfl (fun i hi => by omega)
          rw [Nat.sub_self] at this
          exact this
        · exact bad hc4 (fun h => hc34 (by rw [h.2.2.2]; rfl))
  · refine C.lconst (lN 0) dX13_name_7 (by decide) ?_
    refine C.lret hq dX13_name_8 ?_
    unfold mName
    rw [if_neg hc4]
    exact ⟨rfl, rfl⟩
end KM5
