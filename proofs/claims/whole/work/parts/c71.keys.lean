/-! the reader's keys; the Past -/
def pkS (i : Nat) : Nat → Nat × Nat × (Nat → Int32) → Nat × Nat × (Nat → Int32)
  | 0, s => s
  | j + 1, s => let q := pkS i j s
    if litC i j = 32 then (q.1 + 1, 0, q.2.2) else (q.1, q.2.1 + 1, fun k => if k = q.1 then q.2.2 k ||| ((litC i j - 97 + 1) <<< (nI (5 * (5 - q.2.1)) &&& 31)) else q.2.2 k)
/-- the same with the word and the place only -/
def pkW (i : Nat) : Nat → Nat × Nat → Nat × Nat
  | 0, s => s
  | j + 1, s => let q := pkW i j s
    if litC i j = 32 then (q.1 + 1, 0) else (q.1, q.2 + 1)
theorem pkq_eq (i : Nat) (s : Nat × Nat × (Nat → Int32)) : ∀ j, ((pkS i j s).1, (pkS i j s).2.1) = pkW i j (s.1, s.2.1)
  | 0 => rfl
  | j + 1 => by
    have ih := pkq_eq i s j
    show ((if litC i j = 32 then ((pkS i j s).1 + 1, 0, (pkS i j s).2.2) else _).1, (if litC i j = 32 then ((pkS i j s).1 + 1, 0, (pkS i j s).2.2) else _).2.1) = if litC i j = 32 then ((pkW i j (s.1, s.2.1)).1 + 1, 0) else ((pkW i j (s.1, s.2.1)).1, (pkW i j (s.1, s.2.1)).2 + 1)
    rw [← ih]
    split <;> rfl
theorem pk_ok0 : ∀ j : Fin 165, (pkW 0 j.val (0, 0)).1 < 39 ∧ (j.val < 164 → ¬ litC 0 j.val = 32 → (pkW 0 j.val (0, 0)).2 < 6) := by decide +kernel
theorem pk_ok1 : ∀ j : Fin 34, (pkW 1 j.val (33, 0)).1 < 39 ∧ (j.val < 33 → ¬ litC 1 j.val = 32 → (pkW 1 j.val (33, 0)).2 < 6) := by decide +kernel
theorem pk_ok {i w : Nat} (hi : (i = 0 ∧ w = 0) ∨ (i = 1 ∧ w = 33)) (f : Nat → Int32) (j : Nat) (hj : j ≤ litN.getD i 0) : (pkS i j (w, 0, f)).1 < 39 ∧ (j < litN.getD i 0 → ¬ litC i j = 32 → (pkS i j (w, 0, f)).2.1 < 6) := by
  have e := pkq_eq i (w, 0, f) j
  dsimp only at e
  have e1 : (pkS i j (w, 0, f)).1 = (pkW i j (w, 0)).1 := congrArg Prod.fst e
  have e2 : (pkS i j (w, 0, f)).2.1 = (pkW i j (w, 0)).2 := congrArg Prod.snd e
  rw [e1, e2]
  rcases hi with ⟨rfl, rfl⟩ | ⟨rfl, rfl⟩
  · have hj' : j ≤ 164 := hj
    exact pk_ok0 ⟨j, by omega⟩
  · have hj' : j ≤ 33 := hj
    exact pk_ok1 ⟨j, by omega⟩
def keyF : Nat → Int32 := (pkS 1 33 (33, 0, (pkS 0 164 (0, 0, fun _ => 0)).2.2)).2.2
theorem keyF_ok : ∀ i : Fin 39, keyF i.val = nI (keyN i.val) := by decide +kernel
theorem sA_sA (μ : Mm) (a : Nat) (f g : Nat → Int32) : sA (sA μ a f) a g = sA μ a g := by
  unfold sA
  congr 1
  funext b
  by_cases e : b = a <;> simp [e]
theorem sA_self (μ : Mm) (a : Nat) : sA μ a (mI μ a) = μ := by
  obtain ⟨I, μ⟩ := μ
  show ((fun b => if b = a then I a else I b), μ) = (I, μ)
  congr 1
  funext b
  by_cases e : b = a <;> simp [e]
theorem sI_sA (μ : Mm) (a k : Nat) (f : Nat → Int32) (v : Int32) : sI (sA μ a f) a k v = sA μ a (fun j => if j = k then v else f j) := by
  unfold sI sA
  congr 1
  funext b j
  by_cases e : b = a
  · subst e
    by_cases e2 : j = k <;> simp [e2]
  · simp [e]
section KPK
variable {l : Launch} {G : Gm} {μ : Mm} {r q : Nat}
theorem kq_putKeys {i w : Nat} (hO : isO μ r 8) (hR : mR μ r 1 = some q) (hA : isA μ q 0 39) (hi : (i = 0 ∧ w = 0) ∨ (i = 1 ∧ w = 33)) : AMet l G 4 0 0 mtX8_putKeys [.ref (G.1 + r), .ref (sK G i), .int (nI w)] μ (qV (fun M => M = sA μ q (pkS i (litN.getD i 0) (w, 0, mI μ q)).2.2)) := by
  have hi2 : i < 2 := by omega
  have h164 := litN_le ⟨i, hi2⟩
  dsimp only at h164
  refine AMet.of (by decide) (Nat.le_of_ble_eq_true rfl) (fun X C hX hnm hq => ?_)
  have loop : ∀ (n j : Nat), litN.getD i 0 - j < n → j ≤ litN.getD i 0 → AW l G X 0 0 8 [(0, .ref (G.1 + r)), (1, .ref (sK G i)), (2, .int (nI w)), (3, .int (nI (pkS i j (w, 0, mI μ q)).1)), (4, .int (nI (pkS i j (w, 0, mI μ q)).2.1)), (5, .int (nI j))] [] (sA μ q (pkS i j (w, 0, mI μ q)).2.2) := by
    intro n
    induction n with
    | zero => intro j h; omega
    | succ n ih =>
      intro j hn hj
      have hk := pk_ok hi (mI μ q) j hj
      have nx : j < litN.getD i 0 → AW l G X 0 0 8 [(0, .ref (G.1 + r)), (1, .ref (sK G i)), (2, .int (nI w)), (3, .int (nI (pkS i (j + 1) (w, 0, mI μ q)).1)), (4, .int (nI (pkS i (j + 1) (w, 0, mI μ q)).2.1)), (5, .int (nI (j + 1)))] [] (sA μ q (pkS i (j + 1) (w, 0, mI μ q)).2.2) := fun hlt => ih (j + 1) (by omega) (by omega)
      have st : pkS i (j + 1) (w, 0, mI μ q) = if litC i j = 32 then ((pkS i j (w, 0, mI μ q)).1 + 1, 0, (pkS i j (w, 0, mI μ q)).2.2) else ((pkS i j (w, 0, mI μ q)).1, (pkS i j (w, 0, mI μ q)).2.1 + 1, fun k => if k = (pkS i j (w, 0, mI μ q)).1 then (pkS i j (w, 0, mI μ q)).2.2 k ||| ((litC i j - 97 + 1) <<< (nI (5 * (5 - (pkS i j (w, 0, mI μ q)).2.1)) &&& 31)) else (pkS i j (w, 0, mI μ q)).2.2 k) := rfl
      rw [st] at nx
      have fin : ¬ j < litN.getD i 0 → (pkS i (litN.getD i 0) (w, 0, mI μ q)).2.2 = (pkS i j (w, 0, mI μ q)).2.2 := fun h => by rw [show litN.getD i 0 = j by omega]
      generalize pkS i j (w, 0, mI μ q) = S at hk nx fin ⊢
      obtain ⟨s1, s2, s3⟩ := S
      dsimp only at hk nx fin ⊢
      refine C.iload dX8_putKeys_8 5 rfl ?_
      refine C.aload_n dX8_putKeys_10 1 rfl ?_
      refine C.callJI lJ_len dX8_putKeys_11 (kj_length hi2) hi2 rfl rfl (Nat.le_of_ble_eq_true rfl) (Nat.zero_le _) (Nat.zero_le _) (Nat.le_of_ble_eq_true rfl) (fun x11 μ11 h11 => ?_)
      obtain ⟨rfl, rfl⟩ := h11
      refine C.icmp_ge 78 dX8_putKeys_14 rfl (fun hc => ?_) (fun hc => ?_)
      · have := n_le hc
        refine C.vret hq dX8_putKeys_78 ?_
        rw [fin (by omega)]
      have hlt : j < litN.getD i 0 := n_nle hc
      have nx := nx hlt
      refine C.iload_n dX8_putKeys_17 3 rfl ?_
      refine C.bipush (nI 39) dX8_putKeys_18 (by decide) ?_
      refine C.icmp_ge 78 dX8_putKeys_20 rfl (fun hc => ?_) (fun hc => ?_)
      · have := n_le hc (by omega) (by omega)
        omega
      refine C.aload_n dX8_putKeys_23 1 rfl ?_
      refine C.iload dX8_putKeys_24 5 rfl ?_
      refine C.callJI lJ_char dX8_putKeys_26 (kj_charAt hi2 hlt) hi2 rfl rfl (Nat.le_of_ble_eq_true rfl) (Nat.zero_le _) (Nat.zero_le _) (Nat.le_of_ble_eq_true rfl) (fun x26 μ26 h26 => ?_)
      obtain ⟨rfl, rfl⟩ := h26
      refine C.bipush 32 dX8_putKeys_29 (by decide) ?_
      refine C.icmp_ne 43 dX8_putKeys_31 rfl (fun hc31 => ?_) (fun hc31 => ?_)
      · rw [if_neg hc31] at nx
        refine C.aload_n dX8_putKeys_43 0 rfl ?_
        refine C.getA fX8_19 dX8_putKeys_44 hO hR ?_
        refine C.iload_n dX8_putKeys_47 3 rfl ?_
        refine C.dup2 dX8_putKeys_48 rfl rfl ?_
        refine C.iald hA (n_in hk.1) dX8_putKeys_49 ?_
        rw [n_cl]
        refine C.aload_n dX8_putKeys_50 1 rfl ?_
        refine C.iload dX8_putKeys_51 5 rfl ?_
        refine C.callJI lJ_char dX8_putKeys_53 (kj_charAt hi2 hlt) hi2 rfl rfl (Nat.le_of_ble_eq_true rfl) (Nat.zero_le _) (Nat.zero_le _) (Nat.le_of_ble_eq_true rfl) (fun x53 μ53 h53 => ?_)
        obtain ⟨rfl, rfl⟩ := h53
        refine C.bipush 97 dX8_putKeys_56 (by decide) ?_
        refine C.isub dX8_putKeys_58 ?_
        refine C.iconst 1 dX8_putKeys_59 (by decide) ?_
        refine C.iadd dX8_putKeys_60 ?_
        refine C.iload dX8_putKeys_61 4 rfl ?_
        refine C.callSI lX8_41 dX8_putKeys_63 (kq_shiftOf (hk.2 hlt hc31)) rfl rfl (Nat.le_of_ble_eq_true rfl) (Nat.zero_le _) (Nat.zero_le _) (Nat.le_of_ble_eq_true rfl) (fun x63 μ63 h63 => ?_)
        obtain ⟨rfl, rfl⟩ := h63
        refine C.ishl dX8_putKeys_66 ?_
        refine C.ior dX8_putKeys_67 ?_
        refine C.iast hA (n_in hk.1) dX8_putKeys_68 ?_
        rw [n_cl, sI_sA, mI_sA, if_pos rfl]
        refine C.iinc (lv' := [(0, _), (1, _), (2, _), (3, _), (4, _), (5, _)]) _ dX8_putKeys_69 4 rfl rfl (nLt hX rfl) rfl ?_
        refine C.iinc (lv' := [(0, _), (1, _), (2, _), (3, _), (4, _), (5, _)]) _ dX8_putKeys_72 5 rfl rfl (nLt hX rfl) rfl ?_
        refine C.goto 8 dX8_putKeys_75 rfl ?_
        have e : (fun k => if k = s1 then s3 k ||| ((litC i j - 97 + 1) <<< (nI (5 * (5 - s2)) &&& 31)) else s3 k) = (fun k => if k = s1 then s3 s1 ||| ((litC i j - 97 + 1) <<< (nI (5 * (5 - s2)) &&& 31)) else s3 k) := by
          funext k
          by_cases ek : k = s1
          · rw [if_pos ek, if_pos ek, ek]
          · rw [if_neg ek, if_neg ek]
        dsimp only at nx
        rw [e, ← nI_1, ← nI_1] at nx
        exact nx
      · have hc31' : litC i j = 32 := hc31
        rw [if_pos hc31'] at nx
        refine C.iinc (lv' := [(0, _), (1, _), (2, _), (3, _), (4, _), (5, _)]) _ dX8_putKeys_34 3 rfl rfl (nLt hX rfl) rfl ?_
        refine C.iconst (nI 0) dX8_putKeys_37 (by decide) ?_
        refine C.istore (lv' := [(0, _), (1, _), (2, _), (3, _), (4, _), (5, _)]) dX8_putKeys_38 (nLt hX rfl) rfl ?_
        refine C.goto 72 dX8_putKeys_40 rfl ?_
        refine C.iinc (lv' := [(0, _), (1, _), (2, _), (3, _), (4, _), (5, _)]) _ dX8_putKeys_72 5 rfl rfl (nLt hX rfl) rfl ?_
        refine C.goto 8 dX8_putKeys_75 rfl ?_
        dsimp only at nx
        rw [← nI_1, ← nI_1] at nx
        exact nx
  have h0 := loop (litN.getD i 0 + 1) 0 (by omega) (by omega)
  rw [show sA μ q (pkS i 0 (w, 0, mI μ q)).2.2 = μ from sA_self μ q] at h0
  refine C.iload_n dX8_putKeys_0 2 rfl ?_
  refine C.istore_n (lv' := [(0, _), (1, _), (2, _), (3, _)]) dX8_putKeys_1 (nLt hX rfl) rfl ?_
  refine C.iconst (nI 0) dX8_putKeys_2 (by decide) ?_
  refine C.istore (lv' := [(0, _), (1, _), (2, _), (3, _), (4, _)]) dX8_putKeys_3 (nLt hX rfl) rfl ?_
  refine C.iconst (nI 0) dX8_putKeys_5 (by decide) ?_
  refine C.istore (lv' := [(0, _), (1, _), (2, _), (3, _), (4, _), (5, _)]) dX8_putKeys_6 (nLt hX rfl) rfl ?_
  exact h0
theorem ki_reader {t : Nat} (hO : isO μ r 8) (hr : r < mN μ) : AMet l G 5 1 39 mtX8_init [.ref (G.1 + r), .ref (G.1 + t)] μ (qV (fun M => M = sA (sR (nM (sI (sR μ r 0 (some t)) r 7 (-1)) 100 39) r 1 (some (mN μ))) (mN μ) keyF)) := by
  have hO1 : isO (sR (nM (sI (sR μ r 0 (some t)) r 7 (-1)) 100 39) r 1 (some (mN μ))) r 8 := hO.grw (Grw.new μ 100 39)
  have hR1 : mR (sR (nM (sI (sR μ r 0 (some t)) r 7 (-1)) 100 39) r 1 (some (mN μ))) r 1 = some (mN μ) := by rw [mR_sR, if_pos ⟨rfl, rfl⟩]
  have hA1 : isA (sR (nM (sI (sR μ r 0 (some t)) r 7 (-1)) 100 39) r 1 (some (mN μ))) (mN μ) 0 39 := isA_nM (sI (sR μ r 0 (some t)) r 7 (-1)) 0 39
  have hZ1 : mI (sR (nM (sI (sR μ r 0 (some t)) r 7 (-1)) 100 39) r 1 (some (mN μ))) (mN μ) = fun _ => 0 := by
    funext k
    exact (mI_nM (sI (sR μ r 0 (some t)) r 7 (-1)) 100 39 (mN μ) k).trans (if_pos rfl)
  refine AMet.of (by decide) (Nat.le_of_ble_eq_true rfl) (fun X C hX hnm hq => ?_)
  refine C.aload_n dX8_init_0 0 rfl ?_
  refine C.objI oX8_3 dX8_init_1 (by omega) (Nat.le_of_ble_eq_true rfl) oi_1 oi_2 ?_
  refine C.aload_n dX8_init_4 0 rfl ?_
  refine C.aload_n dX8_init_5 1 rfl ?_
  refine C.putO fX8_9 (Or.inr ⟨hnm, rfl⟩) dX8_init_6 hO ?_
  refine C.aload_n dX8_init_9 0 rfl ?_
  refine C.iconst (-1) dX8_init_10 (by decide) ?_
  refine C.putI fX8_15 (Or.inl rfl) dX8_init_11 hO ?_
  refine C.aload_n dX8_init_14 0 rfl ?_
  refine C.bipush (nI 39) dX8_init_15 (by decide) ?_
  refine C.newa (t := 0) (by decide) rfl ac_int dX8_init_17 rfl (by decide) (by omega) (by omega) ?_
  refine C.putA fX8_19 (Or.inr ⟨hnm, rfl⟩) dX8_init_19 (hO.grw (Grw.new μ 100 39)) ?_
  change AW l G X _ _ _ _ _ (sR (nM (sI (sR μ r 0 (some t)) r 7 (-1)) 100 39) r 1 (some (mN μ)))
  generalize sR (nM (sI (sR μ r 0 (some t)) r 7 (-1)) 100 39) r 1 (some (mN μ)) = B at hO1 hR1 hA1 hZ1 hq ⊢
  refine C.aload_n dX8_init_22 0 rfl ?_
  refine C.ldS0 dX8_init_23 ?_
  refine C.iconst (nI 0) dX8_init_25 (by decide) ?_
  refine C.callVV lX8_25 dX8_init_26 (kq_putKeys (i := 0) (w := 0) hO1 hR1 hA1 (Or.inl ⟨rfl, rfl⟩)) hO1 rfl rfl (Nat.le_of_ble_eq_true rfl) (Nat.zero_le _) (Nat.zero_le _) (Nat.le_of_ble_eq_true rfl) (fun μ26 h26 => ?_)
  subst h26
  refine C.aload_n dX8_init_29 0 rfl ?_
  refine C.ldS1 dX8_init_30 ?_
  refine C.bipush (nI 33) dX8_init_32 (by decide) ?_
  refine C.callVV lX8_25 dX8_init_34 (kq_putKeys (i := 1) (w := 33) (q := mN μ) (r := r) hO1 hR1 hA1 (Or.inr ⟨rfl, rfl⟩)) hO1 rfl rfl (Nat.le_of_ble_eq_true rfl) (Nat.zero_le _) (Nat.zero_le _) (Nat.le_of_ble_eq_true rfl) (fun μ34 h34 => ?_)
  subst h34
  refine C.vret hq dX8_init_37 ?_
  rw [sA_sA, hZ1]
  have e : mI (sA B (mN μ) (pkS 0 (litN.getD 0 0) (0, 0, fun _ => 0)).2.2) (mN μ) = (pkS 0 164 (0, 0, fun _ => 0)).2.2 := by
    funext k
    rw [mI_sA, if_pos rfl]
    rfl
  rw [e]
  rfl
end KPK
