/-! the class: which word, a name, the start -/
def wdO (tx : Nat → Nat) (e : Nat) (s : Ps) : Option Nat := fsF (fun i => (mHere tx e s (keyL.getD i [])).1) 39 0
section WDP
variable {tx : Nat → Nat} {e : Nat} {s : Ps}
theorem here_eq (hs : wHas tx e s) (ws : List Nat) : (mHere tx e s ws).1 = decide (tok tx e (sk tx e s.1) = ws) := by
  obtain ⟨h0, hp, hL, ht⟩ := hs
  unfold mHere hereW
  rw [if_pos h0, decide_eq_true hp, hL, decide_eq_false ht]
  rfl
theorem here_no (hs : ¬ wHas tx e s) (ws : List Nat) : (mHere tx e s ws).1 = false := by
  cases hz : (mHere tx e s ws).1 with
  | false => rfl
  | true => exact absurd (here_has hz).1 hs
theorem wdO_no (hs : ¬ wHas tx e s) : wdO tx e s = none := fsF_no 39 0 (fun j => here_no hs _)
theorem key33 : ∀ i : Fin 33, keyL.getD i.val [] = ownL.getD i.val [] := by decide +kernel
theorem own_len : ownL.length = 33 := by decide +kernel
theorem fsF_ex {f : Nat → Bool} : ∀ n k j, k ≤ j → j < k + n → f j = true → ∃ i, fsF f n k = some i ∧ i ≤ j
  | 0, k, j, h1, h2, _ => by omega
  | n + 1, k, j, h1, h2, hf => by
    unfold fsF
    by_cases q : f k = true
    · exact ⟨k, by rw [if_pos q], h1⟩
    · rw [if_neg q]
      have : k ≠ j := fun z => q (by rw [z]; exact hf)
      exact fsF_ex n (k + 1) j (by omega) (by omega) hf
/-- an own word stands here just where one of the first 33 keys does -/
theorem own_iff (hs : wHas tx e s) : isOwn tx e (sk tx e s.1) s.2.1 = true ↔ ∃ i, wdO tx e s = some i ∧ i < 33 := by
  have hh : ∀ ws, hereW tx e (sk tx e s.1) s.2.1 ws = (mHere tx e s ws).1 := fun ws => by unfold mHere; rw [if_pos hs.1]
  constructor
  · intro h
    unfold isOwn at h
    obtain ⟨ws, hm, hw⟩ := List.any_eq_true.mp h
    obtain ⟨j, hj, rfl⟩ := List.mem_iff_getElem.mp hm
    rw [own_len] at hj
    have hg : ownL[j]'(by rw [own_len]; exact hj) = keyL.getD j [] := by
      rw [key33 ⟨j, hj⟩, List.getD_eq_getElem?_getD, List.getElem?_eq_getElem (by rw [own_len]; exact hj)]
      rfl
    rw [hg, hh] at hw
    obtain ⟨i, h1, h2⟩ := fsF_ex (f := fun i => (mHere tx e s (keyL.getD i [])).1) 39 0 j (by omega) (by omega) hw
    exact ⟨i, h1, by omega⟩
  · intro ⟨i, h1, h2⟩
    obtain ⟨-, -, h3⟩ := fsF_lt _ _ _ h1
    unfold isOwn
    refine List.any_eq_true.mpr ⟨ownL.getD i [], ?_, ?_⟩
    · rw [List.getD_eq_getElem?_getD, List.getElem?_eq_getElem (by rw [own_len]; exact h2)]
      exact List.getElem_mem _
    · rw [hh, ← key33 ⟨i, h2⟩]; exact h3
theorem nval_27 (tx : Nat → Nat) (p : Nat) : ∀ n, nval tx p n = nm27 ((List.range n).map (fun i => tx (p + i) - 96))
  | 0 => rfl
  | n + 1 => by
    rw [List.range_succ, List.map_append]
    show 27 * nval tx p n + (tx (p + n) - 96) = nm27 (_ ++ [tx (p + n) - 96])
    rw [nm27_app, nval_27 tx p n]
theorem nval_tk (tx : Nat → Nat) (e p : Nat) : nval tx p (wl tx e p - p) = nm27 (tkW tx e p) := by
  rw [nval_27]
  unfold tkW tok
  rw [List.map_map]
  rfl
end WDP
section KWD
variable {l : Launch} {G : Gm} {μ : Mm} {tp : List Nat} {s : Ps}

theorem kw_word (hC : CsB μ) (hT : CsT μ tp) (hR : RD μ (txL tp) tp.length s) : AMet l G 0 0 0 mtX8_word [.ref (G.1 + 3)] μ (qI (fun z μ' => z = opI (wdO (txL tp) tp.length s) ∧ μ' = μ)) := by
  refine AMet.of (by decide) (Nat.le_of_ble_eq_true rfl) (fun X C hX hnm hq => ?_)
  have hS := hC.1
  have h1600 := hT.2.1
  obtain ⟨kd, k1, k2, -, k3, -, -⟩ := hR.kd
  have loop : wHas (txL tp) tp.length s → wl (txL tp) tp.length (sk (txL tp) tp.length s.1) - sk (txL tp) tp.length s.1 ≤ 6 → ∀ (j k : Nat), k + j = 39 → fsF (fun i => (mHere (txL tp) tp.length s (keyL.getD i [])).1) j k = wdO (txL tp) tp.length s → AW l G X 0 0 28 [(0, .ref (G.1 + 3)), (1, .int (-1)), (2, .int (nI k))] [] μ := by
    intro hs h6 j
    have hv := ((hR.1 hs.1).2.2.2.2.2.1 hs.2.1 hs.2.2.1 hs.2.2.2).2.1
    induction j with
    | zero =>
      intro k hk ev
      refine C.iload_n dX8_word_28 2 rfl ?_
      refine C.bipush (nI 39) dX8_word_29 (by decide) ?_
      refine C.icmp_ge 64 dX8_word_31 rfl (fun hc31 => ?_) (fun hc31 => ?_)
      · refine C.iload_n dX8_word_64 1 rfl ?_
        refine C.iret hq dX8_word_65 ?_
        exact ⟨by rw [← ev]; rfl, rfl⟩
      · exact absurd (n_nle hc31 (by omega) (by omega)) (by omega)
    | succ j ih =>
      intro k hk ev
      have hk39 : k < 39 := by omega
      have hkey := hC.2.1 k hk39
      have hki := key_iff hs.2.1 hs.2.2.1 h6 hk39
      have fin : wdO (txL tp) tp.length s = some k → AW l G X 0 0 28 [(0, .ref (G.1 + 3)), (1, .int (nI k)), (2, .int (nI k + Int32.ofInt 1))] [] μ := by
        intro e
        rw [e] at hq
        rw [show nI k + Int32.ofInt 1 = nI (k + 1) from nI_1 k]
        refine C.iload_n dX8_word_28 2 rfl ?_
        refine C.bipush (nI 39) dX8_word_29 (by decide) ?_
        refine C.icmp_ge 64 dX8_word_31 rfl (fun hc31 => ?_) (fun hc31 => ?_)
        · refine C.iload_n dX8_word_64 1 rfl ?_
          refine C.iret hq dX8_word_65 ?_
          exact ⟨rfl, rfl⟩
        · refine C.iload_n dX8_word_34 1 rfl ?_
          refine C.iconst (-1) dX8_word_35 (by decide) ?_
          refine C.icmp_ne 64 dX8_word_36 rfl (fun hc36 => ?_) (fun hc36 => ?_)
          · refine C.iload_n dX8_word_64 1 rfl ?_
            refine C.iret hq dX8_word_65 ?_
            exact ⟨rfl, rfl⟩
          · exact absurd hc36 (n_m1 (by omega))
      unfold fsF at ev
      rw [here_eq hs] at ev
      refine C.iload_n dX8_word_28 2 rfl ?_
      refine C.bipush (nI 39) dX8_word_29 (by decide) ?_
      refine C.icmp_ge 64 dX8_word_31 rfl (fun hc31 => ?_) (fun hc31 => ?_)
      · exact absurd (n_le hc31 (by omega) (by omega)) (by omega)
      · refine C.iload_n dX8_word_34 1 rfl ?_
        refine C.iconst (-1) dX8_word_35 (by decide) ?_
        refine C.icmp_ne 64 dX8_word_36 rfl (fun hc36 => ?_) (fun hc36 => ?_)
        · exact absurd rfl hc36
        · refine C.aload_n dX8_word_39 0 rfl ?_
          refine C.getA fX8_19 dX8_word_40 hS.o3 hS.r3_1 ?_
          refine C.iload_n dX8_word_43 2 rfl ?_
          refine C.iald hS.a4 (n_in hk39) dX8_word_44 ?_
          rw [n_cl, hkey]
          refine C.aload_n dX8_word_45 0 rfl ?_
          refine C.getI fX8_73 dX8_word_46 hS.o3 ?_
          rw [hv]
          refine C.icmp_ne 56 dX8_word_49 rfl (fun hc49 => ?_) (fun hc49 => ?_)
          · rw [decide_eq_false (fun z => hc49 (hki.mpr z).symm), if_neg (by decide)] at ev
            have hgo := ih (k + 1) (by omega) ev
            rw [← nI_1 k] at hgo
            refine C.iconst (-1) dX8_word_56 (by decide) ?_
            refine C.istore_n (lv' := [(0, _), (1, _), (2, _)]) dX8_word_57 (nLt hX rfl) rfl ?_
            refine C.iinc (lv' := [(0, _), (1, _), (2, _)]) _ dX8_word_58 2 rfl rfl (nLt hX rfl) rfl ?_
            refine C.goto 28 dX8_word_61 rfl ?_
            exact hgo
          · rw [decide_eq_true (hki.mp hc49.symm), if_pos rfl] at ev
            have hgo := fin ev.symm
            refine C.iload_n dX8_word_52 2 rfl ?_
            refine C.goto 57 dX8_word_53 rfl ?_
            refine C.istore_n (lv' := [(0, _), (1, _), (2, _)]) dX8_word_57 (nLt hX rfl) rfl ?_
            refine C.iinc (lv' := [(0, _), (1, _), (2, _)]) _ dX8_word_58 2 rfl rfl (nLt hX rfl) rfl ?_
            refine C.goto 28 dX8_word_61 rfl ?_
            exact hgo
  refine C.aload_n dX8_word_0 0 rfl ?_
  refine C.getI fX8_48 dX8_word_1 hS.o3 ?_
  rw [k2]
  refine C.iconst (nI 1) dX8_word_4 (by decide) ?_
  refine C.icmp_ne 22 dX8_word_5 rfl (fun hc5 => ?_) (fun hc5 => ?_)
  · have hn := wdO_no (fun z => n_ne hc5 (k3.mpr z))
    rw [hn] at hq
    refine C.iconst (-1) dX8_word_22 (by decide) ?_
    refine C.iret hq dX8_word_23 ?_
    exact ⟨rfl, rfl⟩
  · have hk := n_eq hc5 (by omega) (by omega)
    have hs := k3.mp hk
    have hall := (hR.1 hs.1).2.2
    have hv := hall.2.2.2.1 hs.2.1 hs.2.2.1 hs.2.2.2
    have hwp := wl_pos hs.2.1 hs.2.2.1
    have hsub : nI (wl (txL tp) tp.length (sk (txL tp) tp.length s.1)) - nI (sk (txL tp) tp.length s.1) = nI (wl (txL tp) tp.length (sk (txL tp) tp.length s.1) - sk (txL tp) tp.length s.1) := by
      generalize wl (txL tp) tp.length (sk (txL tp) tp.length s.1) = a at *
      generalize sk (txL tp) tp.length s.1 = b at *
      rw [show nI a = nI (a - b) + nI b by rw [nI_add]; congr 1; omega]
      simp
    refine C.aload_n dX8_word_8 0 rfl ?_
    refine C.getI fX8_51 dX8_word_9 hS.o3 ?_
    refine C.aload_n dX8_word_12 0 rfl ?_
    refine C.getI fX8_57 dX8_word_13 hS.o3 ?_
    rw [hv.2.2, hall.1]
    refine C.isub dX8_word_16 ?_
    rw [hsub]
    refine C.bipush (nI 6) dX8_word_17 (by decide) ?_
    refine C.icmp_le 24 dX8_word_19 rfl (fun hc19 => ?_) (fun hc19 => ?_)
    · have h19 := n_le hc19 (by omega) (by omega)
      refine C.iconst (-1) dX8_word_24 (by decide) ?_
      refine C.istore_n (lv' := [(0, _), (1, _)]) dX8_word_25 (nLt hX rfl) rfl ?_
      refine C.iconst (nI 0) dX8_word_26 (by decide) ?_
      refine C.istore_n (lv' := [(0, _), (1, _), (2, _)]) dX8_word_27 (nLt hX rfl) rfl ?_
      exact loop hs h19 39 0 rfl rfl
    · have h19 := n_nle hc19 (by omega) (by omega)
      have hn : wdO (txL tp) tp.length s = none := by
        unfold wdO
        rw [fsF_cong (g := fun _ => false) 39 0 (fun j _ hj => by
          rw [here_eq hs, decide_eq_false (fun z => by
            have h1 := congrArg List.length z
            rw [tok_len] at h1
            have h2 := (key_ok ⟨j, by omega⟩).2.1
            dsimp only at h2
            omega)])]
        exact fsF_no 39 0 (fun _ => rfl)
      rw [hn] at hq
      refine C.iconst (-1) dX8_word_22 (by decide) ?_
      refine C.iret hq dX8_word_23 ?_
      exact ⟨rfl, rfl⟩
theorem kw_takeName (hC : CsB μ) (hT : CsT μ tp) (hR : RD μ (txL tp) tp.length s) : AMet l G 2 0 0 mtX8_takeName [.ref (G.1 + 3)] μ (qI (fun z μ' => ((mName (txL tp) tp.length s).2.2.2.1 = 0 → nmR (mName (txL tp) tp.length s).1 z) ∧ (¬ (mName (txL tp) tp.length s).2.2.2.1 = 0 → z = nI 0) ∧ RD μ' (txL tp) tp.length (mName (txL tp) tp.length s).2 ∧ RqF μ μ')) := by
  refine AMet.of (by decide) (Nat.le_of_ble_eq_true rfl) (fun X C hX hnm hq => ?_)
  have hS := hC.1
  have h1600 := hT.2.1
  obtain ⟨kd, k1, k2, -, k3, -, -⟩ := hR.kd
  generalize hN : mName (txL tp) tp.length s = N at hq
  unfold mName at hN
  have r30 : ¬ (wHas (txL tp) tp.length s ∧ isOwn (txL tp) tp.length (sk (txL tp) tp.length s.1) s.2.1 = false) → ∀ μ', (RD μ' (txL tp) tp.length (mFail s (nI 1) (nI (sk (txL tp) tp.length s.1))) ∧ RqF μ μ') → ((N.2.2.2.1 = 0 → nmR N.1 (nI 0)) ∧ (¬ N.2.2.2.1 = 0 → nI 0 = nI 0) ∧ RD μ' (txL tp) tp.length N.2 ∧ RqF μ μ') := by
    intro hn μ' h30
    by_cases h0 : s.2.2.1 = 0
    · rw [if_pos h0, if_neg (fun z => hn ⟨⟨h0, z.1, z.2.1, z.2.2.1⟩, z.2.2.2⟩)] at hN
      subst hN
      refine ⟨fun z => ?_, fun _ => rfl, h30.1.failL h0, h30.2⟩
      unfold mFail at z
      rw [if_pos (show (mLook (txL tp) tp.length s).2.2.1 = 0 from h0)] at z
      exact absurd z (by show ¬ nI 1 = 0; decide)
    · rw [if_neg h0] at hN
      subst hN
      exact ⟨fun z => absurd z h0, fun _ => rfl, h30.1.failB h0, h30.2⟩
  have m36 : ∀ x, wHas (txL tp) tp.length s → isOwn (txL tp) tp.length (sk (txL tp) tp.length s.1) s.2.1 = false → AW l G X 0 0 36 [(0, .ref (G.1 + 3)), (1, .int x)] [] μ := by
    intro x hs ho
    have hall := (hR.1 hs.1).2.2
    have hv := hall.2.2.2.1 hs.2.1 hs.2.2.1 hs.2.2.2
    have hwp := wl_pos hs.2.1 hs.2.2.1
    have hsub : nI (wl (txL tp) tp.length (sk (txL tp) tp.length s.1)) - nI (sk (txL tp) tp.length s.1) = nI (wl (txL tp) tp.length (sk (txL tp) tp.length s.1) - sk (txL tp) tp.length s.1) := by
      generalize wl (txL tp) tp.length (sk (txL tp) tp.length s.1) = a at *
      generalize sk (txL tp) tp.length s.1 = b at *
      rw [show nI a = nI (a - b) + nI b by rw [nI_add]; congr 1; omega]
      simp
    rw [if_pos hs.1, if_pos ⟨hs.2.1, hs.2.2.1, hs.2.2.2, ho⟩] at hN
    refine C.aload_n dX8_takeName_36 0 rfl ?_
    refine C.getI fX8_51 dX8_takeName_37 hS.o3 ?_
    refine C.aload_n dX8_takeName_40 0 rfl ?_
    refine C.getI fX8_57 dX8_takeName_41 hS.o3 ?_
    rw [hv.2.2, hall.1]
    refine C.isub dX8_takeName_44 ?_
    rw [hsub]
    refine C.bipush (nI 6) dX8_takeName_45 (by decide) ?_
    refine C.icmp_le 65 dX8_takeName_47 rfl (fun hc47 => ?_) (fun hc47 => ?_)
    · have h47 := n_le hc47 (by omega) (by omega)
      rw [if_pos (by omega)] at hN
      refine C.aload_n dX8_takeName_65 0 rfl ?_
      refine C.getI fX8_73 dX8_takeName_66 hS.o3 ?_
      rw [hv.2.1]
      refine C.istore_n (lv' := [(0, _), (1, _), (2, _)]) dX8_takeName_69 (nLt hX rfl) rfl ?_
      refine C.aload_n dX8_takeName_70 0 rfl ?_
      refine C.callVV lX8_54 dX8_takeName_71 (kw_advW hS hT hR hs (s' := (wl (txL tp) tp.length (sk (txL tp) tp.length s.1), nI (wl (txL tp) tp.length (sk (txL tp) tp.length s.1)), s.2.2.1, s.2.2.2.1, s.2.2.2.2.1, nI (sk (txL tp) tp.length s.1))) rfl rfl rfl) hS.o3 rfl rfl (Nat.le_of_ble_eq_true rfl) (Nat.zero_le _) (Nat.zero_le _) (Nat.le_of_ble_eq_true rfl) (fun μ71 h71 => ?_)
      refine C.iload_n dX8_takeName_74 2 rfl ?_
      refine C.iret hq dX8_takeName_75 ?_
      subst hN
      exact ⟨fun _ => ⟨tkW (txL tp) tp.length (sk (txL tp) tp.length s.1), tkW_ok hs.2.1 hs.2.2.1 h47, nval_tk _ _ _, rfl⟩, fun z => absurd hs.1 z, h71.1, h71.2⟩
    · have h47 := n_nle hc47 (by omega) (by omega)
      rw [if_neg (by omega)] at hN
      refine C.aload_n dX8_takeName_50 0 rfl ?_
      refine C.iconst (nI 1) dX8_takeName_51 (by decide) ?_
      refine C.aload_n dX8_takeName_52 0 rfl ?_
      refine C.getI fX8_57 dX8_takeName_53 hS.o3 ?_
      refine C.bipush (nI 6) dX8_takeName_56 (by decide) ?_
      refine C.iadd dX8_takeName_58 ?_
      rw [hall.1, nI_add]
      refine C.callVV lX8_60 dX8_takeName_59 (kw_fail hS hR (by decide)) hS.o3 rfl rfl (Nat.le_of_ble_eq_true rfl) (Nat.zero_le _) (Nat.zero_le _) (Nat.le_of_ble_eq_true rfl) (fun μ59 h59 => ?_)
      refine C.goto 76 dX8_takeName_62 rfl ?_
      refine C.iconst (nI 0) dX8_takeName_76 (by decide) ?_
      refine C.iret hq dX8_takeName_77 ?_
      subst hN
      refine ⟨fun z => absurd z (by show ¬ nI 1 = 0; decide), fun _ => rfl, ?_, h59.2⟩
      have := h59.1
      unfold mFail at this
      rw [if_pos hs.1] at this
      exact this.bad (by show ¬ nI 1 = 0; decide) rfl rfl
  refine C.aload_n dX8_takeName_0 0 rfl ?_
  refine C.callVI lX8_83 dX8_takeName_1 (kw_word hC hT hR) hS.o3 rfl rfl (Nat.le_of_ble_eq_true rfl) (Nat.zero_le _) (Nat.zero_le _) (Nat.le_of_ble_eq_true rfl) (fun x1 μ1 h1 => ?_)
  obtain ⟨rfl, hμ⟩ := h1
  subst hμ
  refine C.istore_n (lv' := [(0, _), (1, _)]) dX8_takeName_4 (nLt hX rfl) rfl ?_
  refine C.aload_n dX8_takeName_5 0 rfl ?_
  refine C.getI fX8_48 dX8_takeName_6 hS.o3 ?_
  rw [k2]
  refine C.iconst (nI 1) dX8_takeName_9 (by decide) ?_
  refine C.icmp_ne 24 dX8_takeName_10 rfl (fun hc10 => ?_) (fun hc10 => ?_)
  · have hn : ¬ (wHas (txL tp) tp.length s ∧ isOwn (txL tp) tp.length (sk (txL tp) tp.length s.1) s.2.1 = false) := fun z => n_ne hc10 (k3.mpr z.1)
    refine C.aload_n dX8_takeName_24 0 rfl ?_
    refine C.iconst (nI 1) dX8_takeName_25 (by decide) ?_
    refine C.aload_n dX8_takeName_26 0 rfl ?_
    refine C.getI fX8_57 dX8_takeName_27 hS.o3 ?_
    refine C.callVV lX8_60 dX8_takeName_30 (kw_failF hS hR) hS.o3 rfl rfl (Nat.le_of_ble_eq_true rfl) (Nat.zero_le _) (Nat.zero_le _) (Nat.le_of_ble_eq_true rfl) (fun μ30 h30 => ?_)
    refine C.goto 76 dX8_takeName_33 rfl ?_
    refine C.iconst (nI 0) dX8_takeName_76 (by decide) ?_
    refine C.iret hq dX8_takeName_77 ?_
    exact r30 hn _ h30
  · have hs := k3.mp (n_eq hc10 (by omega) (by omega))
    have hoi := own_iff hs
    refine C.iload_n dX8_takeName_13 1 rfl ?_
    refine C.iconst (-1) dX8_takeName_14 (by decide) ?_
    refine C.icmp_eq 36 dX8_takeName_15 rfl (fun hc15 => ?_) (fun hc15 => ?_)
    · have hw : wdO (txL tp) tp.length s = none := opI_m1 hc15 (fun x q => by obtain ⟨-, q2, -⟩ := fsF_lt _ _ _ q; omega)
      have ho : isOwn (txL tp) tp.length (sk (txL tp) tp.length s.1) s.2.1 = false := by
        cases hz : isOwn (txL tp) tp.length (sk (txL tp) tp.length s.1) s.2.1 with
        | false => rfl
        | true => obtain ⟨i, h1, -⟩ := hoi.mp hz; rw [hw] at h1; cases h1
      exact m36 _ hs ho
    · obtain ⟨i, hw⟩ : ∃ i, wdO (txL tp) tp.length s = some i := by
        cases q : wdO (txL tp) tp.length s with
        | none => rw [q] at hc15; exact absurd rfl hc15
        | some i => exact ⟨i, rfl⟩
      have hi39 : i < 39 := by obtain ⟨-, q2, -⟩ := fsF_lt _ _ _ hw; omega
      rw [hw]
      refine C.iload_n dX8_takeName_18 1 rfl ?_
      refine C.bipush (nI 33) dX8_takeName_19 (by decide) ?_
      refine C.icmp_ge 36 dX8_takeName_21 rfl (fun hc21 => ?_) (fun hc21 => ?_)
      · have h21 : 33 ≤ i := n_le hc21 (by omega) (by omega)
        have ho : isOwn (txL tp) tp.length (sk (txL tp) tp.length s.1) s.2.1 = false := by
          cases hz : isOwn (txL tp) tp.length (sk (txL tp) tp.length s.1) s.2.1 with
          | false => rfl
          | true => obtain ⟨i2, h1, h2⟩ := hoi.mp hz; rw [hw] at h1; cases h1; omega
        exact m36 _ hs ho
      · have h21 : i < 33 := n_nle hc21 (by omega) (by omega)
        have hn : ¬ (wHas (txL tp) tp.length s ∧ isOwn (txL tp) tp.length (sk (txL tp) tp.length s.1) s.2.1 = false) := fun z => by rw [hoi.mpr ⟨i, hw, h21⟩] at z; exact absurd z.2 (by decide)
        refine C.aload_n dX8_takeName_24 0 rfl ?_
        refine C.iconst (nI 1) dX8_takeName_25 (by decide) ?_
        refine C.aload_n dX8_takeName_26 0 rfl ?_
        refine C.getI fX8_57 dX8_takeName_27 hS.o3 ?_
        refine C.callVV lX8_60 dX8_takeName_30 (kw_failF hS hR) hS.o3 rfl rfl (Nat.le_of_ble_eq_true rfl) (Nat.zero_le _) (Nat.zero_le _) (Nat.le_of_ble_eq_true rfl) (fun μ30 h30 => ?_)
        refine C.goto 76 dX8_takeName_33 rfl ?_
        refine C.iconst (nI 0) dX8_takeName_76 (by decide) ?_
        refine C.iret hq dX8_takeName_77 ?_
        exact r30 hn _ h30
theorem kw_start (hS : ShC μ) (hT : CsT μ tp) (h1 : s.1 = 0) (h2 : s.2.1 = -1) (h3 : s.2.2.1 = 0) : AMet l G 2 0 0 mtX8_start [.ref (G.1 + 3)] μ (qV (fun μ' => RD μ' (txL tp) tp.length s ∧ RqF μ μ')) := by
  refine AMet.of (by decide) (Nat.le_of_ble_eq_true rfl) (fun X C hX hnm hq => ?_)
  have h1600 := hT.2.1
  have hS2 : ShC (sI (sI (sI (sI μ 3 6 (nI 0)) 3 7 (-1)) 3 2 (nI 0)) 3 5 (nI 0)) := hS.of rfl
  have e : ∀ a k, a ≠ 3 → mI (sI (sI (sI (sI μ 3 6 (nI 0)) 3 7 (-1)) 3 2 (nI 0)) 3 5 (nI 0)) a k = mI μ a k := fun a k q => by rw [mI_sI, if_neg (fun z => q z.1), mI_sI, if_neg (fun z => q z.1), mI_sI, if_neg (fun z => q z.1), mI_sI, if_neg (fun z => q z.1)]
  have hT2 : CsT (sI (sI (sI (sI μ 3 6 (nI 0)) 3 7 (-1)) 3 2 (nI 0)) 3 5 (nI 0)) tp := hT.of (e _ _ (by omega)) (fun k => e _ _ (by omega))
  have hsl := sk_le (tx := txL tp) (e := tp.length) (p := 0) (by omega)
  refine C.aload_n dX8_start_0 0 rfl ?_
  refine C.iconst (nI 0) dX8_start_1 (by decide) ?_
  refine C.putI fX8_45 (Or.inl rfl) dX8_start_2 hS.o3 ?_
  refine C.aload_n dX8_start_5 0 rfl ?_
  refine C.iconst (-1) dX8_start_6 (by decide) ?_
  refine C.putI fX8_15 (Or.inl rfl) dX8_start_7 hS.o3 ?_
  refine C.aload_n dX8_start_10 0 rfl ?_
  refine C.iconst (nI 0) dX8_start_11 (by decide) ?_
  refine C.putI fX8_48 (Or.inl rfl) dX8_start_12 hS.o3 ?_
  refine C.aload_n dX8_start_15 0 rfl ?_
  refine C.iconst (nI 0) dX8_start_16 (by decide) ?_
  refine C.putI fX8_51 (Or.inl rfl) dX8_start_17 hS.o3 ?_
  refine C.aload_n dX8_start_20 0 rfl ?_
  refine C.callVV lX8_54 dX8_start_21 (kq_advance hS2 hT2 (t := 0) (kd := 0) (by omega) (by omega) (by rw [mI_sI, if_neg (by omega), mI_sI, if_pos ⟨rfl, rfl⟩]) (by rw [mI_sI, if_pos ⟨rfl, rfl⟩])) hS.o3 rfl rfl (Nat.le_of_ble_eq_true rfl) (Nat.zero_le _) (Nat.zero_le _) (Nat.le_of_ble_eq_true rfl) (fun μ21 h21 => ?_)
  obtain ⟨g1, g2⟩ := h21
  refine C.vret hq dX8_start_24 ?_
  refine ⟨⟨fun _ => ⟨?_, ?_, ?_⟩, fun z => absurd h3 z⟩, g1.1, fun a k q => (g1.2 a k (by omega)).trans (e a k q)⟩
  · rw [g1.2 _ _ (by omega), mI_sI, if_neg (by omega), mI_sI, if_neg (by omega), mI_sI, if_neg (by omega), mI_sI, if_pos ⟨rfl, rfl⟩]
  · rw [g1.2 _ _ (by omega), mI_sI, if_neg (by omega), mI_sI, if_neg (by omega), mI_sI, if_pos ⟨rfl, rfl⟩]
  · rw [h1, h2]
    exact g2.iff ⟨fun z => by omega, fun z => absurd z (n_m1 (by omega))⟩
end KWD
