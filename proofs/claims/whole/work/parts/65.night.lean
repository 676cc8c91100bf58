/-! the reference: one meets it; what is told -/

def pvM (hour night : Nat) (x : Wk) (k : Nat) : Int64 := lN (if k = 0 then hour else if k = 1 then night else if k = 4 then x.1 else if k = 5 then x.2.1 else x.2.2.1)
def keepB (d : Ld) (pv : Nat → Int64) (x : Wk) : Bool := decide (x.1 = 1) || (match d.2.2.2.2.2 2 with
  | none => false
  | some cs => decide (evH pv cs = lN 1))
def payV (d : Ld) (pv : Nat → Int64) : Int64 := match d.2.2.2.2.2 1 with
  | none => lN 0
  | some cs => evH pv cs
def purN (p : Nat) (v : Int64) : Nat := if ¬ 0 ≤ lN p + v then 0 else if ¬ lN p + v ≤ 9999 then 9999 else (lN p + v).toNatClampNeg
def tellF (th : Bool) (t : List Wk) (x : Wk) : List Wk := if th then t else (if t.length = 40 then t.tail else t) ++ [x]
def setW (x : Wk) (j v : Nat) : Wk := if j = 0 then (v, x.2) else if j = 1 then (x.1, v, x.2.2) else if j = 2 then (x.1, x.2.1, v, x.2.2.2) else (x.1, x.2.1, x.2.2.1, v)
def putW (S : St) (w : Nat) (x : Wk) : St := (S.1, S.2.1.set w x, S.2.2)
/-- the state, and who was met: how many, how many kept, which -/
abbrev Ac : Type := St × Nat × Nat × Nat
def meetA (d : Ld) (th : Bool) (a : Ac) (w h : Nat) : Ac :=
  let x := wkS a.1 w
  let pv := pvM h a.1.1.1 x
  let kp := keepB d pv x
  ((a.1.1, a.1.2.1.set w (x.1, min 9999 (x.2.1 + 1), purN x.2.2.1 (payV d pv), if kp then d.2.2.2.2.1.1 else x.2.2.2), tellF th a.1.2.2 (a.1.1.1, h, w, if kp then 1 else 0)), a.2.1 + 1, (if kp then a.2.2.1 + 1 else a.2.2.1), a.2.2.2 ||| 2 ^ w)
section NGP
variable {μ : Mm} {S : St}
theorem wkS_q {w : Nat} (hw : w < S.2.1.length) : S.2.1[w]? = some (wkS S w) := getD_q hw _
theorem RfN.st (h : RfN μ S) {w j : Nat} (v : Nat) (hw : w < S.2.1.length) (hj : j < 4) (h6 : S.2.1.length ≤ 6) : RfN (sI μ 225 (2 + 4 * w + j) (nI v)) (putW S w (setW (wkS S w) j v)) := by
  obtain ⟨a1, a2, a3, a4, a5⟩ := h
  have hg : ∀ k, mI (sI μ 225 (2 + 4 * w + j) (nI v)) 225 k = if k = 2 + 4 * w + j then nI v else mI μ 225 k := fun k => by
    rw [mI_sI]; by_cases q : k = 2 + 4 * w + j
    · rw [if_pos ⟨rfl, q⟩, if_pos q]
    · rw [if_neg (fun z => q z.2), if_neg q]
  refine ⟨by rw [hg, if_neg (by omega)]; exact a1, by rw [hg, if_neg (by omega)]; exact a2, fun i x q => ?_, by rw [hg, if_neg (by omega)]; exact a4, fun i x q => ?_⟩
  · unfold putW at q
    dsimp only at q
    have hi := q_lt q
    rw [List.length_set] at hi
    by_cases e : w = i
    · subst e
      rw [List.getElem?_set_self hw] at q
      have q' := Option.some.inj q
      subst q'
      obtain ⟨b1, b2, b3, b4⟩ := a3 w _ (wkS_q hw)
      rw [hg, hg, hg, hg]
      rcases (show j = 0 ∨ j = 1 ∨ j = 2 ∨ j = 3 by omega) with rfl | rfl | rfl | rfl
      · rw [if_pos (by omega), if_neg (by omega), if_neg (by omega), if_neg (by omega)]; exact ⟨rfl, b2, b3, b4⟩
      · rw [if_neg (by omega), if_pos (by omega), if_neg (by omega), if_neg (by omega)]; exact ⟨b1, rfl, b3, b4⟩
      · rw [if_neg (by omega), if_neg (by omega), if_pos (by omega), if_neg (by omega)]; exact ⟨b1, b2, rfl, b4⟩
      · rw [if_neg (by omega), if_neg (by omega), if_neg (by omega), if_pos (by omega)]; exact ⟨b1, b2, b3, rfl⟩
    · rw [List.getElem?_set_ne e] at q
      obtain ⟨b1, b2, b3, b4⟩ := a3 i x q
      rw [hg, hg, hg, hg, if_neg (by omega), if_neg (by omega), if_neg (by omega), if_neg (by omega)]
      exact ⟨b1, b2, b3, b4⟩
  · obtain ⟨b1, b2, b3, b4⟩ := a5 i x q
    rw [hg, hg, hg, hg, if_neg (by omega), if_neg (by omega), if_neg (by omega), if_neg (by omega)]
    exact ⟨b1, b2, b3, b4⟩
theorem wkS_put {w : Nat} {x : Wk} (hw : w < S.2.1.length) : wkS (putW S w x) w = x := by
  unfold wkS putW
  dsimp only
  rw [List.getD_eq_getElem?_getD, List.getElem?_set_self hw]
  rfl
theorem wkS_put_ne {w v : Nat} {x : Wk} (h : v ≠ w) : wkS (putW S w x) v = wkS S v := by
  unfold wkS putW
  dsimp only
  rw [List.getD_eq_getElem?_getD, List.getElem?_set_ne (Ne.symm h), List.getD_eq_getElem?_getD]
theorem putW_len {w : Nat} {x : Wk} : (putW S w x).2.1.length = S.2.1.length := List.length_set
theorem putW_put {w : Nat} {x y : Wk} : putW (putW S w x) w y = putW S w y := by
  unfold putW
  dsimp only
  rw [List.set_set]
end NGP
section KNG
variable {l : Launch} {G : Gm} {μ : Mm} {d : Ld} {S : St}
theorem tl_q {L : List Wk} {i : Nat} : L.tail[i]? = L[i + 1]? := by cases L <;> simp
theorem kn_told (hS : ShM μ) (hN : RfN μ S) (h6 : S.2.1.length ≤ 6) (h40 : S.2.2.length ≤ 40) {th : Bool} (ht : mI μ 179 67 = bI th) (hour w kp : Nat) : AMet l G 0 0 0 mtX13_isTold [.ref (G.1 + 179), .int (nI hour), .int (nI w), .int (nI kp)] μ (qV (fun μ' => RfN μ' (S.1, S.2.1, tellF th S.2.2 (S.1.1, hour, w, kp)) ∧ μ'.2 = μ.2 ∧ ∀ a k, a ≠ 225 → mI μ' a k = mI μ a k)) := by
  refine AMet.of (by decide) (Nat.le_of_ble_eq_true rfl) (fun X C hX hnm hq => ?_)
  obtain ⟨a1, a2, a3, a4, a5⟩ := hN
  cases th with
  | true =>
    have ht' : mI μ 179 67 = nI 1 := ht
    refine C.aload_n dX13_isTold_0 0 rfl ?_
    refine C.getZ fX13_495 dX13_isTold_1 hS.o ?_
    rw [ht']
    refine C.if_eq 8 dX13_isTold_4 rfl (fun hc4 => ?_) (fun hc4 => ?_)
    · exact absurd hc4 (by decide)
    · refine C.vret hq dX13_isTold_7 ?_
      exact ⟨⟨a1, a2, a3, a4, a5⟩, rfl, fun _ _ _ => rfl⟩
  | false =>
    have ht' : mI μ 179 67 = nI 0 := ht
    -- behind the shift: T' are the rows that stay, n of them
    have fin : ∀ (T : List Wk) (μ1 : Mm) (lv : List (Nat × Value)), T.length < 40 → μ1.2 = μ.2 → (∀ a k, a ≠ 225 → mI μ1 a k = mI μ a k) → (∀ k, k < 26 → mI μ1 225 k = mI μ 225 k) → mI μ1 225 26 = nI (T.length + 1) → (∀ i x, T[i]? = some x → mI μ1 225 (27 + 4 * i) = nI x.1 ∧ mI μ1 225 (28 + 4 * i) = nI x.2.1 ∧ mI μ1 225 (29 + 4 * i) = nI x.2.2.1 ∧ mI μ1 225 (30 + 4 * i) = nI x.2.2.2) → tellF false S.2.2 (S.1.1, hour, w, kp) = T ++ [(S.1.1, hour, w, kp)] → AW l G X 0 0 68 [(0, .ref (G.1 + 179)), (1, .int (nI hour)), (2, .int (nI w)), (3, .int (nI kp))] [] μ1 := by
      intro T μ1 lv hT he ho hlo hl hr hT2
      have hS : ShM μ1 := hS.of (by rw [he])
      have e0 : mI μ1 225 0 = nI S.1.1 := by rw [hlo 0 (by decide)]; exact a1
      have hout : ∀ μ2 : Mm, μ2 = sI (sI (sI (sI μ1 225 (27 + 4 * T.length) (nI S.1.1)) 225 (27 + 4 * T.length + 1) (nI hour)) 225 (27 + 4 * T.length + 2) (nI w)) 225 (27 + 4 * T.length + 3) (nI kp) → RfN μ2 (S.1, S.2.1, tellF false S.2.2 (S.1.1, hour, w, kp)) ∧ μ2.2 = μ.2 ∧ ∀ a k, a ≠ 225 → mI μ2 a k = mI μ a k := by
        intro μ2 hμ
        have hg : ∀ k, k < 27 + 4 * T.length → mI μ2 225 k = mI μ1 225 k := fun k hk => by
          rw [hμ, mI_sI, if_neg (by omega), mI_sI, if_neg (by omega), mI_sI, if_neg (by omega), mI_sI, if_neg (by omega)]
        refine ⟨?_, by rw [hμ]; exact he, fun a k q => by rw [hμ, mI_sI, if_neg (fun z => q z.1), mI_sI, if_neg (fun z => q z.1), mI_sI, if_neg (fun z => q z.1), mI_sI, if_neg (fun z => q z.1)]; exact ho a k q⟩
        rw [hT2]
        have h26 : ∀ i x, S.2.1[i]? = some x → i < 6 → mI μ2 225 (2 + 4 * i) = nI x.1 ∧ mI μ2 225 (3 + 4 * i) = nI x.2.1 ∧ mI μ2 225 (4 + 4 * i) = nI x.2.2.1 ∧ mI μ2 225 (5 + 4 * i) = nI x.2.2.2 := fun i x q h => by
          obtain ⟨b1, b2, b3, b4⟩ := a3 i x q
          rw [hg _ (by omega), hg _ (by omega), hg _ (by omega), hg _ (by omega), hlo _ (by omega), hlo _ (by omega), hlo _ (by omega), hlo _ (by omega)]
          exact ⟨b1, b2, b3, b4⟩
        refine ⟨by rw [hg _ (by omega)]; exact e0, by rw [hg _ (by omega), hlo _ (by omega)]; exact a2, fun i x q => ?_, by rw [hg _ (by omega), hl]; simp, fun i x q => ?_⟩
        · exact h26 i x q (Nat.lt_of_lt_of_le (q_lt q) h6)
        · rcases app1 q with ⟨q1, q2⟩ | ⟨q1, q2⟩
          · obtain ⟨b1, b2, b3, b4⟩ := hr i x q2
            rw [hg _ (by omega), hg _ (by omega), hg _ (by omega), hg _ (by omega)]
            exact ⟨b1, b2, b3, b4⟩
          · subst q2
            subst q1
            refine ⟨?_, ?_, ?_, ?_⟩
            · rw [hμ, mI_sI, if_neg (by omega), mI_sI, if_neg (by omega), mI_sI, if_neg (by omega), mI_sI, if_pos ⟨rfl, rfl⟩]
            · rw [hμ, mI_sI, if_neg (by omega), mI_sI, if_neg (by omega), mI_sI, if_pos ⟨rfl, by omega⟩]
            · rw [hμ, mI_sI, if_neg (by omega), mI_sI, if_pos ⟨rfl, by omega⟩]
            · rw [hμ, mI_sI, if_pos ⟨rfl, by omega⟩]
      refine C.bipush (nI 27) dX13_isTold_68 (by decide) ?_
      refine C.iconst (nI 4) dX13_isTold_70 (by decide) ?_
      refine C.aload_n dX13_isTold_71 0 rfl ?_
      refine C.getA fX13_151 dX13_isTold_72 hS.o hS.r59 ?_
      refine C.bipush (nI 26) dX13_isTold_75 (by decide) ?_
      refine C.iald hS.a59 (n_in (by decide)) dX13_isTold_77 ?_
      rw [n_cl, hl]
      refine C.imul dX13_isTold_78 ?_
      rw [pk_mul]
      refine C.iadd dX13_isTold_79 ?_
      rw [nI_add]
      refine C.iconst (nI 4) dX13_isTold_80 (by decide) ?_
      refine C.isub dX13_isTold_81 ?_
      rw [pk_sub (by omega), show 27 + 4 * (T.length + 1) - 4 = 27 + 4 * T.length by omega]
      refine C.istore (lv' := [(0, _), (1, _), (2, _), (3, _), (4, _)]) dX13_isTold_82 (nLt hX rfl) rfl ?_
      refine C.aload_n dX13_isTold_84 0 rfl ?_
      refine C.getA fX13_151 dX13_isTold_85 hS.o hS.r59 ?_
      refine C.iload dX13_isTold_88 4 rfl ?_
      refine C.aload_n dX13_isTold_90 0 rfl ?_
      refine C.getA fX13_151 dX13_isTold_91 hS.o hS.r59 ?_
      refine C.iconst (nI 0) dX13_isTold_94 (by decide) ?_
      refine C.iald hS.a59 (n_in (by decide)) dX13_isTold_95 ?_
      rw [n_cl, e0]
      refine C.iast hS.a59 (n_in (by omega)) dX13_isTold_96 ?_
      rw [n_cl]
      refine C.aload_n dX13_isTold_97 0 rfl ?_
      refine C.getA fX13_151 dX13_isTold_98 hS.o hS.r59 ?_
      refine C.iload dX13_isTold_101 4 rfl ?_
      refine C.iconst (nI 1) dX13_isTold_103 (by decide) ?_
      refine C.iadd dX13_isTold_104 ?_
      rw [nI_add]
      refine C.iload_n dX13_isTold_105 1 rfl ?_
      refine C.iast hS.a59 (n_in (by omega)) dX13_isTold_106 ?_
      rw [n_cl]
      refine C.aload_n dX13_isTold_107 0 rfl ?_
      refine C.getA fX13_151 dX13_isTold_108 hS.o hS.r59 ?_
      refine C.iload dX13_isTold_111 4 rfl ?_
      refine C.iconst (nI 2) dX13_isTold_113 (by decide) ?_
      refine C.iadd dX13_isTold_114 ?_
      rw [nI_add]
      refine C.iload_n dX13_isTold_115 2 rfl ?_
      refine C.iast hS.a59 (n_in (by omega)) dX13_isTold_116 ?_
      rw [n_cl]
      refine C.aload_n dX13_isTold_117 0 rfl ?_
      refine C.getA fX13_151 dX13_isTold_118 hS.o hS.r59 ?_
      refine C.iload dX13_isTold_121 4 rfl ?_
      refine C.iconst (nI 3) dX13_isTold_123 (by decide) ?_
      refine C.iadd dX13_isTold_124 ?_
      rw [nI_add]
      refine C.iload_n dX13_isTold_125 3 rfl ?_
      refine C.iast hS.a59 (n_in (by omega)) dX13_isTold_126 ?_
      rw [n_cl]
      refine C.vret hq dX13_isTold_127 ?_
      exact hout _ rfl
    have sh : ∀ (n k : Nat) (μ1 : Mm), S.2.2.length = 40 → 183 - k < n → 27 ≤ k → k ≤ 183 → μ1.2 = μ.2 → (∀ a j, a ≠ 225 → mI μ1 a j = mI μ a j) → (∀ j, j < 27 → mI μ1 225 j = mI μ 225 j) → (∀ j, 27 ≤ j → j < k → mI μ1 225 j = mI μ 225 (j + 4)) → (∀ j, k ≤ j → mI μ1 225 j = mI μ 225 j) → AW l G X 0 0 24 [(0, .ref (G.1 + 179)), (1, .int (nI hour)), (2, .int (nI w)), (3, .int (nI kp)), (4, .int (nI k))] [] μ1 := by
      intro n
      induction n with
      | zero => intro k μ1 _ h; omega
      | succ n ih =>
        intro k μ1 hf hn hk hk2 he ho hlo hmid hhi
        have hS : ShM μ1 := hS.of (by rw [he])
        refine C.iload dX13_isTold_24 4 rfl ?_
        refine C.sipush (nI 183) dX13_isTold_26 (by decide) ?_
        refine C.icmp_ge 54 dX13_isTold_29 rfl (fun hc29 => ?_) (fun hc29 => ?_)
        · have hge := n_le (a := 183) (b := k) hc29
          have hkk : k = 183 := by omega
          subst hkk
          refine C.goto 68 dX13_isTold_54 rfl ?_
          refine AW.pick [0, 1, 2, 3] rfl (fin S.2.2.tail μ1 [] (by rw [List.length_tail]; omega) he ho (fun j q => hlo j (by omega)) (by rw [hlo 26 (by decide), a4, List.length_tail, hf]) (fun i x q => ?_) (by unfold tellF; rw [if_neg (by decide), if_pos hf]))
          have hi := q_lt q
          rw [List.length_tail] at hi
          rw [tl_q] at q
          obtain ⟨b1, b2, b3, b4⟩ := a5 (i + 1) x q
          rw [hmid _ (by omega) (by omega), hmid _ (by omega) (by omega), hmid _ (by omega) (by omega), hmid _ (by omega) (by omega)]
          exact ⟨b1, b2, b3, b4⟩
        · have hlt := n_nle (a := 183) (b := k) hc29
          refine C.aload_n dX13_isTold_32 0 rfl ?_
          refine C.getA fX13_151 dX13_isTold_33 hS.o hS.r59 ?_
          refine C.iload dX13_isTold_36 4 rfl ?_
          refine C.aload_n dX13_isTold_38 0 rfl ?_
          refine C.getA fX13_151 dX13_isTold_39 hS.o hS.r59 ?_
          refine C.iload dX13_isTold_42 4 rfl ?_
          refine C.iconst (nI 4) dX13_isTold_44 (by decide) ?_
          refine C.iadd dX13_isTold_45 ?_
          rw [nI_add]
          refine C.iald hS.a59 (n_in (by omega)) dX13_isTold_46 ?_
          rw [n_cl, hhi _ (by omega)]
          refine C.iast hS.a59 (n_in (by omega)) dX13_isTold_47 ?_
          rw [n_cl]
          refine C.iinc (lv' := [(0, _), (1, _), (2, _), (3, _), (4, _)]) _ dX13_isTold_48 4 rfl rfl (nLt hX rfl) rfl ?_
          refine C.goto 24 dX13_isTold_51 rfl ?_
          have hgo := ih (k + 1) (sI μ1 225 k (mI μ 225 (k + 4))) hf (by omega) (by omega) (by omega) he (fun a j q => by rw [mI_sI, if_neg (fun z => q z.1)]; exact ho a j q) (fun j q => by rw [mI_sI, if_neg (by omega)]; exact hlo j q) (fun j q1 q2 => by rw [mI_sI]; by_cases z : j = k; rw [if_pos ⟨rfl, z⟩, z]; rw [if_neg (fun y => z y.2)]; exact hmid j q1 (by omega)) (fun j q => by rw [mI_sI, if_neg (by omega)]; exact hhi j (by omega))
          rw [← nI_1] at hgo
          exact hgo
    refine C.aload_n dX13_isTold_0 0 rfl ?_
    refine C.getZ fX13_495 dX13_isTold_1 hS.o ?_
    rw [ht']
    refine C.if_eq 8 dX13_isTold_4 rfl (fun hc4 => ?_) (fun hc4 => ?_)
    · refine C.aload_n dX13_isTold_8 0 rfl ?_
      refine C.getA fX13_151 dX13_isTold_9 hS.o hS.r59 ?_
      refine C.bipush (nI 26) dX13_isTold_12 (by decide) ?_
      refine C.iald hS.a59 (n_in (by decide)) dX13_isTold_14 ?_
      rw [n_cl, a4]
      refine C.bipush (nI 40) dX13_isTold_15 (by decide) ?_
      refine C.icmp_ne 57 dX13_isTold_17 rfl (fun hc17 => ?_) (fun hc17 => ?_)
      · have hf : ¬ S.2.2.length = 40 := n_ne hc17
        refine C.aload_n dX13_isTold_57 0 rfl ?_
        refine C.getA fX13_151 dX13_isTold_58 hS.o hS.r59 ?_
        refine C.bipush (nI 26) dX13_isTold_61 (by decide) ?_
        refine C.dup2 dX13_isTold_63 rfl rfl ?_
        refine C.iald hS.a59 (n_in (by decide)) dX13_isTold_64 ?_
        rw [n_cl, a4]
        refine C.iconst (nI 1) dX13_isTold_65 (by decide) ?_
        refine C.iadd dX13_isTold_66 ?_
        rw [nI_add]
        refine C.iast hS.a59 (n_in (by decide)) dX13_isTold_67 ?_
        first | skip
        rw [n_cl]
        refine fin S.2.2 _ [] (by omega) rfl (fun a k q => by rw [mI_sI, if_neg (fun z => q z.1)]) (fun k q => by rw [mI_sI, if_neg (by omega)]) (by rw [mI_sI, if_pos ⟨rfl, rfl⟩]) (fun i x q => ?_) (by unfold tellF; rw [if_neg (by decide), if_neg hf])
        rw [mI_sI, if_neg (by omega), mI_sI, if_neg (by omega), mI_sI, if_neg (by omega), mI_sI, if_neg (by omega)]
        exact a5 i x q
      · have hf : S.2.2.length = 40 := n_eq (a := S.2.2.length) (b := 40) hc17
        refine C.bipush (nI 27) dX13_isTold_20 (by decide) ?_
        refine C.istore (lv' := [(0, _), (1, _), (2, _), (3, _), (4, _)]) dX13_isTold_22 (nLt hX rfl) rfl ?_
        exact sh 157 27 μ hf (by omega) (by omega) (by omega) rfl (fun _ _ _ => rfl) (fun _ _ => rfl) (fun j q1 q2 => by omega) (fun _ _ => rfl)
    · exact absurd rfl hc4
end KNG
