/-! the reference: ask -/

abbrev wFirst : List Nat := [102, 105, 114, 115, 116]
abbrev wLast : List Nat := [108, 97, 115, 116]
abbrev wOften : List Nat := [111, 102, 116, 101, 110]
abbrev wTotal : List Nat := [116, 111, 116, 97, 108]
abbrev wMost : List Nat := [109, 111, 115, 116]
abbrev wLeast : List Nat := [108, 101, 97, 115, 116]
def qkL (tx : Nat → Nat) (e : Nat) : List (List Nat) → Nat → Ps → Nat × Ps
  | [], k, s => (k, mAsks tx e s wLeast)
  | w :: r, k, s => if (mTakes tx e s w).1 then (k, (mTakes tx e s w).2) else qkL tx e r (k + 1) (mTakes tx e s w).2
def qkF (tx : Nat → Nat) (e : Nat) (s : Ps) : Nat × Ps := qkL tx e [wFirst, wLast, wOften, wTotal, wMost] 0 s
def askP (tx : Nat → Nat) (e : Nat) (r : Nat × Ps) : Tt := if r.2.2.2.1 = 0 then (if r.1 < 3 then tTest tx e (nI 2) (t0 r.2) else sSums tx e (nI 2) (t0 r.2)) else t0 r.2
def askE (tx : Nat → Nat) (e : Nat) (t : Tt) : Tt := if t.2.2.2.1 = 0 then (if sk tx e t.2.1 < e then (t.1, mFail (mLook tx e t.2) (nI 1) (nI (sk tx e t.2.1))) else (t.1, mLook tx e t.2)) else t
def askT (tx : Nat → Nat) (e : Nat) (s : Ps) : Nat × Tt := ((qkF tx e s).1, askE tx e (askP tx e (qkF tx e s)))
def pvQ (h : Hs) (i k : Nat) : Int64 := lN (if k = 0 then (match mtF (ldH h) (ridH h) (wkS (stH h) i) i with
  | some t => t
  | none => 12) else if k = 1 then (stH h).1.1 else if k = 2 then walkF (ldH h) i % 7 else if k = 3 then walkF (ldH h) i / 7 else if k = 4 then (wkS (stH h) i).1 else if k = 5 then (wkS (stH h) i).2.1 else if k = 6 then (wkS (stH h) i).2.2.1 else if k = 7 then i else (wkS (stH h) i).2.2.2)
def askV (h : Hs) (cs : List Int32) (i : Nat) : Int64 := (ev64 (pvQ h i) (ofQ (walkF (ldH h) i) (ridH h)) cs []).headD 0
def askL (h : Hs) (kd : Nat) (cs : List Int32) : Nat → Nat → Int64 × Bool → Int64 × Bool
  | 0, _, a => a
  | n + 1, i, a => askL h kd cs n (i + 1) (tkF kd (askV h cs i) i a, false)
def askA (h : Hs) (q : Nat × Tt) : Int64 := if 0 < (ldH h).1.1 ∧ q.2.2.2.2.1 = 0 then (askL h q.1 q.2.1.1 (ldH h).2.2.2.1.length 0 (if q.1 < 2 then -1 else lN 0, true)).1 else -1000000000000000
def askH (h : Hs) (q : Nat × Tt) : Hs := if 0 < (ldH h).1.1 then ([], (q.2.2.2.2.1, q.2.2.2.2.2.1), rfH h, ldH h, stH h, psH h, rwH h, ocH h, sdH h) else ([], flH h, rfH h, ldH h, stH h, psH h, rwH h, ocH h, sdH h)
section KKD
variable {l : Launch} {G : Gm} {μ μ1 : Mm} {q : Qt} {s : Ps} {tx : Nat → Nat} {e : Nat}
theorem qkL_le : ∀ (L : List (List Nat)) (k : Nat) (s : Ps), s.1 ≤ e → (qkL tx e L k s).2.1 ≤ e
  | [], k, s, h => mAsks_le _ h
  | w :: r, k, s, h => by
    unfold qkL
    split
    · exact mTakes_le _ h
    · exact qkL_le r _ _ (mTakes_le _ h)
theorem qkL_k : ∀ (L : List (List Nat)) (k : Nat) (s : Ps), (qkL tx e L k s).1 ≤ k + L.length
  | [], k, s => Nat.le_refl _
  | w :: r, k, s => by
    unfold qkL
    split
    · dsimp only; omega
    · have := qkL_k r (k + 1) (mTakes tx e s w).2
      simp only [List.length_cons]; omega
theorem kq_kind (hS : ShM μ) (hW : WdM μ) (hT : TxM μ tx e) (hQ : QM μ μ1 q s) (hp : s.1 ≤ e) : AMet l G 4 0 0 mtX13_qKind [.ref (G.1 + 179)] μ1 (qI (fun x μ' => x = nI (qkF tx e s).1 ∧ QM μ μ' q (qkF tx e s).2)) := by
  refine AMet.of (by decide) (Nat.le_of_ble_eq_true rfl) (fun X C hX hnm hq => ?_)
  have hS1 := hS
  have hS : ShM μ1 := hQ.sh hS1
  generalize hK : qkF tx e s = K at hq
  have fin : ∀ (k : Nat) (s2 : Ps) (μ2 : Mm), k < 5 → (k, s2) = K → QM μ μ2 q s2 → AW l G X 0 0 76 [(0, .ref (G.1 + 179))] [.int (nI k)] μ2 := by
    intro k s2 μ2 hk he hQ2
    subst he
    refine C.istore_n (lv' := [(0, _), (1, _)]) dX13_qKind_76 (nLt hX rfl) rfl ?_
    refine C.iload_n dX13_qKind_77 1 rfl ?_
    refine C.iconst (nI 5) dX13_qKind_78 (by decide) ?_
    refine C.icmp_ne 90 dX13_qKind_79 rfl (fun hc79 => ?_) (fun hc79 => ?_)
    · refine C.iload_n dX13_qKind_90 1 rfl ?_
      refine C.iret hq dX13_qKind_91 ?_
      exact ⟨rfl, hQ2⟩
    · have := n_eq (a := k) (b := 5) hc79; omega
  unfold qkF at hK
  unfold qkL at hK
  have p0 := mTakes_le (tx := tx) wFirst hp
  refine C.aload_n dX13_qKind_0 0 rfl ?_
  refine C.aload_n dX13_qKind_1 0 rfl ?_
  refine C.getA fX13_183 dX13_qKind_2 hS.o hS.r79 ?_
  refine C.callVI lX13_291 dX13_qKind_5 (kq_takes hS1 hW hT hQ hp (List.mem_of_getElem? (l := wdT) (i := 33) rfl)) hS.o rfl rfl (Nat.le_of_ble_eq_true rfl) (Nat.zero_le _) (Nat.zero_le _) (Nat.le_of_ble_eq_true rfl) (fun x5 μ5 h5 => ?_)
  obtain ⟨rfl, hQ1⟩ := h5
  generalize mTakes tx e s wFirst = r0 at *
  have hS : ShM μ5 := hQ1.sh hS1
  refine C.if_eq 15 dX13_qKind_8 rfl (fun hc8 => ?_) (fun hc8 => ?_)
  · rw [if_neg (by rw [(bI_0 _).mp hc8]; decide)] at hK
    unfold qkL at hK
    have p1 := mTakes_le (tx := tx) (s := r0.2) wLast p0
    refine C.aload_n dX13_qKind_15 0 rfl ?_
    refine C.aload_n dX13_qKind_16 0 rfl ?_
    refine C.getA fX13_186 dX13_qKind_17 hS.o hS.r80 ?_
    refine C.callVI lX13_291 dX13_qKind_20 (kq_takes hS1 hW hT hQ1 p0 (List.mem_of_getElem? (l := wdT) (i := 34) rfl)) hS.o rfl rfl (Nat.le_of_ble_eq_true rfl) (Nat.zero_le _) (Nat.zero_le _) (Nat.le_of_ble_eq_true rfl) (fun x20 μ20 h20 => ?_)
    obtain ⟨rfl, hQ2⟩ := h20
    generalize mTakes tx e r0.2 wLast = r1 at *
    have hS : ShM μ20 := hQ2.sh hS1
    refine C.if_eq 30 dX13_qKind_23 rfl (fun hc23 => ?_) (fun hc23 => ?_)
    · rw [if_neg (by rw [(bI_0 _).mp hc23]; decide)] at hK
      unfold qkL at hK
      have p2 := mTakes_le (tx := tx) wOften p1
      refine C.aload_n dX13_qKind_30 0 rfl ?_
      refine C.aload_n dX13_qKind_31 0 rfl ?_
      refine C.getA fX13_189 dX13_qKind_32 hS.o hS.r81 ?_
      refine C.callVI lX13_291 dX13_qKind_35 (kq_takes hS1 hW hT hQ2 p1 (List.mem_of_getElem? (l := wdT) (i := 35) rfl)) hS.o rfl rfl (Nat.le_of_ble_eq_true rfl) (Nat.zero_le _) (Nat.zero_le _) (Nat.le_of_ble_eq_true rfl) (fun x35 μ35 h35 => ?_)
      obtain ⟨rfl, hQ3⟩ := h35
      generalize mTakes tx e r1.2 wOften = r2 at *
      have hS : ShM μ35 := hQ3.sh hS1
      refine C.if_eq 45 dX13_qKind_38 rfl (fun hc38 => ?_) (fun hc38 => ?_)
      · rw [if_neg (by rw [(bI_0 _).mp hc38]; decide)] at hK
        unfold qkL at hK
        have p3 := mTakes_le (tx := tx) wTotal p2
        refine C.aload_n dX13_qKind_45 0 rfl ?_
        refine C.aload_n dX13_qKind_46 0 rfl ?_
        refine C.getA fX13_192 dX13_qKind_47 hS.o hS.r82 ?_
        refine C.callVI lX13_291 dX13_qKind_50 (kq_takes hS1 hW hT hQ3 p2 (List.mem_of_getElem? (l := wdT) (i := 36) rfl)) hS.o rfl rfl (Nat.le_of_ble_eq_true rfl) (Nat.zero_le _) (Nat.zero_le _) (Nat.le_of_ble_eq_true rfl) (fun x50 μ50 h50 => ?_)
        obtain ⟨rfl, hQ4⟩ := h50
        generalize mTakes tx e r2.2 wTotal = r3 at *
        have hS : ShM μ50 := hQ4.sh hS1
        refine C.if_eq 60 dX13_qKind_53 rfl (fun hc53 => ?_) (fun hc53 => ?_)
        · rw [if_neg (by rw [(bI_0 _).mp hc53]; decide)] at hK
          unfold qkL at hK
          have p4 := mTakes_le (tx := tx) wMost p3
          refine C.aload_n dX13_qKind_60 0 rfl ?_
          refine C.aload_n dX13_qKind_61 0 rfl ?_
          refine C.getA fX13_195 dX13_qKind_62 hS.o hS.r83 ?_
          refine C.callVI lX13_291 dX13_qKind_65 (kq_takes hS1 hW hT hQ4 p3 (List.mem_of_getElem? (l := wdT) (i := 37) rfl)) hS.o rfl rfl (Nat.le_of_ble_eq_true rfl) (Nat.zero_le _) (Nat.zero_le _) (Nat.le_of_ble_eq_true rfl) (fun x65 μ65 h65 => ?_)
          obtain ⟨rfl, hQ5⟩ := h65
          generalize mTakes tx e r3.2 wMost = r4 at *
          have hS : ShM μ65 := hQ5.sh hS1
          refine C.if_eq 75 dX13_qKind_68 rfl (fun hc68 => ?_) (fun hc68 => ?_)
          · rw [if_neg (by rw [(bI_0 _).mp hc68]; decide)] at hK
            unfold qkL at hK
            refine C.iconst (nI 5) dX13_qKind_75 (by decide) ?_
            refine C.istore_n (lv' := [(0, _), (1, _)]) dX13_qKind_76 (nLt hX rfl) rfl ?_
            refine C.iload_n dX13_qKind_77 1 rfl ?_
            refine C.iconst (nI 5) dX13_qKind_78 (by decide) ?_
            refine C.icmp_ne 90 dX13_qKind_79 rfl (fun hc79 => absurd rfl hc79) (fun hc79 => ?_)
            refine C.aload_n dX13_qKind_82 0 rfl ?_
            refine C.aload_n dX13_qKind_83 0 rfl ?_
            refine C.getA fX13_198 dX13_qKind_84 hS.o hS.r84 ?_
            refine C.callVV lX13_337 dX13_qKind_87 (kq_asks hS1 hW hT hQ5 p4 (List.mem_of_getElem? (l := wdT) (i := 38) rfl)) hS.o rfl rfl (Nat.le_of_ble_eq_true rfl) (Nat.zero_le _) (Nat.zero_le _) (Nat.le_of_ble_eq_true rfl) (fun μ87 h87 => ?_)
            refine C.iload_n dX13_qKind_90 1 rfl ?_
            refine C.iret hq dX13_qKind_91 ?_
            generalize mAsks tx e r4.2 wLeast = r5 at *
            rw [← hK]
            exact ⟨rfl, h87⟩
          · rw [if_pos (b_t hc68)] at hK
            refine C.iconst (nI 4) dX13_qKind_71 (by decide) ?_
            refine C.goto 76 dX13_qKind_72 rfl ?_
            first | exact fin 0 _ _ (by decide) hK hQ1 | exact fin 1 _ _ (by decide) hK hQ2 | exact fin 2 _ _ (by decide) hK hQ3 | exact fin 3 _ _ (by decide) hK hQ4 | exact fin 4 _ _ (by decide) hK hQ5
        · rw [if_pos (b_t hc53)] at hK
          refine C.iconst (nI 3) dX13_qKind_56 (by decide) ?_
          refine C.goto 76 dX13_qKind_57 rfl ?_
          first | exact fin 0 _ _ (by decide) hK hQ1 | exact fin 1 _ _ (by decide) hK hQ2 | exact fin 2 _ _ (by decide) hK hQ3 | exact fin 3 _ _ (by decide) hK hQ4 | exact fin 4 _ _ (by decide) hK hQ5
      · rw [if_pos (b_t hc38)] at hK
        refine C.iconst (nI 2) dX13_qKind_41 (by decide) ?_
        refine C.goto 76 dX13_qKind_42 rfl ?_
        first | exact fin 0 _ _ (by decide) hK hQ1 | exact fin 1 _ _ (by decide) hK hQ2 | exact fin 2 _ _ (by decide) hK hQ3 | exact fin 3 _ _ (by decide) hK hQ4 | exact fin 4 _ _ (by decide) hK hQ5
    · rw [if_pos (b_t hc23)] at hK
      refine C.iconst (nI 1) dX13_qKind_26 (by decide) ?_
      refine C.goto 76 dX13_qKind_27 rfl ?_
      first | exact fin 0 _ _ (by decide) hK hQ1 | exact fin 1 _ _ (by decide) hK hQ2 | exact fin 2 _ _ (by decide) hK hQ3 | exact fin 3 _ _ (by decide) hK hQ4 | exact fin 4 _ _ (by decide) hK hQ5
  · rw [if_pos (b_t hc8)] at hK
    refine C.iconst (nI 0) dX13_qKind_11 (by decide) ?_
    refine C.goto 76 dX13_qKind_12 rfl ?_
    first | exact fin 0 _ _ (by decide) hK hQ1 | exact fin 1 _ _ (by decide) hK hQ2 | exact fin 2 _ _ (by decide) hK hQ3 | exact fin 3 _ _ (by decide) hK hQ4 | exact fin 4 _ _ (by decide) hK hQ5
end KKD
