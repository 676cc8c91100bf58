/-! the reference's sums and tests: what waits is told; which word is here -/

theorem AMet.mono {l : Launch} {G : Gm} {d mc ms : Nat} {y : Mt} {As : List Value} {μ : Mm} {Q Q' : Option Value → Mm → Prop} (h : AMet l G d mc ms y As μ Q) (hi : ∀ r μ', Q r μ' → Q' r μ') : AMet l G d mc ms y As μ Q' := by
  intro p e a b c s m args below f ap hP hK
  obtain ⟨n, o, h1, h2, h3, ⟨r, μ', g1, g2, g3⟩, h5⟩ := h p e a b c s m args below f ap hP hK
  exact ⟨n, o, h1, h2, h3, ⟨r, μ', g1, hi r μ' g2, g3⟩, h5⟩
theorem AMet.monoI {l : Launch} {G : Gm} {d mc ms : Nat} {y : Mt} {As : List Value} {μ : Mm} {Q Q' : Int32 → Mm → Prop} (h : AMet l G d mc ms y As μ (qI Q)) (hi : ∀ r μ', Q r μ' → Q' r μ') : AMet l G d mc ms y As μ (qI Q') := h.mono (fun _ _ ⟨x, e, hx⟩ => ⟨x, e, hi _ _ hx⟩)
theorem AMet.monoV {l : Launch} {G : Gm} {d mc ms : Nat} {y : Mt} {As : List Value} {μ : Mm} {Q Q' : Mm → Prop} (h : AMet l G d mc ms y As μ (qV Q)) (hi : ∀ μ', Q μ' → Q' μ') : AMet l G d mc ms y As μ (qV Q') := h.mono (fun _ _ ⟨e, hx⟩ => ⟨e, hi _ hx⟩)
def qEnds : List Int32 → List Int32 → Int32 → Nat → List Int32 × List Int32 × Int32
  | cs, [], op, _ => (cs, [], op)
  | cs, w :: ws, op, bs => if bs ≤ ws.length ∧ nI 60 ≤ w then qEnds (cs ++ [w]) ws (op - nI 1) bs else (cs, w :: ws, op)
def qNots : List Int32 → List Int32 → Int32 → List Int32 × List Int32 × Int32
  | cs, [], op => (cs, [], op)
  | cs, w :: ws, op => if w = nI 12 then qNots (cs ++ [w]) ws (op - nI 1) else (cs, w :: ws, op)
/-- the ten words of parts -/
def partL : List (List Nat) := (wdT.drop 45).map (·.2)
def fIdx (tx : Nat → Nat) (e q : Nat) (en : Int32) : List (List Nat) → Nat → Int32
  | [], _ => -1
  | w :: r, i => if hereW tx e q en w then nI i else fIdx tx e q en r (i + 1)
def alw (tk : Int32) (k : Int32) : Bool := if tk = 0 then decide (k < nI 4) else if tk = nI 1 then (decide (k < nI 2) || (decide (nI 4 ≤ k) && decide (k ≤ nI 6))) else true
section KMQ2
variable {l : Launch} {G : Gm} {μ μ1 : Mm} {q : Qt} {s : Ps} {tx : Nat → Nat} {e : Nat}
theorem kq_look (hS : ShM μ) (hT : TxM μ tx e) (hQ : QM μ μ1 q s) (hp : s.1 ≤ e) : AMet l G 0 0 0 mtX13_look [.ref (G.1 + 179)] μ1 (qI (fun x μ' => x = chr tx e (sk tx e s.1) ∧ QM μ μ' q (mLook tx e s))) := by
  have h := kp_look (l := l) (G := G) (hQ.sh hS) (hQ.txm hT) hp
  rw [hQ.self] at h
  exact h.monoI (fun x μ' hx => ⟨hx.1, by rw [hx.2]; exact hQ.ps _⟩)
theorem kq_fail (hS : ShM μ) (hQ : QM μ μ1 q s) (k pl : Int32) : AMet l G 0 0 0 mtX13_fail [.ref (G.1 + 179), .int k, .int pl] μ1 (qV (fun μ' => QM μ μ' q (mFail s k pl))) := by
  have h := kp_fail (l := l) (G := G) (hQ.sh hS) s k pl
  rw [hQ.self] at h
  exact h.monoV (fun μ' hx => by rw [hx]; exact hQ.ps _)
theorem kq_here (hS : ShM μ) (hW : WdM μ) (hT : TxM μ tx e) (hQ : QM μ μ1 q s) (hp : s.1 ≤ e) {a : Nat} {ws : List Nat} (hm : (a, ws) ∈ wdT) : AMet l G 1 0 0 mtX13_isHere [.ref (G.1 + 179), .ref (G.1 + a)] μ1 (qI (fun x μ' => x = bI (mHere tx e s ws).1 ∧ QM μ μ' q (mHere tx e s ws).2)) := by
  have h := kp_here (l := l) (G := G) (hQ.sh hS) (hQ.wd hW) (hQ.txm hT) hp hm
  rw [hQ.self] at h
  exact h.monoI (fun x μ' hx => ⟨hx.1, by rw [hx.2]; exact hQ.ps _⟩)
theorem kq_here0 (hS : ShM μ) (hW : WdM μ) (hT : TxM μ tx e) (hQ : QM μ μ1 q s) (hp : s.1 ≤ e) (hb : s.2.2.1 = 0) (hk : sk tx e s.1 = s.1) {a : Nat} {ws : List Nat} (hm : (a, ws) ∈ wdT) : AMet l G 1 0 0 mtX13_isHere [.ref (G.1 + 179), .ref (G.1 + a)] μ1 (qI (fun x μ' => x = bI (hereW tx e s.1 s.2.1 ws) ∧ μ' = μ1)) := by
  have h := kp_here0 (l := l) (G := G) (hQ.sh hS) (hQ.wd hW) (hQ.txm hT) hp hb hk hm
  rw [hQ.self] at h
  exact h
theorem kq_takes (hS : ShM μ) (hW : WdM μ) (hT : TxM μ tx e) (hQ : QM μ μ1 q s) (hp : s.1 ≤ e) {a : Nat} {ws : List Nat} (hm : (a, ws) ∈ wdT) : AMet l G 2 0 0 mtX13_takes [.ref (G.1 + 179), .ref (G.1 + a)] μ1 (qI (fun x μ' => x = bI (mTakes tx e s ws).1 ∧ QM μ μ' q (mTakes tx e s ws).2)) := by
  have h := kp_takes (l := l) (G := G) (hQ.sh hS) (hQ.wd hW) (hQ.txm hT) hp hm
  rw [hQ.self] at h
  exact h.monoI (fun x μ' hx => ⟨hx.1, by rw [hx.2]; exact hQ.ps _⟩)
theorem kq_asks (hS : ShM μ) (hW : WdM μ) (hT : TxM μ tx e) (hQ : QM μ μ1 q s) (hp : s.1 ≤ e) {a : Nat} {ws : List Nat} (hm : (a, ws) ∈ wdT) : AMet l G 3 0 0 mtX13_asks [.ref (G.1 + 179), .ref (G.1 + a)] μ1 (qV (fun μ' => QM μ μ' q (mAsks tx e s ws))) := by
  have h := kp_asks (l := l) (G := G) (hQ.sh hS) (hQ.wd hW) (hQ.txm hT) hp hm
  rw [hQ.self] at h
  exact h.monoV (fun μ' hx => by rw [hx]; exact hQ.ps _)
theorem kq_sign (hS : ShM μ) (hT : TxM μ tx e) (hQ : QM μ μ1 q s) (hp : s.1 ≤ e) (c : Int32) : AMet l G 1 0 0 mtX13_takesSign [.ref (G.1 + 179), .int c] μ1 (qI (fun x μ' => x = bI (mSign tx e s c).1 ∧ QM μ μ' q (mSign tx e s c).2)) := by
  have h := kp_takesSign (l := l) (G := G) (hQ.sh hS) (hQ.txm hT) hp c
  rw [hQ.self] at h
  exact h.monoI (fun x μ' hx => ⟨hx.1, by rw [hx.2]; exact hQ.ps _⟩)
theorem kq_asksSign (hS : ShM μ) (hT : TxM μ tx e) (hQ : QM μ μ1 q s) (hp : s.1 ≤ e) (c : Int32) : AMet l G 2 0 0 mtX13_asksSign [.ref (G.1 + 179), .int c] μ1 (qV (fun μ' => QM μ μ' q (mAskSign tx e s c))) := by
  have h := kp_asksSign (l := l) (G := G) (hQ.sh hS) (hQ.txm hT) hp c
  rw [hQ.self] at h
  exact h.monoV (fun μ' hx => by rw [hx]; exact hQ.ps _)
theorem kq_number (hS : ShM μ) (hT : TxM μ tx e) (hQ : QM μ μ1 q s) (hp : s.1 ≤ e) (lo hi : Int32) : AMet l G 1 0 0 mtX13_number [.ref (G.1 + 179), .int lo, .int hi] μ1 (qI (fun x μ' => x = (mNum tx e s lo hi).1 ∧ QM μ μ' q (mNum tx e s lo hi).2)) := by
  have h := kp_number (l := l) (G := G) (hQ.sh hS) (hQ.txm hT) hp lo hi
  rw [hQ.self] at h
  exact h.monoI (fun x μ' hx => ⟨hx.1, by rw [hx.2]; exact hQ.ps _⟩)
theorem kq_qBracket (hS : ShM μ) (hQ : QM μ μ1 q s) (hl : q.2.1.length < 1700) (hbs : q.2.2.2 < 1700) : AMet l G 1 0 0 mtX13_qBracket [.ref (G.1 + 179)] μ1 (qI (fun x μ' => x = qBrk q.2.1 q.2.2.2 ∧ μ' = μ1)) := by
  obtain ⟨cs, ws0, op, bs⟩ := q
  dsimp only at hl hbs ⊢
  generalize hK : qBrk ws0 bs = K
  refine AMet.of (by decide) (Nat.le_of_ble_eq_true rfl) (fun X C hX hnm hq => ?_)
  have hS : ShM μ1 := hQ.sh hS
  have hw := hQ.2.2.1.2.1
  have hb := hQ.2.2.1.2.2.2
  have hd := hQ.2.2.2.2
  dsimp only at hw hb hd
  have hrev : ∀ (pre : List Int32) (w : Int32) (ws : List Int32), ws0 = pre ++ w :: ws → mI μ1 256 ws.length = w := by
    intro pre w ws h
    rw [hd ws.length (by rw [h]; simp; omega), h]
    simp
  have loop : ∀ (ws pre : List Int32), ws0 = pre ++ ws → K = qBrk ws bs → AW l G X 0 0 7 [(0, .ref (G.1 + 179)), (1, .int (nI ws.length - nI 1))] [] μ1 := by
    intro ws
    induction ws with
    | nil =>
      intro pre hpre hk
      have hm : nI ([] : List Int32).length - nI 1 = -1 := by decide
      have hneg : (-1 : Int32) < nI bs := by
        rw [i_lt, nI_tI (by omega)]
        have : (-1 : Int32).toInt = -1 := by decide
        omega
      rw [hm]
      refine C.iload_n dX13_qBracket_7 1 rfl ?_
      refine C.aload_n dX13_qBracket_8 0 rfl ?_
      refine C.getI fX13_364 dX13_qBracket_9 hS.o ?_
      rw [hb]
      refine C.icmp_lt 33 dX13_qBracket_12 rfl (fun hc12 => ?_) (fun hc12 => ?_)
      · refine C.iload_n dX13_qBracket_33 1 rfl ?_
        refine C.aload_n dX13_qBracket_34 0 rfl ?_
        refine C.getI fX13_364 dX13_qBracket_35 hS.o ?_
        rw [hb]
        refine C.icmp_lt 50 dX13_qBracket_38 rfl (fun hc38 => ?_) (fun hc38 => ?_)
        · refine C.iconst (-1) dX13_qBracket_50 (by decide) ?_
          refine C.iret hq dX13_qBracket_51 ?_
          exact ⟨by rw [hk]; rfl, rfl⟩
        · exact absurd hneg hc38
      · exact absurd hneg hc12
    | cons w ws ih =>
      intro pre hpre hk
      have ht := hrev pre w ws hpre
      have hlen : ws.length + 1 ≤ ws0.length := by rw [hpre]; simp
      have hm : nI (w :: ws).length - nI 1 = nI ws.length := by rw [pk_sub (by simp)]; simp
      rw [hm]
      unfold qBrk at hk
      have r33 : (K = if nI ws.length < nI bs then -1 else w) → AW l G X 0 0 33 [(0, .ref (G.1 + 179)), (1, .int (nI ws.length))] [] μ1 := by
        intro hv
        refine C.iload_n dX13_qBracket_33 1 rfl ?_
        refine C.aload_n dX13_qBracket_34 0 rfl ?_
        refine C.getI fX13_364 dX13_qBracket_35 hS.o ?_
        rw [hb]
        refine C.icmp_lt 50 dX13_qBracket_38 rfl (fun hc38 => ?_) (fun hc38 => ?_)
        · refine C.iconst (-1) dX13_qBracket_50 (by decide) ?_
          refine C.iret hq dX13_qBracket_51 ?_
          first | exact ⟨by rw [hv, if_pos hc38], rfl⟩ | exact ⟨by rw [hv, if_neg hc38], rfl⟩
        · refine C.aload_n dX13_qBracket_41 0 rfl ?_
          refine C.getA fX13_252 dX13_qBracket_42 hS.o hS.r103 ?_
          refine C.iload_n dX13_qBracket_45 1 rfl ?_
          refine C.iald hS.a103 (n_in (by omega)) dX13_qBracket_46 ?_
          rw [n_cl, ht]
          refine C.goto 51 dX13_qBracket_47 rfl ?_
          refine C.iret hq dX13_qBracket_51 ?_
          first | exact ⟨by rw [hv, if_pos hc38], rfl⟩ | exact ⟨by rw [hv, if_neg hc38], rfl⟩
      refine C.iload_n dX13_qBracket_7 1 rfl ?_
      refine C.aload_n dX13_qBracket_8 0 rfl ?_
      refine C.getI fX13_364 dX13_qBracket_9 hS.o ?_
      rw [hb]
      refine C.icmp_lt 33 dX13_qBracket_12 rfl (fun hc12 => ?_) (fun hc12 => ?_)
      · have hlt := n_lt hc12
        rw [if_neg (by omega)] at hk
        exact r33 (by rw [hk, if_pos hc12])
      · have hge := n_nlt hc12
        rw [if_pos hge] at hk
        refine C.aload_n dX13_qBracket_15 0 rfl ?_
        refine C.getA fX13_252 dX13_qBracket_16 hS.o hS.r103 ?_
        refine C.iload_n dX13_qBracket_19 1 rfl ?_
        refine C.iald hS.a103 (n_in (by omega)) dX13_qBracket_20 ?_
        rw [n_cl, ht]
        refine C.callSI lX13_611 dX13_qBracket_21 (kq_qIsBracket w) rfl rfl (Nat.le_of_ble_eq_true rfl) (Nat.zero_le _) (Nat.zero_le _) (Nat.le_of_ble_eq_true rfl) (fun x21 μ21 h21 => ?_)
        obtain ⟨rfl, hμ⟩ := h21
        subst hμ
        refine C.if_ne 33 dX13_qBracket_24 rfl (fun hc24 => ?_) (fun hc24 => ?_)
        · have hbr : isBr w = true := by cases h : isBr w; rw [h] at hc24; exact absurd rfl hc24; rfl
          rw [if_pos hbr] at hk
          exact r33 (by rw [hk, if_neg hc12])
        · have hbr : ¬ isBr w = true := by rw [(bI_0 (isBr w)).mp (by simpa using hc24)]; decide
          rw [if_neg hbr] at hk
          refine C.iinc (lv' := [(0, _), (1, _)]) _ dX13_qBracket_27 1 rfl rfl (nLt hX rfl) rfl ?_
          refine C.goto 7 dX13_qBracket_30 rfl ?_
          have := ih (pre ++ [w]) (by rw [hpre]; simp) hk
          have e1 : nI ws.length + Int32.ofInt (-1) = nI ws.length - nI 1 := by rw [Int32.sub_eq_add_neg]; rfl
          rw [e1]
          exact this
  refine C.aload_n dX13_qBracket_0 0 rfl ?_
  refine C.getI fX13_358 dX13_qBracket_1 hS.o ?_
  rw [hw]
  refine C.iconst (nI 1) dX13_qBracket_4 (by decide) ?_
  refine C.isub dX13_qBracket_5 ?_
  refine C.istore_n (lv' := [(0, _), (1, _)]) dX13_qBracket_6 (nLt hX rfl) rfl ?_
  exact loop ws0 [] rfl hK.symm
theorem kq_qDown (hS : ShM μ) (hQ : QM μ μ1 q s) (hl : q.1.length + q.2.1.length < 1700) (hbs : q.2.2.2 < 1700) : AMet l G 2 0 0 mtX13_qDropsToBracket [.ref (G.1 + 179)] μ1 (qV (fun μ' => QM μ μ' ((qDown q.1 q.2.1 q.2.2.2).1, (qDown q.1 q.2.1 q.2.2.2).2, q.2.2) s)) := by
  obtain ⟨cs0, ws0, op, bs⟩ := q
  dsimp only at hl hbs ⊢
  generalize hK : qDown cs0 ws0 bs = K
  refine AMet.of (by decide) (Nat.le_of_ble_eq_true rfl) (fun X C hX hnm hq => ?_)
  have hS1 := hS
  have loop : ∀ (ws cs : List Int32) (μ1 : Mm), QM μ μ1 (cs, ws, op, bs) s → cs.length + ws.length < 1700 → qDown cs ws bs = K → AW l G X 0 0 0 [(0, .ref (G.1 + 179))] [] μ1 := by
    intro ws
    induction ws with
    | nil =>
      intro cs μ1 hQ hlen hk
      have hS : ShM μ1 := hQ.sh hS1
      have hw := hQ.2.2.1.2.1
      have hb := hQ.2.2.1.2.2.2
      dsimp only at hw hb
      refine C.aload_n dX13_qDropsToBracket_0 0 rfl ?_
      refine C.getI fX13_358 dX13_qDropsToBracket_1 hS.o ?_
      refine C.aload_n dX13_qDropsToBracket_4 0 rfl ?_
      refine C.getI fX13_364 dX13_qDropsToBracket_5 hS.o ?_
      rw [hw, hb]
      refine C.icmp_le 35 dX13_qDropsToBracket_8 rfl (fun hc8 => ?_) (fun hc8 => ?_)
      · refine C.vret hq dX13_qDropsToBracket_35 ?_
        rw [← hk]
        exact hQ
      · have := n_nle (a := ([] : List Int32).length) hc8; simp at this
    | cons w ws ih =>
      intro cs μ1 hQ hlen hk
      have hS : ShM μ1 := hQ.sh hS1
      have hw := hQ.2.2.1.2.1
      have hb := hQ.2.2.1.2.2.2
      have ht := hQ.top
      simp only [List.length_cons] at hw hb hlen
      unfold qDown at hk
      refine C.aload_n dX13_qDropsToBracket_0 0 rfl ?_
      refine C.getI fX13_358 dX13_qDropsToBracket_1 hS.o ?_
      refine C.aload_n dX13_qDropsToBracket_4 0 rfl ?_
      refine C.getI fX13_364 dX13_qDropsToBracket_5 hS.o ?_
      rw [hw, hb]
      refine C.icmp_le 35 dX13_qDropsToBracket_8 rfl (fun hc8 => ?_) (fun hc8 => ?_)
      · have hle := n_le hc8
        rw [if_neg (by omega)] at hk
        refine C.vret hq dX13_qDropsToBracket_35 ?_
        rw [← hk]
        exact hQ
      · have hgt := n_nle hc8
        refine C.aload_n dX13_qDropsToBracket_11 0 rfl ?_
        refine C.getA fX13_252 dX13_qDropsToBracket_12 hS.o hS.r103 ?_
        refine C.aload_n dX13_qDropsToBracket_15 0 rfl ?_
        refine C.getI fX13_358 dX13_qDropsToBracket_16 hS.o ?_
        rw [hw]
        refine C.iconst (nI 1) dX13_qDropsToBracket_19 (by decide) ?_
        refine C.isub dX13_qDropsToBracket_20 ?_
        rw [pk_sub (by omega), Nat.add_sub_cancel]
        refine C.iald hS.a103 (n_in (by omega)) dX13_qDropsToBracket_21 ?_
        rw [n_cl, ht]
        refine C.callSI lX13_611 dX13_qDropsToBracket_22 (kq_qIsBracket w) rfl rfl (Nat.le_of_ble_eq_true rfl) (Nat.zero_le _) (Nat.zero_le _) (Nat.le_of_ble_eq_true rfl) (fun x22 μ22 h22 => ?_)
        obtain ⟨rfl, hμ⟩ := h22
        subst hμ
        refine C.if_ne 35 dX13_qDropsToBracket_25 rfl (fun hc25 => ?_) (fun hc25 => ?_)
        · have hbr : isBr w = true := by cases h : isBr w; rw [h] at hc25; exact absurd rfl hc25; rfl
          rw [if_neg (by simp [hbr])] at hk
          refine C.vret hq dX13_qDropsToBracket_35 ?_
          rw [← hk]
          exact hQ
        · have hbr : isBr w = false := (bI_0 (isBr w)).mp (by simpa using hc25)
          rw [if_pos ⟨by omega, hbr⟩] at hk
          refine C.aload_n dX13_qDropsToBracket_28 0 rfl ?_
          refine C.callVV lX13_614 dX13_qDropsToBracket_29 (kq_qDrops hS1 hQ (by omega) (by omega)) hS.o rfl rfl (Nat.le_of_ble_eq_true rfl) (Nat.zero_le _) (Nat.zero_le _) (Nat.le_of_ble_eq_true rfl) (fun μ29 h29 => ?_)
          refine C.goto 0 dX13_qDropsToBracket_32 rfl ?_
          exact ih _ _ h29 (by simp; omega) hk
  exact loop ws0 cs0 μ1 hQ hl hK
theorem kq_qEnds (hS : ShM μ) (hQ : QM μ μ1 q s) (hl : q.1.length + q.2.1.length < 1700) (hbs : q.2.2.2 < 1700) : AMet l G 2 0 0 mtX13_qEndsPart [.ref (G.1 + 179)] μ1 (qV (fun μ' => if s.2.2.1 = 0 then QM μ μ' ((qEnds q.1 q.2.1 q.2.2.1 q.2.2.2).1, (qEnds q.1 q.2.1 q.2.2.1 q.2.2.2).2.1, (qEnds q.1 q.2.1 q.2.2.1 q.2.2.2).2.2, q.2.2.2) s else QM μ μ' q s)) := by
  obtain ⟨cs0, ws0, op0, bs⟩ := q
  dsimp only at hl hbs ⊢
  generalize hK : qEnds cs0 ws0 op0 bs = K
  refine AMet.of (by decide) (Nat.le_of_ble_eq_true rfl) (fun X C hX hnm hq => ?_)
  have hS1 := hS
  have hbd0 := hQ.2.1.2.2.1
  by_cases hz : s.2.2.1 = 0
  · simp only [if_pos hz] at hq
    have loop : ∀ (ws cs : List Int32) (op : Int32) (μ1 : Mm), QM μ μ1 (cs, ws, op, bs) s → cs.length + ws.length < 1700 → qEnds cs ws op bs = K → AW l G X 0 0 0 [(0, .ref (G.1 + 179))] [] μ1 := by
      intro ws
      induction ws with
      | nil =>
        intro cs op μ1 hQ hlen hk
        have hS : ShM μ1 := hQ.sh hS1
        have hw := hQ.2.2.1.2.1
        have hb := hQ.2.2.1.2.2.2
        have hbd := hQ.2.1.2.2.1
        dsimp only at hw hb
        refine C.aload_n dX13_qEndsPart_0 0 rfl ?_
        refine C.getI fX13_264 dX13_qEndsPart_1 hS.o ?_
        rw [hbd]
        refine C.if_ne 51 dX13_qEndsPart_4 rfl (fun hc4 => ?_) (fun hc4 => ?_)
        · exact absurd hz hc4
        · refine C.aload_n dX13_qEndsPart_7 0 rfl ?_
          refine C.getI fX13_358 dX13_qEndsPart_8 hS.o ?_
          refine C.aload_n dX13_qEndsPart_11 0 rfl ?_
          refine C.getI fX13_364 dX13_qEndsPart_12 hS.o ?_
          rw [hw, hb]
          refine C.icmp_le 51 dX13_qEndsPart_15 rfl (fun hc15 => ?_) (fun hc15 => ?_)
          · refine C.vret hq dX13_qEndsPart_51 ?_
            rw [← hk]
            exact hQ
          · have := n_nle (a := ([] : List Int32).length) hc15; simp at this
      | cons w ws ih =>
        intro cs op μ1 hQ hlen hk
        have hS : ShM μ1 := hQ.sh hS1
        have hw := hQ.2.2.1.2.1
        have hb := hQ.2.2.1.2.2.2
        have ho := hQ.2.2.1.2.2.1
        have hbd := hQ.2.1.2.2.1
        have ht := hQ.top
        simp only [List.length_cons] at hw hb hlen ho
        unfold qEnds at hk
        have hQ2 := hQ.op (op - nI 1)
        refine C.aload_n dX13_qEndsPart_0 0 rfl ?_
        refine C.getI fX13_264 dX13_qEndsPart_1 hS.o ?_
        rw [hbd]
        refine C.if_ne 51 dX13_qEndsPart_4 rfl (fun hc4 => ?_) (fun hc4 => ?_)
        · exact absurd hz hc4
        · refine C.aload_n dX13_qEndsPart_7 0 rfl ?_
          refine C.getI fX13_358 dX13_qEndsPart_8 hS.o ?_
          refine C.aload_n dX13_qEndsPart_11 0 rfl ?_
          refine C.getI fX13_364 dX13_qEndsPart_12 hS.o ?_
          rw [hw, hb]
          refine C.icmp_le 51 dX13_qEndsPart_15 rfl (fun hc15 => ?_) (fun hc15 => ?_)
          · have hle := n_le hc15
            rw [if_neg (by omega)] at hk
            refine C.vret hq dX13_qEndsPart_51 ?_
            rw [← hk]
            exact hQ
          · have hgt := n_nle hc15
            refine C.aload_n dX13_qEndsPart_18 0 rfl ?_
            refine C.getA fX13_252 dX13_qEndsPart_19 hS.o hS.r103 ?_
            refine C.aload_n dX13_qEndsPart_22 0 rfl ?_
            refine C.getI fX13_358 dX13_qEndsPart_23 hS.o ?_
            rw [hw]
            refine C.iconst (nI 1) dX13_qEndsPart_26 (by decide) ?_
            refine C.isub dX13_qEndsPart_27 ?_
            rw [pk_sub (by omega), Nat.add_sub_cancel]
            refine C.iald hS.a103 (n_in (by omega)) dX13_qEndsPart_28 ?_
            rw [n_cl, ht]
            refine C.bipush (nI 60) dX13_qEndsPart_29 (by decide) ?_
            refine C.icmp_lt 51 dX13_qEndsPart_31 rfl (fun hc31 => ?_) (fun hc31 => ?_)
            · rw [if_neg (fun h => Int32.not_le.mpr hc31 h.2)] at hk
              refine C.vret hq dX13_qEndsPart_51 ?_
              rw [← hk]
              exact hQ
            · rw [if_pos ⟨by omega, Int32.not_lt.mp hc31⟩] at hk
              refine C.aload_n dX13_qEndsPart_34 0 rfl ?_
              refine C.dup dX13_qEndsPart_35 rfl ?_
              refine C.getI fX13_361 dX13_qEndsPart_36 hS.o ?_
              rw [ho]
              refine C.iconst (nI 1) dX13_qEndsPart_39 (by decide) ?_
              refine C.isub dX13_qEndsPart_40 ?_
              refine C.putI fX13_361 (Or.inl rfl) dX13_qEndsPart_41 hS.o ?_
              refine C.aload_n dX13_qEndsPart_44 0 rfl ?_
              refine C.callVV lX13_614 dX13_qEndsPart_45 (kq_qDrops hS1 hQ2 (by dsimp only; omega) (by omega)) hS.o rfl rfl (Nat.le_of_ble_eq_true rfl) (Nat.zero_le _) (Nat.zero_le _) (Nat.le_of_ble_eq_true rfl) (fun μ45 h45 => ?_)
              refine C.goto 0 dX13_qEndsPart_48 rfl ?_
              exact ih _ _ _ h45 (by simp; omega) hk
    exact loop ws0 cs0 op0 μ1 hQ hl hK
  · simp only [if_neg hz] at hq
    have hS : ShM μ1 := hQ.sh hS1
    refine C.aload_n dX13_qEndsPart_0 0 rfl ?_
    refine C.getI fX13_264 dX13_qEndsPart_1 hS.o ?_
    rw [hbd0]
    refine C.if_ne 51 dX13_qEndsPart_4 rfl (fun hc4 => ?_) (fun hc4 => ?_)
    · refine C.vret hq dX13_qEndsPart_51 ?_
      exact hQ
    · exact absurd (by simpa using hc4) hz
theorem kq_qNots (hS : ShM μ) (hQ : QM μ μ1 q s) (hl : q.1.length + q.2.1.length < 1700) : AMet l G 2 0 0 mtX13_qDropsNots [.ref (G.1 + 179)] μ1 (qV (fun μ' => if s.2.2.1 = 0 then QM μ μ' ((qNots q.1 q.2.1 q.2.2.1).1, (qNots q.1 q.2.1 q.2.2.1).2.1, (qNots q.1 q.2.1 q.2.2.1).2.2, q.2.2.2) s else QM μ μ' q s)) := by
  obtain ⟨cs0, ws0, op0, bs⟩ := q
  dsimp only at hl ⊢
  generalize hK : qNots cs0 ws0 op0 = K
  refine AMet.of (by decide) (Nat.le_of_ble_eq_true rfl) (fun X C hX hnm hq => ?_)
  have hS1 := hS
  have hbd0 := hQ.2.1.2.2.1
  by_cases hz : s.2.2.1 = 0
  · simp only [if_pos hz] at hq
    have loop : ∀ (ws cs : List Int32) (op : Int32) (μ1 : Mm), QM μ μ1 (cs, ws, op, bs) s → cs.length + ws.length < 1700 → qNots cs ws op = K → AW l G X 0 0 0 [(0, .ref (G.1 + 179))] [] μ1 := by
      intro ws
      induction ws with
      | nil =>
        intro cs op μ1 hQ hlen hk
        have hS : ShM μ1 := hQ.sh hS1
        have hbd := hQ.2.1.2.2.1
        refine C.aload_n dX13_qDropsNots_0 0 rfl ?_
        refine C.getI fX13_264 dX13_qDropsNots_1 hS.o ?_
        rw [hbd]
        refine C.if_ne 33 dX13_qDropsNots_4 rfl (fun hc4 => ?_) (fun hc4 => ?_)
        · exact absurd hz hc4
        · refine C.aload_n dX13_qDropsNots_7 0 rfl ?_
          refine C.bipush (nI 12) dX13_qDropsNots_8 (by decide) ?_
          refine C.callVI lX13_641 dX13_qDropsNots_10 (kq_qIsOn hS1 hQ (by simp) _) hS.o rfl rfl (Nat.le_of_ble_eq_true rfl) (Nat.zero_le _) (Nat.zero_le _) (Nat.le_of_ble_eq_true rfl) (fun x10 μ10 h10 => ?_)
          obtain ⟨rfl, hμ⟩ := h10
          subst hμ
          refine C.if_eq 33 dX13_qDropsNots_13 rfl (fun hc13 => ?_) (fun hc13 => ?_)
          · refine C.vret hq dX13_qDropsNots_33 ?_
            rw [← hk]
            exact hQ
          · exact absurd rfl hc13
      | cons w ws ih =>
        intro cs op μ1 hQ hlen hk
        have hS : ShM μ1 := hQ.sh hS1
        have ho := hQ.2.2.1.2.2.1
        have hbd := hQ.2.1.2.2.1
        simp only [List.length_cons] at hlen ho
        unfold qNots at hk
        have hQ2 := hQ.op (op - nI 1)
        refine C.aload_n dX13_qDropsNots_0 0 rfl ?_
        refine C.getI fX13_264 dX13_qDropsNots_1 hS.o ?_
        rw [hbd]
        refine C.if_ne 33 dX13_qDropsNots_4 rfl (fun hc4 => ?_) (fun hc4 => ?_)
        · exact absurd hz hc4
        · refine C.aload_n dX13_qDropsNots_7 0 rfl ?_
          refine C.bipush (nI 12) dX13_qDropsNots_8 (by decide) ?_
          refine C.callVI lX13_641 dX13_qDropsNots_10 (kq_qIsOn hS1 hQ (by simp; omega) _) hS.o rfl rfl (Nat.le_of_ble_eq_true rfl) (Nat.zero_le _) (Nat.zero_le _) (Nat.le_of_ble_eq_true rfl) (fun x10 μ10 h10 => ?_)
          obtain ⟨rfl, hμ⟩ := h10
          subst hμ
          refine C.if_eq 33 dX13_qDropsNots_13 rfl (fun hc13 => ?_) (fun hc13 => ?_)
          · have hne : ¬ w = nI 12 := by have := (bI_0 _).mp hc13; simpa using this
            rw [if_neg hne] at hk
            refine C.vret hq dX13_qDropsNots_33 ?_
            rw [← hk]
            exact hQ
          · have heq : w = nI 12 := by by_cases h : w = nI 12; exact h; exact absurd (by simp [bI, h]; rfl) hc13
            rw [if_pos heq] at hk
            refine C.aload_n dX13_qDropsNots_16 0 rfl ?_
            refine C.dup dX13_qDropsNots_17 rfl ?_
            refine C.getI fX13_361 dX13_qDropsNots_18 hS.o ?_
            rw [ho]
            refine C.iconst (nI 1) dX13_qDropsNots_21 (by decide) ?_
            refine C.isub dX13_qDropsNots_22 ?_
            refine C.putI fX13_361 (Or.inl rfl) dX13_qDropsNots_23 hS.o ?_
            refine C.aload_n dX13_qDropsNots_26 0 rfl ?_
            refine C.callVV lX13_614 dX13_qDropsNots_27 (kq_qDrops hS1 hQ2 (by dsimp only; omega) (by omega)) hS.o rfl rfl (Nat.le_of_ble_eq_true rfl) (Nat.zero_le _) (Nat.zero_le _) (Nat.le_of_ble_eq_true rfl) (fun μ27 h27 => ?_)
            refine C.goto 0 dX13_qDropsNots_30 rfl ?_
            exact ih _ _ _ h27 (by simp; omega) hk
    exact loop ws0 cs0 op0 μ1 hQ hl hK
  · simp only [if_neg hz] at hq
    have hS : ShM μ1 := hQ.sh hS1
    refine C.aload_n dX13_qDropsNots_0 0 rfl ?_
    refine C.getI fX13_264 dX13_qDropsNots_1 hS.o ?_
    rw [hbd0]
    refine C.if_ne 33 dX13_qDropsNots_4 rfl (fun hc4 => ?_) (fun hc4 => ?_)
    · refine C.vret hq dX13_qDropsNots_33 ?_
      exact hQ
    · exact absurd (by simpa using hc4) hz
end KMQ2
