/-! the reference: behind a fact; tests -/

section KMQ8
variable {l : Launch} {G : Gm} {μ μ1 : Mm} {q : Qt} {s : Ps} {tx : Nat → Nat} {e k : Nat}
theorem b_f {b : Bool} (h : bI b = 0) : ¬ b = true := by rw [(bI_0 b).mp h]; decide
theorem kq_onT {t : Tt} (hS : ShM μ) (hW : WdM μ) (hT : TxM μ tx e) (hQ : QM μ μ1 t.1 t.2) (hz : t.2.2.2.1 = 0) (hp : t.2.1 ≤ e) (hl : tln t < 1680) : AMet l G 3 0 0 mtX13_qGoesOnTest [.ref (G.1 + 179)] μ1 (qI (fun x μ' => x = bI (gOnT tx e t).1 ∧ QM μ μ' (gOnT tx e t).2.1 (gOnT tx e t).2.2)) := by
  refine AMet.of (by decide) (Nat.le_of_ble_eq_true rfl) (fun X C hX hnm hq => ?_)
  have hS1 := hS
  have he := hT.2.1
  generalize hK : gOnT tx e t = K at hq
  have push10 : ∀ (s2 : Ps) (cs ws : List Int32) (op : Int32) (bs : Nat) (μ1 : Mm), QM μ μ1 (cs, ws, op, bs) s2 → cs.length + ws.length < 1690 → (true, ((cs, nI 10 :: ws, op, bs), s2)) = K → AW l G X 0 0 103 [(0, .ref (G.1 + 179))] [] μ1 := by
    intro s2 cs ws op bs μ1 hQ hl hk
    have hS : ShM μ1 := hQ.sh hS1
    have hw : mI μ1 179 104 = nI ws.length := hQ.2.2.1.2.1
    refine C.aload_n dX13_qGoesOnTest_103 0 rfl ?_
    refine C.getA fX13_252 dX13_qGoesOnTest_104 hS.o hS.r103 ?_
    refine C.aload_n dX13_qGoesOnTest_107 0 rfl ?_
    refine C.getI fX13_358 dX13_qGoesOnTest_108 hS.o ?_
    rw [hw]
    refine C.bipush (nI 10) dX13_qGoesOnTest_111 (by decide) ?_
    refine C.iast hS.a103 (n_in (by omega)) dX13_qGoesOnTest_113 ?_
    rw [n_cl]
    refine C.aload_n dX13_qGoesOnTest_114 0 rfl ?_
    refine C.dup dX13_qGoesOnTest_115 rfl ?_
    refine C.getI fX13_358 dX13_qGoesOnTest_116 hS.o ?_
    rw [show mI (sI μ1 256 ws.length (nI 10)) 179 104 = nI ws.length from hw]
    refine C.iconst (nI 1) dX13_qGoesOnTest_119 (by decide) ?_
    refine C.iadd dX13_qGoesOnTest_120 ?_
    rw [nI_add]
    refine C.putI fX13_358 (Or.inl rfl) dX13_qGoesOnTest_121 hS.o ?_
    refine C.iconst (nI 1) dX13_qGoesOnTest_124 (by decide) ?_
    refine C.zret hq dX13_qGoesOnTest_125 (by decide) ?_
    rw [← hk]
    exact ⟨rfl, hQ.push _⟩
  have push11 : ∀ (s2 : Ps) (cs ws : List Int32) (op : Int32) (bs : Nat) (μ1 : Mm), QM μ μ1 (cs, ws, op, bs) s2 → cs.length + ws.length < 1690 → (true, ((cs, nI 11 :: ws, op, bs), s2)) = K → AW l G X 0 0 162 [(0, .ref (G.1 + 179))] [] μ1 := by
    intro s2 cs ws op bs μ1 hQ hl hk
    have hS : ShM μ1 := hQ.sh hS1
    have hw : mI μ1 179 104 = nI ws.length := hQ.2.2.1.2.1
    refine C.aload_n dX13_qGoesOnTest_162 0 rfl ?_
    refine C.getA fX13_252 dX13_qGoesOnTest_163 hS.o hS.r103 ?_
    refine C.aload_n dX13_qGoesOnTest_166 0 rfl ?_
    refine C.getI fX13_358 dX13_qGoesOnTest_167 hS.o ?_
    rw [hw]
    refine C.bipush (nI 11) dX13_qGoesOnTest_170 (by decide) ?_
    refine C.iast hS.a103 (n_in (by omega)) dX13_qGoesOnTest_172 ?_
    rw [n_cl]
    refine C.aload_n dX13_qGoesOnTest_173 0 rfl ?_
    refine C.dup dX13_qGoesOnTest_174 rfl ?_
    refine C.getI fX13_358 dX13_qGoesOnTest_175 hS.o ?_
    rw [show mI (sI μ1 256 ws.length (nI 11)) 179 104 = nI ws.length from hw]
    refine C.iconst (nI 1) dX13_qGoesOnTest_178 (by decide) ?_
    refine C.iadd dX13_qGoesOnTest_179 ?_
    rw [nI_add]
    refine C.putI fX13_358 (Or.inl rfl) dX13_qGoesOnTest_180 hS.o ?_
    refine C.iconst (nI 1) dX13_qGoesOnTest_183 (by decide) ?_
    refine C.zret hq dX13_qGoesOnTest_184 (by decide) ?_
    rw [← hk]
    exact ⟨rfl, hQ.push _⟩
  have lp10 : ∀ (s2 : Ps) (op : Int32) (bs : Nat) (ws cs : List Int32) (μ1 : Mm), QM μ μ1 (cs, ws, op, bs) s2 → cs.length + ws.length < 1690 → (true, (((qTop andS cs ws).1, nI 10 :: (qTop andS cs ws).2, op, bs), s2)) = K → AW l G X 0 0 87 [(0, .ref (G.1 + 179))] [] μ1 := by
    intro s2 op bs ws
    induction ws with
    | nil =>
      intro cs μ1 hQ hl hk
      have hS : ShM μ1 := hQ.sh hS1
      refine C.aload_n dX13_qGoesOnTest_87 0 rfl ?_
      refine C.bipush (nI 10) dX13_qGoesOnTest_88 (by decide) ?_
      refine C.callVI lX13_641 dX13_qGoesOnTest_90 (kq_qIsOn hS1 hQ (by simp) _) hS.o rfl rfl (Nat.le_of_ble_eq_true rfl) (Nat.zero_le _) (Nat.zero_le _) (Nat.le_of_ble_eq_true rfl) (fun x90 μ90 h90 => ?_)
      obtain ⟨rfl, hμ⟩ := h90
      subst hμ
      refine C.if_eq 103 dX13_qGoesOnTest_93 rfl (fun hc93 => ?_) (fun hc93 => ?_)
      · exact push10 _ _ _ _ _ _ hQ hl hk
      · exact absurd (on_t hc93) (by simp)
    | cons w ws ih =>
      intro cs μ1 hQ hl hk
      have hS : ShM μ1 := hQ.sh hS1
      simp only [List.length_cons] at hl
      unfold qTop at hk
      refine C.aload_n dX13_qGoesOnTest_87 0 rfl ?_
      refine C.bipush (nI 10) dX13_qGoesOnTest_88 (by decide) ?_
      refine C.callVI lX13_641 dX13_qGoesOnTest_90 (kq_qIsOn hS1 hQ (by simp; omega) _) hS.o rfl rfl (Nat.le_of_ble_eq_true rfl) (Nat.zero_le _) (Nat.zero_le _) (Nat.le_of_ble_eq_true rfl) (fun x90 μ90 h90 => ?_)
      obtain ⟨rfl, hμ⟩ := h90
      subst hμ
      refine C.if_eq 103 dX13_qGoesOnTest_93 rfl (fun hc93 => ?_) (fun hc93 => ?_)
      · have h1 := on_f hc93
        simp at h1
        rw [if_neg (by simp [andS, h1])] at hk
        exact push10 _ _ _ _ _ _ hQ (by simp; omega) hk
      · have h1 := on_t hc93
        simp at h1
        rw [if_pos (by simp [andS, h1])] at hk
        refine C.aload_n dX13_qGoesOnTest_96 0 rfl ?_
        refine C.callVV lX13_614 dX13_qGoesOnTest_97 (kq_qDrops hS1 hQ (by omega) (by omega)) hS.o rfl rfl (Nat.le_of_ble_eq_true rfl) (Nat.zero_le _) (Nat.zero_le _) (Nat.le_of_ble_eq_true rfl) (fun μ97 h97 => ?_)
        refine C.goto 87 dX13_qGoesOnTest_100 rfl ?_
        exact ih _ _ h97 (by simp; omega) hk
  have lp11 : ∀ (s2 : Ps) (op : Int32) (bs : Nat) (ws cs : List Int32) (μ1 : Mm), QM μ μ1 (cs, ws, op, bs) s2 → cs.length + ws.length < 1690 → (true, (((qTop orS cs ws).1, nI 11 :: (qTop orS cs ws).2, op, bs), s2)) = K → AW l G X 0 0 137 [(0, .ref (G.1 + 179))] [] μ1 := by
    intro s2 op bs ws
    induction ws with
    | nil =>
      intro cs μ1 hQ hl hk
      have hS : ShM μ1 := hQ.sh hS1
      refine C.aload_n dX13_qGoesOnTest_137 0 rfl ?_
      refine C.bipush (nI 10) dX13_qGoesOnTest_138 (by decide) ?_
      refine C.callVI lX13_641 dX13_qGoesOnTest_140 (kq_qIsOn hS1 hQ (by simp) _) hS.o rfl rfl (Nat.le_of_ble_eq_true rfl) (Nat.zero_le _) (Nat.zero_le _) (Nat.le_of_ble_eq_true rfl) (fun x140 μ140 h140 => ?_)
      obtain ⟨rfl, hμ⟩ := h140
      subst hμ
      refine C.if_ne 155 dX13_qGoesOnTest_143 rfl (fun hc143 => ?_) (fun hc143 => ?_)
      · exact absurd (on_t hc143) (by simp)
      · refine C.aload_n dX13_qGoesOnTest_146 0 rfl ?_
        refine C.bipush (nI 11) dX13_qGoesOnTest_147 (by decide) ?_
        refine C.callVI lX13_641 dX13_qGoesOnTest_149 (kq_qIsOn hS1 hQ (by simp) _) hS.o rfl rfl (Nat.le_of_ble_eq_true rfl) (Nat.zero_le _) (Nat.zero_le _) (Nat.le_of_ble_eq_true rfl) (fun x149 μ149 h149 => ?_)
        obtain ⟨rfl, hμ⟩ := h149
        subst hμ
        refine C.if_eq 162 dX13_qGoesOnTest_152 rfl (fun hc152 => ?_) (fun hc152 => ?_)
        · exact push11 _ _ _ _ _ _ hQ hl hk
        · exact absurd (on_t hc152) (by simp)
    | cons w ws ih =>
      intro cs μ1 hQ hl hk
      have hS : ShM μ1 := hQ.sh hS1
      simp only [List.length_cons] at hl
      unfold qTop at hk
      have m155 : orS w = true → AW l G X 0 0 155 [(0, .ref (G.1 + 179))] [] μ1 := by
        intro hs
        rw [if_pos hs] at hk
        refine C.aload_n dX13_qGoesOnTest_155 0 rfl ?_
        refine C.callVV lX13_614 dX13_qGoesOnTest_156 (kq_qDrops hS1 hQ (by omega) (by omega)) hS.o rfl rfl (Nat.le_of_ble_eq_true rfl) (Nat.zero_le _) (Nat.zero_le _) (Nat.le_of_ble_eq_true rfl) (fun μ156 h156 => ?_)
        refine C.goto 137 dX13_qGoesOnTest_159 rfl ?_
        exact ih _ _ h156 (by simp; omega) hk
      refine C.aload_n dX13_qGoesOnTest_137 0 rfl ?_
      refine C.bipush (nI 10) dX13_qGoesOnTest_138 (by decide) ?_
      refine C.callVI lX13_641 dX13_qGoesOnTest_140 (kq_qIsOn hS1 hQ (by simp; omega) _) hS.o rfl rfl (Nat.le_of_ble_eq_true rfl) (Nat.zero_le _) (Nat.zero_le _) (Nat.le_of_ble_eq_true rfl) (fun x140 μ140 h140 => ?_)
      obtain ⟨rfl, hμ⟩ := h140
      subst hμ
      refine C.if_ne 155 dX13_qGoesOnTest_143 rfl (fun hc143 => ?_) (fun hc143 => ?_)
      · exact m155 (by have := on_t hc143; simp at this; simp [orS, this])
      · refine C.aload_n dX13_qGoesOnTest_146 0 rfl ?_
        refine C.bipush (nI 11) dX13_qGoesOnTest_147 (by decide) ?_
        refine C.callVI lX13_641 dX13_qGoesOnTest_149 (kq_qIsOn hS1 hQ (by simp; omega) _) hS.o rfl rfl (Nat.le_of_ble_eq_true rfl) (Nat.zero_le _) (Nat.zero_le _) (Nat.le_of_ble_eq_true rfl) (fun x149 μ149 h149 => ?_)
        obtain ⟨rfl, hμ⟩ := h149
        subst hμ
        refine C.if_eq 162 dX13_qGoesOnTest_152 rfl (fun hc152 => ?_) (fun hc152 => ?_)
        · have hs : ¬ orS w = true := by have h1 := on_f hc143; have h2 := on_f hc152; simp at h1 h2; simp [orS, h1, h2]
          rw [if_neg hs] at hk
          exact push11 _ _ _ _ _ _ hQ (by simp; omega) hk
        · exact m155 (by have := on_t hc152; simp at this; simp [orS, this])
  have m126 : ∀ (t : Tt) (μ1 : Mm), QM μ μ1 t.1 t.2 → t.2.2.2.1 = 0 → t.2.1 ≤ e → tln t < 1690 → gOr tx e t = K → AW l G X 0 0 126 [(0, .ref (G.1 + 179))] [] μ1 := by
    intro t μ1 hQ hz hp hl hk
    have hS : ShM μ1 := hQ.sh hS1
    have mb := mTakes_bad (tx := tx) (e := e) t.2 wOr
    unfold gOr at hk
    obtain ⟨⟨cs, ws, op, bs⟩, s⟩ := t
    dsimp only [tln] at hQ hz hp hl hk mb
    refine C.aload_n dX13_qGoesOnTest_126 0 rfl ?_
    refine C.aload_n dX13_qGoesOnTest_127 0 rfl ?_
    refine C.getA fX13_207 dX13_qGoesOnTest_128 hS.o hS.r87 ?_
    refine C.callVI lX13_291 dX13_qGoesOnTest_131 (kq_takes hS1 hW hT hQ hp (List.mem_of_getElem? (l := wdT) (i := 41) rfl)) hS.o rfl rfl (Nat.le_of_ble_eq_true rfl) (Nat.zero_le _) (Nat.zero_le _) (Nat.le_of_ble_eq_true rfl) (fun x131 μ131 h131 => ?_)
    obtain ⟨rfl, hQ2⟩ := h131
    have hS : ShM μ131 := hQ2.sh hS1
    refine C.if_eq 185 dX13_qGoesOnTest_134 rfl (fun hc134 => ?_) (fun hc134 => ?_)
    · rw [if_neg (b_f hc134)] at hk
      refine C.aload_n dX13_qGoesOnTest_185 0 rfl ?_
      refine C.getI fX13_264 dX13_qGoesOnTest_186 hS.o ?_
      rw [hQ2.2.1.2.2.1]
      refine C.if_ne 208 dX13_qGoesOnTest_189 rfl (fun hc189 => ?_) (fun hc189 => ?_)
      · exact absurd (by rw [mb]; exact hz) hc189
      · refine C.aload_n dX13_qGoesOnTest_192 0 rfl ?_
        refine C.callVI lX13_659 dX13_qGoesOnTest_193 (kq_qHasSquare hS1 hQ2 (by dsimp only; omega)) hS.o rfl rfl (Nat.le_of_ble_eq_true rfl) (Nat.zero_le _) (Nat.zero_le _) (Nat.le_of_ble_eq_true rfl) (fun x193 μ193 h193 => ?_)
        obtain ⟨rfl, hμ⟩ := h193
        subst hμ
        refine C.if_eq 208 dX13_qGoesOnTest_196 rfl (fun hc196 => ?_) (fun hc196 => ?_)
        · rw [if_neg (on_f hc196)] at hk
          refine C.iconst (nI 0) dX13_qGoesOnTest_208 (by decide) ?_
          refine C.zret hq dX13_qGoesOnTest_209 (by decide) ?_
          rw [← hk]
          first | exact ⟨rfl, hQ2⟩ | exact ⟨rfl, h205⟩
        · rw [if_pos (on_t hc196)] at hk
          refine C.aload_n dX13_qGoesOnTest_199 0 rfl ?_
          refine C.iconst (nI 1) dX13_qGoesOnTest_200 (by decide) ?_
          refine C.aload_n dX13_qGoesOnTest_201 0 rfl ?_
          refine C.getI fX13_270 dX13_qGoesOnTest_202 hS.o ?_
          rw [hQ2.2.1.1]
          refine C.callVV lX13_294 dX13_qGoesOnTest_205 (kq_fail hS1 hQ2 _ _) hS.o rfl rfl (Nat.le_of_ble_eq_true rfl) (Nat.zero_le _) (Nat.zero_le _) (Nat.le_of_ble_eq_true rfl) (fun μ205 h205 => ?_)
          refine C.iconst (nI 0) dX13_qGoesOnTest_208 (by decide) ?_
          refine C.zret hq dX13_qGoesOnTest_209 (by decide) ?_
          rw [← hk]
          first | exact ⟨rfl, hQ2⟩ | exact ⟨rfl, h205⟩
    · rw [if_pos (b_t hc134)] at hk
      exact lp11 _ _ _ _ _ _ hQ2 hl hk
  have m76 : ∀ (t : Tt) (μ1 : Mm), QM μ μ1 t.1 t.2 → t.2.2.2.1 = 0 → t.2.1 ≤ e → tln t < 1690 → gAnd tx e t = K → AW l G X 0 0 76 [(0, .ref (G.1 + 179))] [] μ1 := by
    intro t μ1 hQ hz hp hl hk
    have hS : ShM μ1 := hQ.sh hS1
    have mb := mTakes_bad (tx := tx) (e := e) t.2 wAnd
    unfold gAnd at hk
    obtain ⟨⟨cs, ws, op, bs⟩, s⟩ := t
    dsimp only [tln] at hQ hz hp hl hk mb
    refine C.aload_n dX13_qGoesOnTest_76 0 rfl ?_
    refine C.aload_n dX13_qGoesOnTest_77 0 rfl ?_
    refine C.getA fX13_204 dX13_qGoesOnTest_78 hS.o hS.r86 ?_
    refine C.callVI lX13_291 dX13_qGoesOnTest_81 (kq_takes hS1 hW hT hQ hp (List.mem_of_getElem? (l := wdT) (i := 40) rfl)) hS.o rfl rfl (Nat.le_of_ble_eq_true rfl) (Nat.zero_le _) (Nat.zero_le _) (Nat.le_of_ble_eq_true rfl) (fun x81 μ81 h81 => ?_)
    obtain ⟨rfl, hQ2⟩ := h81
    have hS : ShM μ81 := hQ2.sh hS1
    refine C.if_eq 126 dX13_qGoesOnTest_84 rfl (fun hc84 => ?_) (fun hc84 => ?_)
    · rw [if_neg (b_f hc84)] at hk
      exact m126 ((cs, ws, op, bs), (mTakes tx e s wAnd).2) _ hQ2 (by rw [mb]; exact hz) (mTakes_le _ hp) hl hk
    · rw [if_pos (b_t hc84)] at hk
      exact lp10 _ _ _ _ _ _ hQ2 hl hk
  have loop : ∀ (n : Nat) (t : Tt) (μ1 : Mm), QM μ μ1 t.1 t.2 → t.2.2.2.1 = 0 → t.2.1 ≤ e → tln t < 1680 → e - t.2.1 < n → gAnd tx e (gCT tx e n t) = K → AW l G X 0 0 0 [(0, .ref (G.1 + 179))] [] μ1 := by
    intro n
    induction n with
    | zero => intro t μ1 _ _ _ _ h; omega
    | succ n ih =>
      intro t μ1 hQ hz hp hl hn hk
      have hS : ShM μ1 := hQ.sh hS1
      have h1 := sk_le (tx := tx) hp
      unfold gCT at hk
      obtain ⟨⟨cs, ws, op, bs⟩, s⟩ := t
      dsimp only [tln] at hQ hz hp hl hk hn h1
      have o76 : ∀ μ1, QM μ μ1 (cs, ws, op, bs) (mLook tx e s) → ¬ (chr tx e (sk tx e s.1) = nI 93 ∧ nI 25 ∈ ws) → AW l G X 0 0 76 [(0, .ref (G.1 + 179))] [] μ1 := by
        intro μ1 hQ hc
        rw [if_neg hc] at hk
        exact m76 ((cs, ws, op, bs), mLook tx e s) μ1 hQ hz h1.2 (by dsimp only [tln]; omega) hk
      have m33 : ∀ (ws2 cs2 : List Int32) (μ1 : Mm), QM μ μ1 (cs2, ws2, op, bs) (sk tx e s.1 + 1, s.2) → nI 25 ∈ ws2 → cs2.length + ws2.length < 1680 → sk tx e s.1 < e → gAnd tx e (gCT tx e n (qNot (((qTop sqS cs2 ws2).1, (qTop sqS cs2 ws2).2.tail, op - nI 1, bs), (sk tx e s.1 + 1, s.2)))) = K → AW l G X 0 0 33 [(0, .ref (G.1 + 179))] [] μ1 := by
        intro ws2
        induction ws2 with
        | nil => intro cs2 μ1 _ h; cases h
        | cons w ws2 ih2 =>
          intro cs2 μ1 hQ hm hl hlt hk
          have hS : ShM μ1 := hQ.sh hS1
          have hw : mI μ1 179 104 = nI (ws2.length + 1) := hQ.2.2.1.2.1
          have ho : mI μ1 179 105 = op := hQ.2.2.1.2.2.1
          have hQ5 := hQ.pop.op (op - nI 1)
          simp only [List.length_cons] at hl
          unfold qTop at hk
          refine C.aload_n dX13_qGoesOnTest_33 0 rfl ?_
          refine C.bipush (nI 25) dX13_qGoesOnTest_34 (by decide) ?_
          refine C.callVI lX13_641 dX13_qGoesOnTest_36 (kq_qIsOn hS1 hQ (by simp; omega) _) hS.o rfl rfl (Nat.le_of_ble_eq_true rfl) (Nat.zero_le _) (Nat.zero_le _) (Nat.le_of_ble_eq_true rfl) (fun x36 μ36 h36 => ?_)
          obtain ⟨rfl, hμ⟩ := h36
          subst hμ
          refine C.if_ne 49 dX13_qGoesOnTest_39 rfl (fun hc39 => ?_) (fun hc39 => ?_)
          · have h1 := on_t hc39
            simp at h1
            rw [if_neg (by simp [sqS, h1])] at hk
            simp only [List.tail_cons] at hk
            obtain ⟨q1, q2, q3⟩ := qNot_2 ((cs2, ws2, op - nI 1, bs), (sk tx e s.1 + 1, s.2))
            dsimp only [tln] at q1 q2 q3
            refine C.aload_n dX13_qGoesOnTest_49 0 rfl ?_
            refine C.dup dX13_qGoesOnTest_50 rfl ?_
            refine C.getI fX13_358 dX13_qGoesOnTest_51 hS.o ?_
            rw [hw]
            refine C.iconst (nI 1) dX13_qGoesOnTest_54 (by decide) ?_
            refine C.isub dX13_qGoesOnTest_55 ?_
            rw [pk_sub (by omega), Nat.add_sub_cancel]
            refine C.putI fX13_358 (Or.inl rfl) dX13_qGoesOnTest_56 hS.o ?_
            refine C.aload_n dX13_qGoesOnTest_59 0 rfl ?_
            refine C.dup dX13_qGoesOnTest_60 rfl ?_
            refine C.getI fX13_361 dX13_qGoesOnTest_61 hS.o ?_
            rw [show mI (sI μ36 179 104 (nI ws2.length)) 179 105 = op from ho]
            refine C.iconst (nI 1) dX13_qGoesOnTest_64 (by decide) ?_
            refine C.isub dX13_qGoesOnTest_65 ?_
            refine C.putI fX13_361 (Or.inl rfl) dX13_qGoesOnTest_66 hS.o ?_
            refine C.aload_n dX13_qGoesOnTest_69 0 rfl ?_
            refine C.callVV lX13_653 dX13_qGoesOnTest_70 (kq_nots (t := ((cs2, ws2, op - nI 1, bs), (sk tx e s.1 + 1, s.2))) hS1 hQ5 (by dsimp only [tln]; omega)) hS.o rfl rfl (Nat.le_of_ble_eq_true rfl) (Nat.zero_le _) (Nat.zero_le _) (Nat.le_of_ble_eq_true rfl) (fun μ70 h70 => ?_)
            refine C.goto 0 dX13_qGoesOnTest_73 rfl ?_
            exact ih _ _ h70 (by rw [q1]; exact hz) (by rw [q1]; exact hlt) (by dsimp only [tln] at q3 ⊢; omega) (by rw [q1]; dsimp only; omega) hk
          · have h1 := on_f hc39
            simp at h1
            rw [if_pos (by simp [sqS, h1])] at hk
            refine C.aload_n dX13_qGoesOnTest_42 0 rfl ?_
            refine C.callVV lX13_614 dX13_qGoesOnTest_43 (kq_qDrops hS1 hQ (by omega) (by omega)) hS.o rfl rfl (Nat.le_of_ble_eq_true rfl) (Nat.zero_le _) (Nat.zero_le _) (Nat.le_of_ble_eq_true rfl) (fun μ43 h43 => ?_)
            refine C.goto 33 dX13_qGoesOnTest_46 rfl ?_
            exact ih2 _ _ h43 ((List.mem_cons.mp hm).resolve_left (fun q => h1 q.symm)) (by simp; omega) hlt hk
      refine C.aload_n dX13_qGoesOnTest_0 0 rfl ?_
      refine C.getI fX13_264 dX13_qGoesOnTest_1 hS.o ?_
      rw [hQ.2.1.2.2.1]
      refine C.if_ne 76 dX13_qGoesOnTest_4 rfl (fun hc4 => ?_) (fun hc4 => ?_)
      · exact absurd hz hc4
      · refine C.aload_n dX13_qGoesOnTest_7 0 rfl ?_
        refine C.callVI lX13_276 dX13_qGoesOnTest_8 (kq_look hS1 hT hQ hp) hS.o rfl rfl (Nat.le_of_ble_eq_true rfl) (Nat.zero_le _) (Nat.zero_le _) (Nat.le_of_ble_eq_true rfl) (fun x8 μ8 h8 => ?_)
        obtain ⟨rfl, hQ2⟩ := h8
        have hS : ShM μ8 := hQ2.sh hS1
        have hat : mI μ8 179 2 = nI (sk tx e s.1) := hQ2.2.1.1
        refine C.bipush (nI 93) dX13_qGoesOnTest_11 (by decide) ?_
        refine C.icmp_ne 76 dX13_qGoesOnTest_13 rfl (fun hc13 => ?_) (fun hc13 => ?_)
        · exact o76 _ hQ2 (fun h => hc13 h.1)
        · refine C.aload_n dX13_qGoesOnTest_16 0 rfl ?_
          refine C.callVI lX13_659 dX13_qGoesOnTest_17 (kq_qHasSquare hS1 hQ2 (by dsimp only; omega)) hS.o rfl rfl (Nat.le_of_ble_eq_true rfl) (Nat.zero_le _) (Nat.zero_le _) (Nat.le_of_ble_eq_true rfl) (fun x17 μ17 h17 => ?_)
          obtain ⟨rfl, hμ⟩ := h17
          subst hμ
          refine C.if_eq 76 dX13_qGoesOnTest_20 rfl (fun hc20 => ?_) (fun hc20 => ?_)
          · exact o76 _ hQ2 (fun h => on_f hc20 h.2)
          · have hm := on_t hc20
            rw [if_pos ⟨hc13, hm⟩] at hk
            refine C.aload_n dX13_qGoesOnTest_23 0 rfl ?_
            refine C.dup dX13_qGoesOnTest_24 rfl ?_
            refine C.getI fX13_270 dX13_qGoesOnTest_25 hS.o ?_
            rw [hat]
            refine C.iconst (nI 1) dX13_qGoesOnTest_28 (by decide) ?_
            refine C.iadd dX13_qGoesOnTest_29 ?_
            rw [nI_add]
            refine C.putI fX13_270 (Or.inl rfl) dX13_qGoesOnTest_30 hS.o ?_
            exact m33 _ _ _ (hQ2.at _) hm hl (chr_lt hc13 (by decide)) hk
  exact loop (e + 1 - t.2.1) t μ1 hQ hz hp hl (by omega) hK
theorem kq_test {t : Tt} (hS : ShM μ) (hW : WdM μ) (hT : TxM μ tx e) {tk : Int32} (htk : mI μ 179 58 = tk) (hQ : QM μ μ1 t.1 t.2) (hI : IV e k t) : AMet l G 8 0 0 mtX13_qTest [.ref (G.1 + 179)] μ1 (qV (fun μ' => QM μ μ' (tTest tx e tk t).1 (tTest tx e tk t).2)) := by
  refine AMet.of (by decide) (Nat.le_of_ble_eq_true rfl) (fun X C hX hnm hq => ?_)
  have hS1 := hS
  have he := hT.2.1
  generalize hK : tTest tx e tk t = K at hq
  unfold tTest at hK
  dsimp only at hK
  have all : ∀ (ws cs : List Int32) (op : Int32) (bs : Nat) (s : Ps) (μ1 : Mm), QM μ μ1 (cs, ws, op, bs) s → cs.length + ws.length < 1690 → (if s.2.2.1 = 0 then (((qAllD cs ws 0).1, (qAllD cs ws 0).2, op, bs), s) else ((cs, ws, op, bs), s)) = K → AW l G X 0 0 110 [(0, .ref (G.1 + 179))] [] μ1 := by
    intro ws
    induction ws with
    | nil =>
      intro cs op bs s μ1 hQ hl hk
      have hS : ShM μ1 := hQ.sh hS1
      have hw : mI μ1 179 104 = nI 0 := hQ.2.2.1.2.1
      have hk2 : ((cs, [], op, bs), s) = K := by rw [← hk]; unfold qAllD; split <;> rfl
      refine C.aload_n dX13_qTest_110 0 rfl ?_
      refine C.getI fX13_264 dX13_qTest_111 hS.o ?_
      refine C.if_ne 131 dX13_qTest_114 rfl (fun hc114 => ?_) (fun hc114 => ?_)
      · refine C.vret hq dX13_qTest_131 ?_
        rw [← hk2]
        exact hQ
      · refine C.aload_n dX13_qTest_117 0 rfl ?_
        refine C.getI fX13_358 dX13_qTest_118 hS.o ?_
        rw [hw]
        refine C.if_le 131 dX13_qTest_121 rfl (fun hc121 => ?_) (fun hc121 => ?_)
        · refine C.vret hq dX13_qTest_131 ?_
          rw [← hk2]
          exact hQ
        · exact absurd (by decide) hc121
    | cons w ws ih =>
      intro cs op bs s μ1 hQ hl hk
      have hS : ShM μ1 := hQ.sh hS1
      have hw : mI μ1 179 104 = nI (ws.length + 1) := hQ.2.2.1.2.1
      have hbd := hQ.2.1.2.2.1
      simp only [List.length_cons] at hl
      refine C.aload_n dX13_qTest_110 0 rfl ?_
      refine C.getI fX13_264 dX13_qTest_111 hS.o ?_
      rw [hbd]
      refine C.if_ne 131 dX13_qTest_114 rfl (fun hc114 => ?_) (fun hc114 => ?_)
      · rw [if_neg hc114] at hk
        refine C.vret hq dX13_qTest_131 ?_
        rw [← hk]
        exact hQ
      · rw [if_pos hc114] at hk
        unfold qAllD at hk
        rw [if_pos (Nat.zero_le _)] at hk
        refine C.aload_n dX13_qTest_117 0 rfl ?_
        refine C.getI fX13_358 dX13_qTest_118 hS.o ?_
        rw [hw]
        refine C.if_le 131 dX13_qTest_121 rfl (fun hc121 => ?_) (fun hc121 => ?_)
        · have := n_le (a := ws.length + 1) (b := 0) hc121; omega
        · refine C.aload_n dX13_qTest_124 0 rfl ?_
          refine C.callVV lX13_614 dX13_qTest_125 (kq_qDrops hS1 hQ (by omega) (by omega)) hS.o rfl rfl (Nat.le_of_ble_eq_true rfl) (Nat.zero_le _) (Nat.zero_le _) (Nat.le_of_ble_eq_true rfl) (fun μ125 h125 => ?_)
          refine C.goto 110 dX13_qTest_128 rfl ?_
          exact ih _ _ _ _ _ h125 (by simp; omega) (by rw [if_pos hc114]; exact hk)
  have fin : ∀ (t : Tt) (μ1 : Mm), IW e k t → QM μ μ1 t.1 t.2 → (if t.2.2.2.1 = 0 then (((qAllD t.1.1 t.1.2.1 0).1, (qAllD t.1.1 t.1.2.1 0).2, t.1.2.2), t.2) else t) = K → AW l G X 0 0 110 [(0, .ref (G.1 + 179))] [] μ1 := by
    intro t μ1 hI hQ hk
    obtain ⟨⟨cs, ws, op, bs⟩, s⟩ := t
    exact all _ _ _ _ _ _ hQ (by have := hI.2.2.1; dsimp only [tln] at this; omega) hk
  have loop : ∀ (n : Nat) (t : Tt) (μ1 : Mm), IW e k t → QM μ μ1 t.1 t.2 → e + 1 - t.2.1 < n → (if (tLoop tx e tk n t).2.2.2.1 = 0 then (((qAllD (tLoop tx e tk n t).1.1 (tLoop tx e tk n t).1.2.1 0).1, (qAllD (tLoop tx e tk n t).1.1 (tLoop tx e tk n t).1.2.1 0).2, (tLoop tx e tk n t).1.2.2), (tLoop tx e tk n t).2) else tLoop tx e tk n t) = K → AW l G X 0 0 2 [(0, .ref (G.1 + 179)), (1, .int (nI 1))] [] μ1 := by
    intro n
    induction n with
    | zero => intro t μ1 _ _ h; omega
    | succ n ih =>
      intro t μ1 hI hQ hn hk
      have hS : ShM μ1 := hQ.sh hS1
      have hbd := hQ.2.1.2.2.1
      have h1 := sk_le (tx := tx) hI.1
      by_cases hz : t.2.2.2.1 = 0
      · obtain ⟨l1, l2, l3, l4⟩ := mLook_iv (tx := tx) (hI.v hz)
        have hl := hI.2.2.2 hz
        have hss := sk_sk (tx := tx) hI.1
        have ol25 := opn_len (nI 25) (nI (sk tx e t.2.1)) (t.1, mLook tx e t.2)
        have o125 := opn_1 (nI 25) (nI (sk tx e t.2.1)) (t.1, mLook tx e t.2)
        have ol12 := opn_len (nI 12) (nI (sk tx e t.2.1)) (t.1, mLook tx e t.2)
        have o112 := opn_1 (nI 12) (nI (sk tx e t.2.1)) (t.1, mLook tx e t.2)
        dsimp only at ol25 o125 ol12 o112 l2 l4
        -- the three roads
        have nxt : ∀ (u : Tt) (μ2 : Mm), tLoop tx e tk (n + 1) t = tLoop tx e tk n u → IW e k u → QM μ μ2 u.1 u.2 → (u.2.2.2.1 = 0 → t.2.1 + 1 ≤ u.2.1) → AW l G X 0 0 2 [(0, .ref (G.1 + 179)), (1, .int (nI 1))] [] μ2 := by
          intro u μ2 hu hI2 hQ2 ha
          rw [hu] at hk
          by_cases hb : u.2.2.2.1 = 0
          · exact ih u μ2 hI2 hQ2 (by have := ha hb; have := hI.1; omega) hk
          · have hst : ∀ n, tLoop tx e tk n u = u := fun n => by cases n; rfl; unfold tLoop; rw [if_neg hb]
            rw [hst, if_neg hb] at hk
            have hS : ShM μ2 := hQ2.sh hS1
            refine C.iload_n dX13_qTest_2 1 rfl ?_
            refine C.if_eq 110 dX13_qTest_3 rfl (fun hc3 => ?_) (fun hc3 => ?_)
            · exact absurd hc3 (by decide)
            · refine C.aload_n dX13_qTest_6 0 rfl ?_
              refine C.getI fX13_264 dX13_qTest_7 hS.o ?_
              rw [hQ2.2.1.2.2.1]
              refine C.if_ne 110 dX13_qTest_10 rfl (fun hc10 => ?_) (fun hc10 => ?_)
              · exact AW.pick [0] rfl (fin u μ2 hI2 hQ2 (by rw [if_neg hb]; exact hk))
              · exact absurd hc10 hb
        have lst : ∀ (u : Tt) (x2 : Int32) (μ2 : Mm), tLoop tx e tk (n + 1) t = u → IW e k u → QM μ μ2 u.1 u.2 → AW l G X 0 0 105 [(0, .ref (G.1 + 179)), (1, .int (nI 1)), (2, .int x2)] [] μ2 := by
          intro u x2 μ2 hu hI2 hQ2
          rw [hu] at hk
          have hS : ShM μ2 := hQ2.sh hS1
          refine C.iconst (nI 0) dX13_qTest_105 (by decide) ?_
          refine C.istore_n (lv' := [(0, _), (1, _), (2, _)]) dX13_qTest_106 (nLt hX rfl) rfl ?_
          refine C.goto 2 dX13_qTest_107 rfl ?_
          refine C.iload_n dX13_qTest_2 1 rfl ?_
          refine C.if_eq 110 dX13_qTest_3 rfl (fun hc3 => ?_) (fun hc3 => ?_)
          · exact AW.pick [0] rfl (fin u μ2 hI2 hQ2 hk)
          · exact absurd rfl hc3
        have hat : ∀ μ2, QM μ μ2 t.1 (mLook tx e t.2) → mI μ2 179 2 = nI (sk tx e t.2.1) := fun μ2 h => h.2.1.1
        refine C.iload_n dX13_qTest_2 1 rfl ?_
        refine C.if_eq 110 dX13_qTest_3 rfl (fun hc3 => ?_) (fun hc3 => ?_)
        · exact absurd hc3 (by decide)
        · refine C.aload_n dX13_qTest_6 0 rfl ?_
          refine C.getI fX13_264 dX13_qTest_7 hS.o ?_
          rw [hbd]
          refine C.if_ne 110 dX13_qTest_10 rfl (fun hc10 => ?_) (fun hc10 => ?_)
          · exact absurd hz hc10
          · refine C.aload_n dX13_qTest_13 0 rfl ?_
            refine C.callVI lX13_276 dX13_qTest_14 (kq_look hS1 hT hQ hI.1) hS.o rfl rfl (Nat.le_of_ble_eq_true rfl) (Nat.zero_le _) (Nat.zero_le _) (Nat.le_of_ble_eq_true rfl) (fun x14 μ14 h14 => ?_)
            obtain ⟨rfl, hQ1⟩ := h14
            have hS : ShM μ14 := hQ1.sh hS1
            refine C.istore_n (lv' := [(0, _), (1, _), (2, _)]) dX13_qTest_17 (nLt hX rfl) rfl ?_
            refine C.iload_n dX13_qTest_18 2 rfl ?_
            refine C.bipush (nI 91) dX13_qTest_19 (by decide) ?_
            refine C.icmp_ne 47 dX13_qTest_21 rfl (fun hc21 => ?_) (fun hc21 => ?_)
            · refine C.aload_n dX13_qTest_47 0 rfl ?_
              refine C.aload_n dX13_qTest_48 0 rfl ?_
              refine C.getA fX13_201 dX13_qTest_49 hS.o hS.r85 ?_
              refine C.callVI lX13_287 dX13_qTest_52 (kq_here0 hS1 hW hT hQ1 l2 hz hss (List.mem_of_getElem? (l := wdT) (i := 39) rfl)) hS.o rfl rfl (Nat.le_of_ble_eq_true rfl) (Nat.zero_le _) (Nat.zero_le _) (Nat.le_of_ble_eq_true rfl) (fun x52 μ52 h52 => ?_)
              obtain ⟨rfl, hμ⟩ := h52
              subst hμ
              refine C.if_eq 79 dX13_qTest_55 rfl (fun hc55 => ?_) (fun hc55 => ?_)
              · have hh : ¬ hereW tx e (sk tx e t.2.1) t.2.2.1 wNot = true := b_f hc55
                obtain ⟨a1, ⟨a2, a3, a4⟩, a5, a6⟩ := tTry_iv (tx := tx) (tk := tk) (t := (t.1, mLook tx e t.2)) he hz l1
                obtain ⟨f1, ⟨f2, f3, f4⟩, f5⟩ := fFact_iv (tx := tx) (tk := tk) (t := (t.1, mLook tx e t.2)) he hz l1
                have f6 := qNot_iw f1
                have hu : tLoop tx e tk (n + 1) t = if (tTry tx e tk (t.1, mLook tx e t.2)).1 then tLoop tx e tk n (tTry tx e tk (t.1, mLook tx e t.2)).2 else (tTry tx e tk (t.1, mLook tx e t.2)).2 := by
                  rw [tLoop, if_pos hz, if_neg hc21, if_neg hh]
                have htt : tTry tx e tk (t.1, mLook tx e t.2) = if (qNot (fFact tx e tk (t.1, mLook tx e t.2))).2.2.2.1 = 0 then gOnT tx e (qNot (fFact tx e tk (t.1, mLook tx e t.2))) else (false, qNot (fFact tx e tk (t.1, mLook tx e t.2))) := rfl
                refine C.aload_n dX13_qTest_79 0 rfl ?_
                refine C.callVV lX13_650 dX13_qTest_80 (kq_fact (t := (t.1, mLook tx e t.2)) hS1 hW hT htk hQ1 hz l1) hS.o rfl rfl (Nat.le_of_ble_eq_true rfl) (Nat.zero_le _) (Nat.zero_le _) (Nat.le_of_ble_eq_true rfl) (fun μ80 h80 => ?_)
                have hS : ShM μ80 := h80.sh hS1
                refine C.aload_n dX13_qTest_83 0 rfl ?_
                refine C.callVV lX13_653 dX13_qTest_84 (kq_nots hS1 h80 (by have := f1.2.2.1; omega)) hS.o rfl rfl (Nat.le_of_ble_eq_true rfl) (Nat.zero_le _) (Nat.zero_le _) (Nat.le_of_ble_eq_true rfl) (fun μ84 h84 => ?_)
                have hS : ShM μ84 := h84.sh hS1
                generalize qNot (fFact tx e tk (t.1, mLook tx e t.2)) = v at f6 htt h84
                generalize tTry tx e tk (t.1, mLook tx e t.2) = w at a1 a2 a3 a4 a5 a6 hu htt
                refine C.aload_n dX13_qTest_87 0 rfl ?_
                refine C.getI fX13_264 dX13_qTest_88 hS.o ?_
                rw [h84.2.1.2.2.1]
                refine C.if_ne 105 dX13_qTest_91 rfl (fun hc91 => ?_) (fun hc91 => ?_)
                · rw [if_neg hc91] at htt
                  subst htt
                  exact lst _ _ _ hu f6 h84
                · rw [if_pos hc91] at htt
                  refine C.aload_n dX13_qTest_94 0 rfl ?_
                  refine C.callVI lX13_656 dX13_qTest_95 (kq_onT hS1 hW hT h84 hc91 f6.1 (by have := f6.2.2.1; omega)) hS.o rfl rfl (Nat.le_of_ble_eq_true rfl) (Nat.zero_le _) (Nat.zero_le _) (Nat.le_of_ble_eq_true rfl) (fun x95 μ95 h95 => ?_)
                  obtain ⟨rfl, hQ5⟩ := h95
                  rw [← htt] at hQ5 ⊢
                  have hS : ShM μ95 := hQ5.sh hS1
                  refine C.if_eq 105 dX13_qTest_98 rfl (fun hc98 => ?_) (fun hc98 => ?_)
                  · rw [if_neg (b_f hc98)] at hu
                    exact lst _ _ _ hu a1 hQ5
                  · have hb := b_t hc98
                    rw [if_pos hb] at hu
                    refine C.iconst (nI 1) dX13_qTest_101 (by decide) ?_
                    refine C.goto 106 dX13_qTest_102 rfl ?_
                    refine C.istore_n (lv' := [(0, _), (1, _), (2, _)]) dX13_qTest_106 (nLt hX rfl) rfl ?_
                    refine C.goto 2 dX13_qTest_107 rfl ?_
                    first | exact AW.pick [0, 1] rfl (nxt _ _ hu a1 hQ5 (fun h => by have := a6 h; dsimp only at this; omega)) | exact AW.pick [0, 1] rfl (nxt _ _ hu ⟨by dsimp only; omega, by dsimp only; rw [ol25.2]; exact hI.2.1, by dsimp only [tln] at hl ⊢; omega, fun _ => by dsimp only [tln] at hl ⊢; omega⟩ (h31.at (sk tx e t.2.1 + 1)) (fun _ => by dsimp only; omega)) | exact AW.pick [0, 1] rfl (nxt _ _ hu ⟨mAsks_le _ (by rw [o112]; exact l2), by dsimp only; rw [ol12.2]; exact hI.2.1, by dsimp only [tln] at hl ⊢; omega, fun h => by have := mAsks_adv _ wNot (by rw [o112]; exact l2) (by decide) h; rw [o112] at this; dsimp only [tln] at hl this ⊢; omega⟩ h73 (fun h => by have := mAsks_adv _ wNot (by rw [o112]; exact l2) (by decide) h; rw [o112] at this; dsimp only at this ⊢; omega))
              · have hh : hereW tx e (sk tx e t.2.1) t.2.2.1 wNot = true := b_t hc55
                have hu : tLoop tx e tk (n + 1) t = tLoop tx e tk n ((opn (nI 12) (nI (sk tx e t.2.1)) (t.1, mLook tx e t.2)).1, mAsks tx e (opn (nI 12) (nI (sk tx e t.2.1)) (t.1, mLook tx e t.2)).2 wNot) := by
                  rw [tLoop, if_pos hz, if_neg hc21, if_pos hh]
                refine C.aload_n dX13_qTest_58 0 rfl ?_
                refine C.bipush (nI 12) dX13_qTest_59 (by decide) ?_
                refine C.aload_n dX13_qTest_61 0 rfl ?_
                refine C.getI fX13_270 dX13_qTest_62 hS.o ?_
                rw [hat _ hQ1]
                refine C.callVV lX13_626 dX13_qTest_65 (kq_opens hS1 hQ1 (by have := hI.2.2.1; dsimp only [tln] at this; omega) _ _) hS.o rfl rfl (Nat.le_of_ble_eq_true rfl) (Nat.zero_le _) (Nat.zero_le _) (Nat.le_of_ble_eq_true rfl) (fun μ65 h65 => ?_)
                have hS : ShM μ65 := h65.sh hS1
                refine C.aload_n dX13_qTest_68 0 rfl ?_
                refine C.aload_n dX13_qTest_69 0 rfl ?_
                refine C.getA fX13_201 dX13_qTest_70 hS.o hS.r85 ?_
                refine C.callVV lX13_337 dX13_qTest_73 (kq_asks hS1 hW hT h65 (by rw [o112]; exact l2) (List.mem_of_getElem? (l := wdT) (i := 39) rfl)) hS.o rfl rfl (Nat.le_of_ble_eq_true rfl) (Nat.zero_le _) (Nat.zero_le _) (Nat.le_of_ble_eq_true rfl) (fun μ73 h73 => ?_)
                refine C.goto 2 dX13_qTest_76 rfl ?_
                first | exact AW.pick [0, 1] rfl (nxt _ _ hu a1 hQ5 (fun h => by have := a6 h; dsimp only at this; omega)) | exact AW.pick [0, 1] rfl (nxt _ _ hu ⟨by dsimp only; omega, by dsimp only; rw [ol25.2]; exact hI.2.1, by dsimp only [tln] at hl ⊢; omega, fun _ => by dsimp only [tln] at hl ⊢; omega⟩ (h31.at (sk tx e t.2.1 + 1)) (fun _ => by dsimp only; omega)) | exact AW.pick [0, 1] rfl (nxt _ _ hu ⟨mAsks_le _ (by rw [o112]; exact l2), by dsimp only; rw [ol12.2]; exact hI.2.1, by dsimp only [tln] at hl ⊢; omega, fun h => by have := mAsks_adv _ wNot (by rw [o112]; exact l2) (by decide) h; rw [o112] at this; dsimp only [tln] at hl this ⊢; omega⟩ h73 (fun h => by have := mAsks_adv _ wNot (by rw [o112]; exact l2) (by decide) h; rw [o112] at this; dsimp only at this ⊢; omega))
            · have hlt := chr_lt hc21 (by decide)
              have hu : tLoop tx e tk (n + 1) t = tLoop tx e tk n ((opn (nI 25) (nI (sk tx e t.2.1)) (t.1, mLook tx e t.2)).1, (sk tx e t.2.1 + 1, (opn (nI 25) (nI (sk tx e t.2.1)) (t.1, mLook tx e t.2)).2.2)) := by
                rw [tLoop, if_pos hz, if_pos hc21]
              refine C.aload_n dX13_qTest_24 0 rfl ?_
              refine C.bipush (nI 25) dX13_qTest_25 (by decide) ?_
              refine C.aload_n dX13_qTest_27 0 rfl ?_
              refine C.getI fX13_270 dX13_qTest_28 hS.o ?_
              rw [hat _ hQ1]
              refine C.callVV lX13_626 dX13_qTest_31 (kq_opens hS1 hQ1 (by have := hI.2.2.1; dsimp only [tln] at this; omega) _ _) hS.o rfl rfl (Nat.le_of_ble_eq_true rfl) (Nat.zero_le _) (Nat.zero_le _) (Nat.le_of_ble_eq_true rfl) (fun μ31 h31 => ?_)
              have hS : ShM μ31 := h31.sh hS1
              refine C.aload_n dX13_qTest_34 0 rfl ?_
              refine C.dup dX13_qTest_35 rfl ?_
              refine C.getI fX13_270 dX13_qTest_36 hS.o ?_
              rw [h31.2.1.1, o125]
              refine C.iconst (nI 1) dX13_qTest_39 (by decide) ?_
              refine C.iadd dX13_qTest_40 ?_
              rw [show (mLook tx e t.2).1 = sk tx e t.2.1 from rfl, nI_add]
              refine C.putI fX13_270 (Or.inl rfl) dX13_qTest_41 hS.o ?_
              refine C.goto 2 dX13_qTest_44 rfl ?_
              first | exact AW.pick [0, 1] rfl (nxt _ _ hu a1 hQ5 (fun h => by have := a6 h; dsimp only at this; omega)) | exact AW.pick [0, 1] rfl (nxt _ _ hu ⟨by dsimp only; omega, by dsimp only; rw [ol25.2]; exact hI.2.1, by dsimp only [tln] at hl ⊢; omega, fun _ => by dsimp only [tln] at hl ⊢; omega⟩ (h31.at (sk tx e t.2.1 + 1)) (fun _ => by dsimp only; omega)) | exact AW.pick [0, 1] rfl (nxt _ _ hu ⟨mAsks_le _ (by rw [o112]; exact l2), by dsimp only; rw [ol12.2]; exact hI.2.1, by dsimp only [tln] at hl ⊢; omega, fun h => by have := mAsks_adv _ wNot (by rw [o112]; exact l2) (by decide) h; rw [o112] at this; dsimp only [tln] at hl this ⊢; omega⟩ h73 (fun h => by have := mAsks_adv _ wNot (by rw [o112]; exact l2) (by decide) h; rw [o112] at this; dsimp only at this ⊢; omega))
      · have hst : tLoop tx e tk (n + 1) t = t := by unfold tLoop; rw [if_neg hz]
        rw [hst] at hk
        refine C.iload_n dX13_qTest_2 1 rfl ?_
        refine C.if_eq 110 dX13_qTest_3 rfl (fun hc3 => ?_) (fun hc3 => ?_)
        · exact absurd hc3 (by decide)
        · refine C.aload_n dX13_qTest_6 0 rfl ?_
          refine C.getI fX13_264 dX13_qTest_7 hS.o ?_
          rw [hbd]
          refine C.if_ne 110 dX13_qTest_10 rfl (fun hc10 => ?_) (fun hc10 => ?_)
          · exact AW.pick [0] rfl (fin t μ1 hI hQ hk)
          · exact absurd hc10 hz
  refine C.iconst (nI 1) dX13_qTest_0 (by decide) ?_
  refine C.istore_n (lv' := [(0, _), (1, _)]) dX13_qTest_1 (nLt hX rfl) rfl ?_
  exact loop (e + 2 - t.2.1) t μ1 hI.w hQ (by have := hI.1; omega) hK
end KMQ8
