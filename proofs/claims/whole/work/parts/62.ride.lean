/-! the reference: what codes tell, the ride -/

def okC (al : Nat → Bool) (q : Bool) (c : Int32) (n : Nat) : Prop := if nI 1000 ≤ c then True else if nI 60 ≤ c then (q = true ∧ c = nI 60 ∧ 1 ≤ n) else if nI 40 ≤ c then (al (nn (c - nI 40)) = true ∧ c ≤ nI 48) else if c = nI 13 then True else if c = nI 12 then 1 ≤ n else 2 ≤ n
def nxC (c : Int32) (n : Nat) : Nat := if nI 1000 ≤ c then n + 1 else if nI 60 ≤ c then n else if nI 40 ≤ c then n + 1 else if c = nI 13 then n + 1 else if c = nI 12 then n else n - 1
def wfC (al : Nat → Bool) (q : Bool) : List Int32 → Nat → Prop
  | [], n => n = 1
  | c :: cs, n => okC al q c n ∧ wfC al q cs (nxC c n)
def st64 (pv : Nat → Int64) (of : Int64 → Int64) (c : Int32) (s : List Int64) : List Int64 := if nI 1000 ≤ c then (c - nI 1000).toInt64 :: s else if nI 60 ≤ c then clip64 (of (s.headD 0)) :: s.tail else if nI 40 ≤ c then pv (nn (c - nI 40)) :: s else if c = nI 13 then lN 1 :: s else if c = nI 12 then (lN 1 - s.headD 0) :: s.tail else jn64 c (s.tail.headD 0) (s.headD 0) :: s.tail.tail
def ev64 (pv : Nat → Int64) (of : Int64 → Int64) : List Int32 → List Int64 → List Int64
  | [], s => s
  | c :: cs, s => ev64 pv of cs (st64 pv of c s)
def al0 (k : Nat) : Bool := decide (k < 4)
def al1 (k : Nat) : Bool := decide (k < 2) || (decide (4 ≤ k) && decide (k ≤ 6))
def al2 (k : Nat) : Bool := decide (k < 9)
/-- the codes of a land are well formed -/
def LdC (d : Ld) : Prop := ∀ w cs, w < 3 → d.2.2.2.2.2 w = some cs → wfC (if w = 0 then al0 else al1) false cs 0
theorem c_sub {a c : Int32} {m n : Nat} (hm : m < 2147483648) (hn : n < 2147483648) (h1 : nI m ≤ c) (h2 : c ≤ nI n) : ∃ k, m ≤ k ∧ k ≤ n ∧ c = nI k := by
  obtain ⟨k, hk, e⟩ := nI_of (x := c) (by
    intro q
    rw [i_lt] at q
    rw [i_le, nI_tI hm] at h1
    have h0 : (0 : Int32).toInt = 0 := by decide
    omega)
  subst e
  exact ⟨k, n_le h1, n_le h2, rfl⟩
theorem st64_len {pv : Nat → Int64} {of : Int64 → Int64} {al : Nat → Bool} {q : Bool} {c : Int32} {s : List Int64} (h : okC al q c s.length) : (st64 pv of c s).length = nxC c s.length := by
  unfold okC at h
  unfold st64 nxC
  split
  · rfl
  · rename_i h1
    rw [if_neg h1] at h
    split
    · rename_i h2
      rw [if_pos h2] at h
      simp; omega
    · rename_i h2
      rw [if_neg h2] at h
      split
      · rfl
      · rename_i h3
        rw [if_neg h3] at h
        split
        · rfl
        · rename_i h4
          rw [if_neg h4] at h
          split
          · rename_i h5
            rw [if_pos h5] at h
            simp; omega
          · rename_i h5
            rw [if_neg h5] at h
            simp; omega
theorem ev64_congr {pv pv' : Nat → Int64} {of : Int64 → Int64} {al : Nat → Bool} {q : Bool} (hp : ∀ k, k < 9 → al k = true → pv k = pv' k) : ∀ (cs : List Int32) (s : List Int64), wfC al q cs s.length → ev64 pv of cs s = ev64 pv' of cs s
  | [], s, _ => rfl
  | c :: cs, s, h => by
    unfold ev64
    have e : st64 pv of c s = st64 pv' of c s := by
      have h1 := h.1
      unfold okC at h1
      unfold st64
      split
      · rfl
      · rename_i a1
        rw [if_neg a1] at h1
        split
        · rfl
        · rename_i a2
          rw [if_neg a2] at h1
          split
          · rename_i a3
            rw [if_pos a3] at h1
            obtain ⟨k, k1, k2, e⟩ := c_sub (a := 0) (m := 40) (n := 48) (by decide) (by decide) a3 h1.2
            subst e
            rw [pk_sub (by omega), nn_nI (by omega)] at h1 ⊢
            rw [hp _ (by omega) h1.1]
          · rfl
    rw [e]
    exact ev64_congr hp cs _ (by rw [← e, st64_len h.1]; exact h.2)
theorem wfC_len {pv : Nat → Int64} {of : Int64 → Int64} {al : Nat → Bool} {q : Bool} : ∀ (cs : List Int32) (s : List Int64), wfC al q cs s.length → (ev64 pv of cs s).length = 1
  | [], s, h => h
  | c :: cs, s, h => by
    unfold ev64
    exact wfC_len cs _ (by rw [st64_len h.1]; exact h.2)
theorem nxC_le (c : Int32) (n : Nat) : nxC c n ≤ n + 1 := by unfold nxC; (repeat' split) <;> omega
section KRD
variable {l : Launch} {G : Gm} {μ μ1 : Mm} {st : List Int64}
theorem PE.pvs (h : PE μ μ1 st) (i k : Nat) : partV μ1 i k = partV μ i k := by
  unfold partV
  have ho : ∀ a k, ¬ (a = 179 ∧ k = 108) → mI μ1 a k = mI μ a k := h.1.2.1
  rw [ho 179 58 (by omega), ho 227 i (by omega), ho 179 61 (by omega), ho 179 62 (by omega), ho 220 _ (by omega), ho 179 63 (by omega), ho 225 _ (by omega), ho 225 _ (by omega), ho 225 _ (by omega), ho 225 _ (by omega)]
/-- told or worked out, nothing else is touched -/
def TmC (P : Nat → Prop) (μ μ' : Mm) : Prop := μ'.2.2 = μ.2.2 ∧ (∀ a k, ¬ (a = 179 ∧ P k) → mI μ' a k = mI μ a k) ∧ (∀ a k, a ≠ 257 → mL μ' a k = mL μ a k)
def pC (k : Nat) : Prop := k = 58 ∨ k = 108
theorem ke_codesTell (hS : ShM μ) {w i f : Nat} {cs : List Int32} {al : Nat → Bool} (hw : w < 3) (hi : i < 6) (hf : mI μ 222 (3 + w) = nI f) (he : mI μ 223 (3 + w) = nI (f + cs.length)) (hcd : ∀ j, j < cs.length → mI μ 224 (1600 + (f + j)) = cs.getD j 0) (hl : f + cs.length ≤ 1600) (hwf : wfC al false cs 0) : AMet l G 2 0 0 mtX13_codesTell [.ref (G.1 + 179), .int (nI w), .int (nI i)] μ (qL (fun x μ' => x = (ev64 (fun k => (partV (sI μ 179 58 (if w = 0 then nI 0 else nI 1)) i k).toInt64) id cs []).headD 0 ∧ TmC pC μ μ')) := by
  refine AMet.of (by decide) (Nat.le_of_ble_eq_true rfl) (fun X C hX hnm hq => ?_)
  have hS1 := hS
  generalize hK : ev64 (fun k => (partV (sI μ 179 58 (if w = 0 then nI 0 else nI 1)) i k).toInt64) id cs [] = K at hq
  generalize hb : sI μ 179 58 (if w = 0 then nI 0 else nI 1) = μ0 at hK
  have hoff : ∀ a k, ¬ (a = 179 ∧ k = 58) → mI μ0 a k = mI μ a k := fun a k q => by rw [← hb, mI_sI, if_neg q]
  have hS0 : ShM μ0 := by rw [← hb]; exact hS1.of rfl
  have hK1 : K.length = 1 := by rw [← hK]; exact wfC_len cs [] hwf
  have h222 : mI μ0 222 (3 + w) = nI f := by rw [hoff _ _ (by omega)]; exact hf
  have h223 : mI μ0 223 (3 + w) = nI (f + cs.length) := by rw [hoff _ _ (by omega)]; exact he
  have h224 : ∀ j, j < cs.length → mI μ0 224 (1600 + (f + j)) = cs.getD j 0 := fun j hj => by rw [hoff _ _ (by omega)]; exact hcd j hj
  have htm : ∀ μ' st, PE μ0 μ' st → TmC pC μ μ' := fun μ' st h => ⟨by rw [h.1.1, ← hb]; rfl, fun a k q => by unfold pC at q; rw [h.1.2.1 a k (by omega), hoff a k (by omega)], fun a k q => by rw [h.1.2.2 a k q, ← hb]; rfl⟩
  have loop : ∀ (n j : Nat) (s : List Int64) (μ1 : Mm), cs.length - j < n → j ≤ cs.length → s.length ≤ j → PE μ0 μ1 s → wfC al false (cs.drop j) s.length → ev64 (fun k => (partV μ0 i k).toInt64) id (cs.drop j) s = K → AW l G X 0 0 27 [(0, .ref (G.1 + 179)), (1, .int (nI w)), (2, .int (nI i)), (3, .int (nI (f + j)))] [] μ1 := by
    intro n
    induction n with
    | zero => intro j s μ1 h; omega
    | succ n ih =>
      intro j s μ1 hn hj hsl hP hwf hk
      have hS : ShM μ1 := hP.sh hS0
      have ho : ∀ a k, ¬ (a = 179 ∧ k = 108) → mI μ1 a k = mI μ0 a k := hP.1.2.1
      by_cases hjl : j < cs.length
      · have hdr : cs.drop j = cs.getD j 0 :: cs.drop (j + 1) := by
          rw [List.drop_eq_getElem_cons hjl, List.getD_eq_getElem?_getD, List.getElem?_eq_getElem hjl]
          rfl
        rw [hdr] at hwf hk
        obtain ⟨w1, w2⟩ := hwf
        unfold ev64 at hk
        have hle2 := st64_len (pv := fun k => (partV μ0 i k).toInt64) (of := id) w1
        have hnx := nxC_le (cs.getD j 0) s.length
        have hcj : mI μ1 224 (1600 + (f + j)) = cs.getD j 0 := by rw [ho _ _ (by omega)]; exact h224 j hjl
        generalize hcc : cs.getD j 0 = c at *
        have nxt : ∀ (μ2 : Mm), PE μ0 μ2 (st64 (fun k => (partV μ0 i k).toInt64) id c s) → AW l G X 0 0 152 [(0, .ref (G.1 + 179)), (1, .int (nI w)), (2, .int (nI i)), (3, .int (nI (f + j))), (4, .int c)] [] μ2 := by
          intro μ2 hP2
          refine C.iinc (lv' := [(0, _), (1, _), (2, _), (3, _), (4, _)]) _ dX13_codesTell_152 3 rfl rfl (nLt hX rfl) rfl ?_
          refine C.goto 27 dX13_codesTell_155 rfl ?_
          have hgo := ih (j + 1) _ μ2 (by omega) (by omega) (by rw [hle2]; omega) hP2 (by rw [hle2]; exact w2) hk
          rw [show f + (j + 1) = f + j + 1 by omega, ← nI_1] at hgo
          exact AW.pick [0, 1, 2, 3] rfl hgo
        unfold st64 at nxt
        unfold okC at w1
        refine C.iload_n dX13_codesTell_27 3 rfl ?_
        refine C.aload_n dX13_codesTell_28 0 rfl ?_
        refine C.getA fX13_145 dX13_codesTell_29 hS.o hS.r53 ?_
        refine C.iconst (nI 3) dX13_codesTell_32 (by decide) ?_
        refine C.iload_n dX13_codesTell_33 1 rfl ?_
        refine C.iadd dX13_codesTell_34 ?_
        rw [nI_add]
        refine C.iald hS.a53 (n_in (by omega)) dX13_codesTell_35 ?_
        rw [n_cl, ho 223 _ (by omega), h223]
        refine C.icmp_ge 158 dX13_codesTell_36 rfl (fun hc36 => ?_) (fun hc36 => ?_)
        · have := n_le hc36; omega
        · refine C.aload_n dX13_codesTell_39 0 rfl ?_
          refine C.getA fX13_148 dX13_codesTell_40 hS.o hS.r54 ?_
          refine C.sipush (nI 1600) dX13_codesTell_43 (by decide) ?_
          refine C.iload_n dX13_codesTell_46 3 rfl ?_
          refine C.iadd dX13_codesTell_47 ?_
          rw [nI_add]
          refine C.iald hS.a54 (n_in (by omega)) dX13_codesTell_48 ?_
          rw [n_cl, hcj]
          refine C.istore (lv' := [(0, _), (1, _), (2, _), (3, _), (4, _)]) dX13_codesTell_49 (nLt hX rfl) rfl ?_
          refine C.iload dX13_codesTell_51 4 rfl ?_
          refine C.sipush (nI 1000) dX13_codesTell_53 (by decide) ?_
          refine C.icmp_lt 73 dX13_codesTell_56 rfl (fun hc56 => ?_) (fun hc56 => ?_)
          · have q1 : ¬ nI 1000 ≤ c := Int32.not_le.mpr hc56
            rw [if_neg q1] at nxt w1
            have q2 : ¬ nI 60 ≤ c := fun z => by rw [if_pos z] at w1; exact absurd w1.1 (by decide)
            rw [if_neg q2] at nxt w1
            refine C.iload dX13_codesTell_73 4 rfl ?_
            refine C.bipush (nI 40) dX13_codesTell_75 (by decide) ?_
            refine C.icmp_lt 97 dX13_codesTell_77 rfl (fun hc77 => ?_) (fun hc77 => ?_)
            · have q3 : ¬ nI 40 ≤ c := Int32.not_le.mpr hc77
              rw [if_neg q3] at nxt w1
              refine C.iload dX13_codesTell_97 4 rfl ?_
              refine C.bipush (nI 13) dX13_codesTell_99 (by decide) ?_
              refine C.icmp_ne 112 dX13_codesTell_101 rfl (fun hc101 => ?_) (fun hc101 => ?_)
              · rw [if_neg hc101] at nxt w1
                refine C.iload dX13_codesTell_112 4 rfl ?_
                refine C.bipush (nI 12) dX13_codesTell_114 (by decide) ?_
                refine C.icmp_ne 146 dX13_codesTell_116 rfl (fun hc116 => ?_) (fun hc116 => ?_)
                · rw [if_neg hc116] at nxt w1
                  cases s with
                  | nil => simp at w1
                  | cons b s =>
                  cases s with
                  | nil => simp at w1
                  | cons a s =>
                  simp only [List.headD_cons, List.tail_cons] at nxt
                  simp only [List.length_cons] at hsl
                  refine C.aload_n dX13_codesTell_146 0 rfl ?_
                  refine C.iload dX13_codesTell_147 4 rfl ?_
                  refine C.callVV lX13_447 dX13_codesTell_149 (ke_joins hS0 hP (by omega) _) hS.o rfl rfl (Nat.le_of_ble_eq_true rfl) (Nat.zero_le _) (Nat.zero_le _) (Nat.le_of_ble_eq_true rfl) (fun μ149 h149 => ?_)
                  first | exact nxt _ h67 | exact nxt _ h91 | exact nxt _ h106 | exact nxt _ (hP.rep _) | exact nxt _ h149
                · rw [if_pos hc116] at nxt w1
                  cases s with
                  | nil => simp at w1
                  | cons v s =>
                  simp only [List.headD_cons, List.tail_cons] at nxt
                  have hlen : mI μ1 179 108 = nI (s.length + 1) := hP.2.1
                  have htop := hP.top
                  simp only [List.length_cons] at hsl
                  refine C.aload_n dX13_codesTell_119 0 rfl ?_
                  refine C.getA fX13_255 dX13_codesTell_120 hS.o hS.r107 ?_
                  refine C.aload_n dX13_codesTell_123 0 rfl ?_
                  refine C.getI fX13_436 dX13_codesTell_124 hS.o ?_
                  rw [hlen]
                  refine C.iconst (nI 1) dX13_codesTell_127 (by decide) ?_
                  refine C.isub dX13_codesTell_128 ?_
                  rw [pk_sub (by omega), Nat.add_sub_cancel]
                  refine C.lconst (lN 1) dX13_codesTell_129 (by decide) ?_
                  refine C.aload_n dX13_codesTell_130 0 rfl ?_
                  refine C.getA fX13_255 dX13_codesTell_131 hS.o hS.r107 ?_
                  refine C.aload_n dX13_codesTell_134 0 rfl ?_
                  refine C.getI fX13_436 dX13_codesTell_135 hS.o ?_
                  rw [hlen]
                  refine C.iconst (nI 1) dX13_codesTell_138 (by decide) ?_
                  refine C.isub dX13_codesTell_139 ?_
                  rw [pk_sub (by omega), Nat.add_sub_cancel]
                  refine C.lald hS.a107 (n_in (by omega)) dX13_codesTell_140 ?_
                  rw [n_cl, htop]
                  refine C.lsub dX13_codesTell_141 ?_
                  refine C.last hS.a107 (n_in (by omega)) dX13_codesTell_142 ?_
                  rw [n_cl]
                  refine C.goto 152 dX13_codesTell_143 rfl ?_
                  first | exact nxt _ h67 | exact nxt _ h91 | exact nxt _ h106 | exact nxt _ (hP.rep _) | exact nxt _ h149
              · rw [if_pos hc101] at nxt
                refine C.aload_n dX13_codesTell_104 0 rfl ?_
                refine C.lconst (lN 1) dX13_codesTell_105 (by decide) ?_
                refine C.callVV lX13_439 dX13_codesTell_106 (ke_puts hS0 hP (by omega) _) hS.o rfl rfl (Nat.le_of_ble_eq_true rfl) (Nat.zero_le _) (Nat.zero_le _) (Nat.le_of_ble_eq_true rfl) (fun μ106 h106 => ?_)
                refine C.goto 152 dX13_codesTell_109 rfl ?_
                first | exact nxt _ h67 | exact nxt _ h91 | exact nxt _ h106 | exact nxt _ (hP.rep _) | exact nxt _ h149
            · have q3 : nI 40 ≤ c := Int32.not_lt.mp hc77
              rw [if_pos q3] at nxt w1
              obtain ⟨kk, k1, k2, ek⟩ := c_sub (a := 0) (m := 40) (n := 48) (by decide) (by decide) q3 w1.2
              rw [ek, pk_sub (by omega), nn_nI (by omega)] at nxt
              refine C.aload_n dX13_codesTell_80 0 rfl ?_
              refine C.aload_n dX13_codesTell_81 0 rfl ?_
              refine C.iload dX13_codesTell_82 4 rfl ?_
              refine C.bipush (nI 40) dX13_codesTell_84 (by decide) ?_
              refine C.isub dX13_codesTell_86 ?_
              rw [ek, pk_sub (by omega)]
              refine C.iload_n dX13_codesTell_87 2 rfl ?_
              refine C.callVL lX13_443 dX13_codesTell_88 (ke_partOf hS hi (show kk - 40 < 9 by omega)) hS.o rfl rfl (Nat.le_of_ble_eq_true rfl) (Nat.zero_le _) (Nat.zero_le _) (Nat.le_of_ble_eq_true rfl) (fun x88 μ88 h88 => ?_)
              obtain ⟨rfl, hμ⟩ := h88
              subst hμ
              rw [hP.pvs]
              refine C.callVV lX13_439 dX13_codesTell_91 (ke_puts hS0 hP (by omega) _) hS.o rfl rfl (Nat.le_of_ble_eq_true rfl) (Nat.zero_le _) (Nat.zero_le _) (Nat.le_of_ble_eq_true rfl) (fun μ91 h91 => ?_)
              refine C.goto 152 dX13_codesTell_94 rfl ?_
              first | exact nxt _ h67 | exact nxt _ h91 | exact nxt _ h106 | exact nxt _ (hP.rep _) | exact nxt _ h149
          · have q1 : nI 1000 ≤ c := Int32.not_lt.mp hc56
            rw [if_pos q1] at nxt
            refine C.aload_n dX13_codesTell_59 0 rfl ?_
            refine C.iload dX13_codesTell_60 4 rfl ?_
            refine C.sipush (nI 1000) dX13_codesTell_62 (by decide) ?_
            refine C.isub dX13_codesTell_65 ?_
            refine C.i2l dX13_codesTell_66 ?_
            refine C.callVV lX13_439 dX13_codesTell_67 (ke_puts hS0 hP (by omega) _) hS.o rfl rfl (Nat.le_of_ble_eq_true rfl) (Nat.zero_le _) (Nat.zero_le _) (Nat.le_of_ble_eq_true rfl) (fun μ67 h67 => ?_)
            refine C.goto 152 dX13_codesTell_70 rfl ?_
            first | exact nxt _ h67 | exact nxt _ h91 | exact nxt _ h106 | exact nxt _ (hP.rep _) | exact nxt _ h149
      · have hjj : j = cs.length := by omega
        rw [hjj, List.drop_length] at hk
        unfold ev64 at hk
        subst hk
        have hs0 : ∃ v, s = [v] := by
          match s, hK1 with
          | [v], _ => exact ⟨v, rfl⟩
        obtain ⟨v, hv⟩ := hs0
        subst hv
        have htop := hP.top
        refine C.iload_n dX13_codesTell_27 3 rfl ?_
        refine C.aload_n dX13_codesTell_28 0 rfl ?_
        refine C.getA fX13_145 dX13_codesTell_29 hS.o hS.r53 ?_
        refine C.iconst (nI 3) dX13_codesTell_32 (by decide) ?_
        refine C.iload_n dX13_codesTell_33 1 rfl ?_
        refine C.iadd dX13_codesTell_34 ?_
        rw [nI_add]
        refine C.iald hS.a53 (n_in (by omega)) dX13_codesTell_35 ?_
        rw [n_cl, ho 223 _ (by omega), h223]
        refine C.icmp_ge 158 dX13_codesTell_36 rfl (fun hc36 => ?_) (fun hc36 => ?_)
        · refine C.aload_n dX13_codesTell_158 0 rfl ?_
          refine C.getA fX13_255 dX13_codesTell_159 hS.o hS.r107 ?_
          refine C.iconst (nI 0) dX13_codesTell_162 (by decide) ?_
          refine C.lald hS.a107 (n_in (by decide)) dX13_codesTell_163 ?_
          rw [n_cl, show mL μ1 257 0 = v from htop]
          refine C.lret hq dX13_codesTell_164 ?_
          exact ⟨rfl, htm _ _ hP⟩
        · have := n_nle hc36; omega
  have hP0 : PE μ0 (sI μ0 179 108 (nI 0)) [] := ⟨⟨rfl, fun a k q => by rw [mI_sI, if_neg q], fun _ _ _ => rfl⟩, by simp [mI_sI], fun j hj => by simp at hj⟩
  have h2222 : mI (sI μ0 179 108 (nI 0)) 222 (3 + w) = nI f := by rw [mI_sI, if_neg (by omega)]; exact h222
  have m10 : AW l G X 0 0 13 [(0, .ref (G.1 + 179)), (1, .int (nI w)), (2, .int (nI i))] [] μ0 := by
    have hS : ShM μ0 := hS0
    refine C.aload_n dX13_codesTell_13 0 rfl ?_
    refine C.iconst (nI 0) dX13_codesTell_14 (by decide) ?_
    refine C.putI fX13_436 (Or.inl rfl) dX13_codesTell_15 hS.o ?_
    refine C.aload_n dX13_codesTell_18 0 rfl ?_
    refine C.getA fX13_142 dX13_codesTell_19 hS.o hS.r52 ?_
    refine C.iconst (nI 3) dX13_codesTell_22 (by decide) ?_
    refine C.iload_n dX13_codesTell_23 1 rfl ?_
    refine C.iadd dX13_codesTell_24 ?_
    rw [nI_add]
    refine C.iald hS.a52 (n_in (by omega)) dX13_codesTell_25 ?_
    rw [n_cl, h2222]
    refine C.istore_n (lv' := [(0, _), (1, _), (2, _), (3, _)]) dX13_codesTell_26 (nLt hX rfl) rfl ?_
    exact loop (cs.length + 1) 0 [] _ (by omega) (by omega) (by simp) hP0 hwf hK
  refine C.aload_n dX13_codesTell_0 0 rfl ?_
  refine C.iload_n dX13_codesTell_1 1 rfl ?_
  refine C.if_ne 9 dX13_codesTell_2 rfl (fun hc2 => ?_) (fun hc2 => ?_)
  · have h0 : w ≠ 0 := n_ne hc2
    rw [if_neg h0] at hb
    refine C.iconst (nI 1) dX13_codesTell_9 (by decide) ?_
    refine C.putI fX13_322 (Or.inl rfl) dX13_codesTell_10 hS.o ?_
    first | skip
    rw [hb]
    exact m10
  · have h0 : w = 0 := n_eq (b := 0) hc2
    rw [if_pos h0] at hb
    refine C.iconst (nI 0) dX13_codesTell_5 (by decide) ?_
    refine C.goto 10 dX13_codesTell_6 rfl ?_
    refine C.putI fX13_322 (Or.inl rfl) dX13_codesTell_10 hS.o ?_
    first | skip
    rw [hb]
    exact m10
end KRD
