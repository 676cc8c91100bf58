/-! the two literals: their length, their letters -/
abbrev sK (G : Gm) (i : Nat) : Nat := G.2.2.2.2.2.2.1 i
abbrev sV (G : Gm) (i : Nat) : Nat := G.2.2.2.2.2.2.2 i
def litC (i j : Nat) : Int32 := (litB.getD i []).getD j 0
theorem litC_ok : ∀ i : Fin 2, ∀ j : Fin 164, ((litC i.val j.val &&& 255).toUInt32 % 65536).toInt32 = litC i.val j.val ∧ (litC i.val j.val).toUInt32.toUInt16.toUInt32.toInt32 = litC i.val j.val := by decide +kernel
def LkJ (own : String) (idx : Nat) (y : Mt) (n : Nat) : Prop := (Cond.methodLink own idx y.1 ∈ lw_ok ∧ Cond.instanceMethod y.1 ∈ lw_ok ∧ Cond.selects y.1.cls y.1 y.1 ∈ lw_ok ∧ Cond.initialized y.1.cls ∈ lw_ok ∧ Cond.code y.1 y.2.1 y.2.2.1 y.2.2.2 ∈ lw_ok) ∧ y.1.cls = "java/lang/String" ∧ (y.1.cls ≠ "java/lang/invoke/MethodHandle" ∧ y.1.cls ≠ "java/lang/invoke/VarHandle" ∧ (parseMethodDescriptor y.1.desc).map (fun d => d.parameters.length) = some n) ∧ y.2.2.1 ≤ 45
theorem wj_60 : Cond.instanceMethod yJ0_length_8abf5 ∈ lw_ok := ok1 60 (by decide +kernel) rfl
theorem wj_61 : Cond.selects yJ0_length_8abf5.cls yJ0_length_8abf5 yJ0_length_8abf5 ∈ lw_ok := ok1 61 (by decide +kernel) rfl
theorem wj_64 : Cond.instanceMethod yJ0_coder_7d493 ∈ lw_ok := ok1 64 (by decide +kernel) rfl
theorem wj_65 : Cond.selects yJ0_coder_7d493.cls yJ0_coder_7d493 yJ0_coder_7d493 ∈ lw_ok := ok1 65 (by decide +kernel) rfl
theorem wj_70 : Cond.instanceMethod yJ0_charAt_5068e ∈ lw_ok := ok1 70 (by decide +kernel) rfl
theorem wj_71 : Cond.selects yJ0_charAt_5068e.cls yJ0_charAt_5068e yJ0_charAt_5068e ∈ lw_ok := ok1 71 (by decide +kernel) rfl
theorem wj_74 : Cond.instanceMethod yJ0_isLatin1_aae02 ∈ lw_ok := ok1 74 (by decide +kernel) rfl
theorem wj_75 : Cond.selects yJ0_isLatin1_aae02.cls yJ0_isLatin1_aae02 yJ0_isLatin1_aae02 ∈ lw_ok := ok1 75 (by decide +kernel) rfl
theorem wj_67 : Cond.fieldLink RJ0 38 "java/lang/String" "COMPACT_STRINGS" "Z" ∈ lw_ok := ok1 67 (by decide +kernel) rfl
theorem wj_83 : Cond.fieldLink RJ0 1053 "jdk/internal/util/Preconditions" "SIOOBE_FORMATTER" "Ljava/util/function/BiFunction;" ∈ lw_ok := ok1 83 (by decide +kernel) rfl
theorem wj_v : Cond.fieldLink RJ0 9 "java/lang/String" "value" "[B" ∈ lw_ok := ok9 137 (by decide +kernel) rfl
theorem wj_c : Cond.fieldLink RJ0 15 "java/lang/String" "coder" "B" ∈ lw_ok := ok9 138 (by decide +kernel) rfl
theorem lJ_len : LkJ RX8 31 mtJ0_length_8abf5 0 := ⟨⟨wd_59, wj_60, wj_61, wd_4, wd_62⟩, rfl, by decide +kernel, by decide⟩
theorem lJ_coder : LkJ RJ0 335 mtJ0_coder_7d493 0 := ⟨⟨wd_63, wj_64, wj_65, wd_4, wd_66⟩, rfl, by decide +kernel, by decide⟩
theorem lJ_char : LkJ RX8 37 mtJ0_charAt_5068e 1 := ⟨⟨wd_69, wj_70, wj_71, wd_4, wd_72⟩, rfl, by decide +kernel, by decide⟩
theorem lJ_lat : LkJ RJ0 492 mtJ0_isLatin1_aae02 0 := ⟨⟨wd_73, wj_74, wj_75, wd_4, wd_76⟩, rfl, by decide +kernel, by decide⟩
section STR
variable {l : Launch} {G : Gm} {X : Cx} {cc : ByteArray} {own : String} {d : Nat} {rt : Option FieldType} {bc bs pc : Nat} {lv : List (Nat × Value)} {st : List Value} {μ : Mm}
theorem Cok.str (C : Cok l G X cc own d rt) : vk_S 2 litN litB G.2.2.2.2.2.2.1 G.2.2.2.2.2.2.2 (gA G) X.1.2.2.2 X.1.2.2.2.heap := C.hK.1.2.2.2.2.2.2.2.1
theorem Cok.callJ (C : Cok l G X cc own d rt) {y : Mt} {idx n i d' mc' ms' : Nat} {As stk : List Value} {Q : Option Value → Mm → Prop} (L : LkJ own idx y n) (hd : decode cc pc = .ok (.invokevirtual idx, 3)) (hM : AMet l G d' mc' ms' y (.ref (sK G i) :: As) μ Q) (hi : i < 2) (hn : As.length = n) (hst : stk = As.reverse ++ .ref (sK G i) :: st) (hdd : d' + 1 ≤ d) (hbc : mc' ≤ bc) (hbs : ms' ≤ bs) (hw : (st.map fun v => v.category).sum ≤ 8) (kk : ∀ (r : Option Value) (μ' : Mm), Q r μ' → AW l G X (bc - mc') (bs - ms') (pc + 3) lv (r.toList ++ st) μ') : AW l G X bc bs pc lv stk μ := by
  intro H locs cells slots ls hR hS hc hs hl
  obtain ⟨⟨w1, w2, w3, w4, w5⟩, hcls, hdesc, hmax⟩ := L
  have hfr := C.hfr
  have hlo := C.hlo
  subst hst
  refine am_call (va_runV (Ts := lw_ok) (own := own) (C := y.1.cls) (bytes := y.2.1) (maxL := y.2.2.1) (ret := y.2.2.2) (n := n) (As := As) (rest := st) ⟨C.hx, C.hb, C.hml, C.hown, C.hts⟩ hM (cwV n C.hts ?_ rfl rfl rfl ⟨rfl, hdesc⟩ ⟨by show d' + 1 ≤ _; omega, by show 8 + (y.2.2.1 + 11) + 64 * d' ≤ _; omega⟩) ⟨pc_blind, ?_, fun U hU hW => C.pre hR hS _ U hU hW⟩ rfl hn hl.1 rfl (lv_room hw) hd ⟨by omega, by omega⟩) hS (fun r μ' H1 locs1 g0 g1 g2 => kk r μ' g0 H1 locs1 (cells + mc') (slots + ms') ls g1 g2 (by omega) (by omega) hl)
  · intro w hw'
    have hm : w ∈ lw_ok := by
      unfold wsV at hw'
      rcases List.mem_append.mp hw' with h | h
      · simp only [List.mem_cons, List.not_mem_nil, or_false] at h
        rcases h with rfl | rfl | rfl | rfl
        · exact w1
        · exact w2
        · exact w3
        · exact w4
      · exact (wz_good w5 w h).1
    exact ⟨hm, good_of_word (ok_good hm)⟩
  · rw [hcls]
    exact vk_recv C.str hi hS
theorem Cok.callJI (C : Cok l G X cc own d rt) {y : Mt} {idx n i d' mc' ms' : Nat} {As stk : List Value} {Q : Int32 → Mm → Prop} (L : LkJ own idx y n) (hd : decode cc pc = .ok (.invokevirtual idx, 3)) (hM : AMet l G d' mc' ms' y (.ref (sK G i) :: As) μ (qI Q)) (hi : i < 2) (hn : As.length = n) (hst : stk = As.reverse ++ .ref (sK G i) :: st) (hdd : d' + 1 ≤ d) (hbc : mc' ≤ bc) (hbs : ms' ≤ bs) (hw : (st.map fun v => v.category).sum ≤ 8) (kk : ∀ (x : Int32) (μ' : Mm), Q x μ' → AW l G X (bc - mc') (bs - ms') (pc + 3) lv (.int x :: st) μ') : AW l G X bc bs pc lv stk μ := C.callJ L hd hM hi hn hst hdd hbc hbs hw (fun r μ' h => by obtain ⟨x, rfl, hx⟩ := h; exact kk x μ' hx)
theorem Cok.strV (C : Cok l G X cc RJ0 d rt) {i : Nat} (hi : i < 2) (hd : decode cc pc = .ok (.getfield 9, 3)) (kk : AW l G X bc bs (pc + 3) lv (.ref (sV G i) :: st) μ) : AW l G X bc bs pc lv (.ref (sK G i) :: st) μ :=
  fun H locs cells slots ls hR hS hc hs hl => vk_getf C.hx C.hb (C.str.1 i hi).2.2.1 hS C.hown (C.hts _ wj_v) (fun _ h => h) hd (kk H locs cells slots ls hR hS hc hs hl)
theorem Cok.strC (C : Cok l G X cc RJ0 d rt) {i : Nat} (hi : i < 2) (hd : decode cc pc = .ok (.getfield 15, 3)) (kk : AW l G X bc bs (pc + 3) lv (.int 0 :: st) μ) : AW l G X bc bs pc lv (.ref (sK G i) :: st) μ :=
  fun H locs cells slots ls hR hS hc hs hl => vk_getf C.hx C.hb (C.str.1 i hi).2.1 hS C.hown (C.hts _ wj_c) (fun _ h => h) hd (kk H locs cells slots ls hR hS hc hs hl)
theorem Cok.strZ (C : Cok l G X cc RJ0 d rt) (hd : decode cc pc = .ok (.getstatic 38, 3)) (kk : AW l G X bc bs (pc + 3) lv (.int 1 :: st) μ) : AW l G X bc bs pc lv st μ :=
  fun H locs cells slots ls hR hS hc hs hl => va_gets C.hx C.hb C.hK.1.2.2.2.2.2.2.1 hS C.hown (C.hts _ wj_67) (fun _ h => h) hd (kk H locs cells slots ls hR hS hc hs hl)
theorem Cok.strQ (C : Cok l G X cc RJ0 d rt) (hd : decode cc pc = .ok (.getstatic 1053, 3)) (kk : ∀ v : Value, (v = .null ∨ ∃ t, v = .ref t) → AW l G X bc bs (pc + 3) lv (v :: st) μ) : AW l G X bc bs pc lv st μ := by
  intro H locs cells slots ls hR hS hc hs hl
  rcases C.hK.1.2.2.2.2.2.2.2.2 with h | ⟨t, h⟩
  · exact va_gets C.hx C.hb h hS C.hown (C.hts _ wj_83) (fun _ h => h) hd (kk .null (Or.inl rfl) H locs cells slots ls hR hS hc hs hl)
  · exact va_gets C.hx C.hb h hS C.hown (C.hts _ wj_83) (fun _ h => h) hd (kk (.ref t) (Or.inr ⟨t, rfl⟩) H locs cells slots ls hR hS hc hs hl)
theorem Cok.strL (C : Cok l G X cc own d rt) {i : Nat} (hi : i < 2) (hd : decode cc pc = .ok (.arraylength, 1)) (kk : AW l G X bc bs (pc + 1) lv (.int (nI (litN.getD i 0)) :: st) μ) : AW l G X bc bs pc lv (.ref (sV G i) :: st) μ :=
  fun H locs cells slots ls hR hS hc hs hl => va_tlen C.hx C.hb (C.str.1 i hi).2.2.2 hS rfl hd (kk H locs cells slots ls hR hS hc hs hl)
theorem Cok.strB (C : Cok l G X cc own d rt) {i : Nat} (hi : i < 2) {j : Int32} (hin : vp_in j (litN.getD i 0)) (hd : decode cc pc = .ok (.baload, 1)) (kk : AW l G X bc bs (pc + 1) lv (.int (litC i j.toNatClampNeg) :: st) μ) : AW l G X bc bs pc lv (.int j :: .ref (sV G i) :: st) μ :=
  fun H locs cells slots ls hR hS hc hs hl => va_tb C.hx C.hb (C.str.1 i hi).2.2.2 hS hin rfl hd (kk H locs cells slots ls hR hS hc hs hl)
theorem Cok.nret {ty : FieldType} (C : Cok l G X cc own d (some ty)) {Q : Int32 → Mm → Prop} {v : Int32} (hq : MR G X (qI Q)) (hd : decode cc pc = .ok (.ireturn, 1)) (hv : narrow ty (.int v) = .int v) (h : Q v μ) : AW l G X bc bs pc lv [.int v] μ := AW.fin hq (⟨v, rfl, h⟩ : qI Q (some (.int v)) μ) fun H locs ls h1 h2 => W.zret C.hx C.hb C.hrt hv h1 h2 hd C.hlk
theorem kj_coder {i : Nat} (hi : i < 2) : AMet l G 0 0 0 mtJ0_coder_7d493 [.ref (sK G i)] μ (qI (fun x μ' => x = 0 ∧ μ' = μ)) := by
  refine AMet.ofF (by decide +kernel) (Nat.le_of_ble_eq_true rfl) (fun X C hX hnm hq => ?_)
  refine C.strZ dJ0_coder_7d493_0 ?_
  refine C.if_eq 13 dJ0_coder_7d493_3 rfl (fun h => absurd h (by decide)) (fun h => ?_)
  refine C.aload_n dJ0_coder_7d493_6 0 rfl ?_
  refine C.strC hi dJ0_coder_7d493_7 ?_
  refine C.goto 14 dJ0_coder_7d493_10 rfl ?_
  exact C.nret hq dJ0_coder_7d493_14 rfl ⟨rfl, rfl⟩
theorem kj_isLatin1 {i : Nat} (hi : i < 2) : AMet l G 0 0 0 mtJ0_isLatin1_aae02 [.ref (sK G i)] μ (qI (fun x μ' => x = 1 ∧ μ' = μ)) := by
  refine AMet.ofF (by decide +kernel) (Nat.le_of_ble_eq_true rfl) (fun X C hX hnm hq => ?_)
  refine C.strZ dJ0_isLatin1_aae02_0 ?_
  refine C.if_eq 17 dJ0_isLatin1_aae02_3 rfl (fun h => absurd h (by decide)) (fun h => ?_)
  refine C.aload_n dJ0_isLatin1_aae02_6 0 rfl ?_
  refine C.strC hi dJ0_isLatin1_aae02_7 ?_
  refine C.if_ne 17 dJ0_isLatin1_aae02_10 rfl (fun h => absurd rfl h) (fun h => ?_)
  refine C.iconst 1 dJ0_isLatin1_aae02_13 (by decide) ?_
  refine C.goto 18 dJ0_isLatin1_aae02_14 rfl ?_
  exact C.nret hq dJ0_isLatin1_aae02_18 rfl ⟨rfl, rfl⟩
theorem litN_sh : ∀ i : Fin 2, nI (litN.getD i.val 0) >>> ((0 : Int32) &&& 31) = nI (litN.getD i.val 0) := by decide +kernel
theorem kj_length {i : Nat} (hi : i < 2) : AMet l G 1 0 0 mtJ0_length_8abf5 [.ref (sK G i)] μ (qI (fun x μ' => x = nI (litN.getD i 0) ∧ μ' = μ)) := by
  refine AMet.ofF (by decide +kernel) (Nat.le_of_ble_eq_true rfl) (fun X C hX hnm hq => ?_)
  refine C.aload_n dJ0_length_8abf5_0 0 rfl ?_
  refine C.strV hi dJ0_length_8abf5_1 ?_
  refine C.strL hi dJ0_length_8abf5_4 ?_
  refine C.aload_n dJ0_length_8abf5_5 0 rfl ?_
  refine C.callJI lJ_coder dJ0_length_8abf5_6 (kj_coder hi) hi rfl rfl (Nat.le_of_ble_eq_true rfl) (Nat.zero_le _) (Nat.zero_le _) (Nat.le_of_ble_eq_true rfl) (fun x μ1 h => ?_)
  obtain ⟨rfl, rfl⟩ := h
  refine C.ishr dJ0_length_8abf5_9 ?_
  refine C.iret hq dJ0_length_8abf5_10 ?_
  exact ⟨litN_sh ⟨i, hi⟩, rfl⟩
theorem kj_check3 {a b : Nat} (hab : a < b) (hb : b < 1000) {v : Value} (hv : v = .null ∨ ∃ t, v = .ref t) : AMet l G 0 0 0 mtJ3_checkIndex_8e157 [.int (nI a), .int (nI b), v] μ (qI (fun x μ' => x = nI a ∧ μ' = μ)) := by
  have key : ∀ X : Cx, Cok l G X mtJ3_checkIndex_8e157.2.1 mtJ3_checkIndex_8e157.1.cls 0 mtJ3_checkIndex_8e157.2.2.2 → MR G X (qI (fun x μ' => x = nI a ∧ μ' = μ)) → AW l G X 0 0 0 [(0, .int (nI a)), (1, .int (nI b))] [] μ := by
    intro X C hq
    refine C.iload_n dJ3_checkIndex_8e157_0 0 rfl ?_
    refine C.if_lt 9 dJ3_checkIndex_8e157_1 rfl (fun h => absurd h (Int32.not_lt.mpr (nI_pos' (by omega)))) (fun h => ?_)
    refine C.iload_n dJ3_checkIndex_8e157_4 0 rfl ?_
    refine C.iload_n dJ3_checkIndex_8e157_5 1 rfl ?_
    refine C.icmp_lt 16 dJ3_checkIndex_8e157_6 rfl (fun h => ?_) (fun h => absurd (n_nlt h) (by omega))
    refine C.iload_n dJ3_checkIndex_8e157_16 0 rfl ?_
    exact C.iret hq dJ3_checkIndex_8e157_17 ⟨rfl, rfl⟩
  rcases hv with rfl | ⟨t, rfl⟩
  · exact AMet.ofF (by decide +kernel) (Nat.le_of_ble_eq_true rfl) (fun X C hX hnm hq => AW.pick [0, 1] rfl (key X C hq))
  · exact AMet.ofF (by decide +kernel) (Nat.le_of_ble_eq_true rfl) (fun X C hX hnm hq => AW.pick [0, 1] rfl (key X C hq))
theorem kj_check {a b : Nat} (hab : a < b) (hb : b < 1000) : AMet l G 1 0 0 mtJ0_checkIndex_df160 [.int (nI a), .int (nI b)] μ (qV (fun μ' => μ' = μ)) := by
  refine AMet.ofF (by decide +kernel) (Nat.le_of_ble_eq_true rfl) (fun X C hX hnm hq => ?_)
  refine C.iload_n dJ0_checkIndex_df160_0 0 rfl ?_
  refine C.iload_n dJ0_checkIndex_df160_1 1 rfl ?_
  refine C.strQ dJ0_checkIndex_df160_2 (fun v hv => ?_)
  refine C.callSI lJ0_1059 dJ0_checkIndex_df160_5 (kj_check3 hab hb hv) rfl rfl (Nat.le_of_ble_eq_true rfl) (Nat.zero_le _) (Nat.zero_le _) (Nat.le_of_ble_eq_true rfl) (fun x μ1 h => ?_)
  obtain ⟨rfl, rfl⟩ := h
  refine C.pop dJ0_checkIndex_df160_8 rfl ?_
  exact C.vret hq dJ0_checkIndex_df160_9 rfl
theorem litN_le : ∀ i : Fin 2, litN.getD i.val 0 ≤ 164 := by decide +kernel
theorem kj_charL {i j : Nat} (hi : i < 2) (hj : j < litN.getD i 0) : AMet l G 2 0 0 mtJ1_charAt_3b067 [.ref (sV G i), .int (nI j)] μ (qI (fun x μ' => x = litC i j ∧ μ' = μ)) := by
  have h164 := litN_le ⟨i, hi⟩
  dsimp only at h164
  have hc := litC_ok ⟨i, hi⟩ ⟨j, by omega⟩
  dsimp only at hc
  refine AMet.ofF (by decide +kernel) (Nat.le_of_ble_eq_true rfl) (fun X C hX hnm hq => ?_)
  refine C.iload_n dJ1_charAt_3b067_0 1 rfl ?_
  refine C.aload_n dJ1_charAt_3b067_1 0 rfl ?_
  refine C.strL hi dJ1_charAt_3b067_2 ?_
  refine C.callSV lJ1_9 dJ1_charAt_3b067_3 (kj_check hj (by omega)) rfl rfl (Nat.le_of_ble_eq_true rfl) (Nat.zero_le _) (Nat.zero_le _) (Nat.le_of_ble_eq_true rfl) (fun μ1 h => ?_)
  subst h
  refine C.aload_n dJ1_charAt_3b067_6 0 rfl ?_
  refine C.iload_n dJ1_charAt_3b067_7 1 rfl ?_
  refine C.strB hi (n_in hj) dJ1_charAt_3b067_8 ?_
  rw [n_cl]
  refine C.sipush 255 dJ1_charAt_3b067_9 (by decide) ?_
  refine C.iand dJ1_charAt_3b067_12 ?_
  refine C.i2c dJ1_charAt_3b067_13 ?_
  rw [hc.1]
  exact C.nret hq dJ1_charAt_3b067_14 (congrArg Value.int hc.2) ⟨rfl, rfl⟩
theorem kj_charAt {i j : Nat} (hi : i < 2) (hj : j < litN.getD i 0) : AMet l G 3 0 0 mtJ0_charAt_5068e [.ref (sK G i), .int (nI j)] μ (qI (fun x μ' => x = litC i j ∧ μ' = μ)) := by
  have h164 := litN_le ⟨i, hi⟩
  dsimp only at h164
  have hc := litC_ok ⟨i, hi⟩ ⟨j, by omega⟩
  dsimp only at hc
  refine AMet.ofF (by decide +kernel) (Nat.le_of_ble_eq_true rfl) (fun X C hX hnm hq => ?_)
  refine C.aload_n dJ0_charAt_5068e_0 0 rfl ?_
  refine C.callJI lJ_lat dJ0_charAt_5068e_1 (kj_isLatin1 hi) hi rfl rfl (Nat.le_of_ble_eq_true rfl) (Nat.zero_le _) (Nat.zero_le _) (Nat.le_of_ble_eq_true rfl) (fun x μ1 h => ?_)
  obtain ⟨rfl, rfl⟩ := h
  refine C.if_eq 16 dJ0_charAt_5068e_4 rfl (fun h => absurd h (by decide)) (fun h => ?_)
  refine C.aload_n dJ0_charAt_5068e_7 0 rfl ?_
  refine C.strV hi dJ0_charAt_5068e_8 ?_
  refine C.iload_n dJ0_charAt_5068e_11 1 rfl ?_
  refine C.callSI lJ0_495 dJ0_charAt_5068e_12 (kj_charL hi hj) rfl rfl (Nat.le_of_ble_eq_true rfl) (Nat.zero_le _) (Nat.zero_le _) (Nat.le_of_ble_eq_true rfl) (fun x μ1 h => ?_)
  obtain ⟨rfl, rfl⟩ := h
  exact C.nret hq dJ0_charAt_5068e_15 (congrArg Value.int hc.2) ⟨rfl, rfl⟩
end STR
