/-! the reference's own words and names -/

def ownL : List (List Nat) := (wdT.take 33).map (·.2)
def isOwn (tx : Nat → Nat) (e q : Nat) (en : Int32) : Bool := ownL.any (fun ws => hereW tx e q en ws)
section KM4
variable {l : Launch} {G : Gm} {μ : Mm} {tx : Nat → Nat} {e : Nat}
theorem kp_here0 (hS : ShM μ) (hW : WdM μ) (hT : TxM μ tx e) {s : Ps} (hp : s.1 ≤ e) (hb : s.2.2.1 = 0) (hk : sk tx e s.1 = s.1) {a : Nat} {ws : List Nat} (hm : (a, ws) ∈ wdT) : AMet l G 1 0 0 mtX13_isHere [.ref (G.1 + 179), .ref (G.1 + a)] (pw μ s) (qI (fun x μ' => x = bI (hereW tx e s.1 s.2.1 ws) ∧ μ' = pw μ s)) := by
  have h := kp_here (l := l) (G := G) hS hW hT hp hm
  unfold mHere mLook at h
  rw [if_pos hb, hk] at h
  exact h
theorem kp_isOwnHere (hS : ShM μ) (hW : WdM μ) (hT : TxM μ tx e) {s : Ps} (hp : s.1 ≤ e) (hb : s.2.2.1 = 0) (hk : sk tx e s.1 = s.1) : AMet l G 2 0 0 mtX13_isOwnHere [.ref (G.1 + 179)] (pw μ s) (qI (fun x μ' => x = bI (isOwn tx e s.1 s.2.1) ∧ μ' = pw μ s)) := by
  refine AMet.of (by decide) (Nat.le_of_ble_eq_true rfl) (fun X C hX hnm hq => ?_)
  have hS1 := hS
  have hS : ShM (pw μ s) := hS1.pw _
  have yes : ∀ i, i < 33 → hereW tx e s.1 s.2.1 (ownL.getD i []) = true → isOwn tx e s.1 s.2.1 = true := fun i hi h => List.any_eq_true.mpr ⟨ownL.getD i [], by
    have hl : i < ownL.length := hi
    rw [List.getD_eq_getElem?_getD, List.getElem?_eq_getElem hl]
    exact List.getElem_mem hl, h⟩
  have tru : ∀ b : Bool, ¬ bI b = 0 → b = true := fun b h => by cases b; exact absurd rfl h; rfl
  have fls : ∀ b : Bool, ¬ ¬ bI b = 0 → b = false := fun b h => (bI_0 b).mp (by simpa using h)
  have T413 : ∀ z : Int32, isOwn tx e s.1 s.2.1 = true → AW l G X 0 0 413 [(0, .ref (G.1 + 179)), (1, .int z)] [] (pw μ s) := by
    intro z ho
    refine C.iconst (nI 1) dX13_isOwnHere_413 (by decide) ?_
    refine C.goto 418 dX13_isOwnHere_414 rfl ?_
    refine C.istore_n (lv' := [(0, _), (1, _)]) dX13_isOwnHere_418 (nLt hX rfl) rfl ?_
    refine C.iload_n dX13_isOwnHere_419 1 rfl ?_
    refine C.zret hq dX13_isOwnHere_420 (by decide) ?_
    rw [ho]
    exact ⟨rfl, rfl⟩
  have T370 : ∀ z : Int32, isOwn tx e s.1 s.2.1 = true → AW l G X 0 0 370 [(0, .ref (G.1 + 179)), (1, .int z)] [] (pw μ s) := by
    intro z ho
    refine C.iconst (nI 1) dX13_isOwnHere_370 (by decide) ?_
    refine C.goto 375 dX13_isOwnHere_371 rfl ?_
    refine C.istore_n (lv' := [(0, _), (1, _)]) dX13_isOwnHere_375 (nLt hX rfl) rfl ?_
    refine C.iload_n dX13_isOwnHere_376 1 rfl ?_
    refine C.if_ne 413 dX13_isOwnHere_377 rfl (fun hc377 => ?_) (fun hc377 => ?_)
    · exact T413 _ ho
    · exact absurd (by simpa using hc377) (by decide : ¬ nI 1 = 0)
  have T294 : ∀ z : Int32, isOwn tx e s.1 s.2.1 = true → AW l G X 0 0 294 [(0, .ref (G.1 + 179)), (1, .int z)] [] (pw μ s) := by
    intro z ho
    refine C.iconst (nI 1) dX13_isOwnHere_294 (by decide) ?_
    refine C.goto 299 dX13_isOwnHere_295 rfl ?_
    refine C.istore_n (lv' := [(0, _), (1, _)]) dX13_isOwnHere_299 (nLt hX rfl) rfl ?_
    refine C.iload_n dX13_isOwnHere_300 1 rfl ?_
    refine C.if_ne 370 dX13_isOwnHere_301 rfl (fun hc301 => ?_) (fun hc301 => ?_)
    · exact T370 _ ho
    · exact absurd (by simpa using hc301) (by decide : ¬ nI 1 = 0)
  have T218 : ∀ z : Int32, isOwn tx e s.1 s.2.1 = true → AW l G X 0 0 218 [(0, .ref (G.1 + 179)), (1, .int z)] [] (pw μ s) := by
    intro z ho
    refine C.iconst (nI 1) dX13_isOwnHere_218 (by decide) ?_
    refine C.goto 223 dX13_isOwnHere_219 rfl ?_
    refine C.istore_n (lv' := [(0, _), (1, _)]) dX13_isOwnHere_223 (nLt hX rfl) rfl ?_
    refine C.iload_n dX13_isOwnHere_224 1 rfl ?_
    refine C.if_ne 294 dX13_isOwnHere_225 rfl (fun hc225 => ?_) (fun hc225 => ?_)
    · exact T294 _ ho
    · exact absurd (by simpa using hc225) (by decide : ¬ nI 1 = 0)
  have T142 : ∀ z : Int32, isOwn tx e s.1 s.2.1 = true → AW l G X 0 0 142 [(0, .ref (G.1 + 179)), (1, .int z)] [] (pw μ s) := by
    intro z ho
    refine C.iconst (nI 1) dX13_isOwnHere_142 (by decide) ?_
    refine C.goto 147 dX13_isOwnHere_143 rfl ?_
    refine C.istore_n (lv' := [(0, _), (1, _)]) dX13_isOwnHere_147 (nLt hX rfl) rfl ?_
    refine C.iload_n dX13_isOwnHere_148 1 rfl ?_
    refine C.if_ne 218 dX13_isOwnHere_149 rfl (fun hc149 => ?_) (fun hc149 => ?_)
    · exact T218 _ ho
    · exact absurd (by simpa using hc149) (by decide : ¬ nI 1 = 0)
  have T66 : isOwn tx e s.1 s.2.1 = true → AW l G X 0 0 66 [(0, .ref (G.1 + 179))] [] (pw μ s) := by
    intro ho
    refine C.iconst (nI 1) dX13_isOwnHere_66 (by decide) ?_
    refine C.goto 71 dX13_isOwnHere_67 rfl ?_
    refine C.istore_n (lv' := [(0, _), (1, _)]) dX13_isOwnHere_71 (nLt hX rfl) rfl ?_
    refine C.iload_n dX13_isOwnHere_72 1 rfl ?_
    refine C.if_ne 142 dX13_isOwnHere_73 rfl (fun hc73 => ?_) (fun hc73 => ?_)
    · exact T142 _ ho
    · exact absurd (by simpa using hc73) (by decide : ¬ nI 1 = 0)
  refine C.aload_n dX13_isOwnHere_0 0 rfl ?_
  refine C.aload_n dX13_isOwnHere_1 0 rfl ?_
  refine C.getA fX13_20 dX13_isOwnHere_2 hS.o hS.r11 ?_
  refine C.callVI lX13_287 dX13_isOwnHere_5 (kp_here0 hS1 hW hT hp hb hk (List.mem_of_getElem? (l := wdT) (i := 0) rfl)) hS.o rfl rfl (Nat.le_of_ble_eq_true rfl) (Nat.zero_le _) (Nat.zero_le _) (Nat.le_of_ble_eq_true rfl) (fun x5 μ5 h5 => ?_)
  obtain ⟨rfl, rfl⟩ := h5
  refine C.if_ne 66 dX13_isOwnHere_8 rfl (fun hc8 => ?_) (fun hc8 => ?_)
  · exact T66 (yes 0 (by decide) (tru _ hc8))
  · have w0 := (bI_0 _).mp (show _ = 0 by simpa using hc8)
    refine C.aload_n dX13_isOwnHere_11 0 rfl ?_
    refine C.aload_n dX13_isOwnHere_12 0 rfl ?_
    refine C.getA fX13_24 dX13_isOwnHere_13 hS.o hS.r12 ?_
    refine C.callVI lX13_287 dX13_isOwnHere_16 (kp_here0 hS1 hW hT hp hb hk (List.mem_of_getElem? (l := wdT) (i := 1) rfl)) hS.o rfl rfl (Nat.le_of_ble_eq_true rfl) (Nat.zero_le _) (Nat.zero_le _) (Nat.le_of_ble_eq_true rfl) (fun x16 μ16 h16 => ?_)
    obtain ⟨rfl, rfl⟩ := h16
    refine C.if_ne 66 dX13_isOwnHere_19 rfl (fun hc19 => ?_) (fun hc19 => ?_)
    · exact T66 (yes 1 (by decide) (tru _ hc19))
    · have w1 := (bI_0 _).mp (show _ = 0 by simpa using hc19)
      refine C.aload_n dX13_isOwnHere_22 0 rfl ?_
      refine C.aload_n dX13_isOwnHere_23 0 rfl ?_
      refine C.getA fX13_27 dX13_isOwnHere_24 hS.o hS.r13 ?_
      refine C.callVI lX13_287 dX13_isOwnHere_27 (kp_here0 hS1 hW hT hp hb hk (List.mem_of_getElem? (l := wdT) (i := 2) rfl)) hS.o rfl rfl (Nat.le_of_ble_eq_true rfl) (Nat.zero_le _) (Nat.zero_le _) (Nat.le_of_ble_eq_true rfl) (fun x27 μ27 h27 => ?_)
      obtain ⟨rfl, rfl⟩ := h27
      refine C.if_ne 66 dX13_isOwnHere_30 rfl (fun hc30 => ?_) (fun hc30 => ?_)
      · exact T66 (yes 2 (by decide) (tru _ hc30))
      · have w2 := (bI_0 _).mp (show _ = 0 by simpa using hc30)
        refine C.aload_n dX13_isOwnHere_33 0 rfl ?_
        refine C.aload_n dX13_isOwnHere_34 0 rfl ?_
        refine C.getA fX13_30 dX13_isOwnHere_35 hS.o hS.r14 ?_
        refine C.callVI lX13_287 dX13_isOwnHere_38 (kp_here0 hS1 hW hT hp hb hk (List.mem_of_getElem? (l := wdT) (i := 3) rfl)) hS.o rfl rfl (Nat.le_of_ble_eq_true rfl) (Nat.zero_le _) (Nat.zero_le _) (Nat.le_of_ble_eq_true rfl) (fun x38 μ38 h38 => ?_)
        obtain ⟨rfl, rfl⟩ := h38
        refine C.if_ne 66 dX13_isOwnHere_41 rfl (fun hc41 => ?_) (fun hc41 => ?_)
        · exact T66 (yes 3 (by decide) (tru _ hc41))
        · have w3 := (bI_0 _).mp (show _ = 0 by simpa using hc41)
          refine C.aload_n dX13_isOwnHere_44 0 rfl ?_
          refine C.aload_n dX13_isOwnHere_45 0 rfl ?_
          refine C.getA fX13_33 dX13_isOwnHere_46 hS.o hS.r15 ?_
          refine C.callVI lX13_287 dX13_isOwnHere_49 (kp_here0 hS1 hW hT hp hb hk (List.mem_of_getElem? (l := wdT) (i := 4) rfl)) hS.o rfl rfl (Nat.le_of_ble_eq_true rfl) (Nat.zero_le _) (Nat.zero_le _) (Nat.le_of_ble_eq_true rfl) (fun x49 μ49 h49 => ?_)
          obtain ⟨rfl, rfl⟩ := h49
          refine C.if_ne 66 dX13_isOwnHere_52 rfl (fun hc52 => ?_) (fun hc52 => ?_)
          · exact T66 (yes 4 (by decide) (tru _ hc52))
          · have w4 := (bI_0 _).mp (show _ = 0 by simpa using hc52)
            refine C.aload_n dX13_isOwnHere_55 0 rfl ?_
            refine C.aload_n dX13_isOwnHere_56 0 rfl ?_
            refine C.getA fX13_36 dX13_isOwnHere_57 hS.o hS.r16 ?_
            refine C.callVI lX13_287 dX13_isOwnHere_60 (kp_here0 hS1 hW hT hp hb hk (List.mem_of_getElem? (l := wdT) (i := 5) rfl)) hS.o rfl rfl (Nat.le_of_ble_eq_true rfl) (Nat.zero_le _) (Nat.zero_le _) (Nat.le_of_ble_eq_true rfl) (fun x60 μ60 h60 => ?_)
            obtain ⟨rfl, rfl⟩ := h60
            refine C.if_eq 70 dX13_isOwnHere_63 rfl (fun hc63 => ?_) (fun hc63 => ?_)
            · have w5 := (bI_0 _).mp hc63
              refine C.iconst (nI 0) dX13_isOwnHere_70 (by decide) ?_
              refine C.istore_n (lv' := [(0, _), (1, _)]) dX13_isOwnHere_71 (nLt hX rfl) rfl ?_
              refine C.iload_n dX13_isOwnHere_72 1 rfl ?_
              refine C.if_ne 142 dX13_isOwnHere_73 rfl (fun hc73 => ?_) (fun hc73 => ?_)
              · exact absurd (show nI 0 = 0 from rfl) hc73
              · refine C.aload_n dX13_isOwnHere_76 0 rfl ?_
                refine C.aload_n dX13_isOwnHere_77 0 rfl ?_
                refine C.getA fX13_39 dX13_isOwnHere_78 hS.o hS.r17 ?_
                refine C.callVI lX13_287 dX13_isOwnHere_81 (kp_here0 hS1 hW hT hp hb hk (List.mem_of_getElem? (l := wdT) (i := 6) rfl)) hS.o rfl rfl (Nat.le_of_ble_eq_true rfl) (Nat.zero_le _) (Nat.zero_le _) (Nat.le_of_ble_eq_true rfl) (fun x81 μ81 h81 => ?_)
                obtain ⟨rfl, rfl⟩ := h81
                refine C.if_ne 142 dX13_isOwnHere_84 rfl (fun hc84 => ?_) (fun hc84 => ?_)
                · exact T142 _ (yes 6 (by decide) (tru _ hc84))
                · have w6 := (bI_0 _).mp (show _ = 0 by simpa using hc84)
                  refine C.aload_n dX13_isOwnHere_87 0 rfl ?_
                  refine C.aload_n dX13_isOwnHere_88 0 rfl ?_
                  refine C.getA fX13_42 dX13_isOwnHere_89 hS.o hS.r18 ?_
                  refine C.callVI lX13_287 dX13_isOwnHere_92 (kp_here0 hS1 hW hT hp hb hk (List.mem_of_getElem? (l := wdT) (i := 7) rfl)) hS.o rfl rfl (Nat.le_of_ble_eq_true rfl) (Nat.zero_le _) (Nat.zero_le _) (Nat.le_of_ble_eq_true rfl) (fun x92 μ92 h92 => ?_)
                  obtain ⟨rfl, rfl⟩ := h92
                  refine C.if_ne 142 dX13_isOwnHere_95 rfl (fun hc95 => ?_) (fun hc95 => ?_)
                  · exact T142 _ (yes 7 (by decide) (tru _ hc95))
                  · have w7 := (bI_0 _).mp (show _ = 0 by simpa using hc95)
                    refine C.aload_n dX13_isOwnHere_98 0 rfl ?_
                    refine C.aload_n dX13_isOwnHere_99 0 rfl ?_
                    refine C.getA fX13_45 dX13_isOwnHere_100 hS.o hS.r19 ?_
                    refine C.callVI lX13_287 dX13_isOwnHere_103 (kp_here0 hS1 hW hT hp hb hk (List.mem_of_getElem? (l := wdT) (i := 8) rfl)) hS.o rfl rfl (Nat.le_of_ble_eq_true rfl) (Nat.zero_le _) (Nat.zero_le _) (Nat.le_of_ble_eq_true rfl) (fun x103 μ103 h103 => ?_)
                    obtain ⟨rfl, rfl⟩ := h103
                    refine C.if_ne 142 dX13_isOwnHere_106 rfl (fun hc106 => ?_) (fun hc106 => ?_)
                    · exact T142 _ (yes 8 (by decide) (tru _ hc106))
                    · have w8 := (bI_0 _).mp (show _ = 0 by simpa using hc106)
                      refine C.aload_n dX13_isOwnHere_109 0 rfl ?_
                      refine C.aload_n dX13_isOwnHere_110 0 rfl ?_
                      refine C.getA fX13_48 dX13_isOwnHere_111 hS.o hS.r20 ?_
                      refine C.callVI lX13_287 dX13_isOwnHere_114 (kp_here0 hS1 hW hT hp hb hk (List.mem_of_getElem? (l := wdT) (i := 9) rfl)) hS.o rfl rfl (Nat.le_of_ble_eq_true rfl) (Nat.zero_le _) (Nat.zero_le _) (Nat.le_of_ble_eq_true rfl) (fun x114 μ114 h114 => ?_)
                      obtain ⟨rfl, rfl⟩ := h114
                      refine C.if_ne 142 dX13_isOwnHere_117 rfl (fun hc117 => ?_) (fun hc117 => ?_)
                      · exact T142 _ (yes 9 (by decide) (tru _ hc117))
                      · have w9 := (bI_0 _).mp (show _ = 0 by simpa using hc117)
                        refine C.aload_n dX13_isOwnHere_120 0 rfl ?_
                        refine C.aload_n dX13_isOwnHere_121 0 rfl ?_
                        refine C.getA fX13_51 dX13_isOwnHere_122 hS.o hS.r21 ?_
                        refine C.callVI lX13_287 dX13_isOwnHere_125 (kp_here0 hS1 hW hT hp hb hk (List.mem_of_getElem? (l := wdT) (i := 10) rfl)) hS.o rfl rfl (Nat.le_of_ble_eq_true rfl) (Nat.zero_le _) (Nat.zero_le _) (Nat.le_of_ble_eq_true rfl) (fun x125 μ125 h125 => ?_)
                        obtain ⟨rfl, rfl⟩ := h125
                        refine C.if_ne 142 dX13_isOwnHere_128 rfl (fun hc128 => ?_) (fun hc128 => ?_)
                        · exact T142 _ (yes 10 (by decide) (tru _ hc128))
                        · have w10 := (bI_0 _).mp (show _ = 0 by simpa using hc128)
                          refine C.aload_n dX13_isOwnHere_131 0 rfl ?_
                          refine C.aload_n dX13_isOwnHere_132 0 rfl ?_
                          refine C.getA fX13_54 dX13_isOwnHere_133 hS.o hS.r22 ?_
                          refine C.callVI lX13_287 dX13_isOwnHere_136 (kp_here0 hS1 hW hT hp hb hk (List.mem_of_getElem? (l := wdT) (i := 11) rfl)) hS.o rfl rfl (Nat.le_of_ble_eq_true rfl) (Nat.zero_le _) (Nat.zero_le _) (Nat.le_of_ble_eq_true rfl) (fun x136 μ136 h136 => ?_)
                          obtain ⟨rfl, rfl⟩ := h136
                          refine C.if_eq 146 dX13_isOwnHere_139 rfl (fun hc139 => ?_) (fun hc139 => ?_)
                          · have w11 := (bI_0 _).mp hc139
                            refine C.iconst (nI 0) dX13_isOwnHere_146 (by decide) ?_
                            refine C.istore_n (lv' := [(0, _), (1, _)]) dX13_isOwnHere_147 (nLt hX rfl) rfl ?_
                            refine C.iload_n dX13_isOwnHere_148 1 rfl ?_
                            refine C.if_ne 218 dX13_isOwnHere_149 rfl (fun hc149 => ?_) (fun hc149 => ?_)
                            · exact absurd (show nI 0 = 0 from rfl) hc149
                            · refine C.aload_n dX13_isOwnHere_152 0 rfl ?_
                              refine C.aload_n dX13_isOwnHere_153 0 rfl ?_
                              refine C.getA fX13_57 dX13_isOwnHere_154 hS.o hS.r23 ?_
                              refine C.callVI lX13_287 dX13_isOwnHere_157 (kp_here0 hS1 hW hT hp hb hk (List.mem_of_getElem? (l := wdT) (i := 12) rfl)) hS.o rfl rfl (Nat.le_of_ble_eq_true rfl) (Nat.zero_le _) (Nat.zero_le _) (Nat.le_of_ble_eq_true rfl) (fun x157 μ157 h157 => ?_)
                              obtain ⟨rfl, rfl⟩ := h157
                              refine C.if_ne 218 dX13_isOwnHere_160 rfl (fun hc160 => ?_) (fun hc160 => ?_)
                              · exact T218 _ (yes 12 (by decide) (tru _ hc160))
                              · have w12 := (bI_0 _).mp (show _ = 0 by simpa using hc160)
                                refine C.aload_n dX13_isOwnHere_163 0 rfl ?_
                                refine C.aload_n dX13_isOwnHere_164 0 rfl ?_
                                refine C.getA fX13_60 dX13_isOwnHere_165 hS.o hS.r24 ?_
                                refine C.callVI lX13_287 dX13_isOwnHere_168 (kp_here0 hS1 hW hT hp hb hk (List.mem_of_getElem? (l := wdT) (i := 13) rfl)) hS.o rfl rfl (Nat.le_of_ble_eq_true rfl) (Nat.zero_le _) (Nat.zero_le _) (Nat.le_of_ble_eq_true rfl) (fun x168 μ168 h168 => ?_)
                                obtain ⟨rfl, rfl⟩ := h168
                                refine C.if_ne 218 dX13_isOwnHere_171 rfl (fun hc171 => ?_) (fun hc171 => ?_)
                                · exact T218 _ (yes 13 (by decide) (tru _ hc171))
                                · have w13 := (bI_0 _).mp (show _ = 0 by simpa using hc171)
                                  refine C.aload_n dX13_isOwnHere_174 0 rfl ?_
                                  refine C.aload_n dX13_isOwnHere_175 0 rfl ?_
                                  refine C.getA fX13_63 dX13_isOwnHere_176 hS.o hS.r25 ?_
                                  refine C.callVI lX13_287 dX13_isOwnHere_179 (kp_here0 hS1 hW hT hp hb hk (List.mem_of_getElem? (l := wdT) (i := 14) rfl)) hS.o rfl rfl (Nat.le_of_ble_eq_true rfl) (Nat.zero_le _) (Nat.zero_le _) (Nat.le_of_ble_eq_true rfl) (fun x179 μ179 h179 => ?_)
                                  obtain ⟨rfl, rfl⟩ := h179
                                  refine C.if_ne 218 dX13_isOwnHere_182 rfl (fun hc182 => ?_) (fun hc182 => ?_)
                                  · exact T218 _ (yes 14 (by decide) (tru _ hc182))
                                  · have w14 := (bI_0 _).mp (show _ = 0 by simpa using hc182)
                                    refine C.aload_n dX13_isOwnHere_185 0 rfl ?_
                                    refine C.aload_n dX13_isOwnHere_186 0 rfl ?_
                                    refine C.getA fX13_66 dX13_isOwnHere_187 hS.o hS.r26 ?_
                                    refine C.callVI lX13_287 dX13_isOwnHere_190 (kp_here0 hS1 hW hT hp hb hk (List.mem_of_getElem? (l := wdT) (i := 15) rfl)) hS.o rfl rfl (Nat.le_of_ble_eq_true rfl) (Nat.zero_le _) (Nat.zero_le _) (Nat.le_of_ble_eq_true rfl) (fun x190 μ190 h190 => ?_)
                                    obtain ⟨rfl, rfl⟩ := h190
                                    refine C.if_ne 218 dX13_isOwnHere_193 rfl (fun hc193 => ?_) (fun hc193 => ?_)
                                    · exact T218 _ (yes 15 (by decide) (tru _ hc193))
                                    · have w15 := (bI_0 _).mp (show _ = 0 by simpa using hc193)
                                      refine C.aload_n dX13_isOwnHere_196 0 rfl ?_
                                      refine C.aload_n dX13_isOwnHere_197 0 rfl ?_
                                      refine C.getA fX13_69 dX13_isOwnHere_198 hS.o hS.r27 ?_
                                      refine C.callVI lX13_287 dX13_isOwnHere_201 (kp_here0 hS1 hW hT hp hb hk (List.mem_of_getElem? (l := wdT) (i := 16) rfl)) hS.o rfl rfl (Nat.le_of_ble_eq_true rfl) (Nat.zero_le _) (Nat.zero_le _) (Nat.le_of_ble_eq_true rfl) (fun x201 μ201 h201 => ?_)
                                      obtain ⟨rfl, rfl⟩ := h201
                                      refine C.if_ne 218 dX13_isOwnHere_204 rfl (fun hc204 => ?_) (fun hc204 => ?_)
                                      · exact T218 _ (yes 16 (by decide) (tru _ hc204))
                                      · have w16 := (bI_0 _).mp (show _ = 0 by simpa using hc204)
                                        refine C.aload_n dX13_isOwnHere_207 0 rfl ?_
                                        refine C.aload_n dX13_isOwnHere_208 0 rfl ?_
                                        refine C.getA fX13_72 dX13_isOwnHere_209 hS.o hS.r28 ?_
                                        refine C.callVI lX13_287 dX13_isOwnHere_212 (kp_here0 hS1 hW hT hp hb hk (List.mem_of_getElem? (l := wdT) (i := 17) rfl)) hS.o rfl rfl (Nat.le_of_ble_eq_true rfl) (Nat.zero_le _) (Nat.zero_le _) (Nat.le_of_ble_eq_true rfl) (fun x212 μ212 h212 => ?_)
                                        obtain ⟨rfl, rfl⟩ := h212
                                        refine C.if_eq 222 dX13_isOwnHere_215 rfl (fun hc215 => ?_) (fun hc215 => ?_)
                                        · have w17 := (bI_0 _).mp hc215
                                          refine C.iconst (nI 0) dX13_isOwnHere_222 (by decide) ?_
                                          refine C.istore_n (lv' := [(0, _), (1, _)]) dX13_isOwnHere_223 (nLt hX rfl) rfl ?_
                                          refine C.iload_n dX13_isOwnHere_224 1 rfl ?_
                                          refine C.if_ne 294 dX13_isOwnHere_225 rfl (fun hc225 => ?_) (fun hc225 => ?_)
                                          · exact absurd (show nI 0 = 0 from rfl) hc225
                                          · refine C.aload_n dX13_isOwnHere_228 0 rfl ?_
                                            refine C.aload_n dX13_isOwnHere_229 0 rfl ?_
                                            refine C.getA fX13_75 dX13_isOwnHere_230 hS.o hS.r29 ?_
                                            refine C.callVI lX13_287 dX13_isOwnHere_233 (kp_here0 hS1 hW hT hp hb hk (List.mem_of_getElem? (l := wdT) (i := 18) rfl)) hS.o rfl rfl (Nat.le_of_ble_eq_true rfl) (Nat.zero_le _) (Nat.zero_le _) (Nat.le_of_ble_eq_true rfl) (fun x233 μ233 h233 => ?_)
                                            obtain ⟨rfl, rfl⟩ := h233
                                            refine C.if_ne 294 dX13_isOwnHere_236 rfl (fun hc236 => ?_) (fun hc236 => ?_)
                                            · exact T294 _ (yes 18 (by decide) (tru _ hc236))
                                            · have w18 := (bI_0 _).mp (show _ = 0 by simpa using hc236)
                                              refine C.aload_n dX13_isOwnHere_239 0 rfl ?_
                                              refine C.aload_n dX13_isOwnHere_240 0 rfl ?_
                                              refine C.getA fX13_78 dX13_isOwnHere_241 hS.o hS.r30 ?_
                                              refine C.callVI lX13_287 dX13_isOwnHere_244 (kp_here0 hS1 hW hT hp hb hk (List.mem_of_getElem? (l := wdT) (i := 19) rfl)) hS.o rfl rfl (Nat.le_of_ble_eq_true rfl) (Nat.zero_le _) (Nat.zero_le _) (Nat.le_of_ble_eq_true rfl) (fun x244 μ244 h244 => ?_)
                                              obtain ⟨rfl, rfl⟩ := h244
                                              refine C.if_ne 294 dX13_isOwnHere_247 rfl (fun hc247 => ?_) (fun hc247 => ?_)
                                              · exact T294 _ (yes 19 (by decide) (tru _ hc247))
                                              · have w19 := (bI_0 _).mp (show _ = 0 by simpa using hc247)
                                                refine C.aload_n dX13_isOwnHere_250 0 rfl ?_
                                                refine C.aload_n dX13_isOwnHere_251 0 rfl ?_
                                                refine C.getA fX13_81 dX13_isOwnHere_252 hS.o hS.r31 ?_
                                                refine C.callVI lX13_287 dX13_isOwnHere_255 (kp_here0 hS1 hW hT hp hb hk (List.mem_of_getElem? (l := wdT) (i := 20) rfl)) hS.o rfl rfl (Nat.le_of_ble_eq_true rfl) (Nat.zero_le _) (Nat.zero_le _) (Nat.le_of_ble_eq_true rfl) (fun x255 μ255 h255 => ?_)
                                                obtain ⟨rfl, rfl⟩ := h255
                                                refine C.if_ne 294 dX13_isOwnHere_258 rfl (fun hc258 => ?_) (fun hc258 => ?_)
                                                · exact T294 _ (yes 20 (by decide) (tru _ hc258))
                                                · have w20 := (bI_0 _).mp (show _ = 0 by simpa using hc258)
                                                  refine C.aload_n dX13_isOwnHere_261 0 rfl ?_
                                                  refine C.aload_n dX13_isOwnHere_262 0 rfl ?_
                                                  refine C.getA fX13_84 dX13_isOwnHere_263 hS.o hS.r32 ?_
                                                  refine C.callVI lX13_287 dX13_isOwnHere_266 (kp_here0 hS1 hW hT hp hb hk (List.mem_of_getElem? (l := wdT) (i := 21) rfl)) hS.o rfl rfl (Nat.le_of_ble_eq_true rfl) (Nat.zero_le _) (Nat.zero_le _) (Nat.le_of_ble_eq_true rfl) (fun x266 μ266 h266 => ?_)
                                                  obtain ⟨rfl, rfl⟩ := h266
                                                  refine C.if_ne 294 dX13_isOwnHere_269 rfl (fun hc269 => ?_) (fun hc269 => ?_)
                                                  · exact T294 _ (yes 21 (by decide) (tru _ hc269))
                                                  · have w21 := (bI_0 _).mp (show _ = 0 by simpa using hc269)
                                                    refine C.aload_n dX13_isOwnHere_272 0 rfl ?_
                                                    refine C.aload_n dX13_isOwnHere_273 0 rfl ?_
                                                    refine C.getA fX13_87 dX13_isOwnHere_274 hS.o hS.r33 ?_
                                                    refine C.callVI lX13_287 dX13_isOwnHere_277 (kp_here0 hS1 hW hT hp hb hk (List.mem_of_getElem? (l := wdT) (i := 22) rfl)) hS.o rfl rfl (Nat.le_of_ble_eq_true rfl) (Nat.zero_le _) (Nat.zero_le _) (Nat.le_of_ble_eq_true rfl) (fun x277 μ277 h277 => ?_)
                                                    obtain ⟨rfl, rfl⟩ := h277
                                                    refine C.if_ne 294 dX13_isOwnHere_280 rfl (fun hc280 => ?_) (fun hc280 => ?_)
                                                    · exact T294 _ (yes 22 (by decide) (tru _ hc280))
                                                    · have w22 := (bI_0 _).mp (show _ = 0 by simpa using hc280)
                                                      refine C.aload_n dX13_isOwnHere_283 0 rfl ?_
                                                      refine C.aload_n dX13_isOwnHere_284 0 rfl ?_
                                                      refine C.getA fX13_90 dX13_isOwnHere_285 hS.o hS.r34 ?_
                                                      refine C.callVI lX13_287 dX13_isOwnHere_288 (kp_here0 hS1 hW hT hp hb hk (List.mem_of_getElem? (l := wdT) (i := 23) rfl)) hS.o rfl rfl (Nat.le_of_ble_eq_true rfl) (Nat.zero_le _) (Nat.zero_le _) (Nat.le_of_ble_eq_true rfl) (fun x288 μ288 h288 => ?_)
                                                      obtain ⟨rfl, rfl⟩ := h288
                                                      refine C.if_eq 298 dX13_isOwnHere_291 rfl (fun hc291 => ?_) (fun hc291 => ?_)
                                                      · have w23 := (bI_0 _).mp hc291
                                                        refine C.iconst (nI 0) dX13_isOwnHere_298 (by decide) ?_
                                                        refine C.istore_n (lv' := [(0, _), (1, _)]) dX13_isOwnHere_299 (nLt hX rfl) rfl ?_
                                                        refine C.iload_n dX13_isOwnHere_300 1 rfl ?_
                                                        refine C.if_ne 370 dX13_isOwnHere_301 rfl (fun hc301 => ?_) (fun hc301 => ?_)
                                                        · exact absurd (show nI 0 = 0 from rfl) hc301
                                                        · refine C.aload_n dX13_isOwnHere_304 0 rfl ?_
                                                          refine C.aload_n dX13_isOwnHere_305 0 rfl ?_
                                                          refine C.getA fX13_93 dX13_isOwnHere_306 hS.o hS.r35 ?_
                                                          refine C.callVI lX13_287 dX13_isOwnHere_309 (kp_here0 hS1 hW hT hp hb hk (List.mem_of_getElem? (l := wdT) (i := 24) rfl)) hS.o rfl rfl (Nat.le_of_ble_eq_true rfl) (Nat.zero_le _) (Nat.zero_le _) (Nat.le_of_ble_eq_true rfl) (fun x309 μ309 h309 => ?_)
                                                          obtain ⟨rfl, rfl⟩ := h309
                                                          refine C.if_ne 370 dX13_isOwnHere_312 rfl (fun hc312 => ?_) (fun hc312 => ?_)
                                                          · exact T370 _ (yes 24 (by decide) (tru _ hc312))
                                                          · have w24 := (bI_0 _).mp (show _ = 0 by simpa using hc312)
                                                            refine C.aload_n dX13_isOwnHere_315 0 rfl ?_
                                                            refine C.aload_n dX13_isOwnHere_316 0 rfl ?_
                                                            refine C.getA fX13_96 dX13_isOwnHere_317 hS.o hS.r36 ?_
                                                            refine C.callVI lX13_287 dX13_isOwnHere_320 (kp_here0 hS1 hW hT hp hb hk (List.mem_of_getElem? (l := wdT) (i := 25) rfl)) hS.o rfl rfl (Nat.le_of_ble_eq_true rfl) (Nat.zero_le _) (Nat.zero_le _) (Nat.le_of_ble_eq_true rfl) (fun x320 μ320 h320 => ?_)
                                                            obtain ⟨rfl, rfl⟩ := h320
                                                            refine C.if_ne 370 dX13_isOwnHere_323 rfl (fun hc323 => ?_) (fun hc323 => ?_)
                                                            · exact T370 _ (yes 25 (by decide) (tru _ hc323))
                                                            · have w25 := (bI_0 _).mp (show _ = 0 by simpa using hc323)
                                                              refine C.aload_n dX13_isOwnHere_326 0 rfl ?_
                                                              refine C.aload_n dX13_isOwnHere_327 0 rfl ?_
                                                              refine C.getA fX13_99 dX13_isOwnHere_328 hS.o hS.r37 ?_
                                                              refine C.callVI lX13_287 dX13_isOwnHere_331 (kp_here0 hS1 hW hT hp hb hk (List.mem_of_getElem? (l := wdT) (i := 26) rfl)) hS.o rfl rfl (Nat.le_of_ble_eq_true rfl) (Nat.zero_le _) (Nat.zero_le _) (Nat.le_of_ble_eq_true rfl) (fun x331 μ331 h331 => ?_)
                                                              obtain ⟨rfl, rfl⟩ := h331
                                                              refine C.if_ne 370 dX13_isOwnHere_334 rfl (fun hc334 => ?_) (fun hc334 => ?_)
                                                              · exact T370 _ (yes 26 (by decide) (tru _ hc334))
                                                              · have w26 := (bI_0 _).mp (show _ = 0 by simpa using hc334)
                                                                refine C.aload_n dX13_isOwnHere_337 0 rfl ?_
                                                                refine C.aload_n dX13_isOwnHere_338 0 rfl ?_
                                                                refine C.getA fX13_102 dX13_isOwnHere_339 hS.o hS.r38 ?_
                                                                refine C.callVI lX13_287 dX13_isOwnHere_342 (kp_here0 hS1 hW hT hp hb hk (List.mem_of_getElem? (l := wdT) (i := 27) rfl)) hS.o rfl rfl (Nat.le_of_ble_eq_true rfl) (Nat.zero_le _) (Nat.zero_le _) (Nat.le_of_ble_eq_true rfl) (fun x342 μ342 h342 => ?_)
                                                                obtain ⟨rfl, rfl⟩ := h342
                                                                refine C.if_ne 370 dX13_isOwnHere_345 rfl (fun hc345 => ?_) (fun hc345 => ?_)
                                                                · exact T370 _ (yes 27 (by decide) (tru _ hc345))
                                                                · have w27 := (bI_0 _).mp (show _ = 0 by simpa using hc345)
                                                                  refine C.aload_n dX13_isOwnHere_348 0 rfl ?_
                                                                  refine C.aload_n dX13_isOwnHere_349 0 rfl ?_
                                                                  refine C.getA fX13_105 dX13_isOwnHere_350 hS.o hS.r39 ?_
                                                                  refine C.callVI lX13_287 dX13_isOwnHere_353 (kp_here0 hS1 hW hT hp hb hk (List.mem_of_getElem? (l := wdT) (i := 28) rfl)) hS.o rfl rfl (Nat.le_of_ble_eq_true rfl) (Nat.zero_le _) (Nat.zero_le _) (Nat.le_of_ble_eq_true rfl) (fun x353 μ353 h353 => ?_)
                                                                  obtain ⟨rfl, rfl⟩ := h353
                                                                  refine C.if_ne 370 dX13_isOwnHere_356 rfl (fun hc356 => ?_) (fun hc356 => ?_)
                                                                  · exact T370 _ (yes 28 (by decide) (tru _ hc356))
                                                                  · have w28 := (bI_0 _).mp (show _ = 0 by simpa using hc356)
                                                                    refine C.aload_n dX13_isOwnHere_359 0 rfl ?_
                                                                    refine C.aload_n dX13_isOwnHere_360 0 rfl ?_
                                                                    refine C.getA fX13_108 dX13_isOwnHere_361 hS.o hS.r40 ?_
                                                                    refine C.callVI lX13_287 dX13_isOwnHere_364 (kp_here0 hS1 hW hT hp hb hk (List.mem_of_getElem? (l := wdT) (i := 29) rfl)) hS.o rfl rfl (Nat.le_of_ble_eq_true rfl) (Nat.zero_le _) (Nat.zero_le _) (Nat.le_of_ble_eq_true rfl) (fun x364 μ364 h364 => ?_)
                                                                    obtain ⟨rfl, rfl⟩ := h364
                                                                    refine C.if_eq 374 dX13_isOwnHere_367 rfl (fun hc367 => ?_) (fun hc367 => ?_)
                                                                    · have w29 := (bI_0 _).mp hc367
                                                                      refine C.iconst (nI 0) dX13_isOwnHere_374 (by decide) ?_
                                                                      refine C.istore_n (lv' := [(0, _), (1, _)]) dX13_isOwnHere_375 (nLt hX rfl) rfl ?_
                                                                      refine C.iload_n dX13_isOwnHere_376 1 rfl ?_
                                                                      refine C.if_ne 413 dX13_isOwnHere_377 rfl (fun hc377 => ?_) (fun hc377 => ?_)
                                                                      · exact absurd (show nI 0 = 0 from rfl) hc377
                                                                      · refine C.aload_n dX13_isOwnHere_380 0 rfl ?_
                                                                        refine C.aload_n dX13_isOwnHere_381 0 rfl ?_
                                                                        refine C.getA fX13_111 dX13_isOwnHere_382 hS.o hS.r41 ?_
                                                                        refine C.callVI lX13_287 dX13_isOwnHere_385 (kp_here0 hS1 hW hT hp hb hk (List.mem_of_getElem? (l := wdT) (i := 30) rfl)) hS.o rfl rfl (Nat.le_of_ble_eq_true rfl) (Nat.zero_le _) (Nat.zero_le _) (Nat.le_of_ble_eq_true rfl) (fun x385 μ385 h385 => ?_)
                                                                        obtain ⟨rfl, rfl⟩ := h385
                                                                        refine C.if_ne 413 dX13_isOwnHere_388 rfl (fun hc388 => ?_) (fun hc388 => ?_)
                                                                        · exact T413 _ (yes 30 (by decide) (tru _ hc388))
                                                                        · have w30 := (bI_0 _).mp (show _ = 0 by simpa using hc388)
                                                                          refine C.aload_n dX13_isOwnHere_391 0 rfl ?_
                                                                          refine C.aload_n dX13_isOwnHere_392 0 rfl ?_
                                                                          refine C.getA fX13_114 dX13_isOwnHere_393 hS.o hS.r42 ?_
                                                                          refine C.callVI lX13_287 dX13_isOwnHere_396 (kp_here0 hS1 hW hT hp hb hk (List.mem_of_getElem? (l := wdT) (i := 31) rfl)) hS.o rfl rfl (Nat.le_of_ble_eq_true rfl) (Nat.zero_le _) (Nat.zero_le _) (Nat.le_of_ble_eq_true rfl) (fun x396 μ396 h396 => ?_)
                                                                          obtain ⟨rfl, rfl⟩ := h396
                                                                          refine C.if_ne 413 dX13_isOwnHere_399 rfl (fun hc399 => ?_) (fun hc399 => ?_)
                                                                          · exact T413 _ (yes 31 (by decide) (tru _ hc399))
                                                                          · have w31 := (bI_0 _).mp (show _ = 0 by simpa using hc399)
                                                                            refine C.aload_n dX13_isOwnHere_402 0 rfl ?_
                                                                            refine C.aload_n dX13_isOwnHere_403 0 rfl ?_
                                                                            refine C.getA fX13_117 dX13_isOwnHere_404 hS.o hS.r43 ?_
                                                                            refine C.callVI lX13_287 dX13_isOwnHere_407 (kp_here0 hS1 hW hT hp hb hk (List.mem_of_getElem? (l := wdT) (i := 32) rfl)) hS.o rfl rfl (Nat.le_of_ble_eq_true rfl) (Nat.zero_le _) (Nat.zero_le _) (Nat.le_of_ble_eq_true rfl) (fun x407 μ407 h407 => ?_)
                                                                            obtain ⟨rfl, rfl⟩ := h407
                                                                            refine C.if_eq 417 dX13_isOwnHere_410 rfl (fun hc410 => ?_) (fun hc410 => ?_)
                                                                            · have w32 := (bI_0 _).mp hc410
                                                                              refine C.iconst (nI 0) dX13_isOwnHere_417 (by decide) ?_
                                                                              refine C.istore_n (lv' := [(0, _), (1, _)]) dX13_isOwnHere_418 (nLt hX rfl) rfl ?_
                                                                              refine C.iload_n dX13_isOwnHere_419 1 rfl ?_
                                                                              refine C.zret hq dX13_isOwnHere_420 (by decide) ?_
                                                                              refine ⟨?_, rfl⟩
                                                                              have hno : isOwn tx e s.1 s.2.1 = false := by
                                                                                show (ownL.any _) = false
                                                                                unfold ownL
                                                                                simp only [wdT, List.take, List.map, List.any, w0, w1, w2, w3, w4, w5, w6, w7, w8, w9, w10, w11, w12, w13, w14, w15, w16, w17, w18, w19, w20, w21, w22, w23, w24, w25, w26, w27, w28, w29, w30, w31, w32, Bool.or_false]
                                                                              rw [hno]
                                                                              rfl
                                                                            · exact T413 _ (yes 32 (by decide) (tru _ hc410))
                                                                    · exact T370 _ (yes 29 (by decide) (tru _ hc367))
                                                      · exact T294 _ (yes 23 (by decide) (tru _ hc291))
                                        · exact T218 _ (yes 17 (by decide) (tru _ hc215))
                          · exact T142 _ (yes 11 (by decide) (tru _ hc139))
            · exact T66 (yes 5 (by decide) (tru _ hc63))
end KM4
