/-! the reference: ask, whole -/

section KAS
variable {l : Launch} {G : Gm} {μ : Mm} {h : Hs}
/-- what the answering may touch -/
def TmQ (μ μ' : Mm) : Prop := μ'.2.2 = μ.2.2 ∧ (∀ a k, ¬ (a = 179 ∧ (pW k ∨ k = 110)) → a ≠ 228 → a ≠ 227 → mI μ' a k = mI μ a k) ∧ (∀ a k, a ≠ 257 → ¬ (a = 179 ∧ k = 109) → mL μ' a k = mL μ a k)
theorem TmQ.refl : TmQ μ μ := ⟨rfl, fun _ _ _ _ _ => rfl, fun _ _ _ _ => rfl⟩
theorem TmQ.trans {μ' μ'' : Mm} (t : TmQ μ μ') (t2 : TmQ μ' μ'') : TmQ μ μ'' := ⟨t2.1.trans t.1, fun a k q q2 q3 => (t2.2.1 a k q q2 q3).trans (t.2.1 a k q q2 q3), fun a k q q2 => (t2.2.2 a k q q2).trans (t.2.2 a k q q2)⟩
theorem TmQ.ofR {μ' : Mm} (t : TmR μ μ') : TmQ μ μ' := ⟨t.1, fun a k q q2 _ => t.2.1 a k (fun z => q ⟨z.1, Or.inl z.2⟩) q2, fun a k q _ => t.2.2 a k q⟩
theorem TmQ.ofC {P : Nat → Prop} {μ' : Mm} (t : TmC P μ μ') (hp : ∀ k, P k → pW k) : TmQ μ μ' := ⟨t.1, fun a k q _ _ => t.2.1 a k (fun z => q ⟨z.1, Or.inl (hp k z.2)⟩), fun a k q _ => t.2.2 a k q⟩
theorem TmQ.st {μ' : Mm} (t : TmQ μ μ') {k : Nat} (hk : pW k ∨ k = 110) (v : Int32) : TmQ μ (sI μ' 179 k v) := ⟨t.1, fun a j q q2 q3 => by rw [mI_sI, if_neg (fun z => q ⟨z.1, by rw [z.2]; exact hk⟩)]; exact t.2.1 a j q q2 q3, t.2.2⟩
theorem TmQ.s7 {μ' : Mm} (t : TmQ μ μ') (k : Nat) (v : Int32) : TmQ μ (sI μ' 227 k v) := ⟨t.1, fun a j q q2 q3 => by rw [mI_sI, if_neg (fun z => q3 z.1)]; exact t.2.1 a j q q2 q3, t.2.2⟩
theorem TmQ.sl {μ' : Mm} (t : TmQ μ μ') (v : Int64) : TmQ μ (sL μ' 179 109 v) := ⟨t.1, t.2.1, fun a j q q2 => by rw [mL_sL, if_neg q2]; exact t.2.2 a j q q2⟩
theorem RefRel.tmQ {μ' : Mm} (hR : RefRel μ h) (t : TmQ μ μ') : PR μ h μ' := ⟨hR.of t.1 (fun a k q => t.2.1 a k (fun z => by unfold KpI at q; unfold pW at z; omega) (by unfold KpI at q; omega) (by unfold KpI at q; omega)) (fun k _ => t.2.2 217 k (by decide) (by omega)) (t.2.2 179 78 (by decide) (by omega)), ⟨t.1, fun a k q => ⟨t.2.1 a k (by omega) (by omega) (by omega), t.2.2 a k (by omega) (by omega)⟩⟩⟩
theorem clip_s {n : Nat} (hn : n < 100000) : clip64 (lN n) = lN n := by
  unfold clip64
  have h1 : lN n ≤ 1000000 := (pk_lLE (a := n) (b := 1000000) (by omega) (by decide)).mpr (by omega)
  have h0 : (-1000000 : Int64) ≤ lN 0 := by decide
  have h2 : (-1000000 : Int64) ≤ lN n := Int64.le_trans h0 ((pk_lLE (a := 0) (b := n) (by decide) (by omega)).mpr (Nat.zero_le _))
  rw [if_neg (fun q => q h1), if_neg (fun q => q h2)]
/-- the answering -/
theorem kr_answer {μ3 : Mm} (hR : RefRel μ3 h) (hH : HOk h) (hW : Wf (ldH h)) {kd : Nat} (hk : kd < 6) {cs : List Int32} (h102 : mI μ3 179 102 = nI cs.length) (hcd : ∀ j, j < cs.length → mI μ3 255 j = cs.getD j 0) (hl : cs.length ≤ 1600) (hwf : wfC al2 true cs 0) {X : Cx} (C : Cok l G X mtX13_ask.2.1 mtX13_ask.1.cls 9 mtX13_ask.2.2.2) (hX : X.2.2.1 = mtX13_ask.2.2.1) {P : Mm → Prop} (hq : MR G X (qL (fun x μ' => x = (askL h kd cs (ldH h).2.2.2.1.length 0 (if kd < 2 then -1 else lN 0, true)).1 ∧ P μ'))) (hP : ∀ μ', PR μ3 h μ' → P μ') : AW l G X 0 0 160 [(0, .ref (G.1 + 179)), (1, .int (nI kd))] [] μ3 := by
  have sm := hH.1.1.sm
  have sw := hH.1.2.1
  generalize hK : askL h kd cs (ldH h).2.2.2.1.length 0 (if kd < 2 then -1 else lN 0, true) = K at hq
  -- one after the other
  have loop2 : ∀ (j i : Nat) (a : Int64 × Bool) (μ1 : Mm) (x3 : List (Nat × Value)), i + j = (ldH h).2.2.2.1.length → askL h kd cs j i a = K → TmQ μ3 μ1 → mI μ1 179 58 = nI 2 → mI μ1 179 62 = nI (stH h).1.1 → (∀ k, k < 12 → mI μ1 228 k = nI (ridH h k) ∧ ridH h k < 49) → (∀ w, w < (ldH h).2.2.2.1.length → mI μ1 227 w = nI (match mtF (ldH h) (ridH h) (wkS (stH h) w) w with | some t => t | none => 12)) → mL μ1 179 109 = a.1 → mI μ1 179 110 = bI a.2 → AW l G X 0 0 241 [(0, .ref (G.1 + 179)), (1, .int (nI kd)), (2, .int (nI i))] [] μ1 := by
    intro j
    induction j with
    | zero =>
      intro i a μ1 x3 hi hv hT h58 h62 hri hm h109 h110
      have hR1 := (hR.tmQ hT).1
      have hS := hR1.1.1
      have hL := hR1.2.2.2.2.1.1
      subst hv
      refine C.iload_n dX13_ask_241 2 rfl ?_
      refine C.aload_n dX13_ask_242 0 rfl ?_
      refine C.callVI lX13_416 dX13_ask_243 (kg_walkerMany hS hL) hS.o rfl rfl (Nat.le_of_ble_eq_true rfl) (Nat.zero_le _) (Nat.zero_le _) (Nat.le_of_ble_eq_true rfl) (fun x243 μ243 h243 => ?_)
      obtain ⟨rfl, hμ⟩ := h243
      subst hμ
      refine C.icmp_ge 266 dX13_ask_246 rfl (fun hc246 => ?_) (fun hc246 => ?_)
      · refine C.aload_n dX13_ask_266 0 rfl ?_
        refine C.getL fX13_681 dX13_ask_267 hS.o ?_
        rw [h109]
        refine C.lret hq dX13_ask_270 ?_
        exact ⟨rfl, hP _ (hR.tmQ hT)⟩
      · have := n_nle hc246; omega
    | succ j ih =>
      intro i a μ1 x3 hi hv hT h58 h62 hri hm h109 h110
      have hR1 := (hR.tmQ hT).1
      have hS := hR1.1.1
      have hL := hR1.2.2.2.2.1.1
      have hN := hR1.2.2.2.2.2.1
      have hil : i < (ldH h).2.2.2.1.length := by omega
      have c1 := clOk_lt hW (hW.walkF hil)
      obtain ⟨g1, g2⟩ := hL.walk hil
      obtain ⟨b1, b2, b3, b4⟩ := hN.wk (show i < (stH h).2.1.length by rw [sw.2.2.1]; exact hil)
      obtain ⟨y1, y2, y3, y4⟩ := sw.wk hil
      have hmi := hm i hil
      have hmt : (match mtF (ldH h) (ridH h) (wkS (stH h) i) i with | some t => t | none => 12) ≤ 12 := by
        split
        · rename_i t ht; have := mtF_lt ht; omega
        · exact Nat.le_refl _
      have ng := sw.1
      have hev : ev64 (fun k => clip64 (partV μ1 i k).toInt64) (ofQ (walkF (ldH h) i) (ridH h)) cs [] = ev64 (pvQ h i) (ofQ (walkF (ldH h) i) (ridH h)) cs [] := by
        refine ev64_congr (al := al2) (q := true) (fun k hk9 _ => ?_) cs [] hwf
        have key : ∀ v : Nat, v < 100000 → clip64 (nI v).toInt64 = lN v := fun v hv => by rw [nI_l (by omega)]; exact clip_s hv
        unfold partV pvQ
        rw [h58, if_pos rfl, if_pos rfl, if_pos rfl, hmi, h62, g1, b1, b2, b3, b4]
        have e1 : rem7 (nI (walkF (ldH h) i)) = nI (walkF (ldH h) i % 7) := pk_rem (by omega) (by decide) (by decide)
        have e2 : div7 (nI (walkF (ldH h) i)) = nI (walkF (ldH h) i / 7) := pk_div (by omega) (by decide) (by decide)
        rw [e1, e2]
        rcases (show k = 0 ∨ k = 1 ∨ k = 2 ∨ k = 3 ∨ k = 4 ∨ k = 5 ∨ k = 6 ∨ k = 7 ∨ k = 8 by omega) with rfl | rfl | rfl | rfl | rfl | rfl | rfl | rfl | rfl
        all_goals simp only [reduceIte, Nat.reduceEqDiff]
        · exact key _ (by omega)
        · exact key _ (by omega)
        · exact key _ (by omega)
        · exact key _ (by omega)
        · exact key _ (by omega)
        · exact key _ (by omega)
        · exact key _ (by omega)
        · exact key _ (by omega)
        · exact key _ (by omega)
      have htold := ke_qTold (l := l) (G := G) hS (cs := cs) (by rw [hT.2.1 _ _ (by unfold pW; omega) (by decide) (by decide)]; exact h102) (fun j hj => by rw [hT.2.1 _ _ (by omega) (by decide) (by decide)]; exact hcd j hj) hl hwf (i := i) (by omega) g1 c1 hri
      rw [hev] at htold
      unfold askL at hv
      have hav : (ev64 (pvQ h i) (ofQ (walkF (ldH h) i) (ridH h)) cs []).headD 0 = askV h cs i := rfl
      rw [hav] at htold
      generalize askV h cs i = v at htold hv
      refine C.iload_n dX13_ask_241 2 rfl ?_
      refine C.aload_n dX13_ask_242 0 rfl ?_
      refine C.callVI lX13_416 dX13_ask_243 (kg_walkerMany hS hL) hS.o rfl rfl (Nat.le_of_ble_eq_true rfl) (Nat.zero_le _) (Nat.zero_le _) (Nat.le_of_ble_eq_true rfl) (fun x243 μ243 h243 => ?_)
      obtain ⟨rfl, hμ⟩ := h243
      subst hμ
      refine C.icmp_ge 266 dX13_ask_246 rfl (fun hc246 => ?_) (fun hc246 => ?_)
      · have := n_le hc246; omega
      · refine C.aload_n dX13_ask_249 0 rfl ?_
        refine C.iload_n dX13_ask_250 1 rfl ?_
        refine C.aload_n dX13_ask_251 0 rfl ?_
        refine C.iload_n dX13_ask_252 2 rfl ?_
        refine C.callVL lX13_694 dX13_ask_253 (htold) hS.o rfl rfl (Nat.le_of_ble_eq_true rfl) (Nat.zero_le _) (Nat.zero_le _) (Nat.le_of_ble_eq_true rfl) (fun x253 μ253 h253 => ?_)
        obtain ⟨rfl, hT2⟩ := h253
        have hS : ShM μ253 := hS.of hT2.1
        refine C.iload_n dX13_ask_256 2 rfl ?_
        refine C.callVV lX13_698 dX13_ask_257 (ke_takes hS hk (show i < 6 by omega) _ (a := a) (by rw [hT2.2.2 _ _ (by decide)]; exact h109) (by rw [hT2.2.1 _ _ (by omega)]; exact h110)) hS.o rfl rfl (Nat.le_of_ble_eq_true rfl) (Nat.zero_le _) (Nat.zero_le _) (Nat.le_of_ble_eq_true rfl) (fun μ257 h257 => ?_)
        subst h257
        refine C.iinc (lv' := [(0, _), (1, _), (2, _)]) _ dX13_ask_260 2 rfl rfl (nLt hX rfl) rfl ?_
        refine C.goto 241 dX13_ask_263 rfl ?_
        have hgo := ih (i + 1) _ (sI (sL μ253 179 109 (tkF kd x253 i a)) 179 110 (nI 0)) [] (by omega) hv (((hT.trans (TmQ.ofC hT2 (fun k q => by unfold pW; omega))).sl _).st (Or.inr rfl) _) (by rw [mI_sI, if_neg (by omega), mI_sL, hT2.2.1 _ _ (by omega)]; exact h58) (by rw [mI_sI, if_neg (by omega), mI_sL, hT2.2.1 _ _ (by omega)]; exact h62) (fun k hk => ⟨by rw [mI_sI, if_neg (by omega), mI_sL, hT2.2.1 _ _ (by omega)]; exact (hri k hk).1, (hri k hk).2⟩) (fun w hw => by rw [mI_sI, if_neg (by omega), mI_sL, hT2.2.1 _ _ (by omega)]; exact hm w hw) (by rw [mL_sI, mL_sL, if_pos ⟨rfl, rfl⟩]) (by rw [mI_sI, if_pos ⟨rfl, rfl⟩]; rfl)
        rw [← nI_1] at hgo
        exact hgo
  -- who is met
  have loop1 : ∀ (j i : Nat) (μ1 : Mm), i + j = (ldH h).2.2.2.1.length → TmQ μ3 μ1 → (∀ k, k < 12 → mI μ1 228 k = nI (ridH h k) ∧ ridH h k < 49) → (∀ w, w < i → mI μ1 227 w = nI (match mtF (ldH h) (ridH h) (wkS (stH h) w) w with | some t => t | none => 12)) → mL μ1 179 109 = (if kd < 2 then -1 else lN 0) → mI μ1 179 110 = bI true → AW l G X 0 0 187 [(0, .ref (G.1 + 179)), (1, .int (nI kd)), (2, .int (nI i))] [] μ1 := by
    intro j
    induction j with
    | zero =>
      intro i μ1 hi hT hri hm h109 h110
      have hR1 := (hR.tmQ hT).1
      have hS := hR1.1.1
      have hL := hR1.2.2.2.2.1.1
      have e0 := hR1.2.2.2.2.2.1.1
      refine C.iload_n dX13_ask_187 2 rfl ?_
      refine C.aload_n dX13_ask_188 0 rfl ?_
      refine C.callVI lX13_416 dX13_ask_189 (kg_walkerMany hS hL) hS.o rfl rfl (Nat.le_of_ble_eq_true rfl) (Nat.zero_le _) (Nat.zero_le _) (Nat.le_of_ble_eq_true rfl) (fun x189 μ189 h189 => ?_)
      obtain ⟨rfl, hμ⟩ := h189
      subst hμ
      refine C.icmp_ge 224 dX13_ask_192 rfl (fun hc192 => ?_) (fun hc192 => ?_)
      · refine C.aload_n dX13_ask_224 0 rfl ?_
        refine C.aload_n dX13_ask_225 0 rfl ?_
        refine C.getA fX13_151 dX13_ask_226 hS.o hS.r59 ?_
        refine C.iconst (nI 0) dX13_ask_229 (by decide) ?_
        refine C.iald hS.a59 (n_in (by decide)) dX13_ask_230 ?_
        rw [n_cl, e0]
        refine C.putI fX13_453 (Or.inl rfl) dX13_ask_231 hS.o ?_
        refine C.aload_n dX13_ask_234 0 rfl ?_
        refine C.iconst (nI 2) dX13_ask_235 (by decide) ?_
        refine C.putI fX13_322 (Or.inl rfl) dX13_ask_236 hS.o ?_
        refine C.iconst (nI 0) dX13_ask_239 (by decide) ?_
        refine C.istore_n (lv' := [(0, _), (1, _), (2, _)]) dX13_ask_240 (nLt hX rfl) rfl ?_
        exact loop2 (ldH h).2.2.2.1.length 0 (if kd < 2 then -1 else lN 0, true) _ [] (by omega) hK ((hT.st (Or.inl (by unfold pW; omega)) _).st (Or.inl (by unfold pW; omega)) _) (by rw [mI_sI, if_pos ⟨rfl, rfl⟩]) (by rw [mI_sI, if_neg (by omega), mI_sI, if_pos ⟨rfl, rfl⟩]) (fun k hk => ⟨by rw [mI_sI, if_neg (by omega), mI_sI, if_neg (by omega)]; exact (hri k hk).1, (hri k hk).2⟩) (fun w hw => by rw [mI_sI, if_neg (by omega), mI_sI, if_neg (by omega)]; exact hm w (by omega)) h109 (by rw [mI_sI, if_neg (by omega), mI_sI, if_neg (by omega)]; exact h110)
      · have := n_nle hc192; omega
    | succ j ih =>
      intro i μ1 hi hT hri hm h109 h110
      have hR1 := (hR.tmQ hT).1
      have hS := hR1.1.1
      have hL := hR1.2.2.2.2.1.1
      have hN := hR1.2.2.2.2.2.1
      have hil : i < (ldH h).2.2.2.1.length := by omega
      have hx := sw.wk hil
      obtain ⟨b1, b2, b3, b4⟩ := hN.wk (show i < (stH h).2.1.length by rw [sw.2.2.1]; exact hil)
      have m217 : ∀ (v : Nat) (x3 : Int32), v = (match mtF (ldH h) (ridH h) (wkS (stH h) i) i with | some t => t | none => 12) → AW l G X 0 0 217 [(0, .ref (G.1 + 179)), (1, .int (nI kd)), (2, .int (nI i)), (3, .int x3)] [.int (nI v), .int (nI i), .ref (G.1 + 227)] μ1 := by
        intro v x3 hv
        refine C.iast hS.a64 (n_in (by omega)) dX13_ask_217 ?_
        rw [n_cl]
        refine C.iinc (lv' := [(0, _), (1, _), (2, _), (3, _)]) _ dX13_ask_218 2 rfl rfl (nLt hX rfl) rfl ?_
        refine C.goto 187 dX13_ask_221 rfl ?_
        have hgo := ih (i + 1) (sI μ1 227 i (nI v)) (by omega) (hT.s7 _ _) (fun k hk => ⟨by rw [mI_sI, if_neg (by omega)]; exact (hri k hk).1, (hri k hk).2⟩) (fun w hw => by rw [mI_sI]; by_cases q : w = i; rw [if_pos ⟨rfl, q⟩, q, hv]; rw [if_neg (fun z => q z.2)]; exact hm w (by omega)) h109 (by rw [mI_sI, if_neg (by omega)]; exact h110)
        rw [show Value.int (nI (i + 1)) = Value.int (nI i + 1) by rw [nI_1]] at hgo
        exact AW.pick [0, 1, 2] rfl hgo
      refine C.iload_n dX13_ask_187 2 rfl ?_
      refine C.aload_n dX13_ask_188 0 rfl ?_
      refine C.callVI lX13_416 dX13_ask_189 (kg_walkerMany hS hL) hS.o rfl rfl (Nat.le_of_ble_eq_true rfl) (Nat.zero_le _) (Nat.zero_le _) (Nat.le_of_ble_eq_true rfl) (fun x189 μ189 h189 => ?_)
      obtain ⟨rfl, hμ⟩ := h189
      subst hμ
      refine C.icmp_ge 224 dX13_ask_192 rfl (fun hc192 => ?_) (fun hc192 => ?_)
      · have := n_le hc192; omega
      · refine C.aload_n dX13_ask_195 0 rfl ?_
        refine C.iload_n dX13_ask_196 2 rfl ?_
        refine C.callVI lX13_519 dX13_ask_197 (ke_meetsAt hS hL hW hil hri (x := wkS (stH h) i) b1 (by rw [← b4]; congr 1; omega) hx.1 hx.2.2.2) hS.o rfl rfl (Nat.le_of_ble_eq_true rfl) (Nat.zero_le _) (Nat.zero_le _) (Nat.le_of_ble_eq_true rfl) (fun x197 μ197 h197 => ?_)
        obtain ⟨rfl, hμ⟩ := h197
        subst hμ
        cases hmt : mtF (ldH h) (ridH h) (wkS (stH h) i) i with
        | none =>
          rw [hmt] at m217
          refine C.istore_n (lv' := [(0, _), (1, _), (2, _), (3, _)]) dX13_ask_200 (nLt hX rfl) rfl ?_
          refine C.aload_n dX13_ask_201 0 rfl ?_
          refine C.getA fX13_157 dX13_ask_202 hS.o hS.r64 ?_
          refine C.iload_n dX13_ask_205 2 rfl ?_
          refine C.iload_n dX13_ask_206 3 rfl ?_
          refine C.iconst (-1) dX13_ask_207 (by decide) ?_
          refine C.icmp_ne 216 dX13_ask_208 rfl (fun hc208 => absurd rfl hc208) (fun hc208 => ?_)
          refine C.bipush (nI 12) dX13_ask_211 (by decide) ?_
          refine C.goto 217 dX13_ask_213 rfl ?_
          exact m217 12 _ rfl
        | some t =>
        rw [hmt] at m217
        have ht12 := mtF_lt hmt
        change AW l G X _ _ _ _ [Value.int (nI t)] _
        refine C.istore_n (lv' := [(0, _), (1, _), (2, _), (3, _)]) dX13_ask_200 (nLt hX rfl) rfl ?_
        refine C.aload_n dX13_ask_201 0 rfl ?_
        refine C.getA fX13_157 dX13_ask_202 hS.o hS.r64 ?_
        refine C.iload_n dX13_ask_205 2 rfl ?_
        refine C.iload_n dX13_ask_206 3 rfl ?_
        refine C.iconst (-1) dX13_ask_207 (by decide) ?_
        refine C.icmp_ne 216 dX13_ask_208 rfl (fun hc208 => ?_) (fun hc208 => ?_)
        · refine C.iload_n dX13_ask_216 3 rfl ?_
          exact m217 t _ rfl
        · exact absurd hc208 (n_m1 (by omega))
  have hS := hR.1.1
  have m173 : ∀ v : Int64, v = (if kd < 2 then -1 else lN 0) → AW l G X 0 0 173 [(0, .ref (G.1 + 179)), (1, .int (nI kd))] [.long v, .ref (G.1 + 179)] μ3 := by
    intro v hv
    have hT0 : TmQ μ3 (sI (sL μ3 179 109 v) 179 110 (nI 1)) := (TmQ.refl.sl v).st (Or.inr rfl) _
    have hR2 := (hR.tmQ hT0).1
    refine C.putL fX13_681 (Or.inl rfl) dX13_ask_173 hS.o ?_
    refine C.aload_n dX13_ask_176 0 rfl ?_
    refine C.iconst (nI 1) dX13_ask_177 (by decide) ?_
    refine C.putZ fX13_686 (Or.inl rfl) dX13_ask_178 hS.o (by decide) ?_
    refine C.aload_n dX13_ask_181 0 rfl ?_
    refine C.callVV lX13_516 dX13_ask_182 (kr_rides hR2 hH hW) hS.o rfl rfl (Nat.le_of_ble_eq_true rfl) (Nat.zero_le _) (Nat.zero_le _) (Nat.le_of_ble_eq_true rfl) (fun μ182 h182 => ?_)
    obtain ⟨hri, hT⟩ := h182
    refine C.iconst (nI 0) dX13_ask_185 (by decide) ?_
    refine C.istore_n (lv' := [(0, _), (1, _), (2, _)]) dX13_ask_186 (nLt hX rfl) rfl ?_
    exact loop1 (ldH h).2.2.2.1.length 0 _ (by omega) (hT0.trans (TmQ.ofR hT)) hri (fun w hw => by omega) (by rw [hT.2.2 _ _ (by decide), mL_sI, mL_sL, if_pos ⟨rfl, rfl⟩, hv]) (by rw [hT.2.1 _ _ (by unfold pW; omega) (by decide), mI_sI, if_pos ⟨rfl, rfl⟩]; rfl)
  refine C.aload_n dX13_ask_160 0 rfl ?_
  refine C.iload_n dX13_ask_161 1 rfl ?_
  refine C.iconst (nI 2) dX13_ask_162 (by decide) ?_
  refine C.icmp_ge 172 dX13_ask_163 rfl (fun hc163 => ?_) (fun hc163 => ?_)
  · have q1 := n_le (a := 2) (b := kd) hc163
    refine C.lconst (lN 0) dX13_ask_172 (by decide) ?_
    first | exact m173 _ (if_pos q1).symm | exact m173 _ (if_neg (by omega)).symm
  · have q1 := n_nle (a := 2) (b := kd) hc163
    refine C.ldc2 kX13_684 dX13_ask_166 ?_
    refine C.goto 173 dX13_ask_169 rfl ?_
    first | exact m173 _ (if_pos q1).symm | exact m173 _ (if_neg (by omega)).symm
end KAS
