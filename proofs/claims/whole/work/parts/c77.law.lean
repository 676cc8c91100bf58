/-! the law: its loop -/
def XL (p : Program) (e : Env) (s : State) (m : MethodId) (b : Nat) (below : List Frame) (meth : Method) (c : Code) : Cx := ((p, e, room_1, s), (m, #[Value.ref b], below, meth, c), (4, lw_Z below #[Value.ref b] s))
theorem n_in6 {i L : Nat} (h : i + 6 ≤ L ∧ L ≤ 3072) (k : Nat) (hk : k < 6) : vp_in (nI i + nI k) L := by
  rw [nI_add]
  exact n_in (by omega)
theorem and31 (x : Int32) : ∃ j : Nat, j < 32 ∧ x &&& nI 31 = nI j := pk_andE x 5 (by decide)
theorem lgc_0 (x : Int64) : lg_cmp x x = 0 := by simp [lg_cmp]
section LAW
variable {l : Launch} {G : Gm} {X : Cx} {cc : ByteArray} {own : String} {d : Nat} {rt : Option FieldType} {bc bs pc b L : Nat} {lv : List (Nat × Value)} {st : List Value} {μ : Mm} {xs : Nat → Int32}
theorem Cok.scL (C : Cok l G X cc own d rt) (hX : va_X b L xs X.1.2.2.2 X.1.2.2.2.heap) (hbl : b < X.1.2.2.2.heap.size) (hbA : ¬ gA G b) (hd : decode cc pc = .ok (.arraylength, 1)) (kk : AW l G X bc bs (pc + 1) lv (.int (nI L) :: st) μ) : AW l G X bc bs pc lv (.ref b :: st) μ :=
  fun H locs cells slots ls hR hS hc hs hl => va_slen C.hx C.hb hX hbl hbA hS hd (kk H locs cells slots ls hR hS hc hs hl)
theorem Cok.scB (C : Cok l G X cc own d rt) (hX : va_X b L xs X.1.2.2.2 X.1.2.2.2.heap) (hbl : b < X.1.2.2.2.heap.size) (hbA : ¬ gA G b) {i : Int32} (hin : vp_in i L) (hd : decode cc pc = .ok (.iaload, 1)) (kk : AW l G X bc bs (pc + 1) lv (.int (xs i.toNatClampNeg) :: st) μ) : AW l G X bc bs pc lv (.int i :: .ref b :: st) μ :=
  fun H locs cells slots ls hR hS hc hs hl => va_sld C.hx C.hb hX hbl hbA hS hin hd (kk H locs cells slots ls hR hS hc hs hl)
theorem kmL {h : Hs} {R : Ld × Nat × Ps} {np mp : Int32} (hRR : rLand (txL (tpH h)) (tpH h).length np mp = R) (e1 : mI μ 179 10 = np) (e2 : mI μ 179 44 = mp) (hR : RefRel μ h) : AMet l G 11 0 0 mtX13_land [.ref (G.1 + 179)] μ (qI (fun x μ' => x = landX R ∧ RefRel μ' (landH h R) ∧ FrR μ μ')) := by
  have hm := km_land (l := l) (G := G) hR
  rw [e1, e2, hRR] at hm
  exact AMet.mono hm (fun r μ' q => by obtain ⟨x, e, q1, q2, q3, -⟩ := q; exact ⟨x, e, q1, q2, q3⟩)
theorem krA {h : Hs} {Q : Nat × Tt} {np mp : Int32} (hQ : askT (txL (tpH h)) (tpH h).length (0, -1, 0, -1, np, mp) = Q) (hH : HOk h) (e1 : mI μ 179 10 = np) (e2 : mI μ 179 44 = mp) (hR : RefRel μ h) : AMet l G 9 0 0 mtX13_ask [.ref (G.1 + 179)] μ (qL (fun x μ' => x = askA h Q ∧ PR μ (askH h Q) μ')) := by
  have hm := kr_ask (l := l) (G := G) hR hH e1 e2 (fun q => ask_wf hH.1.2.2.2.2.1.1 rfl (Nat.zero_le _) q)
  rw [hQ] at hm
  exact hm
theorem law_end {p : Program} {e : Env} {s : State} {m : MethodId} {below : List Frame} {meth : Method} {c : Code} (C : Cok l G (XL p e s m b below meth c) code RL 1000 ret) (hG : G.1 = s.heap.size) : AW l G (XL p e s m b below meth c) bc bs 1000 lv [.int 1] μ := by
  intro H locs cells slots ls hR hS hc hs hl
  refine va_forget (fun q hq => ?_) (W.widen (k := 600000) (n := 7302250) ?_ ?_ (lw_ret C.hx C.hb C.hrt C.hlk dL_law_1000))
  · have := hS.2.2 q hq
    show s.heap.size ≤ q.base
    rw [← hG]
    exact this
  · have h1 : cells + bc ≤ 600000 := hc
    omega
  · have h1 : slots + bs ≤ 7302250 := hs
    omega
set_option maxHeartbeats 4000000 in
theorem law_loop {p : Program} {e : Env} {s : State} {m : MethodId} {below : List Frame} {meth : Method} {c : Code} (C : Cok l G (XL p e s m b below meth c) code RL 1000 ret) (hG : G.1 = s.heap.size) (hL : L ≤ 3072) (hXs : va_X b L xs s s.heap) (hbl : b < s.heap.size) : ∀ (n i bc bs : Nat) (h : Hs) (M : Mm), L < i + 6 * n → i < 10000 → 24 * n ≤ bc → 4991 * n ≤ bs → ClsRel M h → RefRel M h → HOk h → AW l G (XL p e s m b below meth c) bc bs 18 [(0, .ref b), (1, .ref (G.1 + 0)), (2, .ref (G.1 + 179)), (3, .int (nI i))] [] M := by
  have hbA : ¬ gA G b := by
    show ¬ G.1 ≤ b
    rw [hG]
    omega
  have hX : (XL p e s m b below meth c).2.2.1 = 4 := rfl
  have head : ∀ (i bc bs : Nat) (M : Mm), i < 10000 → (i + 6 ≤ L → AW l G (XL p e s m b below meth c) bc bs 27 [(0, .ref b), (1, .ref (G.1 + 0)), (2, .ref (G.1 + 179)), (3, .int (nI i))] [] M) → AW l G (XL p e s m b below meth c) bc bs 18 [(0, .ref b), (1, .ref (G.1 + 0)), (2, .ref (G.1 + 179)), (3, .int (nI i))] [] M := by
    intro i bc bs M hi kk
    refine C.iload_n dL_law_18 3 rfl ?_
    refine C.aload_n dL_law_19 0 rfl ?_
    refine C.scL hXs hbl hbA dL_law_20 ?_
    refine C.bipush (nI 6) dL_law_21 (by decide) ?_
    refine C.isub dL_law_23 ?_
    refine C.icmp_gt 999 dL_law_24 rfl (fun hc24 => ?_) (fun hc24 => ?_)
    · refine C.iconst 1 dL_law_999 (by decide) ?_
      exact law_end C hG
    · refine kk ?_
      by_cases h6 : 6 ≤ L
      · rw [pk_sub h6] at hc24
        have := n_nlt hc24
        omega
      · exact absurd (Int32.lt_of_lt_of_le (pk_sneg (by decide) (by omega)) (nI_pos' (by omega))) hc24
  intro n
  induction n with
  | zero => intro i bc bs h M hn hi hbc hbs hC hR hH; exact head i bc bs M hi (fun q => absurd q (by omega))
  | succ n ih =>
    intro i bc bs h M hn hi hbc hbs hC hR hH
    refine head i bc bs M hi (fun h6' => ?_)
    have h6 : i + 6 ≤ L ∧ L ≤ 3072 := ⟨h6', hL⟩
    have next : ∀ (h' : Hs) (M' : Mm), ClsRel M' h' → RefRel M' h' → HOk h' → ∀ bc' bs', 24 * n ≤ bc' → 4991 * n ≤ bs' → AW l G (XL p e s m b below meth c) bc' bs' 993 [(0, .ref b), (1, .ref (G.1 + 0)), (2, .ref (G.1 + 179)), (3, .int (nI i))] [] M' := by
      intro h' M' hC' hR' hH' bc' bs' q1 q2
      refine C.iinc (lv' := [(0, _), (1, _), (2, _), (3, _)]) _ dL_law_993 3 rfl rfl (nLt hX rfl) rfl ?_
      refine C.goto 18 dL_law_996 rfl ?_
      have hgo := ih (i + 6) bc' bs' h' M' (by omega) (by omega) q1 q2 hC' hR' hH'
      rw [← show nI i + nI 6 = nI (i + 6) from nI_add i 6] at hgo
      exact hgo
    clear ih head
    refine C.aload_n dL_law_27 0 rfl ?_
    refine C.iload_n dL_law_28 3 rfl ?_
    refine C.scB hXs hbl hbA (n_in (by omega)) dL_law_29 ?_
    refine C.bipush (nI 31) dL_law_30 (by decide) ?_
    refine C.iand dL_law_32 ?_
    obtain ⟨j, hj, ej⟩ := and31 (xs (nI i).toNatClampNeg)
    rw [ej]
    rcases (show j = 0 ∨ j = 1 ∨ j = 2 ∨ j = 3 ∨ j = 4 ∨ j = 5 ∨ j = 6 ∨ j = 7 ∨ j = 8 ∨ j = 9 ∨ j = 10 ∨ j = 11 ∨ j = 12 ∨ j = 13 ∨ j = 14 ∨ j = 15 ∨ j = 16 ∨ j = 17 ∨ j = 18 ∨ j = 19 ∨ j = 20 ∨ j = 21 ∨ j = 22 ∨ j = 23 ∨ j = 24 ∨ j = 25 ∨ j = 26 ∨ j = 27 ∨ j = 28 ∨ j = 29 ∨ j = 30 ∨ j = 31 by omega) with rfl | rfl | rfl | rfl | rfl | rfl | rfl | rfl | rfl | rfl | rfl | rfl | rfl | rfl | rfl | rfl | rfl | rfl | rfl | rfl | rfl | rfl | rfl | rfl | rfl | rfl | rfl | rfl | rfl | rfl | rfl | rfl
    · refine C.tableIn 176 dL_law_33 (by decide) (by decide) rfl rfl ?_
      refine C.aload_n dL_law_176 1 rfl ?_
      refine C.aload_n dL_law_177 0 rfl ?_
      refine C.iload_n dL_law_178 3 rfl ?_
      refine C.iconst (nI 1) dL_law_179 (by decide) ?_
      refine C.iadd dL_law_180 ?_
      refine C.scB hXs hbl hbA (n_in6 h6 1 (by decide)) dL_law_181 ?_
      refine C.aload_n dL_law_182 0 rfl ?_
      refine C.iload_n dL_law_183 3 rfl ?_
      refine C.iconst (nI 2) dL_law_184 (by decide) ?_
      refine C.iadd dL_law_185 ?_
      refine C.scB hXs hbl hbA (n_in6 h6 2 (by decide)) dL_law_186 ?_
      refine C.aload_n dL_law_187 0 rfl ?_
      refine C.iload_n dL_law_188 3 rfl ?_
      refine C.iconst (nI 3) dL_law_189 (by decide) ?_
      refine C.iadd dL_law_190 ?_
      refine C.scB hXs hbl hbA (n_in6 h6 3 (by decide)) dL_law_191 ?_
      refine C.aload_n dL_law_192 0 rfl ?_
      refine C.iload_n dL_law_193 3 rfl ?_
      refine C.iconst (nI 4) dL_law_194 (by decide) ?_
      refine C.iadd dL_law_195 ?_
      refine C.scB hXs hbl hbA (n_in6 h6 4 (by decide)) dL_law_196 ?_
      refine C.aload_n dL_law_197 0 rfl ?_
      refine C.iload_n dL_law_198 3 rfl ?_
      refine C.iconst (nI 5) dL_law_199 (by decide) ?_
      refine C.iadd dL_law_200 ?_
      refine C.scB hXs hbl hbA (n_in6 h6 5 (by decide)) dL_law_201 ?_
      refine C.callVI lL_13 dL_law_202 (kx_feed hC _ _ _ _ _) hC.1.1.1.o0 rfl rfl (Nat.le_of_ble_eq_true rfl) (Nat.zero_le _) (Nat.zero_le _) (Nat.le_of_ble_eq_true rfl) (fun x202 μ202 h202 => ?_)
      obtain ⟨rfl, hP⟩ := h202
      have hR1 := hR.frc hP.2
      refine C.aload_n dL_law_205 2 rfl ?_
      refine C.aload_n dL_law_206 0 rfl ?_
      refine C.iload_n dL_law_207 3 rfl ?_
      refine C.iconst (nI 1) dL_law_208 (by decide) ?_
      refine C.iadd dL_law_209 ?_
      refine C.scB hXs hbl hbA (n_in6 h6 1 (by decide)) dL_law_210 ?_
      refine C.aload_n dL_law_211 0 rfl ?_
      refine C.iload_n dL_law_212 3 rfl ?_
      refine C.iconst (nI 2) dL_law_213 (by decide) ?_
      refine C.iadd dL_law_214 ?_
      refine C.scB hXs hbl hbA (n_in6 h6 2 (by decide)) dL_law_215 ?_
      refine C.aload_n dL_law_216 0 rfl ?_
      refine C.iload_n dL_law_217 3 rfl ?_
      refine C.iconst (nI 3) dL_law_218 (by decide) ?_
      refine C.iadd dL_law_219 ?_
      refine C.scB hXs hbl hbA (n_in6 h6 3 (by decide)) dL_law_220 ?_
      refine C.aload_n dL_law_221 0 rfl ?_
      refine C.iload_n dL_law_222 3 rfl ?_
      refine C.iconst (nI 4) dL_law_223 (by decide) ?_
      refine C.iadd dL_law_224 ?_
      refine C.scB hXs hbl hbA (n_in6 h6 4 (by decide)) dL_law_225 ?_
      refine C.aload_n dL_law_226 0 rfl ?_
      refine C.iload_n dL_law_227 3 rfl ?_
      refine C.iconst (nI 5) dL_law_228 (by decide) ?_
      refine C.iadd dL_law_229 ?_
      refine C.scB hXs hbl hbA (n_in6 h6 5 (by decide)) dL_law_230 ?_
      refine C.callVI lL_17 dL_law_231 (kr_feed hR1 _ _ _ _ _) hR1.1.1.o rfl rfl (Nat.le_of_ble_eq_true rfl) (Nat.zero_le _) (Nat.zero_le _) (Nat.le_of_ble_eq_true rfl) (fun x231 μ231 h231 => ?_)
      obtain ⟨rfl, hP2⟩ := h231
      have fin := next _ _ (hP.1.frr hP2.2) hP2.1 (hk_feed hH _ _ _ _ _)
      refine C.icmp_eq 993 dL_law_234 rfl (fun hc234 => ?_) (fun hc234 => ?_)
      · exact fin _ _ (by omega) (by omega)
      · exact absurd rfl hc234
    · refine C.tableIn 239 dL_law_33 (by decide) (by decide) rfl rfl ?_
      refine C.aload_n dL_law_239 1 rfl ?_
      refine C.aload_n dL_law_240 0 rfl ?_
      refine C.iload_n dL_law_241 3 rfl ?_
      refine C.iconst (nI 1) dL_law_242 (by decide) ?_
      refine C.iadd dL_law_243 ?_
      refine C.scB hXs hbl hbA (n_in6 h6 1 (by decide)) dL_law_244 ?_
      refine C.callVI lL_18 dL_law_245 (kx_end hC _) hC.1.1.1.o0 rfl rfl (Nat.le_of_ble_eq_true rfl) (Nat.zero_le _) (Nat.zero_le _) (Nat.le_of_ble_eq_true rfl) (fun x245 μ245 h245 => ?_)
      obtain ⟨rfl, hP⟩ := h245
      have hR1 := hR.frc hP.2
      refine C.aload_n dL_law_248 2 rfl ?_
      refine C.aload_n dL_law_249 0 rfl ?_
      refine C.iload_n dL_law_250 3 rfl ?_
      refine C.iconst (nI 1) dL_law_251 (by decide) ?_
      refine C.iadd dL_law_252 ?_
      refine C.scB hXs hbl hbA (n_in6 h6 1 (by decide)) dL_law_253 ?_
      refine C.callVI lL_22 dL_law_254 (kr_end hR1 _) hR1.1.1.o rfl rfl (Nat.le_of_ble_eq_true rfl) (Nat.zero_le _) (Nat.zero_le _) (Nat.le_of_ble_eq_true rfl) (fun x254 μ254 h254 => ?_)
      obtain ⟨rfl, hP2⟩ := h254
      have fin := next _ _ (hP.1.frr hP2.2) hP2.1 (hk_end hH _)
      refine C.icmp_eq 993 dL_law_257 rfl (fun hc257 => ?_) (fun hc257 => ?_)
      · exact fin _ _ (by omega) (by omega)
      · exact absurd rfl hc257
    · refine C.tableIn 262 dL_law_33 (by decide) (by decide) rfl rfl ?_
      generalize hRR : rLand (txL (tpH h)) (tpH h).length (mI M 179 10) (mI M 179 44) = R
      refine C.aload_n dL_law_262 1 rfl ?_
      refine C.callVI lL_23 dL_law_263 (kx_land hC (mI M 179 10) (mI M 179 44) hRR) hC.1.1.1.o0 rfl rfl (Nat.le_of_ble_eq_true rfl) (by omega) (by omega) (Nat.le_of_ble_eq_true rfl) (fun x263 μ263 h263 => ?_)
      obtain ⟨rfl, hP, hQ⟩ := h263
      have hR1 := hR.frc hP.2
      have e10 := (hP.2.2 179 10 (by decide) (by decide)).1
      have e44 := (hP.2.2 179 44 (by decide) (by decide)).1
      have hLL := kmL (l := l) (G := G) hRR e10 e44 hR1
      refine C.aload_n dL_law_266 2 rfl ?_
      refine C.callVI lL_27 dL_law_267 (hLL) hR1.1.1.o rfl rfl (Nat.le_of_ble_eq_true rfl) (Nat.zero_le _) (Nat.zero_le _) (Nat.le_of_ble_eq_true rfl) (fun x267 μ267 h267 => ?_)
      obtain ⟨rfl, hP2, hP3⟩ := h267
      have fin := next _ _ (hP.1.frr hP3) hP2 (hk_land hH hQ)
      refine C.icmp_eq 993 dL_law_270 rfl (fun hc270 => ?_) (fun hc270 => ?_)
      · exact fin _ _ (by omega) (by omega)
      · exact absurd rfl hc270
    · refine C.tableIn 275 dL_law_33 (by decide) (by decide) rfl rfl ?_
      refine C.aload_n dL_law_275 1 rfl ?_
      refine C.aload_n dL_law_276 0 rfl ?_
      refine C.iload_n dL_law_277 3 rfl ?_
      refine C.iconst (nI 1) dL_law_278 (by decide) ?_
      refine C.iadd dL_law_279 ?_
      refine C.scB hXs hbl hbA (n_in6 h6 1 (by decide)) dL_law_280 ?_
      refine C.callVI lL_28 dL_law_281 (kx_fault hC _) hC.1.1.1.o0 rfl rfl (Nat.le_of_ble_eq_true rfl) (Nat.zero_le _) (Nat.zero_le _) (Nat.le_of_ble_eq_true rfl) (fun x281 μ281 h281 => ?_)
      obtain ⟨rfl, hP⟩ := h281
      have hR1 := hR.frc hP.2
      refine C.aload_n dL_law_284 2 rfl ?_
      refine C.aload_n dL_law_285 0 rfl ?_
      refine C.iload_n dL_law_286 3 rfl ?_
      refine C.iconst (nI 1) dL_law_287 (by decide) ?_
      refine C.iadd dL_law_288 ?_
      refine C.scB hXs hbl hbA (n_in6 h6 1 (by decide)) dL_law_289 ?_
      refine C.callVI lL_32 dL_law_290 (kr_fault hR1 _) hR1.1.1.o rfl rfl (Nat.le_of_ble_eq_true rfl) (Nat.zero_le _) (Nat.zero_le _) (Nat.le_of_ble_eq_true rfl) (fun x290 μ290 h290 => ?_)
      obtain ⟨rfl, hP2⟩ := h290
      have fin := next _ _ (hP.1.frr hP2.2) hP2.1 (hH)
      refine C.icmp_eq 993 dL_law_293 rfl (fun hc293 => ?_) (fun hc293 => ?_)
      · exact fin _ _ (by omega) (by omega)
      · exact absurd rfl hc293
    · refine C.tableIn 298 dL_law_33 (by decide) (by decide) rfl rfl ?_
      refine C.aload_n dL_law_298 1 rfl ?_
      refine C.aload_n dL_law_299 0 rfl ?_
      refine C.iload_n dL_law_300 3 rfl ?_
      refine C.iconst (nI 1) dL_law_301 (by decide) ?_
      refine C.iadd dL_law_302 ?_
      refine C.scB hXs hbl hbA (n_in6 h6 1 (by decide)) dL_law_303 ?_
      refine C.callVI lL_33 dL_law_304 (kx_has hC hH _) hC.1.1.1.o0 rfl rfl (Nat.le_of_ble_eq_true rfl) (Nat.zero_le _) (Nat.zero_le _) (Nat.le_of_ble_eq_true rfl) (fun x304 μ304 h304 => ?_)
      obtain ⟨rfl, hP⟩ := h304
      have hR1 := hR.frc hP.2
      refine C.aload_n dL_law_307 2 rfl ?_
      refine C.aload_n dL_law_308 0 rfl ?_
      refine C.iload_n dL_law_309 3 rfl ?_
      refine C.iconst (nI 1) dL_law_310 (by decide) ?_
      refine C.iadd dL_law_311 ?_
      refine C.scB hXs hbl hbA (n_in6 h6 1 (by decide)) dL_law_312 ?_
      refine C.callVI lL_36 dL_law_313 (kr_has hR1 hH _) hR1.1.1.o rfl rfl (Nat.le_of_ble_eq_true rfl) (Nat.zero_le _) (Nat.zero_le _) (Nat.le_of_ble_eq_true rfl) (fun x313 μ313 h313 => ?_)
      obtain ⟨rfl, hP2⟩ := h313
      have fin := next _ _ (hP.1.frr hP2.2) hP2.1 (hH)
      refine C.icmp_eq 993 dL_law_316 rfl (fun hc316 => ?_) (fun hc316 => ?_)
      · exact fin _ _ (by omega) (by omega)
      · exact absurd rfl hc316
    · refine C.tableIn 321 dL_law_33 (by decide) (by decide) rfl rfl ?_
      refine C.aload_n dL_law_321 1 rfl ?_
      refine C.aload_n dL_law_322 0 rfl ?_
      refine C.iload_n dL_law_323 3 rfl ?_
      refine C.iconst (nI 1) dL_law_324 (by decide) ?_
      refine C.iadd dL_law_325 ?_
      refine C.scB hXs hbl hbA (n_in6 h6 1 (by decide)) dL_law_326 ?_
      refine C.aload_n dL_law_327 0 rfl ?_
      refine C.iload_n dL_law_328 3 rfl ?_
      refine C.iconst (nI 2) dL_law_329 (by decide) ?_
      refine C.iadd dL_law_330 ?_
      refine C.scB hXs hbl hbA (n_in6 h6 2 (by decide)) dL_law_331 ?_
      refine C.aload_n dL_law_332 0 rfl ?_
      refine C.iload_n dL_law_333 3 rfl ?_
      refine C.iconst (nI 3) dL_law_334 (by decide) ?_
      refine C.iadd dL_law_335 ?_
      refine C.scB hXs hbl hbA (n_in6 h6 3 (by decide)) dL_law_336 ?_
      refine C.callVI lL_37 dL_law_337 (kx_letter hC hH _ _ _) hC.1.1.1.o0 rfl rfl (Nat.le_of_ble_eq_true rfl) (Nat.zero_le _) (Nat.zero_le _) (Nat.le_of_ble_eq_true rfl) (fun x337 μ337 h337 => ?_)
      obtain ⟨rfl, hP⟩ := h337
      have hR1 := hR.frc hP.2
      refine C.aload_n dL_law_340 2 rfl ?_
      refine C.aload_n dL_law_341 0 rfl ?_
      refine C.iload_n dL_law_342 3 rfl ?_
      refine C.iconst (nI 1) dL_law_343 (by decide) ?_
      refine C.iadd dL_law_344 ?_
      refine C.scB hXs hbl hbA (n_in6 h6 1 (by decide)) dL_law_345 ?_
      refine C.aload_n dL_law_346 0 rfl ?_
      refine C.iload_n dL_law_347 3 rfl ?_
      refine C.iconst (nI 2) dL_law_348 (by decide) ?_
      refine C.iadd dL_law_349 ?_
      refine C.scB hXs hbl hbA (n_in6 h6 2 (by decide)) dL_law_350 ?_
      refine C.aload_n dL_law_351 0 rfl ?_
      refine C.iload_n dL_law_352 3 rfl ?_
      refine C.iconst (nI 3) dL_law_353 (by decide) ?_
      refine C.iadd dL_law_354 ?_
      refine C.scB hXs hbl hbA (n_in6 h6 3 (by decide)) dL_law_355 ?_
      refine C.callVI lL_41 dL_law_356 (kr_letter hR1 hH _ _ _) hR1.1.1.o rfl rfl (Nat.le_of_ble_eq_true rfl) (Nat.zero_le _) (Nat.zero_le _) (Nat.le_of_ble_eq_true rfl) (fun x356 μ356 h356 => ?_)
      obtain ⟨rfl, hP2⟩ := h356
      have fin := next _ _ (hP.1.frr hP2.2) hP2.1 (hH)
      refine C.icmp_eq 993 dL_law_359 rfl (fun hc359 => ?_) (fun hc359 => ?_)
      · exact fin _ _ (by omega) (by omega)
      · exact absurd rfl hc359
    · refine C.tableIn 364 dL_law_33 (by decide) (by decide) rfl rfl ?_
      refine C.aload_n dL_law_364 1 rfl ?_
      refine C.aload_n dL_law_365 0 rfl ?_
      refine C.iload_n dL_law_366 3 rfl ?_
      refine C.iconst (nI 1) dL_law_367 (by decide) ?_
      refine C.iadd dL_law_368 ?_
      refine C.scB hXs hbl hbA (n_in6 h6 1 (by decide)) dL_law_369 ?_
      refine C.aload_n dL_law_370 0 rfl ?_
      refine C.iload_n dL_law_371 3 rfl ?_
      refine C.iconst (nI 2) dL_law_372 (by decide) ?_
      refine C.iadd dL_law_373 ?_
      refine C.scB hXs hbl hbA (n_in6 h6 2 (by decide)) dL_law_374 ?_
      refine C.aload_n dL_law_375 0 rfl ?_
      refine C.iload_n dL_law_376 3 rfl ?_
      refine C.iconst (nI 3) dL_law_377 (by decide) ?_
      refine C.iadd dL_law_378 ?_
      refine C.scB hXs hbl hbA (n_in6 h6 3 (by decide)) dL_law_379 ?_
      refine C.callVI lL_42 dL_law_380 (kx_cell hC hH _ _ _) hC.1.1.1.o0 rfl rfl (Nat.le_of_ble_eq_true rfl) (Nat.zero_le _) (Nat.zero_le _) (Nat.le_of_ble_eq_true rfl) (fun x380 μ380 h380 => ?_)
      obtain ⟨rfl, hP⟩ := h380
      have hR1 := hR.frc hP.2
      refine C.aload_n dL_law_383 2 rfl ?_
      refine C.aload_n dL_law_384 0 rfl ?_
      refine C.iload_n dL_law_385 3 rfl ?_
      refine C.iconst (nI 1) dL_law_386 (by decide) ?_
      refine C.iadd dL_law_387 ?_
      refine C.scB hXs hbl hbA (n_in6 h6 1 (by decide)) dL_law_388 ?_
      refine C.aload_n dL_law_389 0 rfl ?_
      refine C.iload_n dL_law_390 3 rfl ?_
      refine C.iconst (nI 2) dL_law_391 (by decide) ?_
      refine C.iadd dL_law_392 ?_
      refine C.scB hXs hbl hbA (n_in6 h6 2 (by decide)) dL_law_393 ?_
      refine C.aload_n dL_law_394 0 rfl ?_
      refine C.iload_n dL_law_395 3 rfl ?_
      refine C.iconst (nI 3) dL_law_396 (by decide) ?_
      refine C.iadd dL_law_397 ?_
      refine C.scB hXs hbl hbA (n_in6 h6 3 (by decide)) dL_law_398 ?_
      refine C.callVI lL_45 dL_law_399 (kr_cell hR1 hH _ _ _) hR1.1.1.o rfl rfl (Nat.le_of_ble_eq_true rfl) (Nat.zero_le _) (Nat.zero_le _) (Nat.le_of_ble_eq_true rfl) (fun x399 μ399 h399 => ?_)
      obtain ⟨rfl, hP2⟩ := h399
      have fin := next _ _ (hP.1.frr hP2.2) hP2.1 (hH)
      refine C.icmp_eq 993 dL_law_402 rfl (fun hc402 => ?_) (fun hc402 => ?_)
      · exact fin _ _ (by omega) (by omega)
      · exact absurd rfl hc402
    · refine C.tableIn 407 dL_law_33 (by decide) (by decide) rfl rfl ?_
      refine C.aload_n dL_law_407 1 rfl ?_
      refine C.aload_n dL_law_408 0 rfl ?_
      refine C.iload_n dL_law_409 3 rfl ?_
      refine C.iconst (nI 1) dL_law_410 (by decide) ?_
      refine C.iadd dL_law_411 ?_
      refine C.scB hXs hbl hbA (n_in6 h6 1 (by decide)) dL_law_412 ?_
      refine C.aload_n dL_law_413 0 rfl ?_
      refine C.iload_n dL_law_414 3 rfl ?_
      refine C.iconst (nI 2) dL_law_415 (by decide) ?_
      refine C.iadd dL_law_416 ?_
      refine C.scB hXs hbl hbA (n_in6 h6 2 (by decide)) dL_law_417 ?_
      refine C.callVI lL_46 dL_law_418 (kx_bell hC hH _ _) hC.1.1.1.o0 rfl rfl (Nat.le_of_ble_eq_true rfl) (Nat.zero_le _) (Nat.zero_le _) (Nat.le_of_ble_eq_true rfl) (fun x418 μ418 h418 => ?_)
      obtain ⟨rfl, hP⟩ := h418
      have hR1 := hR.frc hP.2
      refine C.aload_n dL_law_421 2 rfl ?_
      refine C.aload_n dL_law_422 0 rfl ?_
      refine C.iload_n dL_law_423 3 rfl ?_
      refine C.iconst (nI 1) dL_law_424 (by decide) ?_
      refine C.iadd dL_law_425 ?_
      refine C.scB hXs hbl hbA (n_in6 h6 1 (by decide)) dL_law_426 ?_
      refine C.aload_n dL_law_427 0 rfl ?_
      refine C.iload_n dL_law_428 3 rfl ?_
      refine C.iconst (nI 2) dL_law_429 (by decide) ?_
      refine C.iadd dL_law_430 ?_
      refine C.scB hXs hbl hbA (n_in6 h6 2 (by decide)) dL_law_431 ?_
      refine C.callVI lL_50 dL_law_432 (kr_bell hR1 hH _ _) hR1.1.1.o rfl rfl (Nat.le_of_ble_eq_true rfl) (Nat.zero_le _) (Nat.zero_le _) (Nat.le_of_ble_eq_true rfl) (fun x432 μ432 h432 => ?_)
      obtain ⟨rfl, hP2⟩ := h432
      have fin := next _ _ (hP.1.frr hP2.2) hP2.1 (hH)
      refine C.icmp_eq 993 dL_law_435 rfl (fun hc435 => ?_) (fun hc435 => ?_)
      · exact fin _ _ (by omega) (by omega)
      · exact absurd rfl hc435
    · refine C.tableIn 440 dL_law_33 (by decide) (by decide) rfl rfl ?_
      refine C.aload_n dL_law_440 1 rfl ?_
      refine C.aload_n dL_law_441 0 rfl ?_
      refine C.iload_n dL_law_442 3 rfl ?_
      refine C.iconst (nI 1) dL_law_443 (by decide) ?_
      refine C.iadd dL_law_444 ?_
      refine C.scB hXs hbl hbA (n_in6 h6 1 (by decide)) dL_law_445 ?_
      refine C.aload_n dL_law_446 0 rfl ?_
      refine C.iload_n dL_law_447 3 rfl ?_
      refine C.iconst (nI 2) dL_law_448 (by decide) ?_
      refine C.iadd dL_law_449 ?_
      refine C.scB hXs hbl hbA (n_in6 h6 2 (by decide)) dL_law_450 ?_
      refine C.callVI lL_51 dL_law_451 (kx_walker hC hH _ _) hC.1.1.1.o0 rfl rfl (Nat.le_of_ble_eq_true rfl) (Nat.zero_le _) (Nat.zero_le _) (Nat.le_of_ble_eq_true rfl) (fun x451 μ451 h451 => ?_)
      obtain ⟨rfl, hP⟩ := h451
      have hR1 := hR.frc hP.2
      refine C.aload_n dL_law_454 2 rfl ?_
      refine C.aload_n dL_law_455 0 rfl ?_
      refine C.iload_n dL_law_456 3 rfl ?_
      refine C.iconst (nI 1) dL_law_457 (by decide) ?_
      refine C.iadd dL_law_458 ?_
      refine C.scB hXs hbl hbA (n_in6 h6 1 (by decide)) dL_law_459 ?_
      refine C.aload_n dL_law_460 0 rfl ?_
      refine C.iload_n dL_law_461 3 rfl ?_
      refine C.iconst (nI 2) dL_law_462 (by decide) ?_
      refine C.iadd dL_law_463 ?_
      refine C.scB hXs hbl hbA (n_in6 h6 2 (by decide)) dL_law_464 ?_
      refine C.callVI lL_54 dL_law_465 (kr_walker hR1 hH _ _) hR1.1.1.o rfl rfl (Nat.le_of_ble_eq_true rfl) (Nat.zero_le _) (Nat.zero_le _) (Nat.le_of_ble_eq_true rfl) (fun x465 μ465 h465 => ?_)
      obtain ⟨rfl, hP2⟩ := h465
      have fin := next _ _ (hP.1.frr hP2.2) hP2.1 (hH)
      refine C.icmp_eq 993 dL_law_468 rfl (fun hc468 => ?_) (fun hc468 => ?_)
      · exact fin _ _ (by omega) (by omega)
      · exact absurd rfl hc468
    · refine C.tableIn 473 dL_law_33 (by decide) (by decide) rfl rfl ?_
      refine C.aload_n dL_law_473 1 rfl ?_
      refine C.aload_n dL_law_474 0 rfl ?_
      refine C.iload_n dL_law_475 3 rfl ?_
      refine C.iconst (nI 1) dL_law_476 (by decide) ?_
      refine C.iadd dL_law_477 ?_
      refine C.scB hXs hbl hbA (n_in6 h6 1 (by decide)) dL_law_478 ?_
      refine C.aload_n dL_law_479 0 rfl ?_
      refine C.iload_n dL_law_480 3 rfl ?_
      refine C.iconst (nI 2) dL_law_481 (by decide) ?_
      refine C.iadd dL_law_482 ?_
      refine C.scB hXs hbl hbA (n_in6 h6 2 (by decide)) dL_law_483 ?_
      refine C.callVI lL_55 dL_law_484 (kx_told hC hH _ _) hC.1.1.1.o0 rfl rfl (Nat.le_of_ble_eq_true rfl) (Nat.zero_le _) (Nat.zero_le _) (Nat.le_of_ble_eq_true rfl) (fun x484 μ484 h484 => ?_)
      obtain ⟨rfl, hP⟩ := h484
      have hR1 := hR.frc hP.2
      refine C.aload_n dL_law_487 2 rfl ?_
      refine C.aload_n dL_law_488 0 rfl ?_
      refine C.iload_n dL_law_489 3 rfl ?_
      refine C.iconst (nI 1) dL_law_490 (by decide) ?_
      refine C.iadd dL_law_491 ?_
      refine C.scB hXs hbl hbA (n_in6 h6 1 (by decide)) dL_law_492 ?_
      refine C.aload_n dL_law_493 0 rfl ?_
      refine C.iload_n dL_law_494 3 rfl ?_
      refine C.iconst (nI 2) dL_law_495 (by decide) ?_
      refine C.iadd dL_law_496 ?_
      refine C.scB hXs hbl hbA (n_in6 h6 2 (by decide)) dL_law_497 ?_
      refine C.callVI lL_58 dL_law_498 (kr_told hR1 hH _ _) hR1.1.1.o rfl rfl (Nat.le_of_ble_eq_true rfl) (Nat.zero_le _) (Nat.zero_le _) (Nat.le_of_ble_eq_true rfl) (fun x498 μ498 h498 => ?_)
      obtain ⟨rfl, hP2⟩ := h498
      have fin := next _ _ (hP.1.frr hP2.2) hP2.1 (hH)
      refine C.icmp_eq 993 dL_law_501 rfl (fun hc501 => ?_) (fun hc501 => ?_)
      · exact fin _ _ (by omega) (by omega)
      · exact absurd rfl hc501
    · refine C.tableIn 506 dL_law_33 (by decide) (by decide) rfl rfl ?_
      refine C.aload_n dL_law_506 1 rfl ?_
      refine C.aload_n dL_law_507 0 rfl ?_
      refine C.iload_n dL_law_508 3 rfl ?_
      refine C.iconst (nI 1) dL_law_509 (by decide) ?_
      refine C.iadd dL_law_510 ?_
      refine C.scB hXs hbl hbA (n_in6 h6 1 (by decide)) dL_law_511 ?_
      refine C.aload_n dL_law_512 0 rfl ?_
      refine C.iload_n dL_law_513 3 rfl ?_
      refine C.iconst (nI 2) dL_law_514 (by decide) ?_
      refine C.iadd dL_law_515 ?_
      refine C.scB hXs hbl hbA (n_in6 h6 2 (by decide)) dL_law_516 ?_
      refine C.callVI lL_59 dL_law_517 (kx_hunt hC hH _ _) hC.1.1.1.o0 rfl rfl (Nat.le_of_ble_eq_true rfl) (Nat.zero_le _) (Nat.zero_le _) (Nat.le_of_ble_eq_true rfl) (fun x517 μ517 h517 => ?_)
      obtain ⟨rfl, hP⟩ := h517
      have hR1 := hR.frc hP.2
      refine C.aload_n dL_law_520 2 rfl ?_
      refine C.aload_n dL_law_521 0 rfl ?_
      refine C.iload_n dL_law_522 3 rfl ?_
      refine C.iconst (nI 1) dL_law_523 (by decide) ?_
      refine C.iadd dL_law_524 ?_
      refine C.scB hXs hbl hbA (n_in6 h6 1 (by decide)) dL_law_525 ?_
      refine C.aload_n dL_law_526 0 rfl ?_
      refine C.iload_n dL_law_527 3 rfl ?_
      refine C.iconst (nI 2) dL_law_528 (by decide) ?_
      refine C.iadd dL_law_529 ?_
      refine C.scB hXs hbl hbA (n_in6 h6 2 (by decide)) dL_law_530 ?_
      refine C.callVI lL_62 dL_law_531 (kr_hunt hR1 hH _ _) hR1.1.1.o rfl rfl (Nat.le_of_ble_eq_true rfl) (Nat.zero_le _) (Nat.zero_le _) (Nat.le_of_ble_eq_true rfl) (fun x531 μ531 h531 => ?_)
      obtain ⟨rfl, hP2⟩ := h531
      have fin := next _ _ (hP.1.frr hP2.2) hP2.1 (hH)
      refine C.icmp_eq 993 dL_law_534 rfl (fun hc534 => ?_) (fun hc534 => ?_)
      · exact fin _ _ (by omega) (by omega)
      · exact absurd rfl hc534
    · refine C.tableIn 539 dL_law_33 (by decide) (by decide) rfl rfl ?_
      refine C.aload_n dL_law_539 1 rfl ?_
      refine C.aload_n dL_law_540 0 rfl ?_
      refine C.iload_n dL_law_541 3 rfl ?_
      refine C.iconst (nI 1) dL_law_542 (by decide) ?_
      refine C.iadd dL_law_543 ?_
      refine C.scB hXs hbl hbA (n_in6 h6 1 (by decide)) dL_law_544 ?_
      refine C.callVI lL_63 dL_law_545 (kx_meets hC hH _) hC.1.1.1.o0 rfl rfl (Nat.le_of_ble_eq_true rfl) (Nat.zero_le _) (Nat.zero_le _) (Nat.le_of_ble_eq_true rfl) (fun x545 μ545 h545 => ?_)
      obtain ⟨rfl, hP⟩ := h545
      have hR1 := hR.frc hP.2
      refine C.aload_n dL_law_548 2 rfl ?_
      refine C.aload_n dL_law_549 0 rfl ?_
      refine C.iload_n dL_law_550 3 rfl ?_
      refine C.iconst (nI 1) dL_law_551 (by decide) ?_
      refine C.iadd dL_law_552 ?_
      refine C.scB hXs hbl hbA (n_in6 h6 1 (by decide)) dL_law_553 ?_
      refine C.callVI lL_66 dL_law_554 (kr_meets hR1 hH _) hR1.1.1.o rfl rfl (Nat.le_of_ble_eq_true rfl) (Nat.zero_le _) (Nat.zero_le _) (Nat.le_of_ble_eq_true rfl) (fun x554 μ554 h554 => ?_)
      obtain ⟨rfl, hP2⟩ := h554
      have fin := next _ _ (hP.1.frr hP2.2) hP2.1 (hH)
      refine C.icmp_eq 993 dL_law_557 rfl (fun hc557 => ?_) (fun hc557 => ?_)
      · exact fin _ _ (by omega) (by omega)
      · exact absurd rfl hc557
    · refine C.tableIn 562 dL_law_33 (by decide) (by decide) rfl rfl ?_
      refine C.aload_n dL_law_562 1 rfl ?_
      refine C.aload_n dL_law_563 0 rfl ?_
      refine C.iload_n dL_law_564 3 rfl ?_
      refine C.iconst (nI 1) dL_law_565 (by decide) ?_
      refine C.iadd dL_law_566 ?_
      refine C.scB hXs hbl hbA (n_in6 h6 1 (by decide)) dL_law_567 ?_
      refine C.callVI lL_67 dL_law_568 (kx_safe hC hH _) hC.1.1.1.o0 rfl rfl (Nat.le_of_ble_eq_true rfl) (Nat.zero_le _) (Nat.zero_le _) (Nat.le_of_ble_eq_true rfl) (fun x568 μ568 h568 => ?_)
      obtain ⟨rfl, hP⟩ := h568
      have hR1 := hR.frc hP.2
      refine C.aload_n dL_law_571 2 rfl ?_
      refine C.aload_n dL_law_572 0 rfl ?_
      refine C.iload_n dL_law_573 3 rfl ?_
      refine C.iconst (nI 1) dL_law_574 (by decide) ?_
      refine C.iadd dL_law_575 ?_
      refine C.scB hXs hbl hbA (n_in6 h6 1 (by decide)) dL_law_576 ?_
      refine C.callVI lL_70 dL_law_577 (kr_safe hR1 hH _) hR1.1.1.o rfl rfl (Nat.le_of_ble_eq_true rfl) (Nat.zero_le _) (Nat.zero_le _) (Nat.le_of_ble_eq_true rfl) (fun x577 μ577 h577 => ?_)
      obtain ⟨rfl, hP2⟩ := h577
      have fin := next _ _ (hP.1.frr hP2.2) hP2.1 (hH)
      refine C.icmp_eq 993 dL_law_580 rfl (fun hc580 => ?_) (fun hc580 => ?_)
      · exact fin _ _ (by omega) (by omega)
      · exact absurd rfl hc580
    · refine C.tableIn 585 dL_law_33 (by decide) (by decide) rfl rfl ?_
      refine C.aload_n dL_law_585 1 rfl ?_
      refine C.callVI lL_71 dL_law_586 (kx_peal hC hH) hC.1.1.1.o0 rfl rfl (Nat.le_of_ble_eq_true rfl) (Nat.zero_le _) (Nat.zero_le _) (Nat.le_of_ble_eq_true rfl) (fun x586 μ586 h586 => ?_)
      obtain ⟨rfl, hP⟩ := h586
      have hR1 := hR.frc hP.2
      refine C.aload_n dL_law_589 2 rfl ?_
      refine C.callVI lL_74 dL_law_590 (kr_peal hR1 hH) hR1.1.1.o rfl rfl (Nat.le_of_ble_eq_true rfl) (Nat.zero_le _) (Nat.zero_le _) (Nat.le_of_ble_eq_true rfl) (fun x590 μ590 h590 => ?_)
      obtain ⟨rfl, hP2⟩ := h590
      have fin := next _ _ (hP.1.frr hP2.2) hP2.1 (hH)
      refine C.icmp_eq 993 dL_law_593 rfl (fun hc593 => ?_) (fun hc593 => ?_)
      · exact fin _ _ (by omega) (by omega)
      · exact absurd rfl hc593
    · refine C.tableIn 598 dL_law_33 (by decide) (by decide) rfl rfl ?_
      refine C.aload_n dL_law_598 1 rfl ?_
      refine C.callVI lL_75 dL_law_599 (kx_rest hC hH) hC.1.1.1.o0 rfl rfl (Nat.le_of_ble_eq_true rfl) (Nat.zero_le _) (Nat.zero_le _) (Nat.le_of_ble_eq_true rfl) (fun x599 μ599 h599 => ?_)
      obtain ⟨rfl, hP⟩ := h599
      have hR1 := hR.frc hP.2
      refine C.aload_n dL_law_602 2 rfl ?_
      refine C.callVI lL_78 dL_law_603 (kr_rest hR1 hH) hR1.1.1.o rfl rfl (Nat.le_of_ble_eq_true rfl) (Nat.zero_le _) (Nat.zero_le _) (Nat.le_of_ble_eq_true rfl) (fun x603 μ603 h603 => ?_)
      obtain ⟨rfl, hP2⟩ := h603
      have fin := next _ _ (hP.1.frr hP2.2) hP2.1 (hH)
      refine C.icmp_eq 993 dL_law_606 rfl (fun hc606 => ?_) (fun hc606 => ?_)
      · exact fin _ _ (by omega) (by omega)
      · exact absurd rfl hc606
    · refine C.tableIn 611 dL_law_33 (by decide) (by decide) rfl rfl ?_
      refine C.aload_n dL_law_611 1 rfl ?_
      refine C.aload_n dL_law_612 0 rfl ?_
      refine C.iload_n dL_law_613 3 rfl ?_
      refine C.iconst (nI 1) dL_law_614 (by decide) ?_
      refine C.iadd dL_law_615 ?_
      refine C.scB hXs hbl hbA (n_in6 h6 1 (by decide)) dL_law_616 ?_
      refine C.aload_n dL_law_617 0 rfl ?_
      refine C.iload_n dL_law_618 3 rfl ?_
      refine C.iconst (nI 2) dL_law_619 (by decide) ?_
      refine C.iadd dL_law_620 ?_
      refine C.scB hXs hbl hbA (n_in6 h6 2 (by decide)) dL_law_621 ?_
      refine C.callVI lL_79 dL_law_622 (kx_later hC hH _ _) hC.1.1.1.o0 rfl rfl (Nat.le_of_ble_eq_true rfl) (Nat.zero_le _) (Nat.zero_le _) (Nat.le_of_ble_eq_true rfl) (fun x622 μ622 h622 => ?_)
      obtain ⟨rfl, hP⟩ := h622
      have hR1 := hR.frc hP.2
      refine C.aload_n dL_law_625 2 rfl ?_
      refine C.aload_n dL_law_626 0 rfl ?_
      refine C.iload_n dL_law_627 3 rfl ?_
      refine C.iconst (nI 1) dL_law_628 (by decide) ?_
      refine C.iadd dL_law_629 ?_
      refine C.scB hXs hbl hbA (n_in6 h6 1 (by decide)) dL_law_630 ?_
      refine C.aload_n dL_law_631 0 rfl ?_
      refine C.iload_n dL_law_632 3 rfl ?_
      refine C.iconst (nI 2) dL_law_633 (by decide) ?_
      refine C.iadd dL_law_634 ?_
      refine C.scB hXs hbl hbA (n_in6 h6 2 (by decide)) dL_law_635 ?_
      refine C.callVI lL_82 dL_law_636 (kr_later hR1 hH _ _) hR1.1.1.o rfl rfl (Nat.le_of_ble_eq_true rfl) (Nat.zero_le _) (Nat.zero_le _) (Nat.le_of_ble_eq_true rfl) (fun x636 μ636 h636 => ?_)
      obtain ⟨rfl, hP2⟩ := h636
      have fin := next _ _ (hP.1.frr hP2.2) hP2.1 (hH)
      refine C.icmp_eq 993 dL_law_639 rfl (fun hc639 => ?_) (fun hc639 => ?_)
      · exact fin _ _ (by omega) (by omega)
      · exact absurd rfl hc639
    · refine C.tableIn 644 dL_law_33 (by decide) (by decide) rfl rfl ?_
      refine C.aload_n dL_law_644 1 rfl ?_
      refine C.aload_n dL_law_645 0 rfl ?_
      refine C.iload_n dL_law_646 3 rfl ?_
      refine C.iconst (nI 1) dL_law_647 (by decide) ?_
      refine C.iadd dL_law_648 ?_
      refine C.scB hXs hbl hbA (n_in6 h6 1 (by decide)) dL_law_649 ?_
      refine C.aload_n dL_law_650 0 rfl ?_
      refine C.iload_n dL_law_651 3 rfl ?_
      refine C.iconst (nI 2) dL_law_652 (by decide) ?_
      refine C.iadd dL_law_653 ?_
      refine C.scB hXs hbl hbA (n_in6 h6 2 (by decide)) dL_law_654 ?_
      refine C.callVI lL_83 dL_law_655 (kx_chapel hC hH _ _) hC.1.1.1.o0 rfl rfl (Nat.le_of_ble_eq_true rfl) (Nat.zero_le _) (Nat.zero_le _) (Nat.le_of_ble_eq_true rfl) (fun x655 μ655 h655 => ?_)
      obtain ⟨rfl, hP⟩ := h655
      have hR1 := hR.frc hP.2
      refine C.aload_n dL_law_658 2 rfl ?_
      refine C.aload_n dL_law_659 0 rfl ?_
      refine C.iload_n dL_law_660 3 rfl ?_
      refine C.iconst (nI 1) dL_law_661 (by decide) ?_
      refine C.iadd dL_law_662 ?_
      refine C.scB hXs hbl hbA (n_in6 h6 1 (by decide)) dL_law_663 ?_
      refine C.aload_n dL_law_664 0 rfl ?_
      refine C.iload_n dL_law_665 3 rfl ?_
      refine C.iconst (nI 2) dL_law_666 (by decide) ?_
      refine C.iadd dL_law_667 ?_
      refine C.scB hXs hbl hbA (n_in6 h6 2 (by decide)) dL_law_668 ?_
      refine C.callVI lL_86 dL_law_669 (kr_chapel hR1 hH _ _) hR1.1.1.o rfl rfl (Nat.le_of_ble_eq_true rfl) (Nat.zero_le _) (Nat.zero_le _) (Nat.le_of_ble_eq_true rfl) (fun x669 μ669 h669 => ?_)
      obtain ⟨rfl, hP2⟩ := h669
      have fin := next _ _ (hP.1.frr hP2.2) hP2.1 (hH)
      refine C.icmp_eq 993 dL_law_672 rfl (fun hc672 => ?_) (fun hc672 => ?_)
      · exact fin _ _ (by omega) (by omega)
      · exact absurd rfl hc672
    · refine C.tableIn 677 dL_law_33 (by decide) (by decide) rfl rfl ?_
      refine C.aload_n dL_law_677 1 rfl ?_
      refine C.aload_n dL_law_678 0 rfl ?_
      refine C.iload_n dL_law_679 3 rfl ?_
      refine C.iconst (nI 1) dL_law_680 (by decide) ?_
      refine C.iadd dL_law_681 ?_
      refine C.scB hXs hbl hbA (n_in6 h6 1 (by decide)) dL_law_682 ?_
      refine C.callVI lL_87 dL_law_683 (kx_first hC hH _) hC.1.1.1.o0 rfl rfl (Nat.le_of_ble_eq_true rfl) (Nat.zero_le _) (Nat.zero_le _) (Nat.le_of_ble_eq_true rfl) (fun x683 μ683 h683 => ?_)
      obtain ⟨rfl, hP⟩ := h683
      have hR1 := hR.frc hP.2
      refine C.aload_n dL_law_686 2 rfl ?_
      refine C.aload_n dL_law_687 0 rfl ?_
      refine C.iload_n dL_law_688 3 rfl ?_
      refine C.iconst (nI 1) dL_law_689 (by decide) ?_
      refine C.iadd dL_law_690 ?_
      refine C.scB hXs hbl hbA (n_in6 h6 1 (by decide)) dL_law_691 ?_
      refine C.callVI lL_90 dL_law_692 (kr_first hR1 hH _) hR1.1.1.o rfl rfl (Nat.le_of_ble_eq_true rfl) (Nat.zero_le _) (Nat.zero_le _) (Nat.le_of_ble_eq_true rfl) (fun x692 μ692 h692 => ?_)
      obtain ⟨rfl, hP2⟩ := h692
      have fin := next _ _ (hP.1.frr hP2.2) hP2.1 (hH)
      refine C.icmp_eq 993 dL_law_695 rfl (fun hc695 => ?_) (fun hc695 => ?_)
      · exact fin _ _ (by omega) (by omega)
      · exact absurd rfl hc695
    · refine C.tableIn 700 dL_law_33 (by decide) (by decide) rfl rfl ?_
      refine C.aload_n dL_law_700 1 rfl ?_
      refine C.callVI lL_91 dL_law_701 (kx_see hC hH) hC.1.1.1.o0 rfl rfl (Nat.le_of_ble_eq_true rfl) (Nat.zero_le _) (Nat.zero_le _) (Nat.le_of_ble_eq_true rfl) (fun x701 μ701 h701 => ?_)
      obtain ⟨rfl, hP⟩ := h701
      have hR1 := hR.frc hP.2
      refine C.aload_n dL_law_704 2 rfl ?_
      refine C.callVI lL_94 dL_law_705 (kr_see hR1 hH) hR1.1.1.o rfl rfl (Nat.le_of_ble_eq_true rfl) (Nat.zero_le _) (Nat.zero_le _) (Nat.le_of_ble_eq_true rfl) (fun x705 μ705 h705 => ?_)
      obtain ⟨rfl, hP2⟩ := h705
      have fin := next _ _ (hP.1.frr hP2.2) hP2.1 (hk_see hH)
      refine C.icmp_eq 993 dL_law_708 rfl (fun hc708 => ?_) (fun hc708 => ?_)
      · exact fin _ _ (by omega) (by omega)
      · exact absurd rfl hc708
    · refine C.tableIn 713 dL_law_33 (by decide) (by decide) rfl rfl ?_
      refine C.aload_n dL_law_713 1 rfl ?_
      refine C.aload_n dL_law_714 0 rfl ?_
      refine C.iload_n dL_law_715 3 rfl ?_
      refine C.iconst (nI 1) dL_law_716 (by decide) ?_
      refine C.iadd dL_law_717 ?_
      refine C.scB hXs hbl hbA (n_in6 h6 1 (by decide)) dL_law_718 ?_
      refine C.callVI lL_95 dL_law_719 (kx_began hC hH _) hC.1.1.1.o0 rfl rfl (Nat.le_of_ble_eq_true rfl) (Nat.zero_le _) (Nat.zero_le _) (Nat.le_of_ble_eq_true rfl) (fun x719 μ719 h719 => ?_)
      obtain ⟨rfl, hP⟩ := h719
      have hR1 := hR.frc hP.2
      refine C.aload_n dL_law_722 2 rfl ?_
      refine C.aload_n dL_law_723 0 rfl ?_
      refine C.iload_n dL_law_724 3 rfl ?_
      refine C.iconst (nI 1) dL_law_725 (by decide) ?_
      refine C.iadd dL_law_726 ?_
      refine C.scB hXs hbl hbA (n_in6 h6 1 (by decide)) dL_law_727 ?_
      refine C.callVI lL_98 dL_law_728 (kr_began hR1 hH _) hR1.1.1.o rfl rfl (Nat.le_of_ble_eq_true rfl) (Nat.zero_le _) (Nat.zero_le _) (Nat.le_of_ble_eq_true rfl) (fun x728 μ728 h728 => ?_)
      obtain ⟨rfl, hP2⟩ := h728
      have fin := next _ _ (hP.1.frr hP2.2) hP2.1 (hH)
      refine C.icmp_eq 993 dL_law_731 rfl (fun hc731 => ?_) (fun hc731 => ?_)
      · exact fin _ _ (by omega) (by omega)
      · exact absurd rfl hc731
    · refine C.tableIn 736 dL_law_33 (by decide) (by decide) rfl rfl ?_
      refine C.aload_n dL_law_736 1 rfl ?_
      refine C.aload_n dL_law_737 0 rfl ?_
      refine C.iload_n dL_law_738 3 rfl ?_
      refine C.iconst (nI 1) dL_law_739 (by decide) ?_
      refine C.iadd dL_law_740 ?_
      refine C.scB hXs hbl hbA (n_in6 h6 1 (by decide)) dL_law_741 ?_
      refine C.callVI lL_99 dL_law_742 (kx_tells hC hH _) hC.1.1.1.o0 rfl rfl (Nat.le_of_ble_eq_true rfl) (Nat.zero_le _) (Nat.zero_le _) (Nat.le_of_ble_eq_true rfl) (fun x742 μ742 h742 => ?_)
      obtain ⟨rfl, hP⟩ := h742
      have hR1 := hR.frc hP.2
      refine C.aload_n dL_law_745 2 rfl ?_
      refine C.aload_n dL_law_746 0 rfl ?_
      refine C.iload_n dL_law_747 3 rfl ?_
      refine C.iconst (nI 1) dL_law_748 (by decide) ?_
      refine C.iadd dL_law_749 ?_
      refine C.scB hXs hbl hbA (n_in6 h6 1 (by decide)) dL_law_750 ?_
      refine C.callVI lL_102 dL_law_751 (kr_tells hR1 hH _) hR1.1.1.o rfl rfl (Nat.le_of_ble_eq_true rfl) (Nat.zero_le _) (Nat.zero_le _) (Nat.le_of_ble_eq_true rfl) (fun x751 μ751 h751 => ?_)
      obtain ⟨rfl, hP2⟩ := h751
      have fin := next _ _ (hP.1.frr hP2.2) hP2.1 (hH)
      refine C.icmp_eq 993 dL_law_754 rfl (fun hc754 => ?_) (fun hc754 => ?_)
      · exact fin _ _ (by omega) (by omega)
      · exact absurd rfl hc754
    · refine C.tableIn 759 dL_law_33 (by decide) (by decide) rfl rfl ?_
      refine C.aload_n dL_law_759 1 rfl ?_
      refine C.aload_n dL_law_760 0 rfl ?_
      refine C.iload_n dL_law_761 3 rfl ?_
      refine C.iconst (nI 1) dL_law_762 (by decide) ?_
      refine C.iadd dL_law_763 ?_
      refine C.scB hXs hbl hbA (n_in6 h6 1 (by decide)) dL_law_764 ?_
      refine C.aload_n dL_law_765 0 rfl ?_
      refine C.iload_n dL_law_766 3 rfl ?_
      refine C.iconst (nI 2) dL_law_767 (by decide) ?_
      refine C.iadd dL_law_768 ?_
      refine C.scB hXs hbl hbA (n_in6 h6 2 (by decide)) dL_law_769 ?_
      refine C.callVI lL_103 dL_law_770 (kx_ring hC hH _ _) hC.1.1.1.o0 rfl rfl (Nat.le_of_ble_eq_true rfl) (Nat.zero_le _) (Nat.zero_le _) (Nat.le_of_ble_eq_true rfl) (fun x770 μ770 h770 => ?_)
      obtain ⟨rfl, hP⟩ := h770
      have hR1 := hR.frc hP.2
      refine C.aload_n dL_law_773 2 rfl ?_
      refine C.aload_n dL_law_774 0 rfl ?_
      refine C.iload_n dL_law_775 3 rfl ?_
      refine C.iconst (nI 1) dL_law_776 (by decide) ?_
      refine C.iadd dL_law_777 ?_
      refine C.scB hXs hbl hbA (n_in6 h6 1 (by decide)) dL_law_778 ?_
      refine C.aload_n dL_law_779 0 rfl ?_
      refine C.iload_n dL_law_780 3 rfl ?_
      refine C.iconst (nI 2) dL_law_781 (by decide) ?_
      refine C.iadd dL_law_782 ?_
      refine C.scB hXs hbl hbA (n_in6 h6 2 (by decide)) dL_law_783 ?_
      refine C.callVI lL_107 dL_law_784 (kr_ring hR1 hH _ _) hR1.1.1.o rfl rfl (Nat.le_of_ble_eq_true rfl) (Nat.zero_le _) (Nat.zero_le _) (Nat.le_of_ble_eq_true rfl) (fun x784 μ784 h784 => ?_)
      obtain ⟨rfl, hP2⟩ := h784
      have fin := next _ _ (hP.1.frr hP2.2) hP2.1 (hk_ring hH _ _)
      refine C.icmp_eq 993 dL_law_787 rfl (fun hc787 => ?_) (fun hc787 => ?_)
      · exact fin _ _ (by omega) (by omega)
      · exact absurd rfl hc787
    · refine C.tableIn 792 dL_law_33 (by decide) (by decide) rfl rfl ?_
      refine C.aload_n dL_law_792 1 rfl ?_
      refine C.aload_n dL_law_793 0 rfl ?_
      refine C.iload_n dL_law_794 3 rfl ?_
      refine C.iconst (nI 1) dL_law_795 (by decide) ?_
      refine C.iadd dL_law_796 ?_
      refine C.scB hXs hbl hbA (n_in6 h6 1 (by decide)) dL_law_797 ?_
      refine C.aload_n dL_law_798 0 rfl ?_
      refine C.iload_n dL_law_799 3 rfl ?_
      refine C.iconst (nI 2) dL_law_800 (by decide) ?_
      refine C.iadd dL_law_801 ?_
      refine C.scB hXs hbl hbA (n_in6 h6 2 (by decide)) dL_law_802 ?_
      refine C.callVI lL_108 dL_law_803 (kx_does hC hH _ _) hC.1.1.1.o0 rfl rfl (Nat.le_of_ble_eq_true rfl) (Nat.zero_le _) (Nat.zero_le _) (Nat.le_of_ble_eq_true rfl) (fun x803 μ803 h803 => ?_)
      obtain ⟨rfl, hP⟩ := h803
      have hR1 := hR.frc hP.2
      refine C.aload_n dL_law_806 2 rfl ?_
      refine C.aload_n dL_law_807 0 rfl ?_
      refine C.iload_n dL_law_808 3 rfl ?_
      refine C.iconst (nI 1) dL_law_809 (by decide) ?_
      refine C.iadd dL_law_810 ?_
      refine C.scB hXs hbl hbA (n_in6 h6 1 (by decide)) dL_law_811 ?_
      refine C.aload_n dL_law_812 0 rfl ?_
      refine C.iload_n dL_law_813 3 rfl ?_
      refine C.iconst (nI 2) dL_law_814 (by decide) ?_
      refine C.iadd dL_law_815 ?_
      refine C.scB hXs hbl hbA (n_in6 h6 2 (by decide)) dL_law_816 ?_
      refine C.callVI lL_111 dL_law_817 (kr_does hR1 hH _ _) hR1.1.1.o rfl rfl (Nat.le_of_ble_eq_true rfl) (Nat.zero_le _) (Nat.zero_le _) (Nat.le_of_ble_eq_true rfl) (fun x817 μ817 h817 => ?_)
      obtain ⟨rfl, hP2⟩ := h817
      have fin := next _ _ (hP.1.frr hP2.2) hP2.1 (hk_does hH _ _)
      refine C.icmp_eq 993 dL_law_820 rfl (fun hc820 => ?_) (fun hc820 => ?_)
      · exact fin _ _ (by omega) (by omega)
      · exact absurd rfl hc820
    · refine C.tableIn 825 dL_law_33 (by decide) (by decide) rfl rfl ?_
      refine C.aload_n dL_law_825 1 rfl ?_
      refine C.aload_n dL_law_826 0 rfl ?_
      refine C.iload_n dL_law_827 3 rfl ?_
      refine C.iconst (nI 1) dL_law_828 (by decide) ?_
      refine C.iadd dL_law_829 ?_
      refine C.scB hXs hbl hbA (n_in6 h6 1 (by decide)) dL_law_830 ?_
      refine C.callVI lL_112 dL_law_831 (kx_nights hC hH _) hC.1.1.1.o0 rfl rfl (Nat.le_of_ble_eq_true rfl) (Nat.zero_le _) (Nat.zero_le _) (Nat.le_of_ble_eq_true rfl) (fun x831 μ831 h831 => ?_)
      obtain ⟨rfl, hP⟩ := h831
      have hR1 := hR.frc hP.2
      refine C.aload_n dL_law_834 2 rfl ?_
      refine C.aload_n dL_law_835 0 rfl ?_
      refine C.iload_n dL_law_836 3 rfl ?_
      refine C.iconst (nI 1) dL_law_837 (by decide) ?_
      refine C.iadd dL_law_838 ?_
      refine C.scB hXs hbl hbA (n_in6 h6 1 (by decide)) dL_law_839 ?_
      refine C.callVI lL_115 dL_law_840 (kr_nights hR1 hH _) hR1.1.1.o rfl rfl (Nat.le_of_ble_eq_true rfl) (Nat.zero_le _) (Nat.zero_le _) (Nat.le_of_ble_eq_true rfl) (fun x840 μ840 h840 => ?_)
      obtain ⟨rfl, hP2⟩ := h840
      have fin := next _ _ (hP.1.frr hP2.2) hP2.1 (hk_nights hH _)
      refine C.icmp_eq 993 dL_law_843 rfl (fun hc843 => ?_) (fun hc843 => ?_)
      · exact fin _ _ (by omega) (by omega)
      · exact absurd rfl hc843
    · refine C.tableIn 848 dL_law_33 (by decide) (by decide) rfl rfl ?_
      refine C.aload_n dL_law_848 1 rfl ?_
      refine C.aload_n dL_law_849 0 rfl ?_
      refine C.iload_n dL_law_850 3 rfl ?_
      refine C.iconst (nI 1) dL_law_851 (by decide) ?_
      refine C.iadd dL_law_852 ?_
      refine C.scB hXs hbl hbA (n_in6 h6 1 (by decide)) dL_law_853 ?_
      refine C.callVI lL_116 dL_law_854 (kx_chance hC hH _) hC.1.1.1.o0 rfl rfl (Nat.le_of_ble_eq_true rfl) (Nat.zero_le _) (Nat.zero_le _) (Nat.le_of_ble_eq_true rfl) (fun x854 μ854 h854 => ?_)
      obtain ⟨rfl, hP⟩ := h854
      have hR1 := hR.frc hP.2
      refine C.aload_n dL_law_857 2 rfl ?_
      refine C.aload_n dL_law_858 0 rfl ?_
      refine C.iload_n dL_law_859 3 rfl ?_
      refine C.iconst (nI 1) dL_law_860 (by decide) ?_
      refine C.iadd dL_law_861 ?_
      refine C.scB hXs hbl hbA (n_in6 h6 1 (by decide)) dL_law_862 ?_
      refine C.callVI lL_119 dL_law_863 (kr_chance hR1 hH _) hR1.1.1.o rfl rfl (Nat.le_of_ble_eq_true rfl) (Nat.zero_le _) (Nat.zero_le _) (Nat.le_of_ble_eq_true rfl) (fun x863 μ863 h863 => ?_)
      obtain ⟨rfl, hP2⟩ := h863
      have fin := next _ _ (hP.1.frr hP2.2) hP2.1 (hk_chance hH _)
      refine C.icmp_eq 993 dL_law_866 rfl (fun hc866 => ?_) (fun hc866 => ?_)
      · exact fin _ _ (by omega) (by omega)
      · exact absurd rfl hc866
    · refine C.tableIn 871 dL_law_33 (by decide) (by decide) rfl rfl ?_
      refine C.aload_n dL_law_871 1 rfl ?_
      refine C.callVI lL_120 dL_law_872 (kx_undo hC hH) hC.1.1.1.o0 rfl rfl (Nat.le_of_ble_eq_true rfl) (Nat.zero_le _) (Nat.zero_le _) (Nat.le_of_ble_eq_true rfl) (fun x872 μ872 h872 => ?_)
      obtain ⟨rfl, hP⟩ := h872
      have hR1 := hR.frc hP.2
      refine C.aload_n dL_law_875 2 rfl ?_
      refine C.callVI lL_124 dL_law_876 (kr_undo hR1 hH) hR1.1.1.o rfl rfl (Nat.le_of_ble_eq_true rfl) (Nat.zero_le _) (Nat.zero_le _) (Nat.le_of_ble_eq_true rfl) (fun x876 μ876 h876 => ?_)
      obtain ⟨rfl, hP2⟩ := h876
      have fin := next _ _ (hP.1.frr hP2.2) hP2.1 (hk_undo hH)
      refine C.icmp_eq 993 dL_law_879 rfl (fun hc879 => ?_) (fun hc879 => ?_)
      · exact fin _ _ (by omega) (by omega)
      · exact absurd rfl hc879
    · refine C.tableIn 884 dL_law_33 (by decide) (by decide) rfl rfl ?_
      refine C.aload_n dL_law_884 1 rfl ?_
      refine C.aload_n dL_law_885 0 rfl ?_
      refine C.iload_n dL_law_886 3 rfl ?_
      refine C.iconst (nI 1) dL_law_887 (by decide) ?_
      refine C.iadd dL_law_888 ?_
      refine C.scB hXs hbl hbA (n_in6 h6 1 (by decide)) dL_law_889 ?_
      refine C.callVI lL_125 dL_law_890 (kx_seed hC _) hC.1.1.1.o0 rfl rfl (Nat.le_of_ble_eq_true rfl) (Nat.zero_le _) (Nat.zero_le _) (Nat.le_of_ble_eq_true rfl) (fun x890 μ890 h890 => ?_)
      obtain ⟨rfl, hP⟩ := h890
      have hR1 := hR.frc hP.2
      refine C.aload_n dL_law_893 2 rfl ?_
      refine C.aload_n dL_law_894 0 rfl ?_
      refine C.iload_n dL_law_895 3 rfl ?_
      refine C.iconst (nI 1) dL_law_896 (by decide) ?_
      refine C.iadd dL_law_897 ?_
      refine C.scB hXs hbl hbA (n_in6 h6 1 (by decide)) dL_law_898 ?_
      refine C.callVI lL_128 dL_law_899 (kr_seed hR1 _) hR1.1.1.o rfl rfl (Nat.le_of_ble_eq_true rfl) (Nat.zero_le _) (Nat.zero_le _) (Nat.le_of_ble_eq_true rfl) (fun x899 μ899 h899 => ?_)
      obtain ⟨rfl, hP2⟩ := h899
      have fin := next _ _ (hP.1.frr hP2.2) hP2.1 (hk_seed hH _)
      refine C.icmp_eq 993 dL_law_902 rfl (fun hc902 => ?_) (fun hc902 => ?_)
      · exact fin _ _ (by omega) (by omega)
      · exact absurd rfl hc902
    · refine C.tableIn 907 dL_law_33 (by decide) (by decide) rfl rfl ?_
      generalize hQQ : askT (txL (tpH h)) (tpH h).length (0, -1, 0, -1, mI M 179 10, mI M 179 44) = Q
      refine C.aload_n dL_law_907 1 rfl ?_
      refine C.callVL lL_129 dL_law_908 (kx_ask hC hH (mI M 179 10) (mI M 179 44) hQQ) hC.1.1.1.o0 rfl rfl (Nat.le_of_ble_eq_true rfl) (by omega) (by omega) (Nat.le_of_ble_eq_true rfl) (fun x908 μ908 h908 => ?_)
      obtain ⟨rfl, hP⟩ := h908
      have hR1 := hR.frc hP.2
      have e10 := (hP.2.2 179 10 (by decide) (by decide)).1
      have e44 := (hP.2.2 179 44 (by decide) (by decide)).1
      have hAA := krA (l := l) (G := G) hQQ hH e10 e44 hR1
      refine C.aload_n dL_law_911 2 rfl ?_
      refine C.callVL lL_133 dL_law_912 (hAA) hR1.1.1.o rfl rfl (Nat.le_of_ble_eq_true rfl) (Nat.zero_le _) (Nat.zero_le _) (Nat.le_of_ble_eq_true rfl) (fun x912 μ912 h912 => ?_)
      obtain ⟨rfl, hP2⟩ := h912
      have fin := next _ _ (hP.1.frr hP2.2) hP2.1 (hk_ask hH _)
      refine C.lcmp dL_law_915 ?_
      refine C.if_eq 993 dL_law_916 rfl (fun hc916 => ?_) (fun hc916 => ?_)
      · exact fin _ _ (by omega) (by omega)
      · exact absurd (lgc_0 _) hc916
    · refine C.tableIn 921 dL_law_33 (by decide) (by decide) rfl rfl ?_
      refine C.aload_n dL_law_921 1 rfl ?_
      refine C.callVI lL_134 dL_law_922 (kx_image hC hH) hC.1.1.1.o0 rfl rfl (Nat.le_of_ble_eq_true rfl) (Nat.zero_le _) (Nat.zero_le _) (Nat.le_of_ble_eq_true rfl) (fun x922 μ922 h922 => ?_)
      obtain ⟨rfl, hP⟩ := h922
      have hR1 := hR.frc hP.2
      refine C.aload_n dL_law_925 2 rfl ?_
      refine C.callVI lL_137 dL_law_926 (kr_image hR1 hH) hR1.1.1.o rfl rfl (Nat.le_of_ble_eq_true rfl) (Nat.zero_le _) (Nat.zero_le _) (Nat.le_of_ble_eq_true rfl) (fun x926 μ926 h926 => ?_)
      obtain ⟨rfl, hP2⟩ := h926
      have fin := next _ _ (hP.1.frr hP2.2) hP2.1 (hk_image hH)
      refine C.icmp_eq 993 dL_law_929 rfl (fun hc929 => ?_) (fun hc929 => ?_)
      · exact fin _ _ (by omega) (by omega)
      · exact absurd rfl hc929
    · refine C.tableIn 934 dL_law_33 (by decide) (by decide) rfl rfl ?_
      refine C.aload_n dL_law_934 1 rfl ?_
      refine C.aload_n dL_law_935 0 rfl ?_
      refine C.iload_n dL_law_936 3 rfl ?_
      refine C.iconst (nI 1) dL_law_937 (by decide) ?_
      refine C.iadd dL_law_938 ?_
      refine C.scB hXs hbl hbA (n_in6 h6 1 (by decide)) dL_law_939 ?_
      refine C.callVI lL_138 dL_law_940 (kx_octet hC _) hC.1.1.1.o0 rfl rfl (Nat.le_of_ble_eq_true rfl) (Nat.zero_le _) (Nat.zero_le _) (Nat.le_of_ble_eq_true rfl) (fun x940 μ940 h940 => ?_)
      obtain ⟨rfl, hP⟩ := h940
      have hR1 := hR.frc hP.2
      refine C.aload_n dL_law_943 2 rfl ?_
      refine C.aload_n dL_law_944 0 rfl ?_
      refine C.iload_n dL_law_945 3 rfl ?_
      refine C.iconst (nI 1) dL_law_946 (by decide) ?_
      refine C.iadd dL_law_947 ?_
      refine C.scB hXs hbl hbA (n_in6 h6 1 (by decide)) dL_law_948 ?_
      refine C.callVI lL_141 dL_law_949 (kr_octet hR1 _) hR1.1.1.o rfl rfl (Nat.le_of_ble_eq_true rfl) (Nat.zero_le _) (Nat.zero_le _) (Nat.le_of_ble_eq_true rfl) (fun x949 μ949 h949 => ?_)
      obtain ⟨rfl, hP2⟩ := h949
      have fin := next _ _ (hP.1.frr hP2.2) hP2.1 (hH)
      refine C.icmp_eq 993 dL_law_952 rfl (fun hc952 => ?_) (fun hc952 => ?_)
      · exact fin _ _ (by omega) (by omega)
      · exact absurd rfl hc952
    · refine C.tableIn 957 dL_law_33 (by decide) (by decide) rfl rfl ?_
      refine C.aload_n dL_law_957 1 rfl ?_
      refine C.callVI lL_142 dL_law_958 (kx_on hC hH) hC.1.1.1.o0 rfl rfl (Nat.le_of_ble_eq_true rfl) (Nat.zero_le _) (Nat.zero_le _) (Nat.le_of_ble_eq_true rfl) (fun x958 μ958 h958 => ?_)
      obtain ⟨rfl, hP⟩ := h958
      have hR1 := hR.frc hP.2
      refine C.aload_n dL_law_961 2 rfl ?_
      refine C.callVI lL_145 dL_law_962 (kr_on hR1 hH) hR1.1.1.o rfl rfl (Nat.le_of_ble_eq_true rfl) (Nat.zero_le _) (Nat.zero_le _) (Nat.le_of_ble_eq_true rfl) (fun x962 μ962 h962 => ?_)
      obtain ⟨rfl, hP2⟩ := h962
      have fin := next _ _ (hP.1.frr hP2.2) hP2.1 (hk_on hH)
      refine C.icmp_eq 993 dL_law_965 rfl (fun hc965 => ?_) (fun hc965 => ?_)
      · exact fin _ _ (by omega) (by omega)
      · exact absurd rfl hc965
    · refine C.tableIn 970 dL_law_33 (by decide) (by decide) rfl rfl ?_
      refine C.aload_n dL_law_970 1 rfl ?_
      refine C.aload_n dL_law_971 0 rfl ?_
      refine C.iload_n dL_law_972 3 rfl ?_
      refine C.iconst (nI 1) dL_law_973 (by decide) ?_
      refine C.iadd dL_law_974 ?_
      refine C.scB hXs hbl hbA (n_in6 h6 1 (by decide)) dL_law_975 ?_
      refine C.callVI lL_146 dL_law_976 (kx_status hC _) hC.1.1.1.o0 rfl rfl (Nat.le_of_ble_eq_true rfl) (Nat.zero_le _) (Nat.zero_le _) (Nat.le_of_ble_eq_true rfl) (fun x976 μ976 h976 => ?_)
      obtain ⟨rfl, hP⟩ := h976
      have hR1 := hR.frc hP.2
      refine C.aload_n dL_law_979 2 rfl ?_
      refine C.aload_n dL_law_980 0 rfl ?_
      refine C.iload_n dL_law_981 3 rfl ?_
      refine C.iconst (nI 1) dL_law_982 (by decide) ?_
      refine C.iadd dL_law_983 ?_
      refine C.scB hXs hbl hbA (n_in6 h6 1 (by decide)) dL_law_984 ?_
      refine C.callVI lL_149 dL_law_985 (kr_status hR1 _) hR1.1.1.o rfl rfl (Nat.le_of_ble_eq_true rfl) (Nat.zero_le _) (Nat.zero_le _) (Nat.le_of_ble_eq_true rfl) (fun x985 μ985 h985 => ?_)
      obtain ⟨rfl, hP2⟩ := h985
      have fin := next _ _ (hP.1.frr hP2.2) hP2.1 (hH)
      refine C.icmp_eq 993 dL_law_988 rfl (fun hc988 => ?_) (fun hc988 => ?_)
      · exact fin _ _ (by omega) (by omega)
      · exact absurd rfl hc988
end LAW
