/-! the class: a token on -/
def AdF (μ μ' : Mm) : Prop := μ'.2 = μ.2 ∧ ∀ a k, ¬ (a = 3 ∧ 2 ≤ k ∧ k ≤ 5) → mI μ' a k = mI μ a k
section KAD
variable {l : Launch} {G : Gm} {μ : Mm} {tp : List Nat}

theorem kq_advance (hS : ShC μ) (hT : CsT μ tp) {t kd : Nat} (ht : t ≤ tp.length) (hkd : kd ≤ 3) (h2 : mI μ 3 2 = nI kd) (h5 : mI μ 3 5 = nI t) : AMet l G 1 0 0 mtX8_advance [.ref (G.1 + 3)] μ (qV (fun μ' => AdF μ μ' ∧ RdT μ' (txL tp) tp.length (sk (txL tp) tp.length t) ((kd = 1 ∨ kd = 2) ∧ sk (txL tp) tp.length t = t))) := by
  refine AMet.of (by decide) (Nat.le_of_ble_eq_true rfl) (fun X C hX hnm hq => ?_)
  have hS0 := hS
  have h1600 := hT.2.1
  have hby : ∀ k, k < tp.length → mI μ 2 k = byS (txL tp k) ∧ txL tp k < 256 := fun k q => hT.2.2 k _ (txL_q q)
  have hskl := sk_le (tx := txL tp) ht
  generalize hp : sk (txL tp) tp.length t = p at hq hskl
  have m104 : AW l G X 0 0 104 [(0, .ref (G.1 + 3)), (1, .int (bI (decide (kd = 1 ∨ kd = 2)))), (2, .int (nI t))] [] (sI (sI μ 3 4 (nI p)) 3 5 (nI p)) := by
    have hS2 : ShC (sI (sI μ 3 4 (nI p)) 3 5 (nI p)) := hS.of rfl
    have hT2 : CsT (sI (sI μ 3 4 (nI p)) 3 5 (nI p)) tp := hT.of (by rw [mI_sI, if_neg (by omega), mI_sI, if_neg (by omega)]) (fun k => by rw [mI_sI, if_neg (by omega), mI_sI, if_neg (by omega)])
    have e4 : mI (sI (sI μ 3 4 (nI p)) 3 5 (nI p)) 3 4 = nI p := by rw [mI_sI, if_neg (by omega), mI_sI, if_pos ⟨rfl, rfl⟩]
    have e5 : mI (sI (sI μ 3 4 (nI p)) 3 5 (nI p)) 3 5 = nI p := by rw [mI_sI, if_pos ⟨rfl, rfl⟩]
    have eF : ∀ a k, ¬ (a = 3 ∧ 2 ≤ k ∧ k ≤ 5) → mI (sI (sI μ 3 4 (nI p)) 3 5 (nI p)) a k = mI μ a k := fun a k q => by rw [mI_sI, if_neg (by omega), mI_sI, if_neg (by omega)]
    have eM : (sI (sI μ 3 4 (nI p)) 3 5 (nI p)).2 = μ.2 := rfl
    generalize sI (sI μ 3 4 (nI p)) 3 5 (nI p) = M at hS2 hT2 e4 e5 eF eM ⊢
    have hS := hS2
    have e1 : mI M 1 1 = nI tp.length := hT2.1
    by_cases hpl : p < tp.length
    · obtain ⟨b1, b2⟩ := hby p hpl
      have eb : mI M 2 p = byS (txL tp p) := (eF _ _ (by omega)).trans b1
      have hLL := byS_L b2
      have hDD := byS_D b2
      have rW : isL (txL tp p) = true → ¬ ((kd = 1 ∨ kd = 2) ∧ p = t) → ∀ μ', SwF M μ' → mI μ' 3 2 = nI 1 → mI μ' 3 3 = nI (nm32 (tkW (txL tp) tp.length p)) → mI μ' 3 5 = nI (wl (txL tp) tp.length p) → AdF μ μ' ∧ RdT μ' (txL tp) tp.length p ((kd = 1 ∨ kd = 2) ∧ p = t) := by
        intro hL hno μ' hF w2 w3 w5
        have hnD : isD (txL tp p) = false := by
          unfold isL at hL
          unfold isD
          simp only [Bool.and_eq_true, decide_eq_true_eq] at hL
          rw [decide_eq_false (p := txL tp p ≤ 57) (by omega), Bool.and_false]
        exact ⟨⟨hF.1.trans eM, fun a k q => (hF.2 a k (by omega)).trans (eF a k q)⟩, (hF.2 _ _ (by omega)).trans e4, fun z => by omega, fun _ _ z => absurd z hno, fun _ _ _ => ⟨w2, w3, w5⟩, (fun _ z => by rw [hnD] at z; cases z), (fun _ z => by rw [hL] at z; cases z)⟩
      have rD : isL (txL tp p) = false → isD (txL tp p) = true → ¬ ((kd = 1 ∨ kd = 2) ∧ p = t) → ∀ μ', SwF M μ' → mI μ' 3 2 = nI 2 → mI μ' 3 3 = nI (dval (txL tp) p (min 4 (dl (txL tp) tp.length p - p))) → mI μ' 3 5 = nI (dl (txL tp) tp.length p) → AdF μ μ' ∧ RdT μ' (txL tp) tp.length p ((kd = 1 ∨ kd = 2) ∧ p = t) := by
        intro hL hD hno μ' hF w2 w3 w5
        exact ⟨⟨hF.1.trans eM, fun a k q => (hF.2 a k (by omega)).trans (eF a k q)⟩, (hF.2 _ _ (by omega)).trans e4, fun z => by omega, fun _ _ z => absurd z hno, (fun _ z => by rw [hL] at z; cases z), fun _ _ _ => ⟨w2, w3, w5⟩, (fun _ _ z => by rw [hD] at z; cases z)⟩
      have rS : isL (txL tp p) = false → isD (txL tp p) = false → AdF μ (sI (sI (sI M 3 2 (nI 3)) 3 3 (byS (txL tp p))) 3 5 (nI (p + 1))) ∧ RdT (sI (sI (sI M 3 2 (nI 3)) 3 3 (byS (txL tp p))) 3 5 (nI (p + 1))) (txL tp) tp.length p ((kd = 1 ∨ kd = 2) ∧ p = t) := by
        intro hL hD
        exact ⟨⟨eM, fun a k q => by rw [mI_sI, if_neg (by omega), mI_sI, if_neg (by omega), mI_sI, if_neg (by omega)]; exact eF a k q⟩, by rw [mI_sI, if_neg (by omega), mI_sI, if_neg (by omega), mI_sI, if_neg (by omega)]; exact e4, fun z => by omega, (fun _ z => by rw [hL, hD] at z; cases z), (fun _ z => by rw [hL] at z; cases z), (fun _ z => by rw [hD] at z; cases z), fun _ _ _ => ⟨by rw [mI_sI, if_neg (by omega), mI_sI, if_neg (by omega), mI_sI, if_pos ⟨rfl, rfl⟩], by rw [mI_sI, if_neg (by omega), mI_sI, if_pos ⟨rfl, rfl⟩], by rw [mI_sI, if_pos ⟨rfl, rfl⟩]⟩⟩
      have r4 : ((kd = 1 ∨ kd = 2) ∧ p = t) → (isL (txL tp p) || isD (txL tp p)) = true → ∀ v, AdF μ (sI (sI M 3 2 v) 3 2 (nI 4)) ∧ RdT (sI (sI M 3 2 v) 3 2 (nI 4)) (txL tp) tp.length p ((kd = 1 ∨ kd = 2) ∧ p = t) := by
        intro htc hld v
        rw [sI_sI]
        exact ⟨⟨eM, fun a k q => by rw [mI_sI, if_neg (by omega)]; exact eF a k q⟩, by rw [mI_sI, if_neg (by omega)]; exact e4, fun z => by omega, fun _ _ _ => by rw [mI_sI, if_pos ⟨rfl, rfl⟩], fun _ _ z => absurd htc z, fun _ _ z => absurd htc z, fun _ z1 z2 => by rw [z1, z2] at hld; cases hld⟩
      have mS : isL (txL tp p) = false → isD (txL tp p) = false → AW l G X 0 0 174 [(0, .ref (G.1 + 3)), (1, .int (bI (decide (kd = 1 ∨ kd = 2)))), (2, .int (nI t)), (3, .int (byS (txL tp p)))] [] (sI M 3 2 (nI 3)) := by
        intro hL hD
        have hS : ShC (sI M 3 2 (nI 3)) := hS2.of rfl
        refine C.aload_n dX8_advance_174 0 rfl ?_
        refine C.getI fX8_48 dX8_advance_175 hS.o3 ?_
        rw [mI_sI, if_pos ⟨rfl, rfl⟩]
        refine C.iconst (nI 3) dX8_advance_178 (by decide) ?_
        refine C.icmp_ne 198 dX8_advance_179 rfl (fun hc179 => ?_) (fun hc179 => ?_)
        · exact absurd rfl hc179
        · refine C.aload_n dX8_advance_182 0 rfl ?_
          refine C.iload_n dX8_advance_183 3 rfl ?_
          refine C.putI fX8_73 (Or.inl rfl) dX8_advance_184 hS.o3 ?_
          refine C.aload_n dX8_advance_187 0 rfl ?_
          refine C.dup dX8_advance_188 rfl ?_
          refine C.getI fX8_51 dX8_advance_189 hS.o3 ?_
          rw [mI_sI, if_neg (by omega), mI_sI, if_neg (by omega), e5]
          refine C.iconst (nI 1) dX8_advance_192 (by decide) ?_
          refine C.iadd dX8_advance_193 ?_
          rw [nI_add]
          refine C.putI fX8_51 (Or.inl rfl) dX8_advance_194 hS.o3 ?_
          refine C.vret hq dX8_advance_197 ?_
          exact rS hL hD
      have mW : isL (txL tp p) = true → AW l G X 0 0 174 [(0, .ref (G.1 + 3)), (1, .int (bI (decide (kd = 1 ∨ kd = 2)))), (2, .int (nI t)), (3, .int (byS (txL tp p)))] [] (sI M 3 2 (nI 1)) := by
        intro hL
        have hS : ShC (sI M 3 2 (nI 1)) := hS2.of rfl
        have m216 : ¬ ((kd = 1 ∨ kd = 2) ∧ p = t) → AW l G X 0 0 216 [(0, .ref (G.1 + 3)), (1, .int (bI (decide (kd = 1 ∨ kd = 2)))), (2, .int (nI t)), (3, .int (byS (txL tp p)))] [] (sI M 3 2 (nI 1)) := by
          intro hno
          have hk : mI (sI (sI M 3 2 (nI 1)) 3 3 (nI 0)) 3 2 = nI 1 := by rw [mI_sI, if_neg (by omega), mI_sI, if_pos ⟨rfl, rfl⟩]
          refine C.aload_n dX8_advance_216 0 rfl ?_
          refine C.iconst (nI 0) dX8_advance_217 (by decide) ?_
          refine C.putI fX8_73 (Or.inl rfl) dX8_advance_218 hS.o3 ?_
          refine C.aload_n dX8_advance_221 0 rfl ?_
          refine C.getI fX8_48 dX8_advance_222 hS.o3 ?_
          rw [hk]
          refine C.iconst (nI 1) dX8_advance_225 (by decide) ?_
          refine C.icmp_ne 234 dX8_advance_226 rfl (fun hc226 => ?_) (fun hc226 => ?_)
          · exact absurd rfl hc226
          · refine C.bipush (nI 97) dX8_advance_229 (by decide) ?_
            refine C.goto 236 dX8_advance_231 rfl ?_
            refine C.istore (lv' := [(0, _), (1, _), (2, _), (3, _), (4, _)]) dX8_advance_236 (nLt hX rfl) rfl ?_
            refine C.aload_n dX8_advance_238 0 rfl ?_
            refine C.getI fX8_48 dX8_advance_239 hS.o3 ?_
            rw [hk]
            refine C.iconst (nI 1) dX8_advance_242 (by decide) ?_
            refine C.icmp_ne 251 dX8_advance_243 rfl (fun hc243 => ?_) (fun hc243 => ?_)
            · exact absurd rfl hc243
            · refine C.bipush (nI 122) dX8_advance_246 (by decide) ?_
              refine C.goto 253 dX8_advance_248 rfl ?_
              refine C.istore (lv' := [(0, _), (1, _), (2, _), (3, _), (4, _), (5, _)]) dX8_advance_253 (nLt hX rfl) rfl ?_
              exact kq_loopW C hX hS2 hT2 hskl.2 e4 e5 hq (rW hL hno) _ _ _
        refine C.aload_n dX8_advance_174 0 rfl ?_
        refine C.getI fX8_48 dX8_advance_175 hS.o3 ?_
        rw [mI_sI, if_pos ⟨rfl, rfl⟩]
        refine C.iconst (nI 3) dX8_advance_178 (by decide) ?_
        refine C.icmp_ne 198 dX8_advance_179 rfl (fun hc179 => ?_) (fun hc179 => ?_)
        · refine C.iload_n dX8_advance_198 1 rfl ?_
          refine C.if_eq 216 dX8_advance_199 rfl (fun hc199 => ?_) (fun hc199 => ?_)
          · exact m216 (fun z => of_decide_eq_false ((bI_0 _).mp hc199) z.1)
          · refine C.aload_n dX8_advance_202 0 rfl ?_
            refine C.getI fX8_57 dX8_advance_203 hS.o3 ?_
            rw [mI_sI, if_neg (by omega), e4]
            refine C.iload_n dX8_advance_206 2 rfl ?_
            refine C.icmp_ne 216 dX8_advance_207 rfl (fun hc207 => ?_) (fun hc207 => ?_)
            · exact m216 (fun z => n_ne hc207 z.2)
            · refine C.aload_n dX8_advance_210 0 rfl ?_
              refine C.iconst (nI 4) dX8_advance_211 (by decide) ?_
              refine C.putI fX8_48 (Or.inl rfl) dX8_advance_212 hS.o3 ?_
              refine C.vret hq dX8_advance_215 ?_
              exact r4 ⟨of_decide_eq_true (b_t hc199), n_eq hc207 (by omega) (by omega)⟩ (by rw [hL]; rfl) _
        · exact absurd hc179 (by decide)
      have mD : isL (txL tp p) = false → isD (txL tp p) = true → AW l G X 0 0 174 [(0, .ref (G.1 + 3)), (1, .int (bI (decide (kd = 1 ∨ kd = 2)))), (2, .int (nI t)), (3, .int (byS (txL tp p)))] [] (sI M 3 2 (nI 2)) := by
        intro hL hD
        have hS : ShC (sI M 3 2 (nI 2)) := hS2.of rfl
        have m216 : ¬ ((kd = 1 ∨ kd = 2) ∧ p = t) → AW l G X 0 0 216 [(0, .ref (G.1 + 3)), (1, .int (bI (decide (kd = 1 ∨ kd = 2)))), (2, .int (nI t)), (3, .int (byS (txL tp p)))] [] (sI M 3 2 (nI 2)) := by
          intro hno
          have hk : mI (sI (sI M 3 2 (nI 2)) 3 3 (nI 0)) 3 2 = nI 2 := by rw [mI_sI, if_neg (by omega), mI_sI, if_pos ⟨rfl, rfl⟩]
          refine C.aload_n dX8_advance_216 0 rfl ?_
          refine C.iconst (nI 0) dX8_advance_217 (by decide) ?_
          refine C.putI fX8_73 (Or.inl rfl) dX8_advance_218 hS.o3 ?_
          refine C.aload_n dX8_advance_221 0 rfl ?_
          refine C.getI fX8_48 dX8_advance_222 hS.o3 ?_
          rw [hk]
          refine C.iconst (nI 1) dX8_advance_225 (by decide) ?_
          refine C.icmp_ne 234 dX8_advance_226 rfl (fun hc226 => ?_) (fun hc226 => ?_)
          · refine C.bipush (nI 48) dX8_advance_234 (by decide) ?_
            refine C.istore (lv' := [(0, _), (1, _), (2, _), (3, _), (4, _)]) dX8_advance_236 (nLt hX rfl) rfl ?_
            refine C.aload_n dX8_advance_238 0 rfl ?_
            refine C.getI fX8_48 dX8_advance_239 hS.o3 ?_
            rw [hk]
            refine C.iconst (nI 1) dX8_advance_242 (by decide) ?_
            refine C.icmp_ne 251 dX8_advance_243 rfl (fun hc243 => ?_) (fun hc243 => ?_)
            · refine C.bipush (nI 57) dX8_advance_251 (by decide) ?_
              refine C.istore (lv' := [(0, _), (1, _), (2, _), (3, _), (4, _), (5, _)]) dX8_advance_253 (nLt hX rfl) rfl ?_
              exact kq_loopD C hX hS2 hT2 hskl.2 e4 e5 hq (rD hL hD hno) _ _ _
            · exact absurd hc243 (by decide)
          · exact absurd hc226 (by decide)
        refine C.aload_n dX8_advance_174 0 rfl ?_
        refine C.getI fX8_48 dX8_advance_175 hS.o3 ?_
        rw [mI_sI, if_pos ⟨rfl, rfl⟩]
        refine C.iconst (nI 3) dX8_advance_178 (by decide) ?_
        refine C.icmp_ne 198 dX8_advance_179 rfl (fun hc179 => ?_) (fun hc179 => ?_)
        · refine C.iload_n dX8_advance_198 1 rfl ?_
          refine C.if_eq 216 dX8_advance_199 rfl (fun hc199 => ?_) (fun hc199 => ?_)
          · exact m216 (fun z => of_decide_eq_false ((bI_0 _).mp hc199) z.1)
          · refine C.aload_n dX8_advance_202 0 rfl ?_
            refine C.getI fX8_57 dX8_advance_203 hS.o3 ?_
            rw [mI_sI, if_neg (by omega), e4]
            refine C.iload_n dX8_advance_206 2 rfl ?_
            refine C.icmp_ne 216 dX8_advance_207 rfl (fun hc207 => ?_) (fun hc207 => ?_)
            · exact m216 (fun z => n_ne hc207 z.2)
            · refine C.aload_n dX8_advance_210 0 rfl ?_
              refine C.iconst (nI 4) dX8_advance_211 (by decide) ?_
              refine C.putI fX8_48 (Or.inl rfl) dX8_advance_212 hS.o3 ?_
              refine C.vret hq dX8_advance_215 ?_
              exact r4 ⟨of_decide_eq_true (b_t hc199), n_eq hc207 (by omega) (by omega)⟩ (by rw [hD, Bool.or_true]) _
        · exact absurd hc179 (by decide)
      refine C.aload_n dX8_advance_104 0 rfl ?_
      refine C.getI fX8_57 dX8_advance_105 hS.o3 ?_
      refine C.aload_n dX8_advance_108 0 rfl ?_
      refine C.getO fX8_9 dX8_advance_109 hS.o3 hS.r3_0 ?_
      refine C.getI fX8_64 dX8_advance_112 hS.o1 ?_
      rw [e4, e1]
      refine C.icmp_lt 124 dX8_advance_115 rfl (fun hc115 => ?_) (fun hc115 => ?_)
      · refine C.aload_n dX8_advance_124 0 rfl ?_
        refine C.getO fX8_9 dX8_advance_125 hS.o3 hS.r3_0 ?_
        refine C.getA fX8_69 dX8_advance_128 hS.o1 hS.r1_0 ?_
        refine C.aload_n dX8_advance_131 0 rfl ?_
        refine C.getI fX8_57 dX8_advance_132 hS.o3 ?_
        rw [e4]
        refine C.bald hS.a2 (n_in (by omega)) dX8_advance_135 ?_
        rw [n_cl, eb]
        refine C.istore_n (lv' := [(0, _), (1, _), (2, _), (3, _)]) dX8_advance_136 (nLt hX rfl) rfl ?_
        refine C.aload_n dX8_advance_137 0 rfl ?_
        refine C.iload_n dX8_advance_138 3 rfl ?_
        refine C.bipush (nI 97) dX8_advance_139 (by decide) ?_
        refine C.icmp_lt 154 dX8_advance_141 rfl (fun hc141 => ?_) (fun hc141 => ?_)
        · have hL : isL (txL tp p) = false := by cases h : isL (txL tp p) with | false => rfl | true => exact absurd (hLL.mpr h).1 (Int32.not_le.mpr hc141)
          refine C.iload_n dX8_advance_154 3 rfl ?_
          refine C.bipush (nI 48) dX8_advance_155 (by decide) ?_
          refine C.icmp_lt 170 dX8_advance_157 rfl (fun hc157 => ?_) (fun hc157 => ?_)
          · have hD : isD (txL tp p) = false := by cases h : isD (txL tp p) with | false => rfl | true => exact absurd (hDD.mpr h).1 (Int32.not_le.mpr hc157)
            refine C.iconst (nI 3) dX8_advance_170 (by decide) ?_
            refine C.putI fX8_48 (Or.inl rfl) dX8_advance_171 hS.o3 ?_
            first | exact mW hL | exact mD hL hD | exact mS hL hD
          · refine C.iload_n dX8_advance_160 3 rfl ?_
            refine C.bipush (nI 57) dX8_advance_161 (by decide) ?_
            refine C.icmp_gt 170 dX8_advance_163 rfl (fun hc163 => ?_) (fun hc163 => ?_)
            · have hD : isD (txL tp p) = false := by cases h : isD (txL tp p) with | false => rfl | true => exact absurd (hDD.mpr h).2 (Int32.not_le.mpr hc163)
              refine C.iconst (nI 3) dX8_advance_170 (by decide) ?_
              refine C.putI fX8_48 (Or.inl rfl) dX8_advance_171 hS.o3 ?_
              first | exact mW hL | exact mD hL hD | exact mS hL hD
            · have hD : isD (txL tp p) = true := hDD.mp ⟨Int32.not_lt.mp hc157, Int32.not_lt.mp hc163⟩
              refine C.iconst (nI 2) dX8_advance_166 (by decide) ?_
              refine C.goto 171 dX8_advance_167 rfl ?_
              refine C.putI fX8_48 (Or.inl rfl) dX8_advance_171 hS.o3 ?_
              first | exact mW hL | exact mD hL hD | exact mS hL hD
        · refine C.iload_n dX8_advance_144 3 rfl ?_
          refine C.bipush (nI 122) dX8_advance_145 (by decide) ?_
          refine C.icmp_gt 154 dX8_advance_147 rfl (fun hc147 => ?_) (fun hc147 => ?_)
          · have hL : isL (txL tp p) = false := by cases h : isL (txL tp p) with | false => rfl | true => exact absurd (hLL.mpr h).2 (Int32.not_le.mpr hc147)
            refine C.iload_n dX8_advance_154 3 rfl ?_
            refine C.bipush (nI 48) dX8_advance_155 (by decide) ?_
            refine C.icmp_lt 170 dX8_advance_157 rfl (fun hc157 => ?_) (fun hc157 => ?_)
            · have hD : isD (txL tp p) = false := by cases h : isD (txL tp p) with | false => rfl | true => exact absurd (hDD.mpr h).1 (Int32.not_le.mpr hc157)
              refine C.iconst (nI 3) dX8_advance_170 (by decide) ?_
              refine C.putI fX8_48 (Or.inl rfl) dX8_advance_171 hS.o3 ?_
              first | exact mW hL | exact mD hL hD | exact mS hL hD
            · refine C.iload_n dX8_advance_160 3 rfl ?_
              refine C.bipush (nI 57) dX8_advance_161 (by decide) ?_
              refine C.icmp_gt 170 dX8_advance_163 rfl (fun hc163 => ?_) (fun hc163 => ?_)
              · have hD : isD (txL tp p) = false := by cases h : isD (txL tp p) with | false => rfl | true => exact absurd (hDD.mpr h).2 (Int32.not_le.mpr hc163)
                refine C.iconst (nI 3) dX8_advance_170 (by decide) ?_
                refine C.putI fX8_48 (Or.inl rfl) dX8_advance_171 hS.o3 ?_
                first | exact mW hL | exact mD hL hD | exact mS hL hD
              · have hD : isD (txL tp p) = true := hDD.mp ⟨Int32.not_lt.mp hc157, Int32.not_lt.mp hc163⟩
                refine C.iconst (nI 2) dX8_advance_166 (by decide) ?_
                refine C.goto 171 dX8_advance_167 rfl ?_
                refine C.putI fX8_48 (Or.inl rfl) dX8_advance_171 hS.o3 ?_
                first | exact mW hL | exact mD hL hD | exact mS hL hD
          · have hL : isL (txL tp p) = true := hLL.mp ⟨Int32.not_lt.mp hc141, Int32.not_lt.mp hc147⟩
            refine C.iconst (nI 1) dX8_advance_150 (by decide) ?_
            refine C.goto 171 dX8_advance_151 rfl ?_
            refine C.putI fX8_48 (Or.inl rfl) dX8_advance_171 hS.o3 ?_
            first | exact mW hL | exact mD hL hD | exact mS hL hD
      · exact absurd (n_nlt hc115) (by omega)
    · have hpe : p = tp.length := by omega
      refine C.aload_n dX8_advance_104 0 rfl ?_
      refine C.getI fX8_57 dX8_advance_105 hS.o3 ?_
      refine C.aload_n dX8_advance_108 0 rfl ?_
      refine C.getO fX8_9 dX8_advance_109 hS.o3 hS.r3_0 ?_
      refine C.getI fX8_64 dX8_advance_112 hS.o1 ?_
      rw [e4, e1]
      refine C.icmp_lt 124 dX8_advance_115 rfl (fun hc115 => ?_) (fun hc115 => ?_)
      · exact absurd (n_lt hc115) (by omega)
      · refine C.aload_n dX8_advance_118 0 rfl ?_
        refine C.iconst (nI 0) dX8_advance_119 (by decide) ?_
        refine C.putI fX8_48 (Or.inl rfl) dX8_advance_120 hS.o3 ?_
        refine C.vret hq dX8_advance_123 ?_
        exact ⟨⟨eM, fun a k q => by rw [mI_sI, if_neg (by omega)]; exact eF a k q⟩, by rw [mI_sI, if_neg (by omega)]; exact e4, fun _ => by rw [mI_sI, if_pos ⟨rfl, rfl⟩], fun z => absurd z hpl, fun z => absurd z hpl, fun z => absurd z hpl, fun z => absurd z hpl⟩
  have m96 : AW l G X 0 0 96 [(0, .ref (G.1 + 3)), (1, .int (bI (decide (kd = 1 ∨ kd = 2)))), (2, .int (nI t))] [] (sI μ 3 4 (nI p)) := by
    have hS : ShC (sI μ 3 4 (nI p)) := hS0.of rfl
    refine C.aload_n dX8_advance_96 0 rfl ?_
    refine C.aload_n dX8_advance_97 0 rfl ?_
    refine C.getI fX8_57 dX8_advance_98 hS.o3 ?_
    rw [mI_sI, if_pos ⟨rfl, rfl⟩]
    refine C.putI fX8_51 (Or.inl rfl) dX8_advance_101 hS.o3 ?_
    exact m104
  have loop : ∀ (j k : Nat), k + j = tp.length → sk (txL tp) tp.length k = p → AW l G X 0 0 35 [(0, .ref (G.1 + 3)), (1, .int (bI (decide (kd = 1 ∨ kd = 2)))), (2, .int (nI t))] [] (sI μ 3 4 (nI k)) := by
    clear hq
    intro j
    induction j with
    | zero =>
      intro k hk hsk
      have hkp : k = p := by rw [← hsk, sk_stop (by omega)]
      subst hkp
      have hS : ShC (sI μ 3 4 (nI k)) := hS0.of rfl
      have f4 : mI (sI μ 3 4 (nI k)) 3 4 = nI k := by rw [mI_sI, if_pos ⟨rfl, rfl⟩]
      have f1 : mI (sI μ 3 4 (nI k)) 1 1 = nI tp.length := by rw [mI_sI, if_neg (by omega)]; exact hT.1
      refine C.aload_n dX8_advance_35 0 rfl ?_
      refine C.getI fX8_57 dX8_advance_36 hS.o3 ?_
      refine C.aload_n dX8_advance_39 0 rfl ?_
      refine C.getO fX8_9 dX8_advance_40 hS.o3 hS.r3_0 ?_
      refine C.getI fX8_64 dX8_advance_43 hS.o1 ?_
      rw [f4, f1]
      refine C.icmp_ge 96 dX8_advance_46 rfl (fun hc46 => ?_) (fun hc46 => ?_)
      · exact m96
      · exact absurd (n_nle hc46) (by omega)
    | succ j ih =>
      intro k hk hsk
      have hlt : k < tp.length := by omega
      obtain ⟨b1, b2⟩ := hby k hlt
      have hS : ShC (sI μ 3 4 (nI k)) := hS0.of rfl
      have f4 : mI (sI μ 3 4 (nI k)) 3 4 = nI k := by rw [mI_sI, if_pos ⟨rfl, rfl⟩]
      have f1 : mI (sI μ 3 4 (nI k)) 1 1 = nI tp.length := by rw [mI_sI, if_neg (by omega)]; exact hT.1
      have fb : mI (sI μ 3 4 (nI k)) 2 k = byS (txL tp k) := by rw [mI_sI, if_neg (by omega)]; exact b1
      refine C.aload_n dX8_advance_35 0 rfl ?_
      refine C.getI fX8_57 dX8_advance_36 hS.o3 ?_
      refine C.aload_n dX8_advance_39 0 rfl ?_
      refine C.getO fX8_9 dX8_advance_40 hS.o3 hS.r3_0 ?_
      refine C.getI fX8_64 dX8_advance_43 hS.o1 ?_
      rw [f4, f1]
      refine C.icmp_ge 96 dX8_advance_46 rfl (fun hc46 => ?_) (fun hc46 => ?_)
      · exact absurd (n_le hc46) (by omega)
      · refine C.aload_n dX8_advance_49 0 rfl ?_
        refine C.getO fX8_9 dX8_advance_50 hS.o3 hS.r3_0 ?_
        refine C.getA fX8_69 dX8_advance_53 hS.o1 hS.r1_0 ?_
        refine C.aload_n dX8_advance_56 0 rfl ?_
        refine C.getI fX8_57 dX8_advance_57 hS.o3 ?_
        rw [f4]
        refine C.bald hS.a2 (n_in (by omega)) dX8_advance_60 ?_
        rw [n_cl, fb]
        refine C.bipush (nI 10) dX8_advance_61 (by decide) ?_
        refine C.icmp_eq 83 dX8_advance_63 rfl (fun hc63 => ?_) (fun hc63 => ?_)
        · refine C.aload_n dX8_advance_83 0 rfl ?_
          refine C.dup dX8_advance_84 rfl ?_
          refine C.getI fX8_57 dX8_advance_85 hS.o3 ?_
          rw [f4]
          refine C.iconst (nI 1) dX8_advance_88 (by decide) ?_
          refine C.iadd dX8_advance_89 ?_
          rw [nI_add]
          refine C.putI fX8_57 (Or.inl rfl) dX8_advance_90 hS.o3 ?_
          refine C.goto 35 dX8_advance_93 rfl ?_
          rw [sI_sI]
          exact ih (k + 1) (by omega) (by rw [← sk_step hlt (by first | exact Or.inl ((byS_eq b2 (by decide)).mp hc63) | exact Or.inr ((byS_eq b2 (by decide)).mp hc80))]; exact hsk)
        · refine C.aload_n dX8_advance_66 0 rfl ?_
          refine C.getO fX8_9 dX8_advance_67 hS.o3 hS.r3_0 ?_
          refine C.getA fX8_69 dX8_advance_70 hS.o1 hS.r1_0 ?_
          refine C.aload_n dX8_advance_73 0 rfl ?_
          refine C.getI fX8_57 dX8_advance_74 hS.o3 ?_
          rw [f4]
          refine C.bald hS.a2 (n_in (by omega)) dX8_advance_77 ?_
          rw [n_cl, fb]
          refine C.bipush (nI 32) dX8_advance_78 (by decide) ?_
          refine C.icmp_ne 96 dX8_advance_80 rfl (fun hc80 => ?_) (fun hc80 => ?_)
          · have hkp : k = p := by
              rw [← hsk, sk_stop (fun z => z.2.elim (fun y => hc63 ((byS_eq b2 (by decide)).mpr y)) (fun y => hc80 ((byS_eq b2 (by decide)).mpr y)))]
            subst hkp
            exact m96
          · refine C.aload_n dX8_advance_83 0 rfl ?_
            refine C.dup dX8_advance_84 rfl ?_
            refine C.getI fX8_57 dX8_advance_85 hS.o3 ?_
            rw [f4]
            refine C.iconst (nI 1) dX8_advance_88 (by decide) ?_
            refine C.iadd dX8_advance_89 ?_
            rw [nI_add]
            refine C.putI fX8_57 (Or.inl rfl) dX8_advance_90 hS.o3 ?_
            refine C.goto 35 dX8_advance_93 rfl ?_
            rw [sI_sI]
            exact ih (k + 1) (by omega) (by rw [← sk_step hlt (by first | exact Or.inl ((byS_eq b2 (by decide)).mp hc63) | exact Or.inr ((byS_eq b2 (by decide)).mp hc80))]; exact hsk)
  refine C.aload_n dX8_advance_0 0 rfl ?_
  refine C.getI fX8_48 dX8_advance_1 hS.o3 ?_
  rw [h2]
  refine C.iconst (nI 1) dX8_advance_4 (by decide) ?_
  refine C.icmp_eq 16 dX8_advance_5 rfl (fun hc5 => ?_) (fun hc5 => ?_)
  · refine C.iconst (nI 1) dX8_advance_16 (by decide) ?_
    refine C.goto 21 dX8_advance_17 rfl ?_
    refine C.istore_n (lv' := [(0, _), (1, _)]) dX8_advance_21 (nLt hX rfl) rfl ?_
    refine C.aload_n dX8_advance_22 0 rfl ?_
    refine C.getI fX8_51 dX8_advance_23 hS.o3 ?_
    rw [h5]
    refine C.istore_n (lv' := [(0, _), (1, _), (2, _)]) dX8_advance_26 (nLt hX rfl) rfl ?_
    refine C.aload_n dX8_advance_27 0 rfl ?_
    refine C.aload_n dX8_advance_28 0 rfl ?_
    refine C.getI fX8_51 dX8_advance_29 hS.o3 ?_
    rw [h5]
    refine C.putI fX8_57 (Or.inl rfl) dX8_advance_32 hS.o3 ?_
    have hgo := loop (tp.length - t) t (by omega) hp
    first | (rw [decide_eq_true (p := kd = 1 ∨ kd = 2) (Or.inl (n_eq hc5 (by omega) (by omega)))] at hgo; exact hgo) | (rw [decide_eq_true (p := kd = 1 ∨ kd = 2) (Or.inr (n_eq hc13 (by omega) (by omega)))] at hgo; exact hgo) | (rw [decide_eq_false (p := kd = 1 ∨ kd = 2) (fun z => z.elim (n_ne hc5) (n_ne hc13))] at hgo; exact hgo)
  · refine C.aload_n dX8_advance_8 0 rfl ?_
    refine C.getI fX8_48 dX8_advance_9 hS.o3 ?_
    rw [h2]
    refine C.iconst (nI 2) dX8_advance_12 (by decide) ?_
    refine C.icmp_ne 20 dX8_advance_13 rfl (fun hc13 => ?_) (fun hc13 => ?_)
    · refine C.iconst (nI 0) dX8_advance_20 (by decide) ?_
      refine C.istore_n (lv' := [(0, _), (1, _)]) dX8_advance_21 (nLt hX rfl) rfl ?_
      refine C.aload_n dX8_advance_22 0 rfl ?_
      refine C.getI fX8_51 dX8_advance_23 hS.o3 ?_
      rw [h5]
      refine C.istore_n (lv' := [(0, _), (1, _), (2, _)]) dX8_advance_26 (nLt hX rfl) rfl ?_
      refine C.aload_n dX8_advance_27 0 rfl ?_
      refine C.aload_n dX8_advance_28 0 rfl ?_
      refine C.getI fX8_51 dX8_advance_29 hS.o3 ?_
      rw [h5]
      refine C.putI fX8_57 (Or.inl rfl) dX8_advance_32 hS.o3 ?_
      have hgo := loop (tp.length - t) t (by omega) hp
      first | (rw [decide_eq_true (p := kd = 1 ∨ kd = 2) (Or.inl (n_eq hc5 (by omega) (by omega)))] at hgo; exact hgo) | (rw [decide_eq_true (p := kd = 1 ∨ kd = 2) (Or.inr (n_eq hc13 (by omega) (by omega)))] at hgo; exact hgo) | (rw [decide_eq_false (p := kd = 1 ∨ kd = 2) (fun z => z.elim (n_ne hc5) (n_ne hc13))] at hgo; exact hgo)
    · refine C.iconst (nI 1) dX8_advance_16 (by decide) ?_
      refine C.goto 21 dX8_advance_17 rfl ?_
      refine C.istore_n (lv' := [(0, _), (1, _)]) dX8_advance_21 (nLt hX rfl) rfl ?_
      refine C.aload_n dX8_advance_22 0 rfl ?_
      refine C.getI fX8_51 dX8_advance_23 hS.o3 ?_
      rw [h5]
      refine C.istore_n (lv' := [(0, _), (1, _), (2, _)]) dX8_advance_26 (nLt hX rfl) rfl ?_
      refine C.aload_n dX8_advance_27 0 rfl ?_
      refine C.aload_n dX8_advance_28 0 rfl ?_
      refine C.getI fX8_51 dX8_advance_29 hS.o3 ?_
      rw [h5]
      refine C.putI fX8_57 (Or.inl rfl) dX8_advance_32 hS.o3 ?_
      have hgo := loop (tp.length - t) t (by omega) hp
      first | (rw [decide_eq_true (p := kd = 1 ∨ kd = 2) (Or.inl (n_eq hc5 (by omega) (by omega)))] at hgo; exact hgo) | (rw [decide_eq_true (p := kd = 1 ∨ kd = 2) (Or.inr (n_eq hc13 (by omega) (by omega)))] at hgo; exact hgo) | (rw [decide_eq_false (p := kd = 1 ∨ kd = 2) (fun z => z.elim (n_ne hc5) (n_ne hc13))] at hgo; exact hgo)
end KAD
