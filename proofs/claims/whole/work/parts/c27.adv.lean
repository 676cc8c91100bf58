/-! the class: a token on -/
def AdF (μ μ' : Mm) : Prop := μ'.2 = μ.2 ∧ ∀ a k, ¬ (a = 3 ∧ 2 ≤ k ∧ k ≤ 5) → mI μ' a k = mI μ a k
section KAD
variable {l : Launch} {G : Gm} {μ : Mm} {tp : List Nat}

theorem kq_advance (hS : ShC μ) (hT : CsT μ tp) {t kd : Nat} (ht : t ≤ tp.length) (hkd : kd ≤ 3) (h2 : mI μ 3 2 = nI kd) (h5 : mI μ 3 5 = nI t) : AMet l G 1 0 0 mtX8_advance [.ref (G.1 + 3)] μ (qV (fun μ' => AdF μ μ' ∧ RdT μ' (txL tp) tp.length (sk (txL tp) tp.length t) ((kd = 1 ∨ kd = 2) ∧ sk (txL tp) tp.length t = t))) := by
  refine AMet.of (by decide) (Nat.le_of_ble_eq_true rfl) (fun X C hX hnm hq => ?_)
  have h1600 := hT.2.1
  have hby : ∀ k, k < tp.length → mI μ 2 k = byS (txL tp k) ∧ txL tp k < 256 := fun k q => hT.2.2 k _ (txL_q q)
  have hskl := sk_le (tx := txL tp) ht
  generalize hp : sk (txL tp) tp.length t = p at hq hskl
  have hS2 : ShC (sI (sI μ 3 4 (nI p)) 3 5 (nI p)) := hS.of rfl
  have hT2 : CsT (sI (sI μ 3 4 (nI p)) 3 5 (nI p)) tp := hT.of (by rw [mI_sI, if_neg (by omega), mI_sI, if_neg (by omega)]) (fun k => by rw [mI_sI, if_neg (by omega), mI_sI, if_neg (by omega)])
  have e4 : mI (sI (sI μ 3 4 (nI p)) 3 5 (nI p)) 3 4 = nI p := by rw [mI_sI, if_neg (by omega), mI_sI, if_pos ⟨rfl, rfl⟩]
  have e5 : mI (sI (sI μ 3 4 (nI p)) 3 5 (nI p)) 3 5 = nI p := by rw [mI_sI, if_pos ⟨rfl, rfl⟩]
  have eF : ∀ a k, ¬ (a = 3 ∧ 2 ≤ k ∧ k ≤ 5) → mI (sI (sI μ 3 4 (nI p)) 3 5 (nI p)) a k = mI μ a k := fun a k q => by rw [mI_sI, if_neg (by omega), mI_sI, if_neg (by omega)]
  have m152 : ∀ (x1 x3 : Int32), p < tp.length → ¬ (((kd = 1 ∨ kd = 2) ∧ p = t) ∧ (isL (txL tp p) || isD (txL tp p)) = true) → AW l G X 0 0 152 [(0, .ref (G.1 + 3)), (1, .int x1), (2, .int (nI p)), (3, .int x3), (4, .int (nI (txL tp p)))] [] (sI (sI μ 3 4 (nI p)) 3 5 (nI p)) := by
    intro x1 x3 hpl hnt
    have b2 := (hby p hpl).2
    generalize hM : sI (sI μ 3 4 (nI p)) 3 5 (nI p) = M at *
    have hS := hS2
    have eM : M.2 = μ.2 := by rw [← hM]; rfl
    have rW : isL (txL tp p) = true → ¬ ((kd = 1 ∨ kd = 2) ∧ p = t) → ∀ μ', SwF M μ' → mI μ' 3 2 = nI 1 → mI μ' 3 3 = nI (nm32 (tkW (txL tp) tp.length p)) → mI μ' 3 5 = nI (wl (txL tp) tp.length p) → AdF μ μ' ∧ RdT μ' (txL tp) tp.length p ((kd = 1 ∨ kd = 2) ∧ p = t) := by
      intro hL hno μ' hF w2 w3 w5
      have hnD : isD (txL tp p) = false := by
        unfold isL at hL
        unfold isD
        simp only [Bool.and_eq_true, decide_eq_true_eq] at hL
        rw [decide_eq_false (p := txL tp p ≤ 57) (by omega), Bool.and_false]
      exact ⟨⟨hF.1.trans eM, fun a k q => (hF.2 a k (by omega)).trans (eF a k q)⟩, (hF.2 _ _ (by omega)).trans e4, fun z => by omega, fun _ _ z => absurd z hno, fun _ _ _ => ⟨w2, w3, w5⟩, (fun _ z => by rw [hnD] at z; cases z), (fun _ z => by rw [hL] at z; cases z)⟩
    have rD : isL (txL tp p) = false → isD (txL tp p) = true → ¬ ((kd = 1 ∨ kd = 2) ∧ p = t) → ∀ μ', SwF M μ' → mI μ' 3 2 = nI 2 → mI μ' 3 3 = nI (dval (txL tp) p (min 4 (dl (txL tp) tp.length p - p))) → mI μ' 3 5 = nI (dl (txL tp) tp.length p) → AdF μ μ' ∧ RdT μ' (txL tp) tp.length p ((kd = 1 ∨ kd = 2) ∧ p = t) := by
      intro hL hD hno μ' hF w2 w3 w5
      exact ⟨⟨hF.1.trans eM, fun a k q => (hF.2 a k (by omega)).trans (eF a k q)⟩, (hF.2 _ _ (by omega)).trans e4, fun z => by omega, fun _ _ z => absurd z hno, (fun _ z => by rw [hL] at z; cases z), fun _ _ _ => ⟨w2, w3, w5⟩, (fun _ _ z => by rw [hD] at z; cases z)⟩
    have rS : isL (txL tp p) = false → isD (txL tp p) = false → AdF μ (sI (sI (sI M 3 2 (nI 3)) 3 3 (nI (txL tp p))) 3 5 (nI (p + 1))) ∧ RdT (sI (sI (sI M 3 2 (nI 3)) 3 3 (nI (txL tp p))) 3 5 (nI (p + 1))) (txL tp) tp.length p ((kd = 1 ∨ kd = 2) ∧ p = t) := by
      intro hL hD
      exact ⟨⟨eM, fun a k q => by rw [mI_sI, if_neg (by omega), mI_sI, if_neg (by omega), mI_sI, if_neg (by omega)]; exact eF a k q⟩, by rw [mI_sI, if_neg (by omega), mI_sI, if_neg (by omega), mI_sI, if_neg (by omega)]; exact e4, fun z => by omega, (fun _ z => by rw [hL, hD] at z; cases z), (fun _ z => by rw [hL] at z; cases z), (fun _ z => by rw [hD] at z; cases z), fun _ _ _ => ⟨by rw [mI_sI, if_neg (by omega), mI_sI, if_neg (by omega), mI_sI, if_pos ⟨rfl, rfl⟩], by rw [mI_sI, if_neg (by omega), mI_sI, if_pos ⟨rfl, rfl⟩], by rw [mI_sI, if_pos ⟨rfl, rfl⟩]⟩⟩
    refine C.iload dX8_advance_152 4 rfl ?_
    refine C.callSI lX8_76 dX8_advance_154 (kq_isLetter b2) rfl rfl (Nat.le_of_ble_eq_true rfl) (Nat.zero_le _) (Nat.zero_le _) (Nat.le_of_ble_eq_true rfl) (fun x154 μ154 h154 => ?_)
    obtain ⟨rfl, hμ⟩ := h154
    subst hμ
    refine C.if_eq 167 dX8_advance_157 rfl (fun hc157 => ?_) (fun hc157 => ?_)
    · have hL := (bI_0 _).mp hc157
      refine C.iload dX8_advance_167 4 rfl ?_
      refine C.callSI lX8_80 dX8_advance_169 (kq_isDigit b2) rfl rfl (Nat.le_of_ble_eq_true rfl) (Nat.zero_le _) (Nat.zero_le _) (Nat.le_of_ble_eq_true rfl) (fun x169 μ169 h169 => ?_)
      obtain ⟨rfl, hμ⟩ := h169
      subst hμ
      refine C.if_eq 182 dX8_advance_172 rfl (fun hc172 => ?_) (fun hc172 => ?_)
      · have hD := (bI_0 _).mp hc172
        refine C.aload_n dX8_advance_182 0 rfl ?_
        refine C.iconst (nI 3) dX8_advance_183 (by decide) ?_
        refine C.putI fX8_48 (Or.inl rfl) dX8_advance_184 hS.o3 ?_
        refine C.aload_n dX8_advance_187 0 rfl ?_
        refine C.iload dX8_advance_188 4 rfl ?_
        refine C.putI fX8_89 (Or.inl rfl) dX8_advance_190 hS.o3 ?_
        refine C.aload_n dX8_advance_193 0 rfl ?_
        refine C.iload_n dX8_advance_194 2 rfl ?_
        refine C.iconst (nI 1) dX8_advance_195 (by decide) ?_
        refine C.iadd dX8_advance_196 ?_
        rw [nI_add]
        refine C.putI fX8_51 (Or.inl rfl) dX8_advance_197 hS.o3 ?_
        refine C.vret hq dX8_advance_200 ?_
        first | exact rW hL hno _ hF w2 w3 w5 | exact rD hL hD hno _ hF w2 w3 w5 | exact rS hL hD
      · have hD := b_t hc172
        have hno : ¬ ((kd = 1 ∨ kd = 2) ∧ p = t) := fun z => hnt ⟨z, by rw [hD, Bool.or_true]⟩
        refine C.aload_n dX8_advance_175 0 rfl ?_
        refine C.callVV lX8_86 dX8_advance_176 (kq_scanDigits hS2 hT2 hskl.2 e4 e5) hS.o3 rfl rfl (Nat.le_of_ble_eq_true rfl) (Nat.zero_le _) (Nat.zero_le _) (Nat.le_of_ble_eq_true rfl) (fun μ176 h176 => ?_)
        obtain ⟨hF, w2, w3, w5⟩ := h176
        refine C.goto 200 dX8_advance_179 rfl ?_
        refine C.vret hq dX8_advance_200 ?_
        first | exact rW hL hno _ hF w2 w3 w5 | exact rD hL hD hno _ hF w2 w3 w5 | exact rS hL hD
    · have hL := b_t hc157
      have hno : ¬ ((kd = 1 ∨ kd = 2) ∧ p = t) := fun z => hnt ⟨z, by rw [hL]; rfl⟩
      refine C.aload_n dX8_advance_160 0 rfl ?_
      refine C.callVV lX8_83 dX8_advance_161 (kq_scanWord hS2 hT2 hskl.2 e5) hS.o3 rfl rfl (Nat.le_of_ble_eq_true rfl) (Nat.zero_le _) (Nat.zero_le _) (Nat.le_of_ble_eq_true rfl) (fun μ161 h161 => ?_)
      obtain ⟨hF, w2, w3, w5⟩ := h161
      refine C.goto 200 dX8_advance_164 rfl ?_
      refine C.vret hq dX8_advance_200 ?_
      first | exact rW hL hno _ hF w2 w3 w5 | exact rD hL hD hno _ hF w2 w3 w5 | exact rS hL hD
  have m72 : AW l G X 0 0 72 [(0, .ref (G.1 + 3)), (1, .int (bI (decide (kd = 1 ∨ kd = 2)))), (2, .int (nI p))] [] μ := by
    by_cases hpl : p < tp.length
    · have b2 := (hby p hpl).2
      have r144 : ∀ (x3 : Int32), ((kd = 1 ∨ kd = 2) ∧ p = t) → (isL (txL tp p) || isD (txL tp p)) = true → AW l G X 0 0 144 [(0, .ref (G.1 + 3)), (1, .int (bI (decide (kd = 1 ∨ kd = 2)))), (2, .int (nI p)), (3, .int x3), (4, .int (nI (txL tp p)))] [] (sI (sI μ 3 4 (nI p)) 3 5 (nI p)) := by
        intro x3 htc hld
        have hS := hS2
        generalize hM : sI (sI μ 3 4 (nI p)) 3 5 (nI p) = M at *
        refine C.aload_n dX8_advance_144 0 rfl ?_
        refine C.iconst (nI 4) dX8_advance_145 (by decide) ?_
        refine C.putI fX8_48 (Or.inl rfl) dX8_advance_146 hS.o3 ?_
        refine C.goto 200 dX8_advance_149 rfl ?_
        refine C.vret hq dX8_advance_200 ?_
        exact ⟨⟨by rw [← hM]; rfl, fun a k q => by rw [mI_sI, if_neg (by omega)]; exact eF a k q⟩, by rw [mI_sI, if_neg (by omega)]; exact e4, fun z => by omega, fun _ _ _ => by rw [mI_sI, if_pos ⟨rfl, rfl⟩], fun _ _ z => absurd htc z, fun _ _ z => absurd htc z, fun _ z1 z2 => by rw [z1, z2] at hld; cases hld⟩
      by_cases htc : (kd = 1 ∨ kd = 2) ∧ p = t
      · skip
        refine C.iload_n dX8_advance_72 1 rfl ?_
        refine C.if_eq 88 dX8_advance_73 rfl (fun hc73 => ?_) (fun hc73 => ?_)
        · rw [decide_eq_true htc.1] at hc73
          exact absurd hc73 (by decide)
        · refine C.iload_n dX8_advance_76 2 rfl ?_
          refine C.aload_n dX8_advance_77 0 rfl ?_
          refine C.getI fX8_51 dX8_advance_78 hS.o3 ?_
          rw [h5]
          refine C.icmp_ne 88 dX8_advance_81 rfl (fun hc81 => ?_) (fun hc81 => ?_)
          · exact absurd (by rw [htc.2]) hc81
          · refine C.iconst (nI 1) dX8_advance_84 (by decide) ?_
            refine C.goto 89 dX8_advance_85 rfl ?_
            refine C.istore_n (lv' := [(0, _), (1, _), (2, _), (3, _)]) dX8_advance_89 (nLt hX rfl) rfl ?_
            refine C.aload_n dX8_advance_90 0 rfl ?_
            refine C.iload_n dX8_advance_91 2 rfl ?_
            refine C.putI fX8_57 (Or.inl rfl) dX8_advance_92 hS.o3 ?_
            refine C.aload_n dX8_advance_95 0 rfl ?_
            refine C.iload_n dX8_advance_96 2 rfl ?_
            refine C.putI fX8_51 (Or.inl rfl) dX8_advance_97 hS.o3 ?_
            refine C.aload_n dX8_advance_100 0 rfl ?_
            refine C.getO fX8_9 dX8_advance_101 hS.o3 hS.r3_0 ?_
            refine C.iload_n dX8_advance_104 2 rfl ?_
            refine C.callVI lX8_73 dX8_advance_105 (kt_atN hS2 hT2 hpl) hS.o1 rfl rfl (Nat.le_of_ble_eq_true rfl) (Nat.zero_le _) (Nat.zero_le _) (Nat.le_of_ble_eq_true rfl) (fun x105 μ105 h105 => ?_)
            obtain ⟨rfl, hμ⟩ := h105
            refine C.istore (lv' := [(0, _), (1, _), (2, _), (3, _), (4, _)]) dX8_advance_108 (nLt hX rfl) rfl ?_
            refine C.iload dX8_advance_110 4 rfl ?_
            refine C.iconst (-1) dX8_advance_112 (by decide) ?_
            refine C.icmp_ne 124 dX8_advance_113 rfl (fun hc113 => ?_) (fun hc113 => ?_)
            · refine C.iload_n dX8_advance_124 3 rfl ?_
              refine C.if_eq 152 dX8_advance_125 rfl (fun hc125 => ?_) (fun hc125 => ?_)
              · exact absurd hc125 (by decide)
              · refine C.iload dX8_advance_128 4 rfl ?_
                refine C.callSI lX8_76 dX8_advance_130 (kq_isLetter b2) rfl rfl (Nat.le_of_ble_eq_true rfl) (Nat.zero_le _) (Nat.zero_le _) (Nat.le_of_ble_eq_true rfl) (fun x130 μ130 h130 => ?_)
                obtain ⟨rfl, hμ2⟩ := h130
                subst hμ2
                refine C.if_ne 144 dX8_advance_133 rfl (fun hc133 => ?_) (fun hc133 => ?_)
                · subst hμ
                  exact r144 _ htc (by first | (rw [b_t hc133]; rfl) | (rw [b_t hc141, Bool.or_true]))
                · refine C.iload dX8_advance_136 4 rfl ?_
                  refine C.callSI lX8_80 dX8_advance_138 (kq_isDigit b2) rfl rfl (Nat.le_of_ble_eq_true rfl) (Nat.zero_le _) (Nat.zero_le _) (Nat.le_of_ble_eq_true rfl) (fun x138 μ138 h138 => ?_)
                  obtain ⟨rfl, hμ3⟩ := h138
                  subst hμ3
                  refine C.if_eq 152 dX8_advance_141 rfl (fun hc141 => ?_) (fun hc141 => ?_)
                  · subst hμ
                    exact m152 _ _ hpl (by intro z; rw [(bI_0 _).mp hc133, (bI_0 _).mp hc141] at z; exact absurd z.2 (by decide))
                  · subst hμ
                    exact r144 _ htc (by first | (rw [b_t hc133]; rfl) | (rw [b_t hc141, Bool.or_true]))
            · exact absurd hc113 (n_m1 (by omega))
      · skip
        refine C.iload_n dX8_advance_72 1 rfl ?_
        refine C.if_eq 88 dX8_advance_73 rfl (fun hc73 => ?_) (fun hc73 => ?_)
        · refine C.iconst (nI 0) dX8_advance_88 (by decide) ?_
          refine C.istore_n (lv' := [(0, _), (1, _), (2, _), (3, _)]) dX8_advance_89 (nLt hX rfl) rfl ?_
          refine C.aload_n dX8_advance_90 0 rfl ?_
          refine C.iload_n dX8_advance_91 2 rfl ?_
          refine C.putI fX8_57 (Or.inl rfl) dX8_advance_92 hS.o3 ?_
          refine C.aload_n dX8_advance_95 0 rfl ?_
          refine C.iload_n dX8_advance_96 2 rfl ?_
          refine C.putI fX8_51 (Or.inl rfl) dX8_advance_97 hS.o3 ?_
          refine C.aload_n dX8_advance_100 0 rfl ?_
          refine C.getO fX8_9 dX8_advance_101 hS.o3 hS.r3_0 ?_
          refine C.iload_n dX8_advance_104 2 rfl ?_
          refine C.callVI lX8_73 dX8_advance_105 (kt_atN hS2 hT2 hpl) hS.o1 rfl rfl (Nat.le_of_ble_eq_true rfl) (Nat.zero_le _) (Nat.zero_le _) (Nat.le_of_ble_eq_true rfl) (fun x105 μ105 h105 => ?_)
          obtain ⟨rfl, hμ⟩ := h105
          refine C.istore (lv' := [(0, _), (1, _), (2, _), (3, _), (4, _)]) dX8_advance_108 (nLt hX rfl) rfl ?_
          refine C.iload dX8_advance_110 4 rfl ?_
          refine C.iconst (-1) dX8_advance_112 (by decide) ?_
          refine C.icmp_ne 124 dX8_advance_113 rfl (fun hc113 => ?_) (fun hc113 => ?_)
          · refine C.iload_n dX8_advance_124 3 rfl ?_
            refine C.if_eq 152 dX8_advance_125 rfl (fun hc125 => ?_) (fun hc125 => ?_)
            · subst hμ
              exact m152 _ _ hpl (fun z => htc z.1)
            · exact absurd rfl hc125
          · exact absurd hc113 (n_m1 (by omega))
        · refine C.iload_n dX8_advance_76 2 rfl ?_
          refine C.aload_n dX8_advance_77 0 rfl ?_
          refine C.getI fX8_51 dX8_advance_78 hS.o3 ?_
          rw [h5]
          refine C.icmp_ne 88 dX8_advance_81 rfl (fun hc81 => ?_) (fun hc81 => ?_)
          · refine C.iconst (nI 0) dX8_advance_88 (by decide) ?_
            refine C.istore_n (lv' := [(0, _), (1, _), (2, _), (3, _)]) dX8_advance_89 (nLt hX rfl) rfl ?_
            refine C.aload_n dX8_advance_90 0 rfl ?_
            refine C.iload_n dX8_advance_91 2 rfl ?_
            refine C.putI fX8_57 (Or.inl rfl) dX8_advance_92 hS.o3 ?_
            refine C.aload_n dX8_advance_95 0 rfl ?_
            refine C.iload_n dX8_advance_96 2 rfl ?_
            refine C.putI fX8_51 (Or.inl rfl) dX8_advance_97 hS.o3 ?_
            refine C.aload_n dX8_advance_100 0 rfl ?_
            refine C.getO fX8_9 dX8_advance_101 hS.o3 hS.r3_0 ?_
            refine C.iload_n dX8_advance_104 2 rfl ?_
            refine C.callVI lX8_73 dX8_advance_105 (kt_atN hS2 hT2 hpl) hS.o1 rfl rfl (Nat.le_of_ble_eq_true rfl) (Nat.zero_le _) (Nat.zero_le _) (Nat.le_of_ble_eq_true rfl) (fun x105 μ105 h105 => ?_)
            obtain ⟨rfl, hμ⟩ := h105
            refine C.istore (lv' := [(0, _), (1, _), (2, _), (3, _), (4, _)]) dX8_advance_108 (nLt hX rfl) rfl ?_
            refine C.iload dX8_advance_110 4 rfl ?_
            refine C.iconst (-1) dX8_advance_112 (by decide) ?_
            refine C.icmp_ne 124 dX8_advance_113 rfl (fun hc113 => ?_) (fun hc113 => ?_)
            · refine C.iload_n dX8_advance_124 3 rfl ?_
              refine C.if_eq 152 dX8_advance_125 rfl (fun hc125 => ?_) (fun hc125 => ?_)
              · subst hμ
                exact m152 _ _ hpl (fun z => htc z.1)
              · exact absurd rfl hc125
            · exact absurd hc113 (n_m1 (by omega))
          · exact absurd ⟨of_decide_eq_true (b_t hc73), n_eq hc81 (by omega) (by omega)⟩ htc
    · have hpe : p = tp.length := by omega
      refine C.iload_n dX8_advance_72 1 rfl ?_
      refine C.if_eq 88 dX8_advance_73 rfl (fun hc73 => ?_) (fun hc73 => ?_)
      · refine C.iconst (nI 0) dX8_advance_88 (by decide) ?_
        refine C.istore_n (lv' := [(0, _), (1, _), (2, _), (3, _)]) dX8_advance_89 (nLt hX rfl) rfl ?_
        refine C.aload_n dX8_advance_90 0 rfl ?_
        refine C.iload_n dX8_advance_91 2 rfl ?_
        refine C.putI fX8_57 (Or.inl rfl) dX8_advance_92 hS.o3 ?_
        refine C.aload_n dX8_advance_95 0 rfl ?_
        refine C.iload_n dX8_advance_96 2 rfl ?_
        refine C.putI fX8_51 (Or.inl rfl) dX8_advance_97 hS.o3 ?_
        refine C.aload_n dX8_advance_100 0 rfl ?_
        refine C.getO fX8_9 dX8_advance_101 hS.o3 hS.r3_0 ?_
        refine C.iload_n dX8_advance_104 2 rfl ?_
        refine C.callVI lX8_73 dX8_advance_105 ((by have hk := kt_at (l := l) (G := G) hS2 hT2 (nI p); rw [inN_n (by omega) (by omega), if_neg hpl] at hk; exact hk)) hS.o1 rfl rfl (Nat.le_of_ble_eq_true rfl) (Nat.zero_le _) (Nat.zero_le _) (Nat.le_of_ble_eq_true rfl) (fun x105 μ105 h105 => ?_)
        obtain ⟨rfl, hμ⟩ := h105
        subst hμ
        refine C.istore (lv' := [(0, _), (1, _), (2, _), (3, _), (4, _)]) dX8_advance_108 (nLt hX rfl) rfl ?_
        refine C.iload dX8_advance_110 4 rfl ?_
        refine C.iconst (-1) dX8_advance_112 (by decide) ?_
        refine C.icmp_ne 124 dX8_advance_113 rfl (fun hc113 => ?_) (fun hc113 => ?_)
        · exact absurd rfl hc113
        · refine C.aload_n dX8_advance_116 0 rfl ?_
          refine C.iconst (nI 0) dX8_advance_117 (by decide) ?_
          refine C.putI fX8_48 (Or.inl rfl) dX8_advance_118 hS.o3 ?_
          refine C.goto 200 dX8_advance_121 rfl ?_
          refine C.vret hq dX8_advance_200 ?_
          exact ⟨⟨rfl, fun a k q => by rw [mI_sI, if_neg (by omega)]; exact eF a k q⟩, by rw [mI_sI, if_neg (by omega)]; exact e4, fun _ => by rw [mI_sI, if_pos ⟨rfl, rfl⟩], fun z => absurd z hpl, fun z => absurd z hpl, fun z => absurd z hpl, fun z => absurd z hpl⟩
      · refine C.iload_n dX8_advance_76 2 rfl ?_
        refine C.aload_n dX8_advance_77 0 rfl ?_
        refine C.getI fX8_51 dX8_advance_78 hS.o3 ?_
        rw [h5]
        refine C.icmp_ne 88 dX8_advance_81 rfl (fun hc81 => ?_) (fun hc81 => ?_)
        · refine C.iconst (nI 0) dX8_advance_88 (by decide) ?_
          refine C.istore_n (lv' := [(0, _), (1, _), (2, _), (3, _)]) dX8_advance_89 (nLt hX rfl) rfl ?_
          refine C.aload_n dX8_advance_90 0 rfl ?_
          refine C.iload_n dX8_advance_91 2 rfl ?_
          refine C.putI fX8_57 (Or.inl rfl) dX8_advance_92 hS.o3 ?_
          refine C.aload_n dX8_advance_95 0 rfl ?_
          refine C.iload_n dX8_advance_96 2 rfl ?_
          refine C.putI fX8_51 (Or.inl rfl) dX8_advance_97 hS.o3 ?_
          refine C.aload_n dX8_advance_100 0 rfl ?_
          refine C.getO fX8_9 dX8_advance_101 hS.o3 hS.r3_0 ?_
          refine C.iload_n dX8_advance_104 2 rfl ?_
          refine C.callVI lX8_73 dX8_advance_105 ((by have hk := kt_at (l := l) (G := G) hS2 hT2 (nI p); rw [inN_n (by omega) (by omega), if_neg hpl] at hk; exact hk)) hS.o1 rfl rfl (Nat.le_of_ble_eq_true rfl) (Nat.zero_le _) (Nat.zero_le _) (Nat.le_of_ble_eq_true rfl) (fun x105 μ105 h105 => ?_)
          obtain ⟨rfl, hμ⟩ := h105
          subst hμ
          refine C.istore (lv' := [(0, _), (1, _), (2, _), (3, _), (4, _)]) dX8_advance_108 (nLt hX rfl) rfl ?_
          refine C.iload dX8_advance_110 4 rfl ?_
          refine C.iconst (-1) dX8_advance_112 (by decide) ?_
          refine C.icmp_ne 124 dX8_advance_113 rfl (fun hc113 => ?_) (fun hc113 => ?_)
          · exact absurd rfl hc113
          · refine C.aload_n dX8_advance_116 0 rfl ?_
            refine C.iconst (nI 0) dX8_advance_117 (by decide) ?_
            refine C.putI fX8_48 (Or.inl rfl) dX8_advance_118 hS.o3 ?_
            refine C.goto 200 dX8_advance_121 rfl ?_
            refine C.vret hq dX8_advance_200 ?_
            exact ⟨⟨rfl, fun a k q => by rw [mI_sI, if_neg (by omega)]; exact eF a k q⟩, by rw [mI_sI, if_neg (by omega)]; exact e4, fun _ => by rw [mI_sI, if_pos ⟨rfl, rfl⟩], fun z => absurd z hpl, fun z => absurd z hpl, fun z => absurd z hpl, fun z => absurd z hpl⟩
        · refine C.iconst (nI 1) dX8_advance_84 (by decide) ?_
          refine C.goto 89 dX8_advance_85 rfl ?_
          refine C.istore_n (lv' := [(0, _), (1, _), (2, _), (3, _)]) dX8_advance_89 (nLt hX rfl) rfl ?_
          refine C.aload_n dX8_advance_90 0 rfl ?_
          refine C.iload_n dX8_advance_91 2 rfl ?_
          refine C.putI fX8_57 (Or.inl rfl) dX8_advance_92 hS.o3 ?_
          refine C.aload_n dX8_advance_95 0 rfl ?_
          refine C.iload_n dX8_advance_96 2 rfl ?_
          refine C.putI fX8_51 (Or.inl rfl) dX8_advance_97 hS.o3 ?_
          refine C.aload_n dX8_advance_100 0 rfl ?_
          refine C.getO fX8_9 dX8_advance_101 hS.o3 hS.r3_0 ?_
          refine C.iload_n dX8_advance_104 2 rfl ?_
          refine C.callVI lX8_73 dX8_advance_105 ((by have hk := kt_at (l := l) (G := G) hS2 hT2 (nI p); rw [inN_n (by omega) (by omega), if_neg hpl] at hk; exact hk)) hS.o1 rfl rfl (Nat.le_of_ble_eq_true rfl) (Nat.zero_le _) (Nat.zero_le _) (Nat.le_of_ble_eq_true rfl) (fun x105 μ105 h105 => ?_)
          obtain ⟨rfl, hμ⟩ := h105
          subst hμ
          refine C.istore (lv' := [(0, _), (1, _), (2, _), (3, _), (4, _)]) dX8_advance_108 (nLt hX rfl) rfl ?_
          refine C.iload dX8_advance_110 4 rfl ?_
          refine C.iconst (-1) dX8_advance_112 (by decide) ?_
          refine C.icmp_ne 124 dX8_advance_113 rfl (fun hc113 => ?_) (fun hc113 => ?_)
          · exact absurd rfl hc113
          · refine C.aload_n dX8_advance_116 0 rfl ?_
            refine C.iconst (nI 0) dX8_advance_117 (by decide) ?_
            refine C.putI fX8_48 (Or.inl rfl) dX8_advance_118 hS.o3 ?_
            refine C.goto 200 dX8_advance_121 rfl ?_
            refine C.vret hq dX8_advance_200 ?_
            exact ⟨⟨rfl, fun a k q => by rw [mI_sI, if_neg (by omega)]; exact eF a k q⟩, by rw [mI_sI, if_neg (by omega)]; exact e4, fun _ => by rw [mI_sI, if_pos ⟨rfl, rfl⟩], fun z => absurd z hpl, fun z => absurd z hpl, fun z => absurd z hpl, fun z => absurd z hpl⟩
  have loop : ∀ (j k : Nat), k + j = tp.length → sk (txL tp) tp.length k = p → AW l G X 0 0 27 [(0, .ref (G.1 + 3)), (1, .int (bI (decide (kd = 1 ∨ kd = 2)))), (2, .int (nI k))] [] μ := by
    clear hq
    intro j
    induction j with
    | zero =>
      intro k hk hsk
      have hkp : k = p := by rw [← hsk, sk_stop (by omega)]
      subst hkp
      refine C.iload_n dX8_advance_27 2 rfl ?_
      refine C.aload_n dX8_advance_28 0 rfl ?_
      refine C.getO fX8_9 dX8_advance_29 hS.o3 hS.r3_0 ?_
      refine C.getI fX8_64 dX8_advance_32 hS.o1 ?_
      rw [hT.1]
      refine C.icmp_ge 72 dX8_advance_35 rfl (fun hc35 => ?_) (fun hc35 => ?_)
      · exact m72
      · exact absurd (n_nle hc35) (by omega)
    | succ j ih =>
      intro k hk hsk
      have hlt : k < tp.length := by omega
      obtain ⟨b1, b2⟩ := hby k hlt
      refine C.iload_n dX8_advance_27 2 rfl ?_
      refine C.aload_n dX8_advance_28 0 rfl ?_
      refine C.getO fX8_9 dX8_advance_29 hS.o3 hS.r3_0 ?_
      refine C.getI fX8_64 dX8_advance_32 hS.o1 ?_
      rw [hT.1]
      refine C.icmp_ge 72 dX8_advance_35 rfl (fun hc35 => ?_) (fun hc35 => ?_)
      · exact absurd (n_le hc35) (by omega)
      · refine C.aload_n dX8_advance_38 0 rfl ?_
        refine C.getO fX8_9 dX8_advance_39 hS.o3 hS.r3_0 ?_
        refine C.getA fX8_69 dX8_advance_42 hS.o1 hS.r1_0 ?_
        refine C.iload_n dX8_advance_45 2 rfl ?_
        refine C.bald hS.a2 (n_in (by omega)) dX8_advance_46 ?_
        rw [n_cl, b1]
        refine C.bipush (nI 10) dX8_advance_47 (by decide) ?_
        refine C.icmp_eq 66 dX8_advance_49 rfl (fun hc49 => ?_) (fun hc49 => ?_)
        · refine C.iinc (lv' := [(0, _), (1, _), (2, _)]) _ dX8_advance_66 2 rfl rfl (nLt hX rfl) rfl ?_
          refine C.goto 27 dX8_advance_69 rfl ?_
          have hgo := ih (k + 1) (by omega) (by rw [← sk_step hlt (by first | exact Or.inl ((byS_eq b2 (by decide)).mp hc49) | exact Or.inr ((byS_eq b2 (by decide)).mp hc63))]; exact hsk)
          rw [← nI_1 k] at hgo
          exact hgo
        · refine C.aload_n dX8_advance_52 0 rfl ?_
          refine C.getO fX8_9 dX8_advance_53 hS.o3 hS.r3_0 ?_
          refine C.getA fX8_69 dX8_advance_56 hS.o1 hS.r1_0 ?_
          refine C.iload_n dX8_advance_59 2 rfl ?_
          refine C.bald hS.a2 (n_in (by omega)) dX8_advance_60 ?_
          rw [n_cl, b1]
          refine C.bipush (nI 32) dX8_advance_61 (by decide) ?_
          refine C.icmp_ne 72 dX8_advance_63 rfl (fun hc63 => ?_) (fun hc63 => ?_)
          · have hkp : k = p := by
              rw [← hsk, sk_stop (fun z => z.2.elim (fun y => hc49 ((byS_eq b2 (by decide)).mpr y)) (fun y => hc63 ((byS_eq b2 (by decide)).mpr y)))]
            subst hkp
            exact m72
          · refine C.iinc (lv' := [(0, _), (1, _), (2, _)]) _ dX8_advance_66 2 rfl rfl (nLt hX rfl) rfl ?_
            refine C.goto 27 dX8_advance_69 rfl ?_
            have hgo := ih (k + 1) (by omega) (by rw [← sk_step hlt (by first | exact Or.inl ((byS_eq b2 (by decide)).mp hc49) | exact Or.inr ((byS_eq b2 (by decide)).mp hc63))]; exact hsk)
            rw [← nI_1 k] at hgo
            exact hgo
  refine C.aload_n dX8_advance_0 0 rfl ?_
  refine C.getI fX8_48 dX8_advance_1 hS.o3 ?_
  rw [h2]
  refine C.iconst (nI 1) dX8_advance_4 (by decide) ?_
  refine C.icmp_eq 16 dX8_advance_5 rfl (fun hc5 => ?_) (fun hc5 => ?_)
  · refine C.iconst (nI 1) dX8_advance_16 (by decide) ?_
    refine C.goto 21 dX8_advance_17 rfl ?_
    refine C.istore_n (lv' := [(0, _), (1, _)]) dX8_advance_21 (nLt hX rfl) rfl ?_
    refine C.aload_n dX8_advance_22 0 rfl ?_
    refine C.getI fX8_51 dX8_advance_23 hS.o3 ?_
    rw [h5]
    refine C.istore_n (lv' := [(0, _), (1, _), (2, _)]) dX8_advance_26 (nLt hX rfl) rfl ?_
    have hgo := loop (tp.length - t) t (by omega) hp
    first | (rw [decide_eq_true (p := kd = 1 ∨ kd = 2) (Or.inl (n_eq hc5 (by omega) (by omega)))] at hgo; exact hgo) | (rw [decide_eq_true (p := kd = 1 ∨ kd = 2) (Or.inr (n_eq hc13 (by omega) (by omega)))] at hgo; exact hgo) | (rw [decide_eq_false (p := kd = 1 ∨ kd = 2) (fun z => z.elim (n_ne hc5) (n_ne hc13))] at hgo; exact hgo)
  · refine C.aload_n dX8_advance_8 0 rfl ?_
    refine C.getI fX8_48 dX8_advance_9 hS.o3 ?_
    rw [h2]
    refine C.iconst (nI 2) dX8_advance_12 (by decide) ?_
    refine C.icmp_ne 20 dX8_advance_13 rfl (fun hc13 => ?_) (fun hc13 => ?_)
    · refine C.iconst (nI 0) dX8_advance_20 (by decide) ?_
      refine C.istore_n (lv' := [(0, _), (1, _)]) dX8_advance_21 (nLt hX rfl) rfl ?_
      refine C.aload_n dX8_advance_22 0 rfl ?_
      refine C.getI fX8_51 dX8_advance_23 hS.o3 ?_
      rw [h5]
      refine C.istore_n (lv' := [(0, _), (1, _), (2, _)]) dX8_advance_26 (nLt hX rfl) rfl ?_
      have hgo := loop (tp.length - t) t (by omega) hp
      first | (rw [decide_eq_true (p := kd = 1 ∨ kd = 2) (Or.inl (n_eq hc5 (by omega) (by omega)))] at hgo; exact hgo) | (rw [decide_eq_true (p := kd = 1 ∨ kd = 2) (Or.inr (n_eq hc13 (by omega) (by omega)))] at hgo; exact hgo) | (rw [decide_eq_false (p := kd = 1 ∨ kd = 2) (fun z => z.elim (n_ne hc5) (n_ne hc13))] at hgo; exact hgo)
    · refine C.iconst (nI 1) dX8_advance_16 (by decide) ?_
      refine C.goto 21 dX8_advance_17 rfl ?_
      refine C.istore_n (lv' := [(0, _), (1, _)]) dX8_advance_21 (nLt hX rfl) rfl ?_
      refine C.aload_n dX8_advance_22 0 rfl ?_
      refine C.getI fX8_51 dX8_advance_23 hS.o3 ?_
      rw [h5]
      refine C.istore_n (lv' := [(0, _), (1, _), (2, _)]) dX8_advance_26 (nLt hX rfl) rfl ?_
      have hgo := loop (tp.length - t) t (by omega) hp
      first | (rw [decide_eq_true (p := kd = 1 ∨ kd = 2) (Or.inl (n_eq hc5 (by omega) (by omega)))] at hgo; exact hgo) | (rw [decide_eq_true (p := kd = 1 ∨ kd = 2) (Or.inr (n_eq hc13 (by omega) (by omega)))] at hgo; exact hgo) | (rw [decide_eq_false (p := kd = 1 ∨ kd = 2) (fun z => z.elim (n_ne hc5) (n_ne hc13))] at hgo; exact hgo)
end KAD
