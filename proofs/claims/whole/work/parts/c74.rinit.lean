/-! the reference is made -/
def e3 : Nat → Prop := fun a => a < 179
theorem vn_ok : ∀ v : Fin 128, vp_nar .char (nI v.val) = nI v.val := by decide +kernel
theorem Mk.ch {Z M : Mm} {E : Nat → Prop} {n : Nat} {K R : List (Nat × Nat × Nat)} {V : List (Nat × Nat × Int32)} (h : Mk Z E n K R V M) (a i v : Nat) (ha : a < n) (he : ¬ E a) (hi : i < 100) (hv : v < 128) : Mk Z E n K R ((a, i, nI v) :: V) (sI M a (nI i).toNatClampNeg (vp_nar .char (nI v))) := by
  rw [n_cl, vn_ok ⟨v, hv⟩]
  exact h.putI a i (nI v) ha he
theorem Mk.ii {Z M : Mm} {E : Nat → Prop} {n : Nat} {K R : List (Nat × Nat × Nat)} {V : List (Nat × Nat × Int32)} (h : Mk Z E n K R V M) (a i : Nat) (v : Int32) (ha : a < n) (he : ¬ E a) (hi : i < 100) : Mk Z E n K R ((a, i, v) :: V) (sI M a (nI i).toNatClampNeg v) := by
  rw [n_cl]
  exact h.putI a i v ha he
theorem AW.re {l : Launch} {G : Gm} {X : Cx} {bc bs pc bc' bs' pc' : Nat} {lv : List (Nat × Value)} {st : List Value} {μ : Mm} (h1 : bc = bc') (h2 : bs = bs') (h3 : pc = pc') (k : AW l G X bc' bs' pc' lv st μ) : AW l G X bc bs pc lv st μ := by
  subst h1 h2 h3
  exact k
def rK0 : List (Nat × Nat × Nat) := [(179, 13, 113)]
def rR0 : List (Nat × Nat × Nat) := []
def rV0 : List (Nat × Nat × Int32) := []
theorem rmm0 : (179, 13, nF 13) ∈ rK0 := by decide +kernel
section KRI
variable {l : Launch} {G : Gm} {X : Cx} {μ Z : Mm}
def rK1 : List (Nat × Nat × Nat) := (192, 103, 4) :: (191, 103, 2) :: (190, 103, 4) :: (189, 103, 6) :: (188, 103, 4) :: (187, 103, 2) :: (186, 103, 4) :: (185, 103, 6) :: (184, 103, 4) :: (183, 103, 2) :: (182, 103, 4) :: (181, 100, 6) :: (180, 100, 1600) :: rK0
def rR1 : List (Nat × Nat × Nat) := (179, 21, 192) :: (179, 20, 191) :: (179, 19, 190) :: (179, 18, 189) :: (179, 17, 188) :: (179, 16, 187) :: (179, 15, 186) :: (179, 14, 185) :: (179, 13, 184) :: (179, 12, 183) :: (179, 11, 182) :: (179, 9, 181) :: (179, 0, 180) :: rR0
def rV1 : List (Nat × Nat × Int32) := (192, 3, nI 115) :: (192, 2, nI 101) :: (192, 1, nI 111) :: (192, 0, nI 100) :: (191, 1, nI 111) :: (191, 0, nI 116) :: (190, 3, nI 109) :: (190, 2, nI 111) :: (190, 1, nI 114) :: (190, 0, nI 102) :: (189, 5, nI 114) :: (189, 4, nI 101) :: (189, 3, nI 107) :: (189, 2, nI 108) :: (189, 1, nI 97) :: (189, 0, nI 119) :: (188, 3, nI 101) :: (188, 2, nI 112) :: (188, 1, nI 111) :: (188, 0, nI 114) :: (187, 1, nI 116) :: (187, 0, nI 97) :: (186, 3, nI 108) :: (186, 2, nI 108) :: (186, 1, nI 101) :: (186, 0, nI 98) :: (185, 5, nI 108) :: (185, 4, nI 101) :: (185, 3, nI 112) :: (185, 2, nI 97) :: (185, 1, nI 104) :: (185, 0, nI 99) :: (184, 3, nI 116) :: (184, 2, nI 110) :: (184, 1, nI 117) :: (184, 0, nI 104) :: (183, 1, nI 121) :: (183, 0, nI 98) :: (182, 3, nI 100) :: (182, 2, nI 110) :: (182, 1, nI 97) :: (182, 0, nI 108) :: (179, 8, (-1)) :: rV0
theorem rmm1 : (179, 13, nF 13) ∈ rK1 := by decide +kernel
theorem kri1 {M : Mm} (C : Cok l G X mtX13_init.2.1 mtX13_init.1.cls 1 mtX13_init.2.2.2) (hnm : X.2.1.2.2.2.1.name = mtX13_init.1.name) (h : Mk Z e3 180 rK0 rR0 rV0 M) (k : (∀ M, Mk Z e3 193 rK1 rR1 rV1 M → AW l G X 66 13356 315 [(0, .ref (G.1 + 179))] [] M)) : AW l G X 79 15004 4 [(0, .ref (G.1 + 179))] [] M := by
  refine C.aload_n dX13_init_4 0 rfl ?_
  refine C.sipush (nI 1600) dX13_init_5 (by decide) ?_
  refine C.newa (t := 0) (by decide) rfl ac_int dX13_init_8 rfl (by decide) (by decide) (by decide) ?_
  rw [h.1.1]
  have h1 := h.new (100 + 0) 1600 181 rfl
  generalize nM M (100 + 0) 1600 = M1 at h1 ⊢
  refine AW.re (bc' := 78) (bs' := 13404) (pc' := 10) rfl rfl rfl ?_
  refine C.putA fX13_7 (Or.inr ⟨hnm, rfl⟩) dX13_init_10 (h1.o (c := 13) (.tail _ rmm0)) ?_
  have h2 := h1.putR 179 0 180 (by decide) (by unfold e3; omega) (by decide +kernel)
  generalize sR M1 179 0 (some 180) = M2 at h2 ⊢
  refine AW.re (bc' := 78) (bs' := 13404) (pc' := 13) rfl rfl rfl ?_
  refine C.aload_n dX13_init_13 0 rfl ?_
  refine C.iconst (-1) dX13_init_14 (by decide) ?_
  refine C.putI fX13_13 (Or.inl rfl) dX13_init_15 (h2.o (c := 13) (.tail _ rmm0)) ?_
  have h3 := h2.putI 179 8 (-1) (by decide) (by unfold e3; omega)
  generalize sI M2 179 8 (-1) = M3 at h3 ⊢
  refine AW.re (bc' := 78) (bs' := 13404) (pc' := 18) rfl rfl rfl ?_
  refine C.aload_n dX13_init_18 0 rfl ?_
  refine C.bipush (nI 6) dX13_init_19 (by decide) ?_
  refine C.newa (t := 0) (by decide) rfl ac_int dX13_init_21 rfl (by decide) (by decide) (by decide) ?_
  rw [h3.1.1]
  have h4 := h3.new (100 + 0) 6 182 rfl
  generalize nM M3 (100 + 0) 6 = M4 at h4 ⊢
  refine AW.re (bc' := 77) (bs' := 13398) (pc' := 23) rfl rfl rfl ?_
  refine C.putA fX13_17 (Or.inr ⟨hnm, rfl⟩) dX13_init_23 (h4.o (c := 13) (.tail _ (.tail _ rmm0))) ?_
  have h5 := h4.putR 179 9 181 (by decide) (by unfold e3; omega) (by decide +kernel)
  generalize sR M4 179 9 (some 181) = M5 at h5 ⊢
  refine AW.re (bc' := 77) (bs' := 13398) (pc' := 26) rfl rfl rfl ?_
  refine C.aload_n dX13_init_26 0 rfl ?_
  refine C.iconst (nI 4) dX13_init_27 (by decide) ?_
  refine C.newa (t := 3) (by decide) rfl ac_char dX13_init_28 rfl (by decide) (by decide) (by decide) ?_
  rw [h5.1.1]
  have h6 := h5.new (100 + 3) 4 183 rfl
  generalize nM M5 (100 + 3) 4 = M6 at h6 ⊢
  refine AW.re (bc' := 76) (bs' := 13394) (pc' := 30) rfl rfl rfl ?_
  refine C.dup dX13_init_30 rfl ?_
  refine C.iconst (nI 0) dX13_init_31 (by decide) ?_
  refine C.bipush (nI 108) dX13_init_32 (by decide) ?_
  refine C.cast (h6.a (t := 3) (.head _)) (n_in (by decide)) dX13_init_34 ?_
  have h7 := h6.ch 182 0 108 (by decide) (by unfold e3; omega) (by decide) (by decide)
  generalize sI M6 182 (nI 0).toNatClampNeg (vp_nar .char (nI 108)) = M7 at h7 ⊢
  refine AW.re (bc' := 76) (bs' := 13394) (pc' := 35) rfl rfl rfl ?_
  refine C.dup dX13_init_35 rfl ?_
  refine C.iconst (nI 1) dX13_init_36 (by decide) ?_
  refine C.bipush (nI 97) dX13_init_37 (by decide) ?_
  refine C.cast (h7.a (t := 3) (.head _)) (n_in (by decide)) dX13_init_39 ?_
  have h8 := h7.ch 182 1 97 (by decide) (by unfold e3; omega) (by decide) (by decide)
  generalize sI M7 182 (nI 1).toNatClampNeg (vp_nar .char (nI 97)) = M8 at h8 ⊢
  refine AW.re (bc' := 76) (bs' := 13394) (pc' := 40) rfl rfl rfl ?_
  refine C.dup dX13_init_40 rfl ?_
  refine C.iconst (nI 2) dX13_init_41 (by decide) ?_
  refine C.bipush (nI 110) dX13_init_42 (by decide) ?_
  refine C.cast (h8.a (t := 3) (.head _)) (n_in (by decide)) dX13_init_44 ?_
  have h9 := h8.ch 182 2 110 (by decide) (by unfold e3; omega) (by decide) (by decide)
  generalize sI M8 182 (nI 2).toNatClampNeg (vp_nar .char (nI 110)) = M9 at h9 ⊢
  refine AW.re (bc' := 76) (bs' := 13394) (pc' := 45) rfl rfl rfl ?_
  refine C.dup dX13_init_45 rfl ?_
  refine C.iconst (nI 3) dX13_init_46 (by decide) ?_
  refine C.bipush (nI 100) dX13_init_47 (by decide) ?_
  refine C.cast (h9.a (t := 3) (.head _)) (n_in (by decide)) dX13_init_49 ?_
  have h10 := h9.ch 182 3 100 (by decide) (by unfold e3; omega) (by decide) (by decide)
  generalize sI M9 182 (nI 3).toNatClampNeg (vp_nar .char (nI 100)) = M10 at h10 ⊢
  refine AW.re (bc' := 76) (bs' := 13394) (pc' := 50) rfl rfl rfl ?_
  refine C.putA fX13_20 (Or.inr ⟨hnm, rfl⟩) dX13_init_50 (h10.o (c := 13) (.tail _ (.tail _ (.tail _ rmm0)))) ?_
  have h11 := h10.putR 179 11 182 (by decide) (by unfold e3; omega) (by decide +kernel)
  generalize sR M10 179 11 (some 182) = M11 at h11 ⊢
  refine AW.re (bc' := 76) (bs' := 13394) (pc' := 53) rfl rfl rfl ?_
  refine C.aload_n dX13_init_53 0 rfl ?_
  refine C.iconst (nI 2) dX13_init_54 (by decide) ?_
  refine C.newa (t := 3) (by decide) rfl ac_char dX13_init_55 rfl (by decide) (by decide) (by decide) ?_
  rw [h11.1.1]
  have h12 := h11.new (100 + 3) 2 184 rfl
  generalize nM M11 (100 + 3) 2 = M12 at h12 ⊢
  refine AW.re (bc' := 75) (bs' := 13392) (pc' := 57) rfl rfl rfl ?_
  refine C.dup dX13_init_57 rfl ?_
  refine C.iconst (nI 0) dX13_init_58 (by decide) ?_
  refine C.bipush (nI 98) dX13_init_59 (by decide) ?_
  refine C.cast (h12.a (t := 3) (.head _)) (n_in (by decide)) dX13_init_61 ?_
  have h13 := h12.ch 183 0 98 (by decide) (by unfold e3; omega) (by decide) (by decide)
  generalize sI M12 183 (nI 0).toNatClampNeg (vp_nar .char (nI 98)) = M13 at h13 ⊢
  refine AW.re (bc' := 75) (bs' := 13392) (pc' := 62) rfl rfl rfl ?_
  refine C.dup dX13_init_62 rfl ?_
  refine C.iconst (nI 1) dX13_init_63 (by decide) ?_
  refine C.bipush (nI 121) dX13_init_64 (by decide) ?_
  refine C.cast (h13.a (t := 3) (.head _)) (n_in (by decide)) dX13_init_66 ?_
  have h14 := h13.ch 183 1 121 (by decide) (by unfold e3; omega) (by decide) (by decide)
  generalize sI M13 183 (nI 1).toNatClampNeg (vp_nar .char (nI 121)) = M14 at h14 ⊢
  refine AW.re (bc' := 75) (bs' := 13392) (pc' := 67) rfl rfl rfl ?_
  refine C.putA fX13_24 (Or.inr ⟨hnm, rfl⟩) dX13_init_67 (h14.o (c := 13) (.tail _ (.tail _ (.tail _ (.tail _ rmm0))))) ?_
  have h15 := h14.putR 179 12 183 (by decide) (by unfold e3; omega) (by decide +kernel)
  generalize sR M14 179 12 (some 183) = M15 at h15 ⊢
  refine AW.re (bc' := 75) (bs' := 13392) (pc' := 70) rfl rfl rfl ?_
  refine C.aload_n dX13_init_70 0 rfl ?_
  refine C.iconst (nI 4) dX13_init_71 (by decide) ?_
  refine C.newa (t := 3) (by decide) rfl ac_char dX13_init_72 rfl (by decide) (by decide) (by decide) ?_
  rw [h15.1.1]
  have h16 := h15.new (100 + 3) 4 185 rfl
  generalize nM M15 (100 + 3) 4 = M16 at h16 ⊢
  refine AW.re (bc' := 74) (bs' := 13388) (pc' := 74) rfl rfl rfl ?_
  refine C.dup dX13_init_74 rfl ?_
  refine C.iconst (nI 0) dX13_init_75 (by decide) ?_
  refine C.bipush (nI 104) dX13_init_76 (by decide) ?_
  refine C.cast (h16.a (t := 3) (.head _)) (n_in (by decide)) dX13_init_78 ?_
  have h17 := h16.ch 184 0 104 (by decide) (by unfold e3; omega) (by decide) (by decide)
  generalize sI M16 184 (nI 0).toNatClampNeg (vp_nar .char (nI 104)) = M17 at h17 ⊢
  refine AW.re (bc' := 74) (bs' := 13388) (pc' := 79) rfl rfl rfl ?_
  refine C.dup dX13_init_79 rfl ?_
  refine C.iconst (nI 1) dX13_init_80 (by decide) ?_
  refine C.bipush (nI 117) dX13_init_81 (by decide) ?_
  refine C.cast (h17.a (t := 3) (.head _)) (n_in (by decide)) dX13_init_83 ?_
  have h18 := h17.ch 184 1 117 (by decide) (by unfold e3; omega) (by decide) (by decide)
  generalize sI M17 184 (nI 1).toNatClampNeg (vp_nar .char (nI 117)) = M18 at h18 ⊢
  refine AW.re (bc' := 74) (bs' := 13388) (pc' := 84) rfl rfl rfl ?_
  refine C.dup dX13_init_84 rfl ?_
  refine C.iconst (nI 2) dX13_init_85 (by decide) ?_
  refine C.bipush (nI 110) dX13_init_86 (by decide) ?_
  refine C.cast (h18.a (t := 3) (.head _)) (n_in (by decide)) dX13_init_88 ?_
  have h19 := h18.ch 184 2 110 (by decide) (by unfold e3; omega) (by decide) (by decide)
  generalize sI M18 184 (nI 2).toNatClampNeg (vp_nar .char (nI 110)) = M19 at h19 ⊢
  refine AW.re (bc' := 74) (bs' := 13388) (pc' := 89) rfl rfl rfl ?_
  refine C.dup dX13_init_89 rfl ?_
  refine C.iconst (nI 3) dX13_init_90 (by decide) ?_
  refine C.bipush (nI 116) dX13_init_91 (by decide) ?_
  refine C.cast (h19.a (t := 3) (.head _)) (n_in (by decide)) dX13_init_93 ?_
  have h20 := h19.ch 184 3 116 (by decide) (by unfold e3; omega) (by decide) (by decide)
  generalize sI M19 184 (nI 3).toNatClampNeg (vp_nar .char (nI 116)) = M20 at h20 ⊢
  refine AW.re (bc' := 74) (bs' := 13388) (pc' := 94) rfl rfl rfl ?_
  refine C.putA fX13_27 (Or.inr ⟨hnm, rfl⟩) dX13_init_94 (h20.o (c := 13) (.tail _ (.tail _ (.tail _ (.tail _ (.tail _ rmm0)))))) ?_
  have h21 := h20.putR 179 13 184 (by decide) (by unfold e3; omega) (by decide +kernel)
  generalize sR M20 179 13 (some 184) = M21 at h21 ⊢
  refine AW.re (bc' := 74) (bs' := 13388) (pc' := 97) rfl rfl rfl ?_
  refine C.aload_n dX13_init_97 0 rfl ?_
  refine C.bipush (nI 6) dX13_init_98 (by decide) ?_
  refine C.newa (t := 3) (by decide) rfl ac_char dX13_init_100 rfl (by decide) (by decide) (by decide) ?_
  rw [h21.1.1]
  have h22 := h21.new (100 + 3) 6 186 rfl
  generalize nM M21 (100 + 3) 6 = M22 at h22 ⊢
  refine AW.re (bc' := 73) (bs' := 13382) (pc' := 102) rfl rfl rfl ?_
  refine C.dup dX13_init_102 rfl ?_
  refine C.iconst (nI 0) dX13_init_103 (by decide) ?_
  refine C.bipush (nI 99) dX13_init_104 (by decide) ?_
  refine C.cast (h22.a (t := 3) (.head _)) (n_in (by decide)) dX13_init_106 ?_
  have h23 := h22.ch 185 0 99 (by decide) (by unfold e3; omega) (by decide) (by decide)
  generalize sI M22 185 (nI 0).toNatClampNeg (vp_nar .char (nI 99)) = M23 at h23 ⊢
  refine AW.re (bc' := 73) (bs' := 13382) (pc' := 107) rfl rfl rfl ?_
  refine C.dup dX13_init_107 rfl ?_
  refine C.iconst (nI 1) dX13_init_108 (by decide) ?_
  refine C.bipush (nI 104) dX13_init_109 (by decide) ?_
  refine C.cast (h23.a (t := 3) (.head _)) (n_in (by decide)) dX13_init_111 ?_
  have h24 := h23.ch 185 1 104 (by decide) (by unfold e3; omega) (by decide) (by decide)
  generalize sI M23 185 (nI 1).toNatClampNeg (vp_nar .char (nI 104)) = M24 at h24 ⊢
  refine AW.re (bc' := 73) (bs' := 13382) (pc' := 112) rfl rfl rfl ?_
  refine C.dup dX13_init_112 rfl ?_
  refine C.iconst (nI 2) dX13_init_113 (by decide) ?_
  refine C.bipush (nI 97) dX13_init_114 (by decide) ?_
  refine C.cast (h24.a (t := 3) (.head _)) (n_in (by decide)) dX13_init_116 ?_
  have h25 := h24.ch 185 2 97 (by decide) (by unfold e3; omega) (by decide) (by decide)
  generalize sI M24 185 (nI 2).toNatClampNeg (vp_nar .char (nI 97)) = M25 at h25 ⊢
  refine AW.re (bc' := 73) (bs' := 13382) (pc' := 117) rfl rfl rfl ?_
  refine C.dup dX13_init_117 rfl ?_
  refine C.iconst (nI 3) dX13_init_118 (by decide) ?_
  refine C.bipush (nI 112) dX13_init_119 (by decide) ?_
  refine C.cast (h25.a (t := 3) (.head _)) (n_in (by decide)) dX13_init_121 ?_
  have h26 := h25.ch 185 3 112 (by decide) (by unfold e3; omega) (by decide) (by decide)
  generalize sI M25 185 (nI 3).toNatClampNeg (vp_nar .char (nI 112)) = M26 at h26 ⊢
  refine AW.re (bc' := 73) (bs' := 13382) (pc' := 122) rfl rfl rfl ?_
  refine C.dup dX13_init_122 rfl ?_
  refine C.iconst (nI 4) dX13_init_123 (by decide) ?_
  refine C.bipush (nI 101) dX13_init_124 (by decide) ?_
  refine C.cast (h26.a (t := 3) (.head _)) (n_in (by decide)) dX13_init_126 ?_
  have h27 := h26.ch 185 4 101 (by decide) (by unfold e3; omega) (by decide) (by decide)
  generalize sI M26 185 (nI 4).toNatClampNeg (vp_nar .char (nI 101)) = M27 at h27 ⊢
  refine AW.re (bc' := 73) (bs' := 13382) (pc' := 127) rfl rfl rfl ?_
  refine C.dup dX13_init_127 rfl ?_
  refine C.iconst (nI 5) dX13_init_128 (by decide) ?_
  refine C.bipush (nI 108) dX13_init_129 (by decide) ?_
  refine C.cast (h27.a (t := 3) (.head _)) (n_in (by decide)) dX13_init_131 ?_
  have h28 := h27.ch 185 5 108 (by decide) (by unfold e3; omega) (by decide) (by decide)
  generalize sI M27 185 (nI 5).toNatClampNeg (vp_nar .char (nI 108)) = M28 at h28 ⊢
  refine AW.re (bc' := 73) (bs' := 13382) (pc' := 132) rfl rfl rfl ?_
  refine C.putA fX13_30 (Or.inr ⟨hnm, rfl⟩) dX13_init_132 (h28.o (c := 13) (.tail _ (.tail _ (.tail _ (.tail _ (.tail _ (.tail _ rmm0))))))) ?_
  have h29 := h28.putR 179 14 185 (by decide) (by unfold e3; omega) (by decide +kernel)
  generalize sR M28 179 14 (some 185) = M29 at h29 ⊢
  refine AW.re (bc' := 73) (bs' := 13382) (pc' := 135) rfl rfl rfl ?_
  refine C.aload_n dX13_init_135 0 rfl ?_
  refine C.iconst (nI 4) dX13_init_136 (by decide) ?_
  refine C.newa (t := 3) (by decide) rfl ac_char dX13_init_137 rfl (by decide) (by decide) (by decide) ?_
  rw [h29.1.1]
  have h30 := h29.new (100 + 3) 4 187 rfl
  generalize nM M29 (100 + 3) 4 = M30 at h30 ⊢
  refine AW.re (bc' := 72) (bs' := 13378) (pc' := 139) rfl rfl rfl ?_
  refine C.dup dX13_init_139 rfl ?_
  refine C.iconst (nI 0) dX13_init_140 (by decide) ?_
  refine C.bipush (nI 98) dX13_init_141 (by decide) ?_
  refine C.cast (h30.a (t := 3) (.head _)) (n_in (by decide)) dX13_init_143 ?_
  have h31 := h30.ch 186 0 98 (by decide) (by unfold e3; omega) (by decide) (by decide)
  generalize sI M30 186 (nI 0).toNatClampNeg (vp_nar .char (nI 98)) = M31 at h31 ⊢
  refine AW.re (bc' := 72) (bs' := 13378) (pc' := 144) rfl rfl rfl ?_
  refine C.dup dX13_init_144 rfl ?_
  refine C.iconst (nI 1) dX13_init_145 (by decide) ?_
  refine C.bipush (nI 101) dX13_init_146 (by decide) ?_
  refine C.cast (h31.a (t := 3) (.head _)) (n_in (by decide)) dX13_init_148 ?_
  have h32 := h31.ch 186 1 101 (by decide) (by unfold e3; omega) (by decide) (by decide)
  generalize sI M31 186 (nI 1).toNatClampNeg (vp_nar .char (nI 101)) = M32 at h32 ⊢
  refine AW.re (bc' := 72) (bs' := 13378) (pc' := 149) rfl rfl rfl ?_
  refine C.dup dX13_init_149 rfl ?_
  refine C.iconst (nI 2) dX13_init_150 (by decide) ?_
  refine C.bipush (nI 108) dX13_init_151 (by decide) ?_
  refine C.cast (h32.a (t := 3) (.head _)) (n_in (by decide)) dX13_init_153 ?_
  have h33 := h32.ch 186 2 108 (by decide) (by unfold e3; omega) (by decide) (by decide)
  generalize sI M32 186 (nI 2).toNatClampNeg (vp_nar .char (nI 108)) = M33 at h33 ⊢
  refine AW.re (bc' := 72) (bs' := 13378) (pc' := 154) rfl rfl rfl ?_
  refine C.dup dX13_init_154 rfl ?_
  refine C.iconst (nI 3) dX13_init_155 (by decide) ?_
  refine C.bipush (nI 108) dX13_init_156 (by decide) ?_
  refine C.cast (h33.a (t := 3) (.head _)) (n_in (by decide)) dX13_init_158 ?_
  have h34 := h33.ch 186 3 108 (by decide) (by unfold e3; omega) (by decide) (by decide)
  generalize sI M33 186 (nI 3).toNatClampNeg (vp_nar .char (nI 108)) = M34 at h34 ⊢
  refine AW.re (bc' := 72) (bs' := 13378) (pc' := 159) rfl rfl rfl ?_
  refine C.putA fX13_33 (Or.inr ⟨hnm, rfl⟩) dX13_init_159 (h34.o (c := 13) (.tail _ (.tail _ (.tail _ (.tail _ (.tail _ (.tail _ (.tail _ rmm0)))))))) ?_
  have h35 := h34.putR 179 15 186 (by decide) (by unfold e3; omega) (by decide +kernel)
  generalize sR M34 179 15 (some 186) = M35 at h35 ⊢
  refine AW.re (bc' := 72) (bs' := 13378) (pc' := 162) rfl rfl rfl ?_
  refine C.aload_n dX13_init_162 0 rfl ?_
  refine C.iconst (nI 2) dX13_init_163 (by decide) ?_
  refine C.newa (t := 3) (by decide) rfl ac_char dX13_init_164 rfl (by decide) (by decide) (by decide) ?_
  rw [h35.1.1]
  have h36 := h35.new (100 + 3) 2 188 rfl
  generalize nM M35 (100 + 3) 2 = M36 at h36 ⊢
  refine AW.re (bc' := 71) (bs' := 13376) (pc' := 166) rfl rfl rfl ?_
  refine C.dup dX13_init_166 rfl ?_
  refine C.iconst (nI 0) dX13_init_167 (by decide) ?_
  refine C.bipush (nI 97) dX13_init_168 (by decide) ?_
  refine C.cast (h36.a (t := 3) (.head _)) (n_in (by decide)) dX13_init_170 ?_
  have h37 := h36.ch 187 0 97 (by decide) (by unfold e3; omega) (by decide) (by decide)
  generalize sI M36 187 (nI 0).toNatClampNeg (vp_nar .char (nI 97)) = M37 at h37 ⊢
  refine AW.re (bc' := 71) (bs' := 13376) (pc' := 171) rfl rfl rfl ?_
  refine C.dup dX13_init_171 rfl ?_
  refine C.iconst (nI 1) dX13_init_172 (by decide) ?_
  refine C.bipush (nI 116) dX13_init_173 (by decide) ?_
  refine C.cast (h37.a (t := 3) (.head _)) (n_in (by decide)) dX13_init_175 ?_
  have h38 := h37.ch 187 1 116 (by decide) (by unfold e3; omega) (by decide) (by decide)
  generalize sI M37 187 (nI 1).toNatClampNeg (vp_nar .char (nI 116)) = M38 at h38 ⊢
  refine AW.re (bc' := 71) (bs' := 13376) (pc' := 176) rfl rfl rfl ?_
  refine C.putA fX13_36 (Or.inr ⟨hnm, rfl⟩) dX13_init_176 (h38.o (c := 13) (.tail _ (.tail _ (.tail _ (.tail _ (.tail _ (.tail _ (.tail _ (.tail _ rmm0))))))))) ?_
  have h39 := h38.putR 179 16 187 (by decide) (by unfold e3; omega) (by decide +kernel)
  generalize sR M38 179 16 (some 187) = M39 at h39 ⊢
  refine AW.re (bc' := 71) (bs' := 13376) (pc' := 179) rfl rfl rfl ?_
  refine C.aload_n dX13_init_179 0 rfl ?_
  refine C.iconst (nI 4) dX13_init_180 (by decide) ?_
  refine C.newa (t := 3) (by decide) rfl ac_char dX13_init_181 rfl (by decide) (by decide) (by decide) ?_
  rw [h39.1.1]
  have h40 := h39.new (100 + 3) 4 189 rfl
  generalize nM M39 (100 + 3) 4 = M40 at h40 ⊢
  refine AW.re (bc' := 70) (bs' := 13372) (pc' := 183) rfl rfl rfl ?_
  refine C.dup dX13_init_183 rfl ?_
  refine C.iconst (nI 0) dX13_init_184 (by decide) ?_
  refine C.bipush (nI 114) dX13_init_185 (by decide) ?_
  refine C.cast (h40.a (t := 3) (.head _)) (n_in (by decide)) dX13_init_187 ?_
  have h41 := h40.ch 188 0 114 (by decide) (by unfold e3; omega) (by decide) (by decide)
  generalize sI M40 188 (nI 0).toNatClampNeg (vp_nar .char (nI 114)) = M41 at h41 ⊢
  refine AW.re (bc' := 70) (bs' := 13372) (pc' := 188) rfl rfl rfl ?_
  refine C.dup dX13_init_188 rfl ?_
  refine C.iconst (nI 1) dX13_init_189 (by decide) ?_
  refine C.bipush (nI 111) dX13_init_190 (by decide) ?_
  refine C.cast (h41.a (t := 3) (.head _)) (n_in (by decide)) dX13_init_192 ?_
  have h42 := h41.ch 188 1 111 (by decide) (by unfold e3; omega) (by decide) (by decide)
  generalize sI M41 188 (nI 1).toNatClampNeg (vp_nar .char (nI 111)) = M42 at h42 ⊢
  refine AW.re (bc' := 70) (bs' := 13372) (pc' := 193) rfl rfl rfl ?_
  refine C.dup dX13_init_193 rfl ?_
  refine C.iconst (nI 2) dX13_init_194 (by decide) ?_
  refine C.bipush (nI 112) dX13_init_195 (by decide) ?_
  refine C.cast (h42.a (t := 3) (.head _)) (n_in (by decide)) dX13_init_197 ?_
  have h43 := h42.ch 188 2 112 (by decide) (by unfold e3; omega) (by decide) (by decide)
  generalize sI M42 188 (nI 2).toNatClampNeg (vp_nar .char (nI 112)) = M43 at h43 ⊢
  refine AW.re (bc' := 70) (bs' := 13372) (pc' := 198) rfl rfl rfl ?_
  refine C.dup dX13_init_198 rfl ?_
  refine C.iconst (nI 3) dX13_init_199 (by decide) ?_
  refine C.bipush (nI 101) dX13_init_200 (by decide) ?_
  refine C.cast (h43.a (t := 3) (.head _)) (n_in (by decide)) dX13_init_202 ?_
  have h44 := h43.ch 188 3 101 (by decide) (by unfold e3; omega) (by decide) (by decide)
  generalize sI M43 188 (nI 3).toNatClampNeg (vp_nar .char (nI 101)) = M44 at h44 ⊢
  refine AW.re (bc' := 70) (bs' := 13372) (pc' := 203) rfl rfl rfl ?_
  refine C.putA fX13_39 (Or.inr ⟨hnm, rfl⟩) dX13_init_203 (h44.o (c := 13) (.tail _ (.tail _ (.tail _ (.tail _ (.tail _ (.tail _ (.tail _ (.tail _ (.tail _ rmm0)))))))))) ?_
  have h45 := h44.putR 179 17 188 (by decide) (by unfold e3; omega) (by decide +kernel)
  generalize sR M44 179 17 (some 188) = M45 at h45 ⊢
  refine AW.re (bc' := 70) (bs' := 13372) (pc' := 206) rfl rfl rfl ?_
  refine C.aload_n dX13_init_206 0 rfl ?_
  refine C.bipush (nI 6) dX13_init_207 (by decide) ?_
  refine C.newa (t := 3) (by decide) rfl ac_char dX13_init_209 rfl (by decide) (by decide) (by decide) ?_
  rw [h45.1.1]
  have h46 := h45.new (100 + 3) 6 190 rfl
  generalize nM M45 (100 + 3) 6 = M46 at h46 ⊢
  refine AW.re (bc' := 69) (bs' := 13366) (pc' := 211) rfl rfl rfl ?_
  refine C.dup dX13_init_211 rfl ?_
  refine C.iconst (nI 0) dX13_init_212 (by decide) ?_
  refine C.bipush (nI 119) dX13_init_213 (by decide) ?_
  refine C.cast (h46.a (t := 3) (.head _)) (n_in (by decide)) dX13_init_215 ?_
  have h47 := h46.ch 189 0 119 (by decide) (by unfold e3; omega) (by decide) (by decide)
  generalize sI M46 189 (nI 0).toNatClampNeg (vp_nar .char (nI 119)) = M47 at h47 ⊢
  refine AW.re (bc' := 69) (bs' := 13366) (pc' := 216) rfl rfl rfl ?_
  refine C.dup dX13_init_216 rfl ?_
  refine C.iconst (nI 1) dX13_init_217 (by decide) ?_
  refine C.bipush (nI 97) dX13_init_218 (by decide) ?_
  refine C.cast (h47.a (t := 3) (.head _)) (n_in (by decide)) dX13_init_220 ?_
  have h48 := h47.ch 189 1 97 (by decide) (by unfold e3; omega) (by decide) (by decide)
  generalize sI M47 189 (nI 1).toNatClampNeg (vp_nar .char (nI 97)) = M48 at h48 ⊢
  refine AW.re (bc' := 69) (bs' := 13366) (pc' := 221) rfl rfl rfl ?_
  refine C.dup dX13_init_221 rfl ?_
  refine C.iconst (nI 2) dX13_init_222 (by decide) ?_
  refine C.bipush (nI 108) dX13_init_223 (by decide) ?_
  refine C.cast (h48.a (t := 3) (.head _)) (n_in (by decide)) dX13_init_225 ?_
  have h49 := h48.ch 189 2 108 (by decide) (by unfold e3; omega) (by decide) (by decide)
  generalize sI M48 189 (nI 2).toNatClampNeg (vp_nar .char (nI 108)) = M49 at h49 ⊢
  refine AW.re (bc' := 69) (bs' := 13366) (pc' := 226) rfl rfl rfl ?_
  refine C.dup dX13_init_226 rfl ?_
  refine C.iconst (nI 3) dX13_init_227 (by decide) ?_
  refine C.bipush (nI 107) dX13_init_228 (by decide) ?_
  refine C.cast (h49.a (t := 3) (.head _)) (n_in (by decide)) dX13_init_230 ?_
  have h50 := h49.ch 189 3 107 (by decide) (by unfold e3; omega) (by decide) (by decide)
  generalize sI M49 189 (nI 3).toNatClampNeg (vp_nar .char (nI 107)) = M50 at h50 ⊢
  refine AW.re (bc' := 69) (bs' := 13366) (pc' := 231) rfl rfl rfl ?_
  refine C.dup dX13_init_231 rfl ?_
  refine C.iconst (nI 4) dX13_init_232 (by decide) ?_
  refine C.bipush (nI 101) dX13_init_233 (by decide) ?_
  refine C.cast (h50.a (t := 3) (.head _)) (n_in (by decide)) dX13_init_235 ?_
  have h51 := h50.ch 189 4 101 (by decide) (by unfold e3; omega) (by decide) (by decide)
  generalize sI M50 189 (nI 4).toNatClampNeg (vp_nar .char (nI 101)) = M51 at h51 ⊢
  refine AW.re (bc' := 69) (bs' := 13366) (pc' := 236) rfl rfl rfl ?_
  refine C.dup dX13_init_236 rfl ?_
  refine C.iconst (nI 5) dX13_init_237 (by decide) ?_
  refine C.bipush (nI 114) dX13_init_238 (by decide) ?_
  refine C.cast (h51.a (t := 3) (.head _)) (n_in (by decide)) dX13_init_240 ?_
  have h52 := h51.ch 189 5 114 (by decide) (by unfold e3; omega) (by decide) (by decide)
  generalize sI M51 189 (nI 5).toNatClampNeg (vp_nar .char (nI 114)) = M52 at h52 ⊢
  refine AW.re (bc' := 69) (bs' := 13366) (pc' := 241) rfl rfl rfl ?_
  refine C.putA fX13_42 (Or.inr ⟨hnm, rfl⟩) dX13_init_241 (h52.o (c := 13) (.tail _ (.tail _ (.tail _ (.tail _ (.tail _ (.tail _ (.tail _ (.tail _ (.tail _ (.tail _ rmm0))))))))))) ?_
  have h53 := h52.putR 179 18 189 (by decide) (by unfold e3; omega) (by decide +kernel)
  generalize sR M52 179 18 (some 189) = M53 at h53 ⊢
  refine AW.re (bc' := 69) (bs' := 13366) (pc' := 244) rfl rfl rfl ?_
  refine C.aload_n dX13_init_244 0 rfl ?_
  refine C.iconst (nI 4) dX13_init_245 (by decide) ?_
  refine C.newa (t := 3) (by decide) rfl ac_char dX13_init_246 rfl (by decide) (by decide) (by decide) ?_
  rw [h53.1.1]
  have h54 := h53.new (100 + 3) 4 191 rfl
  generalize nM M53 (100 + 3) 4 = M54 at h54 ⊢
  refine AW.re (bc' := 68) (bs' := 13362) (pc' := 248) rfl rfl rfl ?_
  refine C.dup dX13_init_248 rfl ?_
  refine C.iconst (nI 0) dX13_init_249 (by decide) ?_
  refine C.bipush (nI 102) dX13_init_250 (by decide) ?_
  refine C.cast (h54.a (t := 3) (.head _)) (n_in (by decide)) dX13_init_252 ?_
  have h55 := h54.ch 190 0 102 (by decide) (by unfold e3; omega) (by decide) (by decide)
  generalize sI M54 190 (nI 0).toNatClampNeg (vp_nar .char (nI 102)) = M55 at h55 ⊢
  refine AW.re (bc' := 68) (bs' := 13362) (pc' := 253) rfl rfl rfl ?_
  refine C.dup dX13_init_253 rfl ?_
  refine C.iconst (nI 1) dX13_init_254 (by decide) ?_
  refine C.bipush (nI 114) dX13_init_255 (by decide) ?_
  refine C.cast (h55.a (t := 3) (.head _)) (n_in (by decide)) dX13_init_257 ?_
  have h56 := h55.ch 190 1 114 (by decide) (by unfold e3; omega) (by decide) (by decide)
  generalize sI M55 190 (nI 1).toNatClampNeg (vp_nar .char (nI 114)) = M56 at h56 ⊢
  refine AW.re (bc' := 68) (bs' := 13362) (pc' := 258) rfl rfl rfl ?_
  refine C.dup dX13_init_258 rfl ?_
  refine C.iconst (nI 2) dX13_init_259 (by decide) ?_
  refine C.bipush (nI 111) dX13_init_260 (by decide) ?_
  refine C.cast (h56.a (t := 3) (.head _)) (n_in (by decide)) dX13_init_262 ?_
  have h57 := h56.ch 190 2 111 (by decide) (by unfold e3; omega) (by decide) (by decide)
  generalize sI M56 190 (nI 2).toNatClampNeg (vp_nar .char (nI 111)) = M57 at h57 ⊢
  refine AW.re (bc' := 68) (bs' := 13362) (pc' := 263) rfl rfl rfl ?_
  refine C.dup dX13_init_263 rfl ?_
  refine C.iconst (nI 3) dX13_init_264 (by decide) ?_
  refine C.bipush (nI 109) dX13_init_265 (by decide) ?_
  refine C.cast (h57.a (t := 3) (.head _)) (n_in (by decide)) dX13_init_267 ?_
  have h58 := h57.ch 190 3 109 (by decide) (by unfold e3; omega) (by decide) (by decide)
  generalize sI M57 190 (nI 3).toNatClampNeg (vp_nar .char (nI 109)) = M58 at h58 ⊢
  refine AW.re (bc' := 68) (bs' := 13362) (pc' := 268) rfl rfl rfl ?_
  refine C.putA fX13_45 (Or.inr ⟨hnm, rfl⟩) dX13_init_268 (h58.o (c := 13) (.tail _ (.tail _ (.tail _ (.tail _ (.tail _ (.tail _ (.tail _ (.tail _ (.tail _ (.tail _ (.tail _ rmm0)))))))))))) ?_
  have h59 := h58.putR 179 19 190 (by decide) (by unfold e3; omega) (by decide +kernel)
  generalize sR M58 179 19 (some 190) = M59 at h59 ⊢
  refine AW.re (bc' := 68) (bs' := 13362) (pc' := 271) rfl rfl rfl ?_
  refine C.aload_n dX13_init_271 0 rfl ?_
  refine C.iconst (nI 2) dX13_init_272 (by decide) ?_
  refine C.newa (t := 3) (by decide) rfl ac_char dX13_init_273 rfl (by decide) (by decide) (by decide) ?_
  rw [h59.1.1]
  have h60 := h59.new (100 + 3) 2 192 rfl
  generalize nM M59 (100 + 3) 2 = M60 at h60 ⊢
  refine AW.re (bc' := 67) (bs' := 13360) (pc' := 275) rfl rfl rfl ?_
  refine C.dup dX13_init_275 rfl ?_
  refine C.iconst (nI 0) dX13_init_276 (by decide) ?_
  refine C.bipush (nI 116) dX13_init_277 (by decide) ?_
  refine C.cast (h60.a (t := 3) (.head _)) (n_in (by decide)) dX13_init_279 ?_
  have h61 := h60.ch 191 0 116 (by decide) (by unfold e3; omega) (by decide) (by decide)
  generalize sI M60 191 (nI 0).toNatClampNeg (vp_nar .char (nI 116)) = M61 at h61 ⊢
  refine AW.re (bc' := 67) (bs' := 13360) (pc' := 280) rfl rfl rfl ?_
  refine C.dup dX13_init_280 rfl ?_
  refine C.iconst (nI 1) dX13_init_281 (by decide) ?_
  refine C.bipush (nI 111) dX13_init_282 (by decide) ?_
  refine C.cast (h61.a (t := 3) (.head _)) (n_in (by decide)) dX13_init_284 ?_
  have h62 := h61.ch 191 1 111 (by decide) (by unfold e3; omega) (by decide) (by decide)
  generalize sI M61 191 (nI 1).toNatClampNeg (vp_nar .char (nI 111)) = M62 at h62 ⊢
  refine AW.re (bc' := 67) (bs' := 13360) (pc' := 285) rfl rfl rfl ?_
  refine C.putA fX13_48 (Or.inr ⟨hnm, rfl⟩) dX13_init_285 (h62.o (c := 13) (.tail _ (.tail _ (.tail _ (.tail _ (.tail _ (.tail _ (.tail _ (.tail _ (.tail _ (.tail _ (.tail _ (.tail _ rmm0))))))))))))) ?_
  have h63 := h62.putR 179 20 191 (by decide) (by unfold e3; omega) (by decide +kernel)
  generalize sR M62 179 20 (some 191) = M63 at h63 ⊢
  refine AW.re (bc' := 67) (bs' := 13360) (pc' := 288) rfl rfl rfl ?_
  refine C.aload_n dX13_init_288 0 rfl ?_
  refine C.iconst (nI 4) dX13_init_289 (by decide) ?_
  refine C.newa (t := 3) (by decide) rfl ac_char dX13_init_290 rfl (by decide) (by decide) (by decide) ?_
  rw [h63.1.1]
  have h64 := h63.new (100 + 3) 4 193 rfl
  generalize nM M63 (100 + 3) 4 = M64 at h64 ⊢
  refine AW.re (bc' := 66) (bs' := 13356) (pc' := 292) rfl rfl rfl ?_
  refine C.dup dX13_init_292 rfl ?_
  refine C.iconst (nI 0) dX13_init_293 (by decide) ?_
  refine C.bipush (nI 100) dX13_init_294 (by decide) ?_
  refine C.cast (h64.a (t := 3) (.head _)) (n_in (by decide)) dX13_init_296 ?_
  have h65 := h64.ch 192 0 100 (by decide) (by unfold e3; omega) (by decide) (by decide)
  generalize sI M64 192 (nI 0).toNatClampNeg (vp_nar .char (nI 100)) = M65 at h65 ⊢
  refine AW.re (bc' := 66) (bs' := 13356) (pc' := 297) rfl rfl rfl ?_
  refine C.dup dX13_init_297 rfl ?_
  refine C.iconst (nI 1) dX13_init_298 (by decide) ?_
  refine C.bipush (nI 111) dX13_init_299 (by decide) ?_
  refine C.cast (h65.a (t := 3) (.head _)) (n_in (by decide)) dX13_init_301 ?_
  have h66 := h65.ch 192 1 111 (by decide) (by unfold e3; omega) (by decide) (by decide)
  generalize sI M65 192 (nI 1).toNatClampNeg (vp_nar .char (nI 111)) = M66 at h66 ⊢
  refine AW.re (bc' := 66) (bs' := 13356) (pc' := 302) rfl rfl rfl ?_
  refine C.dup dX13_init_302 rfl ?_
  refine C.iconst (nI 2) dX13_init_303 (by decide) ?_
  refine C.bipush (nI 101) dX13_init_304 (by decide) ?_
  refine C.cast (h66.a (t := 3) (.head _)) (n_in (by decide)) dX13_init_306 ?_
  have h67 := h66.ch 192 2 101 (by decide) (by unfold e3; omega) (by decide) (by decide)
  generalize sI M66 192 (nI 2).toNatClampNeg (vp_nar .char (nI 101)) = M67 at h67 ⊢
  refine AW.re (bc' := 66) (bs' := 13356) (pc' := 307) rfl rfl rfl ?_
  refine C.dup dX13_init_307 rfl ?_
  refine C.iconst (nI 3) dX13_init_308 (by decide) ?_
  refine C.bipush (nI 115) dX13_init_309 (by decide) ?_
  refine C.cast (h67.a (t := 3) (.head _)) (n_in (by decide)) dX13_init_311 ?_
  have h68 := h67.ch 192 3 115 (by decide) (by unfold e3; omega) (by decide) (by decide)
  generalize sI M67 192 (nI 3).toNatClampNeg (vp_nar .char (nI 115)) = M68 at h68 ⊢
  refine AW.re (bc' := 66) (bs' := 13356) (pc' := 312) rfl rfl rfl ?_
  refine C.putA fX13_51 (Or.inr ⟨hnm, rfl⟩) dX13_init_312 (h68.o (c := 13) (.tail _ (.tail _ (.tail _ (.tail _ (.tail _ (.tail _ (.tail _ (.tail _ (.tail _ (.tail _ (.tail _ (.tail _ (.tail _ rmm0)))))))))))))) ?_
  have h69 := h68.putR 179 21 192 (by decide) (by unfold e3; omega) (by decide +kernel)
  generalize sR M68 179 21 (some 192) = M69 at h69 ⊢
  refine AW.re (bc' := 66) (bs' := 13356) (pc' := 315) rfl rfl rfl ?_
  exact k M69 h69
def rK2 : List (Nat × Nat × Nat) := (206, 103, 6) :: (205, 103, 5) :: (204, 103, 3) :: (203, 103, 6) :: (202, 103, 3) :: (201, 103, 6) :: (200, 103, 5) :: (199, 103, 4) :: (198, 103, 5) :: (197, 103, 4) :: (196, 103, 4) :: (195, 103, 5) :: (194, 103, 4) :: (193, 103, 5) :: rK1
def rR2 : List (Nat × Nat × Nat) := (179, 35, 206) :: (179, 34, 205) :: (179, 33, 204) :: (179, 32, 203) :: (179, 31, 202) :: (179, 30, 201) :: (179, 29, 200) :: (179, 28, 199) :: (179, 27, 198) :: (179, 26, 197) :: (179, 25, 196) :: (179, 24, 195) :: (179, 23, 194) :: (179, 22, 193) :: rR1
def rV2 : List (Nat × Nat × Int32) := (206, 5, nI 114) :: (206, 4, nI 101) :: (206, 3, nI 98) :: (206, 2, nI 109) :: (206, 1, nI 117) :: (206, 0, nI 110) :: (205, 4, nI 101) :: (205, 3, nI 115) :: (205, 2, nI 114) :: (205, 1, nI 117) :: (205, 0, nI 112) :: (204, 2, nI 116) :: (204, 1, nI 101) :: (204, 0, nI 109) :: (203, 5, nI 114) :: (203, 4, nI 101) :: (203, 3, nI 110) :: (203, 2, nI 110) :: (203, 1, nI 97) :: (203, 0, nI 109) :: (202, 2, nI 119) :: (202, 1, nI 111) :: (202, 0, nI 114) :: (201, 5, nI 110) :: (201, 4, nI 109) :: (201, 3, nI 117) :: (201, 2, nI 108) :: (201, 1, nI 111) :: (201, 0, nI 99) :: (200, 4, nI 116) :: (200, 3, nI 104) :: (200, 2, nI 103) :: (200, 1, nI 105) :: (200, 0, nI 110) :: (199, 3, nI 114) :: (199, 2, nI 117) :: (199, 1, nI 111) :: (199, 0, nI 104) :: (198, 4, nI 109) :: (198, 3, nI 114) :: (198, 2, nI 111) :: (198, 1, nI 116) :: (198, 0, nI 115) :: (197, 3, nI 109) :: (197, 2, nI 114) :: (197, 1, nI 97) :: (197, 0, nI 104) :: (196, 3, nI 114) :: (196, 2, nI 97) :: (196, 1, nI 101) :: (196, 0, nI 121) :: (195, 4, nI 115) :: (195, 3, nI 112) :: (195, 2, nI 101) :: (195, 1, nI 101) :: (195, 0, nI 107) :: (194, 3, nI 115) :: (194, 2, nI 121) :: (194, 1, nI 97) :: (194, 0, nI 112) :: (193, 4, nI 115) :: (193, 3, nI 101) :: (193, 2, nI 100) :: (193, 1, nI 105) :: (193, 0, nI 114) :: rV1
theorem rmm2 : (179, 13, nF 13) ∈ rK2 := by decide +kernel
theorem kri2 {M : Mm} (C : Cok l G X mtX13_init.2.1 mtX13_init.1.cls 1 mtX13_init.2.2.2) (hnm : X.2.1.2.2.2.1.name = mtX13_init.1.name) (h : Mk Z e3 193 rK1 rR1 rV1 M) (k : (∀ M, Mk Z e3 207 rK2 rR2 rV2 M → AW l G X 52 13291 741 [(0, .ref (G.1 + 179))] [] M)) : AW l G X 66 13356 315 [(0, .ref (G.1 + 179))] [] M := by
  refine C.aload_n dX13_init_315 0 rfl ?_
  refine C.iconst (nI 5) dX13_init_316 (by decide) ?_
  refine C.newa (t := 3) (by decide) rfl ac_char dX13_init_317 rfl (by decide) (by decide) (by decide) ?_
  rw [h.1.1]
  have h1 := h.new (100 + 3) 5 194 rfl
  generalize nM M (100 + 3) 5 = M1 at h1 ⊢
  refine AW.re (bc' := 65) (bs' := 13351) (pc' := 319) rfl rfl rfl ?_
  refine C.dup dX13_init_319 rfl ?_
  refine C.iconst (nI 0) dX13_init_320 (by decide) ?_
  refine C.bipush (nI 114) dX13_init_321 (by decide) ?_
  refine C.cast (h1.a (t := 3) (.head _)) (n_in (by decide)) dX13_init_323 ?_
  have h2 := h1.ch 193 0 114 (by decide) (by unfold e3; omega) (by decide) (by decide)
  generalize sI M1 193 (nI 0).toNatClampNeg (vp_nar .char (nI 114)) = M2 at h2 ⊢
  refine AW.re (bc' := 65) (bs' := 13351) (pc' := 324) rfl rfl rfl ?_
  refine C.dup dX13_init_324 rfl ?_
  refine C.iconst (nI 1) dX13_init_325 (by decide) ?_
  refine C.bipush (nI 105) dX13_init_326 (by decide) ?_
  refine C.cast (h2.a (t := 3) (.head _)) (n_in (by decide)) dX13_init_328 ?_
  have h3 := h2.ch 193 1 105 (by decide) (by unfold e3; omega) (by decide) (by decide)
  generalize sI M2 193 (nI 1).toNatClampNeg (vp_nar .char (nI 105)) = M3 at h3 ⊢
  refine AW.re (bc' := 65) (bs' := 13351) (pc' := 329) rfl rfl rfl ?_
  refine C.dup dX13_init_329 rfl ?_
  refine C.iconst (nI 2) dX13_init_330 (by decide) ?_
  refine C.bipush (nI 100) dX13_init_331 (by decide) ?_
  refine C.cast (h3.a (t := 3) (.head _)) (n_in (by decide)) dX13_init_333 ?_
  have h4 := h3.ch 193 2 100 (by decide) (by unfold e3; omega) (by decide) (by decide)
  generalize sI M3 193 (nI 2).toNatClampNeg (vp_nar .char (nI 100)) = M4 at h4 ⊢
  refine AW.re (bc' := 65) (bs' := 13351) (pc' := 334) rfl rfl rfl ?_
  refine C.dup dX13_init_334 rfl ?_
  refine C.iconst (nI 3) dX13_init_335 (by decide) ?_
  refine C.bipush (nI 101) dX13_init_336 (by decide) ?_
  refine C.cast (h4.a (t := 3) (.head _)) (n_in (by decide)) dX13_init_338 ?_
  have h5 := h4.ch 193 3 101 (by decide) (by unfold e3; omega) (by decide) (by decide)
  generalize sI M4 193 (nI 3).toNatClampNeg (vp_nar .char (nI 101)) = M5 at h5 ⊢
  refine AW.re (bc' := 65) (bs' := 13351) (pc' := 339) rfl rfl rfl ?_
  refine C.dup dX13_init_339 rfl ?_
  refine C.iconst (nI 4) dX13_init_340 (by decide) ?_
  refine C.bipush (nI 115) dX13_init_341 (by decide) ?_
  refine C.cast (h5.a (t := 3) (.head _)) (n_in (by decide)) dX13_init_343 ?_
  have h6 := h5.ch 193 4 115 (by decide) (by unfold e3; omega) (by decide) (by decide)
  generalize sI M5 193 (nI 4).toNatClampNeg (vp_nar .char (nI 115)) = M6 at h6 ⊢
  refine AW.re (bc' := 65) (bs' := 13351) (pc' := 344) rfl rfl rfl ?_
  refine C.putA fX13_54 (Or.inr ⟨hnm, rfl⟩) dX13_init_344 (h6.o (c := 13) (.tail _ rmm1)) ?_
  have h7 := h6.putR 179 22 193 (by decide) (by unfold e3; omega) (by decide +kernel)
  generalize sR M6 179 22 (some 193) = M7 at h7 ⊢
  refine AW.re (bc' := 65) (bs' := 13351) (pc' := 347) rfl rfl rfl ?_
  refine C.aload_n dX13_init_347 0 rfl ?_
  refine C.iconst (nI 4) dX13_init_348 (by decide) ?_
  refine C.newa (t := 3) (by decide) rfl ac_char dX13_init_349 rfl (by decide) (by decide) (by decide) ?_
  rw [h7.1.1]
  have h8 := h7.new (100 + 3) 4 195 rfl
  generalize nM M7 (100 + 3) 4 = M8 at h8 ⊢
  refine AW.re (bc' := 64) (bs' := 13347) (pc' := 351) rfl rfl rfl ?_
  refine C.dup dX13_init_351 rfl ?_
  refine C.iconst (nI 0) dX13_init_352 (by decide) ?_
  refine C.bipush (nI 112) dX13_init_353 (by decide) ?_
  refine C.cast (h8.a (t := 3) (.head _)) (n_in (by decide)) dX13_init_355 ?_
  have h9 := h8.ch 194 0 112 (by decide) (by unfold e3; omega) (by decide) (by decide)
  generalize sI M8 194 (nI 0).toNatClampNeg (vp_nar .char (nI 112)) = M9 at h9 ⊢
  refine AW.re (bc' := 64) (bs' := 13347) (pc' := 356) rfl rfl rfl ?_
  refine C.dup dX13_init_356 rfl ?_
  refine C.iconst (nI 1) dX13_init_357 (by decide) ?_
  refine C.bipush (nI 97) dX13_init_358 (by decide) ?_
  refine C.cast (h9.a (t := 3) (.head _)) (n_in (by decide)) dX13_init_360 ?_
  have h10 := h9.ch 194 1 97 (by decide) (by unfold e3; omega) (by decide) (by decide)
  generalize sI M9 194 (nI 1).toNatClampNeg (vp_nar .char (nI 97)) = M10 at h10 ⊢
  refine AW.re (bc' := 64) (bs' := 13347) (pc' := 361) rfl rfl rfl ?_
  refine C.dup dX13_init_361 rfl ?_
  refine C.iconst (nI 2) dX13_init_362 (by decide) ?_
  refine C.bipush (nI 121) dX13_init_363 (by decide) ?_
  refine C.cast (h10.a (t := 3) (.head _)) (n_in (by decide)) dX13_init_365 ?_
  have h11 := h10.ch 194 2 121 (by decide) (by unfold e3; omega) (by decide) (by decide)
  generalize sI M10 194 (nI 2).toNatClampNeg (vp_nar .char (nI 121)) = M11 at h11 ⊢
  refine AW.re (bc' := 64) (bs' := 13347) (pc' := 366) rfl rfl rfl ?_
  refine C.dup dX13_init_366 rfl ?_
  refine C.iconst (nI 3) dX13_init_367 (by decide) ?_
  refine C.bipush (nI 115) dX13_init_368 (by decide) ?_
  refine C.cast (h11.a (t := 3) (.head _)) (n_in (by decide)) dX13_init_370 ?_
  have h12 := h11.ch 194 3 115 (by decide) (by unfold e3; omega) (by decide) (by decide)
  generalize sI M11 194 (nI 3).toNatClampNeg (vp_nar .char (nI 115)) = M12 at h12 ⊢
  refine AW.re (bc' := 64) (bs' := 13347) (pc' := 371) rfl rfl rfl ?_
  refine C.putA fX13_57 (Or.inr ⟨hnm, rfl⟩) dX13_init_371 (h12.o (c := 13) (.tail _ (.tail _ rmm1))) ?_
  have h13 := h12.putR 179 23 194 (by decide) (by unfold e3; omega) (by decide +kernel)
  generalize sR M12 179 23 (some 194) = M13 at h13 ⊢
  refine AW.re (bc' := 64) (bs' := 13347) (pc' := 374) rfl rfl rfl ?_
  refine C.aload_n dX13_init_374 0 rfl ?_
  refine C.iconst (nI 5) dX13_init_375 (by decide) ?_
  refine C.newa (t := 3) (by decide) rfl ac_char dX13_init_376 rfl (by decide) (by decide) (by decide) ?_
  rw [h13.1.1]
  have h14 := h13.new (100 + 3) 5 196 rfl
  generalize nM M13 (100 + 3) 5 = M14 at h14 ⊢
  refine AW.re (bc' := 63) (bs' := 13342) (pc' := 378) rfl rfl rfl ?_
  refine C.dup dX13_init_378 rfl ?_
  refine C.iconst (nI 0) dX13_init_379 (by decide) ?_
  refine C.bipush (nI 107) dX13_init_380 (by decide) ?_
  refine C.cast (h14.a (t := 3) (.head _)) (n_in (by decide)) dX13_init_382 ?_
  have h15 := h14.ch 195 0 107 (by decide) (by unfold e3; omega) (by decide) (by decide)
  generalize sI M14 195 (nI 0).toNatClampNeg (vp_nar .char (nI 107)) = M15 at h15 ⊢
  refine AW.re (bc' := 63) (bs' := 13342) (pc' := 383) rfl rfl rfl ?_
  refine C.dup dX13_init_383 rfl ?_
  refine C.iconst (nI 1) dX13_init_384 (by decide) ?_
  refine C.bipush (nI 101) dX13_init_385 (by decide) ?_
  refine C.cast (h15.a (t := 3) (.head _)) (n_in (by decide)) dX13_init_387 ?_
  have h16 := h15.ch 195 1 101 (by decide) (by unfold e3; omega) (by decide) (by decide)
  generalize sI M15 195 (nI 1).toNatClampNeg (vp_nar .char (nI 101)) = M16 at h16 ⊢
  refine AW.re (bc' := 63) (bs' := 13342) (pc' := 388) rfl rfl rfl ?_
  refine C.dup dX13_init_388 rfl ?_
  refine C.iconst (nI 2) dX13_init_389 (by decide) ?_
  refine C.bipush (nI 101) dX13_init_390 (by decide) ?_
  refine C.cast (h16.a (t := 3) (.head _)) (n_in (by decide)) dX13_init_392 ?_
  have h17 := h16.ch 195 2 101 (by decide) (by unfold e3; omega) (by decide) (by decide)
  generalize sI M16 195 (nI 2).toNatClampNeg (vp_nar .char (nI 101)) = M17 at h17 ⊢
  refine AW.re (bc' := 63) (bs' := 13342) (pc' := 393) rfl rfl rfl ?_
  refine C.dup dX13_init_393 rfl ?_
  refine C.iconst (nI 3) dX13_init_394 (by decide) ?_
  refine C.bipush (nI 112) dX13_init_395 (by decide) ?_
  refine C.cast (h17.a (t := 3) (.head _)) (n_in (by decide)) dX13_init_397 ?_
  have h18 := h17.ch 195 3 112 (by decide) (by unfold e3; omega) (by decide) (by decide)
  generalize sI M17 195 (nI 3).toNatClampNeg (vp_nar .char (nI 112)) = M18 at h18 ⊢
  refine AW.re (bc' := 63) (bs' := 13342) (pc' := 398) rfl rfl rfl ?_
  refine C.dup dX13_init_398 rfl ?_
  refine C.iconst (nI 4) dX13_init_399 (by decide) ?_
  refine C.bipush (nI 115) dX13_init_400 (by decide) ?_
  refine C.cast (h18.a (t := 3) (.head _)) (n_in (by decide)) dX13_init_402 ?_
  have h19 := h18.ch 195 4 115 (by decide) (by unfold e3; omega) (by decide) (by decide)
  generalize sI M18 195 (nI 4).toNatClampNeg (vp_nar .char (nI 115)) = M19 at h19 ⊢
  refine AW.re (bc' := 63) (bs' := 13342) (pc' := 403) rfl rfl rfl ?_
  refine C.putA fX13_60 (Or.inr ⟨hnm, rfl⟩) dX13_init_403 (h19.o (c := 13) (.tail _ (.tail _ (.tail _ rmm1)))) ?_
  have h20 := h19.putR 179 24 195 (by decide) (by unfold e3; omega) (by decide +kernel)
  generalize sR M19 179 24 (some 195) = M20 at h20 ⊢
  refine AW.re (bc' := 63) (bs' := 13342) (pc' := 406) rfl rfl rfl ?_
  refine C.aload_n dX13_init_406 0 rfl ?_
  refine C.iconst (nI 4) dX13_init_407 (by decide) ?_
  refine C.newa (t := 3) (by decide) rfl ac_char dX13_init_408 rfl (by decide) (by decide) (by decide) ?_
  rw [h20.1.1]
  have h21 := h20.new (100 + 3) 4 197 rfl
  generalize nM M20 (100 + 3) 4 = M21 at h21 ⊢
  refine AW.re (bc' := 62) (bs' := 13338) (pc' := 410) rfl rfl rfl ?_
  refine C.dup dX13_init_410 rfl ?_
  refine C.iconst (nI 0) dX13_init_411 (by decide) ?_
  refine C.bipush (nI 121) dX13_init_412 (by decide) ?_
  refine C.cast (h21.a (t := 3) (.head _)) (n_in (by decide)) dX13_init_414 ?_
  have h22 := h21.ch 196 0 121 (by decide) (by unfold e3; omega) (by decide) (by decide)
  generalize sI M21 196 (nI 0).toNatClampNeg (vp_nar .char (nI 121)) = M22 at h22 ⊢
  refine AW.re (bc' := 62) (bs' := 13338) (pc' := 415) rfl rfl rfl ?_
  refine C.dup dX13_init_415 rfl ?_
  refine C.iconst (nI 1) dX13_init_416 (by decide) ?_
  refine C.bipush (nI 101) dX13_init_417 (by decide) ?_
  refine C.cast (h22.a (t := 3) (.head _)) (n_in (by decide)) dX13_init_419 ?_
  have h23 := h22.ch 196 1 101 (by decide) (by unfold e3; omega) (by decide) (by decide)
  generalize sI M22 196 (nI 1).toNatClampNeg (vp_nar .char (nI 101)) = M23 at h23 ⊢
  refine AW.re (bc' := 62) (bs' := 13338) (pc' := 420) rfl rfl rfl ?_
  refine C.dup dX13_init_420 rfl ?_
  refine C.iconst (nI 2) dX13_init_421 (by decide) ?_
  refine C.bipush (nI 97) dX13_init_422 (by decide) ?_
  refine C.cast (h23.a (t := 3) (.head _)) (n_in (by decide)) dX13_init_424 ?_
  have h24 := h23.ch 196 2 97 (by decide) (by unfold e3; omega) (by decide) (by decide)
  generalize sI M23 196 (nI 2).toNatClampNeg (vp_nar .char (nI 97)) = M24 at h24 ⊢
  refine AW.re (bc' := 62) (bs' := 13338) (pc' := 425) rfl rfl rfl ?_
  refine C.dup dX13_init_425 rfl ?_
  refine C.iconst (nI 3) dX13_init_426 (by decide) ?_
  refine C.bipush (nI 114) dX13_init_427 (by decide) ?_
  refine C.cast (h24.a (t := 3) (.head _)) (n_in (by decide)) dX13_init_429 ?_
  have h25 := h24.ch 196 3 114 (by decide) (by unfold e3; omega) (by decide) (by decide)
  generalize sI M24 196 (nI 3).toNatClampNeg (vp_nar .char (nI 114)) = M25 at h25 ⊢
  refine AW.re (bc' := 62) (bs' := 13338) (pc' := 430) rfl rfl rfl ?_
  refine C.putA fX13_63 (Or.inr ⟨hnm, rfl⟩) dX13_init_430 (h25.o (c := 13) (.tail _ (.tail _ (.tail _ (.tail _ rmm1))))) ?_
  have h26 := h25.putR 179 25 196 (by decide) (by unfold e3; omega) (by decide +kernel)
  generalize sR M25 179 25 (some 196) = M26 at h26 ⊢
  refine AW.re (bc' := 62) (bs' := 13338) (pc' := 433) rfl rfl rfl ?_
  refine C.aload_n dX13_init_433 0 rfl ?_
  refine C.iconst (nI 4) dX13_init_434 (by decide) ?_
  refine C.newa (t := 3) (by decide) rfl ac_char dX13_init_435 rfl (by decide) (by decide) (by decide) ?_
  rw [h26.1.1]
  have h27 := h26.new (100 + 3) 4 198 rfl
  generalize nM M26 (100 + 3) 4 = M27 at h27 ⊢
  refine AW.re (bc' := 61) (bs' := 13334) (pc' := 437) rfl rfl rfl ?_
  refine C.dup dX13_init_437 rfl ?_
  refine C.iconst (nI 0) dX13_init_438 (by decide) ?_
  refine C.bipush (nI 104) dX13_init_439 (by decide) ?_
  refine C.cast (h27.a (t := 3) (.head _)) (n_in (by decide)) dX13_init_441 ?_
  have h28 := h27.ch 197 0 104 (by decide) (by unfold e3; omega) (by decide) (by decide)
  generalize sI M27 197 (nI 0).toNatClampNeg (vp_nar .char (nI 104)) = M28 at h28 ⊢
  refine AW.re (bc' := 61) (bs' := 13334) (pc' := 442) rfl rfl rfl ?_
  refine C.dup dX13_init_442 rfl ?_
  refine C.iconst (nI 1) dX13_init_443 (by decide) ?_
  refine C.bipush (nI 97) dX13_init_444 (by decide) ?_
  refine C.cast (h28.a (t := 3) (.head _)) (n_in (by decide)) dX13_init_446 ?_
  have h29 := h28.ch 197 1 97 (by decide) (by unfold e3; omega) (by decide) (by decide)
  generalize sI M28 197 (nI 1).toNatClampNeg (vp_nar .char (nI 97)) = M29 at h29 ⊢
  refine AW.re (bc' := 61) (bs' := 13334) (pc' := 447) rfl rfl rfl ?_
  refine C.dup dX13_init_447 rfl ?_
  refine C.iconst (nI 2) dX13_init_448 (by decide) ?_
  refine C.bipush (nI 114) dX13_init_449 (by decide) ?_
  refine C.cast (h29.a (t := 3) (.head _)) (n_in (by decide)) dX13_init_451 ?_
  have h30 := h29.ch 197 2 114 (by decide) (by unfold e3; omega) (by decide) (by decide)
  generalize sI M29 197 (nI 2).toNatClampNeg (vp_nar .char (nI 114)) = M30 at h30 ⊢
  refine AW.re (bc' := 61) (bs' := 13334) (pc' := 452) rfl rfl rfl ?_
  refine C.dup dX13_init_452 rfl ?_
  refine C.iconst (nI 3) dX13_init_453 (by decide) ?_
  refine C.bipush (nI 109) dX13_init_454 (by decide) ?_
  refine C.cast (h30.a (t := 3) (.head _)) (n_in (by decide)) dX13_init_456 ?_
  have h31 := h30.ch 197 3 109 (by decide) (by unfold e3; omega) (by decide) (by decide)
  generalize sI M30 197 (nI 3).toNatClampNeg (vp_nar .char (nI 109)) = M31 at h31 ⊢
  refine AW.re (bc' := 61) (bs' := 13334) (pc' := 457) rfl rfl rfl ?_
  refine C.putA fX13_66 (Or.inr ⟨hnm, rfl⟩) dX13_init_457 (h31.o (c := 13) (.tail _ (.tail _ (.tail _ (.tail _ (.tail _ rmm1)))))) ?_
  have h32 := h31.putR 179 26 197 (by decide) (by unfold e3; omega) (by decide +kernel)
  generalize sR M31 179 26 (some 197) = M32 at h32 ⊢
  refine AW.re (bc' := 61) (bs' := 13334) (pc' := 460) rfl rfl rfl ?_
  refine C.aload_n dX13_init_460 0 rfl ?_
  refine C.iconst (nI 5) dX13_init_461 (by decide) ?_
  refine C.newa (t := 3) (by decide) rfl ac_char dX13_init_462 rfl (by decide) (by decide) (by decide) ?_
  rw [h32.1.1]
  have h33 := h32.new (100 + 3) 5 199 rfl
  generalize nM M32 (100 + 3) 5 = M33 at h33 ⊢
  refine AW.re (bc' := 60) (bs' := 13329) (pc' := 464) rfl rfl rfl ?_
  refine C.dup dX13_init_464 rfl ?_
  refine C.iconst (nI 0) dX13_init_465 (by decide) ?_
  refine C.bipush (nI 115) dX13_init_466 (by decide) ?_
  refine C.cast (h33.a (t := 3) (.head _)) (n_in (by decide)) dX13_init_468 ?_
  have h34 := h33.ch 198 0 115 (by decide) (by unfold e3; omega) (by decide) (by decide)
  generalize sI M33 198 (nI 0).toNatClampNeg (vp_nar .char (nI 115)) = M34 at h34 ⊢
  refine AW.re (bc' := 60) (bs' := 13329) (pc' := 469) rfl rfl rfl ?_
  refine C.dup dX13_init_469 rfl ?_
  refine C.iconst (nI 1) dX13_init_470 (by decide) ?_
  refine C.bipush (nI 116) dX13_init_471 (by decide) ?_
  refine C.cast (h34.a (t := 3) (.head _)) (n_in (by decide)) dX13_init_473 ?_
  have h35 := h34.ch 198 1 116 (by decide) (by unfold e3; omega) (by decide) (by decide)
  generalize sI M34 198 (nI 1).toNatClampNeg (vp_nar .char (nI 116)) = M35 at h35 ⊢
  refine AW.re (bc' := 60) (bs' := 13329) (pc' := 474) rfl rfl rfl ?_
  refine C.dup dX13_init_474 rfl ?_
  refine C.iconst (nI 2) dX13_init_475 (by decide) ?_
  refine C.bipush (nI 111) dX13_init_476 (by decide) ?_
  refine C.cast (h35.a (t := 3) (.head _)) (n_in (by decide)) dX13_init_478 ?_
  have h36 := h35.ch 198 2 111 (by decide) (by unfold e3; omega) (by decide) (by decide)
  generalize sI M35 198 (nI 2).toNatClampNeg (vp_nar .char (nI 111)) = M36 at h36 ⊢
  refine AW.re (bc' := 60) (bs' := 13329) (pc' := 479) rfl rfl rfl ?_
  refine C.dup dX13_init_479 rfl ?_
  refine C.iconst (nI 3) dX13_init_480 (by decide) ?_
  refine C.bipush (nI 114) dX13_init_481 (by decide) ?_
  refine C.cast (h36.a (t := 3) (.head _)) (n_in (by decide)) dX13_init_483 ?_
  have h37 := h36.ch 198 3 114 (by decide) (by unfold e3; omega) (by decide) (by decide)
  generalize sI M36 198 (nI 3).toNatClampNeg (vp_nar .char (nI 114)) = M37 at h37 ⊢
  refine AW.re (bc' := 60) (bs' := 13329) (pc' := 484) rfl rfl rfl ?_
  refine C.dup dX13_init_484 rfl ?_
  refine C.iconst (nI 4) dX13_init_485 (by decide) ?_
  refine C.bipush (nI 109) dX13_init_486 (by decide) ?_
  refine C.cast (h37.a (t := 3) (.head _)) (n_in (by decide)) dX13_init_488 ?_
  have h38 := h37.ch 198 4 109 (by decide) (by unfold e3; omega) (by decide) (by decide)
  generalize sI M37 198 (nI 4).toNatClampNeg (vp_nar .char (nI 109)) = M38 at h38 ⊢
  refine AW.re (bc' := 60) (bs' := 13329) (pc' := 489) rfl rfl rfl ?_
  refine C.putA fX13_69 (Or.inr ⟨hnm, rfl⟩) dX13_init_489 (h38.o (c := 13) (.tail _ (.tail _ (.tail _ (.tail _ (.tail _ (.tail _ rmm1))))))) ?_
  have h39 := h38.putR 179 27 198 (by decide) (by unfold e3; omega) (by decide +kernel)
  generalize sR M38 179 27 (some 198) = M39 at h39 ⊢
  refine AW.re (bc' := 60) (bs' := 13329) (pc' := 492) rfl rfl rfl ?_
  refine C.aload_n dX13_init_492 0 rfl ?_
  refine C.iconst (nI 4) dX13_init_493 (by decide) ?_
  refine C.newa (t := 3) (by decide) rfl ac_char dX13_init_494 rfl (by decide) (by decide) (by decide) ?_
  rw [h39.1.1]
  have h40 := h39.new (100 + 3) 4 200 rfl
  generalize nM M39 (100 + 3) 4 = M40 at h40 ⊢
  refine AW.re (bc' := 59) (bs' := 13325) (pc' := 496) rfl rfl rfl ?_
  refine C.dup dX13_init_496 rfl ?_
  refine C.iconst (nI 0) dX13_init_497 (by decide) ?_
  refine C.bipush (nI 104) dX13_init_498 (by decide) ?_
  refine C.cast (h40.a (t := 3) (.head _)) (n_in (by decide)) dX13_init_500 ?_
  have h41 := h40.ch 199 0 104 (by decide) (by unfold e3; omega) (by decide) (by decide)
  generalize sI M40 199 (nI 0).toNatClampNeg (vp_nar .char (nI 104)) = M41 at h41 ⊢
  refine AW.re (bc' := 59) (bs' := 13325) (pc' := 501) rfl rfl rfl ?_
  refine C.dup dX13_init_501 rfl ?_
  refine C.iconst (nI 1) dX13_init_502 (by decide) ?_
  refine C.bipush (nI 111) dX13_init_503 (by decide) ?_
  refine C.cast (h41.a (t := 3) (.head _)) (n_in (by decide)) dX13_init_505 ?_
  have h42 := h41.ch 199 1 111 (by decide) (by unfold e3; omega) (by decide) (by decide)
  generalize sI M41 199 (nI 1).toNatClampNeg (vp_nar .char (nI 111)) = M42 at h42 ⊢
  refine AW.re (bc' := 59) (bs' := 13325) (pc' := 506) rfl rfl rfl ?_
  refine C.dup dX13_init_506 rfl ?_
  refine C.iconst (nI 2) dX13_init_507 (by decide) ?_
  refine C.bipush (nI 117) dX13_init_508 (by decide) ?_
  refine C.cast (h42.a (t := 3) (.head _)) (n_in (by decide)) dX13_init_510 ?_
  have h43 := h42.ch 199 2 117 (by decide) (by unfold e3; omega) (by decide) (by decide)
  generalize sI M42 199 (nI 2).toNatClampNeg (vp_nar .char (nI 117)) = M43 at h43 ⊢
  refine AW.re (bc' := 59) (bs' := 13325) (pc' := 511) rfl rfl rfl ?_
  refine C.dup dX13_init_511 rfl ?_
  refine C.iconst (nI 3) dX13_init_512 (by decide) ?_
  refine C.bipush (nI 114) dX13_init_513 (by decide) ?_
  refine C.cast (h43.a (t := 3) (.head _)) (n_in (by decide)) dX13_init_515 ?_
  have h44 := h43.ch 199 3 114 (by decide) (by unfold e3; omega) (by decide) (by decide)
  generalize sI M43 199 (nI 3).toNatClampNeg (vp_nar .char (nI 114)) = M44 at h44 ⊢
  refine AW.re (bc' := 59) (bs' := 13325) (pc' := 516) rfl rfl rfl ?_
  refine C.putA fX13_72 (Or.inr ⟨hnm, rfl⟩) dX13_init_516 (h44.o (c := 13) (.tail _ (.tail _ (.tail _ (.tail _ (.tail _ (.tail _ (.tail _ rmm1)))))))) ?_
  have h45 := h44.putR 179 28 199 (by decide) (by unfold e3; omega) (by decide +kernel)
  generalize sR M44 179 28 (some 199) = M45 at h45 ⊢
  refine AW.re (bc' := 59) (bs' := 13325) (pc' := 519) rfl rfl rfl ?_
  refine C.aload_n dX13_init_519 0 rfl ?_
  refine C.iconst (nI 5) dX13_init_520 (by decide) ?_
  refine C.newa (t := 3) (by decide) rfl ac_char dX13_init_521 rfl (by decide) (by decide) (by decide) ?_
  rw [h45.1.1]
  have h46 := h45.new (100 + 3) 5 201 rfl
  generalize nM M45 (100 + 3) 5 = M46 at h46 ⊢
  refine AW.re (bc' := 58) (bs' := 13320) (pc' := 523) rfl rfl rfl ?_
  refine C.dup dX13_init_523 rfl ?_
  refine C.iconst (nI 0) dX13_init_524 (by decide) ?_
  refine C.bipush (nI 110) dX13_init_525 (by decide) ?_
  refine C.cast (h46.a (t := 3) (.head _)) (n_in (by decide)) dX13_init_527 ?_
  have h47 := h46.ch 200 0 110 (by decide) (by unfold e3; omega) (by decide) (by decide)
  generalize sI M46 200 (nI 0).toNatClampNeg (vp_nar .char (nI 110)) = M47 at h47 ⊢
  refine AW.re (bc' := 58) (bs' := 13320) (pc' := 528) rfl rfl rfl ?_
  refine C.dup dX13_init_528 rfl ?_
  refine C.iconst (nI 1) dX13_init_529 (by decide) ?_
  refine C.bipush (nI 105) dX13_init_530 (by decide) ?_
  refine C.cast (h47.a (t := 3) (.head _)) (n_in (by decide)) dX13_init_532 ?_
  have h48 := h47.ch 200 1 105 (by decide) (by unfold e3; omega) (by decide) (by decide)
  generalize sI M47 200 (nI 1).toNatClampNeg (vp_nar .char (nI 105)) = M48 at h48 ⊢
  refine AW.re (bc' := 58) (bs' := 13320) (pc' := 533) rfl rfl rfl ?_
  refine C.dup dX13_init_533 rfl ?_
  refine C.iconst (nI 2) dX13_init_534 (by decide) ?_
  refine C.bipush (nI 103) dX13_init_535 (by decide) ?_
  refine C.cast (h48.a (t := 3) (.head _)) (n_in (by decide)) dX13_init_537 ?_
  have h49 := h48.ch 200 2 103 (by decide) (by unfold e3; omega) (by decide) (by decide)
  generalize sI M48 200 (nI 2).toNatClampNeg (vp_nar .char (nI 103)) = M49 at h49 ⊢
  refine AW.re (bc' := 58) (bs' := 13320) (pc' := 538) rfl rfl rfl ?_
  refine C.dup dX13_init_538 rfl ?_
  refine C.iconst (nI 3) dX13_init_539 (by decide) ?_
  refine C.bipush (nI 104) dX13_init_540 (by decide) ?_
  refine C.cast (h49.a (t := 3) (.head _)) (n_in (by decide)) dX13_init_542 ?_
  have h50 := h49.ch 200 3 104 (by decide) (by unfold e3; omega) (by decide) (by decide)
  generalize sI M49 200 (nI 3).toNatClampNeg (vp_nar .char (nI 104)) = M50 at h50 ⊢
  refine AW.re (bc' := 58) (bs' := 13320) (pc' := 543) rfl rfl rfl ?_
  refine C.dup dX13_init_543 rfl ?_
  refine C.iconst (nI 4) dX13_init_544 (by decide) ?_
  refine C.bipush (nI 116) dX13_init_545 (by decide) ?_
  refine C.cast (h50.a (t := 3) (.head _)) (n_in (by decide)) dX13_init_547 ?_
  have h51 := h50.ch 200 4 116 (by decide) (by unfold e3; omega) (by decide) (by decide)
  generalize sI M50 200 (nI 4).toNatClampNeg (vp_nar .char (nI 116)) = M51 at h51 ⊢
  refine AW.re (bc' := 58) (bs' := 13320) (pc' := 548) rfl rfl rfl ?_
  refine C.putA fX13_75 (Or.inr ⟨hnm, rfl⟩) dX13_init_548 (h51.o (c := 13) (.tail _ (.tail _ (.tail _ (.tail _ (.tail _ (.tail _ (.tail _ (.tail _ rmm1))))))))) ?_
  have h52 := h51.putR 179 29 200 (by decide) (by unfold e3; omega) (by decide +kernel)
  generalize sR M51 179 29 (some 200) = M52 at h52 ⊢
  refine AW.re (bc' := 58) (bs' := 13320) (pc' := 551) rfl rfl rfl ?_
  refine C.aload_n dX13_init_551 0 rfl ?_
  refine C.bipush (nI 6) dX13_init_552 (by decide) ?_
  refine C.newa (t := 3) (by decide) rfl ac_char dX13_init_554 rfl (by decide) (by decide) (by decide) ?_
  rw [h52.1.1]
  have h53 := h52.new (100 + 3) 6 202 rfl
  generalize nM M52 (100 + 3) 6 = M53 at h53 ⊢
  refine AW.re (bc' := 57) (bs' := 13314) (pc' := 556) rfl rfl rfl ?_
  refine C.dup dX13_init_556 rfl ?_
  refine C.iconst (nI 0) dX13_init_557 (by decide) ?_
  refine C.bipush (nI 99) dX13_init_558 (by decide) ?_
  refine C.cast (h53.a (t := 3) (.head _)) (n_in (by decide)) dX13_init_560 ?_
  have h54 := h53.ch 201 0 99 (by decide) (by unfold e3; omega) (by decide) (by decide)
  generalize sI M53 201 (nI 0).toNatClampNeg (vp_nar .char (nI 99)) = M54 at h54 ⊢
  refine AW.re (bc' := 57) (bs' := 13314) (pc' := 561) rfl rfl rfl ?_
  refine C.dup dX13_init_561 rfl ?_
  refine C.iconst (nI 1) dX13_init_562 (by decide) ?_
  refine C.bipush (nI 111) dX13_init_563 (by decide) ?_
  refine C.cast (h54.a (t := 3) (.head _)) (n_in (by decide)) dX13_init_565 ?_
  have h55 := h54.ch 201 1 111 (by decide) (by unfold e3; omega) (by decide) (by decide)
  generalize sI M54 201 (nI 1).toNatClampNeg (vp_nar .char (nI 111)) = M55 at h55 ⊢
  refine AW.re (bc' := 57) (bs' := 13314) (pc' := 566) rfl rfl rfl ?_
  refine C.dup dX13_init_566 rfl ?_
  refine C.iconst (nI 2) dX13_init_567 (by decide) ?_
  refine C.bipush (nI 108) dX13_init_568 (by decide) ?_
  refine C.cast (h55.a (t := 3) (.head _)) (n_in (by decide)) dX13_init_570 ?_
  have h56 := h55.ch 201 2 108 (by decide) (by unfold e3; omega) (by decide) (by decide)
  generalize sI M55 201 (nI 2).toNatClampNeg (vp_nar .char (nI 108)) = M56 at h56 ⊢
  refine AW.re (bc' := 57) (bs' := 13314) (pc' := 571) rfl rfl rfl ?_
  refine C.dup dX13_init_571 rfl ?_
  refine C.iconst (nI 3) dX13_init_572 (by decide) ?_
  refine C.bipush (nI 117) dX13_init_573 (by decide) ?_
  refine C.cast (h56.a (t := 3) (.head _)) (n_in (by decide)) dX13_init_575 ?_
  have h57 := h56.ch 201 3 117 (by decide) (by unfold e3; omega) (by decide) (by decide)
  generalize sI M56 201 (nI 3).toNatClampNeg (vp_nar .char (nI 117)) = M57 at h57 ⊢
  refine AW.re (bc' := 57) (bs' := 13314) (pc' := 576) rfl rfl rfl ?_
  refine C.dup dX13_init_576 rfl ?_
  refine C.iconst (nI 4) dX13_init_577 (by decide) ?_
  refine C.bipush (nI 109) dX13_init_578 (by decide) ?_
  refine C.cast (h57.a (t := 3) (.head _)) (n_in (by decide)) dX13_init_580 ?_
  have h58 := h57.ch 201 4 109 (by decide) (by unfold e3; omega) (by decide) (by decide)
  generalize sI M57 201 (nI 4).toNatClampNeg (vp_nar .char (nI 109)) = M58 at h58 ⊢
  refine AW.re (bc' := 57) (bs' := 13314) (pc' := 581) rfl rfl rfl ?_
  refine C.dup dX13_init_581 rfl ?_
  refine C.iconst (nI 5) dX13_init_582 (by decide) ?_
  refine C.bipush (nI 110) dX13_init_583 (by decide) ?_
  refine C.cast (h58.a (t := 3) (.head _)) (n_in (by decide)) dX13_init_585 ?_
  have h59 := h58.ch 201 5 110 (by decide) (by unfold e3; omega) (by decide) (by decide)
  generalize sI M58 201 (nI 5).toNatClampNeg (vp_nar .char (nI 110)) = M59 at h59 ⊢
  refine AW.re (bc' := 57) (bs' := 13314) (pc' := 586) rfl rfl rfl ?_
  refine C.putA fX13_78 (Or.inr ⟨hnm, rfl⟩) dX13_init_586 (h59.o (c := 13) (.tail _ (.tail _ (.tail _ (.tail _ (.tail _ (.tail _ (.tail _ (.tail _ (.tail _ rmm1)))))))))) ?_
  have h60 := h59.putR 179 30 201 (by decide) (by unfold e3; omega) (by decide +kernel)
  generalize sR M59 179 30 (some 201) = M60 at h60 ⊢
  refine AW.re (bc' := 57) (bs' := 13314) (pc' := 589) rfl rfl rfl ?_
  refine C.aload_n dX13_init_589 0 rfl ?_
  refine C.iconst (nI 3) dX13_init_590 (by decide) ?_
  refine C.newa (t := 3) (by decide) rfl ac_char dX13_init_591 rfl (by decide) (by decide) (by decide) ?_
  rw [h60.1.1]
  have h61 := h60.new (100 + 3) 3 203 rfl
  generalize nM M60 (100 + 3) 3 = M61 at h61 ⊢
  refine AW.re (bc' := 56) (bs' := 13311) (pc' := 593) rfl rfl rfl ?_
  refine C.dup dX13_init_593 rfl ?_
  refine C.iconst (nI 0) dX13_init_594 (by decide) ?_
  refine C.bipush (nI 114) dX13_init_595 (by decide) ?_
  refine C.cast (h61.a (t := 3) (.head _)) (n_in (by decide)) dX13_init_597 ?_
  have h62 := h61.ch 202 0 114 (by decide) (by unfold e3; omega) (by decide) (by decide)
  generalize sI M61 202 (nI 0).toNatClampNeg (vp_nar .char (nI 114)) = M62 at h62 ⊢
  refine AW.re (bc' := 56) (bs' := 13311) (pc' := 598) rfl rfl rfl ?_
  refine C.dup dX13_init_598 rfl ?_
  refine C.iconst (nI 1) dX13_init_599 (by decide) ?_
  refine C.bipush (nI 111) dX13_init_600 (by decide) ?_
  refine C.cast (h62.a (t := 3) (.head _)) (n_in (by decide)) dX13_init_602 ?_
  have h63 := h62.ch 202 1 111 (by decide) (by unfold e3; omega) (by decide) (by decide)
  generalize sI M62 202 (nI 1).toNatClampNeg (vp_nar .char (nI 111)) = M63 at h63 ⊢
  refine AW.re (bc' := 56) (bs' := 13311) (pc' := 603) rfl rfl rfl ?_
  refine C.dup dX13_init_603 rfl ?_
  refine C.iconst (nI 2) dX13_init_604 (by decide) ?_
  refine C.bipush (nI 119) dX13_init_605 (by decide) ?_
  refine C.cast (h63.a (t := 3) (.head _)) (n_in (by decide)) dX13_init_607 ?_
  have h64 := h63.ch 202 2 119 (by decide) (by unfold e3; omega) (by decide) (by decide)
  generalize sI M63 202 (nI 2).toNatClampNeg (vp_nar .char (nI 119)) = M64 at h64 ⊢
  refine AW.re (bc' := 56) (bs' := 13311) (pc' := 608) rfl rfl rfl ?_
  refine C.putA fX13_81 (Or.inr ⟨hnm, rfl⟩) dX13_init_608 (h64.o (c := 13) (.tail _ (.tail _ (.tail _ (.tail _ (.tail _ (.tail _ (.tail _ (.tail _ (.tail _ (.tail _ rmm1))))))))))) ?_
  have h65 := h64.putR 179 31 202 (by decide) (by unfold e3; omega) (by decide +kernel)
  generalize sR M64 179 31 (some 202) = M65 at h65 ⊢
  refine AW.re (bc' := 56) (bs' := 13311) (pc' := 611) rfl rfl rfl ?_
  refine C.aload_n dX13_init_611 0 rfl ?_
  refine C.bipush (nI 6) dX13_init_612 (by decide) ?_
  refine C.newa (t := 3) (by decide) rfl ac_char dX13_init_614 rfl (by decide) (by decide) (by decide) ?_
  rw [h65.1.1]
  have h66 := h65.new (100 + 3) 6 204 rfl
  generalize nM M65 (100 + 3) 6 = M66 at h66 ⊢
  refine AW.re (bc' := 55) (bs' := 13305) (pc' := 616) rfl rfl rfl ?_
  refine C.dup dX13_init_616 rfl ?_
  refine C.iconst (nI 0) dX13_init_617 (by decide) ?_
  refine C.bipush (nI 109) dX13_init_618 (by decide) ?_
  refine C.cast (h66.a (t := 3) (.head _)) (n_in (by decide)) dX13_init_620 ?_
  have h67 := h66.ch 203 0 109 (by decide) (by unfold e3; omega) (by decide) (by decide)
  generalize sI M66 203 (nI 0).toNatClampNeg (vp_nar .char (nI 109)) = M67 at h67 ⊢
  refine AW.re (bc' := 55) (bs' := 13305) (pc' := 621) rfl rfl rfl ?_
  refine C.dup dX13_init_621 rfl ?_
  refine C.iconst (nI 1) dX13_init_622 (by decide) ?_
  refine C.bipush (nI 97) dX13_init_623 (by decide) ?_
  refine C.cast (h67.a (t := 3) (.head _)) (n_in (by decide)) dX13_init_625 ?_
  have h68 := h67.ch 203 1 97 (by decide) (by unfold e3; omega) (by decide) (by decide)
  generalize sI M67 203 (nI 1).toNatClampNeg (vp_nar .char (nI 97)) = M68 at h68 ⊢
  refine AW.re (bc' := 55) (bs' := 13305) (pc' := 626) rfl rfl rfl ?_
  refine C.dup dX13_init_626 rfl ?_
  refine C.iconst (nI 2) dX13_init_627 (by decide) ?_
  refine C.bipush (nI 110) dX13_init_628 (by decide) ?_
  refine C.cast (h68.a (t := 3) (.head _)) (n_in (by decide)) dX13_init_630 ?_
  have h69 := h68.ch 203 2 110 (by decide) (by unfold e3; omega) (by decide) (by decide)
  generalize sI M68 203 (nI 2).toNatClampNeg (vp_nar .char (nI 110)) = M69 at h69 ⊢
  refine AW.re (bc' := 55) (bs' := 13305) (pc' := 631) rfl rfl rfl ?_
  refine C.dup dX13_init_631 rfl ?_
  refine C.iconst (nI 3) dX13_init_632 (by decide) ?_
  refine C.bipush (nI 110) dX13_init_633 (by decide) ?_
  refine C.cast (h69.a (t := 3) (.head _)) (n_in (by decide)) dX13_init_635 ?_
  have h70 := h69.ch 203 3 110 (by decide) (by unfold e3; omega) (by decide) (by decide)
  generalize sI M69 203 (nI 3).toNatClampNeg (vp_nar .char (nI 110)) = M70 at h70 ⊢
  refine AW.re (bc' := 55) (bs' := 13305) (pc' := 636) rfl rfl rfl ?_
  refine C.dup dX13_init_636 rfl ?_
  refine C.iconst (nI 4) dX13_init_637 (by decide) ?_
  refine C.bipush (nI 101) dX13_init_638 (by decide) ?_
  refine C.cast (h70.a (t := 3) (.head _)) (n_in (by decide)) dX13_init_640 ?_
  have h71 := h70.ch 203 4 101 (by decide) (by unfold e3; omega) (by decide) (by decide)
  generalize sI M70 203 (nI 4).toNatClampNeg (vp_nar .char (nI 101)) = M71 at h71 ⊢
  refine AW.re (bc' := 55) (bs' := 13305) (pc' := 641) rfl rfl rfl ?_
  refine C.dup dX13_init_641 rfl ?_
  refine C.iconst (nI 5) dX13_init_642 (by decide) ?_
  refine C.bipush (nI 114) dX13_init_643 (by decide) ?_
  refine C.cast (h71.a (t := 3) (.head _)) (n_in (by decide)) dX13_init_645 ?_
  have h72 := h71.ch 203 5 114 (by decide) (by unfold e3; omega) (by decide) (by decide)
  generalize sI M71 203 (nI 5).toNatClampNeg (vp_nar .char (nI 114)) = M72 at h72 ⊢
  refine AW.re (bc' := 55) (bs' := 13305) (pc' := 646) rfl rfl rfl ?_
  refine C.putA fX13_84 (Or.inr ⟨hnm, rfl⟩) dX13_init_646 (h72.o (c := 13) (.tail _ (.tail _ (.tail _ (.tail _ (.tail _ (.tail _ (.tail _ (.tail _ (.tail _ (.tail _ (.tail _ rmm1)))))))))))) ?_
  have h73 := h72.putR 179 32 203 (by decide) (by unfold e3; omega) (by decide +kernel)
  generalize sR M72 179 32 (some 203) = M73 at h73 ⊢
  refine AW.re (bc' := 55) (bs' := 13305) (pc' := 649) rfl rfl rfl ?_
  refine C.aload_n dX13_init_649 0 rfl ?_
  refine C.iconst (nI 3) dX13_init_650 (by decide) ?_
  refine C.newa (t := 3) (by decide) rfl ac_char dX13_init_651 rfl (by decide) (by decide) (by decide) ?_
  rw [h73.1.1]
  have h74 := h73.new (100 + 3) 3 205 rfl
  generalize nM M73 (100 + 3) 3 = M74 at h74 ⊢
  refine AW.re (bc' := 54) (bs' := 13302) (pc' := 653) rfl rfl rfl ?_
  refine C.dup dX13_init_653 rfl ?_
  refine C.iconst (nI 0) dX13_init_654 (by decide) ?_
  refine C.bipush (nI 109) dX13_init_655 (by decide) ?_
  refine C.cast (h74.a (t := 3) (.head _)) (n_in (by decide)) dX13_init_657 ?_
  have h75 := h74.ch 204 0 109 (by decide) (by unfold e3; omega) (by decide) (by decide)
  generalize sI M74 204 (nI 0).toNatClampNeg (vp_nar .char (nI 109)) = M75 at h75 ⊢
  refine AW.re (bc' := 54) (bs' := 13302) (pc' := 658) rfl rfl rfl ?_
  refine C.dup dX13_init_658 rfl ?_
  refine C.iconst (nI 1) dX13_init_659 (by decide) ?_
  refine C.bipush (nI 101) dX13_init_660 (by decide) ?_
  refine C.cast (h75.a (t := 3) (.head _)) (n_in (by decide)) dX13_init_662 ?_
  have h76 := h75.ch 204 1 101 (by decide) (by unfold e3; omega) (by decide) (by decide)
  generalize sI M75 204 (nI 1).toNatClampNeg (vp_nar .char (nI 101)) = M76 at h76 ⊢
  refine AW.re (bc' := 54) (bs' := 13302) (pc' := 663) rfl rfl rfl ?_
  refine C.dup dX13_init_663 rfl ?_
  refine C.iconst (nI 2) dX13_init_664 (by decide) ?_
  refine C.bipush (nI 116) dX13_init_665 (by decide) ?_
  refine C.cast (h76.a (t := 3) (.head _)) (n_in (by decide)) dX13_init_667 ?_
  have h77 := h76.ch 204 2 116 (by decide) (by unfold e3; omega) (by decide) (by decide)
  generalize sI M76 204 (nI 2).toNatClampNeg (vp_nar .char (nI 116)) = M77 at h77 ⊢
  refine AW.re (bc' := 54) (bs' := 13302) (pc' := 668) rfl rfl rfl ?_
  refine C.putA fX13_87 (Or.inr ⟨hnm, rfl⟩) dX13_init_668 (h77.o (c := 13) (.tail _ (.tail _ (.tail _ (.tail _ (.tail _ (.tail _ (.tail _ (.tail _ (.tail _ (.tail _ (.tail _ (.tail _ rmm1))))))))))))) ?_
  have h78 := h77.putR 179 33 204 (by decide) (by unfold e3; omega) (by decide +kernel)
  generalize sR M77 179 33 (some 204) = M78 at h78 ⊢
  refine AW.re (bc' := 54) (bs' := 13302) (pc' := 671) rfl rfl rfl ?_
  refine C.aload_n dX13_init_671 0 rfl ?_
  refine C.iconst (nI 5) dX13_init_672 (by decide) ?_
  refine C.newa (t := 3) (by decide) rfl ac_char dX13_init_673 rfl (by decide) (by decide) (by decide) ?_
  rw [h78.1.1]
  have h79 := h78.new (100 + 3) 5 206 rfl
  generalize nM M78 (100 + 3) 5 = M79 at h79 ⊢
  refine AW.re (bc' := 53) (bs' := 13297) (pc' := 675) rfl rfl rfl ?_
  refine C.dup dX13_init_675 rfl ?_
  refine C.iconst (nI 0) dX13_init_676 (by decide) ?_
  refine C.bipush (nI 112) dX13_init_677 (by decide) ?_
  refine C.cast (h79.a (t := 3) (.head _)) (n_in (by decide)) dX13_init_679 ?_
  have h80 := h79.ch 205 0 112 (by decide) (by unfold e3; omega) (by decide) (by decide)
  generalize sI M79 205 (nI 0).toNatClampNeg (vp_nar .char (nI 112)) = M80 at h80 ⊢
  refine AW.re (bc' := 53) (bs' := 13297) (pc' := 680) rfl rfl rfl ?_
  refine C.dup dX13_init_680 rfl ?_
  refine C.iconst (nI 1) dX13_init_681 (by decide) ?_
  refine C.bipush (nI 117) dX13_init_682 (by decide) ?_
  refine C.cast (h80.a (t := 3) (.head _)) (n_in (by decide)) dX13_init_684 ?_
  have h81 := h80.ch 205 1 117 (by decide) (by unfold e3; omega) (by decide) (by decide)
  generalize sI M80 205 (nI 1).toNatClampNeg (vp_nar .char (nI 117)) = M81 at h81 ⊢
  refine AW.re (bc' := 53) (bs' := 13297) (pc' := 685) rfl rfl rfl ?_
  refine C.dup dX13_init_685 rfl ?_
  refine C.iconst (nI 2) dX13_init_686 (by decide) ?_
  refine C.bipush (nI 114) dX13_init_687 (by decide) ?_
  refine C.cast (h81.a (t := 3) (.head _)) (n_in (by decide)) dX13_init_689 ?_
  have h82 := h81.ch 205 2 114 (by decide) (by unfold e3; omega) (by decide) (by decide)
  generalize sI M81 205 (nI 2).toNatClampNeg (vp_nar .char (nI 114)) = M82 at h82 ⊢
  refine AW.re (bc' := 53) (bs' := 13297) (pc' := 690) rfl rfl rfl ?_
  refine C.dup dX13_init_690 rfl ?_
  refine C.iconst (nI 3) dX13_init_691 (by decide) ?_
  refine C.bipush (nI 115) dX13_init_692 (by decide) ?_
  refine C.cast (h82.a (t := 3) (.head _)) (n_in (by decide)) dX13_init_694 ?_
  have h83 := h82.ch 205 3 115 (by decide) (by unfold e3; omega) (by decide) (by decide)
  generalize sI M82 205 (nI 3).toNatClampNeg (vp_nar .char (nI 115)) = M83 at h83 ⊢
  refine AW.re (bc' := 53) (bs' := 13297) (pc' := 695) rfl rfl rfl ?_
  refine C.dup dX13_init_695 rfl ?_
  refine C.iconst (nI 4) dX13_init_696 (by decide) ?_
  refine C.bipush (nI 101) dX13_init_697 (by decide) ?_
  refine C.cast (h83.a (t := 3) (.head _)) (n_in (by decide)) dX13_init_699 ?_
  have h84 := h83.ch 205 4 101 (by decide) (by unfold e3; omega) (by decide) (by decide)
  generalize sI M83 205 (nI 4).toNatClampNeg (vp_nar .char (nI 101)) = M84 at h84 ⊢
  refine AW.re (bc' := 53) (bs' := 13297) (pc' := 700) rfl rfl rfl ?_
  refine C.putA fX13_90 (Or.inr ⟨hnm, rfl⟩) dX13_init_700 (h84.o (c := 13) (.tail _ (.tail _ (.tail _ (.tail _ (.tail _ (.tail _ (.tail _ (.tail _ (.tail _ (.tail _ (.tail _ (.tail _ (.tail _ rmm1)))))))))))))) ?_
  have h85 := h84.putR 179 34 205 (by decide) (by unfold e3; omega) (by decide +kernel)
  generalize sR M84 179 34 (some 205) = M85 at h85 ⊢
  refine AW.re (bc' := 53) (bs' := 13297) (pc' := 703) rfl rfl rfl ?_
  refine C.aload_n dX13_init_703 0 rfl ?_
  refine C.bipush (nI 6) dX13_init_704 (by decide) ?_
  refine C.newa (t := 3) (by decide) rfl ac_char dX13_init_706 rfl (by decide) (by decide) (by decide) ?_
  rw [h85.1.1]
  have h86 := h85.new (100 + 3) 6 207 rfl
  generalize nM M85 (100 + 3) 6 = M86 at h86 ⊢
  refine AW.re (bc' := 52) (bs' := 13291) (pc' := 708) rfl rfl rfl ?_
  refine C.dup dX13_init_708 rfl ?_
  refine C.iconst (nI 0) dX13_init_709 (by decide) ?_
  refine C.bipush (nI 110) dX13_init_710 (by decide) ?_
  refine C.cast (h86.a (t := 3) (.head _)) (n_in (by decide)) dX13_init_712 ?_
  have h87 := h86.ch 206 0 110 (by decide) (by unfold e3; omega) (by decide) (by decide)
  generalize sI M86 206 (nI 0).toNatClampNeg (vp_nar .char (nI 110)) = M87 at h87 ⊢
  refine AW.re (bc' := 52) (bs' := 13291) (pc' := 713) rfl rfl rfl ?_
  refine C.dup dX13_init_713 rfl ?_
  refine C.iconst (nI 1) dX13_init_714 (by decide) ?_
  refine C.bipush (nI 117) dX13_init_715 (by decide) ?_
  refine C.cast (h87.a (t := 3) (.head _)) (n_in (by decide)) dX13_init_717 ?_
  have h88 := h87.ch 206 1 117 (by decide) (by unfold e3; omega) (by decide) (by decide)
  generalize sI M87 206 (nI 1).toNatClampNeg (vp_nar .char (nI 117)) = M88 at h88 ⊢
  refine AW.re (bc' := 52) (bs' := 13291) (pc' := 718) rfl rfl rfl ?_
  refine C.dup dX13_init_718 rfl ?_
  refine C.iconst (nI 2) dX13_init_719 (by decide) ?_
  refine C.bipush (nI 109) dX13_init_720 (by decide) ?_
  refine C.cast (h88.a (t := 3) (.head _)) (n_in (by decide)) dX13_init_722 ?_
  have h89 := h88.ch 206 2 109 (by decide) (by unfold e3; omega) (by decide) (by decide)
  generalize sI M88 206 (nI 2).toNatClampNeg (vp_nar .char (nI 109)) = M89 at h89 ⊢
  refine AW.re (bc' := 52) (bs' := 13291) (pc' := 723) rfl rfl rfl ?_
  refine C.dup dX13_init_723 rfl ?_
  refine C.iconst (nI 3) dX13_init_724 (by decide) ?_
  refine C.bipush (nI 98) dX13_init_725 (by decide) ?_
  refine C.cast (h89.a (t := 3) (.head _)) (n_in (by decide)) dX13_init_727 ?_
  have h90 := h89.ch 206 3 98 (by decide) (by unfold e3; omega) (by decide) (by decide)
  generalize sI M89 206 (nI 3).toNatClampNeg (vp_nar .char (nI 98)) = M90 at h90 ⊢
  refine AW.re (bc' := 52) (bs' := 13291) (pc' := 728) rfl rfl rfl ?_
  refine C.dup dX13_init_728 rfl ?_
  refine C.iconst (nI 4) dX13_init_729 (by decide) ?_
  refine C.bipush (nI 101) dX13_init_730 (by decide) ?_
  refine C.cast (h90.a (t := 3) (.head _)) (n_in (by decide)) dX13_init_732 ?_
  have h91 := h90.ch 206 4 101 (by decide) (by unfold e3; omega) (by decide) (by decide)
  generalize sI M90 206 (nI 4).toNatClampNeg (vp_nar .char (nI 101)) = M91 at h91 ⊢
  refine AW.re (bc' := 52) (bs' := 13291) (pc' := 733) rfl rfl rfl ?_
  refine C.dup dX13_init_733 rfl ?_
  refine C.iconst (nI 5) dX13_init_734 (by decide) ?_
  refine C.bipush (nI 114) dX13_init_735 (by decide) ?_
  refine C.cast (h91.a (t := 3) (.head _)) (n_in (by decide)) dX13_init_737 ?_
  have h92 := h91.ch 206 5 114 (by decide) (by unfold e3; omega) (by decide) (by decide)
  generalize sI M91 206 (nI 5).toNatClampNeg (vp_nar .char (nI 114)) = M92 at h92 ⊢
  refine AW.re (bc' := 52) (bs' := 13291) (pc' := 738) rfl rfl rfl ?_
  refine C.putA fX13_93 (Or.inr ⟨hnm, rfl⟩) dX13_init_738 (h92.o (c := 13) (.tail _ (.tail _ (.tail _ (.tail _ (.tail _ (.tail _ (.tail _ (.tail _ (.tail _ (.tail _ (.tail _ (.tail _ (.tail _ (.tail _ rmm1))))))))))))))) ?_
  have h93 := h92.putR 179 35 206 (by decide) (by unfold e3; omega) (by decide +kernel)
  generalize sR M92 179 35 (some 206) = M93 at h93 ⊢
  refine AW.re (bc' := 52) (bs' := 13291) (pc' := 741) rfl rfl rfl ?_
  exact k M93 h93
def rK3 : List (Nat × Nat × Nat) := (220, 100, 60) :: (219, 100, 20) :: (218, 100, 20) :: (217, 101, 24) :: (216, 100, 6) :: (215, 100, 6) :: (214, 103, 3) :: (213, 103, 3) :: (212, 103, 3) :: (211, 103, 3) :: (210, 103, 3) :: (209, 103, 2) :: (208, 103, 4) :: (207, 103, 4) :: rK2
def rR3 : List (Nat × Nat × Nat) := (179, 50, 220) :: (179, 49, 219) :: (179, 48, 218) :: (179, 47, 217) :: (179, 46, 216) :: (179, 45, 215) :: (179, 43, 214) :: (179, 42, 213) :: (179, 41, 212) :: (179, 40, 211) :: (179, 39, 210) :: (179, 38, 209) :: (179, 37, 208) :: (179, 36, 207) :: rR2
def rV3 : List (Nat × Nat × Int32) := (214, 2, nI 120) :: (214, 1, nI 97) :: (214, 0, nI 109) :: (213, 2, nI 110) :: (213, 1, nI 105) :: (213, 0, nI 109) :: (212, 2, nI 108) :: (212, 1, nI 108) :: (212, 0, nI 97) :: (211, 2, nI 116) :: (211, 1, nI 111) :: (211, 0, nI 110) :: (210, 2, nI 100) :: (210, 1, nI 110) :: (210, 0, nI 97) :: (209, 1, nI 114) :: (209, 0, nI 111) :: (208, 3, nI 114) :: (208, 2, nI 97) :: (208, 1, nI 101) :: (208, 0, nI 110) :: (207, 3, nI 101) :: (207, 2, nI 110) :: (207, 1, nI 111) :: (207, 0, nI 103) :: rV2
theorem rmm3 : (179, 13, nF 13) ∈ rK3 := by decide +kernel
theorem kri3 {M : Mm} (C : Cok l G X mtX13_init.2.1 mtX13_init.1.cls 1 mtX13_init.2.2.2) (hnm : X.2.1.2.2.2.1.name = mtX13_init.1.name) (h : Mk Z e3 207 rK2 rR2 rV2 M) (k : (∀ M, Mk Z e3 221 rK3 rR3 rV3 M → AW l G X 38 13130 970 [(0, .ref (G.1 + 179))] [] M)) : AW l G X 52 13291 741 [(0, .ref (G.1 + 179))] [] M := by
  refine C.aload_n dX13_init_741 0 rfl ?_
  refine C.iconst (nI 4) dX13_init_742 (by decide) ?_
  refine C.newa (t := 3) (by decide) rfl ac_char dX13_init_743 rfl (by decide) (by decide) (by decide) ?_
  rw [h.1.1]
  have h1 := h.new (100 + 3) 4 208 rfl
  generalize nM M (100 + 3) 4 = M1 at h1 ⊢
  refine AW.re (bc' := 51) (bs' := 13287) (pc' := 745) rfl rfl rfl ?_
  refine C.dup dX13_init_745 rfl ?_
  refine C.iconst (nI 0) dX13_init_746 (by decide) ?_
  refine C.bipush (nI 103) dX13_init_747 (by decide) ?_
  refine C.cast (h1.a (t := 3) (.head _)) (n_in (by decide)) dX13_init_749 ?_
  have h2 := h1.ch 207 0 103 (by decide) (by unfold e3; omega) (by decide) (by decide)
  generalize sI M1 207 (nI 0).toNatClampNeg (vp_nar .char (nI 103)) = M2 at h2 ⊢
  refine AW.re (bc' := 51) (bs' := 13287) (pc' := 750) rfl rfl rfl ?_
  refine C.dup dX13_init_750 rfl ?_
  refine C.iconst (nI 1) dX13_init_751 (by decide) ?_
  refine C.bipush (nI 111) dX13_init_752 (by decide) ?_
  refine C.cast (h2.a (t := 3) (.head _)) (n_in (by decide)) dX13_init_754 ?_
  have h3 := h2.ch 207 1 111 (by decide) (by unfold e3; omega) (by decide) (by decide)
  generalize sI M2 207 (nI 1).toNatClampNeg (vp_nar .char (nI 111)) = M3 at h3 ⊢
  refine AW.re (bc' := 51) (bs' := 13287) (pc' := 755) rfl rfl rfl ?_
  refine C.dup dX13_init_755 rfl ?_
  refine C.iconst (nI 2) dX13_init_756 (by decide) ?_
  refine C.bipush (nI 110) dX13_init_757 (by decide) ?_
  refine C.cast (h3.a (t := 3) (.head _)) (n_in (by decide)) dX13_init_759 ?_
  have h4 := h3.ch 207 2 110 (by decide) (by unfold e3; omega) (by decide) (by decide)
  generalize sI M3 207 (nI 2).toNatClampNeg (vp_nar .char (nI 110)) = M4 at h4 ⊢
  refine AW.re (bc' := 51) (bs' := 13287) (pc' := 760) rfl rfl rfl ?_
  refine C.dup dX13_init_760 rfl ?_
  refine C.iconst (nI 3) dX13_init_761 (by decide) ?_
  refine C.bipush (nI 101) dX13_init_762 (by decide) ?_
  refine C.cast (h4.a (t := 3) (.head _)) (n_in (by decide)) dX13_init_764 ?_
  have h5 := h4.ch 207 3 101 (by decide) (by unfold e3; omega) (by decide) (by decide)
  generalize sI M4 207 (nI 3).toNatClampNeg (vp_nar .char (nI 101)) = M5 at h5 ⊢
  refine AW.re (bc' := 51) (bs' := 13287) (pc' := 765) rfl rfl rfl ?_
  refine C.putA fX13_96 (Or.inr ⟨hnm, rfl⟩) dX13_init_765 (h5.o (c := 13) (.tail _ rmm2)) ?_
  have h6 := h5.putR 179 36 207 (by decide) (by unfold e3; omega) (by decide +kernel)
  generalize sR M5 179 36 (some 207) = M6 at h6 ⊢
  refine AW.re (bc' := 51) (bs' := 13287) (pc' := 768) rfl rfl rfl ?_
  refine C.aload_n dX13_init_768 0 rfl ?_
  refine C.iconst (nI 4) dX13_init_769 (by decide) ?_
  refine C.newa (t := 3) (by decide) rfl ac_char dX13_init_770 rfl (by decide) (by decide) (by decide) ?_
  rw [h6.1.1]
  have h7 := h6.new (100 + 3) 4 209 rfl
  generalize nM M6 (100 + 3) 4 = M7 at h7 ⊢
  refine AW.re (bc' := 50) (bs' := 13283) (pc' := 772) rfl rfl rfl ?_
  refine C.dup dX13_init_772 rfl ?_
  refine C.iconst (nI 0) dX13_init_773 (by decide) ?_
  refine C.bipush (nI 110) dX13_init_774 (by decide) ?_
  refine C.cast (h7.a (t := 3) (.head _)) (n_in (by decide)) dX13_init_776 ?_
  have h8 := h7.ch 208 0 110 (by decide) (by unfold e3; omega) (by decide) (by decide)
  generalize sI M7 208 (nI 0).toNatClampNeg (vp_nar .char (nI 110)) = M8 at h8 ⊢
  refine AW.re (bc' := 50) (bs' := 13283) (pc' := 777) rfl rfl rfl ?_
  refine C.dup dX13_init_777 rfl ?_
  refine C.iconst (nI 1) dX13_init_778 (by decide) ?_
  refine C.bipush (nI 101) dX13_init_779 (by decide) ?_
  refine C.cast (h8.a (t := 3) (.head _)) (n_in (by decide)) dX13_init_781 ?_
  have h9 := h8.ch 208 1 101 (by decide) (by unfold e3; omega) (by decide) (by decide)
  generalize sI M8 208 (nI 1).toNatClampNeg (vp_nar .char (nI 101)) = M9 at h9 ⊢
  refine AW.re (bc' := 50) (bs' := 13283) (pc' := 782) rfl rfl rfl ?_
  refine C.dup dX13_init_782 rfl ?_
  refine C.iconst (nI 2) dX13_init_783 (by decide) ?_
  refine C.bipush (nI 97) dX13_init_784 (by decide) ?_
  refine C.cast (h9.a (t := 3) (.head _)) (n_in (by decide)) dX13_init_786 ?_
  have h10 := h9.ch 208 2 97 (by decide) (by unfold e3; omega) (by decide) (by decide)
  generalize sI M9 208 (nI 2).toNatClampNeg (vp_nar .char (nI 97)) = M10 at h10 ⊢
  refine AW.re (bc' := 50) (bs' := 13283) (pc' := 787) rfl rfl rfl ?_
  refine C.dup dX13_init_787 rfl ?_
  refine C.iconst (nI 3) dX13_init_788 (by decide) ?_
  refine C.bipush (nI 114) dX13_init_789 (by decide) ?_
  refine C.cast (h10.a (t := 3) (.head _)) (n_in (by decide)) dX13_init_791 ?_
  have h11 := h10.ch 208 3 114 (by decide) (by unfold e3; omega) (by decide) (by decide)
  generalize sI M10 208 (nI 3).toNatClampNeg (vp_nar .char (nI 114)) = M11 at h11 ⊢
  refine AW.re (bc' := 50) (bs' := 13283) (pc' := 792) rfl rfl rfl ?_
  refine C.putA fX13_99 (Or.inr ⟨hnm, rfl⟩) dX13_init_792 (h11.o (c := 13) (.tail _ (.tail _ rmm2))) ?_
  have h12 := h11.putR 179 37 208 (by decide) (by unfold e3; omega) (by decide +kernel)
  generalize sR M11 179 37 (some 208) = M12 at h12 ⊢
  refine AW.re (bc' := 50) (bs' := 13283) (pc' := 795) rfl rfl rfl ?_
  refine C.aload_n dX13_init_795 0 rfl ?_
  refine C.iconst (nI 2) dX13_init_796 (by decide) ?_
  refine C.newa (t := 3) (by decide) rfl ac_char dX13_init_797 rfl (by decide) (by decide) (by decide) ?_
  rw [h12.1.1]
  have h13 := h12.new (100 + 3) 2 210 rfl
  generalize nM M12 (100 + 3) 2 = M13 at h13 ⊢
  refine AW.re (bc' := 49) (bs' := 13281) (pc' := 799) rfl rfl rfl ?_
  refine C.dup dX13_init_799 rfl ?_
  refine C.iconst (nI 0) dX13_init_800 (by decide) ?_
  refine C.bipush (nI 111) dX13_init_801 (by decide) ?_
  refine C.cast (h13.a (t := 3) (.head _)) (n_in (by decide)) dX13_init_803 ?_
  have h14 := h13.ch 209 0 111 (by decide) (by unfold e3; omega) (by decide) (by decide)
  generalize sI M13 209 (nI 0).toNatClampNeg (vp_nar .char (nI 111)) = M14 at h14 ⊢
  refine AW.re (bc' := 49) (bs' := 13281) (pc' := 804) rfl rfl rfl ?_
  refine C.dup dX13_init_804 rfl ?_
  refine C.iconst (nI 1) dX13_init_805 (by decide) ?_
  refine C.bipush (nI 114) dX13_init_806 (by decide) ?_
  refine C.cast (h14.a (t := 3) (.head _)) (n_in (by decide)) dX13_init_808 ?_
  have h15 := h14.ch 209 1 114 (by decide) (by unfold e3; omega) (by decide) (by decide)
  generalize sI M14 209 (nI 1).toNatClampNeg (vp_nar .char (nI 114)) = M15 at h15 ⊢
  refine AW.re (bc' := 49) (bs' := 13281) (pc' := 809) rfl rfl rfl ?_
  refine C.putA fX13_102 (Or.inr ⟨hnm, rfl⟩) dX13_init_809 (h15.o (c := 13) (.tail _ (.tail _ (.tail _ rmm2)))) ?_
  have h16 := h15.putR 179 38 209 (by decide) (by unfold e3; omega) (by decide +kernel)
  generalize sR M15 179 38 (some 209) = M16 at h16 ⊢
  refine AW.re (bc' := 49) (bs' := 13281) (pc' := 812) rfl rfl rfl ?_
  refine C.aload_n dX13_init_812 0 rfl ?_
  refine C.iconst (nI 3) dX13_init_813 (by decide) ?_
  refine C.newa (t := 3) (by decide) rfl ac_char dX13_init_814 rfl (by decide) (by decide) (by decide) ?_
  rw [h16.1.1]
  have h17 := h16.new (100 + 3) 3 211 rfl
  generalize nM M16 (100 + 3) 3 = M17 at h17 ⊢
  refine AW.re (bc' := 48) (bs' := 13278) (pc' := 816) rfl rfl rfl ?_
  refine C.dup dX13_init_816 rfl ?_
  refine C.iconst (nI 0) dX13_init_817 (by decide) ?_
  refine C.bipush (nI 97) dX13_init_818 (by decide) ?_
  refine C.cast (h17.a (t := 3) (.head _)) (n_in (by decide)) dX13_init_820 ?_
  have h18 := h17.ch 210 0 97 (by decide) (by unfold e3; omega) (by decide) (by decide)
  generalize sI M17 210 (nI 0).toNatClampNeg (vp_nar .char (nI 97)) = M18 at h18 ⊢
  refine AW.re (bc' := 48) (bs' := 13278) (pc' := 821) rfl rfl rfl ?_
  refine C.dup dX13_init_821 rfl ?_
  refine C.iconst (nI 1) dX13_init_822 (by decide) ?_
  refine C.bipush (nI 110) dX13_init_823 (by decide) ?_
  refine C.cast (h18.a (t := 3) (.head _)) (n_in (by decide)) dX13_init_825 ?_
  have h19 := h18.ch 210 1 110 (by decide) (by unfold e3; omega) (by decide) (by decide)
  generalize sI M18 210 (nI 1).toNatClampNeg (vp_nar .char (nI 110)) = M19 at h19 ⊢
  refine AW.re (bc' := 48) (bs' := 13278) (pc' := 826) rfl rfl rfl ?_
  refine C.dup dX13_init_826 rfl ?_
  refine C.iconst (nI 2) dX13_init_827 (by decide) ?_
  refine C.bipush (nI 100) dX13_init_828 (by decide) ?_
  refine C.cast (h19.a (t := 3) (.head _)) (n_in (by decide)) dX13_init_830 ?_
  have h20 := h19.ch 210 2 100 (by decide) (by unfold e3; omega) (by decide) (by decide)
  generalize sI M19 210 (nI 2).toNatClampNeg (vp_nar .char (nI 100)) = M20 at h20 ⊢
  refine AW.re (bc' := 48) (bs' := 13278) (pc' := 831) rfl rfl rfl ?_
  refine C.putA fX13_105 (Or.inr ⟨hnm, rfl⟩) dX13_init_831 (h20.o (c := 13) (.tail _ (.tail _ (.tail _ (.tail _ rmm2))))) ?_
  have h21 := h20.putR 179 39 210 (by decide) (by unfold e3; omega) (by decide +kernel)
  generalize sR M20 179 39 (some 210) = M21 at h21 ⊢
  refine AW.re (bc' := 48) (bs' := 13278) (pc' := 834) rfl rfl rfl ?_
  refine C.aload_n dX13_init_834 0 rfl ?_
  refine C.iconst (nI 3) dX13_init_835 (by decide) ?_
  refine C.newa (t := 3) (by decide) rfl ac_char dX13_init_836 rfl (by decide) (by decide) (by decide) ?_
  rw [h21.1.1]
  have h22 := h21.new (100 + 3) 3 212 rfl
  generalize nM M21 (100 + 3) 3 = M22 at h22 ⊢
  refine AW.re (bc' := 47) (bs' := 13275) (pc' := 838) rfl rfl rfl ?_
  refine C.dup dX13_init_838 rfl ?_
  refine C.iconst (nI 0) dX13_init_839 (by decide) ?_
  refine C.bipush (nI 110) dX13_init_840 (by decide) ?_
  refine C.cast (h22.a (t := 3) (.head _)) (n_in (by decide)) dX13_init_842 ?_
  have h23 := h22.ch 211 0 110 (by decide) (by unfold e3; omega) (by decide) (by decide)
  generalize sI M22 211 (nI 0).toNatClampNeg (vp_nar .char (nI 110)) = M23 at h23 ⊢
  refine AW.re (bc' := 47) (bs' := 13275) (pc' := 843) rfl rfl rfl ?_
  refine C.dup dX13_init_843 rfl ?_
  refine C.iconst (nI 1) dX13_init_844 (by decide) ?_
  refine C.bipush (nI 111) dX13_init_845 (by decide) ?_
  refine C.cast (h23.a (t := 3) (.head _)) (n_in (by decide)) dX13_init_847 ?_
  have h24 := h23.ch 211 1 111 (by decide) (by unfold e3; omega) (by decide) (by decide)
  generalize sI M23 211 (nI 1).toNatClampNeg (vp_nar .char (nI 111)) = M24 at h24 ⊢
  refine AW.re (bc' := 47) (bs' := 13275) (pc' := 848) rfl rfl rfl ?_
  refine C.dup dX13_init_848 rfl ?_
  refine C.iconst (nI 2) dX13_init_849 (by decide) ?_
  refine C.bipush (nI 116) dX13_init_850 (by decide) ?_
  refine C.cast (h24.a (t := 3) (.head _)) (n_in (by decide)) dX13_init_852 ?_
  have h25 := h24.ch 211 2 116 (by decide) (by unfold e3; omega) (by decide) (by decide)
  generalize sI M24 211 (nI 2).toNatClampNeg (vp_nar .char (nI 116)) = M25 at h25 ⊢
  refine AW.re (bc' := 47) (bs' := 13275) (pc' := 853) rfl rfl rfl ?_
  refine C.putA fX13_108 (Or.inr ⟨hnm, rfl⟩) dX13_init_853 (h25.o (c := 13) (.tail _ (.tail _ (.tail _ (.tail _ (.tail _ rmm2)))))) ?_
  have h26 := h25.putR 179 40 211 (by decide) (by unfold e3; omega) (by decide +kernel)
  generalize sR M25 179 40 (some 211) = M26 at h26 ⊢
  refine AW.re (bc' := 47) (bs' := 13275) (pc' := 856) rfl rfl rfl ?_
  refine C.aload_n dX13_init_856 0 rfl ?_
  refine C.iconst (nI 3) dX13_init_857 (by decide) ?_
  refine C.newa (t := 3) (by decide) rfl ac_char dX13_init_858 rfl (by decide) (by decide) (by decide) ?_
  rw [h26.1.1]
  have h27 := h26.new (100 + 3) 3 213 rfl
  generalize nM M26 (100 + 3) 3 = M27 at h27 ⊢
  refine AW.re (bc' := 46) (bs' := 13272) (pc' := 860) rfl rfl rfl ?_
  refine C.dup dX13_init_860 rfl ?_
  refine C.iconst (nI 0) dX13_init_861 (by decide) ?_
  refine C.bipush (nI 97) dX13_init_862 (by decide) ?_
  refine C.cast (h27.a (t := 3) (.head _)) (n_in (by decide)) dX13_init_864 ?_
  have h28 := h27.ch 212 0 97 (by decide) (by unfold e3; omega) (by decide) (by decide)
  generalize sI M27 212 (nI 0).toNatClampNeg (vp_nar .char (nI 97)) = M28 at h28 ⊢
  refine AW.re (bc' := 46) (bs' := 13272) (pc' := 865) rfl rfl rfl ?_
  refine C.dup dX13_init_865 rfl ?_
  refine C.iconst (nI 1) dX13_init_866 (by decide) ?_
  refine C.bipush (nI 108) dX13_init_867 (by decide) ?_
  refine C.cast (h28.a (t := 3) (.head _)) (n_in (by decide)) dX13_init_869 ?_
  have h29 := h28.ch 212 1 108 (by decide) (by unfold e3; omega) (by decide) (by decide)
  generalize sI M28 212 (nI 1).toNatClampNeg (vp_nar .char (nI 108)) = M29 at h29 ⊢
  refine AW.re (bc' := 46) (bs' := 13272) (pc' := 870) rfl rfl rfl ?_
  refine C.dup dX13_init_870 rfl ?_
  refine C.iconst (nI 2) dX13_init_871 (by decide) ?_
  refine C.bipush (nI 108) dX13_init_872 (by decide) ?_
  refine C.cast (h29.a (t := 3) (.head _)) (n_in (by decide)) dX13_init_874 ?_
  have h30 := h29.ch 212 2 108 (by decide) (by unfold e3; omega) (by decide) (by decide)
  generalize sI M29 212 (nI 2).toNatClampNeg (vp_nar .char (nI 108)) = M30 at h30 ⊢
  refine AW.re (bc' := 46) (bs' := 13272) (pc' := 875) rfl rfl rfl ?_
  refine C.putA fX13_111 (Or.inr ⟨hnm, rfl⟩) dX13_init_875 (h30.o (c := 13) (.tail _ (.tail _ (.tail _ (.tail _ (.tail _ (.tail _ rmm2))))))) ?_
  have h31 := h30.putR 179 41 212 (by decide) (by unfold e3; omega) (by decide +kernel)
  generalize sR M30 179 41 (some 212) = M31 at h31 ⊢
  refine AW.re (bc' := 46) (bs' := 13272) (pc' := 878) rfl rfl rfl ?_
  refine C.aload_n dX13_init_878 0 rfl ?_
  refine C.iconst (nI 3) dX13_init_879 (by decide) ?_
  refine C.newa (t := 3) (by decide) rfl ac_char dX13_init_880 rfl (by decide) (by decide) (by decide) ?_
  rw [h31.1.1]
  have h32 := h31.new (100 + 3) 3 214 rfl
  generalize nM M31 (100 + 3) 3 = M32 at h32 ⊢
  refine AW.re (bc' := 45) (bs' := 13269) (pc' := 882) rfl rfl rfl ?_
  refine C.dup dX13_init_882 rfl ?_
  refine C.iconst (nI 0) dX13_init_883 (by decide) ?_
  refine C.bipush (nI 109) dX13_init_884 (by decide) ?_
  refine C.cast (h32.a (t := 3) (.head _)) (n_in (by decide)) dX13_init_886 ?_
  have h33 := h32.ch 213 0 109 (by decide) (by unfold e3; omega) (by decide) (by decide)
  generalize sI M32 213 (nI 0).toNatClampNeg (vp_nar .char (nI 109)) = M33 at h33 ⊢
  refine AW.re (bc' := 45) (bs' := 13269) (pc' := 887) rfl rfl rfl ?_
  refine C.dup dX13_init_887 rfl ?_
  refine C.iconst (nI 1) dX13_init_888 (by decide) ?_
  refine C.bipush (nI 105) dX13_init_889 (by decide) ?_
  refine C.cast (h33.a (t := 3) (.head _)) (n_in (by decide)) dX13_init_891 ?_
  have h34 := h33.ch 213 1 105 (by decide) (by unfold e3; omega) (by decide) (by decide)
  generalize sI M33 213 (nI 1).toNatClampNeg (vp_nar .char (nI 105)) = M34 at h34 ⊢
  refine AW.re (bc' := 45) (bs' := 13269) (pc' := 892) rfl rfl rfl ?_
  refine C.dup dX13_init_892 rfl ?_
  refine C.iconst (nI 2) dX13_init_893 (by decide) ?_
  refine C.bipush (nI 110) dX13_init_894 (by decide) ?_
  refine C.cast (h34.a (t := 3) (.head _)) (n_in (by decide)) dX13_init_896 ?_
  have h35 := h34.ch 213 2 110 (by decide) (by unfold e3; omega) (by decide) (by decide)
  generalize sI M34 213 (nI 2).toNatClampNeg (vp_nar .char (nI 110)) = M35 at h35 ⊢
  refine AW.re (bc' := 45) (bs' := 13269) (pc' := 897) rfl rfl rfl ?_
  refine C.putA fX13_114 (Or.inr ⟨hnm, rfl⟩) dX13_init_897 (h35.o (c := 13) (.tail _ (.tail _ (.tail _ (.tail _ (.tail _ (.tail _ (.tail _ rmm2)))))))) ?_
  have h36 := h35.putR 179 42 213 (by decide) (by unfold e3; omega) (by decide +kernel)
  generalize sR M35 179 42 (some 213) = M36 at h36 ⊢
  refine AW.re (bc' := 45) (bs' := 13269) (pc' := 900) rfl rfl rfl ?_
  refine C.aload_n dX13_init_900 0 rfl ?_
  refine C.iconst (nI 3) dX13_init_901 (by decide) ?_
  refine C.newa (t := 3) (by decide) rfl ac_char dX13_init_902 rfl (by decide) (by decide) (by decide) ?_
  rw [h36.1.1]
  have h37 := h36.new (100 + 3) 3 215 rfl
  generalize nM M36 (100 + 3) 3 = M37 at h37 ⊢
  refine AW.re (bc' := 44) (bs' := 13266) (pc' := 904) rfl rfl rfl ?_
  refine C.dup dX13_init_904 rfl ?_
  refine C.iconst (nI 0) dX13_init_905 (by decide) ?_
  refine C.bipush (nI 109) dX13_init_906 (by decide) ?_
  refine C.cast (h37.a (t := 3) (.head _)) (n_in (by decide)) dX13_init_908 ?_
  have h38 := h37.ch 214 0 109 (by decide) (by unfold e3; omega) (by decide) (by decide)
  generalize sI M37 214 (nI 0).toNatClampNeg (vp_nar .char (nI 109)) = M38 at h38 ⊢
  refine AW.re (bc' := 44) (bs' := 13266) (pc' := 909) rfl rfl rfl ?_
  refine C.dup dX13_init_909 rfl ?_
  refine C.iconst (nI 1) dX13_init_910 (by decide) ?_
  refine C.bipush (nI 97) dX13_init_911 (by decide) ?_
  refine C.cast (h38.a (t := 3) (.head _)) (n_in (by decide)) dX13_init_913 ?_
  have h39 := h38.ch 214 1 97 (by decide) (by unfold e3; omega) (by decide) (by decide)
  generalize sI M38 214 (nI 1).toNatClampNeg (vp_nar .char (nI 97)) = M39 at h39 ⊢
  refine AW.re (bc' := 44) (bs' := 13266) (pc' := 914) rfl rfl rfl ?_
  refine C.dup dX13_init_914 rfl ?_
  refine C.iconst (nI 2) dX13_init_915 (by decide) ?_
  refine C.bipush (nI 120) dX13_init_916 (by decide) ?_
  refine C.cast (h39.a (t := 3) (.head _)) (n_in (by decide)) dX13_init_918 ?_
  have h40 := h39.ch 214 2 120 (by decide) (by unfold e3; omega) (by decide) (by decide)
  generalize sI M39 214 (nI 2).toNatClampNeg (vp_nar .char (nI 120)) = M40 at h40 ⊢
  refine AW.re (bc' := 44) (bs' := 13266) (pc' := 919) rfl rfl rfl ?_
  refine C.putA fX13_117 (Or.inr ⟨hnm, rfl⟩) dX13_init_919 (h40.o (c := 13) (.tail _ (.tail _ (.tail _ (.tail _ (.tail _ (.tail _ (.tail _ (.tail _ rmm2))))))))) ?_
  have h41 := h40.putR 179 43 214 (by decide) (by unfold e3; omega) (by decide +kernel)
  generalize sR M40 179 43 (some 214) = M41 at h41 ⊢
  refine AW.re (bc' := 44) (bs' := 13266) (pc' := 922) rfl rfl rfl ?_
  refine C.aload_n dX13_init_922 0 rfl ?_
  refine C.bipush (nI 6) dX13_init_923 (by decide) ?_
  refine C.newa (t := 0) (by decide) rfl ac_int dX13_init_925 rfl (by decide) (by decide) (by decide) ?_
  rw [h41.1.1]
  have h42 := h41.new (100 + 0) 6 216 rfl
  generalize nM M41 (100 + 0) 6 = M42 at h42 ⊢
  refine AW.re (bc' := 43) (bs' := 13260) (pc' := 927) rfl rfl rfl ?_
  refine C.putA fX13_120 (Or.inr ⟨hnm, rfl⟩) dX13_init_927 (h42.o (c := 13) (.tail _ (.tail _ (.tail _ (.tail _ (.tail _ (.tail _ (.tail _ (.tail _ (.tail _ rmm2)))))))))) ?_
  have h43 := h42.putR 179 45 215 (by decide) (by unfold e3; omega) (by decide +kernel)
  generalize sR M42 179 45 (some 215) = M43 at h43 ⊢
  refine AW.re (bc' := 43) (bs' := 13260) (pc' := 930) rfl rfl rfl ?_
  refine C.aload_n dX13_init_930 0 rfl ?_
  refine C.bipush (nI 6) dX13_init_931 (by decide) ?_
  refine C.newa (t := 0) (by decide) rfl ac_int dX13_init_933 rfl (by decide) (by decide) (by decide) ?_
  rw [h43.1.1]
  have h44 := h43.new (100 + 0) 6 217 rfl
  generalize nM M43 (100 + 0) 6 = M44 at h44 ⊢
  refine AW.re (bc' := 42) (bs' := 13254) (pc' := 935) rfl rfl rfl ?_
  refine C.putA fX13_123 (Or.inr ⟨hnm, rfl⟩) dX13_init_935 (h44.o (c := 13) (.tail _ (.tail _ (.tail _ (.tail _ (.tail _ (.tail _ (.tail _ (.tail _ (.tail _ (.tail _ rmm2))))))))))) ?_
  have h45 := h44.putR 179 46 216 (by decide) (by unfold e3; omega) (by decide +kernel)
  generalize sR M44 179 46 (some 216) = M45 at h45 ⊢
  refine AW.re (bc' := 42) (bs' := 13254) (pc' := 938) rfl rfl rfl ?_
  refine C.aload_n dX13_init_938 0 rfl ?_
  refine C.bipush (nI 24) dX13_init_939 (by decide) ?_
  refine C.newa (t := 1) (by decide) rfl ac_long dX13_init_941 rfl (by decide) (by decide) (by decide) ?_
  rw [h45.1.1]
  have h46 := h45.new (100 + 1) 24 218 rfl
  generalize nM M45 (100 + 1) 24 = M46 at h46 ⊢
  refine AW.re (bc' := 41) (bs' := 13230) (pc' := 943) rfl rfl rfl ?_
  refine C.putA fX13_126 (Or.inr ⟨hnm, rfl⟩) dX13_init_943 (h46.o (c := 13) (.tail _ (.tail _ (.tail _ (.tail _ (.tail _ (.tail _ (.tail _ (.tail _ (.tail _ (.tail _ (.tail _ rmm2)))))))))))) ?_
  have h47 := h46.putR 179 47 217 (by decide) (by unfold e3; omega) (by decide +kernel)
  generalize sR M46 179 47 (some 217) = M47 at h47 ⊢
  refine AW.re (bc' := 41) (bs' := 13230) (pc' := 946) rfl rfl rfl ?_
  refine C.aload_n dX13_init_946 0 rfl ?_
  refine C.bipush (nI 20) dX13_init_947 (by decide) ?_
  refine C.newa (t := 0) (by decide) rfl ac_int dX13_init_949 rfl (by decide) (by decide) (by decide) ?_
  rw [h47.1.1]
  have h48 := h47.new (100 + 0) 20 219 rfl
  generalize nM M47 (100 + 0) 20 = M48 at h48 ⊢
  refine AW.re (bc' := 40) (bs' := 13210) (pc' := 951) rfl rfl rfl ?_
  refine C.putA fX13_130 (Or.inr ⟨hnm, rfl⟩) dX13_init_951 (h48.o (c := 13) (.tail _ (.tail _ (.tail _ (.tail _ (.tail _ (.tail _ (.tail _ (.tail _ (.tail _ (.tail _ (.tail _ (.tail _ rmm2))))))))))))) ?_
  have h49 := h48.putR 179 48 218 (by decide) (by unfold e3; omega) (by decide +kernel)
  generalize sR M48 179 48 (some 218) = M49 at h49 ⊢
  refine AW.re (bc' := 40) (bs' := 13210) (pc' := 954) rfl rfl rfl ?_
  refine C.aload_n dX13_init_954 0 rfl ?_
  refine C.bipush (nI 20) dX13_init_955 (by decide) ?_
  refine C.newa (t := 0) (by decide) rfl ac_int dX13_init_957 rfl (by decide) (by decide) (by decide) ?_
  rw [h49.1.1]
  have h50 := h49.new (100 + 0) 20 220 rfl
  generalize nM M49 (100 + 0) 20 = M50 at h50 ⊢
  refine AW.re (bc' := 39) (bs' := 13190) (pc' := 959) rfl rfl rfl ?_
  refine C.putA fX13_133 (Or.inr ⟨hnm, rfl⟩) dX13_init_959 (h50.o (c := 13) (.tail _ (.tail _ (.tail _ (.tail _ (.tail _ (.tail _ (.tail _ (.tail _ (.tail _ (.tail _ (.tail _ (.tail _ (.tail _ rmm2)))))))))))))) ?_
  have h51 := h50.putR 179 49 219 (by decide) (by unfold e3; omega) (by decide +kernel)
  generalize sR M50 179 49 (some 219) = M51 at h51 ⊢
  refine AW.re (bc' := 39) (bs' := 13190) (pc' := 962) rfl rfl rfl ?_
  refine C.aload_n dX13_init_962 0 rfl ?_
  refine C.bipush (nI 60) dX13_init_963 (by decide) ?_
  refine C.newa (t := 0) (by decide) rfl ac_int dX13_init_965 rfl (by decide) (by decide) (by decide) ?_
  rw [h51.1.1]
  have h52 := h51.new (100 + 0) 60 221 rfl
  generalize nM M51 (100 + 0) 60 = M52 at h52 ⊢
  refine AW.re (bc' := 38) (bs' := 13130) (pc' := 967) rfl rfl rfl ?_
  refine C.putA fX13_136 (Or.inr ⟨hnm, rfl⟩) dX13_init_967 (h52.o (c := 13) (.tail _ (.tail _ (.tail _ (.tail _ (.tail _ (.tail _ (.tail _ (.tail _ (.tail _ (.tail _ (.tail _ (.tail _ (.tail _ (.tail _ rmm2))))))))))))))) ?_
  have h53 := h52.putR 179 50 220 (by decide) (by unfold e3; omega) (by decide +kernel)
  generalize sR M52 179 50 (some 220) = M53 at h53 ⊢
  refine AW.re (bc' := 38) (bs' := 13130) (pc' := 970) rfl rfl rfl ?_
  exact k M53 h53
def rK4 : List (Nat × Nat × Nat) := (232, 100, 3740) :: (231, 100, 588) :: (230, 100, 24) :: (229, 104, 98) :: (228, 100, 12) :: (227, 100, 6) :: (226, 100, 26) :: (225, 100, 187) :: (224, 100, 3200) :: (223, 100, 6) :: (222, 100, 6) :: (221, 100, 6) :: rK3
def rR4 : List (Nat × Nat × Nat) := (179, 75, 232) :: (179, 74, 231) :: (179, 73, 230) :: (179, 71, 229) :: (179, 65, 228) :: (179, 64, 227) :: (179, 60, 226) :: (179, 59, 225) :: (179, 54, 224) :: (179, 53, 223) :: (179, 52, 222) :: (179, 51, 221) :: rR3
def rV4 : List (Nat × Nat × Int32) := (179, 66, (-1)) :: (222, 5, (-1)) :: (222, 4, (-1)) :: (222, 3, (-1)) :: (222, 2, (-1)) :: (222, 1, (-1)) :: (222, 0, (-1)) :: (221, 5, (nI 0)) :: (221, 4, (nI 20)) :: (221, 3, (nI 12)) :: (221, 2, (nI 0)) :: (221, 1, (nI 20)) :: (221, 0, (nI 12)) :: rV3
theorem rmm4 : (179, 13, nF 13) ∈ rK4 := by decide +kernel
theorem kri4 {M : Mm} (C : Cok l G X mtX13_init.2.1 mtX13_init.1.cls 1 mtX13_init.2.2.2) (hnm : X.2.1.2.2.2.1.name = mtX13_init.1.name) (h : Mk Z e3 221 rK3 rR3 rV3 M) (k : (∀ M, Mk Z e3 233 rK4 rR4 rV4 M → mL M 179 78 = lN 1 → AW l G X 26 5231 1132 [(0, .ref (G.1 + 179))] [] M)) : AW l G X 38 13130 970 [(0, .ref (G.1 + 179))] [] M := by
  refine C.aload_n dX13_init_970 0 rfl ?_
  refine C.bipush (nI 6) dX13_init_971 (by decide) ?_
  refine C.newa (t := 0) (by decide) rfl ac_int dX13_init_973 rfl (by decide) (by decide) (by decide) ?_
  rw [h.1.1]
  have h1 := h.new (100 + 0) 6 222 rfl
  generalize nM M (100 + 0) 6 = M1 at h1 ⊢
  refine AW.re (bc' := 37) (bs' := 13124) (pc' := 975) rfl rfl rfl ?_
  refine C.dup dX13_init_975 rfl ?_
  refine C.iconst (nI 0) dX13_init_976 (by decide) ?_
  refine C.bipush (nI 12) dX13_init_977 (by decide) ?_
  refine C.iast (h1.a (t := 0) (.head _)) (n_in (by decide)) dX13_init_979 ?_
  have h2 := h1.ii 221 0 (nI 12) (by decide) (by unfold e3; omega) (by decide)
  generalize sI M1 221 (nI 0).toNatClampNeg (nI 12) = M2 at h2 ⊢
  refine AW.re (bc' := 37) (bs' := 13124) (pc' := 980) rfl rfl rfl ?_
  refine C.dup dX13_init_980 rfl ?_
  refine C.iconst (nI 1) dX13_init_981 (by decide) ?_
  refine C.bipush (nI 20) dX13_init_982 (by decide) ?_
  refine C.iast (h2.a (t := 0) (.head _)) (n_in (by decide)) dX13_init_984 ?_
  have h3 := h2.ii 221 1 (nI 20) (by decide) (by unfold e3; omega) (by decide)
  generalize sI M2 221 (nI 1).toNatClampNeg (nI 20) = M3 at h3 ⊢
  refine AW.re (bc' := 37) (bs' := 13124) (pc' := 985) rfl rfl rfl ?_
  refine C.dup dX13_init_985 rfl ?_
  refine C.iconst (nI 2) dX13_init_986 (by decide) ?_
  refine C.iconst (nI 0) dX13_init_987 (by decide) ?_
  refine C.iast (h3.a (t := 0) (.head _)) (n_in (by decide)) dX13_init_988 ?_
  have h4 := h3.ii 221 2 (nI 0) (by decide) (by unfold e3; omega) (by decide)
  generalize sI M3 221 (nI 2).toNatClampNeg (nI 0) = M4 at h4 ⊢
  refine AW.re (bc' := 37) (bs' := 13124) (pc' := 989) rfl rfl rfl ?_
  refine C.dup dX13_init_989 rfl ?_
  refine C.iconst (nI 3) dX13_init_990 (by decide) ?_
  refine C.bipush (nI 12) dX13_init_991 (by decide) ?_
  refine C.iast (h4.a (t := 0) (.head _)) (n_in (by decide)) dX13_init_993 ?_
  have h5 := h4.ii 221 3 (nI 12) (by decide) (by unfold e3; omega) (by decide)
  generalize sI M4 221 (nI 3).toNatClampNeg (nI 12) = M5 at h5 ⊢
  refine AW.re (bc' := 37) (bs' := 13124) (pc' := 994) rfl rfl rfl ?_
  refine C.dup dX13_init_994 rfl ?_
  refine C.iconst (nI 4) dX13_init_995 (by decide) ?_
  refine C.bipush (nI 20) dX13_init_996 (by decide) ?_
  refine C.iast (h5.a (t := 0) (.head _)) (n_in (by decide)) dX13_init_998 ?_
  have h6 := h5.ii 221 4 (nI 20) (by decide) (by unfold e3; omega) (by decide)
  generalize sI M5 221 (nI 4).toNatClampNeg (nI 20) = M6 at h6 ⊢
  refine AW.re (bc' := 37) (bs' := 13124) (pc' := 999) rfl rfl rfl ?_
  refine C.dup dX13_init_999 rfl ?_
  refine C.iconst (nI 5) dX13_init_1000 (by decide) ?_
  refine C.iconst (nI 0) dX13_init_1001 (by decide) ?_
  refine C.iast (h6.a (t := 0) (.head _)) (n_in (by decide)) dX13_init_1002 ?_
  have h7 := h6.ii 221 5 (nI 0) (by decide) (by unfold e3; omega) (by decide)
  generalize sI M6 221 (nI 5).toNatClampNeg (nI 0) = M7 at h7 ⊢
  refine AW.re (bc' := 37) (bs' := 13124) (pc' := 1003) rfl rfl rfl ?_
  refine C.putA fX13_139 (Or.inr ⟨hnm, rfl⟩) dX13_init_1003 (h7.o (c := 13) (.tail _ rmm3)) ?_
  have h8 := h7.putR 179 51 221 (by decide) (by unfold e3; omega) (by decide +kernel)
  generalize sR M7 179 51 (some 221) = M8 at h8 ⊢
  refine AW.re (bc' := 37) (bs' := 13124) (pc' := 1006) rfl rfl rfl ?_
  refine C.aload_n dX13_init_1006 0 rfl ?_
  refine C.bipush (nI 6) dX13_init_1007 (by decide) ?_
  refine C.newa (t := 0) (by decide) rfl ac_int dX13_init_1009 rfl (by decide) (by decide) (by decide) ?_
  rw [h8.1.1]
  have h9 := h8.new (100 + 0) 6 223 rfl
  generalize nM M8 (100 + 0) 6 = M9 at h9 ⊢
  refine AW.re (bc' := 36) (bs' := 13118) (pc' := 1011) rfl rfl rfl ?_
  refine C.dup dX13_init_1011 rfl ?_
  refine C.iconst (nI 0) dX13_init_1012 (by decide) ?_
  refine C.iconst (-1) dX13_init_1013 (by decide) ?_
  refine C.iast (h9.a (t := 0) (.head _)) (n_in (by decide)) dX13_init_1014 ?_
  have h10 := h9.ii 222 0 (-1) (by decide) (by unfold e3; omega) (by decide)
  generalize sI M9 222 (nI 0).toNatClampNeg (-1) = M10 at h10 ⊢
  refine AW.re (bc' := 36) (bs' := 13118) (pc' := 1015) rfl rfl rfl ?_
  refine C.dup dX13_init_1015 rfl ?_
  refine C.iconst (nI 1) dX13_init_1016 (by decide) ?_
  refine C.iconst (-1) dX13_init_1017 (by decide) ?_
  refine C.iast (h10.a (t := 0) (.head _)) (n_in (by decide)) dX13_init_1018 ?_
  have h11 := h10.ii 222 1 (-1) (by decide) (by unfold e3; omega) (by decide)
  generalize sI M10 222 (nI 1).toNatClampNeg (-1) = M11 at h11 ⊢
  refine AW.re (bc' := 36) (bs' := 13118) (pc' := 1019) rfl rfl rfl ?_
  refine C.dup dX13_init_1019 rfl ?_
  refine C.iconst (nI 2) dX13_init_1020 (by decide) ?_
  refine C.iconst (-1) dX13_init_1021 (by decide) ?_
  refine C.iast (h11.a (t := 0) (.head _)) (n_in (by decide)) dX13_init_1022 ?_
  have h12 := h11.ii 222 2 (-1) (by decide) (by unfold e3; omega) (by decide)
  generalize sI M11 222 (nI 2).toNatClampNeg (-1) = M12 at h12 ⊢
  refine AW.re (bc' := 36) (bs' := 13118) (pc' := 1023) rfl rfl rfl ?_
  refine C.dup dX13_init_1023 rfl ?_
  refine C.iconst (nI 3) dX13_init_1024 (by decide) ?_
  refine C.iconst (-1) dX13_init_1025 (by decide) ?_
  refine C.iast (h12.a (t := 0) (.head _)) (n_in (by decide)) dX13_init_1026 ?_
  have h13 := h12.ii 222 3 (-1) (by decide) (by unfold e3; omega) (by decide)
  generalize sI M12 222 (nI 3).toNatClampNeg (-1) = M13 at h13 ⊢
  refine AW.re (bc' := 36) (bs' := 13118) (pc' := 1027) rfl rfl rfl ?_
  refine C.dup dX13_init_1027 rfl ?_
  refine C.iconst (nI 4) dX13_init_1028 (by decide) ?_
  refine C.iconst (-1) dX13_init_1029 (by decide) ?_
  refine C.iast (h13.a (t := 0) (.head _)) (n_in (by decide)) dX13_init_1030 ?_
  have h14 := h13.ii 222 4 (-1) (by decide) (by unfold e3; omega) (by decide)
  generalize sI M13 222 (nI 4).toNatClampNeg (-1) = M14 at h14 ⊢
  refine AW.re (bc' := 36) (bs' := 13118) (pc' := 1031) rfl rfl rfl ?_
  refine C.dup dX13_init_1031 rfl ?_
  refine C.iconst (nI 5) dX13_init_1032 (by decide) ?_
  refine C.iconst (-1) dX13_init_1033 (by decide) ?_
  refine C.iast (h14.a (t := 0) (.head _)) (n_in (by decide)) dX13_init_1034 ?_
  have h15 := h14.ii 222 5 (-1) (by decide) (by unfold e3; omega) (by decide)
  generalize sI M14 222 (nI 5).toNatClampNeg (-1) = M15 at h15 ⊢
  refine AW.re (bc' := 36) (bs' := 13118) (pc' := 1035) rfl rfl rfl ?_
  refine C.putA fX13_142 (Or.inr ⟨hnm, rfl⟩) dX13_init_1035 (h15.o (c := 13) (.tail _ (.tail _ rmm3))) ?_
  have h16 := h15.putR 179 52 222 (by decide) (by unfold e3; omega) (by decide +kernel)
  generalize sR M15 179 52 (some 222) = M16 at h16 ⊢
  refine AW.re (bc' := 36) (bs' := 13118) (pc' := 1038) rfl rfl rfl ?_
  refine C.aload_n dX13_init_1038 0 rfl ?_
  refine C.bipush (nI 6) dX13_init_1039 (by decide) ?_
  refine C.newa (t := 0) (by decide) rfl ac_int dX13_init_1041 rfl (by decide) (by decide) (by decide) ?_
  rw [h16.1.1]
  have h17 := h16.new (100 + 0) 6 224 rfl
  generalize nM M16 (100 + 0) 6 = M17 at h17 ⊢
  refine AW.re (bc' := 35) (bs' := 13112) (pc' := 1043) rfl rfl rfl ?_
  refine C.putA fX13_145 (Or.inr ⟨hnm, rfl⟩) dX13_init_1043 (h17.o (c := 13) (.tail _ (.tail _ (.tail _ rmm3)))) ?_
  have h18 := h17.putR 179 53 223 (by decide) (by unfold e3; omega) (by decide +kernel)
  generalize sR M17 179 53 (some 223) = M18 at h18 ⊢
  refine AW.re (bc' := 35) (bs' := 13112) (pc' := 1046) rfl rfl rfl ?_
  refine C.aload_n dX13_init_1046 0 rfl ?_
  refine C.sipush (nI 3200) dX13_init_1047 (by decide) ?_
  refine C.newa (t := 0) (by decide) rfl ac_int dX13_init_1050 rfl (by decide) (by decide) (by decide) ?_
  rw [h18.1.1]
  have h19 := h18.new (100 + 0) 3200 225 rfl
  generalize nM M18 (100 + 0) 3200 = M19 at h19 ⊢
  refine AW.re (bc' := 34) (bs' := 9912) (pc' := 1052) rfl rfl rfl ?_
  refine C.putA fX13_148 (Or.inr ⟨hnm, rfl⟩) dX13_init_1052 (h19.o (c := 13) (.tail _ (.tail _ (.tail _ (.tail _ rmm3))))) ?_
  have h20 := h19.putR 179 54 224 (by decide) (by unfold e3; omega) (by decide +kernel)
  generalize sR M19 179 54 (some 224) = M20 at h20 ⊢
  refine AW.re (bc' := 34) (bs' := 9912) (pc' := 1055) rfl rfl rfl ?_
  refine C.aload_n dX13_init_1055 0 rfl ?_
  refine C.sipush (nI 187) dX13_init_1056 (by decide) ?_
  refine C.newa (t := 0) (by decide) rfl ac_int dX13_init_1059 rfl (by decide) (by decide) (by decide) ?_
  rw [h20.1.1]
  have h21 := h20.new (100 + 0) 187 226 rfl
  generalize nM M20 (100 + 0) 187 = M21 at h21 ⊢
  refine AW.re (bc' := 33) (bs' := 9725) (pc' := 1061) rfl rfl rfl ?_
  refine C.putA fX13_151 (Or.inr ⟨hnm, rfl⟩) dX13_init_1061 (h21.o (c := 13) (.tail _ (.tail _ (.tail _ (.tail _ (.tail _ rmm3)))))) ?_
  have h22 := h21.putR 179 59 225 (by decide) (by unfold e3; omega) (by decide +kernel)
  generalize sR M21 179 59 (some 225) = M22 at h22 ⊢
  refine AW.re (bc' := 33) (bs' := 9725) (pc' := 1064) rfl rfl rfl ?_
  refine C.aload_n dX13_init_1064 0 rfl ?_
  refine C.bipush (nI 26) dX13_init_1065 (by decide) ?_
  refine C.newa (t := 0) (by decide) rfl ac_int dX13_init_1067 rfl (by decide) (by decide) (by decide) ?_
  rw [h22.1.1]
  have h23 := h22.new (100 + 0) 26 227 rfl
  generalize nM M22 (100 + 0) 26 = M23 at h23 ⊢
  refine AW.re (bc' := 32) (bs' := 9699) (pc' := 1069) rfl rfl rfl ?_
  refine C.putA fX13_154 (Or.inr ⟨hnm, rfl⟩) dX13_init_1069 (h23.o (c := 13) (.tail _ (.tail _ (.tail _ (.tail _ (.tail _ (.tail _ rmm3))))))) ?_
  have h24 := h23.putR 179 60 226 (by decide) (by unfold e3; omega) (by decide +kernel)
  generalize sR M23 179 60 (some 226) = M24 at h24 ⊢
  refine AW.re (bc' := 32) (bs' := 9699) (pc' := 1072) rfl rfl rfl ?_
  refine C.aload_n dX13_init_1072 0 rfl ?_
  refine C.bipush (nI 6) dX13_init_1073 (by decide) ?_
  refine C.newa (t := 0) (by decide) rfl ac_int dX13_init_1075 rfl (by decide) (by decide) (by decide) ?_
  rw [h24.1.1]
  have h25 := h24.new (100 + 0) 6 228 rfl
  generalize nM M24 (100 + 0) 6 = M25 at h25 ⊢
  refine AW.re (bc' := 31) (bs' := 9693) (pc' := 1077) rfl rfl rfl ?_
  refine C.putA fX13_157 (Or.inr ⟨hnm, rfl⟩) dX13_init_1077 (h25.o (c := 13) (.tail _ (.tail _ (.tail _ (.tail _ (.tail _ (.tail _ (.tail _ rmm3)))))))) ?_
  have h26 := h25.putR 179 64 227 (by decide) (by unfold e3; omega) (by decide +kernel)
  generalize sR M25 179 64 (some 227) = M26 at h26 ⊢
  refine AW.re (bc' := 31) (bs' := 9693) (pc' := 1080) rfl rfl rfl ?_
  refine C.aload_n dX13_init_1080 0 rfl ?_
  refine C.bipush (nI 12) dX13_init_1081 (by decide) ?_
  refine C.newa (t := 0) (by decide) rfl ac_int dX13_init_1083 rfl (by decide) (by decide) (by decide) ?_
  rw [h26.1.1]
  have h27 := h26.new (100 + 0) 12 229 rfl
  generalize nM M26 (100 + 0) 12 = M27 at h27 ⊢
  refine AW.re (bc' := 30) (bs' := 9681) (pc' := 1085) rfl rfl rfl ?_
  refine C.putA fX13_160 (Or.inr ⟨hnm, rfl⟩) dX13_init_1085 (h27.o (c := 13) (.tail _ (.tail _ (.tail _ (.tail _ (.tail _ (.tail _ (.tail _ (.tail _ rmm3))))))))) ?_
  have h28 := h27.putR 179 65 228 (by decide) (by unfold e3; omega) (by decide +kernel)
  generalize sR M27 179 65 (some 228) = M28 at h28 ⊢
  refine AW.re (bc' := 30) (bs' := 9681) (pc' := 1088) rfl rfl rfl ?_
  refine C.aload_n dX13_init_1088 0 rfl ?_
  refine C.iconst (-1) dX13_init_1089 (by decide) ?_
  refine C.putI fX13_163 (Or.inl rfl) dX13_init_1090 (h28.o (c := 13) (.tail _ (.tail _ (.tail _ (.tail _ (.tail _ (.tail _ (.tail _ (.tail _ rmm3))))))))) ?_
  have h29 := h28.putI 179 66 (-1) (by decide) (by unfold e3; omega)
  generalize sI M28 179 66 (-1) = M29 at h29 ⊢
  refine AW.re (bc' := 30) (bs' := 9681) (pc' := 1093) rfl rfl rfl ?_
  refine C.aload_n dX13_init_1093 0 rfl ?_
  refine C.bipush (nI 98) dX13_init_1094 (by decide) ?_
  refine C.newa (t := 4) (by decide) rfl ac_boolean dX13_init_1096 rfl (by decide) (by decide) (by decide) ?_
  rw [h29.1.1]
  have h30 := h29.new (100 + 4) 98 230 rfl
  generalize nM M29 (100 + 4) 98 = M30 at h30 ⊢
  refine AW.re (bc' := 29) (bs' := 9583) (pc' := 1098) rfl rfl rfl ?_
  refine C.putA fX13_166 (Or.inr ⟨hnm, rfl⟩) dX13_init_1098 (h30.o (c := 13) (.tail _ (.tail _ (.tail _ (.tail _ (.tail _ (.tail _ (.tail _ (.tail _ (.tail _ rmm3)))))))))) ?_
  have h31 := h30.putR 179 71 229 (by decide) (by unfold e3; omega) (by decide +kernel)
  generalize sR M30 179 71 (some 229) = M31 at h31 ⊢
  refine AW.re (bc' := 29) (bs' := 9583) (pc' := 1101) rfl rfl rfl ?_
  refine C.aload_n dX13_init_1101 0 rfl ?_
  refine C.bipush (nI 24) dX13_init_1102 (by decide) ?_
  refine C.newa (t := 0) (by decide) rfl ac_int dX13_init_1104 rfl (by decide) (by decide) (by decide) ?_
  rw [h31.1.1]
  have h32 := h31.new (100 + 0) 24 231 rfl
  generalize nM M31 (100 + 0) 24 = M32 at h32 ⊢
  refine AW.re (bc' := 28) (bs' := 9559) (pc' := 1106) rfl rfl rfl ?_
  refine C.putA fX13_170 (Or.inr ⟨hnm, rfl⟩) dX13_init_1106 (h32.o (c := 13) (.tail _ (.tail _ (.tail _ (.tail _ (.tail _ (.tail _ (.tail _ (.tail _ (.tail _ (.tail _ rmm3))))))))))) ?_
  have h33 := h32.putR 179 73 230 (by decide) (by unfold e3; omega) (by decide +kernel)
  generalize sR M32 179 73 (some 230) = M33 at h33 ⊢
  refine AW.re (bc' := 28) (bs' := 9559) (pc' := 1109) rfl rfl rfl ?_
  refine C.aload_n dX13_init_1109 0 rfl ?_
  refine C.sipush (nI 588) dX13_init_1110 (by decide) ?_
  refine C.newa (t := 0) (by decide) rfl ac_int dX13_init_1113 rfl (by decide) (by decide) (by decide) ?_
  rw [h33.1.1]
  have h34 := h33.new (100 + 0) 588 232 rfl
  generalize nM M33 (100 + 0) 588 = M34 at h34 ⊢
  refine AW.re (bc' := 27) (bs' := 8971) (pc' := 1115) rfl rfl rfl ?_
  refine C.putA fX13_173 (Or.inr ⟨hnm, rfl⟩) dX13_init_1115 (h34.o (c := 13) (.tail _ (.tail _ (.tail _ (.tail _ (.tail _ (.tail _ (.tail _ (.tail _ (.tail _ (.tail _ (.tail _ rmm3)))))))))))) ?_
  have h35 := h34.putR 179 74 231 (by decide) (by unfold e3; omega) (by decide +kernel)
  generalize sR M34 179 74 (some 231) = M35 at h35 ⊢
  refine AW.re (bc' := 27) (bs' := 8971) (pc' := 1118) rfl rfl rfl ?_
  refine C.aload_n dX13_init_1118 0 rfl ?_
  refine C.sipush (nI 3740) dX13_init_1119 (by decide) ?_
  refine C.newa (t := 0) (by decide) rfl ac_int dX13_init_1122 rfl (by decide) (by decide) (by decide) ?_
  rw [h35.1.1]
  have h36 := h35.new (100 + 0) 3740 233 rfl
  generalize nM M35 (100 + 0) 3740 = M36 at h36 ⊢
  refine AW.re (bc' := 26) (bs' := 5231) (pc' := 1124) rfl rfl rfl ?_
  refine C.putA fX13_176 (Or.inr ⟨hnm, rfl⟩) dX13_init_1124 (h36.o (c := 13) (.tail _ (.tail _ (.tail _ (.tail _ (.tail _ (.tail _ (.tail _ (.tail _ (.tail _ (.tail _ (.tail _ (.tail _ rmm3))))))))))))) ?_
  have h37 := h36.putR 179 75 232 (by decide) (by unfold e3; omega) (by decide +kernel)
  generalize sR M36 179 75 (some 232) = M37 at h37 ⊢
  refine AW.re (bc' := 26) (bs' := 5231) (pc' := 1127) rfl rfl rfl ?_
  refine C.aload_n dX13_init_1127 0 rfl ?_
  refine C.lconst (lN 1) dX13_init_1128 (by decide) ?_
  refine C.putL fX13_179 (Or.inl rfl) dX13_init_1129 (h37.o (c := 13) (.tail _ (.tail _ (.tail _ (.tail _ (.tail _ (.tail _ (.tail _ (.tail _ (.tail _ (.tail _ (.tail _ (.tail _ rmm3))))))))))))) ?_
  have h38 := h37.putL (lN 1) (by unfold e3; omega)
  have s38 : mL (sL M37 179 78 (lN 1)) 179 78 = lN 1 := by rw [mL_sL, if_pos ⟨rfl, rfl⟩]
  generalize sL M37 179 78 (lN 1) = M38 at h38 s38 ⊢
  refine AW.re (bc' := 26) (bs' := 5231) (pc' := 1132) rfl rfl rfl ?_
  exact k M38 h38 s38
def rK5 : List (Nat × Nat × Nat) := (246, 103, 5) :: (245, 103, 4) :: (244, 103, 3) :: (243, 103, 3) :: (242, 103, 3) :: (241, 103, 2) :: (240, 103, 3) :: (239, 103, 3) :: (238, 103, 5) :: (237, 103, 4) :: (236, 103, 5) :: (235, 103, 5) :: (234, 103, 4) :: (233, 103, 5) :: rK4
def rR5 : List (Nat × Nat × Nat) := (179, 92, 246) :: (179, 91, 245) :: (179, 90, 244) :: (179, 89, 243) :: (179, 88, 242) :: (179, 87, 241) :: (179, 86, 240) :: (179, 85, 239) :: (179, 84, 238) :: (179, 83, 237) :: (179, 82, 236) :: (179, 81, 235) :: (179, 80, 234) :: (179, 79, 233) :: rR4
def rV5 : List (Nat × Nat × Int32) := (246, 4, nI 116) :: (246, 3, nI 104) :: (246, 2, nI 103) :: (246, 1, nI 105) :: (246, 0, nI 110) :: (245, 3, nI 114) :: (245, 2, nI 117) :: (245, 1, nI 111) :: (245, 0, nI 104) :: (244, 2, nI 120) :: (244, 1, nI 97) :: (244, 0, nI 109) :: (243, 2, nI 110) :: (243, 1, nI 105) :: (243, 0, nI 109) :: (242, 2, nI 108) :: (242, 1, nI 108) :: (242, 0, nI 97) :: (241, 1, nI 114) :: (241, 0, nI 111) :: (240, 2, nI 100) :: (240, 1, nI 110) :: (240, 0, nI 97) :: (239, 2, nI 116) :: (239, 1, nI 111) :: (239, 0, nI 110) :: (238, 4, nI 116) :: (238, 3, nI 115) :: (238, 2, nI 97) :: (238, 1, nI 101) :: (238, 0, nI 108) :: (237, 3, nI 116) :: (237, 2, nI 115) :: (237, 1, nI 111) :: (237, 0, nI 109) :: (236, 4, nI 108) :: (236, 3, nI 97) :: (236, 2, nI 116) :: (236, 1, nI 111) :: (236, 0, nI 116) :: (235, 4, nI 110) :: (235, 3, nI 101) :: (235, 2, nI 116) :: (235, 1, nI 102) :: (235, 0, nI 111) :: (234, 3, nI 116) :: (234, 2, nI 115) :: (234, 1, nI 97) :: (234, 0, nI 108) :: (233, 4, nI 116) :: (233, 3, nI 115) :: (233, 2, nI 114) :: (233, 1, nI 105) :: (233, 0, nI 102) :: rV4
theorem rmm5 : (179, 13, nF 13) ∈ rK5 := by decide +kernel
theorem kri5 {M : Mm} (C : Cok l G X mtX13_init.2.1 mtX13_init.1.cls 1 mtX13_init.2.2.2) (hnm : X.2.1.2.2.2.1.name = mtX13_init.1.name) (h : Mk Z e3 233 rK4 rR4 rV4 M) (s0 : mL M 179 78 = lN 1) (k : (∀ M, Mk Z e3 247 rK5 rR5 rV5 M → mL M 179 78 = lN 1 → AW l G X 12 5177 1500 [(0, .ref (G.1 + 179))] [] M)) : AW l G X 26 5231 1132 [(0, .ref (G.1 + 179))] [] M := by
  refine C.aload_n dX13_init_1132 0 rfl ?_
  refine C.iconst (nI 5) dX13_init_1133 (by decide) ?_
  refine C.newa (t := 3) (by decide) rfl ac_char dX13_init_1134 rfl (by decide) (by decide) (by decide) ?_
  rw [h.1.1]
  have h1 := h.new (100 + 3) 5 234 rfl
  have s1 : mL (nM M (100 + 3) 5) 179 78 = lN 1 := by rw [mL_nM, if_neg (by rw [h.1.1]; decide)]; exact s0
  generalize nM M (100 + 3) 5 = M1 at h1 s1 ⊢
  refine AW.re (bc' := 25) (bs' := 5226) (pc' := 1136) rfl rfl rfl ?_
  refine C.dup dX13_init_1136 rfl ?_
  refine C.iconst (nI 0) dX13_init_1137 (by decide) ?_
  refine C.bipush (nI 102) dX13_init_1138 (by decide) ?_
  refine C.cast (h1.a (t := 3) (.head _)) (n_in (by decide)) dX13_init_1140 ?_
  have h2 := h1.ch 233 0 102 (by decide) (by unfold e3; omega) (by decide) (by decide)
  have s2 : mL (sI M1 233 (nI 0).toNatClampNeg (vp_nar .char (nI 102))) 179 78 = lN 1 := s1
  generalize sI M1 233 (nI 0).toNatClampNeg (vp_nar .char (nI 102)) = M2 at h2 s2 ⊢
  refine AW.re (bc' := 25) (bs' := 5226) (pc' := 1141) rfl rfl rfl ?_
  refine C.dup dX13_init_1141 rfl ?_
  refine C.iconst (nI 1) dX13_init_1142 (by decide) ?_
  refine C.bipush (nI 105) dX13_init_1143 (by decide) ?_
  refine C.cast (h2.a (t := 3) (.head _)) (n_in (by decide)) dX13_init_1145 ?_
  have h3 := h2.ch 233 1 105 (by decide) (by unfold e3; omega) (by decide) (by decide)
  have s3 : mL (sI M2 233 (nI 1).toNatClampNeg (vp_nar .char (nI 105))) 179 78 = lN 1 := s2
  generalize sI M2 233 (nI 1).toNatClampNeg (vp_nar .char (nI 105)) = M3 at h3 s3 ⊢
  refine AW.re (bc' := 25) (bs' := 5226) (pc' := 1146) rfl rfl rfl ?_
  refine C.dup dX13_init_1146 rfl ?_
  refine C.iconst (nI 2) dX13_init_1147 (by decide) ?_
  refine C.bipush (nI 114) dX13_init_1148 (by decide) ?_
  refine C.cast (h3.a (t := 3) (.head _)) (n_in (by decide)) dX13_init_1150 ?_
  have h4 := h3.ch 233 2 114 (by decide) (by unfold e3; omega) (by decide) (by decide)
  have s4 : mL (sI M3 233 (nI 2).toNatClampNeg (vp_nar .char (nI 114))) 179 78 = lN 1 := s3
  generalize sI M3 233 (nI 2).toNatClampNeg (vp_nar .char (nI 114)) = M4 at h4 s4 ⊢
  refine AW.re (bc' := 25) (bs' := 5226) (pc' := 1151) rfl rfl rfl ?_
  refine C.dup dX13_init_1151 rfl ?_
  refine C.iconst (nI 3) dX13_init_1152 (by decide) ?_
  refine C.bipush (nI 115) dX13_init_1153 (by decide) ?_
  refine C.cast (h4.a (t := 3) (.head _)) (n_in (by decide)) dX13_init_1155 ?_
  have h5 := h4.ch 233 3 115 (by decide) (by unfold e3; omega) (by decide) (by decide)
  have s5 : mL (sI M4 233 (nI 3).toNatClampNeg (vp_nar .char (nI 115))) 179 78 = lN 1 := s4
  generalize sI M4 233 (nI 3).toNatClampNeg (vp_nar .char (nI 115)) = M5 at h5 s5 ⊢
  refine AW.re (bc' := 25) (bs' := 5226) (pc' := 1156) rfl rfl rfl ?_
  refine C.dup dX13_init_1156 rfl ?_
  refine C.iconst (nI 4) dX13_init_1157 (by decide) ?_
  refine C.bipush (nI 116) dX13_init_1158 (by decide) ?_
  refine C.cast (h5.a (t := 3) (.head _)) (n_in (by decide)) dX13_init_1160 ?_
  have h6 := h5.ch 233 4 116 (by decide) (by unfold e3; omega) (by decide) (by decide)
  have s6 : mL (sI M5 233 (nI 4).toNatClampNeg (vp_nar .char (nI 116))) 179 78 = lN 1 := s5
  generalize sI M5 233 (nI 4).toNatClampNeg (vp_nar .char (nI 116)) = M6 at h6 s6 ⊢
  refine AW.re (bc' := 25) (bs' := 5226) (pc' := 1161) rfl rfl rfl ?_
  refine C.putA fX13_183 (Or.inr ⟨hnm, rfl⟩) dX13_init_1161 (h6.o (c := 13) (.tail _ rmm4)) ?_
  have h7 := h6.putR 179 79 233 (by decide) (by unfold e3; omega) (by decide +kernel)
  have s7 : mL (sR M6 179 79 (some 233)) 179 78 = lN 1 := s6
  generalize sR M6 179 79 (some 233) = M7 at h7 s7 ⊢
  refine AW.re (bc' := 25) (bs' := 5226) (pc' := 1164) rfl rfl rfl ?_
  refine C.aload_n dX13_init_1164 0 rfl ?_
  refine C.iconst (nI 4) dX13_init_1165 (by decide) ?_
  refine C.newa (t := 3) (by decide) rfl ac_char dX13_init_1166 rfl (by decide) (by decide) (by decide) ?_
  rw [h7.1.1]
  have h8 := h7.new (100 + 3) 4 235 rfl
  have s8 : mL (nM M7 (100 + 3) 4) 179 78 = lN 1 := by rw [mL_nM, if_neg (by rw [h7.1.1]; decide)]; exact s7
  generalize nM M7 (100 + 3) 4 = M8 at h8 s8 ⊢
  refine AW.re (bc' := 24) (bs' := 5222) (pc' := 1168) rfl rfl rfl ?_
  refine C.dup dX13_init_1168 rfl ?_
  refine C.iconst (nI 0) dX13_init_1169 (by decide) ?_
  refine C.bipush (nI 108) dX13_init_1170 (by decide) ?_
  refine C.cast (h8.a (t := 3) (.head _)) (n_in (by decide)) dX13_init_1172 ?_
  have h9 := h8.ch 234 0 108 (by decide) (by unfold e3; omega) (by decide) (by decide)
  have s9 : mL (sI M8 234 (nI 0).toNatClampNeg (vp_nar .char (nI 108))) 179 78 = lN 1 := s8
  generalize sI M8 234 (nI 0).toNatClampNeg (vp_nar .char (nI 108)) = M9 at h9 s9 ⊢
  refine AW.re (bc' := 24) (bs' := 5222) (pc' := 1173) rfl rfl rfl ?_
  refine C.dup dX13_init_1173 rfl ?_
  refine C.iconst (nI 1) dX13_init_1174 (by decide) ?_
  refine C.bipush (nI 97) dX13_init_1175 (by decide) ?_
  refine C.cast (h9.a (t := 3) (.head _)) (n_in (by decide)) dX13_init_1177 ?_
  have h10 := h9.ch 234 1 97 (by decide) (by unfold e3; omega) (by decide) (by decide)
  have s10 : mL (sI M9 234 (nI 1).toNatClampNeg (vp_nar .char (nI 97))) 179 78 = lN 1 := s9
  generalize sI M9 234 (nI 1).toNatClampNeg (vp_nar .char (nI 97)) = M10 at h10 s10 ⊢
  refine AW.re (bc' := 24) (bs' := 5222) (pc' := 1178) rfl rfl rfl ?_
  refine C.dup dX13_init_1178 rfl ?_
  refine C.iconst (nI 2) dX13_init_1179 (by decide) ?_
  refine C.bipush (nI 115) dX13_init_1180 (by decide) ?_
  refine C.cast (h10.a (t := 3) (.head _)) (n_in (by decide)) dX13_init_1182 ?_
  have h11 := h10.ch 234 2 115 (by decide) (by unfold e3; omega) (by decide) (by decide)
  have s11 : mL (sI M10 234 (nI 2).toNatClampNeg (vp_nar .char (nI 115))) 179 78 = lN 1 := s10
  generalize sI M10 234 (nI 2).toNatClampNeg (vp_nar .char (nI 115)) = M11 at h11 s11 ⊢
  refine AW.re (bc' := 24) (bs' := 5222) (pc' := 1183) rfl rfl rfl ?_
  refine C.dup dX13_init_1183 rfl ?_
  refine C.iconst (nI 3) dX13_init_1184 (by decide) ?_
  refine C.bipush (nI 116) dX13_init_1185 (by decide) ?_
  refine C.cast (h11.a (t := 3) (.head _)) (n_in (by decide)) dX13_init_1187 ?_
  have h12 := h11.ch 234 3 116 (by decide) (by unfold e3; omega) (by decide) (by decide)
  have s12 : mL (sI M11 234 (nI 3).toNatClampNeg (vp_nar .char (nI 116))) 179 78 = lN 1 := s11
  generalize sI M11 234 (nI 3).toNatClampNeg (vp_nar .char (nI 116)) = M12 at h12 s12 ⊢
  refine AW.re (bc' := 24) (bs' := 5222) (pc' := 1188) rfl rfl rfl ?_
  refine C.putA fX13_186 (Or.inr ⟨hnm, rfl⟩) dX13_init_1188 (h12.o (c := 13) (.tail _ (.tail _ rmm4))) ?_
  have h13 := h12.putR 179 80 234 (by decide) (by unfold e3; omega) (by decide +kernel)
  have s13 : mL (sR M12 179 80 (some 234)) 179 78 = lN 1 := s12
  generalize sR M12 179 80 (some 234) = M13 at h13 s13 ⊢
  refine AW.re (bc' := 24) (bs' := 5222) (pc' := 1191) rfl rfl rfl ?_
  refine C.aload_n dX13_init_1191 0 rfl ?_
  refine C.iconst (nI 5) dX13_init_1192 (by decide) ?_
  refine C.newa (t := 3) (by decide) rfl ac_char dX13_init_1193 rfl (by decide) (by decide) (by decide) ?_
  rw [h13.1.1]
  have h14 := h13.new (100 + 3) 5 236 rfl
  have s14 : mL (nM M13 (100 + 3) 5) 179 78 = lN 1 := by rw [mL_nM, if_neg (by rw [h13.1.1]; decide)]; exact s13
  generalize nM M13 (100 + 3) 5 = M14 at h14 s14 ⊢
  refine AW.re (bc' := 23) (bs' := 5217) (pc' := 1195) rfl rfl rfl ?_
  refine C.dup dX13_init_1195 rfl ?_
  refine C.iconst (nI 0) dX13_init_1196 (by decide) ?_
  refine C.bipush (nI 111) dX13_init_1197 (by decide) ?_
  refine C.cast (h14.a (t := 3) (.head _)) (n_in (by decide)) dX13_init_1199 ?_
  have h15 := h14.ch 235 0 111 (by decide) (by unfold e3; omega) (by decide) (by decide)
  have s15 : mL (sI M14 235 (nI 0).toNatClampNeg (vp_nar .char (nI 111))) 179 78 = lN 1 := s14
  generalize sI M14 235 (nI 0).toNatClampNeg (vp_nar .char (nI 111)) = M15 at h15 s15 ⊢
  refine AW.re (bc' := 23) (bs' := 5217) (pc' := 1200) rfl rfl rfl ?_
  refine C.dup dX13_init_1200 rfl ?_
  refine C.iconst (nI 1) dX13_init_1201 (by decide) ?_
  refine C.bipush (nI 102) dX13_init_1202 (by decide) ?_
  refine C.cast (h15.a (t := 3) (.head _)) (n_in (by decide)) dX13_init_1204 ?_
  have h16 := h15.ch 235 1 102 (by decide) (by unfold e3; omega) (by decide) (by decide)
  have s16 : mL (sI M15 235 (nI 1).toNatClampNeg (vp_nar .char (nI 102))) 179 78 = lN 1 := s15
  generalize sI M15 235 (nI 1).toNatClampNeg (vp_nar .char (nI 102)) = M16 at h16 s16 ⊢
  refine AW.re (bc' := 23) (bs' := 5217) (pc' := 1205) rfl rfl rfl ?_
  refine C.dup dX13_init_1205 rfl ?_
  refine C.iconst (nI 2) dX13_init_1206 (by decide) ?_
  refine C.bipush (nI 116) dX13_init_1207 (by decide) ?_
  refine C.cast (h16.a (t := 3) (.head _)) (n_in (by decide)) dX13_init_1209 ?_
  have h17 := h16.ch 235 2 116 (by decide) (by unfold e3; omega) (by decide) (by decide)
  have s17 : mL (sI M16 235 (nI 2).toNatClampNeg (vp_nar .char (nI 116))) 179 78 = lN 1 := s16
  generalize sI M16 235 (nI 2).toNatClampNeg (vp_nar .char (nI 116)) = M17 at h17 s17 ⊢
  refine AW.re (bc' := 23) (bs' := 5217) (pc' := 1210) rfl rfl rfl ?_
  refine C.dup dX13_init_1210 rfl ?_
  refine C.iconst (nI 3) dX13_init_1211 (by decide) ?_
  refine C.bipush (nI 101) dX13_init_1212 (by decide) ?_
  refine C.cast (h17.a (t := 3) (.head _)) (n_in (by decide)) dX13_init_1214 ?_
  have h18 := h17.ch 235 3 101 (by decide) (by unfold e3; omega) (by decide) (by decide)
  have s18 : mL (sI M17 235 (nI 3).toNatClampNeg (vp_nar .char (nI 101))) 179 78 = lN 1 := s17
  generalize sI M17 235 (nI 3).toNatClampNeg (vp_nar .char (nI 101)) = M18 at h18 s18 ⊢
  refine AW.re (bc' := 23) (bs' := 5217) (pc' := 1215) rfl rfl rfl ?_
  refine C.dup dX13_init_1215 rfl ?_
  refine C.iconst (nI 4) dX13_init_1216 (by decide) ?_
  refine C.bipush (nI 110) dX13_init_1217 (by decide) ?_
  refine C.cast (h18.a (t := 3) (.head _)) (n_in (by decide)) dX13_init_1219 ?_
  have h19 := h18.ch 235 4 110 (by decide) (by unfold e3; omega) (by decide) (by decide)
  have s19 : mL (sI M18 235 (nI 4).toNatClampNeg (vp_nar .char (nI 110))) 179 78 = lN 1 := s18
  generalize sI M18 235 (nI 4).toNatClampNeg (vp_nar .char (nI 110)) = M19 at h19 s19 ⊢
  refine AW.re (bc' := 23) (bs' := 5217) (pc' := 1220) rfl rfl rfl ?_
  refine C.putA fX13_189 (Or.inr ⟨hnm, rfl⟩) dX13_init_1220 (h19.o (c := 13) (.tail _ (.tail _ (.tail _ rmm4)))) ?_
  have h20 := h19.putR 179 81 235 (by decide) (by unfold e3; omega) (by decide +kernel)
  have s20 : mL (sR M19 179 81 (some 235)) 179 78 = lN 1 := s19
  generalize sR M19 179 81 (some 235) = M20 at h20 s20 ⊢
  refine AW.re (bc' := 23) (bs' := 5217) (pc' := 1223) rfl rfl rfl ?_
  refine C.aload_n dX13_init_1223 0 rfl ?_
  refine C.iconst (nI 5) dX13_init_1224 (by decide) ?_
  refine C.newa (t := 3) (by decide) rfl ac_char dX13_init_1225 rfl (by decide) (by decide) (by decide) ?_
  rw [h20.1.1]
  have h21 := h20.new (100 + 3) 5 237 rfl
  have s21 : mL (nM M20 (100 + 3) 5) 179 78 = lN 1 := by rw [mL_nM, if_neg (by rw [h20.1.1]; decide)]; exact s20
  generalize nM M20 (100 + 3) 5 = M21 at h21 s21 ⊢
  refine AW.re (bc' := 22) (bs' := 5212) (pc' := 1227) rfl rfl rfl ?_
  refine C.dup dX13_init_1227 rfl ?_
  refine C.iconst (nI 0) dX13_init_1228 (by decide) ?_
  refine C.bipush (nI 116) dX13_init_1229 (by decide) ?_
  refine C.cast (h21.a (t := 3) (.head _)) (n_in (by decide)) dX13_init_1231 ?_
  have h22 := h21.ch 236 0 116 (by decide) (by unfold e3; omega) (by decide) (by decide)
  have s22 : mL (sI M21 236 (nI 0).toNatClampNeg (vp_nar .char (nI 116))) 179 78 = lN 1 := s21
  generalize sI M21 236 (nI 0).toNatClampNeg (vp_nar .char (nI 116)) = M22 at h22 s22 ⊢
  refine AW.re (bc' := 22) (bs' := 5212) (pc' := 1232) rfl rfl rfl ?_
  refine C.dup dX13_init_1232 rfl ?_
  refine C.iconst (nI 1) dX13_init_1233 (by decide) ?_
  refine C.bipush (nI 111) dX13_init_1234 (by decide) ?_
  refine C.cast (h22.a (t := 3) (.head _)) (n_in (by decide)) dX13_init_1236 ?_
  have h23 := h22.ch 236 1 111 (by decide) (by unfold e3; omega) (by decide) (by decide)
  have s23 : mL (sI M22 236 (nI 1).toNatClampNeg (vp_nar .char (nI 111))) 179 78 = lN 1 := s22
  generalize sI M22 236 (nI 1).toNatClampNeg (vp_nar .char (nI 111)) = M23 at h23 s23 ⊢
  refine AW.re (bc' := 22) (bs' := 5212) (pc' := 1237) rfl rfl rfl ?_
  refine C.dup dX13_init_1237 rfl ?_
  refine C.iconst (nI 2) dX13_init_1238 (by decide) ?_
  refine C.bipush (nI 116) dX13_init_1239 (by decide) ?_
  refine C.cast (h23.a (t := 3) (.head _)) (n_in (by decide)) dX13_init_1241 ?_
  have h24 := h23.ch 236 2 116 (by decide) (by unfold e3; omega) (by decide) (by decide)
  have s24 : mL (sI M23 236 (nI 2).toNatClampNeg (vp_nar .char (nI 116))) 179 78 = lN 1 := s23
  generalize sI M23 236 (nI 2).toNatClampNeg (vp_nar .char (nI 116)) = M24 at h24 s24 ⊢
  refine AW.re (bc' := 22) (bs' := 5212) (pc' := 1242) rfl rfl rfl ?_
  refine C.dup dX13_init_1242 rfl ?_
  refine C.iconst (nI 3) dX13_init_1243 (by decide) ?_
  refine C.bipush (nI 97) dX13_init_1244 (by decide) ?_
  refine C.cast (h24.a (t := 3) (.head _)) (n_in (by decide)) dX13_init_1246 ?_
  have h25 := h24.ch 236 3 97 (by decide) (by unfold e3; omega) (by decide) (by decide)
  have s25 : mL (sI M24 236 (nI 3).toNatClampNeg (vp_nar .char (nI 97))) 179 78 = lN 1 := s24
  generalize sI M24 236 (nI 3).toNatClampNeg (vp_nar .char (nI 97)) = M25 at h25 s25 ⊢
  refine AW.re (bc' := 22) (bs' := 5212) (pc' := 1247) rfl rfl rfl ?_
  refine C.dup dX13_init_1247 rfl ?_
  refine C.iconst (nI 4) dX13_init_1248 (by decide) ?_
  refine C.bipush (nI 108) dX13_init_1249 (by decide) ?_
  refine C.cast (h25.a (t := 3) (.head _)) (n_in (by decide)) dX13_init_1251 ?_
  have h26 := h25.ch 236 4 108 (by decide) (by unfold e3; omega) (by decide) (by decide)
  have s26 : mL (sI M25 236 (nI 4).toNatClampNeg (vp_nar .char (nI 108))) 179 78 = lN 1 := s25
  generalize sI M25 236 (nI 4).toNatClampNeg (vp_nar .char (nI 108)) = M26 at h26 s26 ⊢
  refine AW.re (bc' := 22) (bs' := 5212) (pc' := 1252) rfl rfl rfl ?_
  refine C.putA fX13_192 (Or.inr ⟨hnm, rfl⟩) dX13_init_1252 (h26.o (c := 13) (.tail _ (.tail _ (.tail _ (.tail _ rmm4))))) ?_
  have h27 := h26.putR 179 82 236 (by decide) (by unfold e3; omega) (by decide +kernel)
  have s27 : mL (sR M26 179 82 (some 236)) 179 78 = lN 1 := s26
  generalize sR M26 179 82 (some 236) = M27 at h27 s27 ⊢
  refine AW.re (bc' := 22) (bs' := 5212) (pc' := 1255) rfl rfl rfl ?_
  refine C.aload_n dX13_init_1255 0 rfl ?_
  refine C.iconst (nI 4) dX13_init_1256 (by decide) ?_
  refine C.newa (t := 3) (by decide) rfl ac_char dX13_init_1257 rfl (by decide) (by decide) (by decide) ?_
  rw [h27.1.1]
  have h28 := h27.new (100 + 3) 4 238 rfl
  have s28 : mL (nM M27 (100 + 3) 4) 179 78 = lN 1 := by rw [mL_nM, if_neg (by rw [h27.1.1]; decide)]; exact s27
  generalize nM M27 (100 + 3) 4 = M28 at h28 s28 ⊢
  refine AW.re (bc' := 21) (bs' := 5208) (pc' := 1259) rfl rfl rfl ?_
  refine C.dup dX13_init_1259 rfl ?_
  refine C.iconst (nI 0) dX13_init_1260 (by decide) ?_
  refine C.bipush (nI 109) dX13_init_1261 (by decide) ?_
  refine C.cast (h28.a (t := 3) (.head _)) (n_in (by decide)) dX13_init_1263 ?_
  have h29 := h28.ch 237 0 109 (by decide) (by unfold e3; omega) (by decide) (by decide)
  have s29 : mL (sI M28 237 (nI 0).toNatClampNeg (vp_nar .char (nI 109))) 179 78 = lN 1 := s28
  generalize sI M28 237 (nI 0).toNatClampNeg (vp_nar .char (nI 109)) = M29 at h29 s29 ⊢
  refine AW.re (bc' := 21) (bs' := 5208) (pc' := 1264) rfl rfl rfl ?_
  refine C.dup dX13_init_1264 rfl ?_
  refine C.iconst (nI 1) dX13_init_1265 (by decide) ?_
  refine C.bipush (nI 111) dX13_init_1266 (by decide) ?_
  refine C.cast (h29.a (t := 3) (.head _)) (n_in (by decide)) dX13_init_1268 ?_
  have h30 := h29.ch 237 1 111 (by decide) (by unfold e3; omega) (by decide) (by decide)
  have s30 : mL (sI M29 237 (nI 1).toNatClampNeg (vp_nar .char (nI 111))) 179 78 = lN 1 := s29
  generalize sI M29 237 (nI 1).toNatClampNeg (vp_nar .char (nI 111)) = M30 at h30 s30 ⊢
  refine AW.re (bc' := 21) (bs' := 5208) (pc' := 1269) rfl rfl rfl ?_
  refine C.dup dX13_init_1269 rfl ?_
  refine C.iconst (nI 2) dX13_init_1270 (by decide) ?_
  refine C.bipush (nI 115) dX13_init_1271 (by decide) ?_
  refine C.cast (h30.a (t := 3) (.head _)) (n_in (by decide)) dX13_init_1273 ?_
  have h31 := h30.ch 237 2 115 (by decide) (by unfold e3; omega) (by decide) (by decide)
  have s31 : mL (sI M30 237 (nI 2).toNatClampNeg (vp_nar .char (nI 115))) 179 78 = lN 1 := s30
  generalize sI M30 237 (nI 2).toNatClampNeg (vp_nar .char (nI 115)) = M31 at h31 s31 ⊢
  refine AW.re (bc' := 21) (bs' := 5208) (pc' := 1274) rfl rfl rfl ?_
  refine C.dup dX13_init_1274 rfl ?_
  refine C.iconst (nI 3) dX13_init_1275 (by decide) ?_
  refine C.bipush (nI 116) dX13_init_1276 (by decide) ?_
  refine C.cast (h31.a (t := 3) (.head _)) (n_in (by decide)) dX13_init_1278 ?_
  have h32 := h31.ch 237 3 116 (by decide) (by unfold e3; omega) (by decide) (by decide)
  have s32 : mL (sI M31 237 (nI 3).toNatClampNeg (vp_nar .char (nI 116))) 179 78 = lN 1 := s31
  generalize sI M31 237 (nI 3).toNatClampNeg (vp_nar .char (nI 116)) = M32 at h32 s32 ⊢
  refine AW.re (bc' := 21) (bs' := 5208) (pc' := 1279) rfl rfl rfl ?_
  refine C.putA fX13_195 (Or.inr ⟨hnm, rfl⟩) dX13_init_1279 (h32.o (c := 13) (.tail _ (.tail _ (.tail _ (.tail _ (.tail _ rmm4)))))) ?_
  have h33 := h32.putR 179 83 237 (by decide) (by unfold e3; omega) (by decide +kernel)
  have s33 : mL (sR M32 179 83 (some 237)) 179 78 = lN 1 := s32
  generalize sR M32 179 83 (some 237) = M33 at h33 s33 ⊢
  refine AW.re (bc' := 21) (bs' := 5208) (pc' := 1282) rfl rfl rfl ?_
  refine C.aload_n dX13_init_1282 0 rfl ?_
  refine C.iconst (nI 5) dX13_init_1283 (by decide) ?_
  refine C.newa (t := 3) (by decide) rfl ac_char dX13_init_1284 rfl (by decide) (by decide) (by decide) ?_
  rw [h33.1.1]
  have h34 := h33.new (100 + 3) 5 239 rfl
  have s34 : mL (nM M33 (100 + 3) 5) 179 78 = lN 1 := by rw [mL_nM, if_neg (by rw [h33.1.1]; decide)]; exact s33
  generalize nM M33 (100 + 3) 5 = M34 at h34 s34 ⊢
  refine AW.re (bc' := 20) (bs' := 5203) (pc' := 1286) rfl rfl rfl ?_
  refine C.dup dX13_init_1286 rfl ?_
  refine C.iconst (nI 0) dX13_init_1287 (by decide) ?_
  refine C.bipush (nI 108) dX13_init_1288 (by decide) ?_
  refine C.cast (h34.a (t := 3) (.head _)) (n_in (by decide)) dX13_init_1290 ?_
  have h35 := h34.ch 238 0 108 (by decide) (by unfold e3; omega) (by decide) (by decide)
  have s35 : mL (sI M34 238 (nI 0).toNatClampNeg (vp_nar .char (nI 108))) 179 78 = lN 1 := s34
  generalize sI M34 238 (nI 0).toNatClampNeg (vp_nar .char (nI 108)) = M35 at h35 s35 ⊢
  refine AW.re (bc' := 20) (bs' := 5203) (pc' := 1291) rfl rfl rfl ?_
  refine C.dup dX13_init_1291 rfl ?_
  refine C.iconst (nI 1) dX13_init_1292 (by decide) ?_
  refine C.bipush (nI 101) dX13_init_1293 (by decide) ?_
  refine C.cast (h35.a (t := 3) (.head _)) (n_in (by decide)) dX13_init_1295 ?_
  have h36 := h35.ch 238 1 101 (by decide) (by unfold e3; omega) (by decide) (by decide)
  have s36 : mL (sI M35 238 (nI 1).toNatClampNeg (vp_nar .char (nI 101))) 179 78 = lN 1 := s35
  generalize sI M35 238 (nI 1).toNatClampNeg (vp_nar .char (nI 101)) = M36 at h36 s36 ⊢
  refine AW.re (bc' := 20) (bs' := 5203) (pc' := 1296) rfl rfl rfl ?_
  refine C.dup dX13_init_1296 rfl ?_
  refine C.iconst (nI 2) dX13_init_1297 (by decide) ?_
  refine C.bipush (nI 97) dX13_init_1298 (by decide) ?_
  refine C.cast (h36.a (t := 3) (.head _)) (n_in (by decide)) dX13_init_1300 ?_
  have h37 := h36.ch 238 2 97 (by decide) (by unfold e3; omega) (by decide) (by decide)
  have s37 : mL (sI M36 238 (nI 2).toNatClampNeg (vp_nar .char (nI 97))) 179 78 = lN 1 := s36
  generalize sI M36 238 (nI 2).toNatClampNeg (vp_nar .char (nI 97)) = M37 at h37 s37 ⊢
  refine AW.re (bc' := 20) (bs' := 5203) (pc' := 1301) rfl rfl rfl ?_
  refine C.dup dX13_init_1301 rfl ?_
  refine C.iconst (nI 3) dX13_init_1302 (by decide) ?_
  refine C.bipush (nI 115) dX13_init_1303 (by decide) ?_
  refine C.cast (h37.a (t := 3) (.head _)) (n_in (by decide)) dX13_init_1305 ?_
  have h38 := h37.ch 238 3 115 (by decide) (by unfold e3; omega) (by decide) (by decide)
  have s38 : mL (sI M37 238 (nI 3).toNatClampNeg (vp_nar .char (nI 115))) 179 78 = lN 1 := s37
  generalize sI M37 238 (nI 3).toNatClampNeg (vp_nar .char (nI 115)) = M38 at h38 s38 ⊢
  refine AW.re (bc' := 20) (bs' := 5203) (pc' := 1306) rfl rfl rfl ?_
  refine C.dup dX13_init_1306 rfl ?_
  refine C.iconst (nI 4) dX13_init_1307 (by decide) ?_
  refine C.bipush (nI 116) dX13_init_1308 (by decide) ?_
  refine C.cast (h38.a (t := 3) (.head _)) (n_in (by decide)) dX13_init_1310 ?_
  have h39 := h38.ch 238 4 116 (by decide) (by unfold e3; omega) (by decide) (by decide)
  have s39 : mL (sI M38 238 (nI 4).toNatClampNeg (vp_nar .char (nI 116))) 179 78 = lN 1 := s38
  generalize sI M38 238 (nI 4).toNatClampNeg (vp_nar .char (nI 116)) = M39 at h39 s39 ⊢
  refine AW.re (bc' := 20) (bs' := 5203) (pc' := 1311) rfl rfl rfl ?_
  refine C.putA fX13_198 (Or.inr ⟨hnm, rfl⟩) dX13_init_1311 (h39.o (c := 13) (.tail _ (.tail _ (.tail _ (.tail _ (.tail _ (.tail _ rmm4))))))) ?_
  have h40 := h39.putR 179 84 238 (by decide) (by unfold e3; omega) (by decide +kernel)
  have s40 : mL (sR M39 179 84 (some 238)) 179 78 = lN 1 := s39
  generalize sR M39 179 84 (some 238) = M40 at h40 s40 ⊢
  refine AW.re (bc' := 20) (bs' := 5203) (pc' := 1314) rfl rfl rfl ?_
  refine C.aload_n dX13_init_1314 0 rfl ?_
  refine C.iconst (nI 3) dX13_init_1315 (by decide) ?_
  refine C.newa (t := 3) (by decide) rfl ac_char dX13_init_1316 rfl (by decide) (by decide) (by decide) ?_
  rw [h40.1.1]
  have h41 := h40.new (100 + 3) 3 240 rfl
  have s41 : mL (nM M40 (100 + 3) 3) 179 78 = lN 1 := by rw [mL_nM, if_neg (by rw [h40.1.1]; decide)]; exact s40
  generalize nM M40 (100 + 3) 3 = M41 at h41 s41 ⊢
  refine AW.re (bc' := 19) (bs' := 5200) (pc' := 1318) rfl rfl rfl ?_
  refine C.dup dX13_init_1318 rfl ?_
  refine C.iconst (nI 0) dX13_init_1319 (by decide) ?_
  refine C.bipush (nI 110) dX13_init_1320 (by decide) ?_
  refine C.cast (h41.a (t := 3) (.head _)) (n_in (by decide)) dX13_init_1322 ?_
  have h42 := h41.ch 239 0 110 (by decide) (by unfold e3; omega) (by decide) (by decide)
  have s42 : mL (sI M41 239 (nI 0).toNatClampNeg (vp_nar .char (nI 110))) 179 78 = lN 1 := s41
  generalize sI M41 239 (nI 0).toNatClampNeg (vp_nar .char (nI 110)) = M42 at h42 s42 ⊢
  refine AW.re (bc' := 19) (bs' := 5200) (pc' := 1323) rfl rfl rfl ?_
  refine C.dup dX13_init_1323 rfl ?_
  refine C.iconst (nI 1) dX13_init_1324 (by decide) ?_
  refine C.bipush (nI 111) dX13_init_1325 (by decide) ?_
  refine C.cast (h42.a (t := 3) (.head _)) (n_in (by decide)) dX13_init_1327 ?_
  have h43 := h42.ch 239 1 111 (by decide) (by unfold e3; omega) (by decide) (by decide)
  have s43 : mL (sI M42 239 (nI 1).toNatClampNeg (vp_nar .char (nI 111))) 179 78 = lN 1 := s42
  generalize sI M42 239 (nI 1).toNatClampNeg (vp_nar .char (nI 111)) = M43 at h43 s43 ⊢
  refine AW.re (bc' := 19) (bs' := 5200) (pc' := 1328) rfl rfl rfl ?_
  refine C.dup dX13_init_1328 rfl ?_
  refine C.iconst (nI 2) dX13_init_1329 (by decide) ?_
  refine C.bipush (nI 116) dX13_init_1330 (by decide) ?_
  refine C.cast (h43.a (t := 3) (.head _)) (n_in (by decide)) dX13_init_1332 ?_
  have h44 := h43.ch 239 2 116 (by decide) (by unfold e3; omega) (by decide) (by decide)
  have s44 : mL (sI M43 239 (nI 2).toNatClampNeg (vp_nar .char (nI 116))) 179 78 = lN 1 := s43
  generalize sI M43 239 (nI 2).toNatClampNeg (vp_nar .char (nI 116)) = M44 at h44 s44 ⊢
  refine AW.re (bc' := 19) (bs' := 5200) (pc' := 1333) rfl rfl rfl ?_
  refine C.putA fX13_201 (Or.inr ⟨hnm, rfl⟩) dX13_init_1333 (h44.o (c := 13) (.tail _ (.tail _ (.tail _ (.tail _ (.tail _ (.tail _ (.tail _ rmm4)))))))) ?_
  have h45 := h44.putR 179 85 239 (by decide) (by unfold e3; omega) (by decide +kernel)
  have s45 : mL (sR M44 179 85 (some 239)) 179 78 = lN 1 := s44
  generalize sR M44 179 85 (some 239) = M45 at h45 s45 ⊢
  refine AW.re (bc' := 19) (bs' := 5200) (pc' := 1336) rfl rfl rfl ?_
  refine C.aload_n dX13_init_1336 0 rfl ?_
  refine C.iconst (nI 3) dX13_init_1337 (by decide) ?_
  refine C.newa (t := 3) (by decide) rfl ac_char dX13_init_1338 rfl (by decide) (by decide) (by decide) ?_
  rw [h45.1.1]
  have h46 := h45.new (100 + 3) 3 241 rfl
  have s46 : mL (nM M45 (100 + 3) 3) 179 78 = lN 1 := by rw [mL_nM, if_neg (by rw [h45.1.1]; decide)]; exact s45
  generalize nM M45 (100 + 3) 3 = M46 at h46 s46 ⊢
  refine AW.re (bc' := 18) (bs' := 5197) (pc' := 1340) rfl rfl rfl ?_
  refine C.dup dX13_init_1340 rfl ?_
  refine C.iconst (nI 0) dX13_init_1341 (by decide) ?_
  refine C.bipush (nI 97) dX13_init_1342 (by decide) ?_
  refine C.cast (h46.a (t := 3) (.head _)) (n_in (by decide)) dX13_init_1344 ?_
  have h47 := h46.ch 240 0 97 (by decide) (by unfold e3; omega) (by decide) (by decide)
  have s47 : mL (sI M46 240 (nI 0).toNatClampNeg (vp_nar .char (nI 97))) 179 78 = lN 1 := s46
  generalize sI M46 240 (nI 0).toNatClampNeg (vp_nar .char (nI 97)) = M47 at h47 s47 ⊢
  refine AW.re (bc' := 18) (bs' := 5197) (pc' := 1345) rfl rfl rfl ?_
  refine C.dup dX13_init_1345 rfl ?_
  refine C.iconst (nI 1) dX13_init_1346 (by decide) ?_
  refine C.bipush (nI 110) dX13_init_1347 (by decide) ?_
  refine C.cast (h47.a (t := 3) (.head _)) (n_in (by decide)) dX13_init_1349 ?_
  have h48 := h47.ch 240 1 110 (by decide) (by unfold e3; omega) (by decide) (by decide)
  have s48 : mL (sI M47 240 (nI 1).toNatClampNeg (vp_nar .char (nI 110))) 179 78 = lN 1 := s47
  generalize sI M47 240 (nI 1).toNatClampNeg (vp_nar .char (nI 110)) = M48 at h48 s48 ⊢
  refine AW.re (bc' := 18) (bs' := 5197) (pc' := 1350) rfl rfl rfl ?_
  refine C.dup dX13_init_1350 rfl ?_
  refine C.iconst (nI 2) dX13_init_1351 (by decide) ?_
  refine C.bipush (nI 100) dX13_init_1352 (by decide) ?_
  refine C.cast (h48.a (t := 3) (.head _)) (n_in (by decide)) dX13_init_1354 ?_
  have h49 := h48.ch 240 2 100 (by decide) (by unfold e3; omega) (by decide) (by decide)
  have s49 : mL (sI M48 240 (nI 2).toNatClampNeg (vp_nar .char (nI 100))) 179 78 = lN 1 := s48
  generalize sI M48 240 (nI 2).toNatClampNeg (vp_nar .char (nI 100)) = M49 at h49 s49 ⊢
  refine AW.re (bc' := 18) (bs' := 5197) (pc' := 1355) rfl rfl rfl ?_
  refine C.putA fX13_204 (Or.inr ⟨hnm, rfl⟩) dX13_init_1355 (h49.o (c := 13) (.tail _ (.tail _ (.tail _ (.tail _ (.tail _ (.tail _ (.tail _ (.tail _ rmm4))))))))) ?_
  have h50 := h49.putR 179 86 240 (by decide) (by unfold e3; omega) (by decide +kernel)
  have s50 : mL (sR M49 179 86 (some 240)) 179 78 = lN 1 := s49
  generalize sR M49 179 86 (some 240) = M50 at h50 s50 ⊢
  refine AW.re (bc' := 18) (bs' := 5197) (pc' := 1358) rfl rfl rfl ?_
  refine C.aload_n dX13_init_1358 0 rfl ?_
  refine C.iconst (nI 2) dX13_init_1359 (by decide) ?_
  refine C.newa (t := 3) (by decide) rfl ac_char dX13_init_1360 rfl (by decide) (by decide) (by decide) ?_
  rw [h50.1.1]
  have h51 := h50.new (100 + 3) 2 242 rfl
  have s51 : mL (nM M50 (100 + 3) 2) 179 78 = lN 1 := by rw [mL_nM, if_neg (by rw [h50.1.1]; decide)]; exact s50
  generalize nM M50 (100 + 3) 2 = M51 at h51 s51 ⊢
  refine AW.re (bc' := 17) (bs' := 5195) (pc' := 1362) rfl rfl rfl ?_
  refine C.dup dX13_init_1362 rfl ?_
  refine C.iconst (nI 0) dX13_init_1363 (by decide) ?_
  refine C.bipush (nI 111) dX13_init_1364 (by decide) ?_
  refine C.cast (h51.a (t := 3) (.head _)) (n_in (by decide)) dX13_init_1366 ?_
  have h52 := h51.ch 241 0 111 (by decide) (by unfold e3; omega) (by decide) (by decide)
  have s52 : mL (sI M51 241 (nI 0).toNatClampNeg (vp_nar .char (nI 111))) 179 78 = lN 1 := s51
  generalize sI M51 241 (nI 0).toNatClampNeg (vp_nar .char (nI 111)) = M52 at h52 s52 ⊢
  refine AW.re (bc' := 17) (bs' := 5195) (pc' := 1367) rfl rfl rfl ?_
  refine C.dup dX13_init_1367 rfl ?_
  refine C.iconst (nI 1) dX13_init_1368 (by decide) ?_
  refine C.bipush (nI 114) dX13_init_1369 (by decide) ?_
  refine C.cast (h52.a (t := 3) (.head _)) (n_in (by decide)) dX13_init_1371 ?_
  have h53 := h52.ch 241 1 114 (by decide) (by unfold e3; omega) (by decide) (by decide)
  have s53 : mL (sI M52 241 (nI 1).toNatClampNeg (vp_nar .char (nI 114))) 179 78 = lN 1 := s52
  generalize sI M52 241 (nI 1).toNatClampNeg (vp_nar .char (nI 114)) = M53 at h53 s53 ⊢
  refine AW.re (bc' := 17) (bs' := 5195) (pc' := 1372) rfl rfl rfl ?_
  refine C.putA fX13_207 (Or.inr ⟨hnm, rfl⟩) dX13_init_1372 (h53.o (c := 13) (.tail _ (.tail _ (.tail _ (.tail _ (.tail _ (.tail _ (.tail _ (.tail _ (.tail _ rmm4)))))))))) ?_
  have h54 := h53.putR 179 87 241 (by decide) (by unfold e3; omega) (by decide +kernel)
  have s54 : mL (sR M53 179 87 (some 241)) 179 78 = lN 1 := s53
  generalize sR M53 179 87 (some 241) = M54 at h54 s54 ⊢
  refine AW.re (bc' := 17) (bs' := 5195) (pc' := 1375) rfl rfl rfl ?_
  refine C.aload_n dX13_init_1375 0 rfl ?_
  refine C.iconst (nI 3) dX13_init_1376 (by decide) ?_
  refine C.newa (t := 3) (by decide) rfl ac_char dX13_init_1377 rfl (by decide) (by decide) (by decide) ?_
  rw [h54.1.1]
  have h55 := h54.new (100 + 3) 3 243 rfl
  have s55 : mL (nM M54 (100 + 3) 3) 179 78 = lN 1 := by rw [mL_nM, if_neg (by rw [h54.1.1]; decide)]; exact s54
  generalize nM M54 (100 + 3) 3 = M55 at h55 s55 ⊢
  refine AW.re (bc' := 16) (bs' := 5192) (pc' := 1379) rfl rfl rfl ?_
  refine C.dup dX13_init_1379 rfl ?_
  refine C.iconst (nI 0) dX13_init_1380 (by decide) ?_
  refine C.bipush (nI 97) dX13_init_1381 (by decide) ?_
  refine C.cast (h55.a (t := 3) (.head _)) (n_in (by decide)) dX13_init_1383 ?_
  have h56 := h55.ch 242 0 97 (by decide) (by unfold e3; omega) (by decide) (by decide)
  have s56 : mL (sI M55 242 (nI 0).toNatClampNeg (vp_nar .char (nI 97))) 179 78 = lN 1 := s55
  generalize sI M55 242 (nI 0).toNatClampNeg (vp_nar .char (nI 97)) = M56 at h56 s56 ⊢
  refine AW.re (bc' := 16) (bs' := 5192) (pc' := 1384) rfl rfl rfl ?_
  refine C.dup dX13_init_1384 rfl ?_
  refine C.iconst (nI 1) dX13_init_1385 (by decide) ?_
  refine C.bipush (nI 108) dX13_init_1386 (by decide) ?_
  refine C.cast (h56.a (t := 3) (.head _)) (n_in (by decide)) dX13_init_1388 ?_
  have h57 := h56.ch 242 1 108 (by decide) (by unfold e3; omega) (by decide) (by decide)
  have s57 : mL (sI M56 242 (nI 1).toNatClampNeg (vp_nar .char (nI 108))) 179 78 = lN 1 := s56
  generalize sI M56 242 (nI 1).toNatClampNeg (vp_nar .char (nI 108)) = M57 at h57 s57 ⊢
  refine AW.re (bc' := 16) (bs' := 5192) (pc' := 1389) rfl rfl rfl ?_
  refine C.dup dX13_init_1389 rfl ?_
  refine C.iconst (nI 2) dX13_init_1390 (by decide) ?_
  refine C.bipush (nI 108) dX13_init_1391 (by decide) ?_
  refine C.cast (h57.a (t := 3) (.head _)) (n_in (by decide)) dX13_init_1393 ?_
  have h58 := h57.ch 242 2 108 (by decide) (by unfold e3; omega) (by decide) (by decide)
  have s58 : mL (sI M57 242 (nI 2).toNatClampNeg (vp_nar .char (nI 108))) 179 78 = lN 1 := s57
  generalize sI M57 242 (nI 2).toNatClampNeg (vp_nar .char (nI 108)) = M58 at h58 s58 ⊢
  refine AW.re (bc' := 16) (bs' := 5192) (pc' := 1394) rfl rfl rfl ?_
  refine C.putA fX13_210 (Or.inr ⟨hnm, rfl⟩) dX13_init_1394 (h58.o (c := 13) (.tail _ (.tail _ (.tail _ (.tail _ (.tail _ (.tail _ (.tail _ (.tail _ (.tail _ (.tail _ rmm4))))))))))) ?_
  have h59 := h58.putR 179 88 242 (by decide) (by unfold e3; omega) (by decide +kernel)
  have s59 : mL (sR M58 179 88 (some 242)) 179 78 = lN 1 := s58
  generalize sR M58 179 88 (some 242) = M59 at h59 s59 ⊢
  refine AW.re (bc' := 16) (bs' := 5192) (pc' := 1397) rfl rfl rfl ?_
  refine C.aload_n dX13_init_1397 0 rfl ?_
  refine C.iconst (nI 3) dX13_init_1398 (by decide) ?_
  refine C.newa (t := 3) (by decide) rfl ac_char dX13_init_1399 rfl (by decide) (by decide) (by decide) ?_
  rw [h59.1.1]
  have h60 := h59.new (100 + 3) 3 244 rfl
  have s60 : mL (nM M59 (100 + 3) 3) 179 78 = lN 1 := by rw [mL_nM, if_neg (by rw [h59.1.1]; decide)]; exact s59
  generalize nM M59 (100 + 3) 3 = M60 at h60 s60 ⊢
  refine AW.re (bc' := 15) (bs' := 5189) (pc' := 1401) rfl rfl rfl ?_
  refine C.dup dX13_init_1401 rfl ?_
  refine C.iconst (nI 0) dX13_init_1402 (by decide) ?_
  refine C.bipush (nI 109) dX13_init_1403 (by decide) ?_
  refine C.cast (h60.a (t := 3) (.head _)) (n_in (by decide)) dX13_init_1405 ?_
  have h61 := h60.ch 243 0 109 (by decide) (by unfold e3; omega) (by decide) (by decide)
  have s61 : mL (sI M60 243 (nI 0).toNatClampNeg (vp_nar .char (nI 109))) 179 78 = lN 1 := s60
  generalize sI M60 243 (nI 0).toNatClampNeg (vp_nar .char (nI 109)) = M61 at h61 s61 ⊢
  refine AW.re (bc' := 15) (bs' := 5189) (pc' := 1406) rfl rfl rfl ?_
  refine C.dup dX13_init_1406 rfl ?_
  refine C.iconst (nI 1) dX13_init_1407 (by decide) ?_
  refine C.bipush (nI 105) dX13_init_1408 (by decide) ?_
  refine C.cast (h61.a (t := 3) (.head _)) (n_in (by decide)) dX13_init_1410 ?_
  have h62 := h61.ch 243 1 105 (by decide) (by unfold e3; omega) (by decide) (by decide)
  have s62 : mL (sI M61 243 (nI 1).toNatClampNeg (vp_nar .char (nI 105))) 179 78 = lN 1 := s61
  generalize sI M61 243 (nI 1).toNatClampNeg (vp_nar .char (nI 105)) = M62 at h62 s62 ⊢
  refine AW.re (bc' := 15) (bs' := 5189) (pc' := 1411) rfl rfl rfl ?_
  refine C.dup dX13_init_1411 rfl ?_
  refine C.iconst (nI 2) dX13_init_1412 (by decide) ?_
  refine C.bipush (nI 110) dX13_init_1413 (by decide) ?_
  refine C.cast (h62.a (t := 3) (.head _)) (n_in (by decide)) dX13_init_1415 ?_
  have h63 := h62.ch 243 2 110 (by decide) (by unfold e3; omega) (by decide) (by decide)
  have s63 : mL (sI M62 243 (nI 2).toNatClampNeg (vp_nar .char (nI 110))) 179 78 = lN 1 := s62
  generalize sI M62 243 (nI 2).toNatClampNeg (vp_nar .char (nI 110)) = M63 at h63 s63 ⊢
  refine AW.re (bc' := 15) (bs' := 5189) (pc' := 1416) rfl rfl rfl ?_
  refine C.putA fX13_213 (Or.inr ⟨hnm, rfl⟩) dX13_init_1416 (h63.o (c := 13) (.tail _ (.tail _ (.tail _ (.tail _ (.tail _ (.tail _ (.tail _ (.tail _ (.tail _ (.tail _ (.tail _ rmm4)))))))))))) ?_
  have h64 := h63.putR 179 89 243 (by decide) (by unfold e3; omega) (by decide +kernel)
  have s64 : mL (sR M63 179 89 (some 243)) 179 78 = lN 1 := s63
  generalize sR M63 179 89 (some 243) = M64 at h64 s64 ⊢
  refine AW.re (bc' := 15) (bs' := 5189) (pc' := 1419) rfl rfl rfl ?_
  refine C.aload_n dX13_init_1419 0 rfl ?_
  refine C.iconst (nI 3) dX13_init_1420 (by decide) ?_
  refine C.newa (t := 3) (by decide) rfl ac_char dX13_init_1421 rfl (by decide) (by decide) (by decide) ?_
  rw [h64.1.1]
  have h65 := h64.new (100 + 3) 3 245 rfl
  have s65 : mL (nM M64 (100 + 3) 3) 179 78 = lN 1 := by rw [mL_nM, if_neg (by rw [h64.1.1]; decide)]; exact s64
  generalize nM M64 (100 + 3) 3 = M65 at h65 s65 ⊢
  refine AW.re (bc' := 14) (bs' := 5186) (pc' := 1423) rfl rfl rfl ?_
  refine C.dup dX13_init_1423 rfl ?_
  refine C.iconst (nI 0) dX13_init_1424 (by decide) ?_
  refine C.bipush (nI 109) dX13_init_1425 (by decide) ?_
  refine C.cast (h65.a (t := 3) (.head _)) (n_in (by decide)) dX13_init_1427 ?_
  have h66 := h65.ch 244 0 109 (by decide) (by unfold e3; omega) (by decide) (by decide)
  have s66 : mL (sI M65 244 (nI 0).toNatClampNeg (vp_nar .char (nI 109))) 179 78 = lN 1 := s65
  generalize sI M65 244 (nI 0).toNatClampNeg (vp_nar .char (nI 109)) = M66 at h66 s66 ⊢
  refine AW.re (bc' := 14) (bs' := 5186) (pc' := 1428) rfl rfl rfl ?_
  refine C.dup dX13_init_1428 rfl ?_
  refine C.iconst (nI 1) dX13_init_1429 (by decide) ?_
  refine C.bipush (nI 97) dX13_init_1430 (by decide) ?_
  refine C.cast (h66.a (t := 3) (.head _)) (n_in (by decide)) dX13_init_1432 ?_
  have h67 := h66.ch 244 1 97 (by decide) (by unfold e3; omega) (by decide) (by decide)
  have s67 : mL (sI M66 244 (nI 1).toNatClampNeg (vp_nar .char (nI 97))) 179 78 = lN 1 := s66
  generalize sI M66 244 (nI 1).toNatClampNeg (vp_nar .char (nI 97)) = M67 at h67 s67 ⊢
  refine AW.re (bc' := 14) (bs' := 5186) (pc' := 1433) rfl rfl rfl ?_
  refine C.dup dX13_init_1433 rfl ?_
  refine C.iconst (nI 2) dX13_init_1434 (by decide) ?_
  refine C.bipush (nI 120) dX13_init_1435 (by decide) ?_
  refine C.cast (h67.a (t := 3) (.head _)) (n_in (by decide)) dX13_init_1437 ?_
  have h68 := h67.ch 244 2 120 (by decide) (by unfold e3; omega) (by decide) (by decide)
  have s68 : mL (sI M67 244 (nI 2).toNatClampNeg (vp_nar .char (nI 120))) 179 78 = lN 1 := s67
  generalize sI M67 244 (nI 2).toNatClampNeg (vp_nar .char (nI 120)) = M68 at h68 s68 ⊢
  refine AW.re (bc' := 14) (bs' := 5186) (pc' := 1438) rfl rfl rfl ?_
  refine C.putA fX13_216 (Or.inr ⟨hnm, rfl⟩) dX13_init_1438 (h68.o (c := 13) (.tail _ (.tail _ (.tail _ (.tail _ (.tail _ (.tail _ (.tail _ (.tail _ (.tail _ (.tail _ (.tail _ (.tail _ rmm4))))))))))))) ?_
  have h69 := h68.putR 179 90 244 (by decide) (by unfold e3; omega) (by decide +kernel)
  have s69 : mL (sR M68 179 90 (some 244)) 179 78 = lN 1 := s68
  generalize sR M68 179 90 (some 244) = M69 at h69 s69 ⊢
  refine AW.re (bc' := 14) (bs' := 5186) (pc' := 1441) rfl rfl rfl ?_
  refine C.aload_n dX13_init_1441 0 rfl ?_
  refine C.iconst (nI 4) dX13_init_1442 (by decide) ?_
  refine C.newa (t := 3) (by decide) rfl ac_char dX13_init_1443 rfl (by decide) (by decide) (by decide) ?_
  rw [h69.1.1]
  have h70 := h69.new (100 + 3) 4 246 rfl
  have s70 : mL (nM M69 (100 + 3) 4) 179 78 = lN 1 := by rw [mL_nM, if_neg (by rw [h69.1.1]; decide)]; exact s69
  generalize nM M69 (100 + 3) 4 = M70 at h70 s70 ⊢
  refine AW.re (bc' := 13) (bs' := 5182) (pc' := 1445) rfl rfl rfl ?_
  refine C.dup dX13_init_1445 rfl ?_
  refine C.iconst (nI 0) dX13_init_1446 (by decide) ?_
  refine C.bipush (nI 104) dX13_init_1447 (by decide) ?_
  refine C.cast (h70.a (t := 3) (.head _)) (n_in (by decide)) dX13_init_1449 ?_
  have h71 := h70.ch 245 0 104 (by decide) (by unfold e3; omega) (by decide) (by decide)
  have s71 : mL (sI M70 245 (nI 0).toNatClampNeg (vp_nar .char (nI 104))) 179 78 = lN 1 := s70
  generalize sI M70 245 (nI 0).toNatClampNeg (vp_nar .char (nI 104)) = M71 at h71 s71 ⊢
  refine AW.re (bc' := 13) (bs' := 5182) (pc' := 1450) rfl rfl rfl ?_
  refine C.dup dX13_init_1450 rfl ?_
  refine C.iconst (nI 1) dX13_init_1451 (by decide) ?_
  refine C.bipush (nI 111) dX13_init_1452 (by decide) ?_
  refine C.cast (h71.a (t := 3) (.head _)) (n_in (by decide)) dX13_init_1454 ?_
  have h72 := h71.ch 245 1 111 (by decide) (by unfold e3; omega) (by decide) (by decide)
  have s72 : mL (sI M71 245 (nI 1).toNatClampNeg (vp_nar .char (nI 111))) 179 78 = lN 1 := s71
  generalize sI M71 245 (nI 1).toNatClampNeg (vp_nar .char (nI 111)) = M72 at h72 s72 ⊢
  refine AW.re (bc' := 13) (bs' := 5182) (pc' := 1455) rfl rfl rfl ?_
  refine C.dup dX13_init_1455 rfl ?_
  refine C.iconst (nI 2) dX13_init_1456 (by decide) ?_
  refine C.bipush (nI 117) dX13_init_1457 (by decide) ?_
  refine C.cast (h72.a (t := 3) (.head _)) (n_in (by decide)) dX13_init_1459 ?_
  have h73 := h72.ch 245 2 117 (by decide) (by unfold e3; omega) (by decide) (by decide)
  have s73 : mL (sI M72 245 (nI 2).toNatClampNeg (vp_nar .char (nI 117))) 179 78 = lN 1 := s72
  generalize sI M72 245 (nI 2).toNatClampNeg (vp_nar .char (nI 117)) = M73 at h73 s73 ⊢
  refine AW.re (bc' := 13) (bs' := 5182) (pc' := 1460) rfl rfl rfl ?_
  refine C.dup dX13_init_1460 rfl ?_
  refine C.iconst (nI 3) dX13_init_1461 (by decide) ?_
  refine C.bipush (nI 114) dX13_init_1462 (by decide) ?_
  refine C.cast (h73.a (t := 3) (.head _)) (n_in (by decide)) dX13_init_1464 ?_
  have h74 := h73.ch 245 3 114 (by decide) (by unfold e3; omega) (by decide) (by decide)
  have s74 : mL (sI M73 245 (nI 3).toNatClampNeg (vp_nar .char (nI 114))) 179 78 = lN 1 := s73
  generalize sI M73 245 (nI 3).toNatClampNeg (vp_nar .char (nI 114)) = M74 at h74 s74 ⊢
  refine AW.re (bc' := 13) (bs' := 5182) (pc' := 1465) rfl rfl rfl ?_
  refine C.putA fX13_219 (Or.inr ⟨hnm, rfl⟩) dX13_init_1465 (h74.o (c := 13) (.tail _ (.tail _ (.tail _ (.tail _ (.tail _ (.tail _ (.tail _ (.tail _ (.tail _ (.tail _ (.tail _ (.tail _ (.tail _ rmm4)))))))))))))) ?_
  have h75 := h74.putR 179 91 245 (by decide) (by unfold e3; omega) (by decide +kernel)
  have s75 : mL (sR M74 179 91 (some 245)) 179 78 = lN 1 := s74
  generalize sR M74 179 91 (some 245) = M75 at h75 s75 ⊢
  refine AW.re (bc' := 13) (bs' := 5182) (pc' := 1468) rfl rfl rfl ?_
  refine C.aload_n dX13_init_1468 0 rfl ?_
  refine C.iconst (nI 5) dX13_init_1469 (by decide) ?_
  refine C.newa (t := 3) (by decide) rfl ac_char dX13_init_1470 rfl (by decide) (by decide) (by decide) ?_
  rw [h75.1.1]
  have h76 := h75.new (100 + 3) 5 247 rfl
  have s76 : mL (nM M75 (100 + 3) 5) 179 78 = lN 1 := by rw [mL_nM, if_neg (by rw [h75.1.1]; decide)]; exact s75
  generalize nM M75 (100 + 3) 5 = M76 at h76 s76 ⊢
  refine AW.re (bc' := 12) (bs' := 5177) (pc' := 1472) rfl rfl rfl ?_
  refine C.dup dX13_init_1472 rfl ?_
  refine C.iconst (nI 0) dX13_init_1473 (by decide) ?_
  refine C.bipush (nI 110) dX13_init_1474 (by decide) ?_
  refine C.cast (h76.a (t := 3) (.head _)) (n_in (by decide)) dX13_init_1476 ?_
  have h77 := h76.ch 246 0 110 (by decide) (by unfold e3; omega) (by decide) (by decide)
  have s77 : mL (sI M76 246 (nI 0).toNatClampNeg (vp_nar .char (nI 110))) 179 78 = lN 1 := s76
  generalize sI M76 246 (nI 0).toNatClampNeg (vp_nar .char (nI 110)) = M77 at h77 s77 ⊢
  refine AW.re (bc' := 12) (bs' := 5177) (pc' := 1477) rfl rfl rfl ?_
  refine C.dup dX13_init_1477 rfl ?_
  refine C.iconst (nI 1) dX13_init_1478 (by decide) ?_
  refine C.bipush (nI 105) dX13_init_1479 (by decide) ?_
  refine C.cast (h77.a (t := 3) (.head _)) (n_in (by decide)) dX13_init_1481 ?_
  have h78 := h77.ch 246 1 105 (by decide) (by unfold e3; omega) (by decide) (by decide)
  have s78 : mL (sI M77 246 (nI 1).toNatClampNeg (vp_nar .char (nI 105))) 179 78 = lN 1 := s77
  generalize sI M77 246 (nI 1).toNatClampNeg (vp_nar .char (nI 105)) = M78 at h78 s78 ⊢
  refine AW.re (bc' := 12) (bs' := 5177) (pc' := 1482) rfl rfl rfl ?_
  refine C.dup dX13_init_1482 rfl ?_
  refine C.iconst (nI 2) dX13_init_1483 (by decide) ?_
  refine C.bipush (nI 103) dX13_init_1484 (by decide) ?_
  refine C.cast (h78.a (t := 3) (.head _)) (n_in (by decide)) dX13_init_1486 ?_
  have h79 := h78.ch 246 2 103 (by decide) (by unfold e3; omega) (by decide) (by decide)
  have s79 : mL (sI M78 246 (nI 2).toNatClampNeg (vp_nar .char (nI 103))) 179 78 = lN 1 := s78
  generalize sI M78 246 (nI 2).toNatClampNeg (vp_nar .char (nI 103)) = M79 at h79 s79 ⊢
  refine AW.re (bc' := 12) (bs' := 5177) (pc' := 1487) rfl rfl rfl ?_
  refine C.dup dX13_init_1487 rfl ?_
  refine C.iconst (nI 3) dX13_init_1488 (by decide) ?_
  refine C.bipush (nI 104) dX13_init_1489 (by decide) ?_
  refine C.cast (h79.a (t := 3) (.head _)) (n_in (by decide)) dX13_init_1491 ?_
  have h80 := h79.ch 246 3 104 (by decide) (by unfold e3; omega) (by decide) (by decide)
  have s80 : mL (sI M79 246 (nI 3).toNatClampNeg (vp_nar .char (nI 104))) 179 78 = lN 1 := s79
  generalize sI M79 246 (nI 3).toNatClampNeg (vp_nar .char (nI 104)) = M80 at h80 s80 ⊢
  refine AW.re (bc' := 12) (bs' := 5177) (pc' := 1492) rfl rfl rfl ?_
  refine C.dup dX13_init_1492 rfl ?_
  refine C.iconst (nI 4) dX13_init_1493 (by decide) ?_
  refine C.bipush (nI 116) dX13_init_1494 (by decide) ?_
  refine C.cast (h80.a (t := 3) (.head _)) (n_in (by decide)) dX13_init_1496 ?_
  have h81 := h80.ch 246 4 116 (by decide) (by unfold e3; omega) (by decide) (by decide)
  have s81 : mL (sI M80 246 (nI 4).toNatClampNeg (vp_nar .char (nI 116))) 179 78 = lN 1 := s80
  generalize sI M80 246 (nI 4).toNatClampNeg (vp_nar .char (nI 116)) = M81 at h81 s81 ⊢
  refine AW.re (bc' := 12) (bs' := 5177) (pc' := 1497) rfl rfl rfl ?_
  refine C.putA fX13_222 (Or.inr ⟨hnm, rfl⟩) dX13_init_1497 (h81.o (c := 13) (.tail _ (.tail _ (.tail _ (.tail _ (.tail _ (.tail _ (.tail _ (.tail _ (.tail _ (.tail _ (.tail _ (.tail _ (.tail _ (.tail _ rmm4))))))))))))))) ?_
  have h82 := h81.putR 179 92 246 (by decide) (by unfold e3; omega) (by decide +kernel)
  have s82 : mL (sR M81 179 92 (some 246)) 179 78 = lN 1 := s81
  generalize sR M81 179 92 (some 246) = M82 at h82 s82 ⊢
  refine AW.re (bc' := 12) (bs' := 5177) (pc' := 1500) rfl rfl rfl ?_
  exact k M82 h82 s82
def rK6 : List (Nat × Nat × Nat) := (258, 100, 40) :: (257, 101, 1700) :: (256, 100, 1700) :: (255, 100, 1700) :: (254, 103, 4) :: (253, 103, 4) :: (252, 103, 6) :: (251, 103, 5) :: (250, 103, 3) :: (249, 103, 6) :: (248, 103, 3) :: (247, 103, 6) :: rK5
def rR6 : List (Nat × Nat × Nat) := (179, 111, 258) :: (179, 107, 257) :: (179, 103, 256) :: (179, 101, 255) :: (179, 100, 254) :: (179, 99, 253) :: (179, 98, 252) :: (179, 97, 251) :: (179, 96, 250) :: (179, 95, 249) :: (179, 94, 248) :: (179, 93, 247) :: rR5
def rV6 : List (Nat × Nat × Int32) := (254, 3, nI 114) :: (254, 2, nI 97) :: (254, 1, nI 101) :: (254, 0, nI 110) :: (253, 3, nI 101) :: (253, 2, nI 110) :: (253, 1, nI 111) :: (253, 0, nI 103) :: (252, 5, nI 114) :: (252, 4, nI 101) :: (252, 3, nI 98) :: (252, 2, nI 109) :: (252, 1, nI 117) :: (252, 0, nI 110) :: (251, 4, nI 101) :: (251, 3, nI 115) :: (251, 2, nI 114) :: (251, 1, nI 117) :: (251, 0, nI 112) :: (250, 2, nI 116) :: (250, 1, nI 101) :: (250, 0, nI 109) :: (249, 5, nI 114) :: (249, 4, nI 101) :: (249, 3, nI 110) :: (249, 2, nI 110) :: (249, 1, nI 97) :: (249, 0, nI 109) :: (248, 2, nI 119) :: (248, 1, nI 111) :: (248, 0, nI 114) :: (247, 5, nI 110) :: (247, 4, nI 109) :: (247, 3, nI 117) :: (247, 2, nI 108) :: (247, 1, nI 111) :: (247, 0, nI 99) :: rV5
theorem rmm6 : (179, 13, nF 13) ∈ rK6 := by decide +kernel
theorem kri6 {M : Mm} (C : Cok l G X mtX13_init.2.1 mtX13_init.1.cls 1 mtX13_init.2.2.2) (hnm : X.2.1.2.2.2.1.name = mtX13_init.1.name) (h : Mk Z e3 247 rK5 rR5 rV5 M) (s0 : mL M 179 78 = lN 1) (k : (∀ M, Mk Z e3 259 rK6 rR6 rV6 M → mL M 179 78 = lN 1 → AW l G X 0 0 1779 [(0, .ref (G.1 + 179))] [] M)) : AW l G X 12 5177 1500 [(0, .ref (G.1 + 179))] [] M := by
  refine C.aload_n dX13_init_1500 0 rfl ?_
  refine C.bipush (nI 6) dX13_init_1501 (by decide) ?_
  refine C.newa (t := 3) (by decide) rfl ac_char dX13_init_1503 rfl (by decide) (by decide) (by decide) ?_
  rw [h.1.1]
  have h1 := h.new (100 + 3) 6 248 rfl
  have s1 : mL (nM M (100 + 3) 6) 179 78 = lN 1 := by rw [mL_nM, if_neg (by rw [h.1.1]; decide)]; exact s0
  generalize nM M (100 + 3) 6 = M1 at h1 s1 ⊢
  refine AW.re (bc' := 11) (bs' := 5171) (pc' := 1505) rfl rfl rfl ?_
  refine C.dup dX13_init_1505 rfl ?_
  refine C.iconst (nI 0) dX13_init_1506 (by decide) ?_
  refine C.bipush (nI 99) dX13_init_1507 (by decide) ?_
  refine C.cast (h1.a (t := 3) (.head _)) (n_in (by decide)) dX13_init_1509 ?_
  have h2 := h1.ch 247 0 99 (by decide) (by unfold e3; omega) (by decide) (by decide)
  have s2 : mL (sI M1 247 (nI 0).toNatClampNeg (vp_nar .char (nI 99))) 179 78 = lN 1 := s1
  generalize sI M1 247 (nI 0).toNatClampNeg (vp_nar .char (nI 99)) = M2 at h2 s2 ⊢
  refine AW.re (bc' := 11) (bs' := 5171) (pc' := 1510) rfl rfl rfl ?_
  refine C.dup dX13_init_1510 rfl ?_
  refine C.iconst (nI 1) dX13_init_1511 (by decide) ?_
  refine C.bipush (nI 111) dX13_init_1512 (by decide) ?_
  refine C.cast (h2.a (t := 3) (.head _)) (n_in (by decide)) dX13_init_1514 ?_
  have h3 := h2.ch 247 1 111 (by decide) (by unfold e3; omega) (by decide) (by decide)
  have s3 : mL (sI M2 247 (nI 1).toNatClampNeg (vp_nar .char (nI 111))) 179 78 = lN 1 := s2
  generalize sI M2 247 (nI 1).toNatClampNeg (vp_nar .char (nI 111)) = M3 at h3 s3 ⊢
  refine AW.re (bc' := 11) (bs' := 5171) (pc' := 1515) rfl rfl rfl ?_
  refine C.dup dX13_init_1515 rfl ?_
  refine C.iconst (nI 2) dX13_init_1516 (by decide) ?_
  refine C.bipush (nI 108) dX13_init_1517 (by decide) ?_
  refine C.cast (h3.a (t := 3) (.head _)) (n_in (by decide)) dX13_init_1519 ?_
  have h4 := h3.ch 247 2 108 (by decide) (by unfold e3; omega) (by decide) (by decide)
  have s4 : mL (sI M3 247 (nI 2).toNatClampNeg (vp_nar .char (nI 108))) 179 78 = lN 1 := s3
  generalize sI M3 247 (nI 2).toNatClampNeg (vp_nar .char (nI 108)) = M4 at h4 s4 ⊢
  refine AW.re (bc' := 11) (bs' := 5171) (pc' := 1520) rfl rfl rfl ?_
  refine C.dup dX13_init_1520 rfl ?_
  refine C.iconst (nI 3) dX13_init_1521 (by decide) ?_
  refine C.bipush (nI 117) dX13_init_1522 (by decide) ?_
  refine C.cast (h4.a (t := 3) (.head _)) (n_in (by decide)) dX13_init_1524 ?_
  have h5 := h4.ch 247 3 117 (by decide) (by unfold e3; omega) (by decide) (by decide)
  have s5 : mL (sI M4 247 (nI 3).toNatClampNeg (vp_nar .char (nI 117))) 179 78 = lN 1 := s4
  generalize sI M4 247 (nI 3).toNatClampNeg (vp_nar .char (nI 117)) = M5 at h5 s5 ⊢
  refine AW.re (bc' := 11) (bs' := 5171) (pc' := 1525) rfl rfl rfl ?_
  refine C.dup dX13_init_1525 rfl ?_
  refine C.iconst (nI 4) dX13_init_1526 (by decide) ?_
  refine C.bipush (nI 109) dX13_init_1527 (by decide) ?_
  refine C.cast (h5.a (t := 3) (.head _)) (n_in (by decide)) dX13_init_1529 ?_
  have h6 := h5.ch 247 4 109 (by decide) (by unfold e3; omega) (by decide) (by decide)
  have s6 : mL (sI M5 247 (nI 4).toNatClampNeg (vp_nar .char (nI 109))) 179 78 = lN 1 := s5
  generalize sI M5 247 (nI 4).toNatClampNeg (vp_nar .char (nI 109)) = M6 at h6 s6 ⊢
  refine AW.re (bc' := 11) (bs' := 5171) (pc' := 1530) rfl rfl rfl ?_
  refine C.dup dX13_init_1530 rfl ?_
  refine C.iconst (nI 5) dX13_init_1531 (by decide) ?_
  refine C.bipush (nI 110) dX13_init_1532 (by decide) ?_
  refine C.cast (h6.a (t := 3) (.head _)) (n_in (by decide)) dX13_init_1534 ?_
  have h7 := h6.ch 247 5 110 (by decide) (by unfold e3; omega) (by decide) (by decide)
  have s7 : mL (sI M6 247 (nI 5).toNatClampNeg (vp_nar .char (nI 110))) 179 78 = lN 1 := s6
  generalize sI M6 247 (nI 5).toNatClampNeg (vp_nar .char (nI 110)) = M7 at h7 s7 ⊢
  refine AW.re (bc' := 11) (bs' := 5171) (pc' := 1535) rfl rfl rfl ?_
  refine C.putA fX13_225 (Or.inr ⟨hnm, rfl⟩) dX13_init_1535 (h7.o (c := 13) (.tail _ rmm5)) ?_
  have h8 := h7.putR 179 93 247 (by decide) (by unfold e3; omega) (by decide +kernel)
  have s8 : mL (sR M7 179 93 (some 247)) 179 78 = lN 1 := s7
  generalize sR M7 179 93 (some 247) = M8 at h8 s8 ⊢
  refine AW.re (bc' := 11) (bs' := 5171) (pc' := 1538) rfl rfl rfl ?_
  refine C.aload_n dX13_init_1538 0 rfl ?_
  refine C.iconst (nI 3) dX13_init_1539 (by decide) ?_
  refine C.newa (t := 3) (by decide) rfl ac_char dX13_init_1540 rfl (by decide) (by decide) (by decide) ?_
  rw [h8.1.1]
  have h9 := h8.new (100 + 3) 3 249 rfl
  have s9 : mL (nM M8 (100 + 3) 3) 179 78 = lN 1 := by rw [mL_nM, if_neg (by rw [h8.1.1]; decide)]; exact s8
  generalize nM M8 (100 + 3) 3 = M9 at h9 s9 ⊢
  refine AW.re (bc' := 10) (bs' := 5168) (pc' := 1542) rfl rfl rfl ?_
  refine C.dup dX13_init_1542 rfl ?_
  refine C.iconst (nI 0) dX13_init_1543 (by decide) ?_
  refine C.bipush (nI 114) dX13_init_1544 (by decide) ?_
  refine C.cast (h9.a (t := 3) (.head _)) (n_in (by decide)) dX13_init_1546 ?_
  have h10 := h9.ch 248 0 114 (by decide) (by unfold e3; omega) (by decide) (by decide)
  have s10 : mL (sI M9 248 (nI 0).toNatClampNeg (vp_nar .char (nI 114))) 179 78 = lN 1 := s9
  generalize sI M9 248 (nI 0).toNatClampNeg (vp_nar .char (nI 114)) = M10 at h10 s10 ⊢
  refine AW.re (bc' := 10) (bs' := 5168) (pc' := 1547) rfl rfl rfl ?_
  refine C.dup dX13_init_1547 rfl ?_
  refine C.iconst (nI 1) dX13_init_1548 (by decide) ?_
  refine C.bipush (nI 111) dX13_init_1549 (by decide) ?_
  refine C.cast (h10.a (t := 3) (.head _)) (n_in (by decide)) dX13_init_1551 ?_
  have h11 := h10.ch 248 1 111 (by decide) (by unfold e3; omega) (by decide) (by decide)
  have s11 : mL (sI M10 248 (nI 1).toNatClampNeg (vp_nar .char (nI 111))) 179 78 = lN 1 := s10
  generalize sI M10 248 (nI 1).toNatClampNeg (vp_nar .char (nI 111)) = M11 at h11 s11 ⊢
  refine AW.re (bc' := 10) (bs' := 5168) (pc' := 1552) rfl rfl rfl ?_
  refine C.dup dX13_init_1552 rfl ?_
  refine C.iconst (nI 2) dX13_init_1553 (by decide) ?_
  refine C.bipush (nI 119) dX13_init_1554 (by decide) ?_
  refine C.cast (h11.a (t := 3) (.head _)) (n_in (by decide)) dX13_init_1556 ?_
  have h12 := h11.ch 248 2 119 (by decide) (by unfold e3; omega) (by decide) (by decide)
  have s12 : mL (sI M11 248 (nI 2).toNatClampNeg (vp_nar .char (nI 119))) 179 78 = lN 1 := s11
  generalize sI M11 248 (nI 2).toNatClampNeg (vp_nar .char (nI 119)) = M12 at h12 s12 ⊢
  refine AW.re (bc' := 10) (bs' := 5168) (pc' := 1557) rfl rfl rfl ?_
  refine C.putA fX13_228 (Or.inr ⟨hnm, rfl⟩) dX13_init_1557 (h12.o (c := 13) (.tail _ (.tail _ rmm5))) ?_
  have h13 := h12.putR 179 94 248 (by decide) (by unfold e3; omega) (by decide +kernel)
  have s13 : mL (sR M12 179 94 (some 248)) 179 78 = lN 1 := s12
  generalize sR M12 179 94 (some 248) = M13 at h13 s13 ⊢
  refine AW.re (bc' := 10) (bs' := 5168) (pc' := 1560) rfl rfl rfl ?_
  refine C.aload_n dX13_init_1560 0 rfl ?_
  refine C.bipush (nI 6) dX13_init_1561 (by decide) ?_
  refine C.newa (t := 3) (by decide) rfl ac_char dX13_init_1563 rfl (by decide) (by decide) (by decide) ?_
  rw [h13.1.1]
  have h14 := h13.new (100 + 3) 6 250 rfl
  have s14 : mL (nM M13 (100 + 3) 6) 179 78 = lN 1 := by rw [mL_nM, if_neg (by rw [h13.1.1]; decide)]; exact s13
  generalize nM M13 (100 + 3) 6 = M14 at h14 s14 ⊢
  refine AW.re (bc' := 9) (bs' := 5162) (pc' := 1565) rfl rfl rfl ?_
  refine C.dup dX13_init_1565 rfl ?_
  refine C.iconst (nI 0) dX13_init_1566 (by decide) ?_
  refine C.bipush (nI 109) dX13_init_1567 (by decide) ?_
  refine C.cast (h14.a (t := 3) (.head _)) (n_in (by decide)) dX13_init_1569 ?_
  have h15 := h14.ch 249 0 109 (by decide) (by unfold e3; omega) (by decide) (by decide)
  have s15 : mL (sI M14 249 (nI 0).toNatClampNeg (vp_nar .char (nI 109))) 179 78 = lN 1 := s14
  generalize sI M14 249 (nI 0).toNatClampNeg (vp_nar .char (nI 109)) = M15 at h15 s15 ⊢
  refine AW.re (bc' := 9) (bs' := 5162) (pc' := 1570) rfl rfl rfl ?_
  refine C.dup dX13_init_1570 rfl ?_
  refine C.iconst (nI 1) dX13_init_1571 (by decide) ?_
  refine C.bipush (nI 97) dX13_init_1572 (by decide) ?_
  refine C.cast (h15.a (t := 3) (.head _)) (n_in (by decide)) dX13_init_1574 ?_
  have h16 := h15.ch 249 1 97 (by decide) (by unfold e3; omega) (by decide) (by decide)
  have s16 : mL (sI M15 249 (nI 1).toNatClampNeg (vp_nar .char (nI 97))) 179 78 = lN 1 := s15
  generalize sI M15 249 (nI 1).toNatClampNeg (vp_nar .char (nI 97)) = M16 at h16 s16 ⊢
  refine AW.re (bc' := 9) (bs' := 5162) (pc' := 1575) rfl rfl rfl ?_
  refine C.dup dX13_init_1575 rfl ?_
  refine C.iconst (nI 2) dX13_init_1576 (by decide) ?_
  refine C.bipush (nI 110) dX13_init_1577 (by decide) ?_
  refine C.cast (h16.a (t := 3) (.head _)) (n_in (by decide)) dX13_init_1579 ?_
  have h17 := h16.ch 249 2 110 (by decide) (by unfold e3; omega) (by decide) (by decide)
  have s17 : mL (sI M16 249 (nI 2).toNatClampNeg (vp_nar .char (nI 110))) 179 78 = lN 1 := s16
  generalize sI M16 249 (nI 2).toNatClampNeg (vp_nar .char (nI 110)) = M17 at h17 s17 ⊢
  refine AW.re (bc' := 9) (bs' := 5162) (pc' := 1580) rfl rfl rfl ?_
  refine C.dup dX13_init_1580 rfl ?_
  refine C.iconst (nI 3) dX13_init_1581 (by decide) ?_
  refine C.bipush (nI 110) dX13_init_1582 (by decide) ?_
  refine C.cast (h17.a (t := 3) (.head _)) (n_in (by decide)) dX13_init_1584 ?_
  have h18 := h17.ch 249 3 110 (by decide) (by unfold e3; omega) (by decide) (by decide)
  have s18 : mL (sI M17 249 (nI 3).toNatClampNeg (vp_nar .char (nI 110))) 179 78 = lN 1 := s17
  generalize sI M17 249 (nI 3).toNatClampNeg (vp_nar .char (nI 110)) = M18 at h18 s18 ⊢
  refine AW.re (bc' := 9) (bs' := 5162) (pc' := 1585) rfl rfl rfl ?_
  refine C.dup dX13_init_1585 rfl ?_
  refine C.iconst (nI 4) dX13_init_1586 (by decide) ?_
  refine C.bipush (nI 101) dX13_init_1587 (by decide) ?_
  refine C.cast (h18.a (t := 3) (.head _)) (n_in (by decide)) dX13_init_1589 ?_
  have h19 := h18.ch 249 4 101 (by decide) (by unfold e3; omega) (by decide) (by decide)
  have s19 : mL (sI M18 249 (nI 4).toNatClampNeg (vp_nar .char (nI 101))) 179 78 = lN 1 := s18
  generalize sI M18 249 (nI 4).toNatClampNeg (vp_nar .char (nI 101)) = M19 at h19 s19 ⊢
  refine AW.re (bc' := 9) (bs' := 5162) (pc' := 1590) rfl rfl rfl ?_
  refine C.dup dX13_init_1590 rfl ?_
  refine C.iconst (nI 5) dX13_init_1591 (by decide) ?_
  refine C.bipush (nI 114) dX13_init_1592 (by decide) ?_
  refine C.cast (h19.a (t := 3) (.head _)) (n_in (by decide)) dX13_init_1594 ?_
  have h20 := h19.ch 249 5 114 (by decide) (by unfold e3; omega) (by decide) (by decide)
  have s20 : mL (sI M19 249 (nI 5).toNatClampNeg (vp_nar .char (nI 114))) 179 78 = lN 1 := s19
  generalize sI M19 249 (nI 5).toNatClampNeg (vp_nar .char (nI 114)) = M20 at h20 s20 ⊢
  refine AW.re (bc' := 9) (bs' := 5162) (pc' := 1595) rfl rfl rfl ?_
  refine C.putA fX13_231 (Or.inr ⟨hnm, rfl⟩) dX13_init_1595 (h20.o (c := 13) (.tail _ (.tail _ (.tail _ rmm5)))) ?_
  have h21 := h20.putR 179 95 249 (by decide) (by unfold e3; omega) (by decide +kernel)
  have s21 : mL (sR M20 179 95 (some 249)) 179 78 = lN 1 := s20
  generalize sR M20 179 95 (some 249) = M21 at h21 s21 ⊢
  refine AW.re (bc' := 9) (bs' := 5162) (pc' := 1598) rfl rfl rfl ?_
  refine C.aload_n dX13_init_1598 0 rfl ?_
  refine C.iconst (nI 3) dX13_init_1599 (by decide) ?_
  refine C.newa (t := 3) (by decide) rfl ac_char dX13_init_1600 rfl (by decide) (by decide) (by decide) ?_
  rw [h21.1.1]
  have h22 := h21.new (100 + 3) 3 251 rfl
  have s22 : mL (nM M21 (100 + 3) 3) 179 78 = lN 1 := by rw [mL_nM, if_neg (by rw [h21.1.1]; decide)]; exact s21
  generalize nM M21 (100 + 3) 3 = M22 at h22 s22 ⊢
  refine AW.re (bc' := 8) (bs' := 5159) (pc' := 1602) rfl rfl rfl ?_
  refine C.dup dX13_init_1602 rfl ?_
  refine C.iconst (nI 0) dX13_init_1603 (by decide) ?_
  refine C.bipush (nI 109) dX13_init_1604 (by decide) ?_
  refine C.cast (h22.a (t := 3) (.head _)) (n_in (by decide)) dX13_init_1606 ?_
  have h23 := h22.ch 250 0 109 (by decide) (by unfold e3; omega) (by decide) (by decide)
  have s23 : mL (sI M22 250 (nI 0).toNatClampNeg (vp_nar .char (nI 109))) 179 78 = lN 1 := s22
  generalize sI M22 250 (nI 0).toNatClampNeg (vp_nar .char (nI 109)) = M23 at h23 s23 ⊢
  refine AW.re (bc' := 8) (bs' := 5159) (pc' := 1607) rfl rfl rfl ?_
  refine C.dup dX13_init_1607 rfl ?_
  refine C.iconst (nI 1) dX13_init_1608 (by decide) ?_
  refine C.bipush (nI 101) dX13_init_1609 (by decide) ?_
  refine C.cast (h23.a (t := 3) (.head _)) (n_in (by decide)) dX13_init_1611 ?_
  have h24 := h23.ch 250 1 101 (by decide) (by unfold e3; omega) (by decide) (by decide)
  have s24 : mL (sI M23 250 (nI 1).toNatClampNeg (vp_nar .char (nI 101))) 179 78 = lN 1 := s23
  generalize sI M23 250 (nI 1).toNatClampNeg (vp_nar .char (nI 101)) = M24 at h24 s24 ⊢
  refine AW.re (bc' := 8) (bs' := 5159) (pc' := 1612) rfl rfl rfl ?_
  refine C.dup dX13_init_1612 rfl ?_
  refine C.iconst (nI 2) dX13_init_1613 (by decide) ?_
  refine C.bipush (nI 116) dX13_init_1614 (by decide) ?_
  refine C.cast (h24.a (t := 3) (.head _)) (n_in (by decide)) dX13_init_1616 ?_
  have h25 := h24.ch 250 2 116 (by decide) (by unfold e3; omega) (by decide) (by decide)
  have s25 : mL (sI M24 250 (nI 2).toNatClampNeg (vp_nar .char (nI 116))) 179 78 = lN 1 := s24
  generalize sI M24 250 (nI 2).toNatClampNeg (vp_nar .char (nI 116)) = M25 at h25 s25 ⊢
  refine AW.re (bc' := 8) (bs' := 5159) (pc' := 1617) rfl rfl rfl ?_
  refine C.putA fX13_234 (Or.inr ⟨hnm, rfl⟩) dX13_init_1617 (h25.o (c := 13) (.tail _ (.tail _ (.tail _ (.tail _ rmm5))))) ?_
  have h26 := h25.putR 179 96 250 (by decide) (by unfold e3; omega) (by decide +kernel)
  have s26 : mL (sR M25 179 96 (some 250)) 179 78 = lN 1 := s25
  generalize sR M25 179 96 (some 250) = M26 at h26 s26 ⊢
  refine AW.re (bc' := 8) (bs' := 5159) (pc' := 1620) rfl rfl rfl ?_
  refine C.aload_n dX13_init_1620 0 rfl ?_
  refine C.iconst (nI 5) dX13_init_1621 (by decide) ?_
  refine C.newa (t := 3) (by decide) rfl ac_char dX13_init_1622 rfl (by decide) (by decide) (by decide) ?_
  rw [h26.1.1]
  have h27 := h26.new (100 + 3) 5 252 rfl
  have s27 : mL (nM M26 (100 + 3) 5) 179 78 = lN 1 := by rw [mL_nM, if_neg (by rw [h26.1.1]; decide)]; exact s26
  generalize nM M26 (100 + 3) 5 = M27 at h27 s27 ⊢
  refine AW.re (bc' := 7) (bs' := 5154) (pc' := 1624) rfl rfl rfl ?_
  refine C.dup dX13_init_1624 rfl ?_
  refine C.iconst (nI 0) dX13_init_1625 (by decide) ?_
  refine C.bipush (nI 112) dX13_init_1626 (by decide) ?_
  refine C.cast (h27.a (t := 3) (.head _)) (n_in (by decide)) dX13_init_1628 ?_
  have h28 := h27.ch 251 0 112 (by decide) (by unfold e3; omega) (by decide) (by decide)
  have s28 : mL (sI M27 251 (nI 0).toNatClampNeg (vp_nar .char (nI 112))) 179 78 = lN 1 := s27
  generalize sI M27 251 (nI 0).toNatClampNeg (vp_nar .char (nI 112)) = M28 at h28 s28 ⊢
  refine AW.re (bc' := 7) (bs' := 5154) (pc' := 1629) rfl rfl rfl ?_
  refine C.dup dX13_init_1629 rfl ?_
  refine C.iconst (nI 1) dX13_init_1630 (by decide) ?_
  refine C.bipush (nI 117) dX13_init_1631 (by decide) ?_
  refine C.cast (h28.a (t := 3) (.head _)) (n_in (by decide)) dX13_init_1633 ?_
  have h29 := h28.ch 251 1 117 (by decide) (by unfold e3; omega) (by decide) (by decide)
  have s29 : mL (sI M28 251 (nI 1).toNatClampNeg (vp_nar .char (nI 117))) 179 78 = lN 1 := s28
  generalize sI M28 251 (nI 1).toNatClampNeg (vp_nar .char (nI 117)) = M29 at h29 s29 ⊢
  refine AW.re (bc' := 7) (bs' := 5154) (pc' := 1634) rfl rfl rfl ?_
  refine C.dup dX13_init_1634 rfl ?_
  refine C.iconst (nI 2) dX13_init_1635 (by decide) ?_
  refine C.bipush (nI 114) dX13_init_1636 (by decide) ?_
  refine C.cast (h29.a (t := 3) (.head _)) (n_in (by decide)) dX13_init_1638 ?_
  have h30 := h29.ch 251 2 114 (by decide) (by unfold e3; omega) (by decide) (by decide)
  have s30 : mL (sI M29 251 (nI 2).toNatClampNeg (vp_nar .char (nI 114))) 179 78 = lN 1 := s29
  generalize sI M29 251 (nI 2).toNatClampNeg (vp_nar .char (nI 114)) = M30 at h30 s30 ⊢
  refine AW.re (bc' := 7) (bs' := 5154) (pc' := 1639) rfl rfl rfl ?_
  refine C.dup dX13_init_1639 rfl ?_
  refine C.iconst (nI 3) dX13_init_1640 (by decide) ?_
  refine C.bipush (nI 115) dX13_init_1641 (by decide) ?_
  refine C.cast (h30.a (t := 3) (.head _)) (n_in (by decide)) dX13_init_1643 ?_
  have h31 := h30.ch 251 3 115 (by decide) (by unfold e3; omega) (by decide) (by decide)
  have s31 : mL (sI M30 251 (nI 3).toNatClampNeg (vp_nar .char (nI 115))) 179 78 = lN 1 := s30
  generalize sI M30 251 (nI 3).toNatClampNeg (vp_nar .char (nI 115)) = M31 at h31 s31 ⊢
  refine AW.re (bc' := 7) (bs' := 5154) (pc' := 1644) rfl rfl rfl ?_
  refine C.dup dX13_init_1644 rfl ?_
  refine C.iconst (nI 4) dX13_init_1645 (by decide) ?_
  refine C.bipush (nI 101) dX13_init_1646 (by decide) ?_
  refine C.cast (h31.a (t := 3) (.head _)) (n_in (by decide)) dX13_init_1648 ?_
  have h32 := h31.ch 251 4 101 (by decide) (by unfold e3; omega) (by decide) (by decide)
  have s32 : mL (sI M31 251 (nI 4).toNatClampNeg (vp_nar .char (nI 101))) 179 78 = lN 1 := s31
  generalize sI M31 251 (nI 4).toNatClampNeg (vp_nar .char (nI 101)) = M32 at h32 s32 ⊢
  refine AW.re (bc' := 7) (bs' := 5154) (pc' := 1649) rfl rfl rfl ?_
  refine C.putA fX13_237 (Or.inr ⟨hnm, rfl⟩) dX13_init_1649 (h32.o (c := 13) (.tail _ (.tail _ (.tail _ (.tail _ (.tail _ rmm5)))))) ?_
  have h33 := h32.putR 179 97 251 (by decide) (by unfold e3; omega) (by decide +kernel)
  have s33 : mL (sR M32 179 97 (some 251)) 179 78 = lN 1 := s32
  generalize sR M32 179 97 (some 251) = M33 at h33 s33 ⊢
  refine AW.re (bc' := 7) (bs' := 5154) (pc' := 1652) rfl rfl rfl ?_
  refine C.aload_n dX13_init_1652 0 rfl ?_
  refine C.bipush (nI 6) dX13_init_1653 (by decide) ?_
  refine C.newa (t := 3) (by decide) rfl ac_char dX13_init_1655 rfl (by decide) (by decide) (by decide) ?_
  rw [h33.1.1]
  have h34 := h33.new (100 + 3) 6 253 rfl
  have s34 : mL (nM M33 (100 + 3) 6) 179 78 = lN 1 := by rw [mL_nM, if_neg (by rw [h33.1.1]; decide)]; exact s33
  generalize nM M33 (100 + 3) 6 = M34 at h34 s34 ⊢
  refine AW.re (bc' := 6) (bs' := 5148) (pc' := 1657) rfl rfl rfl ?_
  refine C.dup dX13_init_1657 rfl ?_
  refine C.iconst (nI 0) dX13_init_1658 (by decide) ?_
  refine C.bipush (nI 110) dX13_init_1659 (by decide) ?_
  refine C.cast (h34.a (t := 3) (.head _)) (n_in (by decide)) dX13_init_1661 ?_
  have h35 := h34.ch 252 0 110 (by decide) (by unfold e3; omega) (by decide) (by decide)
  have s35 : mL (sI M34 252 (nI 0).toNatClampNeg (vp_nar .char (nI 110))) 179 78 = lN 1 := s34
  generalize sI M34 252 (nI 0).toNatClampNeg (vp_nar .char (nI 110)) = M35 at h35 s35 ⊢
  refine AW.re (bc' := 6) (bs' := 5148) (pc' := 1662) rfl rfl rfl ?_
  refine C.dup dX13_init_1662 rfl ?_
  refine C.iconst (nI 1) dX13_init_1663 (by decide) ?_
  refine C.bipush (nI 117) dX13_init_1664 (by decide) ?_
  refine C.cast (h35.a (t := 3) (.head _)) (n_in (by decide)) dX13_init_1666 ?_
  have h36 := h35.ch 252 1 117 (by decide) (by unfold e3; omega) (by decide) (by decide)
  have s36 : mL (sI M35 252 (nI 1).toNatClampNeg (vp_nar .char (nI 117))) 179 78 = lN 1 := s35
  generalize sI M35 252 (nI 1).toNatClampNeg (vp_nar .char (nI 117)) = M36 at h36 s36 ⊢
  refine AW.re (bc' := 6) (bs' := 5148) (pc' := 1667) rfl rfl rfl ?_
  refine C.dup dX13_init_1667 rfl ?_
  refine C.iconst (nI 2) dX13_init_1668 (by decide) ?_
  refine C.bipush (nI 109) dX13_init_1669 (by decide) ?_
  refine C.cast (h36.a (t := 3) (.head _)) (n_in (by decide)) dX13_init_1671 ?_
  have h37 := h36.ch 252 2 109 (by decide) (by unfold e3; omega) (by decide) (by decide)
  have s37 : mL (sI M36 252 (nI 2).toNatClampNeg (vp_nar .char (nI 109))) 179 78 = lN 1 := s36
  generalize sI M36 252 (nI 2).toNatClampNeg (vp_nar .char (nI 109)) = M37 at h37 s37 ⊢
  refine AW.re (bc' := 6) (bs' := 5148) (pc' := 1672) rfl rfl rfl ?_
  refine C.dup dX13_init_1672 rfl ?_
  refine C.iconst (nI 3) dX13_init_1673 (by decide) ?_
  refine C.bipush (nI 98) dX13_init_1674 (by decide) ?_
  refine C.cast (h37.a (t := 3) (.head _)) (n_in (by decide)) dX13_init_1676 ?_
  have h38 := h37.ch 252 3 98 (by decide) (by unfold e3; omega) (by decide) (by decide)
  have s38 : mL (sI M37 252 (nI 3).toNatClampNeg (vp_nar .char (nI 98))) 179 78 = lN 1 := s37
  generalize sI M37 252 (nI 3).toNatClampNeg (vp_nar .char (nI 98)) = M38 at h38 s38 ⊢
  refine AW.re (bc' := 6) (bs' := 5148) (pc' := 1677) rfl rfl rfl ?_
  refine C.dup dX13_init_1677 rfl ?_
  refine C.iconst (nI 4) dX13_init_1678 (by decide) ?_
  refine C.bipush (nI 101) dX13_init_1679 (by decide) ?_
  refine C.cast (h38.a (t := 3) (.head _)) (n_in (by decide)) dX13_init_1681 ?_
  have h39 := h38.ch 252 4 101 (by decide) (by unfold e3; omega) (by decide) (by decide)
  have s39 : mL (sI M38 252 (nI 4).toNatClampNeg (vp_nar .char (nI 101))) 179 78 = lN 1 := s38
  generalize sI M38 252 (nI 4).toNatClampNeg (vp_nar .char (nI 101)) = M39 at h39 s39 ⊢
  refine AW.re (bc' := 6) (bs' := 5148) (pc' := 1682) rfl rfl rfl ?_
  refine C.dup dX13_init_1682 rfl ?_
  refine C.iconst (nI 5) dX13_init_1683 (by decide) ?_
  refine C.bipush (nI 114) dX13_init_1684 (by decide) ?_
  refine C.cast (h39.a (t := 3) (.head _)) (n_in (by decide)) dX13_init_1686 ?_
  have h40 := h39.ch 252 5 114 (by decide) (by unfold e3; omega) (by decide) (by decide)
  have s40 : mL (sI M39 252 (nI 5).toNatClampNeg (vp_nar .char (nI 114))) 179 78 = lN 1 := s39
  generalize sI M39 252 (nI 5).toNatClampNeg (vp_nar .char (nI 114)) = M40 at h40 s40 ⊢
  refine AW.re (bc' := 6) (bs' := 5148) (pc' := 1687) rfl rfl rfl ?_
  refine C.putA fX13_240 (Or.inr ⟨hnm, rfl⟩) dX13_init_1687 (h40.o (c := 13) (.tail _ (.tail _ (.tail _ (.tail _ (.tail _ (.tail _ rmm5))))))) ?_
  have h41 := h40.putR 179 98 252 (by decide) (by unfold e3; omega) (by decide +kernel)
  have s41 : mL (sR M40 179 98 (some 252)) 179 78 = lN 1 := s40
  generalize sR M40 179 98 (some 252) = M41 at h41 s41 ⊢
  refine AW.re (bc' := 6) (bs' := 5148) (pc' := 1690) rfl rfl rfl ?_
  refine C.aload_n dX13_init_1690 0 rfl ?_
  refine C.iconst (nI 4) dX13_init_1691 (by decide) ?_
  refine C.newa (t := 3) (by decide) rfl ac_char dX13_init_1692 rfl (by decide) (by decide) (by decide) ?_
  rw [h41.1.1]
  have h42 := h41.new (100 + 3) 4 254 rfl
  have s42 : mL (nM M41 (100 + 3) 4) 179 78 = lN 1 := by rw [mL_nM, if_neg (by rw [h41.1.1]; decide)]; exact s41
  generalize nM M41 (100 + 3) 4 = M42 at h42 s42 ⊢
  refine AW.re (bc' := 5) (bs' := 5144) (pc' := 1694) rfl rfl rfl ?_
  refine C.dup dX13_init_1694 rfl ?_
  refine C.iconst (nI 0) dX13_init_1695 (by decide) ?_
  refine C.bipush (nI 103) dX13_init_1696 (by decide) ?_
  refine C.cast (h42.a (t := 3) (.head _)) (n_in (by decide)) dX13_init_1698 ?_
  have h43 := h42.ch 253 0 103 (by decide) (by unfold e3; omega) (by decide) (by decide)
  have s43 : mL (sI M42 253 (nI 0).toNatClampNeg (vp_nar .char (nI 103))) 179 78 = lN 1 := s42
  generalize sI M42 253 (nI 0).toNatClampNeg (vp_nar .char (nI 103)) = M43 at h43 s43 ⊢
  refine AW.re (bc' := 5) (bs' := 5144) (pc' := 1699) rfl rfl rfl ?_
  refine C.dup dX13_init_1699 rfl ?_
  refine C.iconst (nI 1) dX13_init_1700 (by decide) ?_
  refine C.bipush (nI 111) dX13_init_1701 (by decide) ?_
  refine C.cast (h43.a (t := 3) (.head _)) (n_in (by decide)) dX13_init_1703 ?_
  have h44 := h43.ch 253 1 111 (by decide) (by unfold e3; omega) (by decide) (by decide)
  have s44 : mL (sI M43 253 (nI 1).toNatClampNeg (vp_nar .char (nI 111))) 179 78 = lN 1 := s43
  generalize sI M43 253 (nI 1).toNatClampNeg (vp_nar .char (nI 111)) = M44 at h44 s44 ⊢
  refine AW.re (bc' := 5) (bs' := 5144) (pc' := 1704) rfl rfl rfl ?_
  refine C.dup dX13_init_1704 rfl ?_
  refine C.iconst (nI 2) dX13_init_1705 (by decide) ?_
  refine C.bipush (nI 110) dX13_init_1706 (by decide) ?_
  refine C.cast (h44.a (t := 3) (.head _)) (n_in (by decide)) dX13_init_1708 ?_
  have h45 := h44.ch 253 2 110 (by decide) (by unfold e3; omega) (by decide) (by decide)
  have s45 : mL (sI M44 253 (nI 2).toNatClampNeg (vp_nar .char (nI 110))) 179 78 = lN 1 := s44
  generalize sI M44 253 (nI 2).toNatClampNeg (vp_nar .char (nI 110)) = M45 at h45 s45 ⊢
  refine AW.re (bc' := 5) (bs' := 5144) (pc' := 1709) rfl rfl rfl ?_
  refine C.dup dX13_init_1709 rfl ?_
  refine C.iconst (nI 3) dX13_init_1710 (by decide) ?_
  refine C.bipush (nI 101) dX13_init_1711 (by decide) ?_
  refine C.cast (h45.a (t := 3) (.head _)) (n_in (by decide)) dX13_init_1713 ?_
  have h46 := h45.ch 253 3 101 (by decide) (by unfold e3; omega) (by decide) (by decide)
  have s46 : mL (sI M45 253 (nI 3).toNatClampNeg (vp_nar .char (nI 101))) 179 78 = lN 1 := s45
  generalize sI M45 253 (nI 3).toNatClampNeg (vp_nar .char (nI 101)) = M46 at h46 s46 ⊢
  refine AW.re (bc' := 5) (bs' := 5144) (pc' := 1714) rfl rfl rfl ?_
  refine C.putA fX13_243 (Or.inr ⟨hnm, rfl⟩) dX13_init_1714 (h46.o (c := 13) (.tail _ (.tail _ (.tail _ (.tail _ (.tail _ (.tail _ (.tail _ rmm5)))))))) ?_
  have h47 := h46.putR 179 99 253 (by decide) (by unfold e3; omega) (by decide +kernel)
  have s47 : mL (sR M46 179 99 (some 253)) 179 78 = lN 1 := s46
  generalize sR M46 179 99 (some 253) = M47 at h47 s47 ⊢
  refine AW.re (bc' := 5) (bs' := 5144) (pc' := 1717) rfl rfl rfl ?_
  refine C.aload_n dX13_init_1717 0 rfl ?_
  refine C.iconst (nI 4) dX13_init_1718 (by decide) ?_
  refine C.newa (t := 3) (by decide) rfl ac_char dX13_init_1719 rfl (by decide) (by decide) (by decide) ?_
  rw [h47.1.1]
  have h48 := h47.new (100 + 3) 4 255 rfl
  have s48 : mL (nM M47 (100 + 3) 4) 179 78 = lN 1 := by rw [mL_nM, if_neg (by rw [h47.1.1]; decide)]; exact s47
  generalize nM M47 (100 + 3) 4 = M48 at h48 s48 ⊢
  refine AW.re (bc' := 4) (bs' := 5140) (pc' := 1721) rfl rfl rfl ?_
  refine C.dup dX13_init_1721 rfl ?_
  refine C.iconst (nI 0) dX13_init_1722 (by decide) ?_
  refine C.bipush (nI 110) dX13_init_1723 (by decide) ?_
  refine C.cast (h48.a (t := 3) (.head _)) (n_in (by decide)) dX13_init_1725 ?_
  have h49 := h48.ch 254 0 110 (by decide) (by unfold e3; omega) (by decide) (by decide)
  have s49 : mL (sI M48 254 (nI 0).toNatClampNeg (vp_nar .char (nI 110))) 179 78 = lN 1 := s48
  generalize sI M48 254 (nI 0).toNatClampNeg (vp_nar .char (nI 110)) = M49 at h49 s49 ⊢
  refine AW.re (bc' := 4) (bs' := 5140) (pc' := 1726) rfl rfl rfl ?_
  refine C.dup dX13_init_1726 rfl ?_
  refine C.iconst (nI 1) dX13_init_1727 (by decide) ?_
  refine C.bipush (nI 101) dX13_init_1728 (by decide) ?_
  refine C.cast (h49.a (t := 3) (.head _)) (n_in (by decide)) dX13_init_1730 ?_
  have h50 := h49.ch 254 1 101 (by decide) (by unfold e3; omega) (by decide) (by decide)
  have s50 : mL (sI M49 254 (nI 1).toNatClampNeg (vp_nar .char (nI 101))) 179 78 = lN 1 := s49
  generalize sI M49 254 (nI 1).toNatClampNeg (vp_nar .char (nI 101)) = M50 at h50 s50 ⊢
  refine AW.re (bc' := 4) (bs' := 5140) (pc' := 1731) rfl rfl rfl ?_
  refine C.dup dX13_init_1731 rfl ?_
  refine C.iconst (nI 2) dX13_init_1732 (by decide) ?_
  refine C.bipush (nI 97) dX13_init_1733 (by decide) ?_
  refine C.cast (h50.a (t := 3) (.head _)) (n_in (by decide)) dX13_init_1735 ?_
  have h51 := h50.ch 254 2 97 (by decide) (by unfold e3; omega) (by decide) (by decide)
  have s51 : mL (sI M50 254 (nI 2).toNatClampNeg (vp_nar .char (nI 97))) 179 78 = lN 1 := s50
  generalize sI M50 254 (nI 2).toNatClampNeg (vp_nar .char (nI 97)) = M51 at h51 s51 ⊢
  refine AW.re (bc' := 4) (bs' := 5140) (pc' := 1736) rfl rfl rfl ?_
  refine C.dup dX13_init_1736 rfl ?_
  refine C.iconst (nI 3) dX13_init_1737 (by decide) ?_
  refine C.bipush (nI 114) dX13_init_1738 (by decide) ?_
  refine C.cast (h51.a (t := 3) (.head _)) (n_in (by decide)) dX13_init_1740 ?_
  have h52 := h51.ch 254 3 114 (by decide) (by unfold e3; omega) (by decide) (by decide)
  have s52 : mL (sI M51 254 (nI 3).toNatClampNeg (vp_nar .char (nI 114))) 179 78 = lN 1 := s51
  generalize sI M51 254 (nI 3).toNatClampNeg (vp_nar .char (nI 114)) = M52 at h52 s52 ⊢
  refine AW.re (bc' := 4) (bs' := 5140) (pc' := 1741) rfl rfl rfl ?_
  refine C.putA fX13_246 (Or.inr ⟨hnm, rfl⟩) dX13_init_1741 (h52.o (c := 13) (.tail _ (.tail _ (.tail _ (.tail _ (.tail _ (.tail _ (.tail _ (.tail _ rmm5))))))))) ?_
  have h53 := h52.putR 179 100 254 (by decide) (by unfold e3; omega) (by decide +kernel)
  have s53 : mL (sR M52 179 100 (some 254)) 179 78 = lN 1 := s52
  generalize sR M52 179 100 (some 254) = M53 at h53 s53 ⊢
  refine AW.re (bc' := 4) (bs' := 5140) (pc' := 1744) rfl rfl rfl ?_
  refine C.aload_n dX13_init_1744 0 rfl ?_
  refine C.sipush (nI 1700) dX13_init_1745 (by decide) ?_
  refine C.newa (t := 0) (by decide) rfl ac_int dX13_init_1748 rfl (by decide) (by decide) (by decide) ?_
  rw [h53.1.1]
  have h54 := h53.new (100 + 0) 1700 256 rfl
  have s54 : mL (nM M53 (100 + 0) 1700) 179 78 = lN 1 := by rw [mL_nM, if_neg (by rw [h53.1.1]; decide)]; exact s53
  generalize nM M53 (100 + 0) 1700 = M54 at h54 s54 ⊢
  refine AW.re (bc' := 3) (bs' := 3440) (pc' := 1750) rfl rfl rfl ?_
  refine C.putA fX13_249 (Or.inr ⟨hnm, rfl⟩) dX13_init_1750 (h54.o (c := 13) (.tail _ (.tail _ (.tail _ (.tail _ (.tail _ (.tail _ (.tail _ (.tail _ (.tail _ rmm5)))))))))) ?_
  have h55 := h54.putR 179 101 255 (by decide) (by unfold e3; omega) (by decide +kernel)
  have s55 : mL (sR M54 179 101 (some 255)) 179 78 = lN 1 := s54
  generalize sR M54 179 101 (some 255) = M55 at h55 s55 ⊢
  refine AW.re (bc' := 3) (bs' := 3440) (pc' := 1753) rfl rfl rfl ?_
  refine C.aload_n dX13_init_1753 0 rfl ?_
  refine C.sipush (nI 1700) dX13_init_1754 (by decide) ?_
  refine C.newa (t := 0) (by decide) rfl ac_int dX13_init_1757 rfl (by decide) (by decide) (by decide) ?_
  rw [h55.1.1]
  have h56 := h55.new (100 + 0) 1700 257 rfl
  have s56 : mL (nM M55 (100 + 0) 1700) 179 78 = lN 1 := by rw [mL_nM, if_neg (by rw [h55.1.1]; decide)]; exact s55
  generalize nM M55 (100 + 0) 1700 = M56 at h56 s56 ⊢
  refine AW.re (bc' := 2) (bs' := 1740) (pc' := 1759) rfl rfl rfl ?_
  refine C.putA fX13_252 (Or.inr ⟨hnm, rfl⟩) dX13_init_1759 (h56.o (c := 13) (.tail _ (.tail _ (.tail _ (.tail _ (.tail _ (.tail _ (.tail _ (.tail _ (.tail _ (.tail _ rmm5))))))))))) ?_
  have h57 := h56.putR 179 103 256 (by decide) (by unfold e3; omega) (by decide +kernel)
  have s57 : mL (sR M56 179 103 (some 256)) 179 78 = lN 1 := s56
  generalize sR M56 179 103 (some 256) = M57 at h57 s57 ⊢
  refine AW.re (bc' := 2) (bs' := 1740) (pc' := 1762) rfl rfl rfl ?_
  refine C.aload_n dX13_init_1762 0 rfl ?_
  refine C.sipush (nI 1700) dX13_init_1763 (by decide) ?_
  refine C.newa (t := 1) (by decide) rfl ac_long dX13_init_1766 rfl (by decide) (by decide) (by decide) ?_
  rw [h57.1.1]
  have h58 := h57.new (100 + 1) 1700 258 rfl
  have s58 : mL (nM M57 (100 + 1) 1700) 179 78 = lN 1 := by rw [mL_nM, if_neg (by rw [h57.1.1]; decide)]; exact s57
  generalize nM M57 (100 + 1) 1700 = M58 at h58 s58 ⊢
  refine AW.re (bc' := 1) (bs' := 40) (pc' := 1768) rfl rfl rfl ?_
  refine C.putA fX13_255 (Or.inr ⟨hnm, rfl⟩) dX13_init_1768 (h58.o (c := 13) (.tail _ (.tail _ (.tail _ (.tail _ (.tail _ (.tail _ (.tail _ (.tail _ (.tail _ (.tail _ (.tail _ rmm5)))))))))))) ?_
  have h59 := h58.putR 179 107 257 (by decide) (by unfold e3; omega) (by decide +kernel)
  have s59 : mL (sR M58 179 107 (some 257)) 179 78 = lN 1 := s58
  generalize sR M58 179 107 (some 257) = M59 at h59 s59 ⊢
  refine AW.re (bc' := 1) (bs' := 40) (pc' := 1771) rfl rfl rfl ?_
  refine C.aload_n dX13_init_1771 0 rfl ?_
  refine C.bipush (nI 40) dX13_init_1772 (by decide) ?_
  refine C.newa (t := 0) (by decide) rfl ac_int dX13_init_1774 rfl (by decide) (by decide) (by decide) ?_
  rw [h59.1.1]
  have h60 := h59.new (100 + 0) 40 259 rfl
  have s60 : mL (nM M59 (100 + 0) 40) 179 78 = lN 1 := by rw [mL_nM, if_neg (by rw [h59.1.1]; decide)]; exact s59
  generalize nM M59 (100 + 0) 40 = M60 at h60 s60 ⊢
  refine AW.re (bc' := 0) (bs' := 0) (pc' := 1776) rfl rfl rfl ?_
  refine C.putA fX13_258 (Or.inr ⟨hnm, rfl⟩) dX13_init_1776 (h60.o (c := 13) (.tail _ (.tail _ (.tail _ (.tail _ (.tail _ (.tail _ (.tail _ (.tail _ (.tail _ (.tail _ (.tail _ (.tail _ rmm5))))))))))))) ?_
  have h61 := h60.putR 179 111 258 (by decide) (by unfold e3; omega) (by decide +kernel)
  have s61 : mL (sR M60 179 111 (some 258)) 179 78 = lN 1 := s60
  generalize sR M60 179 111 (some 258) = M61 at h61 s61 ⊢
  refine AW.re (bc' := 0) (bs' := 0) (pc' := 1779) rfl rfl rfl ?_
  exact k M61 h61 s61
theorem ki_ref {M : Mm} (h : Mk Z e3 180 rK0 rR0 rV0 M) : AMet l G 1 79 15004 mtX13_init [.ref (G.1 + 179)] M (qV (fun M => Mk Z e3 259 rK6 rR6 rV6 M ∧ mL M 179 78 = lN 1)) := by
  refine AMet.of (by decide) (Nat.le_of_ble_eq_true rfl) (fun X C hX hnm hq => ?_)
  refine C.aload_n dX13_init_0 0 rfl ?_
  refine C.objI oX13_1 dX13_init_1 (by omega) (Nat.le_of_ble_eq_true rfl) oi_1 oi_2 ?_
  refine kri1 C hnm h (fun M h => ?_)
  refine kri2 C hnm h (fun M h => ?_)
  refine kri3 C hnm h (fun M h => ?_)
  refine kri4 C hnm h (fun M h s => ?_)
  refine kri5 C hnm h s (fun M h s => ?_)
  refine kri6 C hnm h s (fun M h s => ?_)
  refine C.vret hq dX13_init_1779 ?_
  exact ⟨h, s⟩
end KRI
