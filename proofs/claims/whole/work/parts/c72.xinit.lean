/-! the class is made -/
def e0 : Nat → Prop := fun _ => False
def e1 : Nat → Prop := fun a => a = 4
def e2 : Nat → Prop := fun a => a = 4 ∨ (15 ≤ a ∧ a < 33)
section MKQ
variable {Z M M' : Mm} {E F : Nat → Prop} {n a : Nat} {K R : List (Nat × Nat × Nat)} {V : List (Nat × Nat × Int32)}
theorem Mk.state (h : Mk Z E n K R V M) (a : Nat) (ha : a < n) (he : ¬ E a) (hR : ∀ p ∈ R, ¬ p.1 = a) : Mk Z E (n + 5) ((n + 4, 100, 40) :: (n + 3, 100, 6) :: (n + 2, 100, 6) :: (n + 1, 100, 6) :: (n, 100, 6) :: K) ((a, 4, n + 4) :: (a, 3, n + 3) :: (a, 2, n + 2) :: (a, 1, n + 1) :: (a, 0, n) :: R) V (stM M a n) := by
  have h1 := (h.new 100 6 (n + 1) rfl).putR a 0 n (by omega) he (fun p hp z => hR p hp z.1)
  have h2 := (h1.new 100 6 (n + 2) rfl).putR a 1 (n + 1) (by omega) he (fun p hp z => by simp only [List.mem_cons] at hp; rcases hp with e | e <;> first | exact hR p e z.1 | (rw [e] at z; exact absurd z.2 (by simp)))
  have h3 := (h2.new 100 6 (n + 3) rfl).putR a 2 (n + 2) (by omega) he (fun p hp z => by simp only [List.mem_cons] at hp; rcases hp with e | e | e <;> first | exact hR p e z.1 | (rw [e] at z; exact absurd z.2 (by simp)))
  have h4 := (h3.new 100 6 (n + 4) rfl).putR a 3 (n + 3) (by omega) he (fun p hp z => by simp only [List.mem_cons] at hp; rcases hp with e | e | e | e <;> first | exact hR p e z.1 | (rw [e] at z; exact absurd z.2 (by simp)))
  exact (h4.new 100 40 (n + 5) rfl).putR a 4 (n + 4) (by omega) he (fun p hp z => by simp only [List.mem_cons] at hp; rcases hp with e | e | e | e | e <;> first | exact hR p e z.1 | (rw [e] at z; exact absurd z.2 (by simp)))
theorem Mk.setA (h : Mk Z E n K R V M) (a : Nat) (f : Nat → Int32) (hF : ∀ b, E b → F b) (ha : F a) (hn : ∀ b, F b → b < n) : Mk (sA M a f) F n K R V (sA M a f) := by
  obtain ⟨⟨h1, h2, h3, hg⟩, h4, h5, h6, h7⟩ := h
  refine ⟨⟨h1, hn, h3, Grw.refl _⟩, h4, h5, fun b hb he k => ⟨?_, (h6 b hb (fun z => he (hF b z)) k).2⟩, fun _ _ => ⟨rfl, fun _ => ⟨rfl, rfl, rfl⟩⟩⟩
  rw [mI_sA, if_neg (fun z : b = a => he (by rw [z]; exact ha))]
  exact (h6 b hb (fun z => he (hF b z)) k).1
theorem Mk.cast (h : Mk Z E n K R V M) (e : M' = M) : Mk Z E n K R V M' := by rw [e]; exact h
theorem Mk.cast2 (h : Mk M E n K R V M) (e : M' = M) : Mk M' E n K R V M' := by rw [e]; exact h
theorem Mk.land (h : Mk Z e1 15 K R V M) (hq : LnQ (nM M 2 20) 15 0 0 (nI 0) M') : Mk M' e2 33 ((15, 2, 20) :: K) R V M' := by
  have hN := h.1.1
  have h' := h.new 2 20 16 rfl
  obtain ⟨⟨q1, q2, q3⟩, q4, q5⟩ := hq
  obtain ⟨⟨h1, h2, h3, hg⟩, h4, h5, h6, h7⟩ := h
  refine ⟨⟨q1, fun a z => by unfold e2 at z; omega, fun p hp => by have := h3 p hp; omega, Grw.refl _⟩, fun p hp => ?_, fun p hp => ?_, fun a ha he k => ?_, fun _ _ => ⟨rfl, fun _ => ⟨rfl, rfl, rfl⟩⟩⟩
  · obtain ⟨z1, z2⟩ := h'.2.1 p hp
    exact ⟨by omega, (q2.2 p.1 (by rw [h'.1.1]; exact z1)).trans z2⟩
  · obtain ⟨z1, z2⟩ := h5 p hp
    refine ⟨by omega, ?_⟩
    rw [(q4 p.1 z1).2.2, mR_nM, if_neg (by omega)]
    exact z2
  · have ha15 : a < 15 := by unfold e2 at he; omega
    have hne : ¬ e1 a := by unfold e1; unfold e2 at he; omega
    rw [(q4 a ha15).1, (q4 a ha15).2.1, mI_nM, mL_nM, if_neg (by omega), if_neg (by omega)]
    exact h6 a ha15 hne k
def psK : Nat → List (Nat × Nat × Nat)
  | 0 => []
  | i + 1 => (54 + 6 * i + 1 + 4, 100, 40) :: (54 + 6 * i + 1 + 3, 100, 6) :: (54 + 6 * i + 1 + 2, 100, 6) :: (54 + 6 * i + 1 + 1, 100, 6) :: (54 + 6 * i + 1, 100, 6) :: (54 + 6 * i, 10, 9) :: psK i
def psR : Nat → List (Nat × Nat × Nat)
  | 0 => []
  | i + 1 => (53, i, 54 + 6 * i) :: (54 + 6 * i, 4, 54 + 6 * i + 1 + 4) :: (54 + 6 * i, 3, 54 + 6 * i + 1 + 3) :: (54 + 6 * i, 2, 54 + 6 * i + 1 + 2) :: (54 + 6 * i, 1, 54 + 6 * i + 1 + 1) :: (54 + 6 * i, 0, 54 + 6 * i + 1) :: psR i
theorem psR_lt : ∀ (i : Nat) (p : Nat × Nat × Nat), p ∈ psR i → (p.1 = 53 ∧ p.2.1 < i) ∨ (54 ≤ p.1 ∧ p.1 < 54 + 6 * i)
  | 0, p, h => absurd h (List.not_mem_nil)
  | i + 1, p, h => by
    unfold psR at h
    simp only [List.mem_cons] at h
    rcases h with e | e | e | e | e | e | e
    · rw [e]; exact Or.inl ⟨rfl, Nat.lt_succ_self _⟩
    · rw [e]; dsimp only; omega
    · rw [e]; dsimp only; omega
    · rw [e]; dsimp only; omega
    · rw [e]; dsimp only; omega
    · rw [e]; dsimp only; omega
    · rcases psR_lt i p e with q | q <;> omega
theorem psR_fr {i : Nat} (hR : ∀ p ∈ R, p.1 < 52) : ∀ p ∈ psR i ++ (52, 0, 53) :: R, p.1 < 54 + 6 * i ∧ ¬ (p.1 = 53 ∧ p.2.1 = i) := by
  intro p hp
  rcases List.mem_append.mp hp with q | q
  · rcases psR_lt i p q with y | y <;> omega
  · rcases List.mem_cons.mp q with y | y
    · rw [y]
      dsimp only
      omega
    · have := hR p y
      omega
theorem sA_nF : nF 10 = 9 := rfl
end MKQ
section KPA
variable {l : Launch} {G : Gm} {μ Z : Mm} {E : Nat → Prop} {K R : List (Nat × Nat × Nat)} {V : List (Nat × Nat × Int32)}
theorem ki_past (h : Mk Z E 53 K R V μ) (hm : (52, 5, nF 5) ∈ K) (hE : ∀ a, 52 ≤ a → ¬ E a) (hR : ∀ p ∈ R, p.1 < 52) : AMet l G 2 121 1480 mtX5_init [.ref (G.1 + 52)] μ (qV (fun M => Mk Z E 174 (psK 20 ++ (53, 105, 20) :: K) (psR 20 ++ (52, 0, 53) :: R) V M)) := by
  refine AMet.of (by decide) (Nat.le_of_ble_eq_true rfl) (fun X C hX hnm hq => ?_)
  have loop : ∀ (n i bc bs : Nat) (M : Mm), 20 - i < n → i ≤ 20 → 6 * (20 - i) ≤ bc → 73 * (20 - i) ≤ bs → Mk Z E (54 + 6 * i) (psK i ++ (53, 105, 20) :: K) (psR i ++ (52, 0, 53) :: R) V M → AW l G X bc bs 15 [(0, .ref (G.1 + 52)), (1, .int (nI i))] [] M := by
    intro n
    induction n with
    | zero => intro i bc bs M h; omega
    | succ n ih =>
      intro i bc bs M hn hi hbc hbs hM
      have e := hM.1.1
      have hO : isO M 52 5 := hM.o (by simp [hm])
      refine C.iload_n dX5_init_15 1 rfl ?_
      refine C.bipush (nI 20) dX5_init_16 (by decide) ?_
      refine C.icmp_ge 40 dX5_init_18 rfl (fun hc18 => ?_) (fun hc18 => ?_)
      · have : i = 20 := by have := n_le hc18; omega
        subst this
        refine C.vret hq dX5_init_40 ?_
        exact hM
      · have hlt : i < 20 := n_nle hc18
        refine C.aload_n dX5_init_21 0 rfl ?_
        refine C.getA fX5_11 dX5_init_22 hO (hM.r (r := 53) (by simp)) ?_
        refine C.iload_n dX5_init_25 1 rfl ?_
        refine C.new (c := 10) rfl nX5_9 dX5_init_26 (by omega) (by rw [sA_nF]; omega) ?_
        rw [sA_nF]
        refine C.dup dX5_init_29 rfl ?_
        refine C.callINV nn_mtX10_init ⟨rfl, rfl⟩ ni_mtX10_init C.hK.2.1.2.2.2.1 dX5_init_30 (ki_state (isO_nM M 10 0)) rfl rfl (Nat.le_of_ble_eq_true rfl) (by omega) (by omega) (Nat.le_of_ble_eq_true rfl) (fun μ30 h30 => ?_)
        have h1 := hM.new 10 9 _ rfl
        have h2 := h1.state (54 + 6 * i) (by omega) (hE _ (by omega)) (fun p hp z => by have := (psR_fr hR p hp).1; omega)
        have h30' : μ30 = stM (nM M 10 9) (54 + 6 * i) (54 + 6 * i + 1) := by rw [h30, ← e]; rfl
        rw [← h30'] at h2
        rw [e]
        refine C.aast (h2.a (t := 5) (m := 20) (by simp)) (n_in hlt) (h2.o (by simp [nF])) dX5_init_33 ?_
        rw [n_cl]
        have h3 := h2.putR 53 i (54 + 6 * i) (by omega) (hE _ (by omega)) (fun p hp z => by simp only [List.mem_cons] at hp; rcases hp with y | y | y | y | y | y <;> first | exact (psR_fr hR p y).2 z | (rw [y] at z; dsimp only at z; omega))
        refine C.iinc (lv' := [(0, _), (1, _)]) _ dX5_init_34 1 rfl rfl (nLt hX rfl) rfl ?_
        refine C.goto 15 dX5_init_37 rfl ?_
        have hgo := ih (i + 1) (bc - 1 - 5) (bs - 9 - 64) _ (by omega) (by omega) (by omega) (by omega) h3
        rw [← nI_1] at hgo
        exact hgo
  have hO : isO μ 52 5 := h.o hm
  refine C.aload_n dX5_init_0 0 rfl ?_
  refine C.objI oX5_3 dX5_init_1 (by omega) (Nat.le_of_ble_eq_true rfl) oi_1 oi_2 ?_
  refine C.aload_n dX5_init_4 0 rfl ?_
  refine C.bipush (nI 20) dX5_init_5 (by decide) ?_
  refine C.anew nX5_9.1 dX5_init_7 rfl (by decide) (by omega) (by omega) ?_
  rw [h.1.1]
  have h1 := h.new 105 20 54 rfl
  refine C.putA fX5_11 (Or.inr ⟨hnm, rfl⟩) dX5_init_10 (h1.o (List.mem_cons_of_mem _ hm)) ?_
  have h2 := h1.putR 52 0 53 (by omega) (hE _ (by omega)) (fun p hp z => by have := hR p hp; omega)
  refine C.iconst (nI 0) dX5_init_13 (by decide) ?_
  refine C.istore_n (lv' := [(0, _), (1, _)]) dX5_init_14 (nLt hX rfl) rfl ?_
  exact loop 21 0 _ _ _ (by omega) (by omega) (by omega) (by omega) h2
end KPA
def mkK : List (Nat × Nat × Nat) := [(178, 100, 6), (177, 100, 40), (176, 101, 32), (175, 100, 49), (174, 100, 24), (173, 100, 40), (172, 100, 6), (171, 100, 6), (170, 100, 6), (169, 100, 6), (168, 10, 9), (167, 100, 40), (166, 100, 6), (165, 100, 6), (164, 100, 6), (163, 100, 6), (162, 10, 9), (161, 100, 40), (160, 100, 6), (159, 100, 6), (158, 100, 6), (157, 100, 6), (156, 10, 9), (155, 100, 40), (154, 100, 6), (153, 100, 6), (152, 100, 6), (151, 100, 6), (150, 10, 9), (149, 100, 40), (148, 100, 6), (147, 100, 6), (146, 100, 6), (145, 100, 6), (144, 10, 9), (143, 100, 40), (142, 100, 6), (141, 100, 6), (140, 100, 6), (139, 100, 6), (138, 10, 9), (137, 100, 40), (136, 100, 6), (135, 100, 6), (134, 100, 6), (133, 100, 6), (132, 10, 9), (131, 100, 40), (130, 100, 6), (129, 100, 6), (128, 100, 6), (127, 100, 6), (126, 10, 9), (125, 100, 40), (124, 100, 6), (123, 100, 6), (122, 100, 6), (121, 100, 6), (120, 10, 9), (119, 100, 40), (118, 100, 6), (117, 100, 6), (116, 100, 6), (115, 100, 6), (114, 10, 9), (113, 100, 40), (112, 100, 6), (111, 100, 6), (110, 100, 6), (109, 100, 6), (108, 10, 9), (107, 100, 40), (106, 100, 6), (105, 100, 6), (104, 100, 6), (103, 100, 6), (102, 10, 9), (101, 100, 40), (100, 100, 6), (99, 100, 6), (98, 100, 6), (97, 100, 6), (96, 10, 9), (95, 100, 40), (94, 100, 6), (93, 100, 6), (92, 100, 6), (91, 100, 6), (90, 10, 9), (89, 100, 40), (88, 100, 6), (87, 100, 6), (86, 100, 6), (85, 100, 6), (84, 10, 9), (83, 100, 40), (82, 100, 6), (81, 100, 6), (80, 100, 6), (79, 100, 6), (78, 10, 9), (77, 100, 40), (76, 100, 6), (75, 100, 6), (74, 100, 6), (73, 100, 6), (72, 10, 9), (71, 100, 40), (70, 100, 6), (69, 100, 6), (68, 100, 6), (67, 100, 6), (66, 10, 9), (65, 100, 40), (64, 100, 6), (63, 100, 6), (62, 100, 6), (61, 100, 6), (60, 10, 9), (59, 100, 40), (58, 100, 6), (57, 100, 6), (56, 100, 6), (55, 100, 6), (54, 10, 9), (53, 105, 20), (52, 5, 3), (51, 100, 40), (50, 100, 6), (49, 100, 6), (48, 100, 6), (47, 100, 6), (46, 10, 9), (45, 100, 40), (44, 100, 6), (43, 100, 6), (42, 100, 6), (41, 100, 6), (40, 10, 9), (39, 100, 12), (38, 9, 8), (37, 1, 6), (36, 100, 12), (35, 9, 8), (34, 100, 12), (33, 9, 8), (15, 2, 20), (14, 100, 64), (13, 100, 12), (12, 100, 9), (11, 4, 4), (10, 100, 0), (9, 0, 2), (8, 7, 4), (7, 3, 2), (6, 100, 1600), (5, 6, 5), (4, 100, 39), (3, 8, 8), (2, 102, 1600), (1, 11, 2), (0, 12, 19)]
def mkR : List (Nat × Nat × Nat) := [(0, 14, 178), (0, 13, 177), (0, 12, 176), (0, 11, 175), (0, 10, 174), (0, 9, 52), (53, 19, 168), (168, 4, 173), (168, 3, 172), (168, 2, 171), (168, 1, 170), (168, 0, 169), (53, 18, 162), (162, 4, 167), (162, 3, 166), (162, 2, 165), (162, 1, 164), (162, 0, 163), (53, 17, 156), (156, 4, 161), (156, 3, 160), (156, 2, 159), (156, 1, 158), (156, 0, 157), (53, 16, 150), (150, 4, 155), (150, 3, 154), (150, 2, 153), (150, 1, 152), (150, 0, 151), (53, 15, 144), (144, 4, 149), (144, 3, 148), (144, 2, 147), (144, 1, 146), (144, 0, 145), (53, 14, 138), (138, 4, 143), (138, 3, 142), (138, 2, 141), (138, 1, 140), (138, 0, 139), (53, 13, 132), (132, 4, 137), (132, 3, 136), (132, 2, 135), (132, 1, 134), (132, 0, 133), (53, 12, 126), (126, 4, 131), (126, 3, 130), (126, 2, 129), (126, 1, 128), (126, 0, 127), (53, 11, 120), (120, 4, 125), (120, 3, 124), (120, 2, 123), (120, 1, 122), (120, 0, 121), (53, 10, 114), (114, 4, 119), (114, 3, 118), (114, 2, 117), (114, 1, 116), (114, 0, 115), (53, 9, 108), (108, 4, 113), (108, 3, 112), (108, 2, 111), (108, 1, 110), (108, 0, 109), (53, 8, 102), (102, 4, 107), (102, 3, 106), (102, 2, 105), (102, 1, 104), (102, 0, 103), (53, 7, 96), (96, 4, 101), (96, 3, 100), (96, 2, 99), (96, 1, 98), (96, 0, 97), (53, 6, 90), (90, 4, 95), (90, 3, 94), (90, 2, 93), (90, 1, 92), (90, 0, 91), (53, 5, 84), (84, 4, 89), (84, 3, 88), (84, 2, 87), (84, 1, 86), (84, 0, 85), (53, 4, 78), (78, 4, 83), (78, 3, 82), (78, 2, 81), (78, 1, 80), (78, 0, 79), (53, 3, 72), (72, 4, 77), (72, 3, 76), (72, 2, 75), (72, 1, 74), (72, 0, 73), (53, 2, 66), (66, 4, 71), (66, 3, 70), (66, 2, 69), (66, 1, 68), (66, 0, 67), (53, 1, 60), (60, 4, 65), (60, 3, 64), (60, 2, 63), (60, 1, 62), (60, 0, 61), (53, 0, 54), (54, 4, 59), (54, 3, 58), (54, 2, 57), (54, 1, 56), (54, 0, 55), (52, 0, 53), (0, 8, 46), (46, 4, 51), (46, 3, 50), (46, 2, 49), (46, 1, 48), (46, 0, 47), (0, 7, 40), (40, 4, 45), (40, 3, 44), (40, 2, 43), (40, 1, 42), (40, 0, 41), (0, 6, 37), (37, 1, 38), (38, 4, 15), (38, 1, 11), (38, 0, 39), (37, 0, 11), (0, 5, 35), (35, 4, 15), (35, 1, 11), (35, 0, 36), (0, 4, 33), (33, 4, 15), (33, 1, 11), (33, 0, 34), (0, 15, 15), (11, 2, 14), (11, 1, 13), (11, 0, 12), (0, 3, 8), (8, 3, 9), (9, 0, 10), (8, 1, 5), (8, 0, 3), (0, 2, 7), (7, 1, 5), (7, 0, 3), (5, 1, 6), (5, 0, 3), (0, 1, 3), (3, 1, 4), (3, 0, 1), (0, 0, 1), (1, 0, 2)]
def mkV : List (Nat × Nat × Int32) := [(0, 18, (nI 1)), (9, 1, (bI false)), (3, 7, (-1))]
def c15 : Lc := cLk 15 (fun _ => 31) (fun _ => 32)
/-- the class as it was made -/
def MdC (M : Mm) : Prop := (∀ p ∈ mkK, p.1 < mN M ∧ mK M p.1 = p.2) ∧ (∀ p ∈ mkR, mR M p.1 p.2.1 = some p.2.2) ∧ (∀ a, a < 179 → ¬ e2 a → ∀ k, mI M a k = vG mkV a k ∧ mL M a k = 0) ∧ (∀ i, i < 39 → mI M 4 i = nI (keyN i)) ∧ LdR M 15 c15 Ld0
theorem LnQ.l15 {μ M : Mm} (h : LnQ μ 15 0 0 (nI 0) M) : LdR M 15 c15 Ld0 ∧ mN M = 33 := by
  obtain ⟨⟨h1, h2, h3⟩, h4, ⟨r3, r4, r5, r6, r7, r8, r9, r17, r18, r19⟩, ⟨a15, a1, a2, a3, a4, a5, a12⟩, w6, n2, ⟨i0, i1, i2, i11, i12, i13, i14, i15, i16⟩, l10, lar, ⟨o16, q16, a17, q1⟩⟩ := h
  refine ⟨⟨⟨⟨h3, Or.inl ⟨by decide, by decide⟩⟩, fun k hk => ?_, fun k hk1 hk2 => ?_, ⟨a15, a1, a2, a3, a4⟩, ⟨a5, fun i hi => ?_⟩, ⟨a12, fun i hi => ?_⟩⟩, ⟨⟨i0, i1, i2⟩, ⟨i11, i12⟩, ⟨i13, i14, i15⟩⟩, ⟨?_, fun k hk => absurd hk (by show ¬ k < 0; omega)⟩, fun i x hx => by simp [Ld0] at hx, fun i x hx => by simp [Ld0] at hx, fun w hw => ?_, List.nodup_nil⟩, h1⟩
  · rcases (show k = 3 ∨ k = 4 ∨ k = 5 ∨ k = 6 ∨ k = 7 ∨ k = 8 ∨ k = 9 ∨ k = 17 ∨ k = 18 ∨ k = 19 by omega) with e | e | e | e | e | e | e | e | e | e <;> subst e <;> assumption
  · have q := (by decide +kernel : ∀ k : Fin 40, 15 ≤ c15 k.val ∧ c15 k.val ≤ 32) ⟨k, hk2⟩
    exact Or.inl q
  · unfold c15
    rw [cLk_20 hi]
    exact w6 i hi
  · unfold c15
    rw [cLk_26 hi]
    exact n2 i hi
  · rw [l10]
    congr 1
  · unfold c15
    rw [cLk_17 hw, cLk_37 hw]
    exact ⟨o16, q16, [], a17, by simp, fun j n z => by simp at z, by rw [q1]; simp, rfl⟩
theorem MdC.of {Z M : Mm} (h : Mk Z e2 179 mkK mkR mkV M) (hK : ∀ i, i < 39 → mI M 4 i = nI (keyN i)) (hL : LdR Z 15 c15 Ld0 ∧ mN Z = 33) : MdC M := by
  have hz := h.1.2.2.2
  refine ⟨fun p hp => by rw [h.1.1]; exact h.2.1 p hp, fun p hp => (h.2.2.1 p hp).2, fun a ha he k => ⟨(h.2.2.2.1 a ha he k).1, (h.2.2.2.1 a ha he k).2.resolve_right (by omega)⟩, hK, hL.1.same hz (fun a h1 h2 => ?_)⟩
  have := hL.2
  have q := (h.2.2.2.2 a (by unfold e2; unfold InL at h2; omega)).2
  exact ⟨fun k => (q k).1, fun k => (q k).2.1, fun k => (q k).2.2⟩
section KXI
variable {l : Launch} {G : Gm} {μ Z : Mm}
theorem ki_class (h0 : Mk Z e0 1 [(0, 12, 19)] [] [] μ) : AMet l G 6 178 5449 mtX12_init [.ref (G.1 + 0)] μ (qV (fun M => MdC M ∧ mN M = 179)) := by
  refine AMet.of (by decide) (Nat.le_of_ble_eq_true rfl) (fun X C hX hnm hq => ?_)
  have hO : isO μ 0 12 := h0.o (by decide +kernel)
  refine C.aload_n dX12_init_0 0 rfl ?_
  refine C.objI oX12_3 dX12_init_1 (by omega) (Nat.le_of_ble_eq_true rfl) oi_1 oi_2 ?_
  refine C.aload_n dX12_init_4 0 rfl ?_
  refine C.new (c := 11) rfl nX12_9 dX12_init_5 (by omega) (by rw [show nF 11 = 2 from rfl]; omega) ?_
  rw [show nF 11 = 2 from rfl, h0.1.1]
  have h1 := (h0.new 11 2 2 rfl)
  generalize nM μ 11 2 = M1 at h1 ⊢
  refine C.dup dX12_init_8 rfl ?_
  refine C.callINV nn_mtX11_init ⟨rfl, rfl⟩ ni_mtX11_init C.hK.2.1.1 dX12_init_9 (ki_tape (h1.o (a := 1) (c := 11) (by decide +kernel))) rfl rfl (Nat.le_of_ble_eq_true rfl) (by omega) (by omega) (Nat.le_of_ble_eq_true rfl) (fun μ9 h9 => ?_)
  rw [h1.1.1] at h9
  have h2 := Mk.cast ((h1.new 102 1600 3 rfl).putR 1 0 2 (by decide) (fun z => z) (by decide +kernel)) h9
  clear h9
  refine C.putO fX12_12 (Or.inr ⟨hnm, rfl⟩) dX12_init_12 (h2.o (a := 0) (c := 12) (by decide +kernel)) ?_
  have h3 := (h2.putR 0 0 1 (by decide) (fun z => z) (by decide +kernel))
  generalize sR μ9 0 0 (some 1) = M3 at h3 ⊢
  refine C.aload_n dX12_init_15 0 rfl ?_
  refine C.new (c := 8) rfl nX12_16 dX12_init_16 (by omega) (by rw [show nF 8 = 8 from rfl]; omega) ?_
  rw [show nF 8 = 8 from rfl, h3.1.1]
  have h4 := (h3.new 8 8 4 rfl)
  generalize nM M3 8 8 = M4 at h4 ⊢
  refine C.dup dX12_init_19 rfl ?_
  refine C.aload_n dX12_init_20 0 rfl ?_
  refine C.getO fX12_12 dX12_init_21 (h4.o (a := 0) (c := 12) (by decide +kernel)) (h4.r (r := 1) (by decide +kernel)) ?_
  refine C.callIV lX12_18 dX12_init_24 (ki_reader (h4.o (a := 3) (c := 8) (by decide +kernel)) (by rw [h4.1.1]; decide)) rfl rfl (Nat.le_of_ble_eq_true rfl) (by omega) (by omega) (Nat.le_of_ble_eq_true rfl) (fun μ24 h24 => ?_)
  rw [h4.1.1] at h24
  have q24 := ((((h4.putR 3 0 1 (by decide) (fun z => z) (by decide +kernel)).putI 3 7 (-1) (by decide) (fun z => z)).new 100 39 5 rfl).putR 3 1 4 (by decide) (fun z => z) (by decide +kernel))
  have hK4 : ∀ i, i < 39 → mI μ24 4 i = nI (keyN i) := fun i hi => by rw [h24, mI_sA, if_pos rfl]; exact keyF_ok ⟨i, hi⟩
  have h5 := Mk.cast2 (q24.setA (F := e1) 4 keyF (fun b z => False.elim z) rfl (fun b z => by unfold e1 at z; omega)) h24
  clear h24 q24
  refine C.putO fX12_21 (Or.inr ⟨hnm, rfl⟩) dX12_init_27 (h5.o (a := 0) (c := 12) (by decide +kernel)) ?_
  have h6 := (h5.putR 0 1 3 (by decide) (by unfold e1; omega) (by decide +kernel))
  generalize sR μ24 0 1 (some 3) = M6 at h6 ⊢
  refine C.new (c := 6) rfl nX12_25 dX12_init_30 (by omega) (by rw [show nF 6 = 5 from rfl]; omega) ?_
  rw [show nF 6 = 5 from rfl, h6.1.1]
  have h7 := (h6.new 6 5 6 rfl)
  generalize nM M6 6 5 = M7 at h7 ⊢
  refine C.dup dX12_init_33 rfl ?_
  refine C.aload_n dX12_init_34 0 rfl ?_
  refine C.getO fX12_21 dX12_init_35 (h7.o (a := 0) (c := 12) (by decide +kernel)) (h7.r (r := 3) (by decide +kernel)) ?_
  refine C.callIV lX12_27 dX12_init_38 (ki_phrases (h7.o (a := 5) (c := 6) (by decide +kernel))) rfl rfl (Nat.le_of_ble_eq_true rfl) (by omega) (by omega) (Nat.le_of_ble_eq_true rfl) (fun μ38 h38 => ?_)
  rw [h7.1.1] at h38
  have h8 := Mk.cast (((h7.putR 5 0 3 (by decide) (by unfold e1; omega) (by decide +kernel)).new 100 1600 7 rfl).putR 5 1 6 (by decide) (by unfold e1; omega) (by decide +kernel)) h38
  clear h38
  refine C.astore_n (lv' := [(0, _), (1, _)]) dX12_init_41 (nLt hX rfl) rfl ?_
  refine C.aload_n dX12_init_42 0 rfl ?_
  refine C.new (c := 3) rfl nX12_30 dX12_init_43 (by omega) (by rw [show nF 3 = 2 from rfl]; omega) ?_
  rw [show nF 3 = 2 from rfl, h8.1.1]
  have h9 := (h8.new 3 2 8 rfl)
  generalize nM μ38 3 2 = M9 at h9 ⊢
  refine C.dup dX12_init_46 rfl ?_
  refine C.aload_n dX12_init_47 0 rfl ?_
  refine C.getO fX12_21 dX12_init_48 (h9.o (a := 0) (c := 12) (by decide +kernel)) (h9.r (r := 3) (by decide +kernel)) ?_
  refine C.aload_n dX12_init_51 1 rfl ?_
  refine C.callIV lX12_32 dX12_init_52 (ki_landReader (h9.o (a := 7) (c := 3) (by decide +kernel))) rfl rfl (Nat.le_of_ble_eq_true rfl) (Nat.zero_le _) (Nat.zero_le _) (Nat.le_of_ble_eq_true rfl) (fun μ52 h52 => ?_)
  have h10 := Mk.cast ((h9.putR 7 0 3 (by decide) (by unfold e1; omega) (by decide +kernel)).putR 7 1 5 (by decide) (by unfold e1; omega) (by decide +kernel)) h52
  clear h52
  refine C.putO fX12_35 (Or.inr ⟨hnm, rfl⟩) dX12_init_55 (h10.o (a := 0) (c := 12) (by decide +kernel)) ?_
  have h11 := (h10.putR 0 2 7 (by decide) (by unfold e1; omega) (by decide +kernel))
  generalize sR μ52 0 2 (some 7) = M11 at h11 ⊢
  refine C.aload_n dX12_init_58 0 rfl ?_
  refine C.new (c := 7) rfl nX12_39 dX12_init_59 (by omega) (by rw [show nF 7 = 4 from rfl]; omega) ?_
  rw [show nF 7 = 4 from rfl, h11.1.1]
  have h12 := (h11.new 7 4 9 rfl)
  generalize nM M11 7 4 = M12 at h12 ⊢
  refine C.dup dX12_init_62 rfl ?_
  refine C.aload_n dX12_init_63 0 rfl ?_
  refine C.getO fX12_21 dX12_init_64 (h12.o (a := 0) (c := 12) (by decide +kernel)) (h12.r (r := 3) (by decide +kernel)) ?_
  refine C.aload_n dX12_init_67 1 rfl ?_
  refine C.callIV lX12_41 dX12_init_68 (ki_question (h12.o (a := 8) (c := 7) (by decide +kernel))) rfl rfl (Nat.le_of_ble_eq_true rfl) (by omega) (by omega) (Nat.le_of_ble_eq_true rfl) (fun μ68 h68 => ?_)
  rw [h12.1.1] at h68
  have h13 := Mk.cast (((((((h12.putR 8 0 3 (by decide) (by unfold e1; omega) (by decide +kernel)).putR 8 1 5 (by decide) (by unfold e1; omega) (by decide +kernel)).new 0 2 10 rfl).new 100 0 11 rfl).putR 9 0 10 (by decide) (by unfold e1; omega) (by decide +kernel)).putI 9 1 (bI false) (by decide) (by unfold e1; omega)).putR 8 3 9 (by decide) (by unfold e1; omega) (by decide +kernel)) h68
  clear h68
  refine C.putO fX12_42 (Or.inr ⟨hnm, rfl⟩) dX12_init_71 (h13.o (a := 0) (c := 12) (by decide +kernel)) ?_
  have h14 := (h13.putR 0 3 8 (by decide) (by unfold e1; omega) (by decide +kernel))
  generalize sR μ68 0 3 (some 8) = M14 at h14 ⊢
  refine C.new (c := 4) rfl nX12_46 dX12_init_74 (by omega) (by rw [show nF 4 = 4 from rfl]; omega) ?_
  rw [show nF 4 = 4 from rfl, h14.1.1]
  have h15 := (h14.new 4 4 12 rfl)
  generalize nM M14 4 4 = M15 at h15 ⊢
  refine C.dup dX12_init_77 rfl ?_
  refine C.callINV nn_mtX4_init ⟨rfl, rfl⟩ ni_mtX4_init C.hK.2.1.2.1 dX12_init_78 (ki_machine (h15.o (a := 11) (c := 4) (by decide +kernel))) rfl rfl (Nat.le_of_ble_eq_true rfl) (by omega) (by omega) (Nat.le_of_ble_eq_true rfl) (fun μ78 h78 => ?_)
  rw [h15.1.1] at h78
  have h16 := Mk.cast ((((((h15.new 100 9 13 rfl).putR 11 0 12 (by decide) (by unfold e1; omega) (by decide +kernel)).new 100 12 14 rfl).putR 11 1 13 (by decide) (by unfold e1; omega) (by decide +kernel)).new 100 64 15 rfl).putR 11 2 14 (by decide) (by unfold e1; omega) (by decide +kernel)) h78
  clear h78
  refine C.astore_n (lv' := [(0, _), (1, _), (2, _)]) dX12_init_81 (nLt hX rfl) rfl ?_
  refine C.aload_n dX12_init_82 0 rfl ?_
  refine C.new (c := 2) rfl nX12_49 dX12_init_83 (by omega) (by rw [show nF 2 = 20 from rfl]; omega) ?_
  rw [show nF 2 = 20 from rfl, h16.1.1]
  have hIP := InP.start μ78
  rw [h16.1.1] at hIP
  refine C.dup dX12_init_86 rfl ?_
  refine C.iconst (nI 0) dX12_init_87 (by decide) ?_
  refine C.iconst (nI 0) dX12_init_88 (by decide) ?_
  refine C.iconst (nI 0) dX12_init_89 (by decide) ?_
  refine C.callIV lX12_51 dX12_init_90 (kl_init hIP (by decide) (by decide)) rfl rfl (Nat.le_of_ble_eq_true rfl) (by omega) (by omega) (Nat.le_of_ble_eq_true rfl) (fun μ90 h90 => ?_)
  have h17 := h16.land h90
  have hL15 := h90.l15
  have hK4b : ∀ i, i < 39 → mI μ90 4 i = nI (keyN i) := fun i hi => by rw [(h90.2.1 4 (by decide)).1, mI_nM, if_neg (by rw [h16.1.1]; decide), (h16.2.2.2.2 4 rfl).2 i |>.1]; exact hK4 i hi
  clear h90
  refine C.putO fX12_54 (Or.inl rfl) dX12_init_93 (h17.o (a := 0) (c := 12) (by decide +kernel)) ?_
  have h18 := (h17.putR 0 15 15 (by decide) (by unfold e2; omega) (by decide +kernel))
  generalize sR μ90 0 15 (some 15) = M18 at h18 ⊢
  refine C.aload_n dX12_init_96 0 rfl ?_
  refine C.new (c := 9) rfl nX12_58 dX12_init_97 (by omega) (by rw [show nF 9 = 8 from rfl]; omega) ?_
  rw [show nF 9 = 8 from rfl, h18.1.1]
  have h19 := (h18.new 9 8 34 rfl)
  generalize nM M18 9 8 = M19 at h19 ⊢
  refine C.dup dX12_init_100 rfl ?_
  refine C.aload_n dX12_init_101 2 rfl ?_
  refine C.aload_n dX12_init_102 0 rfl ?_
  refine C.getO fX12_54 dX12_init_103 (h19.o (a := 0) (c := 12) (by decide +kernel)) (h19.r (r := 15) (by decide +kernel)) ?_
  refine C.callIV lX12_60 dX12_init_106 (ki_ride (h19.o (a := 33) (c := 9) (by decide +kernel))) rfl rfl (Nat.le_of_ble_eq_true rfl) (by omega) (by omega) (Nat.le_of_ble_eq_true rfl) (fun μ106 h106 => ?_)
  rw [h19.1.1] at h106
  have h20 := Mk.cast ((((h19.new 100 12 35 rfl).putR 33 0 34 (by decide) (by unfold e2; omega) (by decide +kernel)).putR 33 1 11 (by decide) (by unfold e2; omega) (by decide +kernel)).putR 33 4 15 (by decide) (by unfold e2; omega) (by decide +kernel)) h106
  clear h106
  refine C.putO fX12_63 (Or.inr ⟨hnm, rfl⟩) dX12_init_109 (h20.o (a := 0) (c := 12) (by decide +kernel)) ?_
  have h21 := (h20.putR 0 4 33 (by decide) (by unfold e2; omega) (by decide +kernel))
  generalize sR μ106 0 4 (some 33) = M21 at h21 ⊢
  refine C.aload_n dX12_init_112 0 rfl ?_
  refine C.new (c := 9) rfl nX12_58 dX12_init_113 (by omega) (by rw [show nF 9 = 8 from rfl]; omega) ?_
  rw [show nF 9 = 8 from rfl, h21.1.1]
  have h22 := (h21.new 9 8 36 rfl)
  generalize nM M21 9 8 = M22 at h22 ⊢
  refine C.dup dX12_init_116 rfl ?_
  refine C.aload_n dX12_init_117 2 rfl ?_
  refine C.aload_n dX12_init_118 0 rfl ?_
  refine C.getO fX12_54 dX12_init_119 (h22.o (a := 0) (c := 12) (by decide +kernel)) (h22.r (r := 15) (by decide +kernel)) ?_
  refine C.callIV lX12_60 dX12_init_122 (ki_ride (h22.o (a := 35) (c := 9) (by decide +kernel))) rfl rfl (Nat.le_of_ble_eq_true rfl) (by omega) (by omega) (Nat.le_of_ble_eq_true rfl) (fun μ122 h122 => ?_)
  rw [h22.1.1] at h122
  have h23 := Mk.cast ((((h22.new 100 12 37 rfl).putR 35 0 36 (by decide) (by unfold e2; omega) (by decide +kernel)).putR 35 1 11 (by decide) (by unfold e2; omega) (by decide +kernel)).putR 35 4 15 (by decide) (by unfold e2; omega) (by decide +kernel)) h122
  clear h122
  refine C.putO fX12_67 (Or.inr ⟨hnm, rfl⟩) dX12_init_125 (h23.o (a := 0) (c := 12) (by decide +kernel)) ?_
  have h24 := (h23.putR 0 5 35 (by decide) (by unfold e2; omega) (by decide +kernel))
  generalize sR μ122 0 5 (some 35) = M24 at h24 ⊢
  refine C.aload_n dX12_init_128 0 rfl ?_
  refine C.new (c := 1) rfl nX12_70 dX12_init_129 (by omega) (by rw [show nF 1 = 6 from rfl]; omega) ?_
  rw [show nF 1 = 6 from rfl, h24.1.1]
  have h25 := (h24.new 1 6 38 rfl)
  generalize nM M24 1 6 = M25 at h25 ⊢
  refine C.dup dX12_init_132 rfl ?_
  refine C.aload_n dX12_init_133 2 rfl ?_
  refine C.aload_n dX12_init_134 0 rfl ?_
  refine C.getO fX12_54 dX12_init_135 (h25.o (a := 0) (c := 12) (by decide +kernel)) (h25.r (r := 15) (by decide +kernel)) ?_
  refine C.callIV lX12_72 dX12_init_138 (ki_host (h25.o (a := 37) (c := 1) (by decide +kernel))) rfl rfl (Nat.le_of_ble_eq_true rfl) (by omega) (by omega) (Nat.le_of_ble_eq_true rfl) (fun μ138 h138 => ?_)
  rw [h25.1.1] at h138
  have h26 := Mk.cast (((((((h25.putR 37 0 11 (by decide) (by unfold e2; omega) (by decide +kernel)).new 9 8 39 rfl).new 100 12 40 rfl).putR 38 0 39 (by decide) (by unfold e2; omega) (by decide +kernel)).putR 38 1 11 (by decide) (by unfold e2; omega) (by decide +kernel)).putR 38 4 15 (by decide) (by unfold e2; omega) (by decide +kernel)).putR 37 1 38 (by decide) (by unfold e2; omega) (by decide +kernel)) h138
  clear h138
  refine C.putO fX12_73 (Or.inr ⟨hnm, rfl⟩) dX12_init_141 (h26.o (a := 0) (c := 12) (by decide +kernel)) ?_
  have h27 := (h26.putR 0 6 37 (by decide) (by unfold e2; omega) (by decide +kernel))
  generalize sR μ138 0 6 (some 37) = M27 at h27 ⊢
  refine C.aload_n dX12_init_144 0 rfl ?_
  refine C.new (c := 10) rfl nX12_77 dX12_init_145 (by omega) (by rw [show nF 10 = 9 from rfl]; omega) ?_
  rw [show nF 10 = 9 from rfl, h27.1.1]
  have h28 := (h27.new 10 9 41 rfl)
  generalize nM M27 10 9 = M28 at h28 ⊢
  refine C.dup dX12_init_148 rfl ?_
  refine C.callINV nn_mtX10_init ⟨rfl, rfl⟩ ni_mtX10_init C.hK.2.1.2.2.1 dX12_init_149 (ki_state (h28.o (a := 40) (c := 10) (by decide +kernel))) rfl rfl (Nat.le_of_ble_eq_true rfl) (by omega) (by omega) (Nat.le_of_ble_eq_true rfl) (fun μ149 h149 => ?_)
  rw [h28.1.1] at h149
  have h29 := Mk.cast ((((((((((h28.new 100 6 42 rfl).putR 40 0 41 (by decide) (by unfold e2; omega) (by decide +kernel)).new 100 6 43 rfl).putR 40 1 42 (by decide) (by unfold e2; omega) (by decide +kernel)).new 100 6 44 rfl).putR 40 2 43 (by decide) (by unfold e2; omega) (by decide +kernel)).new 100 6 45 rfl).putR 40 3 44 (by decide) (by unfold e2; omega) (by decide +kernel)).new 100 40 46 rfl).putR 40 4 45 (by decide) (by unfold e2; omega) (by decide +kernel)) h149
  clear h149
  refine C.putO fX12_80 (Or.inr ⟨hnm, rfl⟩) dX12_init_152 (h29.o (a := 0) (c := 12) (by decide +kernel)) ?_
  have h30 := (h29.putR 0 7 40 (by decide) (by unfold e2; omega) (by decide +kernel))
  generalize sR μ149 0 7 (some 40) = M30 at h30 ⊢
  refine C.aload_n dX12_init_155 0 rfl ?_
  refine C.new (c := 10) rfl nX12_77 dX12_init_156 (by omega) (by rw [show nF 10 = 9 from rfl]; omega) ?_
  rw [show nF 10 = 9 from rfl, h30.1.1]
  have h31 := (h30.new 10 9 47 rfl)
  generalize nM M30 10 9 = M31 at h31 ⊢
  refine C.dup dX12_init_159 rfl ?_
  refine C.callINV nn_mtX10_init ⟨rfl, rfl⟩ ni_mtX10_init C.hK.2.1.2.2.1 dX12_init_160 (ki_state (h31.o (a := 46) (c := 10) (by decide +kernel))) rfl rfl (Nat.le_of_ble_eq_true rfl) (by omega) (by omega) (Nat.le_of_ble_eq_true rfl) (fun μ160 h160 => ?_)
  rw [h31.1.1] at h160
  have h32 := Mk.cast ((((((((((h31.new 100 6 48 rfl).putR 46 0 47 (by decide) (by unfold e2; omega) (by decide +kernel)).new 100 6 49 rfl).putR 46 1 48 (by decide) (by unfold e2; omega) (by decide +kernel)).new 100 6 50 rfl).putR 46 2 49 (by decide) (by unfold e2; omega) (by decide +kernel)).new 100 6 51 rfl).putR 46 3 50 (by decide) (by unfold e2; omega) (by decide +kernel)).new 100 40 52 rfl).putR 46 4 51 (by decide) (by unfold e2; omega) (by decide +kernel)) h160
  clear h160
  refine C.putO fX12_84 (Or.inr ⟨hnm, rfl⟩) dX12_init_163 (h32.o (a := 0) (c := 12) (by decide +kernel)) ?_
  have h33 := (h32.putR 0 8 46 (by decide) (by unfold e2; omega) (by decide +kernel))
  generalize sR μ160 0 8 (some 46) = M33 at h33 ⊢
  refine C.aload_n dX12_init_166 0 rfl ?_
  refine C.new (c := 5) rfl nX12_87 dX12_init_167 (by omega) (by rw [show nF 5 = 3 from rfl]; omega) ?_
  rw [show nF 5 = 3 from rfl, h33.1.1]
  have h34 := (h33.new 5 3 53 rfl)
  generalize nM M33 5 3 = M34 at h34 ⊢
  refine C.dup dX12_init_170 rfl ?_
  refine C.callIV lX12_89 dX12_init_171 (ki_past h34 (by decide +kernel) (fun a z => by unfold e2; omega) (by decide +kernel)) rfl rfl (Nat.le_of_ble_eq_true rfl) (by omega) (by omega) (Nat.le_of_ble_eq_true rfl) (fun μ171 h171 => ?_)
  have h35 := h171
  refine C.putO fX12_90 (Or.inr ⟨hnm, rfl⟩) dX12_init_174 (h35.o (a := 0) (c := 12) (by decide +kernel)) ?_
  have h36 := (h35.putR 0 9 52 (by decide) (by unfold e2; omega) (by decide +kernel))
  generalize sR μ171 0 9 (some 52) = M36 at h36 ⊢
  refine C.aload_n dX12_init_177 0 rfl ?_
  refine C.bipush (nI 24) dX12_init_178 (by decide) ?_
  refine C.newa (t := 0) (by decide) rfl ac_int dX12_init_180 rfl (by decide) (by omega) (by omega) ?_
  rw [h36.1.1]
  have h37 := Mk.cast (h36.new 100 24 175 rfl) (show nM M36 (100 + 0) 24 = _ from rfl)
  generalize nM M36 (100 + 0) 24 = M37 at h37 ⊢
  refine C.putA fX12_94 (Or.inr ⟨hnm, rfl⟩) dX12_init_182 (h37.o (a := 0) (c := 12) (by decide +kernel)) ?_
  have h38 := (h37.putR 0 10 174 (by decide) (by unfold e2; omega) (by decide +kernel))
  generalize sR M37 0 10 (some 174) = M38 at h38 ⊢
  refine C.aload_n dX12_init_185 0 rfl ?_
  refine C.bipush (nI 49) dX12_init_186 (by decide) ?_
  refine C.newa (t := 0) (by decide) rfl ac_int dX12_init_188 rfl (by decide) (by omega) (by omega) ?_
  rw [h38.1.1]
  have h39 := Mk.cast (h38.new 100 49 176 rfl) (show nM M38 (100 + 0) 49 = _ from rfl)
  generalize nM M38 (100 + 0) 49 = M39 at h39 ⊢
  refine C.putA fX12_98 (Or.inr ⟨hnm, rfl⟩) dX12_init_190 (h39.o (a := 0) (c := 12) (by decide +kernel)) ?_
  have h40 := (h39.putR 0 11 175 (by decide) (by unfold e2; omega) (by decide +kernel))
  generalize sR M39 0 11 (some 175) = M40 at h40 ⊢
  refine C.aload_n dX12_init_193 0 rfl ?_
  refine C.bipush (nI 32) dX12_init_194 (by decide) ?_
  refine C.newa (t := 1) (by decide) rfl ac_long dX12_init_196 rfl (by decide) (by omega) (by omega) ?_
  rw [h40.1.1]
  have h41 := Mk.cast (h40.new 101 32 177 rfl) (show nM M40 (100 + 1) 32 = _ from rfl)
  generalize nM M40 (100 + 1) 32 = M41 at h41 ⊢
  refine C.putA fX12_101 (Or.inr ⟨hnm, rfl⟩) dX12_init_198 (h41.o (a := 0) (c := 12) (by decide +kernel)) ?_
  have h42 := (h41.putR 0 12 176 (by decide) (by unfold e2; omega) (by decide +kernel))
  generalize sR M41 0 12 (some 176) = M42 at h42 ⊢
  refine C.aload_n dX12_init_201 0 rfl ?_
  refine C.bipush (nI 40) dX12_init_202 (by decide) ?_
  refine C.newa (t := 0) (by decide) rfl ac_int dX12_init_204 rfl (by decide) (by omega) (by omega) ?_
  rw [h42.1.1]
  have h43 := Mk.cast (h42.new 100 40 178 rfl) (show nM M42 (100 + 0) 40 = _ from rfl)
  generalize nM M42 (100 + 0) 40 = M43 at h43 ⊢
  refine C.putA fX12_105 (Or.inr ⟨hnm, rfl⟩) dX12_init_206 (h43.o (a := 0) (c := 12) (by decide +kernel)) ?_
  have h44 := (h43.putR 0 13 177 (by decide) (by unfold e2; omega) (by decide +kernel))
  generalize sR M43 0 13 (some 177) = M44 at h44 ⊢
  refine C.aload_n dX12_init_209 0 rfl ?_
  refine C.bipush (nI 6) dX12_init_210 (by decide) ?_
  refine C.newa (t := 0) (by decide) rfl ac_int dX12_init_212 rfl (by decide) (by omega) (by omega) ?_
  rw [h44.1.1]
  have h45 := Mk.cast (h44.new 100 6 179 rfl) (show nM M44 (100 + 0) 6 = _ from rfl)
  generalize nM M44 (100 + 0) 6 = M45 at h45 ⊢
  refine C.putA fX12_108 (Or.inr ⟨hnm, rfl⟩) dX12_init_214 (h45.o (a := 0) (c := 12) (by decide +kernel)) ?_
  have h46 := (h45.putR 0 14 178 (by decide) (by unfold e2; omega) (by decide +kernel))
  generalize sR M45 0 14 (some 178) = M46 at h46 ⊢
  refine C.aload_n dX12_init_217 0 rfl ?_
  refine C.iconst (nI 1) dX12_init_218 (by decide) ?_
  refine C.putI fX12_111 (Or.inl rfl) dX12_init_219 (h46.o (a := 0) (c := 12) (by decide +kernel)) ?_
  refine C.vret hq dX12_init_222 ?_
  refine ⟨MdC.of (by exact (h46.putI 0 18 (nI 1) (by decide) (by unfold e2; omega))) (fun i hi => by rw [(((h46.putI 0 18 (nI 1) (by decide) (by unfold e2; omega))).2.2.2.2 4 (Or.inl rfl)).2 i |>.1]; exact hK4b i hi) hL15, h46.1.1⟩
end KXI
