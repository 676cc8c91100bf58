/-! the class: its fixed cells -/
def shCO : List (Nat × Nat) := [(0, 12), (1, 11), (3, 8), (5, 6), (7, 3), (8, 7), (11, 4), (33, 9), (35, 9), (37, 1), (38, 9), (40, 10), (46, 10), (52, 5)]
def shCR : List (Nat × Nat × Nat) := [(0, 0, 1), (0, 1, 3), (0, 2, 7), (0, 3, 8), (0, 4, 33), (0, 5, 35), (0, 6, 37), (0, 7, 40), (0, 8, 46), (0, 9, 52), (0, 10, 174), (0, 11, 175), (0, 12, 176), (0, 13, 177), (0, 14, 178), (1, 0, 2), (3, 0, 1), (3, 1, 4), (5, 0, 3), (5, 1, 6), (7, 0, 3), (7, 1, 5), (8, 0, 3), (8, 1, 5), (11, 0, 12), (11, 1, 13), (11, 2, 14), (33, 0, 34), (33, 1, 11), (35, 0, 36), (35, 1, 11), (37, 0, 11), (37, 1, 38), (38, 0, 39), (38, 1, 11), (40, 0, 41), (40, 1, 42), (40, 2, 43), (40, 3, 44), (40, 4, 45), (46, 0, 47), (46, 1, 48), (46, 2, 49), (46, 3, 50), (46, 4, 51), (52, 0, 53)]
def shCA : List (Nat × Nat × Nat) := [(2, 2, 1600), (4, 0, 39), (6, 0, 1600), (12, 0, 9), (13, 0, 12), (14, 0, 64), (34, 0, 12), (36, 0, 12), (39, 0, 12), (41, 0, 6), (42, 0, 6), (43, 0, 6), (44, 0, 6), (45, 0, 40), (47, 0, 6), (48, 0, 6), (49, 0, 6), (50, 0, 6), (51, 0, 40), (53, 5, 20), (174, 0, 24), (175, 0, 49), (176, 1, 32), (177, 0, 40), (178, 0, 6)]
/-- a State with its rows -/
def StO (μ : Mm) (b : Nat) : Prop := isO μ b 10 ∧ (∀ j, j < 5 → mR μ b j = some (b + 1 + j)) ∧ (∀ j, j < 4 → isA μ (b + 1 + j) 0 6) ∧ isA μ (b + 5) 0 40
def ShC (μ : Mm) : Prop := (∀ a c, (a, c) ∈ shCO → isO μ a c) ∧ (∀ a k r, (a, k, r) ∈ shCR → mR μ a k = some r) ∧ (∀ a t n, (a, t, n) ∈ shCA → isA μ a t n) ∧ (∀ i, i < 20 → mR μ 53 i = some (54 + 6 * i) ∧ StO μ (54 + 6 * i))
theorem ShC.o0 {μ : Mm} (h : ShC μ) : isO μ 0 12 := h.1 0 12 (List.mem_of_getElem? (i := 0) rfl)
theorem ShC.o1 {μ : Mm} (h : ShC μ) : isO μ 1 11 := h.1 1 11 (List.mem_of_getElem? (i := 1) rfl)
theorem ShC.o3 {μ : Mm} (h : ShC μ) : isO μ 3 8 := h.1 3 8 (List.mem_of_getElem? (i := 2) rfl)
theorem ShC.o5 {μ : Mm} (h : ShC μ) : isO μ 5 6 := h.1 5 6 (List.mem_of_getElem? (i := 3) rfl)
theorem ShC.o7 {μ : Mm} (h : ShC μ) : isO μ 7 3 := h.1 7 3 (List.mem_of_getElem? (i := 4) rfl)
theorem ShC.o8 {μ : Mm} (h : ShC μ) : isO μ 8 7 := h.1 8 7 (List.mem_of_getElem? (i := 5) rfl)
theorem ShC.o11 {μ : Mm} (h : ShC μ) : isO μ 11 4 := h.1 11 4 (List.mem_of_getElem? (i := 6) rfl)
theorem ShC.o33 {μ : Mm} (h : ShC μ) : isO μ 33 9 := h.1 33 9 (List.mem_of_getElem? (i := 7) rfl)
theorem ShC.o35 {μ : Mm} (h : ShC μ) : isO μ 35 9 := h.1 35 9 (List.mem_of_getElem? (i := 8) rfl)
theorem ShC.o37 {μ : Mm} (h : ShC μ) : isO μ 37 1 := h.1 37 1 (List.mem_of_getElem? (i := 9) rfl)
theorem ShC.o38 {μ : Mm} (h : ShC μ) : isO μ 38 9 := h.1 38 9 (List.mem_of_getElem? (i := 10) rfl)
theorem ShC.o40 {μ : Mm} (h : ShC μ) : isO μ 40 10 := h.1 40 10 (List.mem_of_getElem? (i := 11) rfl)
theorem ShC.o46 {μ : Mm} (h : ShC μ) : isO μ 46 10 := h.1 46 10 (List.mem_of_getElem? (i := 12) rfl)
theorem ShC.o52 {μ : Mm} (h : ShC μ) : isO μ 52 5 := h.1 52 5 (List.mem_of_getElem? (i := 13) rfl)
theorem ShC.r0_0 {μ : Mm} (h : ShC μ) : mR μ 0 0 = some 1 := h.2.1 0 0 1 (List.mem_of_getElem? (i := 0) rfl)
theorem ShC.r0_1 {μ : Mm} (h : ShC μ) : mR μ 0 1 = some 3 := h.2.1 0 1 3 (List.mem_of_getElem? (i := 1) rfl)
theorem ShC.r0_2 {μ : Mm} (h : ShC μ) : mR μ 0 2 = some 7 := h.2.1 0 2 7 (List.mem_of_getElem? (i := 2) rfl)
theorem ShC.r0_3 {μ : Mm} (h : ShC μ) : mR μ 0 3 = some 8 := h.2.1 0 3 8 (List.mem_of_getElem? (i := 3) rfl)
theorem ShC.r0_4 {μ : Mm} (h : ShC μ) : mR μ 0 4 = some 33 := h.2.1 0 4 33 (List.mem_of_getElem? (i := 4) rfl)
theorem ShC.r0_5 {μ : Mm} (h : ShC μ) : mR μ 0 5 = some 35 := h.2.1 0 5 35 (List.mem_of_getElem? (i := 5) rfl)
theorem ShC.r0_6 {μ : Mm} (h : ShC μ) : mR μ 0 6 = some 37 := h.2.1 0 6 37 (List.mem_of_getElem? (i := 6) rfl)
theorem ShC.r0_7 {μ : Mm} (h : ShC μ) : mR μ 0 7 = some 40 := h.2.1 0 7 40 (List.mem_of_getElem? (i := 7) rfl)
theorem ShC.r0_8 {μ : Mm} (h : ShC μ) : mR μ 0 8 = some 46 := h.2.1 0 8 46 (List.mem_of_getElem? (i := 8) rfl)
theorem ShC.r0_9 {μ : Mm} (h : ShC μ) : mR μ 0 9 = some 52 := h.2.1 0 9 52 (List.mem_of_getElem? (i := 9) rfl)
theorem ShC.r0_10 {μ : Mm} (h : ShC μ) : mR μ 0 10 = some 174 := h.2.1 0 10 174 (List.mem_of_getElem? (i := 10) rfl)
theorem ShC.r0_11 {μ : Mm} (h : ShC μ) : mR μ 0 11 = some 175 := h.2.1 0 11 175 (List.mem_of_getElem? (i := 11) rfl)
theorem ShC.r0_12 {μ : Mm} (h : ShC μ) : mR μ 0 12 = some 176 := h.2.1 0 12 176 (List.mem_of_getElem? (i := 12) rfl)
theorem ShC.r0_13 {μ : Mm} (h : ShC μ) : mR μ 0 13 = some 177 := h.2.1 0 13 177 (List.mem_of_getElem? (i := 13) rfl)
theorem ShC.r0_14 {μ : Mm} (h : ShC μ) : mR μ 0 14 = some 178 := h.2.1 0 14 178 (List.mem_of_getElem? (i := 14) rfl)
theorem ShC.r1_0 {μ : Mm} (h : ShC μ) : mR μ 1 0 = some 2 := h.2.1 1 0 2 (List.mem_of_getElem? (i := 15) rfl)
theorem ShC.r3_0 {μ : Mm} (h : ShC μ) : mR μ 3 0 = some 1 := h.2.1 3 0 1 (List.mem_of_getElem? (i := 16) rfl)
theorem ShC.r3_1 {μ : Mm} (h : ShC μ) : mR μ 3 1 = some 4 := h.2.1 3 1 4 (List.mem_of_getElem? (i := 17) rfl)
theorem ShC.r5_0 {μ : Mm} (h : ShC μ) : mR μ 5 0 = some 3 := h.2.1 5 0 3 (List.mem_of_getElem? (i := 18) rfl)
theorem ShC.r5_1 {μ : Mm} (h : ShC μ) : mR μ 5 1 = some 6 := h.2.1 5 1 6 (List.mem_of_getElem? (i := 19) rfl)
theorem ShC.r7_0 {μ : Mm} (h : ShC μ) : mR μ 7 0 = some 3 := h.2.1 7 0 3 (List.mem_of_getElem? (i := 20) rfl)
theorem ShC.r7_1 {μ : Mm} (h : ShC μ) : mR μ 7 1 = some 5 := h.2.1 7 1 5 (List.mem_of_getElem? (i := 21) rfl)
theorem ShC.r8_0 {μ : Mm} (h : ShC μ) : mR μ 8 0 = some 3 := h.2.1 8 0 3 (List.mem_of_getElem? (i := 22) rfl)
theorem ShC.r8_1 {μ : Mm} (h : ShC μ) : mR μ 8 1 = some 5 := h.2.1 8 1 5 (List.mem_of_getElem? (i := 23) rfl)
theorem ShC.r11_0 {μ : Mm} (h : ShC μ) : mR μ 11 0 = some 12 := h.2.1 11 0 12 (List.mem_of_getElem? (i := 24) rfl)
theorem ShC.r11_1 {μ : Mm} (h : ShC μ) : mR μ 11 1 = some 13 := h.2.1 11 1 13 (List.mem_of_getElem? (i := 25) rfl)
theorem ShC.r11_2 {μ : Mm} (h : ShC μ) : mR μ 11 2 = some 14 := h.2.1 11 2 14 (List.mem_of_getElem? (i := 26) rfl)
theorem ShC.r33_0 {μ : Mm} (h : ShC μ) : mR μ 33 0 = some 34 := h.2.1 33 0 34 (List.mem_of_getElem? (i := 27) rfl)
theorem ShC.r33_1 {μ : Mm} (h : ShC μ) : mR μ 33 1 = some 11 := h.2.1 33 1 11 (List.mem_of_getElem? (i := 28) rfl)
theorem ShC.r35_0 {μ : Mm} (h : ShC μ) : mR μ 35 0 = some 36 := h.2.1 35 0 36 (List.mem_of_getElem? (i := 29) rfl)
theorem ShC.r35_1 {μ : Mm} (h : ShC μ) : mR μ 35 1 = some 11 := h.2.1 35 1 11 (List.mem_of_getElem? (i := 30) rfl)
theorem ShC.r37_0 {μ : Mm} (h : ShC μ) : mR μ 37 0 = some 11 := h.2.1 37 0 11 (List.mem_of_getElem? (i := 31) rfl)
theorem ShC.r37_1 {μ : Mm} (h : ShC μ) : mR μ 37 1 = some 38 := h.2.1 37 1 38 (List.mem_of_getElem? (i := 32) rfl)
theorem ShC.r38_0 {μ : Mm} (h : ShC μ) : mR μ 38 0 = some 39 := h.2.1 38 0 39 (List.mem_of_getElem? (i := 33) rfl)
theorem ShC.r38_1 {μ : Mm} (h : ShC μ) : mR μ 38 1 = some 11 := h.2.1 38 1 11 (List.mem_of_getElem? (i := 34) rfl)
theorem ShC.r40_0 {μ : Mm} (h : ShC μ) : mR μ 40 0 = some 41 := h.2.1 40 0 41 (List.mem_of_getElem? (i := 35) rfl)
theorem ShC.r40_1 {μ : Mm} (h : ShC μ) : mR μ 40 1 = some 42 := h.2.1 40 1 42 (List.mem_of_getElem? (i := 36) rfl)
theorem ShC.r40_2 {μ : Mm} (h : ShC μ) : mR μ 40 2 = some 43 := h.2.1 40 2 43 (List.mem_of_getElem? (i := 37) rfl)
theorem ShC.r40_3 {μ : Mm} (h : ShC μ) : mR μ 40 3 = some 44 := h.2.1 40 3 44 (List.mem_of_getElem? (i := 38) rfl)
theorem ShC.r40_4 {μ : Mm} (h : ShC μ) : mR μ 40 4 = some 45 := h.2.1 40 4 45 (List.mem_of_getElem? (i := 39) rfl)
theorem ShC.r46_0 {μ : Mm} (h : ShC μ) : mR μ 46 0 = some 47 := h.2.1 46 0 47 (List.mem_of_getElem? (i := 40) rfl)
theorem ShC.r46_1 {μ : Mm} (h : ShC μ) : mR μ 46 1 = some 48 := h.2.1 46 1 48 (List.mem_of_getElem? (i := 41) rfl)
theorem ShC.r46_2 {μ : Mm} (h : ShC μ) : mR μ 46 2 = some 49 := h.2.1 46 2 49 (List.mem_of_getElem? (i := 42) rfl)
theorem ShC.r46_3 {μ : Mm} (h : ShC μ) : mR μ 46 3 = some 50 := h.2.1 46 3 50 (List.mem_of_getElem? (i := 43) rfl)
theorem ShC.r46_4 {μ : Mm} (h : ShC μ) : mR μ 46 4 = some 51 := h.2.1 46 4 51 (List.mem_of_getElem? (i := 44) rfl)
theorem ShC.r52_0 {μ : Mm} (h : ShC μ) : mR μ 52 0 = some 53 := h.2.1 52 0 53 (List.mem_of_getElem? (i := 45) rfl)
theorem ShC.a2 {μ : Mm} (h : ShC μ) : isA μ 2 2 1600 := h.2.2.1 2 2 1600 (List.mem_of_getElem? (i := 0) rfl)
theorem ShC.a4 {μ : Mm} (h : ShC μ) : isA μ 4 0 39 := h.2.2.1 4 0 39 (List.mem_of_getElem? (i := 1) rfl)
theorem ShC.a6 {μ : Mm} (h : ShC μ) : isA μ 6 0 1600 := h.2.2.1 6 0 1600 (List.mem_of_getElem? (i := 2) rfl)
theorem ShC.a12 {μ : Mm} (h : ShC μ) : isA μ 12 0 9 := h.2.2.1 12 0 9 (List.mem_of_getElem? (i := 3) rfl)
theorem ShC.a13 {μ : Mm} (h : ShC μ) : isA μ 13 0 12 := h.2.2.1 13 0 12 (List.mem_of_getElem? (i := 4) rfl)
theorem ShC.a14 {μ : Mm} (h : ShC μ) : isA μ 14 0 64 := h.2.2.1 14 0 64 (List.mem_of_getElem? (i := 5) rfl)
theorem ShC.a34 {μ : Mm} (h : ShC μ) : isA μ 34 0 12 := h.2.2.1 34 0 12 (List.mem_of_getElem? (i := 6) rfl)
theorem ShC.a36 {μ : Mm} (h : ShC μ) : isA μ 36 0 12 := h.2.2.1 36 0 12 (List.mem_of_getElem? (i := 7) rfl)
theorem ShC.a39 {μ : Mm} (h : ShC μ) : isA μ 39 0 12 := h.2.2.1 39 0 12 (List.mem_of_getElem? (i := 8) rfl)
theorem ShC.a41 {μ : Mm} (h : ShC μ) : isA μ 41 0 6 := h.2.2.1 41 0 6 (List.mem_of_getElem? (i := 9) rfl)
theorem ShC.a42 {μ : Mm} (h : ShC μ) : isA μ 42 0 6 := h.2.2.1 42 0 6 (List.mem_of_getElem? (i := 10) rfl)
theorem ShC.a43 {μ : Mm} (h : ShC μ) : isA μ 43 0 6 := h.2.2.1 43 0 6 (List.mem_of_getElem? (i := 11) rfl)
theorem ShC.a44 {μ : Mm} (h : ShC μ) : isA μ 44 0 6 := h.2.2.1 44 0 6 (List.mem_of_getElem? (i := 12) rfl)
theorem ShC.a45 {μ : Mm} (h : ShC μ) : isA μ 45 0 40 := h.2.2.1 45 0 40 (List.mem_of_getElem? (i := 13) rfl)
theorem ShC.a47 {μ : Mm} (h : ShC μ) : isA μ 47 0 6 := h.2.2.1 47 0 6 (List.mem_of_getElem? (i := 14) rfl)
theorem ShC.a48 {μ : Mm} (h : ShC μ) : isA μ 48 0 6 := h.2.2.1 48 0 6 (List.mem_of_getElem? (i := 15) rfl)
theorem ShC.a49 {μ : Mm} (h : ShC μ) : isA μ 49 0 6 := h.2.2.1 49 0 6 (List.mem_of_getElem? (i := 16) rfl)
theorem ShC.a50 {μ : Mm} (h : ShC μ) : isA μ 50 0 6 := h.2.2.1 50 0 6 (List.mem_of_getElem? (i := 17) rfl)
theorem ShC.a51 {μ : Mm} (h : ShC μ) : isA μ 51 0 40 := h.2.2.1 51 0 40 (List.mem_of_getElem? (i := 18) rfl)
theorem ShC.a53 {μ : Mm} (h : ShC μ) : isA μ 53 5 20 := h.2.2.1 53 5 20 (List.mem_of_getElem? (i := 19) rfl)
theorem ShC.a174 {μ : Mm} (h : ShC μ) : isA μ 174 0 24 := h.2.2.1 174 0 24 (List.mem_of_getElem? (i := 20) rfl)
theorem ShC.a175 {μ : Mm} (h : ShC μ) : isA μ 175 0 49 := h.2.2.1 175 0 49 (List.mem_of_getElem? (i := 21) rfl)
theorem ShC.a176 {μ : Mm} (h : ShC μ) : isA μ 176 1 32 := h.2.2.1 176 1 32 (List.mem_of_getElem? (i := 22) rfl)
theorem ShC.a177 {μ : Mm} (h : ShC μ) : isA μ 177 0 40 := h.2.2.1 177 0 40 (List.mem_of_getElem? (i := 23) rfl)
theorem ShC.a178 {μ : Mm} (h : ShC μ) : isA μ 178 0 6 := h.2.2.1 178 0 6 (List.mem_of_getElem? (i := 24) rfl)
theorem ShC.s40 {μ : Mm} (h : ShC μ) : StO μ 40 := ⟨h.o40, fun j hj => by rcases (show j = 0 ∨ j = 1 ∨ j = 2 ∨ j = 3 ∨ j = 4 by omega) with rfl | rfl | rfl | rfl | rfl; exact h.r40_0; exact h.r40_1; exact h.r40_2; exact h.r40_3; exact h.r40_4, fun j hj => by rcases (show j = 0 ∨ j = 1 ∨ j = 2 ∨ j = 3 by omega) with rfl | rfl | rfl | rfl; exact h.a41; exact h.a42; exact h.a43; exact h.a44, h.a45⟩
theorem ShC.s46 {μ : Mm} (h : ShC μ) : StO μ 46 := ⟨h.o46, fun j hj => by rcases (show j = 0 ∨ j = 1 ∨ j = 2 ∨ j = 3 ∨ j = 4 by omega) with rfl | rfl | rfl | rfl | rfl; exact h.r46_0; exact h.r46_1; exact h.r46_2; exact h.r46_3; exact h.r46_4, fun j hj => by rcases (show j = 0 ∨ j = 1 ∨ j = 2 ∨ j = 3 by omega) with rfl | rfl | rfl | rfl; exact h.a47; exact h.a48; exact h.a49; exact h.a50, h.a51⟩
theorem StO.o {μ : Mm} {b : Nat} (h : StO μ b) : isO μ b 10 := h.1
theorem StO.r0 {μ : Mm} {b : Nat} (h : StO μ b) : mR μ b 0 = some (b + 1) := h.2.1 0 (by decide)
theorem StO.r1 {μ : Mm} {b : Nat} (h : StO μ b) : mR μ b 1 = some (b + 2) := h.2.1 1 (by decide)
theorem StO.r2 {μ : Mm} {b : Nat} (h : StO μ b) : mR μ b 2 = some (b + 3) := h.2.1 2 (by decide)
theorem StO.r3 {μ : Mm} {b : Nat} (h : StO μ b) : mR μ b 3 = some (b + 4) := h.2.1 3 (by decide)
theorem StO.r4 {μ : Mm} {b : Nat} (h : StO μ b) : mR μ b 4 = some (b + 5) := h.2.1 4 (by decide)
theorem StO.a0 {μ : Mm} {b : Nat} (h : StO μ b) : isA μ (b + 1) 0 6 := h.2.2.1 0 (by decide)
theorem StO.a1 {μ : Mm} {b : Nat} (h : StO μ b) : isA μ (b + 2) 0 6 := h.2.2.1 1 (by decide)
theorem StO.a2 {μ : Mm} {b : Nat} (h : StO μ b) : isA μ (b + 3) 0 6 := h.2.2.1 2 (by decide)
theorem StO.a3 {μ : Mm} {b : Nat} (h : StO μ b) : isA μ (b + 4) 0 6 := h.2.2.1 3 (by decide)
theorem StO.a4 {μ : Mm} {b : Nat} (h : StO μ b) : isA μ (b + 5) 0 40 := h.2.2.2
/-- the references that change -/
def dynR (a k : Nat) : Prop := (a = 0 ∧ k = 15) ∨ (a = 8 ∧ k = 3) ∨ ((a = 33 ∨ a = 35 ∨ a = 38) ∧ k = 4)
theorem shCR_ok : ∀ q ∈ shCR, q.1 < 179 ∧ ¬ ((q.1 = 0 ∧ q.2.1 = 15) ∨ (q.1 = 8 ∧ q.2.1 = 3) ∨ ((q.1 = 33 ∨ q.1 = 35 ∨ q.1 = 38) ∧ q.2.1 = 4)) := by decide +kernel
theorem shCO_ok : ∀ q ∈ shCO, q.1 < 179 := by decide +kernel
theorem shCA_ok : ∀ q ∈ shCA, q.1 < 179 := by decide +kernel
/-- cells are made at the end, kinds stay -/
def Grw (μ μ' : Mm) : Prop := mN μ ≤ mN μ' ∧ ∀ a, a < mN μ → mK μ' a = mK μ a
theorem Grw.refl (μ : Mm) : Grw μ μ := ⟨Nat.le_refl _, fun _ _ => rfl⟩
theorem Grw.trans {μ μ' μ'' : Mm} (h : Grw μ μ') (h2 : Grw μ' μ'') : Grw μ μ'' := ⟨Nat.le_trans h.1 h2.1, fun a q => (h2.2 a (Nat.lt_of_lt_of_le q h.1)).trans (h.2 a q)⟩
theorem Grw.of {μ μ' : Mm} (e : μ'.2.2.2 = μ.2.2.2) : Grw μ μ' := ⟨by unfold mN; rw [e]; exact Nat.le_refl _, fun a _ => by unfold mK; rw [e]⟩
theorem Grw.new (μ : Mm) (k n : Nat) : Grw μ (nM μ k n) := ⟨Nat.le_succ _, fun a q => by show (if a = mN μ then (k, n) else mK μ a) = mK μ a; rw [if_neg (by omega)]⟩
theorem isO.grw {μ μ' : Mm} {a c : Nat} (h : isO μ a c) (g : Grw μ μ') : isO μ' a c := ⟨Nat.lt_of_lt_of_le h.1 g.1, (g.2 a h.1).trans h.2⟩
theorem isA.grw {μ μ' : Mm} {a t n : Nat} (h : isA μ a t n) (g : Grw μ μ') : isA μ' a t n := ⟨Nat.lt_of_lt_of_le h.1 g.1, (g.2 a h.1).trans h.2⟩
theorem StO.grw {μ μ' : Mm} {b : Nat} (h : StO μ b) (g : Grw μ μ') (hr : ∀ j, j < 5 → mR μ' b j = mR μ b j) : StO μ' b := ⟨h.1.grw g, fun j q => (hr j q).trans (h.2.1 j q), fun j q => (h.2.2.1 j q).grw g, h.2.2.2.grw g⟩
theorem ShC.grw {μ μ' : Mm} (h : ShC μ) (g : Grw μ μ') (hr : ∀ a k, a < 179 → ¬ dynR a k → mR μ' a k = mR μ a k) : ShC μ' := by
  refine ⟨fun a c q => (h.1 a c q).grw g, fun a k r q => (hr a k ?_ ?_).trans (h.2.1 a k r q), fun a t n q => (h.2.2.1 a t n q).grw g, fun i hi => ⟨(hr 53 i (by decide) (by unfold dynR; omega)).trans (h.2.2.2 i hi).1, (h.2.2.2 i hi).2.grw g (fun j hj => hr _ j (by omega) (by unfold dynR; omega))⟩⟩
  · exact (shCR_ok _ q).1
  · exact (shCR_ok _ q).2
theorem ShC.of {μ μ' : Mm} (h : ShC μ) (e : μ'.2.2 = μ.2.2) : ShC μ' := h.grw (Grw.of (by rw [e])) (fun a k _ _ => by unfold mR; rw [e])
theorem StO.of {μ μ' : Mm} {b : Nat} (h : StO μ b) (e : μ'.2.2 = μ.2.2) : StO μ' b := h.grw (Grw.of (by rw [e])) (fun j _ => by unfold mR; rw [e])
