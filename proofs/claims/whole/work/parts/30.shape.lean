theorem nLt {X : Cx} {n k : Nat} (h : X.2.2.1 = n) (hk : Nat.blt k n = true) : k < X.2.2.1 := by
  rw [h]
  simpa [Nat.blt_eq] using hk
/-- the reference: its rows by field, cell, kind, length -/
def shT : List (Nat × Nat × Nat × Nat) := [(0, 180, 0, 1600), (9, 181, 0, 6), (11, 182, 3, 4), (12, 183, 3, 2), (13, 184, 3, 4), (14, 185, 3, 6), (15, 186, 3, 4), (16, 187, 3, 2), (17, 188, 3, 4), (18, 189, 3, 6), (19, 190, 3, 4), (20, 191, 3, 2), (21, 192, 3, 4), (22, 193, 3, 5), (23, 194, 3, 4), (24, 195, 3, 5), (25, 196, 3, 4), (26, 197, 3, 4), (27, 198, 3, 5), (28, 199, 3, 4), (29, 200, 3, 5), (30, 201, 3, 6), (31, 202, 3, 3), (32, 203, 3, 6), (33, 204, 3, 3), (34, 205, 3, 5), (35, 206, 3, 6), (36, 207, 3, 4), (37, 208, 3, 4), (38, 209, 3, 2), (39, 210, 3, 3), (40, 211, 3, 3), (41, 212, 3, 3), (42, 213, 3, 3), (43, 214, 3, 3), (45, 215, 0, 6), (46, 216, 0, 6), (47, 217, 1, 24), (48, 218, 0, 20), (49, 219, 0, 20), (50, 220, 0, 60), (51, 221, 0, 6), (52, 222, 0, 6), (53, 223, 0, 6), (54, 224, 0, 3200), (59, 225, 0, 187), (60, 226, 0, 26), (64, 227, 0, 6), (65, 228, 0, 12), (71, 229, 4, 98), (73, 230, 0, 24), (74, 231, 0, 588), (75, 232, 0, 3740), (79, 233, 3, 5), (80, 234, 3, 4), (81, 235, 3, 5), (82, 236, 3, 5), (83, 237, 3, 4), (84, 238, 3, 5), (85, 239, 3, 3), (86, 240, 3, 3), (87, 241, 3, 2), (88, 242, 3, 3), (89, 243, 3, 3), (90, 244, 3, 3), (91, 245, 3, 4), (92, 246, 3, 5), (93, 247, 3, 6), (94, 248, 3, 3), (95, 249, 3, 6), (96, 250, 3, 3), (97, 251, 3, 5), (98, 252, 3, 6), (99, 253, 3, 4), (100, 254, 3, 4), (101, 255, 0, 1700), (103, 256, 0, 1700), (107, 257, 1, 1700), (111, 258, 0, 40)]
def ShM (μ : Mm) : Prop := isO μ 179 13 ∧ ∀ k a t n, (k, a, t, n) ∈ shT → mR μ 179 k = some a ∧ isA μ a t n
theorem ShM.o {μ : Mm} (h : ShM μ) : isO μ 179 13 := h.1
theorem ShM.r0 {μ : Mm} (h : ShM μ) : mR μ 179 0 = some 180 := (h.2 0 180 0 1600 (List.mem_of_getElem? (i := 0) rfl)).1
theorem ShM.a0 {μ : Mm} (h : ShM μ) : isA μ 180 0 1600 := (h.2 0 180 0 1600 (List.mem_of_getElem? (i := 0) rfl)).2
theorem ShM.r9 {μ : Mm} (h : ShM μ) : mR μ 179 9 = some 181 := (h.2 9 181 0 6 (List.mem_of_getElem? (i := 1) rfl)).1
theorem ShM.a9 {μ : Mm} (h : ShM μ) : isA μ 181 0 6 := (h.2 9 181 0 6 (List.mem_of_getElem? (i := 1) rfl)).2
theorem ShM.r11 {μ : Mm} (h : ShM μ) : mR μ 179 11 = some 182 := (h.2 11 182 3 4 (List.mem_of_getElem? (i := 2) rfl)).1
theorem ShM.a11 {μ : Mm} (h : ShM μ) : isA μ 182 3 4 := (h.2 11 182 3 4 (List.mem_of_getElem? (i := 2) rfl)).2
theorem ShM.r12 {μ : Mm} (h : ShM μ) : mR μ 179 12 = some 183 := (h.2 12 183 3 2 (List.mem_of_getElem? (i := 3) rfl)).1
theorem ShM.a12 {μ : Mm} (h : ShM μ) : isA μ 183 3 2 := (h.2 12 183 3 2 (List.mem_of_getElem? (i := 3) rfl)).2
theorem ShM.r13 {μ : Mm} (h : ShM μ) : mR μ 179 13 = some 184 := (h.2 13 184 3 4 (List.mem_of_getElem? (i := 4) rfl)).1
theorem ShM.a13 {μ : Mm} (h : ShM μ) : isA μ 184 3 4 := (h.2 13 184 3 4 (List.mem_of_getElem? (i := 4) rfl)).2
theorem ShM.r14 {μ : Mm} (h : ShM μ) : mR μ 179 14 = some 185 := (h.2 14 185 3 6 (List.mem_of_getElem? (i := 5) rfl)).1
theorem ShM.a14 {μ : Mm} (h : ShM μ) : isA μ 185 3 6 := (h.2 14 185 3 6 (List.mem_of_getElem? (i := 5) rfl)).2
theorem ShM.r15 {μ : Mm} (h : ShM μ) : mR μ 179 15 = some 186 := (h.2 15 186 3 4 (List.mem_of_getElem? (i := 6) rfl)).1
theorem ShM.a15 {μ : Mm} (h : ShM μ) : isA μ 186 3 4 := (h.2 15 186 3 4 (List.mem_of_getElem? (i := 6) rfl)).2
theorem ShM.r16 {μ : Mm} (h : ShM μ) : mR μ 179 16 = some 187 := (h.2 16 187 3 2 (List.mem_of_getElem? (i := 7) rfl)).1
theorem ShM.a16 {μ : Mm} (h : ShM μ) : isA μ 187 3 2 := (h.2 16 187 3 2 (List.mem_of_getElem? (i := 7) rfl)).2
theorem ShM.r17 {μ : Mm} (h : ShM μ) : mR μ 179 17 = some 188 := (h.2 17 188 3 4 (List.mem_of_getElem? (i := 8) rfl)).1
theorem ShM.a17 {μ : Mm} (h : ShM μ) : isA μ 188 3 4 := (h.2 17 188 3 4 (List.mem_of_getElem? (i := 8) rfl)).2
theorem ShM.r18 {μ : Mm} (h : ShM μ) : mR μ 179 18 = some 189 := (h.2 18 189 3 6 (List.mem_of_getElem? (i := 9) rfl)).1
theorem ShM.a18 {μ : Mm} (h : ShM μ) : isA μ 189 3 6 := (h.2 18 189 3 6 (List.mem_of_getElem? (i := 9) rfl)).2
theorem ShM.r19 {μ : Mm} (h : ShM μ) : mR μ 179 19 = some 190 := (h.2 19 190 3 4 (List.mem_of_getElem? (i := 10) rfl)).1
theorem ShM.a19 {μ : Mm} (h : ShM μ) : isA μ 190 3 4 := (h.2 19 190 3 4 (List.mem_of_getElem? (i := 10) rfl)).2
theorem ShM.r20 {μ : Mm} (h : ShM μ) : mR μ 179 20 = some 191 := (h.2 20 191 3 2 (List.mem_of_getElem? (i := 11) rfl)).1
theorem ShM.a20 {μ : Mm} (h : ShM μ) : isA μ 191 3 2 := (h.2 20 191 3 2 (List.mem_of_getElem? (i := 11) rfl)).2
theorem ShM.r21 {μ : Mm} (h : ShM μ) : mR μ 179 21 = some 192 := (h.2 21 192 3 4 (List.mem_of_getElem? (i := 12) rfl)).1
theorem ShM.a21 {μ : Mm} (h : ShM μ) : isA μ 192 3 4 := (h.2 21 192 3 4 (List.mem_of_getElem? (i := 12) rfl)).2
theorem ShM.r22 {μ : Mm} (h : ShM μ) : mR μ 179 22 = some 193 := (h.2 22 193 3 5 (List.mem_of_getElem? (i := 13) rfl)).1
theorem ShM.a22 {μ : Mm} (h : ShM μ) : isA μ 193 3 5 := (h.2 22 193 3 5 (List.mem_of_getElem? (i := 13) rfl)).2
theorem ShM.r23 {μ : Mm} (h : ShM μ) : mR μ 179 23 = some 194 := (h.2 23 194 3 4 (List.mem_of_getElem? (i := 14) rfl)).1
theorem ShM.a23 {μ : Mm} (h : ShM μ) : isA μ 194 3 4 := (h.2 23 194 3 4 (List.mem_of_getElem? (i := 14) rfl)).2
theorem ShM.r24 {μ : Mm} (h : ShM μ) : mR μ 179 24 = some 195 := (h.2 24 195 3 5 (List.mem_of_getElem? (i := 15) rfl)).1
theorem ShM.a24 {μ : Mm} (h : ShM μ) : isA μ 195 3 5 := (h.2 24 195 3 5 (List.mem_of_getElem? (i := 15) rfl)).2
theorem ShM.r25 {μ : Mm} (h : ShM μ) : mR μ 179 25 = some 196 := (h.2 25 196 3 4 (List.mem_of_getElem? (i := 16) rfl)).1
theorem ShM.a25 {μ : Mm} (h : ShM μ) : isA μ 196 3 4 := (h.2 25 196 3 4 (List.mem_of_getElem? (i := 16) rfl)).2
theorem ShM.r26 {μ : Mm} (h : ShM μ) : mR μ 179 26 = some 197 := (h.2 26 197 3 4 (List.mem_of_getElem? (i := 17) rfl)).1
theorem ShM.a26 {μ : Mm} (h : ShM μ) : isA μ 197 3 4 := (h.2 26 197 3 4 (List.mem_of_getElem? (i := 17) rfl)).2
theorem ShM.r27 {μ : Mm} (h : ShM μ) : mR μ 179 27 = some 198 := (h.2 27 198 3 5 (List.mem_of_getElem? (i := 18) rfl)).1
theorem ShM.a27 {μ : Mm} (h : ShM μ) : isA μ 198 3 5 := (h.2 27 198 3 5 (List.mem_of_getElem? (i := 18) rfl)).2
theorem ShM.r28 {μ : Mm} (h : ShM μ) : mR μ 179 28 = some 199 := (h.2 28 199 3 4 (List.mem_of_getElem? (i := 19) rfl)).1
theorem ShM.a28 {μ : Mm} (h : ShM μ) : isA μ 199 3 4 := (h.2 28 199 3 4 (List.mem_of_getElem? (i := 19) rfl)).2
theorem ShM.r29 {μ : Mm} (h : ShM μ) : mR μ 179 29 = some 200 := (h.2 29 200 3 5 (List.mem_of_getElem? (i := 20) rfl)).1
theorem ShM.a29 {μ : Mm} (h : ShM μ) : isA μ 200 3 5 := (h.2 29 200 3 5 (List.mem_of_getElem? (i := 20) rfl)).2
theorem ShM.r30 {μ : Mm} (h : ShM μ) : mR μ 179 30 = some 201 := (h.2 30 201 3 6 (List.mem_of_getElem? (i := 21) rfl)).1
theorem ShM.a30 {μ : Mm} (h : ShM μ) : isA μ 201 3 6 := (h.2 30 201 3 6 (List.mem_of_getElem? (i := 21) rfl)).2
theorem ShM.r31 {μ : Mm} (h : ShM μ) : mR μ 179 31 = some 202 := (h.2 31 202 3 3 (List.mem_of_getElem? (i := 22) rfl)).1
theorem ShM.a31 {μ : Mm} (h : ShM μ) : isA μ 202 3 3 := (h.2 31 202 3 3 (List.mem_of_getElem? (i := 22) rfl)).2
theorem ShM.r32 {μ : Mm} (h : ShM μ) : mR μ 179 32 = some 203 := (h.2 32 203 3 6 (List.mem_of_getElem? (i := 23) rfl)).1
theorem ShM.a32 {μ : Mm} (h : ShM μ) : isA μ 203 3 6 := (h.2 32 203 3 6 (List.mem_of_getElem? (i := 23) rfl)).2
theorem ShM.r33 {μ : Mm} (h : ShM μ) : mR μ 179 33 = some 204 := (h.2 33 204 3 3 (List.mem_of_getElem? (i := 24) rfl)).1
theorem ShM.a33 {μ : Mm} (h : ShM μ) : isA μ 204 3 3 := (h.2 33 204 3 3 (List.mem_of_getElem? (i := 24) rfl)).2
theorem ShM.r34 {μ : Mm} (h : ShM μ) : mR μ 179 34 = some 205 := (h.2 34 205 3 5 (List.mem_of_getElem? (i := 25) rfl)).1
theorem ShM.a34 {μ : Mm} (h : ShM μ) : isA μ 205 3 5 := (h.2 34 205 3 5 (List.mem_of_getElem? (i := 25) rfl)).2
theorem ShM.r35 {μ : Mm} (h : ShM μ) : mR μ 179 35 = some 206 := (h.2 35 206 3 6 (List.mem_of_getElem? (i := 26) rfl)).1
theorem ShM.a35 {μ : Mm} (h : ShM μ) : isA μ 206 3 6 := (h.2 35 206 3 6 (List.mem_of_getElem? (i := 26) rfl)).2
theorem ShM.r36 {μ : Mm} (h : ShM μ) : mR μ 179 36 = some 207 := (h.2 36 207 3 4 (List.mem_of_getElem? (i := 27) rfl)).1
theorem ShM.a36 {μ : Mm} (h : ShM μ) : isA μ 207 3 4 := (h.2 36 207 3 4 (List.mem_of_getElem? (i := 27) rfl)).2
theorem ShM.r37 {μ : Mm} (h : ShM μ) : mR μ 179 37 = some 208 := (h.2 37 208 3 4 (List.mem_of_getElem? (i := 28) rfl)).1
theorem ShM.a37 {μ : Mm} (h : ShM μ) : isA μ 208 3 4 := (h.2 37 208 3 4 (List.mem_of_getElem? (i := 28) rfl)).2
theorem ShM.r38 {μ : Mm} (h : ShM μ) : mR μ 179 38 = some 209 := (h.2 38 209 3 2 (List.mem_of_getElem? (i := 29) rfl)).1
theorem ShM.a38 {μ : Mm} (h : ShM μ) : isA μ 209 3 2 := (h.2 38 209 3 2 (List.mem_of_getElem? (i := 29) rfl)).2
theorem ShM.r39 {μ : Mm} (h : ShM μ) : mR μ 179 39 = some 210 := (h.2 39 210 3 3 (List.mem_of_getElem? (i := 30) rfl)).1
theorem ShM.a39 {μ : Mm} (h : ShM μ) : isA μ 210 3 3 := (h.2 39 210 3 3 (List.mem_of_getElem? (i := 30) rfl)).2
theorem ShM.r40 {μ : Mm} (h : ShM μ) : mR μ 179 40 = some 211 := (h.2 40 211 3 3 (List.mem_of_getElem? (i := 31) rfl)).1
theorem ShM.a40 {μ : Mm} (h : ShM μ) : isA μ 211 3 3 := (h.2 40 211 3 3 (List.mem_of_getElem? (i := 31) rfl)).2
theorem ShM.r41 {μ : Mm} (h : ShM μ) : mR μ 179 41 = some 212 := (h.2 41 212 3 3 (List.mem_of_getElem? (i := 32) rfl)).1
theorem ShM.a41 {μ : Mm} (h : ShM μ) : isA μ 212 3 3 := (h.2 41 212 3 3 (List.mem_of_getElem? (i := 32) rfl)).2
theorem ShM.r42 {μ : Mm} (h : ShM μ) : mR μ 179 42 = some 213 := (h.2 42 213 3 3 (List.mem_of_getElem? (i := 33) rfl)).1
theorem ShM.a42 {μ : Mm} (h : ShM μ) : isA μ 213 3 3 := (h.2 42 213 3 3 (List.mem_of_getElem? (i := 33) rfl)).2
theorem ShM.r43 {μ : Mm} (h : ShM μ) : mR μ 179 43 = some 214 := (h.2 43 214 3 3 (List.mem_of_getElem? (i := 34) rfl)).1
theorem ShM.a43 {μ : Mm} (h : ShM μ) : isA μ 214 3 3 := (h.2 43 214 3 3 (List.mem_of_getElem? (i := 34) rfl)).2
theorem ShM.r45 {μ : Mm} (h : ShM μ) : mR μ 179 45 = some 215 := (h.2 45 215 0 6 (List.mem_of_getElem? (i := 35) rfl)).1
theorem ShM.a45 {μ : Mm} (h : ShM μ) : isA μ 215 0 6 := (h.2 45 215 0 6 (List.mem_of_getElem? (i := 35) rfl)).2
theorem ShM.r46 {μ : Mm} (h : ShM μ) : mR μ 179 46 = some 216 := (h.2 46 216 0 6 (List.mem_of_getElem? (i := 36) rfl)).1
theorem ShM.a46 {μ : Mm} (h : ShM μ) : isA μ 216 0 6 := (h.2 46 216 0 6 (List.mem_of_getElem? (i := 36) rfl)).2
theorem ShM.r47 {μ : Mm} (h : ShM μ) : mR μ 179 47 = some 217 := (h.2 47 217 1 24 (List.mem_of_getElem? (i := 37) rfl)).1
theorem ShM.a47 {μ : Mm} (h : ShM μ) : isA μ 217 1 24 := (h.2 47 217 1 24 (List.mem_of_getElem? (i := 37) rfl)).2
theorem ShM.r48 {μ : Mm} (h : ShM μ) : mR μ 179 48 = some 218 := (h.2 48 218 0 20 (List.mem_of_getElem? (i := 38) rfl)).1
theorem ShM.a48 {μ : Mm} (h : ShM μ) : isA μ 218 0 20 := (h.2 48 218 0 20 (List.mem_of_getElem? (i := 38) rfl)).2
theorem ShM.r49 {μ : Mm} (h : ShM μ) : mR μ 179 49 = some 219 := (h.2 49 219 0 20 (List.mem_of_getElem? (i := 39) rfl)).1
theorem ShM.a49 {μ : Mm} (h : ShM μ) : isA μ 219 0 20 := (h.2 49 219 0 20 (List.mem_of_getElem? (i := 39) rfl)).2
theorem ShM.r50 {μ : Mm} (h : ShM μ) : mR μ 179 50 = some 220 := (h.2 50 220 0 60 (List.mem_of_getElem? (i := 40) rfl)).1
theorem ShM.a50 {μ : Mm} (h : ShM μ) : isA μ 220 0 60 := (h.2 50 220 0 60 (List.mem_of_getElem? (i := 40) rfl)).2
theorem ShM.r51 {μ : Mm} (h : ShM μ) : mR μ 179 51 = some 221 := (h.2 51 221 0 6 (List.mem_of_getElem? (i := 41) rfl)).1
theorem ShM.a51 {μ : Mm} (h : ShM μ) : isA μ 221 0 6 := (h.2 51 221 0 6 (List.mem_of_getElem? (i := 41) rfl)).2
theorem ShM.r52 {μ : Mm} (h : ShM μ) : mR μ 179 52 = some 222 := (h.2 52 222 0 6 (List.mem_of_getElem? (i := 42) rfl)).1
theorem ShM.a52 {μ : Mm} (h : ShM μ) : isA μ 222 0 6 := (h.2 52 222 0 6 (List.mem_of_getElem? (i := 42) rfl)).2
theorem ShM.r53 {μ : Mm} (h : ShM μ) : mR μ 179 53 = some 223 := (h.2 53 223 0 6 (List.mem_of_getElem? (i := 43) rfl)).1
theorem ShM.a53 {μ : Mm} (h : ShM μ) : isA μ 223 0 6 := (h.2 53 223 0 6 (List.mem_of_getElem? (i := 43) rfl)).2
theorem ShM.r54 {μ : Mm} (h : ShM μ) : mR μ 179 54 = some 224 := (h.2 54 224 0 3200 (List.mem_of_getElem? (i := 44) rfl)).1
theorem ShM.a54 {μ : Mm} (h : ShM μ) : isA μ 224 0 3200 := (h.2 54 224 0 3200 (List.mem_of_getElem? (i := 44) rfl)).2
theorem ShM.r59 {μ : Mm} (h : ShM μ) : mR μ 179 59 = some 225 := (h.2 59 225 0 187 (List.mem_of_getElem? (i := 45) rfl)).1
theorem ShM.a59 {μ : Mm} (h : ShM μ) : isA μ 225 0 187 := (h.2 59 225 0 187 (List.mem_of_getElem? (i := 45) rfl)).2
theorem ShM.r60 {μ : Mm} (h : ShM μ) : mR μ 179 60 = some 226 := (h.2 60 226 0 26 (List.mem_of_getElem? (i := 46) rfl)).1
theorem ShM.a60 {μ : Mm} (h : ShM μ) : isA μ 226 0 26 := (h.2 60 226 0 26 (List.mem_of_getElem? (i := 46) rfl)).2
theorem ShM.r64 {μ : Mm} (h : ShM μ) : mR μ 179 64 = some 227 := (h.2 64 227 0 6 (List.mem_of_getElem? (i := 47) rfl)).1
theorem ShM.a64 {μ : Mm} (h : ShM μ) : isA μ 227 0 6 := (h.2 64 227 0 6 (List.mem_of_getElem? (i := 47) rfl)).2
theorem ShM.r65 {μ : Mm} (h : ShM μ) : mR μ 179 65 = some 228 := (h.2 65 228 0 12 (List.mem_of_getElem? (i := 48) rfl)).1
theorem ShM.a65 {μ : Mm} (h : ShM μ) : isA μ 228 0 12 := (h.2 65 228 0 12 (List.mem_of_getElem? (i := 48) rfl)).2
theorem ShM.r71 {μ : Mm} (h : ShM μ) : mR μ 179 71 = some 229 := (h.2 71 229 4 98 (List.mem_of_getElem? (i := 49) rfl)).1
theorem ShM.a71 {μ : Mm} (h : ShM μ) : isA μ 229 4 98 := (h.2 71 229 4 98 (List.mem_of_getElem? (i := 49) rfl)).2
theorem ShM.r73 {μ : Mm} (h : ShM μ) : mR μ 179 73 = some 230 := (h.2 73 230 0 24 (List.mem_of_getElem? (i := 50) rfl)).1
theorem ShM.a73 {μ : Mm} (h : ShM μ) : isA μ 230 0 24 := (h.2 73 230 0 24 (List.mem_of_getElem? (i := 50) rfl)).2
theorem ShM.r74 {μ : Mm} (h : ShM μ) : mR μ 179 74 = some 231 := (h.2 74 231 0 588 (List.mem_of_getElem? (i := 51) rfl)).1
theorem ShM.a74 {μ : Mm} (h : ShM μ) : isA μ 231 0 588 := (h.2 74 231 0 588 (List.mem_of_getElem? (i := 51) rfl)).2
theorem ShM.r75 {μ : Mm} (h : ShM μ) : mR μ 179 75 = some 232 := (h.2 75 232 0 3740 (List.mem_of_getElem? (i := 52) rfl)).1
theorem ShM.a75 {μ : Mm} (h : ShM μ) : isA μ 232 0 3740 := (h.2 75 232 0 3740 (List.mem_of_getElem? (i := 52) rfl)).2
theorem ShM.r79 {μ : Mm} (h : ShM μ) : mR μ 179 79 = some 233 := (h.2 79 233 3 5 (List.mem_of_getElem? (i := 53) rfl)).1
theorem ShM.a79 {μ : Mm} (h : ShM μ) : isA μ 233 3 5 := (h.2 79 233 3 5 (List.mem_of_getElem? (i := 53) rfl)).2
theorem ShM.r80 {μ : Mm} (h : ShM μ) : mR μ 179 80 = some 234 := (h.2 80 234 3 4 (List.mem_of_getElem? (i := 54) rfl)).1
theorem ShM.a80 {μ : Mm} (h : ShM μ) : isA μ 234 3 4 := (h.2 80 234 3 4 (List.mem_of_getElem? (i := 54) rfl)).2
theorem ShM.r81 {μ : Mm} (h : ShM μ) : mR μ 179 81 = some 235 := (h.2 81 235 3 5 (List.mem_of_getElem? (i := 55) rfl)).1
theorem ShM.a81 {μ : Mm} (h : ShM μ) : isA μ 235 3 5 := (h.2 81 235 3 5 (List.mem_of_getElem? (i := 55) rfl)).2
theorem ShM.r82 {μ : Mm} (h : ShM μ) : mR μ 179 82 = some 236 := (h.2 82 236 3 5 (List.mem_of_getElem? (i := 56) rfl)).1
theorem ShM.a82 {μ : Mm} (h : ShM μ) : isA μ 236 3 5 := (h.2 82 236 3 5 (List.mem_of_getElem? (i := 56) rfl)).2
theorem ShM.r83 {μ : Mm} (h : ShM μ) : mR μ 179 83 = some 237 := (h.2 83 237 3 4 (List.mem_of_getElem? (i := 57) rfl)).1
theorem ShM.a83 {μ : Mm} (h : ShM μ) : isA μ 237 3 4 := (h.2 83 237 3 4 (List.mem_of_getElem? (i := 57) rfl)).2
theorem ShM.r84 {μ : Mm} (h : ShM μ) : mR μ 179 84 = some 238 := (h.2 84 238 3 5 (List.mem_of_getElem? (i := 58) rfl)).1
theorem ShM.a84 {μ : Mm} (h : ShM μ) : isA μ 238 3 5 := (h.2 84 238 3 5 (List.mem_of_getElem? (i := 58) rfl)).2
theorem ShM.r85 {μ : Mm} (h : ShM μ) : mR μ 179 85 = some 239 := (h.2 85 239 3 3 (List.mem_of_getElem? (i := 59) rfl)).1
theorem ShM.a85 {μ : Mm} (h : ShM μ) : isA μ 239 3 3 := (h.2 85 239 3 3 (List.mem_of_getElem? (i := 59) rfl)).2
theorem ShM.r86 {μ : Mm} (h : ShM μ) : mR μ 179 86 = some 240 := (h.2 86 240 3 3 (List.mem_of_getElem? (i := 60) rfl)).1
theorem ShM.a86 {μ : Mm} (h : ShM μ) : isA μ 240 3 3 := (h.2 86 240 3 3 (List.mem_of_getElem? (i := 60) rfl)).2
theorem ShM.r87 {μ : Mm} (h : ShM μ) : mR μ 179 87 = some 241 := (h.2 87 241 3 2 (List.mem_of_getElem? (i := 61) rfl)).1
theorem ShM.a87 {μ : Mm} (h : ShM μ) : isA μ 241 3 2 := (h.2 87 241 3 2 (List.mem_of_getElem? (i := 61) rfl)).2
theorem ShM.r88 {μ : Mm} (h : ShM μ) : mR μ 179 88 = some 242 := (h.2 88 242 3 3 (List.mem_of_getElem? (i := 62) rfl)).1
theorem ShM.a88 {μ : Mm} (h : ShM μ) : isA μ 242 3 3 := (h.2 88 242 3 3 (List.mem_of_getElem? (i := 62) rfl)).2
theorem ShM.r89 {μ : Mm} (h : ShM μ) : mR μ 179 89 = some 243 := (h.2 89 243 3 3 (List.mem_of_getElem? (i := 63) rfl)).1
theorem ShM.a89 {μ : Mm} (h : ShM μ) : isA μ 243 3 3 := (h.2 89 243 3 3 (List.mem_of_getElem? (i := 63) rfl)).2
theorem ShM.r90 {μ : Mm} (h : ShM μ) : mR μ 179 90 = some 244 := (h.2 90 244 3 3 (List.mem_of_getElem? (i := 64) rfl)).1
theorem ShM.a90 {μ : Mm} (h : ShM μ) : isA μ 244 3 3 := (h.2 90 244 3 3 (List.mem_of_getElem? (i := 64) rfl)).2
theorem ShM.r91 {μ : Mm} (h : ShM μ) : mR μ 179 91 = some 245 := (h.2 91 245 3 4 (List.mem_of_getElem? (i := 65) rfl)).1
theorem ShM.a91 {μ : Mm} (h : ShM μ) : isA μ 245 3 4 := (h.2 91 245 3 4 (List.mem_of_getElem? (i := 65) rfl)).2
theorem ShM.r92 {μ : Mm} (h : ShM μ) : mR μ 179 92 = some 246 := (h.2 92 246 3 5 (List.mem_of_getElem? (i := 66) rfl)).1
theorem ShM.a92 {μ : Mm} (h : ShM μ) : isA μ 246 3 5 := (h.2 92 246 3 5 (List.mem_of_getElem? (i := 66) rfl)).2
theorem ShM.r93 {μ : Mm} (h : ShM μ) : mR μ 179 93 = some 247 := (h.2 93 247 3 6 (List.mem_of_getElem? (i := 67) rfl)).1
theorem ShM.a93 {μ : Mm} (h : ShM μ) : isA μ 247 3 6 := (h.2 93 247 3 6 (List.mem_of_getElem? (i := 67) rfl)).2
theorem ShM.r94 {μ : Mm} (h : ShM μ) : mR μ 179 94 = some 248 := (h.2 94 248 3 3 (List.mem_of_getElem? (i := 68) rfl)).1
theorem ShM.a94 {μ : Mm} (h : ShM μ) : isA μ 248 3 3 := (h.2 94 248 3 3 (List.mem_of_getElem? (i := 68) rfl)).2
theorem ShM.r95 {μ : Mm} (h : ShM μ) : mR μ 179 95 = some 249 := (h.2 95 249 3 6 (List.mem_of_getElem? (i := 69) rfl)).1
theorem ShM.a95 {μ : Mm} (h : ShM μ) : isA μ 249 3 6 := (h.2 95 249 3 6 (List.mem_of_getElem? (i := 69) rfl)).2
theorem ShM.r96 {μ : Mm} (h : ShM μ) : mR μ 179 96 = some 250 := (h.2 96 250 3 3 (List.mem_of_getElem? (i := 70) rfl)).1
theorem ShM.a96 {μ : Mm} (h : ShM μ) : isA μ 250 3 3 := (h.2 96 250 3 3 (List.mem_of_getElem? (i := 70) rfl)).2
theorem ShM.r97 {μ : Mm} (h : ShM μ) : mR μ 179 97 = some 251 := (h.2 97 251 3 5 (List.mem_of_getElem? (i := 71) rfl)).1
theorem ShM.a97 {μ : Mm} (h : ShM μ) : isA μ 251 3 5 := (h.2 97 251 3 5 (List.mem_of_getElem? (i := 71) rfl)).2
theorem ShM.r98 {μ : Mm} (h : ShM μ) : mR μ 179 98 = some 252 := (h.2 98 252 3 6 (List.mem_of_getElem? (i := 72) rfl)).1
theorem ShM.a98 {μ : Mm} (h : ShM μ) : isA μ 252 3 6 := (h.2 98 252 3 6 (List.mem_of_getElem? (i := 72) rfl)).2
theorem ShM.r99 {μ : Mm} (h : ShM μ) : mR μ 179 99 = some 253 := (h.2 99 253 3 4 (List.mem_of_getElem? (i := 73) rfl)).1
theorem ShM.a99 {μ : Mm} (h : ShM μ) : isA μ 253 3 4 := (h.2 99 253 3 4 (List.mem_of_getElem? (i := 73) rfl)).2
theorem ShM.r100 {μ : Mm} (h : ShM μ) : mR μ 179 100 = some 254 := (h.2 100 254 3 4 (List.mem_of_getElem? (i := 74) rfl)).1
theorem ShM.a100 {μ : Mm} (h : ShM μ) : isA μ 254 3 4 := (h.2 100 254 3 4 (List.mem_of_getElem? (i := 74) rfl)).2
theorem ShM.r101 {μ : Mm} (h : ShM μ) : mR μ 179 101 = some 255 := (h.2 101 255 0 1700 (List.mem_of_getElem? (i := 75) rfl)).1
theorem ShM.a101 {μ : Mm} (h : ShM μ) : isA μ 255 0 1700 := (h.2 101 255 0 1700 (List.mem_of_getElem? (i := 75) rfl)).2
theorem ShM.r103 {μ : Mm} (h : ShM μ) : mR μ 179 103 = some 256 := (h.2 103 256 0 1700 (List.mem_of_getElem? (i := 76) rfl)).1
theorem ShM.a103 {μ : Mm} (h : ShM μ) : isA μ 256 0 1700 := (h.2 103 256 0 1700 (List.mem_of_getElem? (i := 76) rfl)).2
theorem ShM.r107 {μ : Mm} (h : ShM μ) : mR μ 179 107 = some 257 := (h.2 107 257 1 1700 (List.mem_of_getElem? (i := 77) rfl)).1
theorem ShM.a107 {μ : Mm} (h : ShM μ) : isA μ 257 1 1700 := (h.2 107 257 1 1700 (List.mem_of_getElem? (i := 77) rfl)).2
theorem ShM.r111 {μ : Mm} (h : ShM μ) : mR μ 179 111 = some 258 := (h.2 111 258 0 40 (List.mem_of_getElem? (i := 78) rfl)).1
theorem ShM.a111 {μ : Mm} (h : ShM μ) : isA μ 258 0 40 := (h.2 111 258 0 40 (List.mem_of_getElem? (i := 78) rfl)).2
theorem isO.of {μ μ' : Mm} {a c : Nat} (h : isO μ a c) (e : μ'.2.2 = μ.2.2) : isO μ' a c := by unfold isO mN mK at h ⊢; rw [e]; exact h
theorem isA.of {μ μ' : Mm} {a t n : Nat} (h : isA μ a t n) (e : μ'.2.2 = μ.2.2) : isA μ' a t n := by unfold isA mN mK at h ⊢; rw [e]; exact h
theorem mR.of {μ μ' : Mm} {a k : Nat} {r : Option Nat} (h : mR μ a k = r) (e : μ'.2.2 = μ.2.2) : mR μ' a k = r := by unfold mR at h ⊢; rw [e]; exact h
theorem ShM.of {μ μ' : Mm} (h : ShM μ) (e : μ'.2.2 = μ.2.2) : ShM μ' := ⟨h.1.of e, fun k a t n hk => ⟨mR.of (h.2 k a t n hk).1 e, (h.2 k a t n hk).2.of e⟩⟩
