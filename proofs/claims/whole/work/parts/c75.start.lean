/-! both were made: what they hold; each leaves the other's cells as they were -/
theorem Mk.base {M : Mm} {E : Nat → Prop} {n : Nat} (hn : mN M = n) (h1 : ∀ a, a < n → E a) (h2 : ∀ a, E a → a < n) : Mk M E n [] [] [] M := ⟨⟨hn, h2, by simp, Grw.refl M⟩, by simp, by simp, fun a ha he => absurd (h1 a ha) he, fun a _ => ⟨rfl, fun _ => ⟨rfl, rfl, rfl⟩⟩⟩
theorem nil_q {α : Type} {P : Prop} {j : Nat} {x : α} (h : ([] : List α)[j]? = some x) : P := by simp at h
theorem nil_m {α : Type} {P : Prop} {x : α} (h : x ∈ ([] : List α)) : P := absurd h List.not_mem_nil
theorem nil_c {α : Type} {P : Prop} {x : α} (h : (none : Option α) = some x) : P := by simp at h
def hs0 : Hs := ([], (0, -1), fun _ => 0, Ld0, ((0, 0), [], []), [], [], [], 1)
section STA
variable {Z M M' μ μ' : Mm} {h : Hs}
theorem ref_start (h : Mk Z e3 259 rK6 rR6 rV6 M) (hs : mL M 179 78 = lN 1) : RefRel M hs0 := by
  have i : ∀ a k, 179 ≤ a → a < 259 → mI M a k = vG rV6 a k := fun a k h1 h2 => h.i k h2 (by unfold e3; omega)
  have z : ∀ a k, 179 ≤ a → a < 259 → (∀ p ∈ rV6, p.1 ≠ a) → mI M a k = 0 := fun a k h1 h2 h3 => (i a k h1 h2).trans (vG_hi h3 k)
  refine ⟨⟨⟨h.o (by decide +kernel), fun k a t n hm => ?_⟩, fun a ws hm j hj => ?_, (i 179 66 (by decide) (by decide)).trans (by decide +kernel), (i 179 67 (by decide) (by decide)).trans (by decide +kernel)⟩, ⟨(i 179 1 (by decide) (by decide)).trans (by decide +kernel), Nat.zero_le _, fun j x hx => nil_q hx⟩, ⟨(i 179 7 (by decide) (by decide)).trans (by decide +kernel), (i 179 8 (by decide) (by decide)).trans (by decide +kernel)⟩, fun k hk => z 181 k (by decide) (by decide) (by decide +kernel), ⟨⟨?_, fun j x hx => nil_q hx, fun j x hx => nil_q hx, fun j x hx => nil_q hx, fun w hw => ⟨fun _ => ?_, fun cs hc => nil_c hc⟩⟩, (i 179 57 (by decide) (by decide)).trans (by decide +kernel)⟩, ⟨(i 225 0 (by decide) (by decide)).trans (by decide +kernel), (i 225 1 (by decide) (by decide)).trans (by decide +kernel), fun j x hx => nil_q hx, (i 225 26 (by decide) (by decide)).trans (by decide +kernel), fun j x hx => nil_q hx⟩, ⟨(i 179 76 (by decide) (by decide)).trans (by decide +kernel), 0, by decide, (i 179 77 (by decide) (by decide)).trans (by decide +kernel), fun j x hx => nil_q hx⟩, ⟨(i 179 72 (by decide) (by decide)).trans (by decide +kernel), fun j x hx => nil_q hx⟩, ⟨(i 179 112 (by decide) (by decide)).trans (by decide +kernel), Nat.zero_le _, fun j x hx => nil_q hx⟩, hs⟩
  · have q := (by decide +kernel : ∀ p ∈ shT, (179, p.1, p.2.1) ∈ rR6 ∧ (p.2.1, 100 + p.2.2.1, p.2.2.2) ∈ rK6) (k, a, t, n) hm
    exact ⟨h.r q.1, h.a q.2⟩
  · have q := (by decide +kernel : ∀ p ∈ wdT, 179 ≤ p.1 ∧ p.1 < 259 ∧ ∀ i ∈ List.range p.2.length, vG rV6 p.1 i = nI (p.2.getD i 0)) (a, ws) hm
    exact (i a j q.1 q.2.1).trans (q.2.2 j (List.mem_range.mpr hj))
  · exact ⟨⟨(i 215 3 (by decide) (by decide)).trans (by decide +kernel), (i 215 4 (by decide) (by decide)).trans (by decide +kernel), (i 215 5 (by decide) (by decide)).trans (by decide +kernel)⟩, ⟨(i 216 3 (by decide) (by decide)).trans (by decide +kernel), (i 216 4 (by decide) (by decide)).trans (by decide +kernel), (i 216 5 (by decide) (by decide)).trans (by decide +kernel)⟩, ⟨(i 221 3 (by decide) (by decide)).trans (by decide +kernel), (i 221 4 (by decide) (by decide)).trans (by decide +kernel), (i 221 5 (by decide) (by decide)).trans (by decide +kernel)⟩⟩
  · rw [i 222 _ (by decide) (by decide)]
    exact (by decide +kernel : ∀ w : Fin 3, vG rV6 222 (3 * 1 + w.val) = -1) ⟨w, hw⟩
theorem MdC.mv {n : Nat} {K R : List (Nat × Nat × Nat)} {V : List (Nat × Nat × Int32)} (h : MdC M) (hn : mN M = 179) (h' : Mk M e3 n K R V M') : MdC M' := by
  obtain ⟨h1, h2, h3, h4, h5⟩ := h
  have hg := h'.1.2.2.2
  have fr : ∀ a, a < 179 → mK M' a = mK M a ∧ ∀ k, mI M' a k = mI M a k ∧ mL M' a k = mL M a k ∧ mR M' a k = mR M a k := fun a ha => h'.2.2.2.2 a ha
  refine ⟨fun p hp => ?_, fun p hp => ?_, fun a ha he k => ?_, fun i hi => ?_, h5.same hg (fun a z1 z2 => ?_)⟩
  · obtain ⟨q1, q2⟩ := h1 p hp
    exact ⟨Nat.lt_of_lt_of_le q1 hg.1, ((fr p.1 (by omega)).1).trans q2⟩
  · have q := (by decide +kernel : ∀ p ∈ mkR, p.1 < 179) p hp
    exact ((fr p.1 q).2 p.2.1).2.2.trans (h2 p hp)
  · exact ⟨((fr a ha).2 k).1.trans (h3 a ha he k).1, ((fr a ha).2 k).2.1.trans (h3 a ha he k).2⟩
  · exact ((fr 4 (by decide)).2 i).1.trans (h4 i hi)
  · have q := (fr a (by omega)).2
    exact ⟨fun k => (q k).1, fun k => (q k).2.1, fun k => (q k).2.2⟩
theorem cls_start (h : MdC M) (hn : 259 ≤ mN M) : ClsRel M hs0 := by
  obtain ⟨h1, h2, h3, h4, h5⟩ := h
  have i : ∀ a k, a < 179 → (a = 4 ∨ (15 ≤ a ∧ a < 33) → False) → mI M a k = vG mkV a k := fun a k z1 z2 => (h3 a z1 z2 k).1
  have z : ∀ a k, a < 179 → (a = 4 ∨ (15 ≤ a ∧ a < 33) → False) → (∀ p ∈ mkV, p.1 ≠ a) → mI M a k = 0 := fun a k z1 z2 z3 => (i a k z1 z2).trans (vG_hi z3 k)
  have O : ∀ a c, (a, c, nF c) ∈ mkK → isO M a c := fun a c hm => h1 _ hm
  have A : ∀ a t n, (a, 100 + t, n) ∈ mkK → isA M a t n := fun a t n hm => h1 _ hm
  have rk : ∀ b, (b, 4, 15) ∈ mkR → RdK M b Ld0 15 := fun b hb => ⟨⟨15, h2 _ hb, by omega⟩, fun _ q => absurd q (by decide)⟩
  refine ⟨⟨⟨⟨fun a c hm => O a c ((by decide +kernel : ∀ p ∈ shCO, (p.1, p.2, nF p.2) ∈ mkK) (a, c) hm), fun a k r hm => h2 _ ((by decide +kernel : ∀ p ∈ shCR, p ∈ mkR) (a, k, r) hm), fun a t n hm => A a t n ((by decide +kernel : ∀ p ∈ shCA, (p.1, 100 + p.2.1, p.2.2) ∈ mkK) (a, t, n) hm), fun j hj => ?_⟩, h4, hn⟩, ⟨(i 1 1 (by decide) (by decide)).trans (by decide +kernel), Nat.zero_le _, fun j x hx => nil_q hx⟩, ⟨(i 3 6 (by decide) (by decide)).trans (by decide +kernel), (i 3 7 (by decide) (by decide)).trans (by decide +kernel)⟩, fun k hk => z 178 k (by decide) (by decide) (by decide +kernel)⟩, ⟨⟨⟨(i 40 5 (by decide) (by decide)).trans (by decide +kernel), (i 40 6 (by decide) (by decide)).trans (by decide +kernel)⟩, fun j x hx => nil_q hx, fun j q1 q2 => ⟨z 43 j (by decide) (by decide) (by decide +kernel), z 44 j (by decide) (by decide) (by decide +kernel)⟩, 0, by decide, (i 40 7 (by decide) (by decide)).trans (by decide +kernel), (i 40 8 (by decide) (by decide)).trans (by decide +kernel), Nat.zero_le _, fun j x hx => nil_q hx⟩, ⟨(i 52 2 (by decide) (by decide)).trans (by decide +kernel), Nat.zero_le _, 0, by decide, (i 52 1 (by decide) (by decide)).trans (by decide +kernel), fun j x hx => nil_q hx⟩⟩, ⟨⟨(i 0 16 (by decide) (by decide)).trans (by decide +kernel), fun j x hx => nil_q hx⟩, ⟨(i 0 17 (by decide) (by decide)).trans (by decide +kernel), Nat.zero_le _, fun j x hx => nil_q hx⟩, (i 0 18 (by decide) (by decide)).trans (by decide +kernel)⟩, 15, c15, h2 (0, 15, 15) (by decide +kernel), h5, rk 33 (by decide +kernel), rk 35 (by decide +kernel), rk 38 (by decide +kernel)⟩
  have q := (by decide +kernel : ∀ j : Fin 20, (53, j.val, 54 + 6 * j.val) ∈ mkR ∧ (54 + 6 * j.val, 10, nF 10) ∈ mkK ∧ (∀ m : Fin 5, (54 + 6 * j.val, m.val, 54 + 6 * j.val + 1 + m.val) ∈ mkR) ∧ (∀ m : Fin 4, (54 + 6 * j.val + 1 + m.val, 100 + 0, 6) ∈ mkK) ∧ (54 + 6 * j.val + 5, 100 + 0, 40) ∈ mkK) ⟨j, hj⟩
  exact ⟨h2 _ q.1, O _ _ q.2.1, fun m hm => h2 _ (q.2.2.1 ⟨m, hm⟩), fun m hm => A _ _ _ (q.2.2.2.1 ⟨m, hm⟩), A _ _ _ q.2.2.2.2⟩
theorem hs0_ok : HOk hs0 := ⟨⟨Or.inr rfl, ⟨by decide, by decide, rfl, fun x hx => nil_m hx, by decide, fun x hx => nil_m hx⟩, ⟨by decide, fun x hx => nil_m hx⟩, ⟨by decide, fun x hx => nil_m hx⟩, ⟨by decide, fun x hx => nil_m hx⟩, by decide⟩, fun w cs hw hc => nil_c hc⟩
/-- the class works: the reference stands -/
theorem RefRel.frc (hR : RefRel μ h) (f : FrC μ μ') : RefRel μ' h := by
  obtain ⟨⟨⟨b1, b2⟩, b3, b4, b5⟩, t, fl, r, ⟨⟨l1, l2, l3, l4, l5⟩, l6⟩, n, p, w, o, d⟩ := hR
  have I : ∀ a, 179 ≤ a → a ≤ 258 → mI μ' a = mI μ a := fun a h1 h2 => funext fun k => (f.2 a k h1 h2).1
  have L : ∀ a, 179 ≤ a → a ≤ 258 → mL μ' a = mL μ a := fun a h1 h2 => funext fun k => (f.2 a k h1 h2).2.1
  have R : ∀ a, 179 ≤ a → a ≤ 258 → mR μ' a = mR μ a := fun a h1 h2 => funext fun k => (f.2 a k h1 h2).2.2
  have e179 := I 179 (by decide) (by decide)
  refine ⟨⟨⟨b1.grw f.1, fun k a t n hm => ⟨by rw [R 179 (by decide) (by decide)]; exact (b2 k a t n hm).1, (b2 k a t n hm).2.grw f.1⟩⟩, fun a ws hm i hi => ?_, by rw [e179]; exact b4, by rw [e179]; exact b5⟩, ?_, ?_, ?_, ⟨⟨?_, ?_, ?_, ?_, ?_⟩, by rw [e179]; exact l6⟩, ?_, ?_, ?_, ?_, ?_⟩
  · have q := (by decide +kernel : ∀ p ∈ wdT, 179 ≤ p.1 ∧ p.1 ≤ 258) (a, ws) hm
    rw [I a q.1 q.2]
    exact b3 a ws hm i hi
  · unfold RfT
    rw [e179, I 180 (by decide) (by decide)]
    exact t
  · unfold RfF
    rw [e179]
    exact fl
  · unfold RfR
    rw [I 181 (by decide) (by decide)]
    exact r
  · unfold LmS
    rw [I 215 (by decide) (by decide), I 216 (by decide) (by decide), I 221 (by decide) (by decide)]
    exact l1
  · unfold LmC
    rw [I 218 (by decide) (by decide)]
    exact l2
  · unfold LmB
    rw [I 219 (by decide) (by decide), L 217 (by decide) (by decide)]
    exact l3
  · unfold LmW
    rw [I 220 (by decide) (by decide), L 217 (by decide) (by decide)]
    exact l4
  · unfold LmK
    rw [I 222 (by decide) (by decide), I 223 (by decide) (by decide), I 224 (by decide) (by decide)]
    exact l5
  · unfold RfN
    rw [I 225 (by decide) (by decide)]
    exact n
  · unfold RfP
    rw [e179, I 232 (by decide) (by decide)]
    exact p
  · unfold RfW
    rw [e179, I 230 (by decide) (by decide)]
    exact w
  · unfold RfO
    rw [e179, I 258 (by decide) (by decide)]
    exact o
  · unfold RfD
    rw [L 179 (by decide) (by decide)]
    exact d
/-- the reference works: the class stands -/
theorem ClsRel.frr (hC : ClsRel μ h) (f : FrR μ μ') : ClsRel μ' h := by
  obtain ⟨⟨⟨b1, b2, b3⟩, t, fl, r⟩, ⟨n, p⟩, ⟨w, o, dd⟩, L, c, s1, s2, s3, s4, s5⟩ := hC
  have I : ∀ a k, a < 179 ∨ 258 < a → mI μ' a k = mI μ a k := fun a k q => (f.2 a k q).1
  have Lo : ∀ a k, a < 179 ∨ 258 < a → mL μ' a k = mL μ a k := fun a k q => (f.2 a k q).2
  have R : ∀ a k, mR μ' a k = mR μ a k := fun a k => by unfold mR; rw [f.1]
  have N : mN μ' = mN μ := by unfold mN; rw [f.1]
  have key : ∀ b, b < 178 → RdK μ b (ldH h) L → RdK μ' b (ldH h) L := fun b hb hk => hk.of (Nat.le_of_eq N.symm) (R b 4) (fun k => Lo b k (by omega)) (fun a k q => I a k (by omega))
  refine ⟨⟨⟨b1.of f.1, fun i hi => (I 4 i (by omega)).trans (b2 i hi), by rw [N]; exact b3⟩, ⟨(I 1 1 (by omega)).trans t.1, t.2.1, fun j x hx => by rw [I 2 j (by omega)]; exact t.2.2 j x hx⟩, ⟨(I 3 6 (by omega)).trans fl.1, (I 3 7 (by omega)).trans fl.2⟩, fun k hk => (I 178 k (by omega)).trans (r k hk)⟩, ⟨n.of (fun a k q1 q2 => I a k (by omega)), p.of (fun a k q1 q2 => I a k (by omega))⟩, ⟨⟨(I 0 16 (by omega)).trans w.1, fun i x hx => by rw [I 174 _ (by omega), I 174 _ (by omega)]; exact w.2 i x hx⟩, ⟨(I 0 17 (by omega)).trans o.1, o.2.1, fun i x hx => by rw [I 177 _ (by omega)]; exact o.2.2 i x hx⟩, (I 0 18 (by omega)).trans dd⟩, L, c, (R 0 15).trans s1, s2.same (Grw.of (by rw [f.1])) (fun a _ z => ⟨fun k => I a k (by unfold InL at z; omega), fun k => Lo a k (by unfold InL at z; omega), fun k => R a k⟩), key 33 (by omega) s3, key 35 (by omega) s4, key 38 (by omega) s5⟩
end STA
