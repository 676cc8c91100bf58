/-! the reference: a night -/

def nightW (d : Ld) (ride : Nat → Nat) (th storm : Bool) (a : Ac) (w : Nat) : Ac :=
  if 0 < (wkS a.1 w).2.2.2 then (putW a.1 w (setW (wkS a.1 w) 3 ((wkS a.1 w).2.2.2 - 1)), a.2)
  else if storm then a
  else match mtF d ride (wkS a.1 w) w with
    | none => a
    | some h => meetA d th a w h
def nightL (d : Ld) (ride : Nat → Nat) (th storm : Bool) : Nat → Nat → Ac → Ac
  | 0, _, a => a
  | n + 1, w, a => nightL d ride th storm n (w + 1) (nightW d ride th storm a w)
def rideN (d : Ld) (more : Option Nat) (S : St) : Nat → Nat := rF d (cls d more S.1.2) S.1.1 d.1.2.2
def nightA (d : Ld) (more : Option Nat) (th storm : Bool) (a : Ac) : Ac := ((((nightL d (rideN d more a.1) th storm d.2.2.2.1.length 0 a).1.1.1 + 1, (nightL d (rideN d more a.1) th storm d.2.2.2.1.length 0 a).1.1.2), (nightL d (rideN d more a.1) th storm d.2.2.2.1.length 0 a).1.2), (nightL d (rideN d more a.1) th storm d.2.2.2.1.length 0 a).2)
def WkOk (x : Wk) : Prop := x.1 ≤ 3 ∧ x.2.1 ≤ 9999 ∧ x.2.2.1 ≤ 9999 ∧ x.2.2.2 ≤ 99
section SWP
variable {d : Ld} {S : St}
theorem wkS_mem {w : Nat} (hw : w < S.2.1.length) : wkS S w ∈ S.2.1 := q_mem (wkS_q hw)
theorem SWf.wk (h : SWf d S) {w : Nat} (hw : w < d.2.2.2.1.length) : WkOk (wkS S w) := h.2.2.2.1 _ (wkS_mem (by rw [h.2.2.1]; exact hw))
theorem SWf.put (h : SWf d S) {w : Nat} {x : Wk} (hx : WkOk x) : SWf d (putW S w x) := by
  obtain ⟨h1, h2, h3, h4, h5, h6⟩ := h
  refine ⟨h1, h2, by rw [putW_len]; exact h3, fun y hy => ?_, h5, h6⟩
  rcases List.mem_or_eq_of_mem_set hy with q | q
  · exact h4 y q
  · rw [q]; exact hx
theorem lN_32 {k : Nat} (h : k < 2 ^ 31) : (lN k).toInt32 = nI k := by
  apply Int32.toInt_inj.mp
  rw [Int64.toInt_toInt32, pk_lT (by omega), nI_tI h]
  exact Int.bmod_eq_of_le (by omega) (by omega)
theorem lN_nn {k : Nat} (h : k < 2 ^ 63) : (lN k).toNatClampNeg = k := by
  show (lN k).toInt.toNat = k
  rw [pk_lT h]; omega
theorem purN_le (p : Nat) (v : Int64) : purN p v ≤ 9999 := by
  unfold purN
  split
  · omega
  · rename_i h0
    split
    · omega
    · rename_i h1
      have h0' := Classical.not_not.mp h0
      have h1' := Classical.not_not.mp h1
      obtain ⟨k, hk, e⟩ := pk_lOf (x := lN p + v) (Int64.not_lt.mpr h0')
      rw [e] at h1' ⊢
      rw [lN_nn hk]
      have := (pk_lLE (a := k) (b := 9999) hk (by decide)).mp h1'
      exact this
theorem purN_i (p : Nat) (v : Int64) (h0 : 0 ≤ lN p + v) (h1 : lN p + v ≤ 9999) : (lN p + v).toInt32 = nI (purN p v) := by
  unfold purN
  rw [if_neg (fun q => q h0), if_neg (fun q => q h1)]
  obtain ⟨k, hk, e⟩ := pk_lOf (x := lN p + v) (Int64.not_lt.mpr h0)
  rw [e] at h1 ⊢
  have h9 : k ≤ 9999 := (pk_lLE (a := k) (b := 9999) hk (by decide)).mp h1
  rw [lN_nn hk, lN_32 (by omega)]
theorem tellF_len {th : Bool} {t : List Wk} {x : Wk} (h : t.length ≤ 40) : (tellF th t x).length ≤ 40 := by
  unfold tellF
  split
  · exact h
  · split
    · simp; omega
    · simp; omega
theorem tellF_mem {th : Bool} {t : List Wk} {x y : Wk} (h : y ∈ tellF th t x) : y ∈ t ∨ y = x := by
  unfold tellF at h
  split at h
  · exact Or.inl h
  · rcases List.mem_append.mp h with q | q
    · split at q
      · exact Or.inl (List.mem_of_mem_tail q)
      · exact Or.inl q
    · exact Or.inr (by simpa using q)
theorem SWf.meet (hW : Wf d) {a : Ac} (h : SWf d a.1) {th : Bool} {w hh : Nat} (hw : w < d.2.2.2.1.length) (hh12 : hh < 12) : SWf d (meetA d th a w hh).1 := by
  have hx := h.wk hw
  obtain ⟨h1, h2, h3, h4, h5, h6⟩ := h
  have w6 := hW.2.2.2.1.1
  have y99 := hW.2.2.2.2.2.1
  unfold meetA
  dsimp only
  refine ⟨h1, h2, by simp only [List.length_set]; exact h3, fun y hy => ?_, tellF_len h5, fun y hy => ?_⟩
  · rcases List.mem_or_eq_of_mem_set hy with q | q
    · exact h4 y q
    · rw [q]
      refine ⟨hx.1, by dsimp only; omega, purN_le _ _, ?_⟩
      dsimp only
      split
      · exact y99
      · exact hx.2.2.2
  · rcases tellF_mem hy with q | q
    · exact h6 y q
    · rw [q]
      refine ⟨h1, hh12, by dsimp only; omega, ?_⟩
      dsimp only
      split <;> omega
theorem or_lt {m w : Nat} (hm : m < 64) (hw : w < 6) : m ||| 2 ^ w < 64 := by
  have h : ∀ m : Fin 64, ∀ w : Fin 6, m.val ||| 2 ^ w.val < 64 := by decide +kernel
  exact h ⟨m, hm⟩ ⟨w, hw⟩
theorem ms_or {m w : Nat} (hw : w < 6) : nI m ||| (nI 1 <<< (nI w &&& 31)) = nI (m ||| 2 ^ w) := by
  have h : ∀ w : Fin 6, nI 1 <<< (nI w.val &&& 31) = nI (2 ^ w.val) := by decide +kernel
  have h2 := h ⟨w, hw⟩
  dsimp only at h2
  rw [h2]
  apply Int32.toBitVec_inj.mp
  show BitVec.ofNat 32 m ||| BitVec.ofNat 32 (2 ^ w) = BitVec.ofNat 32 (m ||| 2 ^ w)
  rw [BitVec.ofNat_or]
theorem night_w (hW : Wf d) {a : Ac} (h : SWf d a.1) (hm : a.2.2.2 < 64) {ride : Nat → Nat} {th storm : Bool} {w : Nat} (hw : w < d.2.2.2.1.length) : SWf d (nightW d ride th storm a w).1 ∧ (nightW d ride th storm a w).2.2.2 < 64 ∧ (nightW d ride th storm a w).1.1 = a.1.1 := by
  have hx := h.wk hw
  have w6 := hW.2.2.2.1.1
  unfold nightW
  split
  · exact ⟨h.put ⟨hx.1, hx.2.1, hx.2.2.1, by have := hx.2.2.2; show _ - 1 ≤ 99; omega⟩, hm, rfl⟩
  · split
    · exact ⟨h, hm, rfl⟩
    · split
      · exact ⟨h, hm, rfl⟩
      · rename_i hh he
        exact ⟨h.meet hW hw (mtF_lt he), or_lt hm (by omega), rfl⟩
theorem night_w0 (hW : Wf d) {a : Ac} (h : SWf d a.1) {ride : Nat → Nat} {th storm : Bool} {w : Nat} (hw : w < d.2.2.2.1.length) : SWf d (nightW d ride th storm a w).1 ∧ (nightW d ride th storm a w).1.1 = a.1.1 := by
  have hx := h.wk hw
  have w6 := hW.2.2.2.1.1
  unfold nightW
  split
  · exact ⟨h.put ⟨hx.1, hx.2.1, hx.2.2.1, by have := hx.2.2.2; show _ - 1 ≤ 99; omega⟩, rfl⟩
  · split
    · exact ⟨h, rfl⟩
    · split
      · exact ⟨h, rfl⟩
      · rename_i hh he
        exact ⟨h.meet hW hw (mtF_lt he), rfl⟩
theorem night_l0 (hW : Wf d) {ride : Nat → Nat} {th storm : Bool} : ∀ (n w : Nat) (a : Ac), SWf d a.1 → w + n ≤ d.2.2.2.1.length → SWf d (nightL d ride th storm n w a).1 ∧ (nightL d ride th storm n w a).1.1 = a.1.1
  | 0, w, a, h, _ => ⟨h, rfl⟩
  | n + 1, w, a, h, hn => by
    unfold nightL
    obtain ⟨q1, q3⟩ := night_w0 hW h (ride := ride) (th := th) (storm := storm) (w := w) (by omega)
    obtain ⟨r1, r3⟩ := night_l0 hW (ride := ride) (th := th) (storm := storm) n (w + 1) _ q1 (by omega)
    exact ⟨r1, r3.trans q3⟩
theorem night_a0 (hW : Wf d) {more : Option Nat} {th storm : Bool} {a : Ac} (h : SWf d a.1) (hn : a.1.1.1 < 999) : SWf d (nightA d more th storm a).1 ∧ (nightA d more th storm a).1.1 = (a.1.1.1 + 1, a.1.1.2) := by
  obtain ⟨r1, r3⟩ := night_l0 hW (ride := rideN d more a.1) (th := th) (storm := storm) d.2.2.2.1.length 0 a h (by omega)
  unfold nightA
  rw [r3]
  obtain ⟨h1, h2, h3, h4, h5, h6⟩ := r1
  rw [r3] at h1 h2
  exact ⟨⟨by dsimp only; omega, h2, h3, h4, h5, h6⟩, rfl⟩
theorem night_l (hW : Wf d) {ride : Nat → Nat} {th storm : Bool} : ∀ (n w : Nat) (a : Ac), SWf d a.1 → a.2.2.2 < 64 → w + n ≤ d.2.2.2.1.length → SWf d (nightL d ride th storm n w a).1 ∧ (nightL d ride th storm n w a).2.2.2 < 64 ∧ (nightL d ride th storm n w a).1.1 = a.1.1
  | 0, w, a, h, hm, _ => ⟨h, hm, rfl⟩
  | n + 1, w, a, h, hm, hn => by
    unfold nightL
    obtain ⟨q1, q2, q3⟩ := night_w hW h hm (ride := ride) (th := th) (storm := storm) (w := w) (by omega)
    obtain ⟨r1, r2, r3⟩ := night_l hW (ride := ride) (th := th) (storm := storm) n (w + 1) _ q1 q2 (by omega)
    exact ⟨r1, r2, r3.trans q3⟩
theorem night_a (hW : Wf d) {more : Option Nat} {th storm : Bool} {a : Ac} (h : SWf d a.1) (hm : a.2.2.2 < 64) (hn : a.1.1.1 < 999) : SWf d (nightA d more th storm a).1 ∧ (nightA d more th storm a).2.2.2 < 64 ∧ (nightA d more th storm a).1.1 = (a.1.1.1 + 1, a.1.1.2) := by
  obtain ⟨r1, r2, r3⟩ := night_l hW (ride := rideN d more a.1) (th := th) (storm := storm) d.2.2.2.1.length 0 a h hm (by omega)
  unfold nightA
  rw [r3]
  obtain ⟨h1, h2, h3, h4, h5, h6⟩ := r1
  rw [r3] at h1 h2
  exact ⟨⟨by dsimp only; omega, h2, h3, h4, h5, h6⟩, r2, rfl⟩
end SWP
/-- what a night may touch -/
def pG (k : Nat) : Prop := pW k ∨ k = 68 ∨ k = 69 ∨ k = 70
def TmG (μ μ' : Mm) : Prop := μ'.2.2 = μ.2.2 ∧ (∀ a k, ¬ (a = 179 ∧ pG k) → a ≠ 228 → a ≠ 225 → mI μ' a k = mI μ a k) ∧ (∀ a k, a ≠ 257 → mL μ' a k = mL μ a k)
def TmH (μ μ' : Mm) : Prop := μ'.2.2 = μ.2.2 ∧ (∀ a k, ¬ (a = 179 ∧ pG k) → a ≠ 225 → mI μ' a k = mI μ a k) ∧ (∀ a k, a ≠ 257 → mL μ' a k = mL μ a k)
section KN2
variable {l : Launch} {G : Gm} {μ : Mm} {d : Ld} {S : St}
theorem TmG.ofH {μ' : Mm} (h : TmH μ μ') : TmG μ μ' := ⟨h.1, fun a k q _ q3 => h.2.1 a k q q3, h.2.2⟩
theorem TmH.refl : TmH μ μ := ⟨rfl, fun _ _ _ _ => rfl, fun _ _ _ => rfl⟩
theorem TmH.trans {μ' μ'' : Mm} (h : TmH μ μ') (h2 : TmH μ' μ'') : TmH μ μ'' := ⟨h2.1.trans h.1, fun a k q q3 => (h2.2.1 a k q q3).trans (h.2.1 a k q q3), fun a k q => (h2.2.2 a k q).trans (h.2.2 a k q)⟩
theorem TmH.sh {μ' : Mm} (h : TmH μ μ') (hS : ShM μ) : ShM μ' := hS.of h.1
theorem TmH.lm {μ' : Mm} (h : TmH μ μ') (hL : LmH μ 1 1600 d) : LmH μ' 1 1600 d := hL.of (fun a k q _ _ => h.2.1 a k (by omega) (by omega)) (fun a k q _ => h.2.1 a k (by omega) (by omega)) (fun k _ => h.2.1 _ k (by omega) (by omega)) (fun k _ => h.2.1 _ k (by omega) (by omega)) (fun k _ => h.2.2 217 k (by decide))
theorem TmH.ofC {P : Nat → Prop} {μ' : Mm} (h : TmC P μ μ') (hp : ∀ k, P k → pW k) : TmH μ μ' := ⟨h.1, fun a k q _ => h.2.1 a k (fun z => q ⟨z.1, Or.inl (hp k z.2)⟩), h.2.2⟩
theorem TmH.st {μ' : Mm} (h : TmH μ μ') {k : Nat} (hk : pG k) (v : Int32) : TmH μ (sI μ' 179 k v) := ⟨h.1, fun a j q q3 => by rw [mI_sI, if_neg (fun z => q ⟨z.1, by rw [z.2]; exact hk⟩)]; exact h.2.1 a j q q3, h.2.2⟩
theorem TmH.now {μ' : Mm} (h : TmH μ μ') (k : Nat) (v : Int32) : TmH μ (sI μ' 225 k v) := ⟨h.1, fun a j q q3 => by rw [mI_sI, if_neg (fun z => q3 z.1)]; exact h.2.1 a j q q3, h.2.2⟩
theorem TmG.refl : TmG μ μ := ⟨rfl, fun _ _ _ _ _ => rfl, fun _ _ _ => rfl⟩
theorem TmG.trans {μ' μ'' : Mm} (h : TmG μ μ') (h2 : TmG μ' μ'') : TmG μ μ'' := ⟨h2.1.trans h.1, fun a k q q2 q3 => (h2.2.1 a k q q2 q3).trans (h.2.1 a k q q2 q3), fun a k q => (h2.2.2 a k q).trans (h.2.2 a k q)⟩
theorem TmG.sh {μ' : Mm} (h : TmG μ μ') (hS : ShM μ) : ShM μ' := hS.of h.1
theorem TmG.lm {μ' : Mm} (h : TmG μ μ') (hL : LmH μ 1 1600 d) : LmH μ' 1 1600 d := hL.of (fun a k q _ _ => h.2.1 a k (by omega) (by omega) (by omega)) (fun a k q _ => h.2.1 a k (by omega) (by omega) (by omega)) (fun k _ => h.2.1 _ k (by omega) (by omega) (by omega)) (fun k _ => h.2.1 _ k (by omega) (by omega) (by omega)) (fun k _ => h.2.2 217 k (by decide))
theorem TmG.ofC {P : Nat → Prop} {μ' : Mm} (h : TmC P μ μ') (hp : ∀ k, P k → pW k) : TmG μ μ' := ⟨h.1, fun a k q _ _ => h.2.1 a k (fun z => q ⟨z.1, Or.inl (hp k z.2)⟩), h.2.2⟩
theorem TmG.ofR {μ' : Mm} (h : TmR μ μ') : TmG μ μ' := ⟨h.1, fun a k q q2 _ => h.2.1 a k (fun z => q ⟨z.1, Or.inl z.2⟩) q2, h.2.2⟩
theorem TmG.st {μ' : Mm} (h : TmG μ μ') {k : Nat} (hk : pG k) (v : Int32) : TmG μ (sI μ' 179 k v) := ⟨h.1, fun a j q q2 q3 => by rw [mI_sI, if_neg (fun z => q ⟨z.1, by rw [z.2]; exact hk⟩)]; exact h.2.1 a j q q2 q3, h.2.2⟩
theorem TmG.now {μ' : Mm} (h : TmG μ μ') (k : Nat) (v : Int32) : TmG μ (sI μ' 225 k v) := ⟨h.1, fun a j q q2 q3 => by rw [mI_sI, if_neg (fun z => q3 z.1)]; exact h.2.1 a j q q2 q3, h.2.2⟩
theorem RfN.tc {P : Nat → Prop} {μ' : Mm} (h : RfN μ S) (t : TmC P μ μ') : RfN μ' S := nowR.of h (fun k => t.2.1 225 k (by omega))
theorem RfN.tr {μ' : Mm} (h : RfN μ S) (t : TmR μ μ') : RfN μ' S := nowR.of h (fun k => t.2.1 225 k (by omega) (by decide))
theorem RfN.s9 (h : RfN μ S) (k : Nat) (v : Int32) : RfN (sI μ 179 k v) S := h
theorem RfN.wk (h : RfN μ S) {w : Nat} (hw : w < S.2.1.length) : mI μ 225 (2 + 4 * w) = nI (wkS S w).1 ∧ mI μ 225 (2 + 4 * w + 1) = nI (wkS S w).2.1 ∧ mI μ 225 (2 + 4 * w + 2) = nI (wkS S w).2.2.1 ∧ mI μ 225 (2 + 4 * w + 3) = nI (wkS S w).2.2.2 := by
  obtain ⟨b1, b2, b3, b4⟩ := h.2.2.1 w _ (wkS_q hw)
  exact ⟨b1, by rw [← b2]; congr 1; omega, by rw [← b3]; congr 1; omega, by rw [← b4]; congr 1; omega⟩
theorem kn_tell (hS : ShM μ) (hL : LmH μ 1 1600 d) (hC : LdC d) {v i : Nat} {cs : List Int32} (hv : v = 1 ∨ v = 2) (hk : d.2.2.2.2.2 v = some cs) (hi : i < 6) {hour ng : Nat} (hh : hour < 12) (hng : ng < 10000) (h61 : mI μ 179 61 = nI hour) (h62 : mI μ 179 62 = nI ng) {x : Wk} (hx : WkOk x) (m1 : mI μ 225 (2 + 4 * i) = nI x.1) (m2 : mI μ 225 (2 + 4 * i + 1) = nI x.2.1) (m3 : mI μ 225 (2 + 4 * i + 2) = nI x.2.2.1) : AMet l G 2 0 0 mtX13_codesTell [.ref (G.1 + 179), .int (nI v), .int (nI i)] μ (qL (fun z μ' => z = evH (pvM hour ng x) cs ∧ TmC pC μ μ')) := by
  obtain ⟨-, k2⟩ := hL.2.2.2.2 v (by omega)
  obtain ⟨f, f1, f2, f3, f4⟩ := k2 cs hk
  have hv0 : ¬ v = 0 := by omega
  have hwf := hC v cs (by omega) hk
  rw [if_neg hv0] at hwf
  have h := ke_codesTell (l := l) (G := G) (al := al1) hS (w := v) (i := i) (f := f) (cs := cs) (by omega) hi f2 f3 (fun j hj => f4 j hj) f1 hwf
  rw [if_neg hv0] at h
  have hev : ev64 (fun k => (partV (sI μ 179 58 (nI 1)) i k).toInt64) id cs [] = ev64 (pvM hour ng x) id cs [] := by
    refine ev64_congr (al := al1) (q := false) (fun k hk9 hal => ?_) cs [] hwf
    have hk4 : k = 0 ∨ k = 1 ∨ k = 4 ∨ k = 5 ∨ k = 6 := by
      unfold al1 at hal
      simp at hal
      omega
    have h58 : mI (sI μ 179 58 (nI 1)) 179 58 = nI 1 := by simp [mI_sI]
    have ho : ∀ a k, ¬ (a = 179 ∧ k = 58) → mI (sI μ 179 58 (nI 1)) a k = mI μ a k := fun a k q => by rw [mI_sI, if_neg q]
    have h12 : ¬ nI 1 = nI 2 := by decide
    obtain ⟨x1, x2, x3, x4⟩ := hx
    unfold partV pvM
    rw [h58, if_neg h12, ho 179 61 (by omega), ho 179 62 (by omega), ho 225 _ (by omega), ho 225 _ (by omega), ho 225 _ (by omega), h61, h62, m1, m2, m3]
    rcases hk4 with rfl | rfl | rfl | rfl | rfl
    · simp; exact nI_l (by omega)
    · simp; exact nI_l (by omega)
    · simp; exact nI_l (by omega)
    · simp; exact nI_l (by omega)
    · simp; exact nI_l (by omega)
  rw [hev] at h
  exact h
end KN2
