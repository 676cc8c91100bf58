/-! the class: its reader against the reference's reading -/
section RDP
variable {tx : Nat → Nat} {e : Nat} {s : Ps} {μ μ' : Mm}
def wHas (tx : Nat → Nat) (e : Nat) (s : Ps) : Prop := s.2.2.1 = 0 ∧ sk tx e s.1 < e ∧ isL (tx (sk tx e s.1)) = true ∧ ¬ nI (sk tx e s.1) = s.2.1
def dHas (tx : Nat → Nat) (e : Nat) (s : Ps) : Prop := s.2.2.1 = 0 ∧ sk tx e s.1 < e ∧ isD (tx (sk tx e s.1)) = true ∧ ¬ nI (sk tx e s.1) = s.2.1
def sHas (tx : Nat → Nat) (e : Nat) (s : Ps) : Prop := s.2.2.1 = 0 ∧ sk tx e s.1 < e ∧ isL (tx (sk tx e s.1)) = false ∧ isD (tx (sk tx e s.1)) = false
def eHas (tx : Nat → Nat) (e : Nat) (s : Ps) : Prop := s.2.2.1 = 0 ∧ e ≤ sk tx e s.1
theorem LnD {c : Nat} (h : isL c = true) : isD c = false := by
  unfold isL at h
  unfold isD
  simp only [Bool.and_eq_true, decide_eq_true_eq] at h
  rw [decide_eq_false (p := c ≤ 57) (by omega), Bool.and_false]
theorem RD.kd (h : RD μ tx e s) : ∃ kd, kd ≤ 4 ∧ mI μ 3 2 = nI kd ∧ (kd = 0 ↔ eHas tx e s) ∧ (kd = 1 ↔ wHas tx e s) ∧ (kd = 2 ↔ dHas tx e s) ∧ (kd = 3 ↔ sHas tx e s) := by
  unfold eHas wHas dHas sHas
  by_cases hb : s.2.2.1 = 0
  · obtain ⟨-, -, t1, t2, t3, t4, t5, t6⟩ := h.1 hb
    generalize sk tx e s.1 = p at *
    by_cases hp : p < e
    · cases hL : isL (tx p) with
      | true =>
        by_cases ht : nI p = s.2.1
        · exact ⟨4, by omega, t3 hp (by rw [hL]; rfl) ht, ⟨by omega, fun z => by omega⟩, ⟨by omega, fun z => absurd ht z.2.2.2⟩, ⟨by omega, fun z => absurd ht z.2.2.2⟩, ⟨by omega, fun z => by cases z.2.2.1⟩⟩
        · exact ⟨1, by omega, (t4 hp hL ht).1, ⟨by omega, fun z => by omega⟩, ⟨fun _ => ⟨hb, hp, rfl, ht⟩, fun _ => rfl⟩, ⟨by omega, fun z => by rw [LnD hL] at z; exact absurd z.2.2.1 (by decide)⟩, ⟨by omega, fun z => by cases z.2.2.1⟩⟩
      | false =>
        cases hD : isD (tx p) with
        | true =>
          by_cases ht : nI p = s.2.1
          · exact ⟨4, by omega, t3 hp (by rw [hD, Bool.or_true]) ht, ⟨by omega, fun z => by omega⟩, ⟨by omega, fun z => absurd ht z.2.2.2⟩, ⟨by omega, fun z => absurd ht z.2.2.2⟩, ⟨by omega, fun z => by cases z.2.2.2⟩⟩
          · exact ⟨2, by omega, (t5 hp hD ht).1, ⟨by omega, fun z => by omega⟩, ⟨by omega, fun z => by cases z.2.2.1⟩, ⟨fun _ => ⟨hb, hp, rfl, ht⟩, fun _ => rfl⟩, ⟨by omega, fun z => by cases z.2.2.2⟩⟩
        | false => exact ⟨3, by omega, (t6 hp hL hD).1, ⟨by omega, fun z => by omega⟩, ⟨by omega, fun z => by cases z.2.2.1⟩, ⟨by omega, fun z => by cases z.2.2.1⟩, ⟨fun _ => ⟨hb, hp, rfl, rfl⟩, fun _ => rfl⟩⟩
    · exact ⟨0, by omega, t2 (by omega), ⟨fun _ => ⟨hb, by omega⟩, fun _ => rfl⟩, ⟨by omega, fun z => absurd z.2.1 hp⟩, ⟨by omega, fun z => absurd z.2.1 hp⟩, ⟨by omega, fun z => absurd z.2.1 hp⟩⟩
  · exact ⟨4, by omega, (h.2 hb).2.2, ⟨by omega, fun z => absurd z.1 hb⟩, ⟨by omega, fun z => absurd z.1 hb⟩, ⟨by omega, fun z => absurd z.1 hb⟩, ⟨by omega, fun z => absurd z.1 hb⟩⟩
/-- only what the reading tells matters -/
theorem RD.eq (h : RD μ tx e s) {s' : Ps} (h1 : sk tx e s'.1 = sk tx e s.1) (h2 : s'.2.1 = s.2.1) (h3 : s'.2.2.1 = s.2.2.1) (h4 : s'.2.2.2.1 = s.2.2.2.1) : RD μ tx e s' := by
  unfold RD
  rw [h1, h2, h3, h4]
  exact h
theorem RD.look (h : RD μ tx e s) (hs : s.1 ≤ e) : RD μ tx e (mLook tx e s) := h.eq (sk_sk hs) rfl rfl rfl
theorem RdT.iff {p : Nat} {c c' : Prop} (h : RdT μ tx e p c) (hc : c ↔ c') : RdT μ tx e p c' := by
  have : c = c' := propext hc
  subst this
  exact h
theorem RD.fail (h : RD μ tx e s) (h0 : s.2.2.1 = 0) {k pl : Int32} (hk : ¬ k = 0) : RD (sI (sI (sI μ 3 6 k) 3 7 pl) 3 2 (nI 4)) tx e (mFail s k pl) := by
  unfold mFail
  rw [if_pos h0]
  refine ⟨fun z => absurd z hk, fun _ => ⟨?_, ?_, ?_⟩⟩
  · rw [mI_sI, if_neg (by omega), mI_sI, if_neg (by omega), mI_sI, if_pos ⟨rfl, rfl⟩]
  · rw [mI_sI, if_neg (by omega), mI_sI, if_pos ⟨rfl, rfl⟩]
  · rw [mI_sI, if_pos ⟨rfl, rfl⟩]
theorem RqF.of (h : AdF μ μ') : RqF μ μ' := ⟨h.1, fun a k q => h.2 a k (fun z => q z.1)⟩
theorem RqF.refl (μ : Mm) : RqF μ μ := ⟨rfl, fun _ _ _ => rfl⟩
theorem RqF.trans {μ'' : Mm} (a : RqF μ μ') (b : RqF μ' μ'') : RqF μ μ'' := ⟨b.1.trans a.1, fun x k q => (b.2 x k q).trans (a.2 x k q)⟩
theorem RqF.sh (f : RqF μ μ') (hS : ShC μ) : ShC μ' := hS.of (by rw [f.1])
theorem RqF.t (f : RqF μ μ') {tp : List Nat} (hT : CsT μ tp) : CsT μ' tp := hT.of (f.2 _ _ (by omega)) (fun k => f.2 _ _ (by omega))
/-- a token taken: where the reading stands then -/
theorem RD.adv (h : RD μ tx e s) (h0 : s.2.2.1 = 0) (hf : AdF μ μ') {s' : Ps} {c : Prop} (hr : RdT μ' tx e (sk tx e s'.1) c) (hc : c ↔ nI (sk tx e s'.1) = s'.2.1) (h0' : s'.2.2.1 = 0) : RD μ' tx e s' := by
  obtain ⟨f1, f2, -⟩ := h.1 h0
  exact ⟨fun _ => ⟨(hf.2 _ _ (by omega)).trans f1, (hf.2 _ _ (by omega)).trans f2, hr.iff hc⟩, fun z => absurd h0' z⟩
end RDP
section NMI
theorem nm32_inj {a b : List Nat} (ha : nmOk a) (hb : nmOk b) (h : nm32 a = nm32 b) : a = b := by
  have hg : ∀ k, k < 6 → a.getD k 0 = b.getD k 0 := fun k hk => by rw [← nm32_let ha hk, ← nm32_let hb hk, h]
  have pos : ∀ {l : List Nat}, nmOk l → ∀ k, k < l.length ↔ 0 < l.getD k 0 := fun {l} hl k => by
    constructor
    · intro q
      have := (hl.2.2 _ (List.mem_of_getElem? (getD_q q 0))).1
      omega
    · intro q
      refine Decidable.byContradiction (fun z => ?_)
      rw [List.getD_eq_getElem?_getD, List.getElem?_eq_none (by omega)] at q
      exact absurd q (by decide)
  apply List.ext_getElem?
  intro k
  by_cases hk : k < 6
  · by_cases q : k < a.length
    · have q2 : k < b.length := (pos hb k).mpr (by rw [← hg k hk]; exact (pos ha k).mp q)
      rw [getD_q q 0, getD_q q2 0, hg k hk]
    · have q2 : ¬ k < b.length := fun z => q ((pos ha k).mpr (by rw [hg k hk]; exact (pos hb k).mp z))
      rw [List.getElem?_eq_none (by omega), List.getElem?_eq_none (by omega)]
  · rw [List.getElem?_eq_none (by have := ha.2.1; omega), List.getElem?_eq_none (by have := hb.2.1; omega)]
theorem key_ok : ∀ i : Fin 39, (0 < (keyL.getD i.val []).length ∧ (keyL.getD i.val []).length ≤ 6 ∧ ∀ x ∈ keyL.getD i.val [], 97 ≤ x ∧ x ≤ 122) := by decide +kernel
theorem map96 {a b : List Nat} (ha : ∀ x ∈ a, 97 ≤ x) (hb : ∀ x ∈ b, 97 ≤ x) (h : a.map (fun x => x - 96) = b.map (fun x => x - 96)) : a = b := by
  have key : ∀ {l : List Nat}, (∀ x ∈ l, 97 ≤ x) → (l.map (fun x => x - 96)).map (fun x => x + 96) = l := fun {l} hl => by
    rw [List.map_map]
    exact (List.map_congr_left (fun x hx => by have := hl x hx; show x - 96 + 96 = x; omega)).trans (List.map_id' l)
  rw [← key ha, ← key hb, h]
theorem tok_let {tx : Nat → Nat} {e p : Nat} : ∀ x ∈ tok tx e p, 97 ≤ x ∧ x ≤ 122 := by
  intro x hx
  unfold tok at hx
  obtain ⟨i, hi, rfl⟩ := List.mem_map.mp hx
  have := (wl_let2 (tx := tx) (e := e) (p := p) (p + i) (by omega) (by have := List.mem_range.mp hi; omega)).2
  unfold isL at this
  simp only [Bool.and_eq_true, decide_eq_true_eq] at this
  exact this
theorem tok_len {tx : Nat → Nat} {e p : Nat} : (tok tx e p).length = wl tx e p - p := by unfold tok; rw [List.length_map, List.length_range]
theorem wl_pos {tx : Nat → Nat} {e p : Nat} (hp : p < e) (hL : isL (tx p) = true) : p < wl tx e p ∧ wl tx e p ≤ e := by
  unfold wl
  rw [rn_step (f := fun q => isL (tx q)) hp hL]
  have := rn_le (f := fun q => isL (tx q)) (e := e) (p := p + 1) (by omega)
  omega
theorem dl_pos {tx : Nat → Nat} {e p : Nat} (hp : p < e) (hL : isD (tx p) = true) : p < dl tx e p ∧ dl tx e p ≤ e := by
  unfold dl
  rw [rn_step (f := fun q => isD (tx q)) hp hL]
  have := rn_le (f := fun q => isD (tx q)) (e := e) (p := p + 1) (by omega)
  omega
theorem tkW_ok {tx : Nat → Nat} {e p : Nat} (hp : p < e) (hL : isL (tx p) = true) (h6 : wl tx e p - p ≤ 6) : nmOk (tkW tx e p) := by
  have := wl_pos hp hL
  refine ⟨by rw [tkW_len]; omega, by rw [tkW_len]; exact h6, fun x hx => ?_⟩
  obtain ⟨y, hy, rfl⟩ := List.mem_map.mp hx
  have := tok_let y hy
  show 1 ≤ y - 96 ∧ y - 96 ≤ 26
  omega
/-- a key's number stands here just where its word does -/
theorem key_iff {tx : Nat → Nat} {e p i : Nat} (hp : p < e) (hL : isL (tx p) = true) (h6 : wl tx e p - p ≤ 6) (hi : i < 39) : nI (nm32 (tkW tx e p)) = nI (keyN i) ↔ tok tx e p = keyL.getD i [] := by
  have ho := tkW_ok hp hL h6
  obtain ⟨k1, k2, k3⟩ := key_ok ⟨i, hi⟩
  have hk : nmOk ((keyL.getD i []).map (fun x => x - 96)) := ⟨by rw [List.length_map]; exact k1, by rw [List.length_map]; exact k2, fun x hx => by
    obtain ⟨y, hy, rfl⟩ := List.mem_map.mp hx
    have := k3 y hy
    show 1 ≤ y - 96 ∧ y - 96 ≤ 26
    omega⟩
  have l1 := nm32_lt ho
  have l2 := nm32_lt hk
  constructor
  · intro h
    have h2 := n_eq h (by omega) (show keyN i < 2147483648 by unfold keyN; omega)
    exact map96 (fun x hx => (tok_let x hx).1) (fun x hx => (k3 x hx).1) (nm32_inj ho hk h2)
  · intro h
    unfold tkW keyN
    rw [h]
end NMI
