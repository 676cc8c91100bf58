/-! the reference's reading of a text: its state (at, ended, bad, badPlace, numberPlace, namePlace) over a memory that stays -/

abbrev Ps : Type := Nat × Int32 × Int32 × Int32 × Int32 × Int32
def pw (μ : Mm) (s : Ps) : Mm := sI (sI (sI (sI (sI (sI μ 179 2 (nI s.1)) 179 4 s.2.1) 179 5 s.2.2.1) 179 6 s.2.2.2.1) 179 10 s.2.2.2.2.1) 179 44 s.2.2.2.2.2
theorem pw_2 (μ : Mm) (s : Ps) : mI (pw μ s) 179 2 = nI s.1 := by simp [pw, mI_sI]
theorem pw_4 (μ : Mm) (s : Ps) : mI (pw μ s) 179 4 = s.2.1 := by simp [pw, mI_sI]
theorem pw_5 (μ : Mm) (s : Ps) : mI (pw μ s) 179 5 = s.2.2.1 := by simp [pw, mI_sI]
theorem pw_6 (μ : Mm) (s : Ps) : mI (pw μ s) 179 6 = s.2.2.2.1 := by simp [pw, mI_sI]
theorem pw_10 (μ : Mm) (s : Ps) : mI (pw μ s) 179 10 = s.2.2.2.2.1 := by simp [pw, mI_sI]
theorem pw_44 (μ : Mm) (s : Ps) : mI (pw μ s) 179 44 = s.2.2.2.2.2 := by simp [pw, mI_sI]
theorem pw_off (μ : Mm) (s : Ps) {a k : Nat} (h : a ≠ 179 ∨ (k ≠ 2 ∧ k ≠ 4 ∧ k ≠ 5 ∧ k ≠ 6 ∧ k ≠ 10 ∧ k ≠ 44)) : mI (pw μ s) a k = mI μ a k := by
  rcases h with h | h
  · simp [pw, mI_sI, h]
  · simp [pw, mI_sI, h]
theorem pw_ext {μ μ1 : Mm} {s : Ps} (h2 : mI μ1 179 2 = nI s.1) (h4 : mI μ1 179 4 = s.2.1) (h5 : mI μ1 179 5 = s.2.2.1) (h6 : mI μ1 179 6 = s.2.2.2.1) (h10 : mI μ1 179 10 = s.2.2.2.2.1) (h44 : mI μ1 179 44 = s.2.2.2.2.2) (ho : ∀ a k, (a ≠ 179 ∨ (k ≠ 2 ∧ k ≠ 4 ∧ k ≠ 5 ∧ k ≠ 6 ∧ k ≠ 10 ∧ k ≠ 44)) → mI μ1 a k = mI μ a k) (hr : μ1.2 = μ.2) : μ1 = pw μ s := by
  refine Mm_ext (fun a k => ?_) (by rw [hr]; rfl)
  by_cases h : a ≠ 179 ∨ (k ≠ 2 ∧ k ≠ 4 ∧ k ≠ 5 ∧ k ≠ 6 ∧ k ≠ 10 ∧ k ≠ 44)
  · rw [pw_off μ s h, ho a k h]
  · have ha : a = 179 := by omega
    have hk : k = 2 ∨ k = 4 ∨ k = 5 ∨ k = 6 ∨ k = 10 ∨ k = 44 := by omega
    subst ha
    rcases hk with rfl | rfl | rfl | rfl | rfl | rfl
    · rw [pw_2, h2]
    · rw [pw_4, h4]
    · rw [pw_5, h5]
    · rw [pw_6, h6]
    · rw [pw_10, h10]
    · rw [pw_44, h44]
section PWS
variable (μ : Mm) (p : Nat) (en bd bp np mp : Int32)
theorem pw_s2 (q : Nat) : sI (pw μ (p, en, bd, bp, np, mp)) 179 2 (nI q) = pw μ (q, en, bd, bp, np, mp) := pw_ext (by simp [mI_sI]) (by simp [mI_sI, pw_4]) (by simp [mI_sI, pw_5]) (by simp [mI_sI, pw_6]) (by simp [mI_sI, pw_10]) (by simp [mI_sI, pw_44]) (fun a k h => by rw [mI_sI, if_neg (by omega), pw_off _ _ h]) rfl
theorem pw_s4 (v : Int32) : sI (pw μ (p, en, bd, bp, np, mp)) 179 4 v = pw μ (p, v, bd, bp, np, mp) := pw_ext (by simp [mI_sI, pw_2]) (by simp [mI_sI]) (by simp [mI_sI, pw_5]) (by simp [mI_sI, pw_6]) (by simp [mI_sI, pw_10]) (by simp [mI_sI, pw_44]) (fun a k h => by rw [mI_sI, if_neg (by omega), pw_off _ _ h]) rfl
theorem pw_s5 (v : Int32) : sI (pw μ (p, en, bd, bp, np, mp)) 179 5 v = pw μ (p, en, v, bp, np, mp) := pw_ext (by simp [mI_sI, pw_2]) (by simp [mI_sI, pw_4]) (by simp [mI_sI]) (by simp [mI_sI, pw_6]) (by simp [mI_sI, pw_10]) (by simp [mI_sI, pw_44]) (fun a k h => by rw [mI_sI, if_neg (by omega), pw_off _ _ h]) rfl
theorem pw_s6 (v : Int32) : sI (pw μ (p, en, bd, bp, np, mp)) 179 6 v = pw μ (p, en, bd, v, np, mp) := pw_ext (by simp [mI_sI, pw_2]) (by simp [mI_sI, pw_4]) (by simp [mI_sI, pw_5]) (by simp [mI_sI]) (by simp [mI_sI, pw_10]) (by simp [mI_sI, pw_44]) (fun a k h => by rw [mI_sI, if_neg (by omega), pw_off _ _ h]) rfl
theorem pw_s10 (v : Int32) : sI (pw μ (p, en, bd, bp, np, mp)) 179 10 v = pw μ (p, en, bd, bp, v, mp) := pw_ext (by simp [mI_sI, pw_2]) (by simp [mI_sI, pw_4]) (by simp [mI_sI, pw_5]) (by simp [mI_sI, pw_6]) (by simp [mI_sI]) (by simp [mI_sI, pw_44]) (fun a k h => by rw [mI_sI, if_neg (by omega), pw_off _ _ h]) rfl
theorem pw_s44 (v : Int32) : sI (pw μ (p, en, bd, bp, np, mp)) 179 44 v = pw μ (p, en, bd, bp, np, v) := pw_ext (by simp [mI_sI, pw_2]) (by simp [mI_sI, pw_4]) (by simp [mI_sI, pw_5]) (by simp [mI_sI, pw_6]) (by simp [mI_sI, pw_10]) (by simp [mI_sI]) (fun a k h => by rw [mI_sI, if_neg (by omega), pw_off _ _ h]) rfl
end PWS
theorem TxM.pw {μ : Mm} {tx : Nat → Nat} {e : Nat} (h : TxM μ tx e) (s : Ps) : TxM (pw μ s) tx e := ⟨by rw [pw_off _ _ (by decide)]; exact h.1, h.2.1, fun j hj => by rw [pw_off _ _ (by omega)]; exact h.2.2 j hj⟩
theorem ShM.pw {μ : Mm} (h : ShM μ) (s : Ps) : ShM (pw μ s) := h.of rfl
/-- a run of places -/
def rnp (f : Nat → Bool) (e : Nat) : Nat → Nat → Nat
  | 0, p => p
  | n + 1, p => if p < e ∧ f p = true then rnp f e n (p + 1) else p
def rn (f : Nat → Bool) (e p : Nat) : Nat := rnp f e (e - p) p
theorem rn_step {f : Nat → Bool} {e p : Nat} (h : p < e) (hb : f p = true) : rn f e p = rn f e (p + 1) := by
  unfold rn
  obtain ⟨n, hn⟩ : ∃ n, e - p = n + 1 := ⟨e - p - 1, by omega⟩
  rw [hn, rnp, if_pos ⟨h, hb⟩, show e - (p + 1) = n by omega]
theorem rn_stop {f : Nat → Bool} {e p : Nat} (h : ¬ (p < e ∧ f p = true)) : rn f e p = p := by
  unfold rn
  cases e - p with
  | zero => rfl
  | succ n => rw [rnp, if_neg h]
theorem rn_le {f : Nat → Bool} {e p : Nat} (h : p ≤ e) : p ≤ rn f e p ∧ rn f e p ≤ e := by
  generalize hn : e - p = n
  induction n generalizing p with
  | zero => rw [rn_stop (by omega)]; omega
  | succ n ih =>
    by_cases c : p < e ∧ f p = true
    · rw [rn_step c.1 c.2]
      have := ih (p := p + 1) (by omega) (by omega)
      omega
    · rw [rn_stop c]; omega
def isL (c : Nat) : Bool := decide (97 ≤ c) && decide (c ≤ 122)
def isD (c : Nat) : Bool := decide (48 ≤ c) && decide (c ≤ 57)
/-- the letters' end; the word that stands here -/
def wl (tx : Nat → Nat) (e p : Nat) : Nat := rn (fun q => isL (tx q)) e p
def dl (tx : Nat → Nat) (e p : Nat) : Nat := rn (fun q => isD (tx q)) e p
def tok (tx : Nat → Nat) (e p : Nat) : List Nat := (List.range (wl tx e p - p)).map (fun i => tx (p + i))
def bI (b : Bool) : Int32 := if b then nI 1 else nI 0
theorem chr_L {tx : Nat → Nat} {e p : Nat} (h : ∀ j, j < e → tx j < 256) : (nI 97 ≤ chr tx e p ∧ chr tx e p ≤ nI 122) ↔ (p < e ∧ isL (tx p) = true) := by
  unfold chr isL
  by_cases c : p < e
  · have := h p c
    simp only [if_pos c, Bool.and_eq_true, decide_eq_true_eq]
    rw [nI_leI (by omega) (by omega), nI_leI (by omega) (by omega)]
    omega
  · rw [if_neg c]
    constructor
    · intro ⟨h1, _⟩
      exact absurd h1 (by decide)
    · intro ⟨h1, _⟩
      exact absurd h1 c
theorem chr_D {tx : Nat → Nat} {e p : Nat} (h : ∀ j, j < e → tx j < 256) : (nI 48 ≤ chr tx e p ∧ chr tx e p ≤ nI 57) ↔ (p < e ∧ isD (tx p) = true) := by
  unfold chr isD
  by_cases c : p < e
  · have := h p c
    simp only [if_pos c, Bool.and_eq_true, decide_eq_true_eq]
    rw [nI_leI (by omega) (by omega), nI_leI (by omega) (by omega)]
    omega
  · rw [if_neg c]
    constructor
    · intro ⟨h1, _⟩
      exact absurd h1 (by decide)
    · intro ⟨h1, _⟩
      exact absurd h1 c
theorem nI_L {c : Nat} (h : c < 256) : (nI 97 ≤ nI c ∧ nI c ≤ nI 122) ↔ isL c = true := by
  unfold isL
  simp only [Bool.and_eq_true, decide_eq_true_eq]
  rw [nI_leI (by omega) (by omega), nI_leI (by omega) (by omega)]
theorem nI_D {c : Nat} (h : c < 256) : (nI 48 ≤ nI c ∧ nI c ≤ nI 57) ↔ isD c = true := by
  unfold isD
  simp only [Bool.and_eq_true, decide_eq_true_eq]
  rw [nI_leI (by omega) (by omega), nI_leI (by omega) (by omega)]
/-- what the reference's reading does -/
def mFail (s : Ps) (k pl : Int32) : Ps := if s.2.2.1 = 0 then (s.1, s.2.1, k, pl, s.2.2.2.2.1, s.2.2.2.2.2) else s
def mLook (tx : Nat → Nat) (e : Nat) (s : Ps) : Ps := (sk tx e s.1, s.2)
def hereW (tx : Nat → Nat) (e p : Nat) (en : Int32) (ws : List Nat) : Bool := decide (p < e) && isL (tx p) && !decide (nI p = en) && decide (tok tx e p = ws)
def mHere (tx : Nat → Nat) (e : Nat) (s : Ps) (ws : List Nat) : Bool × Ps := if s.2.2.1 = 0 then (hereW tx e (sk tx e s.1) s.2.1 ws, mLook tx e s) else (false, s)
section KM2
variable {l : Launch} {G : Gm} {μ : Mm} {tx : Nat → Nat} {e : Nat}
theorem kp_look (hS : ShM μ) (hT : TxM μ tx e) {s : Ps} (hp : s.1 ≤ e) : AMet l G 0 0 0 mtX13_look [.ref (G.1 + 179)] (pw μ s) (qI (fun x μ' => x = chr tx e (sk tx e s.1) ∧ μ' = pw μ (mLook tx e s))) := by
  obtain ⟨p, en, bd, bp, np, mp⟩ := s
  have h := km_look (l := l) (G := G) (hS.pw (p, en, bd, bp, np, mp)) (hT.pw _) (pw_2 μ _) hp
  rw [pw_s2] at h
  exact h
theorem kp_fail (hS : ShM μ) (s : Ps) (k pl : Int32) : AMet l G 0 0 0 mtX13_fail [.ref (G.1 + 179), .int k, .int pl] (pw μ s) (qV (fun μ' => μ' = pw μ (mFail s k pl))) := by
  obtain ⟨p, en, bd, bp, np, mp⟩ := s
  have h := km_fail (l := l) (G := G) (hS.pw (p, en, bd, bp, np, mp)) k pl
  rw [pw_5, pw_s5, pw_s6] at h
  unfold mFail
  by_cases c : bd = 0
  · rw [if_pos c] at h ⊢
    exact h
  · rw [if_neg c] at h ⊢
    exact h
theorem kp_isHere (hS : ShM μ) (hT : TxM μ tx e) {s : Ps} (hp : s.1 ≤ e) {a : Nat} {ws : List Nat} (hA : isA μ a 3 ws.length) (hW : ∀ i, i < ws.length → mI μ a i = nI (ws.getD i 0) ∧ ws.getD i 0 < 256) (ha : a ≠ 179) (hwl : ws.length < 1000) : AMet l G 1 0 0 mtX13_isHere [.ref (G.1 + 179), .ref (G.1 + a)] (pw μ s) (qI (fun x μ' => x = bI (mHere tx e s ws).1 ∧ μ' = pw μ (mHere tx e s ws).2)) := by
  refine AMet.of (by decide) (Nat.le_of_ble_eq_true rfl) (fun X C hX hnm hq => ?_)
  obtain ⟨p, en, bd, bp, np, mp⟩ := s
  have hS1 := hS
  have hS : ShM (pw μ (p, en, bd, bp, np, mp)) := hS1.pw _
  have hB := hT.2.2
  have he := hT.2.1
  have hsk := sk_le (tx := tx) hp
  dsimp only at hp hsk
  generalize hqd : sk tx e p = q at hsk
  have hmL : mLook tx e (p, en, bd, bp, np, mp) = (q, en, bd, bp, np, mp) := by unfold mLook; rw [← hqd]
  have r3 : ∀ s : Ps, mI (pw μ s) 179 3 = nI e := fun s => by rw [pw_off _ _ (by decide)]; exact hT.1
  have rT : ∀ (s : Ps) (j : Nat), j < e → mI (pw μ s) 180 j = nI (tx j) := fun s j hj => by rw [pw_off _ _ (by omega)]; exact (hB j hj).1
  have hL256 : ∀ j, j < e → tx j < 256 := fun j hj => (hB j hj).2
  have rA : ∀ (s : Ps) (j : Nat), j < ws.length → mI (pw μ s) a j = nI (ws.getD j 0) := fun s j hj => by rw [pw_off _ _ (Or.inl ha)]; exact (hW j hj).1
  -- the comparison
  have loop2 : ∀ (n i : Nat), bd = 0 → (q < e ∧ isL (tx q) = true) → ¬ nI q = en → wl tx e q = q + ws.length → ws.length - i < n → i ≤ ws.length → (∀ j, j < i → tx (q + j) = ws.getD j 0) → AW l G X 0 0 76 [(0, .ref (G.1 + 179)), (1, .ref (G.1 + a)), (2, .int (nI (wl tx e q))), (3, .int (nI i))] [] (pw μ (q, en, bd, bp, np, mp)) := by
    intro n
    induction n with
    | zero => intro i _ _ _ _ h; omega
    | succ n ih =>
      intro i hbd hl1 hen hw hn hi hall
      have hwe : q + ws.length ≤ e := by rw [← hw]; exact (rn_le (by omega)).2
      refine C.iload_n dX13_isHere_76 3 rfl ?_
      refine C.aload_n dX13_isHere_77 1 rfl ?_
      refine C.alen hA (by decide) dX13_isHere_78 ?_
      refine C.icmp_ge 107 dX13_isHere_79 rfl (fun hc79 => ?_) (fun hc79 => ?_)
      · refine C.iconst (nI 1) dX13_isHere_107 (by decide) ?_
        refine C.zret hq dX13_isHere_108 (by decide) ?_
        have hge := n_le hc79
        refine ⟨?_, ?_⟩
        · unfold mHere hereW
          rw [if_pos hbd, hqd]
          have ht : tok tx e q = ws := by
            unfold tok
            rw [hw, show q + ws.length - q = ws.length by omega]
            apply List.ext_getElem
            · simp
            · intro j h1 h2
              simp only [List.getElem_map, List.getElem_range]
              rw [hall j (by omega), List.getD_eq_getElem?_getD, List.getElem?_eq_getElem h2]
              rfl
          simp [ht, bI, hl1.1, hl1.2, hen]
        · unfold mHere; rw [if_pos hbd, hmL]
      · have hlt := n_nle hc79
        refine C.aload_n dX13_isHere_82 0 rfl ?_
        refine C.getA fX13_7 dX13_isHere_83 hS.o hS.r0 ?_
        refine C.aload_n dX13_isHere_86 0 rfl ?_
        refine C.getI fX13_270 dX13_isHere_87 hS.o ?_
        refine C.iload_n dX13_isHere_90 3 rfl ?_
        simp only [pw_2]
        refine C.iadd dX13_isHere_91 ?_
        rw [nI_add]
        refine C.iald hS.a0 (n_in (by omega)) dX13_isHere_92 ?_
        refine C.aload_n dX13_isHere_93 1 rfl ?_
        refine C.iload_n dX13_isHere_94 3 rfl ?_
        refine C.cald hA (n_in (by omega)) dX13_isHere_95 ?_
        rw [n_cl, n_cl, rT _ _ (by omega), rA _ _ hlt]
        refine C.icmp_eq 101 dX13_isHere_96 rfl (fun hc96 => ?_) (fun hc96 => ?_)
        · have heq : tx (q + i) = ws.getD i 0 := n_eq hc96 (by have := hL256 (q + i) (by omega); omega) (by have := (hW i hlt).2; omega)
          refine C.iinc (lv' := [(0, _), (1, _), (2, _), (3, _)]) _ dX13_isHere_101 3 rfl rfl (nLt hX rfl) rfl ?_
          refine C.goto 76 dX13_isHere_104 rfl ?_
          refine AW.pick [0, 1, 2, 3] rfl ?_
          have := ih (i + 1) hbd hl1 hen hw (by omega) (by omega) (fun j hj => by rcases Nat.lt_succ_iff_lt_or_eq.mp hj with h | h; exact hall j h; rw [h]; exact heq)
          rw [← nI_1] at this
          exact this
        · have hne : tx (q + i) ≠ ws.getD i 0 := n_ne hc96
          refine C.iconst (nI 0) dX13_isHere_99 (by decide) ?_
          refine C.zret hq dX13_isHere_100 (by decide) ?_
          refine ⟨?_, ?_⟩
          · unfold mHere hereW
            rw [if_pos hbd, hqd]
            have ht : ¬ tok tx e q = ws := fun h => hne (by rw [← h]; unfold tok; rw [hw]; simp [show q + ws.length - q = ws.length by omega, hlt])
            simp [ht, bI]
          · unfold mHere; rw [if_pos hbd, hmL]
  -- the letters
  have loop1 : ∀ (n r : Nat), bd = 0 → (q < e ∧ isL (tx q) = true) → ¬ nI q = en → e - r < n → q ≤ r → r ≤ e → wl tx e q = wl tx e r → AW l G X 0 0 35 [(0, .ref (G.1 + 179)), (1, .ref (G.1 + a)), (2, .int (nI r))] [] (pw μ (q, en, bd, bp, np, mp)) := by
    intro n
    induction n with
    | zero => intro r _ _ _ h; omega
    | succ n ih =>
      intro r hbd hl1 hen hn hqr hre hw
      have fin : ¬ (r < e ∧ isL (tx r) = true) → AW l G X 0 0 61 [(0, .ref (G.1 + 179)), (1, .ref (G.1 + a)), (2, .int (nI r))] [] (pw μ (q, en, bd, bp, np, mp)) := by
        intro hstop
        have hwr : wl tx e q = r := by rw [hw]; exact rn_stop hstop
        refine C.iload_n dX13_isHere_61 2 rfl ?_
        refine C.aload_n dX13_isHere_62 0 rfl ?_
        refine C.getI fX13_270 dX13_isHere_63 hS.o ?_
        rw [pw_2]
        refine C.isub dX13_isHere_66 ?_
        refine C.aload_n dX13_isHere_67 1 rfl ?_
        refine C.alen hA (by decide) dX13_isHere_68 ?_
        rw [pk_sub hqr]
        refine C.icmp_eq 74 dX13_isHere_69 rfl (fun hc69 => ?_) (fun hc69 => ?_)
        · have heq := n_eq hc69
          refine C.iconst (nI 0) dX13_isHere_74 (by decide) ?_
          refine C.istore_n (lv' := [(0, _), (1, _), (2, _), (3, _)]) dX13_isHere_75 (nLt hX rfl) rfl ?_
          rw [← hwr]
          exact loop2 (ws.length + 1) 0 hbd hl1 hen (by omega) (by omega) (by omega) (fun j hj => by omega)
        · have hne : r - q ≠ ws.length := n_ne hc69
          refine C.iconst (nI 0) dX13_isHere_72 (by decide) ?_
          refine C.zret hq dX13_isHere_73 (by decide) ?_
          refine ⟨?_, ?_⟩
          · unfold mHere hereW
            rw [if_pos hbd, hqd]
            have ht : ¬ tok tx e q = ws := fun h => hne (by rw [← h]; unfold tok; simp [hwr])
            simp [ht, bI]
          · unfold mHere; rw [if_pos hbd, hmL]
      refine C.iload_n dX13_isHere_35 2 rfl ?_
      refine C.aload_n dX13_isHere_36 0 rfl ?_
      refine C.getI fX13_273 dX13_isHere_37 hS.o ?_
      rw [r3]
      refine C.icmp_ge 61 dX13_isHere_40 rfl (fun hc40 => ?_) (fun hc40 => ?_)
      · have hge := n_le hc40
        exact fin (by omega)
      · have hlt := n_nle hc40
        refine C.aload_n dX13_isHere_43 0 rfl ?_
        refine C.getA fX13_7 dX13_isHere_44 hS.o hS.r0 ?_
        refine C.iload_n dX13_isHere_47 2 rfl ?_
        refine C.iald hS.a0 (n_in (by omega)) dX13_isHere_48 ?_
        refine C.callSI lX13_280 dX13_isHere_49 (km_isLetter _) rfl rfl (Nat.le_of_ble_eq_true rfl) (Nat.zero_le _) (Nat.zero_le _) (Nat.le_of_ble_eq_true rfl) (fun x49 μ49 h49 => ?_)
        obtain ⟨rfl, rfl⟩ := h49
        rw [n_cl, rT _ _ hlt]
        simp only [nI_L (hL256 r hlt)]
        refine C.if_eq 61 dX13_isHere_52 rfl (fun hc52 => ?_) (fun hc52 => ?_)
        · refine fin (fun h => ?_)
          rw [if_pos h.2] at hc52
          exact absurd hc52 (by decide)
        · have hlr : isL (tx r) = true := by by_cases h : isL (tx r) = true; exact h; rw [if_neg h] at hc52; exact absurd rfl hc52
          refine C.iinc (lv' := [(0, _), (1, _), (2, _)]) _ dX13_isHere_55 2 rfl rfl (nLt hX rfl) rfl ?_
          refine C.goto 35 dX13_isHere_58 rfl ?_
          have := ih (r + 1) hbd hl1 hen (by omega) (by omega) (by omega) (by rw [hw]; exact rn_step hlt hlr)
          rw [← nI_1] at this
          exact this
  refine C.aload_n dX13_isHere_0 0 rfl ?_
  refine C.getI fX13_264 dX13_isHere_1 hS.o ?_
  rw [pw_5]
  refine C.if_ne 28 dX13_isHere_4 rfl (fun hc4 => ?_) (fun hc4 => ?_)
  · refine C.iconst (nI 0) dX13_isHere_28 (by decide) ?_
    refine C.zret hq dX13_isHere_29 (by decide) ?_
    unfold mHere
    rw [if_neg hc4]
    exact ⟨rfl, rfl⟩
  · have hbd : bd = 0 := by simpa using hc4
    refine C.aload_n dX13_isHere_7 0 rfl ?_
    refine C.callVI lX13_276 dX13_isHere_8 (kp_look hS1 hT (s := (p, en, bd, bp, np, mp)) hp) hS.o rfl rfl (Nat.le_of_ble_eq_true rfl) (Nat.zero_le _) (Nat.zero_le _) (Nat.le_of_ble_eq_true rfl) (fun x8 μ8 h8 => ?_)
    obtain ⟨rfl, rfl⟩ := h8
    dsimp only
    rw [hmL, hqd]
    refine C.callSI lX13_280 dX13_isHere_11 (km_isLetter _) rfl rfl (Nat.le_of_ble_eq_true rfl) (Nat.zero_le _) (Nat.zero_le _) (Nat.le_of_ble_eq_true rfl) (fun x11 μ11 h11 => ?_)
    obtain ⟨rfl, rfl⟩ := h11
    simp only [chr_L hL256]
    refine C.if_eq 28 dX13_isHere_14 rfl (fun hc14 => ?_) (fun hc14 => ?_)
    · have hn : ¬ (q < e ∧ isL (tx q) = true) := fun h => by rw [if_pos h] at hc14; exact absurd hc14 (by decide)
      refine C.iconst (nI 0) dX13_isHere_28 (by decide) ?_
      refine C.zret hq dX13_isHere_29 (by decide) ?_
      unfold mHere hereW
      rw [if_pos hbd, hqd, hmL]
      refine ⟨?_, rfl⟩
      have hb : (decide (q < e) && isL (tx q)) = false := Bool.eq_false_iff.mpr (fun h => hn (by simpa using h))
      simp [hb, bI]
    · have hl1 : q < e ∧ isL (tx q) = true := by by_cases h : q < e ∧ isL (tx q) = true; exact h; rw [if_neg h] at hc14; exact absurd rfl hc14
      refine C.aload_n dX13_isHere_17 0 rfl ?_
      refine C.getI fX13_270 dX13_isHere_18 hS.o ?_
      refine C.aload_n dX13_isHere_21 0 rfl ?_
      refine C.getI fX13_284 dX13_isHere_22 hS.o ?_
      rw [pw_2, pw_4]
      refine C.icmp_ne 30 dX13_isHere_25 rfl (fun hc25 => ?_) (fun hc25 => ?_)
      · refine C.aload_n dX13_isHere_30 0 rfl ?_
        refine C.getI fX13_270 dX13_isHere_31 hS.o ?_
        rw [pw_2]
        refine C.istore_n (lv' := [(0, _), (1, _), (2, _)]) dX13_isHere_34 (nLt hX rfl) rfl ?_
        exact loop1 (e - q + 1) q hbd hl1 hc25 (by omega) (Nat.le_refl _) hsk.2 rfl
      · have heq : nI q = en := by simpa using hc25
        refine C.iconst (nI 0) dX13_isHere_28 (by decide) ?_
        refine C.zret hq dX13_isHere_29 (by decide) ?_
        unfold mHere hereW
        rw [if_pos hbd, hqd, hmL]
        exact ⟨by simp [heq, bI], rfl⟩
end KM2
