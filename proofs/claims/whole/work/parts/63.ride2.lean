/-! the reference: the ride -/

def pvR (hour night c k : Nat) : Int64 := lN (if k = 0 then hour else if k = 1 then night else if k = 2 then c % 7 else c / 7)
def evH (pv : Nat → Int64) (cs : List Int32) : Int64 := (ev64 pv id cs []).headD 0
def wayF (d : Ld) (hour night c : Nat) : Nat := match d.2.2.2.2.2 0 with
  | none => 3
  | some cs => ((evH (pvR hour night c) cs).toInt % 9).toNat
def cls (d : Ld) (more : Option Nat) (r x : Nat) : Bool := decide (x ∈ d.2.1) || decide (more = some x) || ringF d r x
def nxG (d : Ld) (cl : Nat → Bool) (way c : Nat) : Nat → Nat → Nat
  | 0, _ => c
  | n + 1, k => match cb d c ((way - 1 + k) % 8 + 1) with
    | some x => if cl x then nxG d cl way c n (k + 1) else x
    | none => nxG d cl way c n (k + 1)
def nxF (d : Ld) (cl : Nat → Bool) (way c : Nat) : Nat := if way = 0 then c else nxG d cl way c 8 0
def rF (d : Ld) (cl : Nat → Bool) (night start : Nat) : Nat → Nat
  | 0 => start
  | h + 1 => nxF d cl (wayF d h night (rF d cl night start h)) (rF d cl night start h)
section RDP
variable {d : Ld}
theorem cb_ok (hW : Wf d) {c w x : Nat} (h : cb d c w = some x) : clOk d x := by
  unfold cb at h
  split at h
  · rename_i q
    have := hW.1.2.1
    have e : (c % 7 + acN w - 1) + 7 * (c / 7 + dnN w - 1) = x := Option.some.inj h
    unfold clOk
    omega
  · cases h
theorem nxG_ok (hW : Wf d) {cl : Nat → Bool} {way c : Nat} (hc : clOk d c) : ∀ n k, clOk d (nxG d cl way c n k)
  | 0, _ => hc
  | n + 1, k => by
    unfold nxG
    split
    · rename_i x hx
      split
      · exact nxG_ok hW hc n _
      · exact cb_ok hW hx
    · exact nxG_ok hW hc n _
theorem nxF_ok (hW : Wf d) {cl : Nat → Bool} {way c : Nat} (hc : clOk d c) : clOk d (nxF d cl way c) := by
  unfold nxF
  split
  · exact hc
  · exact nxG_ok hW hc _ _
theorem rF_ok (hW : Wf d) {cl : Nat → Bool} {night start : Nat} (hc : clOk d start) : ∀ h, clOk d (rF d cl night start h)
  | 0 => hc
  | h + 1 => nxF_ok hW (rF_ok hW hc h)
theorem wayF_lt (hour night c : Nat) : wayF d hour night c < 9 := by
  unfold wayF
  split
  · decide
  · have h1 := Int.emod_nonneg (evH (pvR hour night c) (by assumption)).toInt (by decide : (9 : Int) ≠ 0)
    have h2 := Int.emod_lt_of_pos (evH (pvR hour night c) (by assumption)).toInt (by decide : (0 : Int) < 9)
    omega
theorem rem9 (v : Int64) : (v - v / 9 * 9).toInt = v.toInt.tmod 9 := by
  have h9 : (9 : Int64).toInt = 9 := by decide
  rw [Int64.toInt_sub, Int64.toInt_mul, Int64.toInt_div_of_ne_right v 9 (by decide), h9, Int.sub_bmod_bmod]
  have h1 := Int.tmod_add_tdiv_mul v.toInt 9
  have h2 := Int.tmod_lt_of_pos v.toInt (by decide : (0 : Int) < 9)
  have h3 := Int.lt_tmod_of_pos v.toInt (by decide : (0 : Int) < 9)
  rw [show v.toInt - v.toInt.tdiv 9 * 9 = v.toInt.tmod 9 by omega]
  exact Int.bmod_eq_of_le (by omega) (by omega)
theorem rem9i (v : Int64) : (v - v / 9 * 9).toInt32.toInt = v.toInt.tmod 9 := by
  have h2 := Int.tmod_lt_of_pos v.toInt (by decide : (0 : Int) < 9)
  have h3 := Int.lt_tmod_of_pos v.toInt (by decide : (0 : Int) < 9)
  rw [Int64.toInt_toInt32, rem9]
  exact Int.bmod_eq_of_le (by omega) (by omega)
theorem emod9 (v : Int64) : v.toInt % 9 = if v.toInt.tmod 9 < 0 then v.toInt.tmod 9 + 9 else v.toInt.tmod 9 := by
  have h1 := Int.tmod_add_tdiv_mul v.toInt 9
  have h2 := Int.tmod_lt_of_pos v.toInt (by decide : (0 : Int) < 9)
  have h3 := Int.lt_tmod_of_pos v.toInt (by decide : (0 : Int) < 9)
  split <;> omega
theorem way9 (v : Int64) : (0 ≤ (v - v / 9 * 9).toInt32 → (v - v / 9 * 9).toInt32 = nI (v.toInt % 9).toNat) ∧ (¬ 0 ≤ (v - v / 9 * 9).toInt32 → (v - v / 9 * 9).toInt32 + nI 9 = nI (v.toInt % 9).toNat) := by
  have hr := rem9i v
  have he := emod9 v
  have h2 := Int.tmod_lt_of_pos v.toInt (by decide : (0 : Int) < 9)
  have h3 := Int.lt_tmod_of_pos v.toInt (by decide : (0 : Int) < 9)
  have h0 : (0 : Int32).toInt = 0 := by decide
  have e9 : (nI 9).toInt = 9 := by decide
  generalize (v - v / 9 * 9).toInt32 = r at hr ⊢
  refine ⟨fun hc => Int32.toInt_inj.mp ?_, fun hc => Int32.toInt_inj.mp ?_⟩
  · rw [i_le, h0, hr] at hc
    rw [if_neg (by omega)] at he
    rw [nI_tI (by omega), hr]
    omega
  · rw [i_le, h0, hr] at hc
    rw [if_pos (by omega)] at he
    rw [nI_tI (by omega), Int32.toInt_add, hr, e9, Int.bmod_eq_of_le (by omega) (by omega)]
    omega
end RDP
def pW (k : Nat) : Prop := k = 58 ∨ k = 108 ∨ k = 61 ∨ k = 62 ∨ k = 63
section KRD2
variable {l : Launch} {G : Gm} {μ : Mm} {d : Ld}
theorem TmC.sh {P : Nat → Prop} {μ' : Mm} (h : TmC P μ μ') (hS : ShM μ) : ShM μ' := hS.of h.1
theorem TmC.lm {P : Nat → Prop} {μ' : Mm} {c hh : Nat} (h : TmC P μ μ') (hL : LmH μ hh c d) : LmH μ' hh c d := hL.off (fun a k q => h.2.1 a k (fun z => q z.1)) (fun k => h.2.2 217 k (by decide))
theorem TmC.refl {P : Nat → Prop} : TmC P μ μ := ⟨rfl, fun _ _ _ => rfl, fun _ _ _ => rfl⟩
theorem TmC.trans {P : Nat → Prop} {μ' μ'' : Mm} (h : TmC P μ μ') (h2 : TmC P μ' μ'') : TmC P μ μ'' := ⟨h2.1.trans h.1, fun a k q => (h2.2.1 a k q).trans (h.2.1 a k q), fun a k q => (h2.2.2 a k q).trans (h.2.2 a k q)⟩
theorem TmC.mono {P Q : Nat → Prop} {μ' : Mm} (h : TmC P μ μ') (hpq : ∀ k, P k → Q k) : TmC Q μ μ' := ⟨h.1, fun a k q => h.2.1 a k (fun z => q ⟨z.1, hpq k z.2⟩), h.2.2⟩
theorem TmC.st {P : Nat → Prop} {μ' : Mm} (h : TmC P μ μ') {k : Nat} (hk : P k) (v : Int32) : TmC P μ (sI μ' 179 k v) := ⟨h.1, fun a j q => by rw [mI_sI, if_neg (fun z => q ⟨z.1, by rw [z.2]; exact hk⟩)]; exact h.2.1 a j q, h.2.2⟩
theorem ke_wayAt (hS : ShM μ) (hL : LmH μ 1 1600 d) (hC : LdC d) {hour c ng : Nat} (hn : mI μ 225 0 = nI ng) (hng : ng < 10000) (hh : hour < 12) (hc : c < 49) : AMet l G 3 0 0 mtX13_wayAt [.ref (G.1 + 179), .int (nI hour), .int (nI c)] μ (qI (fun x μ' => x = nI (wayF d hour ng c) ∧ TmC pW μ μ')) := by
  refine AMet.of (by decide) (Nat.le_of_ble_eq_true rfl) (fun X C hX hnm hq => ?_)
  have hS1 := hS
  obtain ⟨k1, k2⟩ := hL.2.2.2.2 0 (by decide)
  rw [show 3 * 1 + 0 = 3 by omega] at k1 k2
  cases hk : d.2.2.2.2.2 0 with
  | none =>
    have h3 := k1 hk
    have hw : wayF d hour ng c = 3 := by unfold wayF; rw [hk]
    rw [hw] at hq
    refine C.aload_n dX13_wayAt_0 0 rfl ?_
    refine C.getA fX13_142 dX13_wayAt_1 hS.o hS.r52 ?_
    refine C.iconst (nI 3) dX13_wayAt_4 (by decide) ?_
    refine C.iald hS.a52 (n_in (by decide)) dX13_wayAt_5 ?_
    rw [n_cl, h3]
    refine C.iconst (-1) dX13_wayAt_6 (by decide) ?_
    refine C.icmp_ne 12 dX13_wayAt_7 rfl (fun hc7 => ?_) (fun hc7 => ?_)
    · exact absurd rfl hc7
    · refine C.iconst (nI 3) dX13_wayAt_10 (by decide) ?_
      refine C.iret hq dX13_wayAt_11 ?_
      exact ⟨rfl, TmC.refl⟩
  | some cs =>
    obtain ⟨f, f1, f2, f3, f4⟩ := k2 cs hk
    have hwf := hC 0 cs (by decide) hk
    rw [if_pos rfl] at hwf
    have hw : wayF d hour ng c = ((evH (pvR hour ng c) cs).toInt % 9).toNat := by unfold wayF; rw [hk]
    generalize hμ2 : sI (sI (sI μ 179 61 (nI hour)) 179 62 (nI ng)) 179 63 (nI c) = μ2
    have hoff : ∀ a k, ¬ (a = 179 ∧ (k = 61 ∨ k = 62 ∨ k = 63)) → mI μ2 a k = mI μ a k := fun a k q => by rw [← hμ2, mI_sI, if_neg (by omega), mI_sI, if_neg (by omega), mI_sI, if_neg (by omega)]
    have hS2 : ShM μ2 := by rw [← hμ2]; exact hS1.of rfl
    have hT2 : TmC pW μ μ2 := by rw [← hμ2]; exact ((TmC.refl.st (by unfold pW; omega) _).st (by unfold pW; omega) _).st (by unfold pW; omega) _
    have hev : ev64 (fun k => (partV (sI μ2 179 58 (nI 0)) 0 k).toInt64) id cs [] = ev64 (pvR hour ng c) id cs [] := by
      refine ev64_congr (al := al0) (q := false) (fun k hk9 hal => ?_) cs [] hwf
      have hk4 : k < 4 := by unfold al0 at hal; simpa using hal
      have h58 : mI (sI μ2 179 58 (nI 0)) 179 58 = nI 0 := by simp [mI_sI]
      have h61 : mI (sI μ2 179 58 (nI 0)) 179 61 = nI hour := by rw [mI_sI, if_neg (by omega), ← hμ2]; simp [mI_sI]
      have h62 : mI (sI μ2 179 58 (nI 0)) 179 62 = nI ng := by rw [mI_sI, if_neg (by omega), ← hμ2]; simp [mI_sI]
      have h63 : mI (sI μ2 179 58 (nI 0)) 179 63 = nI c := by rw [mI_sI, if_neg (by omega), ← hμ2]; simp [mI_sI]
      have h02 : ¬ nI 0 = nI 2 := by decide
      unfold partV pvR
      rw [h58, if_neg h02, if_neg h02, if_neg h02, h61, h62, h63]
      have e1 : rem7 (nI c) = nI (c % 7) := pk_rem (by omega) (by decide) (by decide)
      have e2 : div7 (nI c) = nI (c / 7) := pk_div (by omega) (by decide) (by decide)
      rw [e1, e2]
      rcases (show k = 0 ∨ k = 1 ∨ k = 2 ∨ k = 3 by omega) with rfl | rfl | rfl | rfl
      · simp; exact nI_l (by omega)
      · simp; exact nI_l (by omega)
      · simp; exact nI_l (by omega)
      · simp; exact nI_l (by omega)
    have m32 : AW l G X 0 0 32 [(0, .ref (G.1 + 179)), (1, .int (nI hour)), (2, .int (nI c))] [] μ2 := by
      have hS : ShM μ2 := hS2
      have htell := ke_codesTell (l := l) (G := G) (al := al0) hS2 (w := 0) (i := 0) (f := f) (cs := cs) (by decide) (by decide) (by rw [hoff _ _ (by omega)]; exact f2) (by rw [hoff _ _ (by omega)]; exact f3) (fun j hj => by rw [hoff _ _ (by omega)]; exact f4 j hj) f1 hwf
      rw [if_pos rfl, hev] at htell
      rw [hw] at hq
      unfold evH at hq
      generalize (ev64 (pvR hour ng c) id cs []).headD 0 = v at htell hq
      refine C.aload_n dX13_wayAt_32 0 rfl ?_
      refine C.iconst (nI 0) dX13_wayAt_33 (by decide) ?_
      refine C.iconst (nI 0) dX13_wayAt_34 (by decide) ?_
      refine C.callVL lX13_459 dX13_wayAt_35 (htell) hS.o rfl rfl (Nat.le_of_ble_eq_true rfl) (Nat.zero_le _) (Nat.zero_le _) (Nat.le_of_ble_eq_true rfl) (fun x35 μ35 h35 => ?_)
      obtain ⟨rfl, hT3⟩ := h35
      have hT4 := hT2.trans (hT3.mono (fun k hk => by unfold pC at hk; unfold pW; omega))
      refine C.ldc2 kX13_462 dX13_wayAt_38 ?_
      refine C.lrem dX13_wayAt_41 (by decide) ?_
      refine C.l2i dX13_wayAt_42 ?_
      refine C.istore_n (lv' := [(0, _), (1, _), (2, _), (3, _)]) dX13_wayAt_43 (nLt hX rfl) rfl ?_
      refine C.iload_n dX13_wayAt_44 3 rfl ?_
      refine C.if_ge 55 dX13_wayAt_45 rfl (fun hc45 => ?_) (fun hc45 => ?_)
      · refine C.iload_n dX13_wayAt_55 3 rfl ?_
        refine C.iret hq dX13_wayAt_56 ?_
        first | exact ⟨(way9 _).1 hc45, hT4⟩ | exact ⟨(way9 _).2 hc45, hT4⟩
      · refine C.iload_n dX13_wayAt_48 3 rfl ?_
        refine C.bipush (nI 9) dX13_wayAt_49 (by decide) ?_
        refine C.iadd dX13_wayAt_51 ?_
        refine C.goto 56 dX13_wayAt_52 rfl ?_
        refine C.iret hq dX13_wayAt_56 ?_
        first | exact ⟨(way9 _).1 hc45, hT4⟩ | exact ⟨(way9 _).2 hc45, hT4⟩
    refine C.aload_n dX13_wayAt_0 0 rfl ?_
    refine C.getA fX13_142 dX13_wayAt_1 hS.o hS.r52 ?_
    refine C.iconst (nI 3) dX13_wayAt_4 (by decide) ?_
    refine C.iald hS.a52 (n_in (by decide)) dX13_wayAt_5 ?_
    rw [n_cl, f2]
    refine C.iconst (-1) dX13_wayAt_6 (by decide) ?_
    refine C.icmp_ne 12 dX13_wayAt_7 rfl (fun hc7 => ?_) (fun hc7 => ?_)
    · refine C.aload_n dX13_wayAt_12 0 rfl ?_
      refine C.iload_n dX13_wayAt_13 1 rfl ?_
      refine C.putI fX13_450 (Or.inl rfl) dX13_wayAt_14 hS.o ?_
      refine C.aload_n dX13_wayAt_17 0 rfl ?_
      refine C.aload_n dX13_wayAt_18 0 rfl ?_
      refine C.getA fX13_151 dX13_wayAt_19 hS.o hS.r59 ?_
      refine C.iconst (nI 0) dX13_wayAt_22 (by decide) ?_
      refine C.iald hS.a59 (n_in (by decide)) dX13_wayAt_23 ?_
      rw [n_cl, show mI (sI μ 179 61 (nI hour)) 225 0 = nI ng from hn]
      refine C.putI fX13_453 (Or.inl rfl) dX13_wayAt_24 hS.o ?_
      refine C.aload_n dX13_wayAt_27 0 rfl ?_
      refine C.iload_n dX13_wayAt_28 2 rfl ?_
      refine C.putI fX13_456 (Or.inl rfl) dX13_wayAt_29 hS.o ?_
      first | skip
      rw [hμ2]
      exact m32
    · exact absurd hc7 (n_m1 (by omega))
theorem ke_nextCell (hS : ShM μ) (hL : LmH μ 1 1600 d) (hW : Wf d) (hC : LdC d) {hour c ng r : Nat} {more : Option Nat} (hn : mI μ 225 0 = nI ng) (hng : ng < 10000) (hm : mI μ 179 66 = opI more) (hm2 : ∀ x, more = some x → x < 49) (hh : hour < 12) (hc : c < 49) (hr : r < 2 ^ 31) : AMet l G 4 0 0 mtX13_nextCell [.ref (G.1 + 179), .int (nI c), .int (nI hour), .int (nI r)] μ (qI (fun x μ' => x = nI (nxF d (cls d more r) (wayF d hour ng c) c) ∧ TmC pW μ μ')) := by
  refine AMet.of (by decide) (Nat.le_of_ble_eq_true rfl) (fun X C hX hnm hq => ?_)
  have hS1 := hS
  have hw9 := wayF_lt (d := d) hour ng c
  generalize hwf : wayF d hour ng c = way at hq hw9
  have loop : ¬ way = 0 → ∀ (n k : Nat) (μ1 : Mm), k + n = 8 → TmC pW μ μ1 → nxG d (cls d more r) way c n k = nxF d (cls d more r) way c → AW l G X 0 0 18 [(0, .ref (G.1 + 179)), (1, .int (nI c)), (2, .int (nI hour)), (3, .int (nI r)), (4, .int (nI way)), (5, .int (nI k))] [] μ1 := by
    intro hw0 n
    induction n with
    | zero =>
      intro k μ1 hk hT hv
      have hS : ShM μ1 := hT.sh hS1
      refine C.iload dX13_nextCell_18 5 rfl ?_
      refine C.bipush (nI 8) dX13_nextCell_20 (by decide) ?_
      refine C.icmp_ge 87 dX13_nextCell_22 rfl (fun hc22 => ?_) (fun hc22 => ?_)
      · refine C.iload_n dX13_nextCell_87 1 rfl ?_
        refine C.iret hq dX13_nextCell_88 ?_
        exact ⟨by rw [← hv]; rfl, hT⟩
      · have := n_nle (a := 8) (b := k) hc22; omega
    | succ n ih =>
      intro k μ1 hk hT hv
      have hS : ShM μ1 := hT.sh hS1
      have hL1 := hT.lm hL
      have hm1 : mI μ1 179 66 = opI more := by rw [hT.2.1 179 66 (by unfold pW; omega)]; exact hm
      have nxt : nxG d (cls d more r) way c n (k + 1) = nxF d (cls d more r) way c → ∀ x6 : Int32, AW l G X 0 0 81 [(0, .ref (G.1 + 179)), (1, .int (nI c)), (2, .int (nI hour)), (3, .int (nI r)), (4, .int (nI way)), (5, .int (nI k)), (6, .int x6)] [] μ1 := by
        intro hv2 x6
        refine C.iinc (lv' := [(0, _), (1, _), (2, _), (3, _), (4, _), (5, _), (6, _)]) _ dX13_nextCell_81 5 rfl rfl (nLt hX rfl) rfl ?_
        refine C.goto 18 dX13_nextCell_84 rfl ?_
        have hgo := ih (k + 1) μ1 (by omega) hT hv2
        rw [← nI_1] at hgo
        exact AW.pick [0, 1, 2, 3, 4, 5] rfl hgo
      unfold nxG at hv
      have hcl : ∀ x, cb d c ((way - 1 + k) % 8 + 1) = some x → x < 49 := fun x h => clOk_lt hW (cb_ok hW h)
      refine C.iload dX13_nextCell_18 5 rfl ?_
      refine C.bipush (nI 8) dX13_nextCell_20 (by decide) ?_
      refine C.icmp_ge 87 dX13_nextCell_22 rfl (fun hc22 => ?_) (fun hc22 => ?_)
      · have := n_le (a := 8) (b := k) hc22; omega
      · refine C.aload_n dX13_nextCell_25 0 rfl ?_
        refine C.iload_n dX13_nextCell_26 1 rfl ?_
        refine C.iload dX13_nextCell_27 4 rfl ?_
        refine C.iconst (nI 1) dX13_nextCell_29 (by decide) ?_
        refine C.isub dX13_nextCell_30 ?_
        rw [pk_sub (by omega)]
        refine C.iload dX13_nextCell_31 5 rfl ?_
        refine C.iadd dX13_nextCell_33 ?_
        rw [nI_add]
        refine C.bipush (nI 8) dX13_nextCell_34 (by decide) ?_
        refine C.irem dX13_nextCell_36 (by decide) ?_
        rw [pk_rem (by omega) (by decide) (by decide)]
        refine C.iconst (nI 1) dX13_nextCell_37 (by decide) ?_
        refine C.iadd dX13_nextCell_38 ?_
        rw [nI_add]
        refine C.callVI lX13_467 dX13_nextCell_39 (kg_cellBy hS hL1 hW hc (show (way - 1 + k) % 8 + 1 ≤ 8 by omega)) hS.o rfl rfl (Nat.le_of_ble_eq_true rfl) (Nat.zero_le _) (Nat.zero_le _) (Nat.le_of_ble_eq_true rfl) (fun x39 μ39 h39 => ?_)
        obtain ⟨rfl, hμ⟩ := h39
        subst hμ
        cases hcb : cb d c ((way - 1 + k) % 8 + 1) with
        | none =>
          rw [hcb] at hv
          refine C.istore (lv' := [(0, _), (1, _), (2, _), (3, _), (4, _), (5, _), (6, _)]) dX13_nextCell_42 (nLt hX rfl) rfl ?_
          refine C.iload dX13_nextCell_44 6 rfl ?_
          refine C.iconst (-1) dX13_nextCell_46 (by decide) ?_
          refine C.icmp_eq 81 dX13_nextCell_47 rfl (fun hc47 => ?_) (fun hc47 => ?_)
          · exact nxt hv _
          · exact absurd rfl hc47
        | some x =>
        rw [hcb] at hv
        have hx49 := hcl x hcb
        dsimp only at hv
        change AW l G X _ _ _ _ [Value.int (nI x)] _
        refine C.istore (lv' := [(0, _), (1, _), (2, _), (3, _), (4, _), (5, _), (6, _)]) dX13_nextCell_42 (nLt hX rfl) rfl ?_
        refine C.iload dX13_nextCell_44 6 rfl ?_
        refine C.iconst (-1) dX13_nextCell_46 (by decide) ?_
        refine C.icmp_eq 81 dX13_nextCell_47 rfl (fun hc47 => ?_) (fun hc47 => ?_)
        · exact absurd hc47 (n_m1 (by omega))
        · refine C.aload_n dX13_nextCell_50 0 rfl ?_
          refine C.iload dX13_nextCell_51 6 rfl ?_
          refine C.callVI lX13_470 dX13_nextCell_53 (kg_isChapel hS hL1 hW (show x < 2 ^ 20 by omega)) hS.o rfl rfl (Nat.le_of_ble_eq_true rfl) (Nat.zero_le _) (Nat.zero_le _) (Nat.le_of_ble_eq_true rfl) (fun x53 μ53 h53 => ?_)
          obtain ⟨rfl, hμ⟩ := h53
          subst hμ
          refine C.if_ne 81 dX13_nextCell_56 rfl (fun hc56 => ?_) (fun hc56 => ?_)
          · exact nxt (by rw [if_pos (by simp [cls, on_t hc56])] at hv; exact hv) _
          · have n1 := on_f hc56
            refine C.iload dX13_nextCell_59 6 rfl ?_
            refine C.aload_n dX13_nextCell_61 0 rfl ?_
            refine C.getI fX13_163 dX13_nextCell_62 hS.o ?_
            rw [hm1]
            refine C.icmp_eq 81 dX13_nextCell_65 rfl (fun hc65 => ?_) (fun hc65 => ?_)
            · exact nxt (by
                have h65 : more = some x := by
                  cases hmm : more with
                  | none => rw [hmm] at hc65; exact absurd hc65 (n_m1 (by omega))
                  | some y => rw [hmm] at hc65; exact congrArg some (n_eq (a := x) (b := y) hc65 (by omega) (by have := hm2 y hmm; omega)).symm
                rw [if_pos (by simp [cls, h65])] at hv; exact hv) _
            · have n2 : ¬ more = some x := fun z => hc65 (by rw [z]; rfl)
              refine C.aload_n dX13_nextCell_68 0 rfl ?_
              refine C.iload dX13_nextCell_69 6 rfl ?_
              refine C.iload_n dX13_nextCell_71 3 rfl ?_
              refine C.callVI lX13_473 dX13_nextCell_72 (kg_isRinging hS hL1 hW (show x < 2 ^ 20 by omega) hr) hS.o rfl rfl (Nat.le_of_ble_eq_true rfl) (Nat.zero_le _) (Nat.zero_le _) (Nat.le_of_ble_eq_true rfl) (fun x72 μ72 h72 => ?_)
              obtain ⟨rfl, hμ⟩ := h72
              subst hμ
              refine C.if_ne 81 dX13_nextCell_75 rfl (fun hc75 => ?_) (fun hc75 => ?_)
              · exact nxt (by rw [if_pos (by simp [cls, b_t hc75])] at hv; exact hv) _
              · have n3 := (bI_0 _).mp hc75
                rw [if_neg (by simp [cls, n1, n2, n3])] at hv
                refine C.iload dX13_nextCell_78 6 rfl ?_
                refine C.iret hq dX13_nextCell_80 ?_
                exact ⟨by rw [hv], hT⟩
  refine C.aload_n dX13_nextCell_0 0 rfl ?_
  refine C.iload_n dX13_nextCell_1 2 rfl ?_
  refine C.iload_n dX13_nextCell_2 1 rfl ?_
  refine C.callVI lX13_464 dX13_nextCell_3 (ke_wayAt hS hL hC hn hng hh hc) hS.o rfl rfl (Nat.le_of_ble_eq_true rfl) (Nat.zero_le _) (Nat.zero_le _) (Nat.le_of_ble_eq_true rfl) (fun x3 μ3 h3 => ?_)
  obtain ⟨rfl, hT⟩ := h3
  rw [hwf]
  refine C.istore (lv' := [(0, _), (1, _), (2, _), (3, _), (4, _)]) dX13_nextCell_6 (nLt hX rfl) rfl ?_
  refine C.iload dX13_nextCell_8 4 rfl ?_
  refine C.if_ne 15 dX13_nextCell_10 rfl (fun hc10 => ?_) (fun hc10 => ?_)
  · have hw0 : ¬ way = 0 := fun z => hc10 (by rw [z]; rfl)
    refine C.iconst (nI 0) dX13_nextCell_15 (by decide) ?_
    refine C.istore (lv' := [(0, _), (1, _), (2, _), (3, _), (4, _), (5, _)]) dX13_nextCell_16 (nLt hX rfl) rfl ?_
    exact loop hw0 8 0 _ rfl hT (by unfold nxF; rw [if_neg hw0])
  · have hw0 : way = 0 := n_eq (b := 0) hc10
    refine C.iload_n dX13_nextCell_13 1 rfl ?_
    refine C.iret hq dX13_nextCell_14 ?_
    exact ⟨by unfold nxF; rw [if_pos hw0], hT⟩
/-- the ride is laid, and codes are worked out -/
def TmR (μ μ' : Mm) : Prop := μ'.2.2 = μ.2.2 ∧ (∀ a k, ¬ (a = 179 ∧ pW k) → a ≠ 228 → mI μ' a k = mI μ a k) ∧ (∀ a k, a ≠ 257 → mL μ' a k = mL μ a k)
theorem TmR.sh {μ' : Mm} (h : TmR μ μ') (hS : ShM μ) : ShM μ' := hS.of h.1
theorem TmR.lm {μ' : Mm} (h : TmR μ μ') (hL : LmH μ 1 1600 d) : LmH μ' 1 1600 d := hL.of (fun a k q _ _ => h.2.1 a k (by omega) (by omega)) (fun a k q _ => h.2.1 a k (by omega) (by omega)) (fun k _ => h.2.1 _ k (by omega) (by omega)) (fun k _ => h.2.1 _ k (by omega) (by omega)) (fun k _ => h.2.2 217 k (by decide))
theorem ke_laysRide (hS : ShM μ) (hL : LmH μ 1 1600 d) (hW : Wf d) (hC : LdC d) {c ng r : Nat} {more : Option Nat} (hn : mI μ 225 0 = nI ng) (hng : ng < 10000) (hm : mI μ 179 66 = opI more) (hm2 : ∀ x, more = some x → x < 49) (hc : clOk d c) (hr : r < 2 ^ 31) : AMet l G 5 0 0 mtX13_laysRide [.ref (G.1 + 179), .int (nI c), .int (nI r)] μ (qV (fun μ' => (∀ h, h < 12 → mI μ' 228 h = nI (rF d (cls d more r) ng c h)) ∧ TmR μ μ')) := by
  refine AMet.of (by decide) (Nat.le_of_ble_eq_true rfl) (fun X C hX hnm hq => ?_)
  have hS1 := hS
  have loop : ∀ (n k : Nat) (μ1 : Mm), 12 - k < n → 1 ≤ k → k ≤ 12 → TmR μ μ1 → (∀ h, h < k → mI μ1 228 h = nI (rF d (cls d more r) ng c h)) → AW l G X 0 0 9 [(0, .ref (G.1 + 179)), (1, .int (nI c)), (2, .int (nI r)), (3, .int (nI k))] [] μ1 := by
    intro n
    induction n with
    | zero => intro k μ1 h; omega
    | succ n ih =>
      intro k μ1 hn2 hk1 hk hT hR
      have hS : ShM μ1 := hT.sh hS1
      have hL1 := hT.lm hL
      have hm1 : mI μ1 179 66 = opI more := by rw [hT.2.1 179 66 (by unfold pW; omega) (by decide)]; exact hm
      have hn1 : mI μ1 225 0 = nI ng := by rw [hT.2.1 225 0 (by omega) (by decide)]; exact hn
      refine C.iload_n dX13_laysRide_9 3 rfl ?_
      refine C.bipush (nI 12) dX13_laysRide_10 (by decide) ?_
      refine C.icmp_ge 43 dX13_laysRide_12 rfl (fun hc12 => ?_) (fun hc12 => ?_)
      · have hge := n_le (a := 12) (b := k) hc12
        have hkk : k = 12 := by omega
        subst hkk
        refine C.vret hq dX13_laysRide_43 ?_
        exact ⟨hR, hT⟩
      · have hlt := n_nle (a := 12) (b := k) hc12
        obtain ⟨j, rfl⟩ : ∃ j, k = j + 1 := ⟨k - 1, by omega⟩
        have hok := clOk_lt hW (rF_ok (cl := cls d more r) (night := ng) hW hc j)
        refine C.aload_n dX13_laysRide_15 0 rfl ?_
        refine C.getA fX13_160 dX13_laysRide_16 hS.o hS.r65 ?_
        refine C.iload_n dX13_laysRide_19 3 rfl ?_
        refine C.aload_n dX13_laysRide_20 0 rfl ?_
        refine C.aload_n dX13_laysRide_21 0 rfl ?_
        refine C.getA fX13_160 dX13_laysRide_22 hS.o hS.r65 ?_
        refine C.iload_n dX13_laysRide_25 3 rfl ?_
        refine C.iconst (nI 1) dX13_laysRide_26 (by decide) ?_
        refine C.isub dX13_laysRide_27 ?_
        rw [pk_sub (by omega), Nat.add_sub_cancel]
        refine C.iald hS.a65 (n_in (by omega)) dX13_laysRide_28 ?_
        rw [n_cl, hR j (by omega)]
        refine C.iload_n dX13_laysRide_29 3 rfl ?_
        refine C.iconst (nI 1) dX13_laysRide_30 (by decide) ?_
        refine C.isub dX13_laysRide_31 ?_
        rw [pk_sub (by omega), Nat.add_sub_cancel]
        refine C.iload_n dX13_laysRide_32 2 rfl ?_
        refine C.callVI lX13_476 dX13_laysRide_33 (ke_nextCell hS hL1 hW hC hn1 hng hm1 hm2 (by omega) hok hr) hS.o rfl rfl (Nat.le_of_ble_eq_true rfl) (Nat.zero_le _) (Nat.zero_le _) (Nat.le_of_ble_eq_true rfl) (fun x33 μ33 h33 => ?_)
        obtain ⟨rfl, hT2⟩ := h33
        have hS : ShM μ33 := hT2.sh hS
        refine C.iast hS.a65 (n_in (by omega)) dX13_laysRide_36 ?_
        rw [n_cl]
        refine C.iinc (lv' := [(0, _), (1, _), (2, _), (3, _)]) _ dX13_laysRide_37 3 rfl rfl (nLt hX rfl) rfl ?_
        refine C.goto 9 dX13_laysRide_40 rfl ?_
        have hgo := ih (j + 1 + 1) (sI μ33 228 (j + 1) (nI (nxF d (cls d more r) (wayF d j ng (rF d (cls d more r) ng c j)) (rF d (cls d more r) ng c j)))) (by omega) (by omega) (by omega) ⟨hT2.1.trans hT.1, fun a k q q2 => by rw [mI_sI, if_neg (fun z => q2 z.1), hT2.2.1 a k q]; exact hT.2.1 a k q q2, fun a k q => (hT2.2.2 a k q).trans (hT.2.2 a k q)⟩ (fun h hh => by rw [mI_sI]; by_cases q : h = j + 1; rw [if_pos ⟨rfl, q⟩, q]; rfl; rw [if_neg (fun z => q z.2), hT2.2.1 228 h (by omega)]; exact hR h (by omega))
        rw [← nI_1] at hgo
        exact hgo
  refine C.aload_n dX13_laysRide_0 0 rfl ?_
  refine C.getA fX13_160 dX13_laysRide_1 hS.o hS.r65 ?_
  refine C.iconst (nI 0) dX13_laysRide_4 (by decide) ?_
  refine C.iload_n dX13_laysRide_5 1 rfl ?_
  refine C.iast hS.a65 (n_in (by decide)) dX13_laysRide_6 ?_
  rw [n_cl]
  refine C.iconst (nI 1) dX13_laysRide_7 (by decide) ?_
  refine C.istore_n (lv' := [(0, _), (1, _), (2, _), (3, _)]) dX13_laysRide_8 (nLt hX rfl) rfl ?_
  exact loop 12 1 _ (by omega) (by omega) (by omega) ⟨rfl, fun a k _ q2 => by rw [mI_sI, if_neg (fun z => q2 z.1)], fun _ _ _ => rfl⟩ (fun h hh => by rw [show h = 0 by omega, mI_sI, if_pos ⟨rfl, rfl⟩]; rfl)
theorem ke_ridesNow (hS : ShM μ) (hL : LmH μ 1 1600 d) (hW : Wf d) (hC : LdC d) {ng r : Nat} {more : Option Nat} (hn : mI μ 225 0 = nI ng) (hng : ng < 10000) (hr1 : mI μ 225 1 = nI r) (hm : mI μ 179 66 = opI more) (hm2 : ∀ x, more = some x → x < 49) (hr : r < 2 ^ 31) : AMet l G 6 0 0 mtX13_ridesNow [.ref (G.1 + 179)] μ (qV (fun μ' => (∀ h, h < 12 → mI μ' 228 h = nI (rF d (cls d more r) ng d.1.2.2 h)) ∧ TmR μ μ')) := by
  refine AMet.of (by decide) (Nat.le_of_ble_eq_true rfl) (fun X C hX hnm hq => ?_)
  have h5 : mI μ 215 5 = nI d.1.2.2 := hL.1.1.2.2
  refine C.aload_n dX13_ridesNow_0 0 rfl ?_
  refine C.aload_n dX13_ridesNow_1 0 rfl ?_
  refine C.getA fX13_120 dX13_ridesNow_2 hS.o hS.r45 ?_
  refine C.iconst (nI 5) dX13_ridesNow_5 (by decide) ?_
  refine C.iald hS.a45 (n_in (by decide)) dX13_ridesNow_6 ?_
  rw [n_cl, h5]
  refine C.aload_n dX13_ridesNow_7 0 rfl ?_
  refine C.getA fX13_151 dX13_ridesNow_8 hS.o hS.r59 ?_
  refine C.iconst (nI 1) dX13_ridesNow_11 (by decide) ?_
  refine C.iald hS.a59 (n_in (by decide)) dX13_ridesNow_12 ?_
  rw [n_cl, hr1]
  refine C.callVV lX13_480 dX13_ridesNow_13 (ke_laysRide hS hL hW hC hn hng hm hm2 hW.1.2.2.2.2 hr) hS.o rfl rfl (Nat.le_of_ble_eq_true rfl) (Nat.zero_le _) (Nat.zero_le _) (Nat.le_of_ble_eq_true rfl) (fun μ13 h13 => ?_)
  refine C.vret hq dX13_ridesNow_16 ?_
  exact h13
end KRD2
