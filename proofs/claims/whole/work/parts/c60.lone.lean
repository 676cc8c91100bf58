/-! the class: one statement of a land, read -/
def qSt (d : Ld) : Option Nat → Nat
  | none => 0
  | some w => if 11 ≤ w ∧ w ≤ 13 ∧ (d.2.2.2.2.2 (w - 11)).isNone = true then 1 else 0
section KRD
variable {l : Launch} {G : Gm} {μ : Mm} {tp : List Nat} {s : Ps} {L : Nat} {f g : Nat → Nat} {d : Ld}
theorem SrQ_bad {μ' : Mm} {s' : Ps} {r : Ld × Ps} (hR : RD μ' (txL tp) tp.length s') (hP : PsOk tp.length s') (hb : s'.2.2.1 = r.2.2.2.1) (hp : s'.2.2.2.1 = r.2.2.2.2.1) (hn : ¬ r.2.2.2.1 = 0) (hq : RqF μ μ') (hO : isO μ L 2) (hL : 259 ≤ L) : SrQ μ tp L r μ' := ⟨fun _ => 0, fun _ => 0, s', hR, hP, ⟨hb, hp, fun z => absurd z hn⟩, LnF.q L hq, hO.grw (Grw.of (by rw [hq.1])), hq.2 _ _ (by omega), fun z => absurd z hn⟩
theorem SrQ_set {μ1 μ2 : Mm} {s1 : Ps} {x : Int32} {j lo hi : Nat} (hj : j < 3) (hq : RqF μ μ1) (hP : PsOk tp.length s1) (hG : LgR μ1 L f g d) (h1 : x = (if (mNum (txL tp) tp.length s1 (nI lo) (nI hi)).2.2.2.1 = 0 then (mNum (txL tp) tp.length s1 (nI lo) (nI hi)).1 else nI 0)) (h2 : RD μ2 (txL tp) tp.length (mNum (txL tp) tp.length s1 (nI lo) (nI hi)).2) (h3 : RqF μ1 μ2) : SrQ μ tp L (rSet (txL tp) tp.length j lo hi d s1) (sI μ2 L (13 + j) x) := by
  have hL := hG.2.1
  have hG2 := h3.lg hG
  refine ⟨f, g, (mNum (txL tp) tp.length s1 (nI lo) (nI hi)).2, h2.ph (fun k => by rw [mI_sI, if_neg (by omega)]), hP.num' hP.le _ _, ⟨rfl, rfl, fun _ => rfl⟩, (LnF.q L (hq.trans h3)).trans (LnF.w (fun a k ha => by rw [mI_sI, if_neg (by omega)]) (fun a k _ => rfl) rfl), hG2.o, ?_, fun hz => ?_⟩
  · rw [mI_sI, if_neg (by omega)]
    exact (hq.trans h3).2 _ _ (by omega)
  · have hz' : (mNum (txL tp) tp.length s1 (nI lo) (nI hi)).2.2.2.1 = 0 := hz
    obtain ⟨v, v1, v2⟩ := mNum_v (tx := txL tp) (e := tp.length) s1 (nI lo) (nI hi)
    rw [h1, if_pos hz']
    unfold rSet
    dsimp only
    rw [v2, nn_nI (by omega)]
    exact hG2.set hj

theorem kr_readStatement (hC : CsB μ) (hT : CsT μ tp) (hR : RD μ (txL tp) tp.length s) (hP : PsOk tp.length s) (hG : LgR μ L f g d) (hW : Wf d) (hL17 : L + 17 < mN μ) (hz : s.2.2.1 = 0) (hk : sk (txL tp) tp.length s.1 < tp.length) (hnt : ¬ nI (sk (txL tp) tp.length s.1) = s.2.1) {o : Option Nat} (ho : wdO (txL tp) tp.length s = o) : AMet l G 39 (2 * qSt d o) (1602 * qSt d o) mtX3_readStatement [.ref (G.1 + 7), .ref (G.1 + L)] μ (qV (fun μ' => SrQ μ tp L (rBody (txL tp) tp.length d (mLook (txL tp) tp.length s)) μ')) := by
  refine AMet.of (by decide) (Nat.le_of_ble_eq_true rfl) (fun X C hX hnm hq => ?_)
  have hS := hC.1
  have hL := hG.2.1
  have hs : s.1 ≤ tp.length := (hP hz).1
  have he := hT.2.1
  have hfrom : mI μ 3 4 = nI (sk (txL tp) tp.length s.1) := (hR.1 hz).2.2.1
  have ho39 : ∀ w, o = some w → w < 39 := fun w q => (wdO_has (ho.trans q)).2
  have hadv : ∃ s1 : Ps, s1.2.2.1 = 0 ∧ PsOk tp.length s1 ∧ s1.1 ≤ tp.length ∧ (∀ w, o = some w → s1 = wAf (txL tp) tp.length s) ∧ AMet l G 1 0 0 mtX8_advance [.ref (G.1 + 3)] μ (qV (fun μ' => RD μ' (txL tp) tp.length s1 ∧ RqF μ μ')) := by
    by_cases hw : wHas (txL tp) tp.length s
    · exact ⟨wAf (txL tp) tp.length s, hz, hP.waf hw, (wl_pos hw.2.1 hw.2.2.1).2, fun _ _ => rfl, kw_advW hS hT hR hw rfl rfl rfl⟩
    · have hno : ∀ w, ¬ o = some w := fun w q => hw (wdO_has (ho.trans q)).1
      by_cases hd : dHas (txL tp) tp.length s
      · have hdl := (dl_pos hd.2.1 hd.2.2.1).2
        exact ⟨(dl (txL tp) tp.length (sk (txL tp) tp.length s.1), nI (dl (txL tp) tp.length (sk (txL tp) tp.length s.1)), s.2.2), hz, fun _ => ⟨hdl, Or.inr ⟨_, Nat.le_refl _, rfl⟩, (hP hz).2.2⟩, hdl, fun w q => absurd q (hno w), kw_advD hS hT hR hd rfl rfl rfl⟩
      · have hsg : sHas (txL tp) tp.length s := by
          refine ⟨hz, hk, ?_, ?_⟩
          · cases q : isL (txL tp (sk (txL tp) tp.length s.1)) with
            | false => rfl
            | true => exact absurd ⟨hz, hk, q, hnt⟩ hw
          · cases q : isD (txL tp (sk (txL tp) tp.length s.1)) with
            | false => rfl
            | true => exact absurd ⟨hz, hk, q, hnt⟩ hd
        exact ⟨(sk (txL tp) tp.length s.1 + 1, s.2), hz, hP.sign hsg, hk, fun w q => absurd q (hno w), kw_advS hS hT hR hP hsg rfl rfl rfl⟩
  obtain ⟨s1, hz1, hP1, hs1, hwf, hav⟩ := hadv
  refine C.aload_n dX3_readStatement_0 0 rfl ?_
  refine C.getO fX3_9 dX3_readStatement_1 hS.o7 hS.r7_0 ?_
  refine C.callVI lX3_63 dX3_readStatement_4 (kw_word hC hT hR) hS.o3 rfl rfl (Nat.le_of_ble_eq_true rfl) (Nat.zero_le _) (Nat.zero_le _) (Nat.le_of_ble_eq_true rfl) (fun x4 μ4 h4 => ?_)
  obtain ⟨rfl, hμ⟩ := h4
  subst hμ
  rw [ho]
  refine C.istore_n (lv' := [(0, _), (1, _), (2, _)]) dX3_readStatement_7 (nLt hX rfl) rfl ?_
  refine C.aload_n dX3_readStatement_8 1 rfl ?_
  refine C.iload_n dX3_readStatement_9 2 rfl ?_
  refine C.callSI lX3_67 dX3_readStatement_10 (kr_tooMany hG.1 hW ho39) rfl rfl (Nat.le_of_ble_eq_true rfl) (Nat.zero_le _) (Nat.zero_le _) (Nat.le_of_ble_eq_true rfl) (fun x10 μ10 h10 => ?_)
  obtain ⟨h10a, hμ⟩ := h10
  subst hμ
  refine C.if_eq 32 dX3_readStatement_13 rfl (fun hc13 => ?_) (fun hc13 => ?_)
  · rw [h10a] at hc13
    have hbf := (bI_0 _).mp hc13
    refine C.aload_n dX3_readStatement_32 0 rfl ?_
    refine C.getO fX3_9 dX3_readStatement_33 hS.o7 hS.r7_0 ?_
    refine C.getI fX3_32 dX3_readStatement_36 hS.o3 ?_
    rw [hfrom]
    refine C.istore_n (lv' := [(0, _), (1, _), (2, _), (3, _)]) dX3_readStatement_39 (nLt hX rfl) rfl ?_
    refine C.aload_n dX3_readStatement_40 0 rfl ?_
    refine C.getO fX3_9 dX3_readStatement_41 hS.o7 hS.r7_0 ?_
    refine C.callVV lX3_71 dX3_readStatement_44 (hav) hS.o3 rfl rfl (Nat.le_of_ble_eq_true rfl) (Nat.zero_le _) (Nat.zero_le _) (Nat.le_of_ble_eq_true rfl) (fun μ44 h44 => ?_)
    obtain ⟨r44, q44⟩ := h44
    have hS := q44.sh hS
    have hC := (LnF.q L q44).b hL hC
    have hT := q44.t hT
    have hG4 := q44.lg hG
    have n44 : L + 17 < mN μ44 := by unfold mN; rw [q44.1]; exact hL17
    refine C.iload_n dX3_readStatement_47 2 rfl ?_
    by_cases h3 : o = some 3
    · subst h3
      have e1 := hwf 3 rfl
      have hl : d.2.1.length < 10 := Nat.not_le.mp (fun q => by have : decide (10 ≤ d.2.1.length) = false := hbf; rw [decide_eq_true q] at this; exact absurd this (by decide))
      refine C.tableIn 120 dX3_readStatement_48 (by decide) (by decide) rfl rfl ?_
      refine C.aload_n dX3_readStatement_120 0 rfl ?_
      refine C.aload_n dX3_readStatement_121 1 rfl ?_
      refine C.callVV lX3_74 dX3_readStatement_122 (kr_readChapel hC hT r44 hP1 hG4 hW hl (nI (sk (txL tp) tp.length s.1))) hS.o7 rfl rfl (Nat.le_of_ble_eq_true rfl) (Nat.zero_le _) (Nat.zero_le _) (Nat.le_of_ble_eq_true rfl) (fun μ122 h122 => ?_)
      refine C.goto 253 dX3_readStatement_125 rfl ?_
      refine C.vret hq dX3_readStatement_253 ?_
      first
      | (rw [rb_3 hz ho, ← e1]; exact StQ.s h122 hL q44)
      | (rw [rb_4 hz ho, ← e1]; exact StQ.s h130 hL q44)
      | (rw [rb_7 hz ho, ← e1]; exact StQ.s h138 hL q44)
      | (rw [rb_c (w := 0) hz (by omega) ho, ← e1]; exact SrQ_code q44 hC hG4 n44 (by omega) hnn h151 (rdg_code he hz1 hs1 (by omega)))
      | (rw [rb_c (w := 1) hz (by omega) ho, ← e1]; exact SrQ_code q44 hC hG4 n44 (by omega) hnn h167 (rdg_code he hz1 hs1 (by omega)))
      | (rw [rb_c (w := 2) hz (by omega) ho, ← e1]; exact SrQ_code q44 hC hG4 n44 (by omega) hnn h183 (rdg_code he hz1 hs1 (by omega)))
      | (rw [rb_14 hz ho, ← e1]; exact SrQ_set (by omega) q44 hP1 hG4 h200.1 h200.2.1 h200.2.2)
      | (rw [rb_15 hz ho, ← e1]; exact SrQ_set (by omega) q44 hP1 hG4 h218.1 h218.2.1 h218.2.2)
      | (rw [rb_16 hz hs ho, ← e1]; exact SrQ_set (by omega) q44 hP1 hG4 h235.1 h235.2.1 h235.2.2)
      | exact SrQ_bad h250.1 (hP1.fail (by decide)) (by rw [hrb.1, mFail_z hz1]) (by rw [hrb.2, mFail_z hz1]) (by rw [hrb.1]; decide) (q44.trans h250.2) hG.o hL
    by_cases h4 : o = some 4
    · subst h4
      have e1 := hwf 4 rfl
      have hl : d.2.2.1.length < 5 := Nat.not_le.mp (fun q => by have : decide (5 ≤ d.2.2.1.length) = false := hbf; rw [decide_eq_true q] at this; exact absurd this (by decide))
      refine C.tableIn 128 dX3_readStatement_48 (by decide) (by decide) rfl rfl ?_
      refine C.aload_n dX3_readStatement_128 0 rfl ?_
      refine C.aload_n dX3_readStatement_129 1 rfl ?_
      refine C.callVV lX3_77 dX3_readStatement_130 (kr_readBell hC hT r44 hP1 hG4 hW hl (nI (sk (txL tp) tp.length s.1))) hS.o7 rfl rfl (Nat.le_of_ble_eq_true rfl) (Nat.zero_le _) (Nat.zero_le _) (Nat.le_of_ble_eq_true rfl) (fun μ130 h130 => ?_)
      refine C.goto 253 dX3_readStatement_133 rfl ?_
      refine C.vret hq dX3_readStatement_253 ?_
      first
      | (rw [rb_3 hz ho, ← e1]; exact StQ.s h122 hL q44)
      | (rw [rb_4 hz ho, ← e1]; exact StQ.s h130 hL q44)
      | (rw [rb_7 hz ho, ← e1]; exact StQ.s h138 hL q44)
      | (rw [rb_c (w := 0) hz (by omega) ho, ← e1]; exact SrQ_code q44 hC hG4 n44 (by omega) hnn h151 (rdg_code he hz1 hs1 (by omega)))
      | (rw [rb_c (w := 1) hz (by omega) ho, ← e1]; exact SrQ_code q44 hC hG4 n44 (by omega) hnn h167 (rdg_code he hz1 hs1 (by omega)))
      | (rw [rb_c (w := 2) hz (by omega) ho, ← e1]; exact SrQ_code q44 hC hG4 n44 (by omega) hnn h183 (rdg_code he hz1 hs1 (by omega)))
      | (rw [rb_14 hz ho, ← e1]; exact SrQ_set (by omega) q44 hP1 hG4 h200.1 h200.2.1 h200.2.2)
      | (rw [rb_15 hz ho, ← e1]; exact SrQ_set (by omega) q44 hP1 hG4 h218.1 h218.2.1 h218.2.2)
      | (rw [rb_16 hz hs ho, ← e1]; exact SrQ_set (by omega) q44 hP1 hG4 h235.1 h235.2.1 h235.2.2)
      | exact SrQ_bad h250.1 (hP1.fail (by decide)) (by rw [hrb.1, mFail_z hz1]) (by rw [hrb.2, mFail_z hz1]) (by rw [hrb.1]; decide) (q44.trans h250.2) hG.o hL
    by_cases h7 : o = some 7
    · subst h7
      have e1 := hwf 7 rfl
      have hl : d.2.2.2.1.length < 6 := Nat.not_le.mp (fun q => by have : decide (6 ≤ d.2.2.2.1.length) = false := hbf; rw [decide_eq_true q] at this; exact absurd this (by decide))
      refine C.tableIn 136 dX3_readStatement_48 (by decide) (by decide) rfl rfl ?_
      refine C.aload_n dX3_readStatement_136 0 rfl ?_
      refine C.aload_n dX3_readStatement_137 1 rfl ?_
      refine C.callVV lX3_80 dX3_readStatement_138 (kr_readWalker hC hT r44 hP1 hG4 hW hl (nI (sk (txL tp) tp.length s.1))) hS.o7 rfl rfl (Nat.le_of_ble_eq_true rfl) (Nat.zero_le _) (Nat.zero_le _) (Nat.le_of_ble_eq_true rfl) (fun μ138 h138 => ?_)
      refine C.goto 253 dX3_readStatement_141 rfl ?_
      refine C.vret hq dX3_readStatement_253 ?_
      first
      | (rw [rb_3 hz ho, ← e1]; exact StQ.s h122 hL q44)
      | (rw [rb_4 hz ho, ← e1]; exact StQ.s h130 hL q44)
      | (rw [rb_7 hz ho, ← e1]; exact StQ.s h138 hL q44)
      | (rw [rb_c (w := 0) hz (by omega) ho, ← e1]; exact SrQ_code q44 hC hG4 n44 (by omega) hnn h151 (rdg_code he hz1 hs1 (by omega)))
      | (rw [rb_c (w := 1) hz (by omega) ho, ← e1]; exact SrQ_code q44 hC hG4 n44 (by omega) hnn h167 (rdg_code he hz1 hs1 (by omega)))
      | (rw [rb_c (w := 2) hz (by omega) ho, ← e1]; exact SrQ_code q44 hC hG4 n44 (by omega) hnn h183 (rdg_code he hz1 hs1 (by omega)))
      | (rw [rb_14 hz ho, ← e1]; exact SrQ_set (by omega) q44 hP1 hG4 h200.1 h200.2.1 h200.2.2)
      | (rw [rb_15 hz ho, ← e1]; exact SrQ_set (by omega) q44 hP1 hG4 h218.1 h218.2.1 h218.2.2)
      | (rw [rb_16 hz hs ho, ← e1]; exact SrQ_set (by omega) q44 hP1 hG4 h235.1 h235.2.1 h235.2.2)
      | exact SrQ_bad h250.1 (hP1.fail (by decide)) (by rw [hrb.1, mFail_z hz1]) (by rw [hrb.2, mFail_z hz1]) (by rw [hrb.1]; decide) (q44.trans h250.2) hG.o hL
    by_cases h11 : o = some 11
    · subst h11
      have e1 := hwf 11 rfl
      have hnn : d.2.2.2.2.2 0 = none := by have : (d.2.2.2.2.2 0).isSome = false := hbf; cases q : d.2.2.2.2.2 0 with | none => rfl | some z => rw [q] at this; exact absurd this (by simp)
      have hq1 : qSt d (some 11) = 1 := by show (if 11 ≤ 11 ∧ 11 ≤ 13 ∧ (d.2.2.2.2.2 0).isNone = true then 1 else 0) = 1; rw [hnn]; rfl
      have hle := cRd_le (tx := txL tp) (e := tp.length) 0 s1
      refine C.tableIn 144 dX3_readStatement_48 (by decide) (by decide) rfl rfl ?_
      refine C.aload_n dX3_readStatement_144 1 rfl ?_
      refine C.aload_n dX3_readStatement_145 0 rfl ?_
      refine C.getO fX3_15 dX3_readStatement_146 hS.o7 hS.r7_1 ?_
      refine C.bipush (nI 15) dX3_readStatement_149 (by decide) ?_
      refine C.callVR lX3_83 dX3_readStatement_151 (kf_readSum (m := 15) (t' := cRd (txL tp) tp.length 0 s1) hC hT r44 hP1 (by omega) rfl) hS.o5 rfl rfl (Nat.le_of_ble_eq_true rfl) (by omega) (by omega) (Nat.le_of_ble_eq_true rfl) (fun x151 μ151 h151 => ?_)
      refine C.putO fX3_89 (Or.inl rfl) dX3_readStatement_154 (hG4.o.grw (h151.fr (L := L) hC (by omega)).1.1.1) ?_
      refine C.goto 253 dX3_readStatement_157 rfl ?_
      refine C.vret hq dX3_readStatement_253 ?_
      first
      | (rw [rb_3 hz ho, ← e1]; exact StQ.s h122 hL q44)
      | (rw [rb_4 hz ho, ← e1]; exact StQ.s h130 hL q44)
      | (rw [rb_7 hz ho, ← e1]; exact StQ.s h138 hL q44)
      | (rw [rb_c (w := 0) hz (by omega) ho, ← e1]; exact SrQ_code q44 hC hG4 n44 (by omega) hnn h151 (rdg_code he hz1 hs1 (by omega)))
      | (rw [rb_c (w := 1) hz (by omega) ho, ← e1]; exact SrQ_code q44 hC hG4 n44 (by omega) hnn h167 (rdg_code he hz1 hs1 (by omega)))
      | (rw [rb_c (w := 2) hz (by omega) ho, ← e1]; exact SrQ_code q44 hC hG4 n44 (by omega) hnn h183 (rdg_code he hz1 hs1 (by omega)))
      | (rw [rb_14 hz ho, ← e1]; exact SrQ_set (by omega) q44 hP1 hG4 h200.1 h200.2.1 h200.2.2)
      | (rw [rb_15 hz ho, ← e1]; exact SrQ_set (by omega) q44 hP1 hG4 h218.1 h218.2.1 h218.2.2)
      | (rw [rb_16 hz hs ho, ← e1]; exact SrQ_set (by omega) q44 hP1 hG4 h235.1 h235.2.1 h235.2.2)
      | exact SrQ_bad h250.1 (hP1.fail (by decide)) (by rw [hrb.1, mFail_z hz1]) (by rw [hrb.2, mFail_z hz1]) (by rw [hrb.1]; decide) (q44.trans h250.2) hG.o hL
    by_cases h12 : o = some 12
    · subst h12
      have e1 := hwf 12 rfl
      have hnn : d.2.2.2.2.2 1 = none := by have : (d.2.2.2.2.2 1).isSome = false := hbf; cases q : d.2.2.2.2.2 1 with | none => rfl | some z => rw [q] at this; exact absurd this (by simp)
      have hq1 : qSt d (some 12) = 1 := by show (if 11 ≤ 12 ∧ 12 ≤ 13 ∧ (d.2.2.2.2.2 1).isNone = true then 1 else 0) = 1; rw [hnn]; rfl
      have hle := cRd_le (tx := txL tp) (e := tp.length) 1 s1
      refine C.tableIn 160 dX3_readStatement_48 (by decide) (by decide) rfl rfl ?_
      refine C.aload_n dX3_readStatement_160 1 rfl ?_
      refine C.aload_n dX3_readStatement_161 0 rfl ?_
      refine C.getO fX3_15 dX3_readStatement_162 hS.o7 hS.r7_1 ?_
      refine C.bipush (nI 115) dX3_readStatement_165 (by decide) ?_
      refine C.callVR lX3_83 dX3_readStatement_167 (kf_readSum (m := 115) (t' := cRd (txL tp) tp.length 1 s1) hC hT r44 hP1 (by omega) rfl) hS.o5 rfl rfl (Nat.le_of_ble_eq_true rfl) (by omega) (by omega) (Nat.le_of_ble_eq_true rfl) (fun x167 μ167 h167 => ?_)
      refine C.putO fX3_93 (Or.inl rfl) dX3_readStatement_170 (hG4.o.grw (h167.fr (L := L) hC (by omega)).1.1.1) ?_
      refine C.goto 253 dX3_readStatement_173 rfl ?_
      refine C.vret hq dX3_readStatement_253 ?_
      first
      | (rw [rb_3 hz ho, ← e1]; exact StQ.s h122 hL q44)
      | (rw [rb_4 hz ho, ← e1]; exact StQ.s h130 hL q44)
      | (rw [rb_7 hz ho, ← e1]; exact StQ.s h138 hL q44)
      | (rw [rb_c (w := 0) hz (by omega) ho, ← e1]; exact SrQ_code q44 hC hG4 n44 (by omega) hnn h151 (rdg_code he hz1 hs1 (by omega)))
      | (rw [rb_c (w := 1) hz (by omega) ho, ← e1]; exact SrQ_code q44 hC hG4 n44 (by omega) hnn h167 (rdg_code he hz1 hs1 (by omega)))
      | (rw [rb_c (w := 2) hz (by omega) ho, ← e1]; exact SrQ_code q44 hC hG4 n44 (by omega) hnn h183 (rdg_code he hz1 hs1 (by omega)))
      | (rw [rb_14 hz ho, ← e1]; exact SrQ_set (by omega) q44 hP1 hG4 h200.1 h200.2.1 h200.2.2)
      | (rw [rb_15 hz ho, ← e1]; exact SrQ_set (by omega) q44 hP1 hG4 h218.1 h218.2.1 h218.2.2)
      | (rw [rb_16 hz hs ho, ← e1]; exact SrQ_set (by omega) q44 hP1 hG4 h235.1 h235.2.1 h235.2.2)
      | exact SrQ_bad h250.1 (hP1.fail (by decide)) (by rw [hrb.1, mFail_z hz1]) (by rw [hrb.2, mFail_z hz1]) (by rw [hrb.1]; decide) (q44.trans h250.2) hG.o hL
    by_cases h13 : o = some 13
    · subst h13
      have e1 := hwf 13 rfl
      have hnn : d.2.2.2.2.2 2 = none := by have : (d.2.2.2.2.2 2).isSome = false := hbf; cases q : d.2.2.2.2.2 2 with | none => rfl | some z => rw [q] at this; exact absurd this (by simp)
      have hq1 : qSt d (some 13) = 1 := by show (if 11 ≤ 13 ∧ 13 ≤ 13 ∧ (d.2.2.2.2.2 2).isNone = true then 1 else 0) = 1; rw [hnn]; rfl
      have hle := cRd_le (tx := txL tp) (e := tp.length) 2 s1
      refine C.tableIn 176 dX3_readStatement_48 (by decide) (by decide) rfl rfl ?_
      refine C.aload_n dX3_readStatement_176 1 rfl ?_
      refine C.aload_n dX3_readStatement_177 0 rfl ?_
      refine C.getO fX3_15 dX3_readStatement_178 hS.o7 hS.r7_1 ?_
      refine C.bipush (nI 115) dX3_readStatement_181 (by decide) ?_
      refine C.callVR lX3_96 dX3_readStatement_183 (kf_readTest (m := 115) (t' := cRd (txL tp) tp.length 2 s1) hC hT r44 hP1 (by omega) rfl) hS.o5 rfl rfl (Nat.le_of_ble_eq_true rfl) (by omega) (by omega) (Nat.le_of_ble_eq_true rfl) (fun x183 μ183 h183 => ?_)
      refine C.putO fX3_99 (Or.inl rfl) dX3_readStatement_186 (hG4.o.grw (h183.fr (L := L) hC (by omega)).1.1.1) ?_
      refine C.goto 253 dX3_readStatement_189 rfl ?_
      refine C.vret hq dX3_readStatement_253 ?_
      first
      | (rw [rb_3 hz ho, ← e1]; exact StQ.s h122 hL q44)
      | (rw [rb_4 hz ho, ← e1]; exact StQ.s h130 hL q44)
      | (rw [rb_7 hz ho, ← e1]; exact StQ.s h138 hL q44)
      | (rw [rb_c (w := 0) hz (by omega) ho, ← e1]; exact SrQ_code q44 hC hG4 n44 (by omega) hnn h151 (rdg_code he hz1 hs1 (by omega)))
      | (rw [rb_c (w := 1) hz (by omega) ho, ← e1]; exact SrQ_code q44 hC hG4 n44 (by omega) hnn h167 (rdg_code he hz1 hs1 (by omega)))
      | (rw [rb_c (w := 2) hz (by omega) ho, ← e1]; exact SrQ_code q44 hC hG4 n44 (by omega) hnn h183 (rdg_code he hz1 hs1 (by omega)))
      | (rw [rb_14 hz ho, ← e1]; exact SrQ_set (by omega) q44 hP1 hG4 h200.1 h200.2.1 h200.2.2)
      | (rw [rb_15 hz ho, ← e1]; exact SrQ_set (by omega) q44 hP1 hG4 h218.1 h218.2.1 h218.2.2)
      | (rw [rb_16 hz hs ho, ← e1]; exact SrQ_set (by omega) q44 hP1 hG4 h235.1 h235.2.1 h235.2.2)
      | exact SrQ_bad h250.1 (hP1.fail (by decide)) (by rw [hrb.1, mFail_z hz1]) (by rw [hrb.2, mFail_z hz1]) (by rw [hrb.1]; decide) (q44.trans h250.2) hG.o hL
    by_cases h14 : o = some 14
    · subst h14
      have e1 := hwf 14 rfl
      refine C.tableIn 192 dX3_readStatement_48 (by decide) (by decide) rfl rfl ?_
      refine C.aload_n dX3_readStatement_192 1 rfl ?_
      refine C.aload_n dX3_readStatement_193 0 rfl ?_
      refine C.getO fX3_9 dX3_readStatement_194 hS.o7 hS.r7_0 ?_
      refine C.iconst (nI 1) dX3_readStatement_197 (by decide) ?_
      refine C.bipush (nI 99) dX3_readStatement_198 (by decide) ?_
      refine C.callVI lX3_56 dX3_readStatement_200 (kw_takeNumber hS hT r44 (nI 1) (nI 99)) hS.o3 rfl rfl (Nat.le_of_ble_eq_true rfl) (Nat.zero_le _) (Nat.zero_le _) (Nat.le_of_ble_eq_true rfl) (fun x200 μ200 h200 => ?_)
      refine C.putI fX3_102 (Or.inl rfl) dX3_readStatement_203 (hG4.o.grw (Grw.of (by rw [h200.2.2.1]))) ?_
      refine C.goto 253 dX3_readStatement_206 rfl ?_
      refine C.vret hq dX3_readStatement_253 ?_
      first
      | (rw [rb_3 hz ho, ← e1]; exact StQ.s h122 hL q44)
      | (rw [rb_4 hz ho, ← e1]; exact StQ.s h130 hL q44)
      | (rw [rb_7 hz ho, ← e1]; exact StQ.s h138 hL q44)
      | (rw [rb_c (w := 0) hz (by omega) ho, ← e1]; exact SrQ_code q44 hC hG4 n44 (by omega) hnn h151 (rdg_code he hz1 hs1 (by omega)))
      | (rw [rb_c (w := 1) hz (by omega) ho, ← e1]; exact SrQ_code q44 hC hG4 n44 (by omega) hnn h167 (rdg_code he hz1 hs1 (by omega)))
      | (rw [rb_c (w := 2) hz (by omega) ho, ← e1]; exact SrQ_code q44 hC hG4 n44 (by omega) hnn h183 (rdg_code he hz1 hs1 (by omega)))
      | (rw [rb_14 hz ho, ← e1]; exact SrQ_set (by omega) q44 hP1 hG4 h200.1 h200.2.1 h200.2.2)
      | (rw [rb_15 hz ho, ← e1]; exact SrQ_set (by omega) q44 hP1 hG4 h218.1 h218.2.1 h218.2.2)
      | (rw [rb_16 hz hs ho, ← e1]; exact SrQ_set (by omega) q44 hP1 hG4 h235.1 h235.2.1 h235.2.2)
      | exact SrQ_bad h250.1 (hP1.fail (by decide)) (by rw [hrb.1, mFail_z hz1]) (by rw [hrb.2, mFail_z hz1]) (by rw [hrb.1]; decide) (q44.trans h250.2) hG.o hL
    by_cases h15 : o = some 15
    · subst h15
      have e1 := hwf 15 rfl
      refine C.tableIn 209 dX3_readStatement_48 (by decide) (by decide) rfl rfl ?_
      refine C.aload_n dX3_readStatement_209 1 rfl ?_
      refine C.aload_n dX3_readStatement_210 0 rfl ?_
      refine C.getO fX3_9 dX3_readStatement_211 hS.o7 hS.r7_0 ?_
      refine C.iconst (nI 0) dX3_readStatement_214 (by decide) ?_
      refine C.sipush (nI 999) dX3_readStatement_215 (by decide) ?_
      refine C.callVI lX3_56 dX3_readStatement_218 (kw_takeNumber hS hT r44 (nI 0) (nI 999)) hS.o3 rfl rfl (Nat.le_of_ble_eq_true rfl) (Nat.zero_le _) (Nat.zero_le _) (Nat.le_of_ble_eq_true rfl) (fun x218 μ218 h218 => ?_)
      refine C.putI fX3_105 (Or.inl rfl) dX3_readStatement_221 (hG4.o.grw (Grw.of (by rw [h218.2.2.1]))) ?_
      refine C.goto 253 dX3_readStatement_224 rfl ?_
      refine C.vret hq dX3_readStatement_253 ?_
      first
      | (rw [rb_3 hz ho, ← e1]; exact StQ.s h122 hL q44)
      | (rw [rb_4 hz ho, ← e1]; exact StQ.s h130 hL q44)
      | (rw [rb_7 hz ho, ← e1]; exact StQ.s h138 hL q44)
      | (rw [rb_c (w := 0) hz (by omega) ho, ← e1]; exact SrQ_code q44 hC hG4 n44 (by omega) hnn h151 (rdg_code he hz1 hs1 (by omega)))
      | (rw [rb_c (w := 1) hz (by omega) ho, ← e1]; exact SrQ_code q44 hC hG4 n44 (by omega) hnn h167 (rdg_code he hz1 hs1 (by omega)))
      | (rw [rb_c (w := 2) hz (by omega) ho, ← e1]; exact SrQ_code q44 hC hG4 n44 (by omega) hnn h183 (rdg_code he hz1 hs1 (by omega)))
      | (rw [rb_14 hz ho, ← e1]; exact SrQ_set (by omega) q44 hP1 hG4 h200.1 h200.2.1 h200.2.2)
      | (rw [rb_15 hz ho, ← e1]; exact SrQ_set (by omega) q44 hP1 hG4 h218.1 h218.2.1 h218.2.2)
      | (rw [rb_16 hz hs ho, ← e1]; exact SrQ_set (by omega) q44 hP1 hG4 h235.1 h235.2.1 h235.2.2)
      | exact SrQ_bad h250.1 (hP1.fail (by decide)) (by rw [hrb.1, mFail_z hz1]) (by rw [hrb.2, mFail_z hz1]) (by rw [hrb.1]; decide) (q44.trans h250.2) hG.o hL
    by_cases h16 : o = some 16
    · subst h16
      have e1 := hwf 16 rfl
      refine C.tableIn 227 dX3_readStatement_48 (by decide) (by decide) rfl rfl ?_
      refine C.aload_n dX3_readStatement_227 1 rfl ?_
      refine C.aload_n dX3_readStatement_228 0 rfl ?_
      refine C.getO fX3_9 dX3_readStatement_229 hS.o7 hS.r7_0 ?_
      refine C.iconst (nI 0) dX3_readStatement_232 (by decide) ?_
      refine C.bipush (nI 100) dX3_readStatement_233 (by decide) ?_
      refine C.callVI lX3_56 dX3_readStatement_235 (kw_takeNumber hS hT r44 (nI 0) (nI 100)) hS.o3 rfl rfl (Nat.le_of_ble_eq_true rfl) (Nat.zero_le _) (Nat.zero_le _) (Nat.le_of_ble_eq_true rfl) (fun x235 μ235 h235 => ?_)
      refine C.putI fX3_108 (Or.inl rfl) dX3_readStatement_238 (hG4.o.grw (Grw.of (by rw [h235.2.2.1]))) ?_
      refine C.goto 253 dX3_readStatement_241 rfl ?_
      refine C.vret hq dX3_readStatement_253 ?_
      first
      | (rw [rb_3 hz ho, ← e1]; exact StQ.s h122 hL q44)
      | (rw [rb_4 hz ho, ← e1]; exact StQ.s h130 hL q44)
      | (rw [rb_7 hz ho, ← e1]; exact StQ.s h138 hL q44)
      | (rw [rb_c (w := 0) hz (by omega) ho, ← e1]; exact SrQ_code q44 hC hG4 n44 (by omega) hnn h151 (rdg_code he hz1 hs1 (by omega)))
      | (rw [rb_c (w := 1) hz (by omega) ho, ← e1]; exact SrQ_code q44 hC hG4 n44 (by omega) hnn h167 (rdg_code he hz1 hs1 (by omega)))
      | (rw [rb_c (w := 2) hz (by omega) ho, ← e1]; exact SrQ_code q44 hC hG4 n44 (by omega) hnn h183 (rdg_code he hz1 hs1 (by omega)))
      | (rw [rb_14 hz ho, ← e1]; exact SrQ_set (by omega) q44 hP1 hG4 h200.1 h200.2.1 h200.2.2)
      | (rw [rb_15 hz ho, ← e1]; exact SrQ_set (by omega) q44 hP1 hG4 h218.1 h218.2.1 h218.2.2)
      | (rw [rb_16 hz hs ho, ← e1]; exact SrQ_set (by omega) q44 hP1 hG4 h235.1 h235.2.1 h235.2.2)
      | exact SrQ_bad h250.1 (hP1.fail (by decide)) (by rw [hrb.1, mFail_z hz1]) (by rw [hrb.2, mFail_z hz1]) (by rw [hrb.1]; decide) (q44.trans h250.2) hG.o hL
    have hrb := rb_d (tx := txL tp) (e := tp.length) (d := d) hz hs (fun w q => by
      rw [ho] at q
      rintro (z | z | z | z)
      · exact h3 (by rw [q, z])
      · exact h4 (by rw [q, z])
      · exact h7 (by rw [q, z])
      · rcases (show w = 11 ∨ w = 12 ∨ w = 13 ∨ w = 14 ∨ w = 15 ∨ w = 16 by omega) with y | y | y | y | y | y
        · exact h11 (by rw [q, y])
        · exact h12 (by rw [q, y])
        · exact h13 (by rw [q, y])
        · exact h14 (by rw [q, y])
        · exact h15 (by rw [q, y])
        · exact h16 (by rw [q, y]))
    have dflt : AW l G X (2 * qSt d o) (1602 * qSt d o) 244 [(0, .ref (G.1 + 7)), (1, .ref (G.1 + L)), (2, .int (opI o)), (3, .int (nI (sk (txL tp) tp.length s.1)))] [] μ44 := by
      refine C.aload_n dX3_readStatement_244 0 rfl ?_
      refine C.getO fX3_9 dX3_readStatement_245 hS.o7 hS.r7_0 ?_
      refine C.iconst (nI 1) dX3_readStatement_248 (by decide) ?_
      refine C.iload_n dX3_readStatement_249 3 rfl ?_
      refine C.callVV lX3_36 dX3_readStatement_250 (kw_fail hS r44 (by decide)) hS.o3 rfl rfl (Nat.le_of_ble_eq_true rfl) (Nat.zero_le _) (Nat.zero_le _) (Nat.le_of_ble_eq_true rfl) (fun μ250 h250 => ?_)
      refine C.vret hq dX3_readStatement_253 ?_
      first
      | (rw [rb_3 hz ho, ← e1]; exact StQ.s h122 hL q44)
      | (rw [rb_4 hz ho, ← e1]; exact StQ.s h130 hL q44)
      | (rw [rb_7 hz ho, ← e1]; exact StQ.s h138 hL q44)
      | (rw [rb_c (w := 0) hz (by omega) ho, ← e1]; exact SrQ_code q44 hC hG4 n44 (by omega) hnn h151 (rdg_code he hz1 hs1 (by omega)))
      | (rw [rb_c (w := 1) hz (by omega) ho, ← e1]; exact SrQ_code q44 hC hG4 n44 (by omega) hnn h167 (rdg_code he hz1 hs1 (by omega)))
      | (rw [rb_c (w := 2) hz (by omega) ho, ← e1]; exact SrQ_code q44 hC hG4 n44 (by omega) hnn h183 (rdg_code he hz1 hs1 (by omega)))
      | (rw [rb_14 hz ho, ← e1]; exact SrQ_set (by omega) q44 hP1 hG4 h200.1 h200.2.1 h200.2.2)
      | (rw [rb_15 hz ho, ← e1]; exact SrQ_set (by omega) q44 hP1 hG4 h218.1 h218.2.1 h218.2.2)
      | (rw [rb_16 hz hs ho, ← e1]; exact SrQ_set (by omega) q44 hP1 hG4 h235.1 h235.2.1 h235.2.2)
      | exact SrQ_bad h250.1 (hP1.fail (by decide)) (by rw [hrb.1, mFail_z hz1]) (by rw [hrb.2, mFail_z hz1]) (by rw [hrb.1]; decide) (q44.trans h250.2) hG.o hL
    have hti : ∀ n, n < 39 → ¬ o = some n → ¬ (opI o).toInt = (n : Int) := fun n a b => opI_ti ho39 a b
    rcases opI_tr ho39 with hm | ⟨w, hw, hm⟩
    · exact C.tableOut 244 dX3_readStatement_48 (Or.inl (by rw [hm]; decide)) rfl dflt
    · by_cases hin : 3 ≤ w ∧ w ≤ 16
      · have hw2 : w = 5 ∨ w = 6 ∨ w = 8 ∨ w = 9 ∨ w = 10 := by
          rcases (show w = 3 ∨ w = 4 ∨ w = 5 ∨ w = 6 ∨ w = 7 ∨ w = 8 ∨ w = 9 ∨ w = 10 ∨ w = 11 ∨ w = 12 ∨ w = 13 ∨ w = 14 ∨ w = 15 ∨ w = 16 by omega) with y | y | y | y | y | y | y | y | y | y | y | y | y | y <;> subst y <;> first | omega | exact absurd hw (by assumption)
        rcases hw2 with z | z | z | z | z <;> subst z <;> subst hw <;> exact C.tableIn 244 dX3_readStatement_48 (by decide) (by decide) rfl rfl dflt
      · exact C.tableOut 244 dX3_readStatement_48 (by rw [hm]; omega) rfl dflt
  · rw [h10a] at hc13
    have hbt := b_t hc13
    have htoo := rb_too (d := d) hz hs hW (by rw [ho]; exact hbt)
    refine C.aload_n dX3_readStatement_16 0 rfl ?_
    refine C.getO fX3_9 dX3_readStatement_17 hS.o7 hS.r7_0 ?_
    refine C.iconst (nI 5) dX3_readStatement_20 (by decide) ?_
    refine C.aload_n dX3_readStatement_21 0 rfl ?_
    refine C.getO fX3_9 dX3_readStatement_22 hS.o7 hS.r7_0 ?_
    refine C.getI fX3_32 dX3_readStatement_25 hS.o3 ?_
    rw [hfrom]
    refine C.callVV lX3_36 dX3_readStatement_28 (kw_fail hS hR (by decide)) hS.o3 rfl rfl (Nat.le_of_ble_eq_true rfl) (Nat.zero_le _) (Nat.zero_le _) (Nat.le_of_ble_eq_true rfl) (fun μ28 h28 => ?_)
    refine C.vret hq dX3_readStatement_31 ?_
    exact SrQ_bad h28.1 (hP.fail (by decide)) (by rw [htoo.1, mFail_z hz]) (by rw [htoo.2, mFail_z hz]) (by rw [htoo.1]; decide) h28.2 hG.o hL
end KRD
