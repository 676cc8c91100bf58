/-! the reference: new names, the land's statements -/

def dk (nm : Nat → Int64) (b n : Nat) (v : Int64) : Bool := (List.range n).any (fun k => decide (nm (b + k) = v))
theorem dk_s (nm : Nat → Int64) (b n : Nat) (v : Int64) : dk nm b (n + 1) v = (dk nm b n v || decide (nm (b + n) = v)) := by
  unfold dk
  rw [List.range_succ, List.any_append]
  simp
def mDup (s : Ps) (b : Bool) : Ps := if b then mFail s (nI 3) s.2.2.2.2.2 else s
theorem mDup_44 (s : Ps) (b : Bool) : (mDup s b).2.2.2.2.2 = s.2.2.2.2.2 := by unfold mDup mFail; cases b <;> simp <;> split <;> rfl
theorem mDup_s (s : Ps) (b c : Bool) : (if (mDup s b).2.2.1 = 0 ∧ c = true then mFail (mDup s b) (nI 3) s.2.2.2.2.2 else mDup s b) = mDup s (b || c) := by
  unfold mDup mFail
  have h3 : ¬ (nI 3 = 0) := by decide
  by_cases h : s.2.2.1 = 0 <;> cases b <;> cases c <;> simp [h, h3]
def mNewN (tx : Nat → Nat) (e : Nat) (s : Ps) (nm : Nat → Int64) (nb nw : Nat) : Nat × Ps := ((mName tx e s).1, mDup (mName tx e s).2 (dk nm 0 nb (lN (mName tx e s).1) || dk nm 6 nw (lN (mName tx e s).1)))
theorem mDup_1 (s : Ps) (b : Bool) : (mDup s b).1 = s.1 := by unfold mDup; cases b <;> simp [mFail_1]
theorem mNewN_le {tx : Nat → Nat} {e : Nat} {s : Ps} (nm : Nat → Int64) (nb nw : Nat) (hp : s.1 ≤ e) : (mNewN tx e s nm nb nw).2.1 ≤ e := by unfold mNewN; dsimp only; rw [mDup_1]; exact mName_le hp
theorem mCell_le {tx : Nat → Nat} {e : Nat} {s : Ps} (sx sy : Int32) (hp : s.1 ≤ e) : (mCell tx e s sx sy).2.1 ≤ e := mNum_le _ _ (mNum_le _ _ hp)
theorem mFull_1 (s : Ps) (a b c : Int32) : (mFull s a b c).1 = s.1 := by unfold mFull; split <;> simp [mFail_1]
theorem pw_mL (μ : Mm) (s : Ps) : mL (pw μ s) = mL μ := rfl
section KM6
variable {l : Launch} {G : Gm} {μ : Mm} {tx : Nat → Nat} {e : Nat}
theorem kp_newName (hS : ShM μ) (hW : WdM μ) (hT : TxM μ tx e) {s : Ps} (hp : s.1 ≤ e) {nb nw : Nat} (hnb : mI μ 216 0 = nI nb) (hnw : mI μ 216 1 = nI nw) (hb5 : nb ≤ 6) (hw6 : nw ≤ 6) : AMet l G 4 0 0 mtX13_newName [.ref (G.1 + 179)] (pw μ s) (qL (fun x μ' => x = lN (mNewN tx e s (mL μ 217) nb nw).1 ∧ μ' = pw μ (mNewN tx e s (mL μ 217) nb nw).2)) := by
  refine AMet.of (by decide) (Nat.le_of_ble_eq_true rfl) (fun X C hX hnm hq => ?_)
  have hS1 := hS
  have hS : ShM (pw μ s) := hS1.pw _
  have r0 : ∀ (s : Ps) (k : Nat), mI (pw μ s) 216 k = mI μ 216 k := fun s k => pw_off _ _ (Or.inl (by decide))
  generalize hr : mName tx e s = r
  have inner : ∀ (kd cnt : Nat), (kd = 0 ∨ kd = 1) → mI μ 216 kd = nI cnt → cnt ≤ 6 → ∀ (b0 : Bool), AW l G X 0 0 65 [(0, .ref (G.1 + 179)), (1, .long (lN r.1)), (3, .int (nI kd)), (4, .int (nI cnt))] [] (pw μ (mDup r.2 (b0 || dk (mL μ 217) (6 * kd) cnt (lN r.1)))) → ∀ (n k : Nat), cnt - k < n → k ≤ cnt → AW l G X 0 0 15 [(0, .ref (G.1 + 179)), (1, .long (lN r.1)), (3, .int (nI kd)), (4, .int (nI k))] [] (pw μ (mDup r.2 (b0 || dk (mL μ 217) (6 * kd) k (lN r.1)))) := by
    intro kd cnt hkd hcnt hc6 b0 hcont n
    induction n with
    | zero => intro k h; omega
    | succ n ih =>
      intro k hn hk
      generalize hsk : mDup r.2 (b0 || dk (mL μ 217) (6 * kd) k (lN r.1)) = s1
      have hS : ShM (pw μ s1) := hS1.pw _
      have nxt : ∀ s2 : Ps, s2 = (if s1.2.2.1 = 0 ∧ decide (mL μ 217 (6 * kd + k) = lN r.1) = true then mFail s1 (nI 3) s1.2.2.2.2.2 else s1) → k < cnt → AW l G X 0 0 59 [(0, .ref (G.1 + 179)), (1, .long (lN r.1)), (3, .int (nI kd)), (4, .int (nI k))] [] (pw μ s2) := by
        intro s2 h2 hlt
        have e1 : s2 = mDup r.2 (b0 || dk (mL μ 217) (6 * kd) (k + 1) (lN r.1)) := by
          rw [h2, ← hsk, mDup_44, mDup_s, dk_s, Bool.or_assoc]
        rw [e1]
        refine C.iinc (lv' := [(0, _), (1, _), (3, _), (4, _)]) _ dX13_newName_59 3 rfl rfl (nLt hX rfl) rfl ?_
        refine C.goto 15 dX13_newName_62 rfl ?_
        have := ih (k + 1) (by omega) (by omega)
        rw [← nI_1] at this
        exact this
      refine C.iload dX13_newName_15 3 rfl ?_
      refine C.aload_n dX13_newName_17 0 rfl ?_
      refine C.getA fX13_123 dX13_newName_18 hS.o hS.r46 ?_
      refine C.iload_n dX13_newName_21 2 rfl ?_
      refine C.iald hS.a46 (n_in (by omega)) dX13_newName_22 ?_
      rw [n_cl, r0, hcnt]
      refine C.icmp_ge 65 dX13_newName_23 rfl (fun hc23 => ?_) (fun hc23 => ?_)
      · have hge := n_le hc23
        have : k = cnt := by omega
        subst this
        rw [← hsk]
        exact hcont
      · have hlt := n_nle hc23
        refine C.aload_n dX13_newName_26 0 rfl ?_
        refine C.getI fX13_264 dX13_newName_27 hS.o ?_
        rw [pw_5]
        refine C.if_ne 59 dX13_newName_30 rfl (fun hc30 => ?_) (fun hc30 => ?_)
        · exact nxt s1 (by rw [if_neg (fun h => hc30 h.1)]) hlt
        · refine C.aload_n dX13_newName_33 0 rfl ?_
          refine C.getA fX13_126 dX13_newName_34 hS.o hS.r47 ?_
          refine C.bipush (nI 6) dX13_newName_37 (by decide) ?_
          refine C.iload_n dX13_newName_39 2 rfl ?_
          refine C.imul dX13_newName_40 ?_
          rw [pk_mul]
          refine C.iload dX13_newName_41 3 rfl ?_
          refine C.iadd dX13_newName_43 ?_
          rw [nI_add]
          refine C.lald hS.a47 (n_in (by omega)) dX13_newName_44 ?_
          refine C.lload_n dX13_newName_45 1 rfl ?_
          rw [n_cl, pw_mL]
          refine C.lcmp dX13_newName_46 ?_
          refine C.if_ne 59 dX13_newName_47 rfl (fun hc47 => ?_) (fun hc47 => ?_)
          · exact nxt s1 (by rw [if_neg (fun h => hc47 (by have := of_decide_eq_true h.2; rw [this]; unfold lg_cmp; simp))]) hlt
          · have heq : mL μ 217 (6 * kd + k) = lN r.1 := by
              by_cases h : mL μ 217 (6 * kd + k) = lN r.1
              · exact h
              · exfalso
                unfold lg_cmp at hc47
                rw [if_neg h] at hc47
                split at hc47 <;> exact absurd hc47 (by decide)
            refine C.aload_n dX13_newName_50 0 rfl ?_
            refine C.iconst (nI 3) dX13_newName_51 (by decide) ?_
            refine C.aload_n dX13_newName_52 0 rfl ?_
            refine C.getI fX13_315 dX13_newName_53 hS.o ?_
            refine C.callVV lX13_294 dX13_newName_56 (kp_fail hS1 _ _ _) hS.o rfl rfl (Nat.le_of_ble_eq_true rfl) (Nat.zero_le _) (Nat.zero_le _) (Nat.le_of_ble_eq_true rfl) (fun μ56 h56 => ?_)
            subst h56
            rw [pw_44]
            exact nxt _ (by rw [if_pos ⟨by simpa using hc30, by simpa using heq⟩]) hlt
  have fin : AW l G X 0 0 71 [(0, .ref (G.1 + 179)), (1, .long (lN r.1)), (3, .int (nI 2))] [] (pw μ (mDup r.2 (dk (mL μ 217) 0 nb (lN r.1) || dk (mL μ 217) 6 nw (lN r.1)))) := by
    refine C.lload_n dX13_newName_71 1 rfl ?_
    refine C.lret hq dX13_newName_72 ?_
    unfold mNewN
    rw [hr]
    exact ⟨rfl, rfl⟩
  have second : AW l G X 0 0 7 [(0, .ref (G.1 + 179)), (1, .long (lN r.1)), (3, .int (nI 1))] [] (pw μ (mDup r.2 (dk (mL μ 217) 0 nb (lN r.1)))) := by
    refine C.iload_n dX13_newName_7 2 rfl ?_
    refine C.iconst (nI 2) dX13_newName_8 (by decide) ?_
    refine C.icmp_ge 71 dX13_newName_9 rfl (fun hc9 => ?_) (fun hc9 => ?_)
    · exact absurd hc9 (by decide)
    · refine C.iconst (nI 0) dX13_newName_12 (by decide) ?_
      refine C.istore (lv' := [(0, _), (1, _), (3, _), (4, _)]) dX13_newName_13 (nLt hX rfl) rfl ?_
      have := inner 1 nw (Or.inr rfl) hnw hw6 (dk (mL μ 217) 0 nb (lN r.1)) ?_ (nw + 1) 0 (by omega) (by omega)
      · have e0 : dk (mL μ 217) (6 * 1) 0 (lN r.1) = false := rfl
        rw [e0, Bool.or_false] at this
        exact this
      · refine C.iinc (lv' := [(0, _), (1, _), (3, _), (4, _)]) _ dX13_newName_65 2 rfl rfl (nLt hX rfl) rfl ?_
        refine C.goto 7 dX13_newName_68 rfl ?_
        refine C.iload_n dX13_newName_7 2 rfl ?_
        refine C.iconst (nI 2) dX13_newName_8 (by decide) ?_
        refine C.icmp_ge 71 dX13_newName_9 rfl (fun hc => ?_) (fun hc => absurd (by decide) hc)
        exact AW.pick [0, 1, 2] rfl fin
  have first : AW l G X 0 0 7 [(0, .ref (G.1 + 179)), (1, .long (lN r.1)), (3, .int (nI 0))] [] (pw μ r.2) := by
    refine C.iload_n dX13_newName_7 2 rfl ?_
    refine C.iconst (nI 2) dX13_newName_8 (by decide) ?_
    refine C.icmp_ge 71 dX13_newName_9 rfl (fun hc9 => ?_) (fun hc9 => ?_)
    · exact absurd hc9 (by decide)
    · refine C.iconst (nI 0) dX13_newName_12 (by decide) ?_
      refine C.istore (lv' := [(0, _), (1, _), (3, _), (4, _)]) dX13_newName_13 (nLt hX rfl) rfl ?_
      have := inner 0 nb (Or.inl rfl) hnb hb5 false ?_ (nb + 1) 0 (by omega) (by omega)
      · have e0 : (false || dk (mL μ 217) (6 * 0) 0 (lN r.1)) = false := rfl
        rw [e0] at this
        exact this
      · refine C.iinc (lv' := [(0, _), (1, _), (3, _), (4, _)]) _ dX13_newName_65 2 rfl rfl (nLt hX rfl) rfl ?_
        refine C.goto 7 dX13_newName_68 rfl ?_
        exact AW.pick [0, 1, 2] rfl second
  refine C.aload_n dX13_newName_0 0 rfl ?_
  refine C.callVL lX13_329 dX13_newName_1 (kp_name hS1 hW hT hp) hS.o rfl rfl (Nat.le_of_ble_eq_true rfl) (Nat.zero_le _) (Nat.zero_le _) (Nat.le_of_ble_eq_true rfl) (fun x1 μ1 h1 => ?_)
  obtain ⟨rfl, rfl⟩ := h1
  rw [hr]
  refine C.lstore_n (lv' := [(0, _), (1, _)]) dX13_newName_4 (nLt hX rfl) rfl ?_
  refine C.iconst (nI 0) dX13_newName_5 (by decide) ?_
  refine C.istore_n (lv' := [(0, _), (1, _), (3, _)]) dX13_newName_6 (nLt hX rfl) rfl ?_
  exact first
end KM6
