/-! the reference: see, tells -/

def tlC (h : Hs) (m hr c : Nat) : Nat := (List.range m).countP (fun k => canB h k && decide (rK h k hr = c))
def tlN (h : Hs) (m : Nat) : Nat := (List.range m).countP (fun k => canB h k)
def mxF (f : Nat → Nat) : Nat → Nat
  | 0 => 0
  | n + 1 => max (mxF f n) (f n)
def hrS (f : Nat → Nat) (a : Option Nat × Nat) (hr : Nat) : Option Nat × Nat := if a.1 ≠ none ∧ a.2 ≤ f hr then a else (some hr, f hr)
def hrL (f : Nat → Nat) : Nat → Nat → Option Nat × Nat → Option Nat × Nat
  | 0, _, a => a
  | n + 1, k, a => hrL f n (k + 1) (hrS f a k)
def tellM (h : Hs) (hr : Nat) : Nat := mxF (tlC h ((ldH h).1.1 * (ldH h).1.2.1) hr) 49
def tellR (h : Hs) : Option Nat × Nat := if 0 < tlN h ((ldH h).1.1 * (ldH h).1.2.1) then hrL (tellM h) 12 0 (none, 0) else (none, 0)
def tellsA (h : Hs) (x : Int32) : Int32 := if 0 < (ldH h).1.1 then (match inN x 2 with
  | some j => (match (tellR h).1 with
    | none => -1
    | some b => if j = 0 then nI b else nI (tellR h).2)
  | none => -1) else -1
section TLP
theorem cnt_succ {f : Nat → Bool} {m : Nat} : (List.range (m + 1)).countP f = (List.range m).countP f + (if f m then 1 else 0) := by
  rw [List.range_succ, List.countP_append]
  simp [List.countP_cons]
theorem cnt_le {f : Nat → Bool} {m : Nat} : (List.range m).countP f ≤ m := by
  have := List.countP_le_length (p := f) (l := List.range m)
  simpa using this
theorem mxF_le {f : Nat → Nat} {b : Nat} (h : ∀ c, f c ≤ b) : ∀ n, mxF f n ≤ b
  | 0 => Nat.zero_le _
  | n + 1 => by unfold mxF; have := mxF_le h n; have := h n; omega
end TLP
section KTL
variable {l : Launch} {G : Gm} {μ : Mm} {h : Hs}
/-- the ride is laid, the classes may have changed -/
def TmT (μ μ' : Mm) : Prop := μ'.2.2 = μ.2.2 ∧ (∀ a k, ¬ (a = 179 ∧ pW k) → a ≠ 228 → a ≠ 231 → mI μ' a k = mI μ a k) ∧ (∀ a k, a ≠ 257 → mL μ' a k = mL μ a k)
theorem RefRel.tmT {μ' : Mm} (hR : RefRel μ h) (t : TmT μ μ') : PR μ h μ' := ⟨hR.of t.1 (fun a k q => t.2.1 a k (fun z => by unfold KpI at q; unfold pW at z; omega) (by unfold KpI at q; omega) (by unfold KpI at q; omega)) (fun k _ => t.2.2 217 k (by decide)) (t.2.2 179 78 (by decide)), ⟨t.1, fun a k q => ⟨t.2.1 a k (by omega) (by omega) (by omega), t.2.2 a k (by omega)⟩⟩⟩
theorem TmT.r {μ' μ'' : Mm} (t : TmT μ μ') (t2 : TmR μ' μ'') : TmT μ μ'' := ⟨t2.1.trans t.1, fun a k q q2 q3 => (t2.2.1 a k q q2).trans (t.2.1 a k q q2 q3), fun a k q => (t2.2.2 a k q).trans (t.2.2 a k q)⟩
theorem TmT.st {μ' : Mm} (t : TmT μ μ') (k : Nat) (v : Int32) : TmT μ (sI μ' 231 k v) := ⟨t.1, fun a j q q2 q3 => by rw [mI_sI, if_neg (fun z => q3 z.1)]; exact t.2.1 a j q q2 q3, t.2.2⟩
theorem TmT.refl : TmT μ μ := ⟨rfl, fun _ _ _ _ _ => rfl, fun _ _ _ => rfl⟩
theorem kr_tells (hR : RefRel μ h) (hH : HOk h) (x : Int32) : AMet l G 7 0 0 mtX13_tells [.ref (G.1 + 179), .int x] μ (qI (fun z μ' => z = tellsA h x ∧ PR μ h μ')) := by
  refine AMet.of (by decide) (Nat.le_of_ble_eq_true rfl) (fun X C hX hnm hq => ?_)
  have hS := hR.1.1
  have sm := hH.1.1.sm
  have h57 := hR.2.2.2.2.1.2
  unfold tellsA at hq
  by_cases hp : 0 < (ldH h).1.1
  · rw [if_pos hp] at h57 hq
    have hW := hH.1.1.w1 hp
    have hM : (ldH h).1.1 * (ldH h).1.2.1 ≤ 49 := Nat.mul_le_mul sm.1 sm.2.1
    have m19 : ∀ j0 : Nat, inN x 2 = some j0 → j0 < 2 → AW l G X 0 0 19 [(0, .ref (G.1 + 179)), (1, .int (nI j0))] [] μ := by
      intro j0 hin hj0
      rw [hin] at hq
      dsimp only at hq
      unfold tellR at hq
      generalize hMM : (ldH h).1.1 * (ldH h).1.2.1 = M at *
      have hN49 : tlN h M ≤ 49 := Nat.le_trans cnt_le hM
      have hC49 : ∀ m hr c, m ≤ M → tlC h m hr c ≤ 49 := fun m hr c q => Nat.le_trans cnt_le (by omega)
      have hT49 : ∀ hr, tellM h hr ≤ 49 := fun hr => mxF_le (fun c => by rw [hMM]; exact hC49 M hr c (Nat.le_refl _)) 49
      -- the end
      have fin : ∀ (a : Option Nat × Nat) (μ1 : Mm) (n0 : Nat) (x5 : Int32), (if 0 < tlN h M then hrL (tellM h) 12 0 (none, 0) else (none, 0)) = a → (∀ z, a.1 = some z → z < 12) → TmT μ μ1 → AW l G X 0 0 238 [(0, .ref (G.1 + 179)), (1, .int (nI j0)), (2, .int (nI n0)), (3, .int (opI a.1)), (4, .int (nI a.2)), (5, .int x5)] [] μ1 := by
        intro a μ1 n0 x5 ha hb hT
        rw [ha] at hq
        obtain ⟨b, fw⟩ := a
        dsimp only at *
        cases b with
        | none =>
          refine C.iload_n dX13_tells_238 3 rfl ?_
          refine C.iconst (-1) dX13_tells_239 (by decide) ?_
          refine C.icmp_ne 247 dX13_tells_240 rfl (fun hc240 => ?_) (fun hc240 => ?_)
          · exact absurd rfl hc240
          · refine C.iconst (-1) dX13_tells_243 (by decide) ?_
            refine C.goto 257 dX13_tells_244 rfl ?_
            refine C.iret hq dX13_tells_257 ?_
            exact ⟨rfl, hR.tmT hT⟩
        | some b =>
          have b12 := hb b rfl
          change AW l G X 0 0 238 [(0, .ref (G.1 + 179)), (1, .int (nI j0)), (2, .int (nI n0)), (3, .int (nI b)), (4, .int (nI fw)), (5, .int x5)] [] μ1
          refine C.iload_n dX13_tells_238 3 rfl ?_
          refine C.iconst (-1) dX13_tells_239 (by decide) ?_
          refine C.icmp_ne 247 dX13_tells_240 rfl (fun hc240 => ?_) (fun hc240 => ?_)
          · refine C.iload_n dX13_tells_247 1 rfl ?_
            refine C.if_ne 255 dX13_tells_248 rfl (fun hc248 => ?_) (fun hc248 => ?_)
            · have e0 : ¬ j0 = 0 := fun q => hc248 (by rw [q]; rfl)
              refine C.iload dX13_tells_255 4 rfl ?_
              refine C.iret hq dX13_tells_257 ?_
              first | exact ⟨(if_pos e0).symm, hR.tmT hT⟩ | exact ⟨(if_neg e0).symm, hR.tmT hT⟩
            · have e0 : j0 = 0 := n_eq (b := 0) hc248
              refine C.iload_n dX13_tells_251 3 rfl ?_
              refine C.goto 257 dX13_tells_252 rfl ?_
              refine C.iret hq dX13_tells_257 ?_
              first | exact ⟨(if_pos e0).symm, hR.tmT hT⟩ | exact ⟨(if_neg e0).symm, hR.tmT hT⟩
          · exact absurd hc240 (n_m1 (by omega))
      -- hours
      have hours : ∀ (j hr : Nat) (a : Option Nat × Nat) (μ1 : Mm), hr + j = 12 → hrL (tellM h) j hr a = hrL (tellM h) 12 0 (none, 0) → 0 < tlN h M → (∀ z, a.1 = some z → z < 12) → a.2 ≤ 49 → TmT μ μ1 → (∀ hr c, hr < 12 → c < 49 → mI μ1 231 (49 * hr + c) = nI (tlC h M hr c)) → AW l G X 0 0 147 [(0, .ref (G.1 + 179)), (1, .int (nI j0)), (2, .int (nI (tlN h M))), (3, .int (opI a.1)), (4, .int (nI a.2)), (5, .int (nI hr))] [] μ1 := by
        intro j
        induction j with
        | zero =>
          intro hr a μ1 hj hv hn hb hf hT hcs
          refine C.iload dX13_tells_147 5 rfl ?_
          refine C.bipush (nI 12) dX13_tells_149 (by decide) ?_
          refine C.icmp_ge 238 dX13_tells_151 rfl (fun hc151 => ?_) (fun hc151 => ?_)
          · exact fin a μ1 _ _ (by rw [if_pos hn]; exact hv.symm) hb hT
          · have := n_nle (a := 12) (b := hr) hc151; omega
        | succ j ih =>
          intro hr a μ1 hj hv hn hb hf hT hcs
          have hS : ShM μ1 := hS.of hT.1
          unfold hrL at hv
          have nxt : ∀ (a2 : Option Nat × Nat) (x6 x7 : Int32), a2 = hrS (tellM h) a hr → (∀ z, a2.1 = some z → z < 12) → a2.2 ≤ 49 → AW l G X 0 0 232 [(0, .ref (G.1 + 179)), (1, .int (nI j0)), (2, .int (nI (tlN h M))), (3, .int (opI a2.1)), (4, .int (nI a2.2)), (5, .int (nI hr)), (6, .int x6), (7, .int x7)] [] μ1 := by
            intro a2 x6 x7 e1 e2 e3
            subst e1
            refine C.iinc (lv' := [(0, _), (1, _), (2, _), (3, _), (4, _), (5, _), (6, _), (7, _)]) _ dX13_tells_232 5 rfl rfl (nLt hX rfl) rfl ?_
            refine C.goto 147 dX13_tells_235 rfl ?_
            have hgo := ih (hr + 1) _ μ1 (by omega) hv hn e2 e3 hT hcs
            rw [← nI_1] at hgo
            exact AW.pick [0, 1, 2, 3, 4, 5] rfl hgo
          have m210 : ∀ x7 : Int32, AW l G X 0 0 210 [(0, .ref (G.1 + 179)), (1, .int (nI j0)), (2, .int (nI (tlN h M))), (3, .int (opI a.1)), (4, .int (nI a.2)), (5, .int (nI hr)), (6, .int (nI (tellM h hr))), (7, .int x7)] [] μ1 := by
            intro x7
            have ht := hT49 hr
            obtain ⟨b, fw⟩ := a
            dsimp only at *
            cases b with
            | none =>
              refine C.iload_n dX13_tells_210 3 rfl ?_
              refine C.iconst (-1) dX13_tells_211 (by decide) ?_
              refine C.icmp_eq 225 dX13_tells_212 rfl (fun hc212 => ?_) (fun hc212 => ?_)
              · refine C.iload dX13_tells_225 5 rfl ?_
                refine C.istore_n (lv' := [(0, _), (1, _), (2, _), (3, _), (4, _), (5, _), (6, _), (7, _)]) dX13_tells_227 (nLt hX rfl) rfl ?_
                refine C.iload dX13_tells_228 6 rfl ?_
                refine C.istore (lv' := [(0, _), (1, _), (2, _), (3, _), (4, _), (5, _), (6, _), (7, _)]) dX13_tells_230 (nLt hX rfl) rfl ?_
                exact nxt (some hr, tellM h hr) _ _ (by unfold hrS; rw [if_neg (fun q => q.1 rfl)]) (fun z q => by have := Option.some.inj q; omega) ht
              · exact absurd rfl hc212
            | some b =>
              have b12 := hb b rfl
              change AW l G X 0 0 210 [(0, .ref (G.1 + 179)), (1, .int (nI j0)), (2, .int (nI (tlN h M))), (3, .int (nI b)), (4, .int (nI fw)), (5, .int (nI hr)), (6, .int (nI (tellM h hr))), (7, .int x7)] [] μ1
              refine C.iload_n dX13_tells_210 3 rfl ?_
              refine C.iconst (-1) dX13_tells_211 (by decide) ?_
              refine C.icmp_eq 225 dX13_tells_212 rfl (fun hc212 => ?_) (fun hc212 => ?_)
              · exact absurd hc212 (n_m1 (by omega))
              · refine C.iload dX13_tells_215 6 rfl ?_
                refine C.iload dX13_tells_217 4 rfl ?_
                refine C.icmp_lt 225 dX13_tells_219 rfl (fun hc219 => ?_) (fun hc219 => ?_)
                · have hlt := n_lt (a := tellM h hr) (b := fw) hc219
                  refine C.iload dX13_tells_225 5 rfl ?_
                  refine C.istore_n (lv' := [(0, _), (1, _), (2, _), (3, _), (4, _), (5, _), (6, _), (7, _)]) dX13_tells_227 (nLt hX rfl) rfl ?_
                  refine C.iload dX13_tells_228 6 rfl ?_
                  refine C.istore (lv' := [(0, _), (1, _), (2, _), (3, _), (4, _), (5, _), (6, _), (7, _)]) dX13_tells_230 (nLt hX rfl) rfl ?_
                  exact nxt (some hr, tellM h hr) _ _ (by unfold hrS; rw [if_neg (fun q => by have := q.2; dsimp only at this; omega)]) (fun z q => by have := Option.some.inj q; omega) ht
                · have hge := n_nlt (a := tellM h hr) (b := fw) hc219
                  refine C.goto 232 dX13_tells_222 rfl ?_
                  exact nxt (some b, fw) _ _ (by unfold hrS; rw [if_pos ⟨(by simp), hge⟩]) hb hf
          have inner : ∀ (i c : Nat), c + i = 49 → AW l G X 0 0 164 [(0, .ref (G.1 + 179)), (1, .int (nI j0)), (2, .int (nI (tlN h M))), (3, .int (opI a.1)), (4, .int (nI a.2)), (5, .int (nI hr)), (6, .int (nI (mxF (tlC h M hr) c))), (7, .int (nI c))] [] μ1 := by
            intro i
            induction i with
            | zero =>
              intro c hc
              refine C.iload dX13_tells_164 7 rfl ?_
              refine C.bipush (nI 49) dX13_tells_166 (by decide) ?_
              refine C.icmp_ge 210 dX13_tells_168 rfl (fun hc168 => ?_) (fun hc168 => ?_)
              · have hgo := m210 (nI c)
                unfold tellM at hgo
                rw [hMM] at hgo
                rw [show c = 49 by omega] at *
                exact hgo
              · have := n_nle (a := 49) (b := c) hc168; omega
            | succ i ihc =>
              intro c hc
              have hx1 := hcs hr c (by omega) (by omega)
              have hx2 := hC49 M hr c (Nat.le_refl _)
              have hx3 := mxF_le (fun c => hC49 M hr c (Nat.le_refl _)) c
              have hgo := ihc (c + 1) (by omega)
              unfold mxF at hgo
              refine C.iload dX13_tells_164 7 rfl ?_
              refine C.bipush (nI 49) dX13_tells_166 (by decide) ?_
              refine C.icmp_ge 210 dX13_tells_168 rfl (fun hc168 => ?_) (fun hc168 => ?_)
              · have := n_le (a := 49) (b := c) hc168; omega
              · refine C.aload_n dX13_tells_171 0 rfl ?_
                refine C.getA fX13_173 dX13_tells_172 hS.o hS.r74 ?_
                refine C.bipush (nI 49) dX13_tells_175 (by decide) ?_
                refine C.iload dX13_tells_177 5 rfl ?_
                refine C.imul dX13_tells_179 ?_
                rw [pk_mul]
                refine C.iload dX13_tells_180 7 rfl ?_
                refine C.iadd dX13_tells_182 ?_
                rw [nI_add]
                refine C.iald hS.a74 (n_in (by omega)) dX13_tells_183 ?_
                rw [n_cl, hx1]
                refine C.iload dX13_tells_184 6 rfl ?_
                refine C.icmp_le 204 dX13_tells_186 rfl (fun hc186 => ?_) (fun hc186 => ?_)
                · have hle := n_le (a := tlC h M hr c) (b := mxF (tlC h M hr) c) hc186
                  rw [Nat.max_eq_left hle] at hgo
                  refine C.iinc (lv' := [(0, _), (1, _), (2, _), (3, _), (4, _), (5, _), (6, _), (7, _)]) _ dX13_tells_204 7 rfl rfl (nLt hX rfl) rfl ?_
                  refine C.goto 164 dX13_tells_207 rfl ?_
                  rw [← nI_1] at hgo
                  exact hgo
                · have hlt := n_nle (a := tlC h M hr c) (b := mxF (tlC h M hr) c) hc186
                  rw [Nat.max_eq_right (by omega)] at hgo
                  refine C.aload_n dX13_tells_189 0 rfl ?_
                  refine C.getA fX13_173 dX13_tells_190 hS.o hS.r74 ?_
                  refine C.bipush (nI 49) dX13_tells_193 (by decide) ?_
                  refine C.iload dX13_tells_195 5 rfl ?_
                  refine C.imul dX13_tells_197 ?_
                  rw [pk_mul]
                  refine C.iload dX13_tells_198 7 rfl ?_
                  refine C.iadd dX13_tells_200 ?_
                  rw [nI_add]
                  refine C.iald hS.a74 (n_in (by omega)) dX13_tells_201 ?_
                  rw [n_cl, hx1]
                  refine C.istore (lv' := [(0, _), (1, _), (2, _), (3, _), (4, _), (5, _), (6, _), (7, _)]) dX13_tells_202 (nLt hX rfl) rfl ?_
                  refine C.iinc (lv' := [(0, _), (1, _), (2, _), (3, _), (4, _), (5, _), (6, _), (7, _)]) _ dX13_tells_204 7 rfl rfl (nLt hX rfl) rfl ?_
                  refine C.goto 164 dX13_tells_207 rfl ?_
                  rw [← nI_1] at hgo
                  exact hgo
          refine C.iload dX13_tells_147 5 rfl ?_
          refine C.bipush (nI 12) dX13_tells_149 (by decide) ?_
          refine C.icmp_ge 238 dX13_tells_151 rfl (fun hc151 => ?_) (fun hc151 => ?_)
          · have := n_le (a := 12) (b := hr) hc151; omega
          · refine C.iload_n dX13_tells_154 2 rfl ?_
            refine C.if_le 238 dX13_tells_155 rfl (fun hc155 => ?_) (fun hc155 => ?_)
            · have := n_le (a := tlN h M) (b := 0) hc155; omega
            · refine C.iconst (nI 0) dX13_tells_158 (by decide) ?_
              refine C.istore (lv' := [(0, _), (1, _), (2, _), (3, _), (4, _), (5, _), (6, _)]) dX13_tells_159 (nLt hX rfl) rfl ?_
              refine C.iconst (nI 0) dX13_tells_161 (by decide) ?_
              refine C.istore (lv' := [(0, _), (1, _), (2, _), (3, _), (4, _), (5, _), (6, _), (7, _)]) dX13_tells_162 (nLt hX rfl) rfl ?_
              exact inner 49 0 (by omega)
      -- cells
      have cells : ∀ (j k : Nat) (μ1 : Mm), k + j = M → TmT μ μ1 → (∀ hr c, hr < 12 → c < 49 → mI μ1 231 (49 * hr + c) = nI (tlC h k hr c)) → AW l G X 0 0 45 [(0, .ref (G.1 + 179)), (1, .int (nI j0)), (2, .int (nI (tlN h k))), (3, .int (nI k))] [] μ1 := by
        intro j
        induction j with
        | zero =>
          intro k μ1 hk hT hcs
          have hR1 := (hR.tmT hT).1
          have hS := hR1.1.1
          have hL := hR1.2.2.2.2.1.1
          have g3 : mI μ1 215 3 = nI (ldH h).1.1 := hL.1.1.1
          have g4 : mI μ1 215 4 = nI (ldH h).1.2.1 := hL.1.1.2.1
          have hkM : k = M := by omega
          subst hkM
          refine C.iload_n dX13_tells_45 3 rfl ?_
          refine C.aload_n dX13_tells_46 0 rfl ?_
          refine C.getA fX13_120 dX13_tells_47 hS.o hS.r45 ?_
          refine C.iconst (nI 3) dX13_tells_50 (by decide) ?_
          refine C.iald hS.a45 (n_in (by decide)) dX13_tells_51 ?_
          rw [n_cl, g3]
          refine C.aload_n dX13_tells_52 0 rfl ?_
          refine C.getA fX13_120 dX13_tells_53 hS.o hS.r45 ?_
          refine C.iconst (nI 4) dX13_tells_56 (by decide) ?_
          refine C.iald hS.a45 (n_in (by decide)) dX13_tells_57 ?_
          rw [n_cl, g4]
          refine C.imul dX13_tells_58 ?_
          rw [pk_mul, hMM]
          refine C.icmp_ge 139 dX13_tells_59 rfl (fun hc59 => ?_) (fun hc59 => ?_)
          · refine C.iconst (-1) dX13_tells_139 (by decide) ?_
            refine C.istore_n (lv' := [(0, _), (1, _), (2, _), (3, _)]) dX13_tells_140 (nLt hX rfl) rfl ?_
            refine C.iconst (nI 0) dX13_tells_141 (by decide) ?_
            refine C.istore (lv' := [(0, _), (1, _), (2, _), (3, _), (4, _)]) dX13_tells_142 (nLt hX rfl) rfl ?_
            refine C.iconst (nI 0) dX13_tells_144 (by decide) ?_
            refine C.istore (lv' := [(0, _), (1, _), (2, _), (3, _), (4, _), (5, _)]) dX13_tells_145 (nLt hX rfl) rfl ?_
            by_cases hn : 0 < tlN h k
            · exact hours 12 0 (none, 0) μ1 (by omega) rfl hn (fun z q => by cases q) (Nat.zero_le _) hT hcs
            · refine C.iload dX13_tells_147 5 rfl ?_
              refine C.bipush (nI 12) dX13_tells_149 (by decide) ?_
              refine C.icmp_ge 238 dX13_tells_151 rfl (fun hc151 => ?_) (fun hc151 => ?_)
              · exact absurd hc151 (by decide)
              · refine C.iload_n dX13_tells_154 2 rfl ?_
                refine C.if_le 238 dX13_tells_155 rfl (fun hc155 => ?_) (fun hc155 => ?_)
                · exact fin (none, 0) μ1 _ _ (by rw [if_neg hn]) (fun z q => by cases q) hT
                · have := n_nle (a := tlN h k) (b := 0) hc155; omega
          · have := n_nle hc59; omega
        | succ j ih =>
          intro k μ1 hk hT hcs
          have hPR := hR.tmT hT
          have hR1 := hPR.1
          have hS := hR1.1.1
          have hL := hR1.2.2.2.2.1.1
          have g3 : mI μ1 215 3 = nI (ldH h).1.1 := hL.1.1.1
          have g4 : mI μ1 215 4 = nI (ldH h).1.2.1 := hL.1.1.2.1
          have hkM : k < (ldH h).1.1 * (ldH h).1.2.1 := by omega
          have nxt : ∀ μ2 : Mm, TmT μ μ2 → (∀ hr c, hr < 12 → c < 49 → mI μ2 231 (49 * hr + c) = nI (tlC h (k + 1) hr c)) → AW l G X 0 0 133 [(0, .ref (G.1 + 179)), (1, .int (nI j0)), (2, .int (nI (tlN h (k + 1)))), (3, .int (nI k))] [] μ2 := by
            intro μ2 e1 e2
            refine C.iinc (lv' := [(0, _), (1, _), (2, _), (3, _)]) _ dX13_tells_133 3 rfl rfl (nLt hX rfl) rfl ?_
            refine C.goto 45 dX13_tells_136 rfl ?_
            have hgo := ih (k + 1) μ2 (by omega) e1 e2
            rw [show Value.int (nI (k + 1)) = Value.int (nI k + 1) by rw [nI_1]] at hgo
            exact hgo
          have n1 : tlN h (k + 1) = tlN h k + (if canB h k then 1 else 0) := cnt_succ
          have c1 : ∀ hr c, tlC h (k + 1) hr c = tlC h k hr c + (if canB h k && decide (rK h k hr = c) then 1 else 0) := fun hr c => cnt_succ
          have add : ∀ (i hr : Nat) (μ2 : Mm), hr + i = 12 → canB h k = true → TmT μ μ2 → (∀ i, i < 12 → mI μ2 228 i = nI (rK h k i) ∧ rK h k i < 49) → (∀ g c, g < 12 → c < 49 → mI μ2 231 (49 * g + c) = nI (if g < hr then tlC h (k + 1) g c else tlC h k g c)) → AW l G X 0 0 98 [(0, .ref (G.1 + 179)), (1, .int (nI j0)), (2, .int (nI (tlN h (k + 1)))), (3, .int (nI k)), (4, .int (nI hr))] [] μ2 := by
            intro i
            induction i with
            | zero =>
              intro hr μ2 hh hz hT2 hri hc2
              refine C.iload dX13_tells_98 4 rfl ?_
              refine C.bipush (nI 12) dX13_tells_100 (by decide) ?_
              refine C.icmp_ge 133 dX13_tells_102 rfl (fun hc102 => ?_) (fun hc102 => ?_)
              · refine AW.pick [0, 1, 2, 3] rfl (nxt μ2 hT2 (fun g c hg hc => ?_))
                rw [hc2 g c hg hc, if_pos (by omega)]
              · have := n_nle (a := 12) (b := hr) hc102; omega
            | succ i ihh =>
              intro hr μ2 hh hz hT2 hri hc2
              have hS : ShM μ2 := hS.of (hT2.1.trans hT.1.symm)
              obtain ⟨r1, r2⟩ := hri hr (by omega)
              have hcur := hc2 hr (rK h k hr) (by omega) r2
              rw [if_neg (by omega)] at hcur
              refine C.iload dX13_tells_98 4 rfl ?_
              refine C.bipush (nI 12) dX13_tells_100 (by decide) ?_
              refine C.icmp_ge 133 dX13_tells_102 rfl (fun hc102 => ?_) (fun hc102 => ?_)
              · have := n_le (a := 12) (b := hr) hc102; omega
              · refine C.aload_n dX13_tells_105 0 rfl ?_
                refine C.getA fX13_173 dX13_tells_106 hS.o hS.r74 ?_
                refine C.bipush (nI 49) dX13_tells_109 (by decide) ?_
                refine C.iload dX13_tells_111 4 rfl ?_
                refine C.imul dX13_tells_113 ?_
                rw [pk_mul]
                refine C.aload_n dX13_tells_114 0 rfl ?_
                refine C.getA fX13_160 dX13_tells_115 hS.o hS.r65 ?_
                refine C.iload dX13_tells_118 4 rfl ?_
                refine C.iald hS.a65 (n_in (by omega)) dX13_tells_120 ?_
                rw [n_cl, r1]
                refine C.iadd dX13_tells_121 ?_
                rw [nI_add]
                refine C.dup2 dX13_tells_122 rfl rfl ?_
                refine C.iald hS.a74 (n_in (by omega)) dX13_tells_123 ?_
                rw [n_cl, hcur]
                refine C.iconst (nI 1) dX13_tells_124 (by decide) ?_
                refine C.iadd dX13_tells_125 ?_
                rw [nI_add]
                refine C.iast hS.a74 (n_in (by omega)) dX13_tells_126 ?_
                rw [n_cl]
                refine C.iinc (lv' := [(0, _), (1, _), (2, _), (3, _), (4, _)]) _ dX13_tells_127 4 rfl rfl (nLt hX rfl) rfl ?_
                refine C.goto 98 dX13_tells_130 rfl ?_
                have hgo := ihh (hr + 1) (sI μ2 231 (49 * hr + rK h k hr) (nI (tlC h k hr (rK h k hr) + 1))) (by omega) hz (hT2.st _ _) (fun i hi => ⟨by rw [mI_sI, if_neg (by omega)]; exact (hri i hi).1, (hri i hi).2⟩) (fun g c hg hc => by
                  rw [mI_sI]
                  by_cases q : g = hr ∧ c = rK h k hr
                  · obtain ⟨q1, q2⟩ := q
                    subst q1
                    subst q2
                    rw [if_pos ⟨rfl, rfl⟩, if_pos (by omega), c1, hz]
                    simp
                  · rw [if_neg (by omega), hc2 g c hg hc]
                    by_cases q1 : g < hr
                    · rw [if_pos q1, if_pos (by omega)]
                    · by_cases q2 : g = hr
                      · subst q2
                        rw [if_neg (by omega), if_pos (by omega), c1, hz, decide_eq_false (fun z => q ⟨rfl, z.symm⟩)]
                        simp
                      · rw [if_neg q1, if_neg (by omega)])
                rw [show Value.int (nI (hr + 1)) = Value.int (nI hr + 1) by rw [nI_1]] at hgo
                exact hgo
          refine C.iload_n dX13_tells_45 3 rfl ?_
          refine C.aload_n dX13_tells_46 0 rfl ?_
          refine C.getA fX13_120 dX13_tells_47 hS.o hS.r45 ?_
          refine C.iconst (nI 3) dX13_tells_50 (by decide) ?_
          refine C.iald hS.a45 (n_in (by decide)) dX13_tells_51 ?_
          rw [n_cl, g3]
          refine C.aload_n dX13_tells_52 0 rfl ?_
          refine C.getA fX13_120 dX13_tells_53 hS.o hS.r45 ?_
          refine C.iconst (nI 4) dX13_tells_56 (by decide) ?_
          refine C.iald hS.a45 (n_in (by decide)) dX13_tells_57 ?_
          rw [n_cl, g4]
          refine C.imul dX13_tells_58 ?_
          rw [pk_mul, hMM]
          refine C.icmp_ge 139 dX13_tells_59 rfl (fun hc59 => ?_) (fun hc59 => ?_)
          · have := n_le hc59; omega
          · refine C.aload_n dX13_tells_62 0 rfl ?_
            refine C.iload_n dX13_tells_63 3 rfl ?_
            refine C.aload_n dX13_tells_64 0 rfl ?_
            refine C.getA fX13_120 dX13_tells_65 hS.o hS.r45 ?_
            refine C.iconst (nI 3) dX13_tells_68 (by decide) ?_
            refine C.iald hS.a45 (n_in (by decide)) dX13_tells_69 ?_
            rw [n_cl, g3]
            refine C.irem dX13_tells_70 (fun q => by have := n_eq (a := (ldH h).1.1) (b := 0) q; omega) ?_
            rw [pk_rem (by omega) hp (by omega)]
            refine C.bipush (nI 7) dX13_tells_71 (by decide) ?_
            refine C.iload_n dX13_tells_73 3 rfl ?_
            refine C.aload_n dX13_tells_74 0 rfl ?_
            refine C.getA fX13_120 dX13_tells_75 hS.o hS.r45 ?_
            refine C.iconst (nI 3) dX13_tells_78 (by decide) ?_
            refine C.iald hS.a45 (n_in (by decide)) dX13_tells_79 ?_
            rw [n_cl, g3]
            refine C.idiv dX13_tells_80 (fun q => by have := n_eq (a := (ldH h).1.1) (b := 0) q; omega) ?_
            rw [pk_div (by omega) hp (by omega)]
            refine C.imul dX13_tells_81 ?_
            rw [pk_mul]
            refine C.iadd dX13_tells_82 ?_
            rw [nI_add]
            refine C.callVI lX13_585 dX13_tells_83 (kr_canBegin hR1 TmR.refl hH hW hkM) hS.o rfl rfl (Nat.le_of_ble_eq_true rfl) (Nat.zero_le _) (Nat.zero_le _) (Nat.le_of_ble_eq_true rfl) (fun x83 μ83 h83 => ?_)
            obtain ⟨rfl, hT2, hri⟩ := h83
            have hcs2 : ∀ hr c, hr < 12 → c < 49 → mI μ83 231 (49 * hr + c) = nI (tlC h k hr c) := fun hr c a1 a2 => by rw [hT2.2.1 _ _ (by omega) (by decide)]; exact hcs hr c a1 a2
            refine C.if_ne 92 dX13_tells_86 rfl (fun hc86 => ?_) (fun hc86 => ?_)
            · have hz := b_t hc86
              rw [n1, hz, if_pos rfl] at add
              refine C.iinc (lv' := [(0, _), (1, _), (2, _), (3, _)]) _ dX13_tells_92 2 rfl rfl (nLt hX rfl) rfl ?_
              refine C.iconst (nI 0) dX13_tells_95 (by decide) ?_
              refine C.istore (lv' := [(0, _), (1, _), (2, _), (3, _), (4, _)]) dX13_tells_96 (nLt hX rfl) rfl ?_
              have hgo := add 12 0 μ83 (by omega) rfl (hT.r hT2) (hri hz) (fun g c a1 a2 => by rw [hcs2 g c a1 a2, if_neg (by omega)])
              rw [show Value.int (nI (tlN h k + 1)) = Value.int (nI (tlN h k) + 1) by rw [nI_1]] at hgo
              exact hgo
            · have hz := (bI_0 _).mp hc86
              refine C.goto 133 dX13_tells_89 rfl ?_
              have hgo := nxt _ (hT.r hT2) (fun hr c a1 a2 => by rw [hcs2 hr c a1 a2, c1, hz]; simp)
              rw [n1, hz, if_neg (by decide), Nat.add_zero] at hgo
              exact hgo
      have clr : ∀ (j k : Nat) (μ1 : Mm), k + j = 588 → TmT μ μ1 → (∀ i, i < k → mI μ1 231 i = nI 0) → AW l G X 0 0 23 [(0, .ref (G.1 + 179)), (1, .int (nI j0)), (2, .int (nI 0)), (3, .int (nI k))] [] μ1 := by
        intro j
        induction j with
        | zero =>
          intro k μ1 hk hT hz
          refine C.iload_n dX13_tells_23 3 rfl ?_
          refine C.sipush (nI 588) dX13_tells_24 (by decide) ?_
          refine C.icmp_ge 43 dX13_tells_27 rfl (fun hc27 => ?_) (fun hc27 => ?_)
          · refine C.iconst (nI 0) dX13_tells_43 (by decide) ?_
            refine C.istore_n (lv' := [(0, _), (1, _), (2, _), (3, _)]) dX13_tells_44 (nLt hX rfl) rfl ?_
            exact cells M 0 μ1 (by omega) hT (fun hr c a1 a2 => by rw [hz _ (by omega)]; rfl)
          · have := n_nle (a := 588) (b := k) hc27; omega
        | succ j ih =>
          intro k μ1 hk hT hz
          have hS : ShM μ1 := hS.of hT.1
          refine C.iload_n dX13_tells_23 3 rfl ?_
          refine C.sipush (nI 588) dX13_tells_24 (by decide) ?_
          refine C.icmp_ge 43 dX13_tells_27 rfl (fun hc27 => ?_) (fun hc27 => ?_)
          · have := n_le (a := 588) (b := k) hc27; omega
          · refine C.aload_n dX13_tells_30 0 rfl ?_
            refine C.getA fX13_173 dX13_tells_31 hS.o hS.r74 ?_
            refine C.iload_n dX13_tells_34 3 rfl ?_
            refine C.iconst (nI 0) dX13_tells_35 (by decide) ?_
            refine C.iast hS.a74 (n_in (by omega)) dX13_tells_36 ?_
            rw [n_cl]
            refine C.iinc (lv' := [(0, _), (1, _), (2, _), (3, _)]) _ dX13_tells_37 3 rfl rfl (nLt hX rfl) rfl ?_
            refine C.goto 23 dX13_tells_40 rfl ?_
            have hgo := ih (k + 1) (sI μ1 231 k (nI 0)) (by omega) (hT.st _ _) (fun i hi => by rw [mI_sI]; by_cases q : i = k; rw [if_pos ⟨rfl, q⟩]; rw [if_neg (by omega)]; exact hz i (by omega))
            rw [← nI_1] at hgo
            exact hgo
      refine C.iconst (nI 0) dX13_tells_19 (by decide) ?_
      refine C.istore_n (lv' := [(0, _), (1, _), (2, _)]) dX13_tells_20 (nLt hX rfl) rfl ?_
      refine C.iconst (nI 0) dX13_tells_21 (by decide) ?_
      refine C.istore_n (lv' := [(0, _), (1, _), (2, _), (3, _)]) dX13_tells_22 (nLt hX rfl) rfl ?_
      exact clr 588 0 μ (by omega) TmT.refl (fun i hi => by omega)
    refine C.aload_n dX13_tells_0 0 rfl ?_
    refine C.getZ fX13_403 dX13_tells_1 hS.o ?_
    rw [h57]
    refine C.if_eq 17 dX13_tells_4 rfl (fun hc4 => ?_) (fun hc4 => ?_)
    · exact absurd hc4 (by decide)
    · refine C.iload_n dX13_tells_7 1 rfl ?_
      refine C.i2l dX13_tells_8 ?_
      refine C.lconst (lN 0) dX13_tells_9 (by decide) ?_
      refine C.lconst (lN 1) dX13_tells_10 (by decide) ?_
      refine C.callSI lX13_307 dX13_tells_11 (km_isIn _ _ _) rfl rfl (Nat.le_of_ble_eq_true rfl) (Nat.zero_le _) (Nat.zero_le _) (Nat.le_of_ble_eq_true rfl) (fun x11 μ11 h11 => ?_)
      obtain ⟨hx11, hμ⟩ := h11
      subst hμ
      simp only [isIn_c (n := 1) (by decide)] at hx11
      have hi := isIn_f (n := 2) (by decide) hx11
      refine C.if_ne 19 dX13_tells_14 rfl (fun hc14 => ?_) (fun hc14 => ?_)
      · obtain ⟨j0, hj0, e, hin⟩ := hi.2 hc14
        have hgo := m19 j0 hin hj0
        rw [← e] at hgo
        exact hgo
      · rw [hi.1 hc14] at hq
        refine C.iconst (-1) dX13_tells_17 (by decide) ?_
        refine C.iret hq dX13_tells_18 ?_
        exact ⟨rfl, PR.self hR⟩
  · rw [if_neg hp] at h57 hq
    refine C.aload_n dX13_tells_0 0 rfl ?_
    refine C.getZ fX13_403 dX13_tells_1 hS.o ?_
    rw [h57]
    refine C.if_eq 17 dX13_tells_4 rfl (fun hc4 => ?_) (fun hc4 => ?_)
    · refine C.iconst (-1) dX13_tells_17 (by decide) ?_
      refine C.iret hq dX13_tells_18 ?_
      exact ⟨rfl, PR.self hR⟩
    · exact absurd rfl hc4
end KTL
