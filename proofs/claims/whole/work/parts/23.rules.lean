/-! rules over the memory: fields, arrays, statics -/
section AMR2
variable {l : Launch} {G : Gm} {X : Cx} {cc : ByteArray} {own : String} {d : Nat} {rt : Option FieldType} {bc bs pc : Nat} {lv lv' : List (Nat × Value)} {st : List Value} {μ : Mm}
theorem Cok.getv (C : Cok l G X cc own d rt) {idx c k a : Nat} {ty : FieldType} {fin : Bool} (L : LkF own idx c k ty fin) (hd : decode cc pc = .ok (.getfield idx, 3)) (ho : isO μ a c) (kk : AW l G X bc bs (pc + 3) lv (mF G.1 μ ty a k :: st) μ) : AW l G X bc bs pc lv (.ref (G.1 + a) :: st) μ := by
  intro H locs cells slots ls hR hS hc hs hl
  obtain ⟨Cn, T, hcl, hk, hty, -, hw, hC⟩ := L
  have hlt := mcl_lt hcl
  have hP := hR.one ho.1
  rw [mE_obj ho hlt] at hP
  refine va_get (C := Cn) (T := T) (N := nF c) (ci := c) (ref := (T k).1) C.hx C.hb C.hts (mcl_ok hcl).1 C.hown C.hK.1.1 hP 0 rfl hcl k hk (C.hts _ hw) (fun _ h => h) (v := mF G.1 μ ty a k) ?_ hd (kk H locs cells slots ls hR hS hc hs hl)
  rw [List.getElem?_map, List.getElem?_range hk, ← hty]
  rfl
theorem Cok.getI (C : Cok l G X cc own d rt) {idx c k a : Nat} {fin : Bool} (L : LkF own idx c k .int fin) (hd : decode cc pc = .ok (.getfield idx, 3)) (ho : isO μ a c) (kk : AW l G X bc bs (pc + 3) lv (.int (mI μ a k) :: st) μ) : AW l G X bc bs pc lv (.ref (G.1 + a) :: st) μ := C.getv L hd ho kk
theorem Cok.getZ (C : Cok l G X cc own d rt) {idx c k a : Nat} {fin : Bool} (L : LkF own idx c k .boolean fin) (hd : decode cc pc = .ok (.getfield idx, 3)) (ho : isO μ a c) (kk : AW l G X bc bs (pc + 3) lv (.int (mI μ a k) :: st) μ) : AW l G X bc bs pc lv (.ref (G.1 + a) :: st) μ := C.getv L hd ho kk
theorem Cok.getL (C : Cok l G X cc own d rt) {idx c k a : Nat} {fin : Bool} (L : LkF own idx c k .long fin) (hd : decode cc pc = .ok (.getfield idx, 3)) (ho : isO μ a c) (kk : AW l G X bc bs (pc + 3) lv (.long (mL μ a k) :: st) μ) : AW l G X bc bs pc lv (.ref (G.1 + a) :: st) μ := C.getv L hd ho kk
theorem Cok.getO (C : Cok l G X cc own d rt) {idx c k a : Nat} {n : String} {fin : Bool} (L : LkF own idx c k (.object n) fin) (hd : decode cc pc = .ok (.getfield idx, 3)) (ho : isO μ a c) {r : Nat} (hr : mR μ a k = some r) (kk : AW l G X bc bs (pc + 3) lv (.ref (G.1 + r) :: st) μ) : AW l G X bc bs pc lv (.ref (G.1 + a) :: st) μ := C.getv L hd ho (by
  have e : mF G.1 μ (.object n) a k = .ref (G.1 + r) := by simp [mF, hr, va_rf]
  rw [e]; exact kk)
theorem Cok.getA (C : Cok l G X cc own d rt) {idx c k a : Nat} {t : FieldType} {fin : Bool} (L : LkF own idx c k (.array t) fin) (hd : decode cc pc = .ok (.getfield idx, 3)) (ho : isO μ a c) {r : Nat} (hr : mR μ a k = some r) (kk : AW l G X bc bs (pc + 3) lv (.ref (G.1 + r) :: st) μ) : AW l G X bc bs pc lv (.ref (G.1 + a) :: st) μ := C.getv L hd ho (by
  have e : mF G.1 μ (.array t) a k = .ref (G.1 + r) := by simp [mF, hr, va_rf]
  rw [e]; exact kk)
/-- a store into a field, with the heap's size -/
theorem am_put {p : Program} {l : Launch} {e : Env} {R : Room} {s : State} {m : MethodId} {args : Array Value} {below : List Frame} {meth : Method} {c : Code} {H : Heap} {locs : List Loc} {cells slots : Nat} {Q : State → Prop} {cc : ByteArray} {pc : Nat} {ls : Array Slot} {rest : List Value} {D : va_G} {cl : List vw_C} {a : Nat} {tys : List (ClassId × FieldType)} (hexec : p.tables.exec = Jvm.exec) (hb : c.code = cc) {own C : String} {T : u_T} {N ci index : Nat} {Ts : List Cond} (hts : ∀ w ∈ Ts, w.before args s = true) (hin : ∀ w ∈ u_ws C T N, w ∈ Ts) (ty0 : Nat → FieldType) (hty : ∀ k, k < N → parseFieldDescriptor (T k).2.2.1 = some (ty0 k)) (hnm : ∀ a, a < N → ∀ b, b < N → a ≠ b → (T a).2.1 ≠ (T b).2.1) (hown : s.vm.findClass own = some m.cls) (hK : va_K D cl tys s) {fs : List Value} (hat : va_at D cl (a, .inr (ci, fs)) H) (hc : cl[ci]? = some (C, T, N)) (k : Nat) (hk : k < N) (hlink : (Cond.fieldLink own index (T k).1 (T k).2.1 (T k).2.2.1).before args s = true) (hfin : (T k).2.2.2 = false ∨ (meth.name = "<init>" ∧ (T k).1 = own)) {v : Value} (hn : narrow (ty0 k) v = v) (hfit : fits (ty0 k) v = true) (hl : k < fs.length)
    (hdg : decode cc pc = .ok (.putfield index, 3)) (kk : ∀ (H1 : Heap), va_at D cl (a, .inr (ci, fs.set k v)) H1 → H1.size = H.size → (∀ q : Nat, q ≠ a → H1[q]? = H[q]?) → W p l e R s m args below meth c H1 (locs ++ [⟨a, D.2 ci k⟩]) cells slots Q (F0 m (pc + 3) ls rest)) : W p l e R s m args below meth c H locs cells slots Q (F0 m pc ls (v :: .ref a :: rest)) := by
  have hap := va_apart (own := own) hts hin ty0 hty hnm hK hc
  obtain ⟨r, h1, cell, q1, q2, q3, q4⟩ := hat
  have hr : r = (C, T, N) := Option.some.inj (h1.symm.trans hc)
  subst hr
  obtain ⟨hS, hfc, kC, hkC, hkind⟩ := hK.1 ci _ hc
  obtain ⟨cf, kf, fi, f, hi, hsl⟩ := hS k hk
  have hlay := hts _ (hin _ (u_in_lay hk))
  have hst := (u_facts hfc hkC (u_lays hts hin hk) hi).1
  have fin : ∀ H' : Heap, H'[a]? = some (cell.setSlot f.slot v) → H'.size = H.size → (∀ q, q ≠ a → H'[q]? = H[q]?) → W p l e R s m args below meth c H' (locs ++ [⟨a, f.slot⟩]) cells slots Q (F0 m (pc + 3) ls rest) := by
    intro H' e1 e2 e3
    rw [hsl] at e1 ⊢
    exact kk H' ⟨_, hc, t_OB.to (V := updV (vp_V fs) k v) ⟨_, e1, q2, q3, t_set q4 hap hk v⟩ (fun j _ => vp_updV_set hl v j)⟩ e2 e3
  by_cases hf : (T k).2.2.2 = false
  · unfold u_lay at hlay
    rw [if_neg (by rw [hf]; decide)] at hlay
    have h6 := u_store hfc hkC hkind hlay hi (hty k hk) hn hfit
    exact W.putK hexec hb (f := f) ⟨hown, hlink, ⟨_, _, _, hi⟩, hst⟩ (by rw [q2]; exact h6) q1 q3 (by rw [hsl]; exact k2_hasslot (q4 k hk)) rfl rfl hdg fin
  · obtain ⟨hin2, hdecl⟩ := hfin.resolve_left hf
    have hf' : (T k).2.2.2 = true := by simpa using hf
    unfold u_lay at hlay
    rw [if_pos hf'] at hlay
    have hcf : m.cls = cf := by
      obtain ⟨_, _, c', _, _, _, -, -, hf', -, -, -, hown2, -⟩ := Cond.laysFinal_spec hlay
      have e1 : c' = cf := by have := hi.symm.trans hf'; simp at this; exact this.1.symm
      rw [hdecl] at hown2
      rw [← e1]; exact Option.some.inj (hown.symm.trans hown2)
    have h6 := u_fits hfc hkC hkind (Or.inr hlay) hi (hty k hk) hn hfit
    exact W.putFinK hexec hb hown hlink hi hst hcf hin2 (by rw [q2]; exact h6) q1 q3 (by rw [hsl]; exact k2_hasslot (q4 k hk)) rfl rfl hdg fin
/-- a final field is written in its own class's constructor alone -/
def FinOk (X : Cx) (own : String) (c : Nat) (fin : Bool) : Prop := fin = false ∨ (X.2.1.2.2.2.1.name = "<init>" ∧ (mcl[c]?).map (·.1) = some own)
theorem FinOk.no {X : Cx} {own : String} {c : Nat} : FinOk X own c false := Or.inl rfl
theorem Cok.putv (C : Cok l G X cc own d rt) {idx c k a : Nat} {ty : FieldType} {fin : Bool} {v : Value} {μ' : Mm} (L : LkF own idx c k ty fin) (hf : FinOk X own c fin) (hd : decode cc pc = .ok (.putfield idx, 3)) (ho : isO μ a c) (hn : narrow ty v = v) (hfit : fits ty v = true) (hN : mN μ' = mN μ) (hoff : ∀ b, b ≠ a → mE G μ' b = mE G μ b) (hK : mK μ' a = mK μ a) (hv : ∀ j, mF G.1 μ' (mty c j) a j = if j = k then v else mF G.1 μ (mty c j) a j) (kk : AW l G X bc bs (pc + 3) lv st μ') : AW l G X bc bs pc lv (v :: .ref (G.1 + a) :: st) μ := by
  intro H locs cells slots ls hR hS hc hs hl
  obtain ⟨Cn, T, hcl, hk, hty, hfin, hw, hC⟩ := L
  have hlt := mcl_lt hcl
  have hat := hR.2 a ho.1
  rw [mE_obj ho hlt] at hat
  refine am_put (T := T) (N := nF c) (ci := c) C.hx C.hb C.hts (mcl_ok hcl).1 (mty c) (mcl_ok hcl).2.1 (mcl_ok hcl).2.2 C.hown C.hK.1.1 hat hcl k hk (C.hts _ hw) ?_ (by rw [hty]; exact hn) (by rw [hty]; exact hfit) (by simpa using hk) hd (fun H1 g1 g2 g3 => kk H1 _ cells slots ls (hR.put hN g2 g3 hoff ?_) (hS.put g2 g3 (Nat.le_add_right _ _)) hc hs hl)
  · rcases hf with hf | ⟨hf1, hf2⟩
    · exact Or.inl (by rw [hfin, hf])
    · refine Or.inr ⟨hf1, ?_⟩
      rw [hcl] at hf2
      rw [hC]
      exact Option.some.inj hf2
  · have ho' : isO μ' a c := ⟨by rw [hN]; exact ho.1, by rw [hK]; exact ho.2⟩
    rw [mE_obj ho' hlt, ← rng_set _ _ (nF c) k v (fun j _ => hv j)]
    exact g1
theorem Cok.putI (C : Cok l G X cc own d rt) {idx c k a : Nat} {fin : Bool} {x : Int32} (L : LkF own idx c k .int fin) (hf : FinOk X own c fin) (hd : decode cc pc = .ok (.putfield idx, 3)) (ho : isO μ a c) (kk : AW l G X bc bs (pc + 3) lv st (sI μ a k x)) : AW l G X bc bs pc lv (.int x :: .ref (G.1 + a) :: st) μ := by
  refine C.putv (μ' := sI μ a k x) L hf hd ho rfl rfl rfl (fun b hb => mE_off (sI_off hb) rfl rfl rfl) rfl (fun j => ?_) kk
  obtain ⟨Cn, T, hcl, hk, hty, -⟩ := L
  by_cases hj : j = k
  · subst hj
    rw [hty, if_pos rfl]
    simp [mF, mI, sI]
  · rw [if_neg hj]
    have e : mI (sI μ a k x) a j = mI μ a j := by simp [mI, sI, hj]
    cases mty c j <;> simp only [mF, e] <;> rfl
theorem Cok.putZ (C : Cok l G X cc own d rt) {idx c k a : Nat} {fin : Bool} {x : Int32} (L : LkF own idx c k .boolean fin) (hf : FinOk X own c fin) (hd : decode cc pc = .ok (.putfield idx, 3)) (ho : isO μ a c) (hx : x = 0 ∨ x = 1) (kk : AW l G X bc bs (pc + 3) lv st (sI μ a k x)) : AW l G X bc bs pc lv (.int x :: .ref (G.1 + a) :: st) μ := by
  refine C.putv (μ' := sI μ a k x) L hf hd ho (by rcases hx with rfl | rfl <;> rfl) (by rcases hx with rfl | rfl <;> rfl) rfl (fun b hb => mE_off (sI_off hb) rfl rfl rfl) rfl (fun j => ?_) kk
  obtain ⟨Cn, T, hcl, hk, hty, -⟩ := L
  by_cases hj : j = k
  · subst hj
    rw [hty, if_pos rfl]
    simp [mF, mI, sI]
  · rw [if_neg hj]
    have e : mI (sI μ a k x) a j = mI μ a j := by simp [mI, sI, hj]
    cases mty c j <;> simp only [mF, e] <;> rfl
theorem Cok.putL (C : Cok l G X cc own d rt) {idx c k a : Nat} {fin : Bool} {x : Int64} (L : LkF own idx c k .long fin) (hf : FinOk X own c fin) (hd : decode cc pc = .ok (.putfield idx, 3)) (ho : isO μ a c) (kk : AW l G X bc bs (pc + 3) lv st (sL μ a k x)) : AW l G X bc bs pc lv (.long x :: .ref (G.1 + a) :: st) μ := by
  refine C.putv (μ' := sL μ a k x) L hf hd ho rfl rfl rfl (fun b hb => mE_off rfl (sL_off hb) rfl rfl) rfl (fun j => ?_) kk
  obtain ⟨Cn, T, hcl, hk, hty, -⟩ := L
  by_cases hj : j = k
  · subst hj
    rw [hty, if_pos rfl]
    simp [mF, mL, sL]
  · rw [if_neg hj]
    have e : mL (sL μ a k x) a j = mL μ a j := by simp [mL, sL, hj]
    cases mty c j <;> simp only [mF, e] <;> rfl
theorem Cok.putO (C : Cok l G X cc own d rt) {idx c k a r : Nat} {n : String} {fin : Bool} (L : LkF own idx c k (.object n) fin) (hf : FinOk X own c fin) (hd : decode cc pc = .ok (.putfield idx, 3)) (ho : isO μ a c) (kk : AW l G X bc bs (pc + 3) lv st (sR μ a k (some r))) : AW l G X bc bs pc lv (.ref (G.1 + r) :: .ref (G.1 + a) :: st) μ := by
  refine C.putv (μ' := sR μ a k (some r)) L hf hd ho rfl rfl rfl (fun b hb => mE_off rfl rfl (sR_off hb) rfl) rfl (fun j => ?_) kk
  obtain ⟨Cn, T, hcl, hk, hty, -⟩ := L
  by_cases hj : j = k
  · subst hj
    rw [hty, if_pos rfl]
    simp [mF, mR, sR, va_rf]
  · rw [if_neg hj]
    have e : mR (sR μ a k (some r)) a j = mR μ a j := by simp [mR, sR, hj]
    cases mty c j <;> simp only [mF, e] <;> rfl
theorem Cok.putA (C : Cok l G X cc own d rt) {idx c k a r : Nat} {t : FieldType} {fin : Bool} (L : LkF own idx c k (.array t) fin) (hf : FinOk X own c fin) (hd : decode cc pc = .ok (.putfield idx, 3)) (ho : isO μ a c) (kk : AW l G X bc bs (pc + 3) lv st (sR μ a k (some r))) : AW l G X bc bs pc lv (.ref (G.1 + r) :: .ref (G.1 + a) :: st) μ := by
  refine C.putv (μ' := sR μ a k (some r)) L hf hd ho rfl rfl rfl (fun b hb => mE_off rfl rfl (sR_off hb) rfl) rfl (fun j => ?_) kk
  obtain ⟨Cn, T, hcl, hk, hty, -⟩ := L
  by_cases hj : j = k
  · subst hj
    rw [hty, if_pos rfl]
    simp [mF, mR, sR, va_rf]
  · rw [if_neg hj]
    have e : mR (sR μ a k (some r)) a j = mR μ a j := by simp [mR, sR, hj]
    cases mty c j <;> simp only [mF, e] <;> rfl
end AMR2
