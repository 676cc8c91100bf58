/-! rules over the memory: arrays, making, statics, returns, calls -/
theorem gty (G : Gm) {t : Nat} (ht : t < 7) : (gtys G)[t]? = some (G.2.2.2.1 t, aty t) := by
  unfold gtys
  rw [List.getElem?_map, List.getElem?_range ht]
  rfl
theorem upd_sI {μ : Mm} {a i : Nat} {x : Int32} : mI (sI μ a i x) a = upd (mI μ a) i x := by
  funext j
  by_cases h : j = i <;> simp [mI, sI, upd, h]
theorem upd_sL {μ : Mm} {a i : Nat} {x : Int64} : mL (sL μ a i x) a = vp_updL (mL μ a) i x := by
  funext j
  by_cases h : j = i <;> simp [mL, sL, vp_updL, h]
def okTy : FieldType → Bool
  | .float => false
  | .double => false
  | _ => true
theorem okTy_all : ∀ c, c < 14 → ∀ j, j < nF c → okTy (mty c j) = true := by decide +kernel
theorem mF_new {b : Nat} {μ : Mm} {c n : Nat} {ty : FieldType} (h : okTy ty = true) (j : Nat) : defaultValue ty = mF b (nM μ c n) ty (mN μ) j := by
  have i1 : mI (nM μ c n) (mN μ) j = 0 := by simp [mI, nM]
  have i2 : mL (nM μ c n) (mN μ) j = 0 := by simp [mL, nM]
  have i3 : mR (nM μ c n) (mN μ) j = none := by simp [mR, nM]
  cases ty <;> first | (simp only [mF, i1, i2, i3]; rfl) | (simp [okTy] at h)
/-- the end of a method: its answer and its memory are as Q says -/
def QcE (G : Gm) (Q : Option Value → Mm → Prop) : Array Value → State → Outcome → State → Prop := fun _ st o t => ∃ (r : Option Value) (μ' : Mm), o = .returned r ∧ Q r μ' ∧ Rep G μ' t.heap ∧ va_F (gA G) st t
abbrev wz (y : Mt) : List Cond := .code y.1 y.2.1 y.2.2.1 y.2.2.2 :: lw_ok
/-- A CONTRACT: from the memory μ, with these arguments, y answers and leaves a memory as Q says; at most mc cells of ms slots are new; d frames -/
def AMet (l : Launch) (G : Gm) (d mc ms : Nat) (y : Mt) (As : List Value) (μ : Mm) (Q : Option Value → Mm → Prop) : Prop :=
  Met l y.1 (wz y) { frames := d, cells := mc, slots := ms, locals := 64 * d } (va_Pc As (fun U => Rep G μ U.heap ∧ KK G U)) (QcE G Q) mc ms (gA G)
def MR (G : Gm) (X : Cx) (Q : Option Value → Mm → Prop) : Prop := X.2.2.2 = MQ X.2.1.2.2.1 (QcE G Q) X.2.1.2.1 X.1.2.2.2 X.1.2.2.1.cells X.1.2.2.1.slots (gA G)
def qI (Q : Int32 → Mm → Prop) : Option Value → Mm → Prop := fun r μ' => ∃ x, r = some (.int x) ∧ Q x μ'
def qL (Q : Int64 → Mm → Prop) : Option Value → Mm → Prop := fun r μ' => ∃ x, r = some (.long x) ∧ Q x μ'
def qV (Q : Mm → Prop) : Option Value → Mm → Prop := fun r μ' => r = none ∧ Q μ'
def qR (b : Nat) (Q : Nat → Mm → Prop) : Option Value → Mm → Prop := fun r μ' => ∃ x, r = some (.ref (b + x)) ∧ Q x μ'
theorem wz_good {y : Mt} (h : Cond.code y.1 y.2.1 y.2.2.1 y.2.2.2 ∈ lw_ok) : GoodIn lw_ok (wz y) := by
  intro w hw
  have hm : w ∈ lw_ok := by
    rcases List.mem_cons.mp hw with e | e
    · rw [e]; exact h
    · exact e
  exact ⟨hm, good_of_word (ok_good hm)⟩
theorem pc_blind {G : Gm} {As : List Value} {μ : Mm} : FrameBlind (va_Pc As (fun U => Rep G μ U.heap ∧ KK G U)) := by
  intro a U g mk h
  exact ⟨h.1, h.2.1, h.2.2.1.to (Vm.Alike.refl U.vm) h.2.2.1.2.1 (fun _ _ _ => rfl), h.2.2.2.same rfl⟩
section AMR3
variable {l : Launch} {G : Gm} {X : Cx} {cc : ByteArray} {own : String} {d : Nat} {rt : Option FieldType} {bc bs pc : Nat} {lv lv' : List (Nat × Value)} {st : List Value} {μ : Mm}
theorem Rep.oneA {H : Heap} {a t n : Nat} (h : Rep G μ H) (ha : isA μ a t n) : va_P (gD G) mcl [(G.1 + a, .inl (G.2.2.2.1 t, n, mPay G.1 μ t a))] H := by
  have := h.one ha.1
  rw [mE_arr ha] at this
  exact this
theorem Rep.cellA {H : Heap} {a t n : Nat} (h : Rep G μ H) (ha : isA μ a t n) : H[G.1 + a]? = some (vp_cell (G.2.2.2.1 t) (n, mPay G.1 μ t a)) := by
  have := h.2 a ha.1
  rw [mE_arr ha] at this
  exact this
theorem Cok.iald (C : Cok l G X cc own d rt) {a n : Nat} {i : Int32} (ha : isA μ a 0 n) (hin : vp_in i n) (hd : decode cc pc = .ok (.iaload, 1)) (kk : AW l G X bc bs (pc + 1) lv (.int (mI μ a i.toNatClampNeg) :: st) μ) : AW l G X bc bs pc lv (.int i :: .ref (G.1 + a) :: st) μ :=
  fun H locs cells slots ls hR hS hc hs hl => va_iald C.hx C.hb C.hK.1.1 (hR.oneA ha) 0 0 rfl (gty G (by decide)) hin hd (kk H locs cells slots ls hR hS hc hs hl)
theorem Cok.bald (C : Cok l G X cc own d rt) {a n : Nat} {i : Int32} (ha : isA μ a 2 n) (hin : vp_in i n) (hd : decode cc pc = .ok (.baload, 1)) (kk : AW l G X bc bs (pc + 1) lv (.int (mI μ a i.toNatClampNeg) :: st) μ) : AW l G X bc bs pc lv (.int i :: .ref (G.1 + a) :: st) μ :=
  fun H locs cells slots ls hR hS hc hs hl => va_bald C.hx C.hb C.hK.1.1 (hR.oneA ha) 0 2 rfl (gty G (by decide)) hin hd (kk H locs cells slots ls hR hS hc hs hl)
theorem Cok.zald (C : Cok l G X cc own d rt) {a n : Nat} {i : Int32} (ha : isA μ a 4 n) (hin : vp_in i n) (hd : decode cc pc = .ok (.baload, 1)) (kk : AW l G X bc bs (pc + 1) lv (.int (mI μ a i.toNatClampNeg) :: st) μ) : AW l G X bc bs pc lv (.int i :: .ref (G.1 + a) :: st) μ :=
  fun H locs cells slots ls hR hS hc hs hl => va_zald C.hx C.hb C.hK.1.1 (hR.oneA ha) 0 4 rfl (gty G (by decide)) hin hd (kk H locs cells slots ls hR hS hc hs hl)
theorem Cok.cald (C : Cok l G X cc own d rt) {a n : Nat} {i : Int32} (ha : isA μ a 3 n) (hin : vp_in i n) (hd : decode cc pc = .ok (.caload, 1)) (kk : AW l G X bc bs (pc + 1) lv (.int (mI μ a i.toNatClampNeg) :: st) μ) : AW l G X bc bs pc lv (.int i :: .ref (G.1 + a) :: st) μ :=
  fun H locs cells slots ls hR hS hc hs hl => va_cald C.hx C.hb C.hK.1.1 (hR.oneA ha) 0 3 rfl (gty G (by decide)) hin hd (kk H locs cells slots ls hR hS hc hs hl)
theorem Cok.lald (C : Cok l G X cc own d rt) {a n : Nat} {i : Int32} (ha : isA μ a 1 n) (hin : vp_in i n) (hd : decode cc pc = .ok (.laload, 1)) (kk : AW l G X bc bs (pc + 1) lv (.long (mL μ a i.toNatClampNeg) :: st) μ) : AW l G X bc bs pc lv (.int i :: .ref (G.1 + a) :: st) μ :=
  fun H locs cells slots ls hR hS hc hs hl => va_lald C.hx C.hb C.hK.1.1 (hR.oneA ha) 0 1 rfl (gty G (by decide)) hin hd (kk H locs cells slots ls hR hS hc hs hl)
theorem Cok.aald (C : Cok l G X cc own d rt) {a t n r : Nat} {i : Int32} (ha : isA μ a t n) (ht : t = 5 ∨ t = 6) (hin : vp_in i n) (hr : mR μ a i.toNatClampNeg = some r) (hd : decode cc pc = .ok (.aaload, 1)) (kk : AW l G X bc bs (pc + 1) lv (.ref (G.1 + r) :: st) μ) : AW l G X bc bs pc lv (.int i :: .ref (G.1 + a) :: st) μ := by
  intro H locs cells slots ls hR hS hc hs hl
  have hlt : i.toNatClampNeg < n := Nat.not_le.mp fun q => hin (Or.inr q)
  have hp : mPay G.1 μ t a = .inr (.inr (.inr (.inr (fun j => (mR μ a j).map (G.1 + ·))))) := by rcases ht with rfl | rfl <;> rfl
  have hcl := hR.cellA ha
  rw [hp] at hcl
  have ht7 : t < 7 := by rcases ht with rfl | rfl <;> decide
  refine W.aald (v := .ref (G.1 + r)) (ty := aty t) C.hx C.hb hcl ((C.hK.1.1.2 t _ (gty G ht7)).1 n (fun j => va_rf ((mR μ a j).map (G.1 + ·)))) (by rcases ht with rfl | rfl <;> rfl) (fun q => by cases q) (by show ¬ (i < 0 ∨ (arrV _ _ _).slots.size ≤ _); rw [arrV_size]; exact hin) ?_ rfl rfl hd (kk H locs cells slots ls hR hS hc hs hl)
  show (arrV _ _ _).slots[_]? = _
  rw [arrV_read _ _ hlt]
  simp only [hr]
  rfl
theorem Cok.alen (C : Cok l G X cc own d rt) {a t n : Nat} (ha : isA μ a t n) (ht : t < 7) (hd : decode cc pc = .ok (.arraylength, 1)) (kk : AW l G X bc bs (pc + 1) lv (.int (nI n) :: st) μ) : AW l G X bc bs pc lv (.ref (G.1 + a) :: st) μ :=
  fun H locs cells slots ls hR hS hc hs hl => va_alen C.hx C.hb C.hK.1.1 (hR.oneA ha) 0 t rfl (gty G ht) rfl hd (kk H locs cells slots ls hR hS hc hs hl)
/-- what stands behind a store into an array of ints, bytes, chars, booleans -/
theorem Rep.stI {H H' : Heap} {a t n i : Nat} {x : Int32} (h : Rep G μ H) (ha : isA μ a t n) (ht : t = 0 ∨ t = 2 ∨ t = 3 ∨ t = 4) (e : H'[G.1 + a]? = some ((vp_cell (G.2.2.2.1 t) (n, mPay G.1 μ t a)).setSlot i (.int x))) (hz : H'.size = H.size) (ho : ∀ q : Nat, q ≠ G.1 + a → H'[q]? = H[q]?) : Rep G (sI μ a i x) H' := by
  refine h.put (μ' := sI μ a i x) rfl hz ho (fun b hb => mE_off (sI_off hb) rfl rfl rfl) ?_
  have ha' : isA (sI μ a i x) a t n := ha
  have hp : ∀ μ : Mm, mPay G.1 μ t a = .inl (mI μ a) := fun μ => by rcases ht with rfl | rfl | rfl | rfl <;> rfl
  rw [mE_arr ha', hp]
  rw [hp] at e
  show H'[G.1 + a]? = some (vp_cell _ _)
  rw [e, vp_cell_i, vp_cell_i, arrV_store, upd_sI]
  congr 2
  funext q
  by_cases hq : q = i
  · subst hq
    simp [updV, upd]
  · simp [updV, upd, hq]
theorem Cok.iast (C : Cok l G X cc own d rt) {a n : Nat} {i x : Int32} (ha : isA μ a 0 n) (hin : vp_in i n) (hd : decode cc pc = .ok (.iastore, 1)) (kk : AW l G X bc bs (pc + 1) lv st (sI μ a i.toNatClampNeg x)) : AW l G X bc bs pc lv (.int x :: .int i :: .ref (G.1 + a) :: st) μ :=
  fun H locs cells slots ls hR hS hc hs hl => W.iast C.hx C.hb (hR.cellA ha) ((C.hK.1.1.2 0 _ (gty G (by decide))).1 n (fun j => .int (mI μ a j))) (fun q => by cases q) (by show ¬ (i < 0 ∨ (arrV _ _ _).slots.size ≤ _); rw [arrV_size]; exact hin) rfl rfl hd fun H1 e z oq => kk H1 _ cells slots ls (hR.stI ha (Or.inl rfl) e z oq) (hS.put z oq (Nat.le_add_right _ _)) hc hs hl
theorem Cok.bast (C : Cok l G X cc own d rt) {a n : Nat} {i x : Int32} (ha : isA μ a 2 n) (hin : vp_in i n) (hd : decode cc pc = .ok (.bastore, 1)) (kk : AW l G X bc bs (pc + 1) lv st (sI μ a i.toNatClampNeg (vp_nar .byte x))) : AW l G X bc bs pc lv (.int x :: .int i :: .ref (G.1 + a) :: st) μ :=
  fun H locs cells slots ls hR hS hc hs hl => W.bast C.hx C.hb (hR.cellA ha) ((C.hK.1.1.2 2 _ (gty G (by decide))).1 n (fun j => .int (mI μ a j))) (fun q => by cases q) (by show ¬ (i < 0 ∨ (arrV _ _ _).slots.size ≤ _); rw [arrV_size]; exact hin) rfl rfl hd fun H1 e z oq => kk H1 _ cells slots ls (hR.stI ha (Or.inr (Or.inl rfl)) e z oq) (hS.put z oq (Nat.le_add_right _ _)) hc hs hl
theorem Cok.cast (C : Cok l G X cc own d rt) {a n : Nat} {i x : Int32} (ha : isA μ a 3 n) (hin : vp_in i n) (hd : decode cc pc = .ok (.castore, 1)) (kk : AW l G X bc bs (pc + 1) lv st (sI μ a i.toNatClampNeg (vp_nar .char x))) : AW l G X bc bs pc lv (.int x :: .int i :: .ref (G.1 + a) :: st) μ :=
  fun H locs cells slots ls hR hS hc hs hl => W.cast C.hx C.hb (hR.cellA ha) ((C.hK.1.1.2 3 _ (gty G (by decide))).1 n (fun j => .int (mI μ a j))) (fun q => by cases q) (by show ¬ (i < 0 ∨ (arrV _ _ _).slots.size ≤ _); rw [arrV_size]; exact hin) rfl rfl hd fun H1 e z oq => kk H1 _ cells slots ls (hR.stI ha (Or.inr (Or.inr (Or.inl rfl))) e z oq) (hS.put z oq (Nat.le_add_right _ _)) hc hs hl
theorem Cok.zast (C : Cok l G X cc own d rt) {a n : Nat} {i x : Int32} (ha : isA μ a 4 n) (hin : vp_in i n) (hd : decode cc pc = .ok (.bastore, 1)) (kk : AW l G X bc bs (pc + 1) lv st (sI μ a i.toNatClampNeg (vp_nar .boolean x))) : AW l G X bc bs pc lv (.int x :: .int i :: .ref (G.1 + a) :: st) μ :=
  fun H locs cells slots ls hR hS hc hs hl => W.zast C.hx C.hb (hR.cellA ha) ((C.hK.1.1.2 4 _ (gty G (by decide))).1 n (fun j => .int (mI μ a j))) (fun q => by cases q) (by show ¬ (i < 0 ∨ (arrV _ _ _).slots.size ≤ _); rw [arrV_size]; exact hin) rfl rfl hd fun H1 e z oq => kk H1 _ cells slots ls (hR.stI ha (Or.inr (Or.inr (Or.inr rfl))) e z oq) (hS.put z oq (Nat.le_add_right _ _)) hc hs hl
theorem Cok.last (C : Cok l G X cc own d rt) {a n : Nat} {i : Int32} {x : Int64} (ha : isA μ a 1 n) (hin : vp_in i n) (hd : decode cc pc = .ok (.lastore, 1)) (kk : AW l G X bc bs (pc + 1) lv st (sL μ a i.toNatClampNeg x)) : AW l G X bc bs pc lv (.long x :: .int i :: .ref (G.1 + a) :: st) μ := by
  intro H locs cells slots ls hR hS hc hs hl
  refine W.last C.hx C.hb (hR.cellA ha) ((C.hK.1.1.2 1 _ (gty G (by decide))).1 n (fun j => .long (mL μ a j))) (fun q => by cases q) (by show ¬ (i < 0 ∨ (arrV _ _ _).slots.size ≤ _); rw [arrV_size]; exact hin) rfl rfl hd fun H1 e z oq => kk H1 _ cells slots ls (hR.put (μ' := sL μ a i.toNatClampNeg x) rfl z oq (fun b hb => mE_off rfl (sL_off hb) rfl rfl) ?_) (hS.put z oq (Nat.le_add_right _ _)) hc hs hl
  have ha' : isA (sL μ a i.toNatClampNeg x) a 1 n := ha
  rw [mE_arr ha']
  show H1[G.1 + a]? = some (vp_cell _ (n, .inr (.inl (mL (sL μ a i.toNatClampNeg x) a))))
  rw [e, show mPay G.1 μ 1 a = .inr (.inl (mL μ a)) from rfl, vp_cell_l, vp_cell_l, arrV_store, upd_sL]
  congr 2
  funext q
  by_cases hq : q = i.toNatClampNeg
  · subst hq
    simp [updV, vp_updL]
  · simp [updV, vp_updL, hq]
/-- a static table -/
theorem Cok.tabC (C : Cok l G X cc RX9 d rt) (hd : decode cc pc = .ok (.getstatic 82, 3)) (kk : AW l G X bc bs (pc + 3) lv (.ref G.2.2.2.2.1 :: st) μ) : AW l G X bc bs pc lv st μ :=
  fun H locs cells slots ls hR hS hc hs hl => va_getsN (C := "WildHunt") (own := RX9) C.hx C.hb C.hK.1.2.2.1 hS C.hown (va_Nw.use rfl C.hK.2.2.1.1) (fun _ h => h) hd (kk H locs cells slots ls hR hS hc hs hl)
theorem Cok.tabR (C : Cok l G X cc RX9 d rt) (hd : decode cc pc = .ok (.getstatic 85, 3)) (kk : AW l G X bc bs (pc + 3) lv (.ref G.2.2.2.2.2.1 :: st) μ) : AW l G X bc bs pc lv st μ :=
  fun H locs cells slots ls hR hS hc hs hl => va_getsN (C := "WildHunt") (own := RX9) C.hx C.hb C.hK.1.2.2.2.2.1 hS C.hown (va_Nw.use rfl C.hK.2.2.1.2) (fun _ h => h) hd (kk H locs cells slots ls hR hS hc hs hl)
theorem Cok.tabCld (C : Cok l G X cc own d rt) {i : Int32} (hin : vp_in i 8) (hd : decode cc pc = .ok (.iaload, 1)) (kk : AW l G X bc bs (pc + 1) lv (.int (wayC i.toNatClampNeg) :: st) μ) : AW l G X bc bs pc lv (.int i :: .ref G.2.2.2.2.1 :: st) μ :=
  fun H locs cells slots ls hR hS hc hs hl => va_ti C.hx C.hb C.hK.1.2.2.2.1 hS hin rfl hd (kk H locs cells slots ls hR hS hc hs hl)
theorem Cok.tabRld (C : Cok l G X cc own d rt) {i : Int32} (hin : vp_in i 8) (hd : decode cc pc = .ok (.iaload, 1)) (kk : AW l G X bc bs (pc + 1) lv (.int (wayR i.toNatClampNeg) :: st) μ) : AW l G X bc bs pc lv (.int i :: .ref G.2.2.2.2.2.1 :: st) μ :=
  fun H locs cells slots ls hR hS hc hs hl => va_ti C.hx C.hb C.hK.1.2.2.2.2.2.1 hS hin rfl hd (kk H locs cells slots ls hR hS hc hs hl)
end AMR3
