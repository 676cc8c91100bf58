/-! the reference: land() -/

def rLoop (tx : Nat → Nat) (e : Nat) : Nat → Ld × Nat × Ps → Ld × Nat × Ps
  | 0, t => t
  | n + 1, t => if t.2.2.2.2.1 = 0 then (if sk tx e t.2.2.1 < e then rLoop tx e n (rStat tx e t.1 t.2.1 (mLook tx e t.2.2)) else (t.1, t.2.1, mLook tx e t.2.2)) else t
def rFirst (tx : Nat → Nat) (e : Nat) (np mp : Int32) : Ld × Nat × Ps := (((nn (mLandS tx e (0, -1, 0, -1, np, mp)).1, nn (mLandS tx e (0, -1, 0, -1, np, mp)).2.1, nn (mLandS tx e (0, -1, 0, -1, np, mp)).2.2.1), [], [], [], (12, 20, 0), fun _ => none), 1, (mLandS tx e (0, -1, 0, -1, np, mp)).2.2.2)
def rLand (tx : Nat → Nat) (e : Nat) (np mp : Int32) : Ld × Nat × Ps := rLoop tx e (e + 2) (rFirst tx e np mp)
/-- a tape's bytes -/
def txL (tp : List Nat) : Nat → Nat := fun j => tp.getD j 0
def upR (rf : Nat → Int32) (j : Nat) : Nat → Int32 := fun k => if k = j then rf j + nI 1 else rf k
def st0 (d : Ld) : St := ((0, 0), d.2.2.2.1.map (fun x => (x.2.2.2, 0, 0, 0)), [])
def landH (h : Hs) (r : Ld × Nat × Ps) : Hs := if r.2.2.2.2.1 = 0 then ([], (r.2.2.2.2.1, r.2.2.2.2.2.1), rfH h, r.1, st0 r.1, [], [], ocH h, sdH h) else ([], (r.2.2.2.2.1, r.2.2.2.2.2.1), upR (rfH h) 1, ldH h, stH h, psH h, rwH h, ocH h, sdH h)
def landX (r : Ld × Nat × Ps) : Int32 := if r.2.2.2.2.1 = 0 then nI r.2.1 else -1
section LND
variable {tx : Nat → Nat} {e : Nat}
theorem mLandS_ge (s : Ps) (hp : s.1 ≤ e) : s.1 ≤ (mLandS tx e s).2.2.2.1 ∧ (mLandS tx e s).2.2.2.1 ≤ e := by
  unfold mLandS
  dsimp only
  have g1 := mAsks_ge (tx := tx) s wLand hp
  have l1 := mAsks_le (tx := tx) (s := s) wLand hp
  generalize mAsks tx e s wLand = s1 at g1 l1 ⊢
  have g2 := (mNum_ge (tx := tx) s1 (nI 2) (nI 7) l1).1
  have l2 := mNum_le (tx := tx) (nI 2) (nI 7) l1
  generalize mNum tx e s1 (nI 2) (nI 7) = r2 at g2 l2 ⊢
  have g3 := mAsks_ge (tx := tx) r2.2 wBy l2
  have l3 := mAsks_le (tx := tx) (s := r2.2) wBy l2
  generalize mAsks tx e r2.2 wBy = s3 at g3 l3 ⊢
  have g4 := (mNum_ge (tx := tx) s3 (nI 2) (nI 7) l3).1
  have l4 := mNum_le (tx := tx) (nI 2) (nI 7) l3
  generalize mNum tx e s3 (nI 2) (nI 7) = r4 at g4 l4 ⊢
  have g5 := mAsks_ge (tx := tx) r4.2 wHunt l4
  have l5 := mAsks_le (tx := tx) (s := r4.2) wHunt l4
  generalize mAsks tx e r4.2 wHunt = s5 at g5 l5 ⊢
  have g6 := mCell_ge (tx := tx) s5 r2.1 r4.1 l5
  have l6 := mCell_le (tx := tx) r2.1 r4.1 l5
  generalize mCell tx e s5 r2.1 r4.1 = r6 at g6 l6 ⊢
  have g7 := mAskSign_ge (tx := tx) r6.2 (nI 59) l6
  have l7 := mAskSign_le (tx := tx) (s := r6.2) (c := 59) (by decide) l6
  omega
/-- the first statement, when it stands -/
theorem mLandS_ok (s : Ps) (h : (mLandS tx e s).2.2.2.2.2.1 = 0) : ∃ a b x y, 2 ≤ a ∧ a ≤ 7 ∧ 2 ≤ b ∧ b ≤ 7 ∧ x < a ∧ y < b ∧ (mLandS tx e s).1 = nI a ∧ (mLandS tx e s).2.1 = nI b ∧ (mLandS tx e s).2.2.1 = nI (x + 7 * y) := by
  unfold mLandS at h ⊢
  dsimp only at h ⊢
  generalize mAsks tx e s wLand = s1 at h ⊢
  have k2 := mNum_ok (tx := tx) (e := e) s1 (lo := 2) (hi := 7) (by decide) (by decide)
  generalize mNum tx e s1 (nI 2) (nI 7) = r2 at k2 h ⊢
  have b3 := mAsks_bad (tx := tx) (e := e) r2.2 wBy
  generalize mAsks tx e r2.2 wBy = s3 at b3 h ⊢
  have k4 := mNum_ok (tx := tx) (e := e) s3 (lo := 2) (hi := 7) (by decide) (by decide)
  have b4 := mNum_bad (tx := tx) (e := e) s3 (nI 2) (nI 7)
  generalize mNum tx e s3 (nI 2) (nI 7) = r4 at k4 b4 h ⊢
  have b5 := mAsks_bad (tx := tx) (e := e) r4.2 wHunt
  generalize mAsks tx e r4.2 wHunt = s5 at b5 h ⊢
  have b6 := mCell_bad (tx := tx) (e := e) s5 r2.1 r4.1
  have h6 := mAskSign_bad _ _ h
  have h4 := b5 (b6 h6)
  obtain ⟨b, hb1, hb2, -, e4⟩ := k4 h4
  obtain ⟨a, ha1, ha2, -, e2⟩ := k2 (b3 (b4 h4))
  rw [e2, e4] at h6
  obtain ⟨x, y, hx, hy, e6⟩ := mCell_ok (tx := tx) (e := e) s5 (a := a) (b := b) (by omega) (by omega) h6
  exact ⟨a, b, x, y, ha1, ha2, hb1, hb2, hx, hy, e2, e4, by rw [e2, e4]; exact e6⟩
end LND
section KMLD
variable {l : Launch} {G : Gm} {μ0 μ : Mm} {tx : Nat → Nat} {e : Nat}
theorem kt_look {d : Ld} {st : Nat} {s : Ps} (hS : ShM μ0) (hT : TxM μ0 tx e) (hM : TM μ0 μ d st s) (hp : s.1 ≤ e) : AMet l G 0 0 0 mtX13_look [.ref (G.1 + 179)] μ (qI (fun x μ' => x = chr tx e (sk tx e s.1) ∧ TM μ0 μ' d st (mLook tx e s))) := by
  have h := kp_look (l := l) (G := G) (hM.1.sh hS) (hM.1.txm hT) hp
  rw [hM.2.1.self] at h
  exact h.monoI (fun x μ' hx => ⟨hx.1, by rw [hx.2]; exact hM.ps (fun q => q) (sk_le hp).1⟩)
/-- the land, told, stands -/
theorem st_rel {μ1 μ2 μ3 : Mm} {h : Hs} {d : Ld} {c : Nat} (hR : RefRel μ1 h) (hd : 0 < d.1.1) (hL : LmH μ2 0 c d) (hc : c ≤ 1600) (hW : Wf d) (hF : FR μ1 μ2) (hP : StP μ2 μ3 c d.2.2.2.1.length) : RefRel μ3 (tpH h, flH h, rfH h, d, st0 d, [], [], ocH h, sdH h) ∧ FrR μ1 μ3 := by
  obtain ⟨r1, r2, r3, r4, r5, r6, r7, r8, r9, r10⟩ := hR
  obtain ⟨p1, p2, p3, p4, p5, p6, p7, p8, p9, p10, p11⟩ := hP
  obtain ⟨f1, f2, f3⟩ := hF
  have hk : ∀ a k, ¬ StU c a k → ¬ TchI a k → mI μ3 a k = mI μ1 a k := fun a k h1 h2 => by rw [p11 a k h1, f3 a k h2]
  refine ⟨⟨r1.of (by rw [p1, f1]) (fun a k q => hk a k (by unfold StU; omega) (by unfold TchI; omega)) (hk _ _ (by unfold StU; omega) (by unfold TchI; omega)) (hk _ _ (by unfold StU; omega) (by unfold TchI; omega)), r2.of (hk _ _ (by unfold StU; omega) (by unfold TchI; omega)) (fun k => hk _ _ (by unfold StU; omega) (by unfold TchI; omega)), r3.of (hk _ _ (by unfold StU; omega) (by unfold TchI; omega)) (hk _ _ (by unfold StU; omega) (by unfold TchI; omega)), r4.of (fun k => hk _ _ (by unfold StU; omega) (by unfold TchI; omega)), ⟨?_, by rw [if_pos hd]; exact p10.1⟩, ?_, ⟨p10.2.2, ?_⟩, ⟨p10.2.1, fun i x q => by cases q⟩, r9.of (hk _ _ (by unfold StU; omega) (by unfold TchI; omega)) (fun k => hk _ _ (by unfold StU; omega) (by unfold TchI; omega)), ?_⟩, ⟨by rw [p1, f1], fun a k q => ⟨hk a k (by unfold StU; omega) (by unfold TchI; omega), by rw [p3 a k (by omega), f2 a k (by omega)]⟩⟩⟩
  · obtain ⟨⟨a1, a2, a3⟩, b, c1, d1, e1⟩ := hL
    have b5 := hW.2.2.1.1
    have w6 := hW.2.2.2.1.1
    have c10 := hW.2.1.1
    refine ⟨⟨⟨(p4 215 0 (by decide) (by decide)).trans a1.1, (p4 215 1 (by decide) (by decide)).trans a1.2.1, (p4 215 2 (by decide) (by decide)).trans a1.2.2⟩, ⟨(p4 216 0 (by decide) (by decide)).trans a2.1, (p4 216 1 (by decide) (by decide)).trans a2.2.1, (p4 216 2 (by decide) (by decide)).trans a2.2.2⟩, ⟨(p4 221 0 (by decide) (by decide)).trans a3.1, (p4 221 1 (by decide) (by decide)).trans a3.2.1, (p4 221 2 (by decide) (by decide)).trans a3.2.2⟩⟩, fun i x q => ?_, fun i x q => ?_, fun i x q => ?_, fun w hw => ?_⟩
    · have := q_lt (L := d.2.1) q
      have h1 := b i x q
      rw [show 10 * 0 + i = i by omega] at h1
      exact (p5 218 i (by decide) (by omega)).trans h1
    · have := q_lt (L := d.2.2.1) q
      obtain ⟨h1, h2, h3⟩ := c1 i x q
      rw [show 12 * 0 + i = i by omega] at h1
      rw [show 10 * 0 + 2 * i = 2 * i by omega] at h2
      rw [show 10 * 0 + (2 * i + 1) = 2 * i + 1 by omega] at h3
      exact ⟨(p2 i (by omega)).trans h1, (p5 219 _ (by decide) (by omega)).trans h2, (p5 219 _ (by decide) (by omega)).trans h3⟩
    · have := q_lt (L := d.2.2.2.1) q
      obtain ⟨h1, h2, h3, h4⟩ := d1 i x q
      rw [show 12 * 0 + (6 + i) = 6 + i by omega] at h1
      rw [show 30 * 0 + 5 * i = 5 * i by omega] at h2
      rw [show 30 * 0 + (5 * i + 1) = 5 * i + 1 by omega] at h3
      rw [show 30 * 0 + (5 * i + 2) = 5 * i + 2 by omega] at h4
      exact ⟨(p2 _ (by omega)).trans h1, (p6 _ (by omega)).trans h2, (p6 _ (by omega)).trans h3, (p6 _ (by omega)).trans h4⟩
    · obtain ⟨k1, k2⟩ := e1 w hw
      rw [show 3 * 0 + w = w by omega] at k1 k2
      refine ⟨fun q => (p4 222 w (by decide) hw).trans (k1 q), fun cs q => ?_⟩
      obtain ⟨f, g1, g2, g3, g4⟩ := k2 cs q
      refine ⟨f, by omega, (p4 222 w (by decide) hw).trans g2, (p4 223 w (by decide) hw).trans g3, fun i hi => ?_⟩
      have := g4 i hi
      rw [show 1600 * 0 + (f + i) = f + i by omega] at this
      exact (p7 _ (by omega)).trans this
  · have w6 := hW.2.2.2.1.1
    refine ⟨?_, ?_, fun i x q => ?_, ?_, fun i x q => by (cases q)⟩
    · exact p9 0 (by decide) (by rintro ⟨w, w1, w2⟩; omega)
    · exact p9 1 (by decide) (by rintro ⟨w, w1, w2⟩; omega)
    · have q' : (d.2.2.2.1.map (fun x => ((x.2.2.2, 0, 0, 0) : Wk)))[i]? = some x := q
      rw [List.getElem?_map] at q'
      obtain ⟨y, hy, e2⟩ := Option.map_eq_some_iff.mp q'
      have hi := q_lt hy
      obtain ⟨-, -, -, h4⟩ := hL.2.2.2.1 i y hy
      rw [show 30 * 0 + (5 * i + 2) = 5 * i + 2 by omega] at h4
      subst e2
      exact ⟨(p8 i hi).trans h4, p9 _ (by omega) (by rintro ⟨w, w1, w2⟩; omega), p9 _ (by omega) (by rintro ⟨w, w1, w2⟩; omega), p9 _ (by omega) (by rintro ⟨w, w1, w2⟩; omega)⟩
    · exact p9 26 (by decide) (by rintro ⟨w, w1, w2⟩; omega)
  · obtain ⟨-, nw, b, c2, -⟩ := r7
    exact ⟨nw, b, by rw [hk _ _ (by unfold StU; omega) (by unfold TchI; omega)]; exact c2, fun i S q => by cases q⟩
  · unfold RfD
    rw [p3 179 78 (by omega), f2 179 78 (by omega)]
    exact r10
theorem LmH.off {μ' : Mm} {h c : Nat} {d : Ld} (hL : LmH μ h c d) (h1 : ∀ a k, a ≠ 179 → mI μ' a k = mI μ a k) (h2 : ∀ k, mL μ' 217 k = mL μ 217 k) : LmH μ' h c d := by
  refine ⟨⟨?_, ?_, ?_⟩, ?_, ?_, ?_, ?_⟩
  · exact ⟨by rw [h1 _ _ (by decide)]; exact hL.1.1.1, by rw [h1 _ _ (by decide)]; exact hL.1.1.2.1, by rw [h1 _ _ (by decide)]; exact hL.1.1.2.2⟩
  · exact ⟨by rw [h1 _ _ (by decide)]; exact hL.1.2.1.1, by rw [h1 _ _ (by decide)]; exact hL.1.2.1.2.1, by rw [h1 _ _ (by decide)]; exact hL.1.2.1.2.2⟩
  · exact ⟨by rw [h1 _ _ (by decide)]; exact hL.1.2.2.1, by rw [h1 _ _ (by decide)]; exact hL.1.2.2.2.1, by rw [h1 _ _ (by decide)]; exact hL.1.2.2.2.2⟩
  · exact fun i z hz => by rw [h1 _ _ (by decide)]; exact hL.2.1 i z hz
  · exact fun i z hz => by rw [h1 _ _ (by decide), h1 _ _ (by decide), h2]; exact hL.2.2.1 i z hz
  · exact fun i z hz => by rw [h1 _ _ (by decide), h1 _ _ (by decide), h1 _ _ (by decide), h2]; exact hL.2.2.2.1 i z hz
  · intro w hw
    obtain ⟨k1, k2⟩ := hL.2.2.2.2 w hw
    refine ⟨fun q => by rw [h1 _ _ (by decide)]; exact k1 q, fun cs q => ?_⟩
    obtain ⟨f, f1, f2, f3, f4⟩ := k2 cs q
    exact ⟨f, f1, by rw [h1 _ _ (by decide)]; exact f2, by rw [h1 _ _ (by decide)]; exact f3, fun i hi => by rw [h1 _ _ (by decide)]; exact f4 i hi⟩
theorem FR.ref {h : Hs} (hF : FR μ0 μ) (hR : RefRel μ0 h) : RefRel μ h := hR.of hF.1 (fun a k q => hF.2.2 a k (by unfold KpI at q; unfold TchI; omega)) (fun k q => hF.2.1 217 k (by omega)) (hF.2.1 179 78 (by omega))
theorem FR.both (hF : FR μ0 μ) (a k : Nat) (v : Int32) : FR (sI μ0 a k v) (sI μ a k v) := ⟨hF.1, hF.2.1, fun b j q => by
  rw [mI_sI, mI_sI, hF.2.2 b j q]⟩
theorem FR.frr (hF : FR μ0 μ) : FrR μ0 μ := ⟨hF.1, fun a k q => ⟨hF.2.2 a k (by unfold TchI; omega), hF.2.1 a k (by omega)⟩⟩
/-- a field of the reference's own is written -/
theorem FrR.st (hF : FrR μ0 μ) {a k : Nat} (ha : 179 ≤ a ∧ a ≤ 258) (v : Int32) : FrR μ0 (sI μ a k v) := ⟨hF.1, fun b j q => ⟨by rw [mI_sI, if_neg (by omega)]; exact (hF.2 b j q).1, (hF.2 b j q).2⟩⟩
/-- the fields of the fault -/
theorem RefRel.flt {h : Hs} (hR : RefRel μ h) (b p : Int32) : RefRel (sI (sI μ 179 7 b) 179 8 p) (tpH h, (b, p), rfH h, ldH h, stH h, psH h, rwH h, ocH h, sdH h) := by
  obtain ⟨r1, r2, r3, r4, r5, r6, r7, r8, r9, r10⟩ := hR
  have ho : ∀ a k, ¬ (a = 179 ∧ (k = 7 ∨ k = 8)) → mI (sI (sI μ 179 7 b) 179 8 p) a k = mI μ a k := fun a k q => by rw [mI_sI, if_neg (by omega), mI_sI, if_neg (by omega)]
  exact ⟨r1.of rfl (fun a k q => ho a k (by omega)) (ho _ _ (by omega)) (ho _ _ (by omega)), r2.of (ho _ _ (by omega)) (fun k => ho _ _ (by omega)), ⟨by simp [mI_sI], by simp [mI_sI]⟩, r4.of (fun k => ho _ _ (by omega)), ⟨r5.1.off (fun a k q => ho a k (by omega)) (fun _ => rfl), by rw [ho _ _ (by omega)]; exact r5.2⟩, nowR.of r6 (fun k => ho _ _ (by omega)), r7.of (ho _ _ (by omega)) (ho _ _ (by omega)) (fun k => ho _ _ (by omega)), r8.of (ho _ _ (by omega)) (fun k => ho _ _ (by omega)), r9.of (ho _ _ (by omega)) (fun k => ho _ _ (by omega)), r10⟩
/-- a refusal is counted -/
theorem RefRel.rfs {h : Hs} (hR : RefRel μ h) {j : Nat} (hj : j < 6) : RefRel (sI μ 181 j (rfH h j + nI 1)) (tpH h, flH h, upR (rfH h) j, ldH h, stH h, psH h, rwH h, ocH h, sdH h) := by
  obtain ⟨r1, r2, r3, r4, r5, r6, r7, r8, r9, r10⟩ := hR
  have ho : ∀ a k, a ≠ 181 → mI (sI μ 181 j (rfH h j + nI 1)) a k = mI μ a k := fun a k q => by rw [mI_sI, if_neg (by omega)]
  refine ⟨r1.of rfl (fun a k q => ho a k (by omega)) (ho _ _ (by omega)) (ho _ _ (by omega)), r2.of (ho _ _ (by omega)) (fun k => ho _ _ (by omega)), r3.of (ho _ _ (by omega)) (ho _ _ (by omega)), fun k hk => ?_, ⟨r5.1.of (fun a k q _ _ => ho a k (by omega)) (fun a k q _ => ho a k (by omega)) (fun k q => ho _ _ (by omega)) (fun k q => ho _ _ (by omega)) (fun _ _ => rfl), by rw [ho _ _ (by omega)]; exact r5.2⟩, nowR.of r6 (fun k => ho _ _ (by omega)), r7.of (ho _ _ (by omega)) (ho _ _ (by omega)) (fun k => ho _ _ (by omega)), r8.of (ho _ _ (by omega)) (fun k => ho _ _ (by omega)), r9.of (ho _ _ (by omega)) (fun k => ho _ _ (by omega)), r10⟩
  show mI (sI μ 181 j (rfH h j + nI 1)) 181 k = if k = j then rfH h j + nI 1 else rfH h k
  rw [mI_sI]
  by_cases q : k = j
  · rw [if_pos ⟨rfl, q⟩, if_pos q]
  · rw [if_neg (fun z => q z.2), if_neg q]; exact r4 k hk
/-- a new length of the tape -/
theorem RefRel.tap {h : Hs} (hR : RefRel μ h) (n : Nat) (hn : n ≤ (tpH h).length) : RefRel (sI μ 179 1 (nI n)) ((tpH h).take n, flH h, rfH h, ldH h, stH h, psH h, rwH h, ocH h, sdH h) := by
  obtain ⟨r1, r2, r3, r4, r5, r6, r7, r8, r9, r10⟩ := hR
  have ho : ∀ a k, ¬ (a = 179 ∧ k = 1) → mI (sI μ 179 1 (nI n)) a k = mI μ a k := fun a k q => by rw [mI_sI, if_neg (by omega)]
  refine ⟨r1.of rfl (fun a k q => ho a k (by omega)) (ho _ _ (by omega)) (ho _ _ (by omega)), ⟨?_, ?_, fun j x q => ?_⟩, r3.of (ho _ _ (by omega)) (ho _ _ (by omega)), r4.of (fun k => ho _ _ (by omega)), ⟨r5.1.off (fun a k q => ho a k (by omega)) (fun _ => rfl), by rw [ho _ _ (by omega)]; exact r5.2⟩, nowR.of r6 (fun k => ho _ _ (by omega)), r7.of (ho _ _ (by omega)) (ho _ _ (by omega)) (fun k => ho _ _ (by omega)), r8.of (ho _ _ (by omega)) (fun k => ho _ _ (by omega)), r9.of (ho _ _ (by omega)) (fun k => ho _ _ (by omega)), r10⟩
  · rw [mI_sI, if_pos ⟨rfl, rfl⟩, List.length_take, Nat.min_eq_left hn]
  · rw [List.length_take]; have := r2.2.1; omega
  · rw [ho _ _ (by omega)]
    exact r2.2.2 j x (by
      have q' : ((tpH h).take n)[j]? = some x := q
      rw [List.getElem?_take] at q'
      split at q'
      · exact q'
      · cases q')
end KMLD
