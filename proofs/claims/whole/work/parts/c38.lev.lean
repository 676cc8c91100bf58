/-! the class: levels of facts and tests -/
def cFc (tx : Nat → Nat) (e m : Nat) : Nat → Pt → Pt
  | 0 => cFact1 tx e (cSums tx e (cPt tx e m 0)) none
  | n + 1 => cFact1 tx e (cSums tx e (cPt tx e m (n + 1))) (some (cFc tx e m n))
def cTests (tx : Nat → Nat) (e : Nat) (F : Pt → Pt) : Pt → Pt := cEith tx e (cBoth tx e F)
section KFL
variable {l : Launch} {G : Gm} {μ0 : Mm} {tp : List Nat} {m : Nat}
theorem kf_factN (hm : m < 1024) : ∀ n, n ≤ 6 → ∀ μ t, CP μ0 tp m t μ → AMet l G (11 + 4 * n) 0 0 mtX6_fact [.ref (G.1 + 5), .int (nI (6 - n))] μ (qV (fun μ' => CP μ0 tp m (cFc (txL tp) tp.length m n t) μ'))
  | 0, _ => kf_fact (D := 7) (by omega) (Nat.le_refl 6) (fun _ => rfl) (kf_sumN hm (n := 0) (by omega)) (fun P z => by cases z)
  | n + 1, hn => by
    have ih := kf_factN hm n (by omega)
    have hs := kf_sumN (l := l) (G := G) (μ0 := μ0) (tp := tp) hm (n := n + 1) hn
    have h := kf_fact (l := l) (G := G) (μ0 := μ0) (tp := tp) (m := m) (S := cSums (txL tp) tp.length (cPt (txL tp) tp.length m (n + 1))) (o := some (cFc (txL tp) tp.length m n)) (D := 11 + 4 * n) (op := 6 - (n + 1)) (by omega) (by omega) (fun z => by cases z) (by
      rw [show 9 + 4 * (n + 1) = 11 + 4 * n + 2 by omega] at hs
      exact hs) (fun P z => by
      injection z with z
      subst z
      refine ⟨by omega, ?_⟩
      rw [show 6 - (n + 1) + 1 = 6 - n by omega]
      exact ih)
    exact h
theorem kf_testN (hm : m < 1024) {n : Nat} (hn : n ≤ 6) : ∀ μ t, CP μ0 tp m t μ → AMet l G (13 + 4 * n) 0 0 mtX6_test [.ref (G.1 + 5), .int (nI (6 - n))] μ (qV (fun μ' => CP μ0 tp m (cTests (txL tp) tp.length (cFc (txL tp) tp.length m n) t) μ')) := by
  have h := kf_test (l := l) (G := G) (op := 6 - n) (D := 11 + 4 * n + 1) (by omega) (kf_both (by omega) (kf_factN (l := l) (G := G) (μ0 := μ0) (tp := tp) hm n hn))
  rw [show 11 + 4 * n + 1 + 1 = 13 + 4 * n by omega] at h
  exact h
end KFL
