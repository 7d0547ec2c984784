/-! ===== the mathematics, part 22: an octet that ends an insertion, all of it ===== -/
theorem FJ.stepC2 {u i D m lo n e : Nat} {C M C1 C' M5 M7 M8 : hq_M} (h : FJ u i C M) (hq : SQi C M D (m + 1) i) (hb : D + m + 1 ≤ 8 * u) (hX : TB C M 385 1 lo n) (hxb : lo + n + 1 ≤ 800000) (h26 : M 26 0 = 1) (h25 : M 25 0 = 1) (hf : 0 ≤ M 27 0 ∧ M 27 0 < M 0 0) (he : IsEv (es M 1) lo n (M 8 1 - sz M (M 27 0).toNat) e) (c1 : C1 375 4 = ((D + 1 : Nat) : Int)) (c3 : C1 385 3 = ((lo + n + 1 : Nat) : Int)) (c4 : C1 385 4 = ((lo + e : Nat) : Int)) (c5 : C1 385 5 = sm (es M 1) (lo + e) (n - e) + sz M (M 27 0).toNat) (c6 : C1 386 ((lo + n) % 64) = M 27 0) (c7 : C1 387 ((lo + n) % 64) = sz M (M 27 0).toNat) (hC : ∀ q j, ¬ ((q = 379 ∧ j = D % 256) ∨ (q = 375 ∧ j = 4) ∨ (q = 385 ∧ (j = 3 ∨ j = 4 ∨ j = 5)) ∨ ((q = 386 ∨ q = 387 ∨ q = 388) ∧ j = (lo + n) % 64)) → C1 q j = C q j) (m9' : M5 9 1 = sm (es M 1) (lo + e) (n - e) + sz M (M 27 0).toNat) (m7' : M5 7 1 = ((lo + e : Nat) : Int)) (m6' : M5 6 1 = ((lo + n + 1 : Nat) : Int)) (m10 : M5 10 (64 * 1 + (lo + n) % 64) = M 27 0) (hM : ∀ o j, ¬ ((o = 6 ∨ o = 7 ∨ o = 9) ∧ j = 1) → ¬ (o = 10 ∧ j = 64 * 1 + (lo + n) % 64) → ¬ (o = 26 ∧ j = 0) → M5 o j = M o j) (hT : T3 (M 6 1) C' M7) (hn : NR M7) (fC : FD C1 C') (fM : FDm M5 M7) (m47 : M8 0 47 = (m : Int)) (msh : ∀ a j, 25 ≤ a → a ≤ 27 → j < m → M8 a j = M7 a (j + 1)) (fp : ∀ o j, ¬ ((25 ≤ o ∧ o ≤ 27) ∨ (o = 0 ∧ j = 47)) → M8 o j = M7 o j) : FJ u (i + 1) C' M8 := by
  have h0 := h
  obtain ⟨-, -, ⟨oo, -, -, -, -, hS⟩, -, -, -, -, hDE, -, -⟩ := h
  have hsz := hX.szs hS
  have hn50 := hX.live hS.2.2.1 hS.1.2
  obtain ⟨tc, ⟨m7, m6, m9, m8⟩, t5, tle, tcap, ti⟩ := hX
  have hen := he.1
  have hsl := he.2.1
  have oC : ∀ q j, ¬ ((q = 379 ∧ j = D % 256) ∨ (q = 375 ∧ j = 4) ∨ (q = 385 ∧ (j = 3 ∨ j = 4 ∨ j = 5)) ∨ ((q = 386 ∨ q = 387 ∨ q = 388) ∧ j = (lo + n) % 64) ∨ (170 ≤ q ∧ q < 370 ∧ q % 5 = 0 ∧ j = 6) ∨ q = 389 ∨ q = 390 ∨ (q = 384 ∧ j = 2)) → C' q j = C q j := fun q j hq => by rw [fC q j (by omega), hC q j (by omega)]
  have iC : ∀ q j, ¬ ((170 ≤ q ∧ q < 370 ∧ q % 5 = 0 ∧ j = 6) ∨ q = 389 ∨ q = 390 ∨ (q = 384 ∧ j = 2)) → C' q j = C1 q j := fC
  have iM : ∀ o j, ¬ ((25 ≤ o ∧ o ≤ 27) ∨ (o = 0 ∧ j = 47) ∨ o = 15 ∨ o = 28 ∨ (o = 0 ∧ (j = 24 ∨ j = 49 ∨ j = 52 ∨ j = 56)) ∨ (30 ≤ o ∧ o ≤ 33)) → M8 o j = M5 o j := fun o j ho => by rw [fp o j (by omega), fM o j (by omega)]
  have oM : ∀ o j, ¬ ((25 ≤ o ∧ o ≤ 27) ∨ (o = 0 ∧ j = 47) ∨ o = 15 ∨ o = 28 ∨ (o = 0 ∧ (j = 24 ∨ j = 49 ∨ j = 52 ∨ j = 56)) ∨ (30 ≤ o ∧ o ≤ 33) ∨ ((o = 6 ∨ o = 7 ∨ o = 9) ∧ j = 1) ∨ (o = 10 ∧ j = 64 * 1 + (lo + n) % 64)) → M8 o j = M o j := fun o j ho => by rw [iM o j (by omega), hM o j (by omega) (by omega) (by omega)]
  have osh : ∀ a j, 25 ≤ a → a ≤ 27 → j < m → M8 a j = M a (j + 1) := fun a j h1 h2 hj => by rw [msh a j h1 h2 hj, fM _ _ (by omega), hM _ _ (by omega) (by omega) (by omega)]
  have ez : ∀ f, sz M8 f = sz M f := fun f => by unfold sz; rw [oM 1 _ (by omega), oM 2 _ (by omega)]
  refine h0.put ((LT.ofT3 hT hn).cg (fun _ _ _ => rfl) (fun o j ho => fp _ _ (by omega)) (Int.le_of_eq (fp _ _ (by omega)).symm)) ⟨lo + e, n - e + 1, ⟨⟨?_, ?_, by omega, tc.2.2.2⟩, ⟨?_, ?_, ?_, ?_⟩, ?_, ?_, ?_, fun j a b => ?_⟩, by omega⟩ ⟨D + 1, m, hq.pop h26 (fun o j _ h1 h2 => oC _ _ (by omega)) (by rw [iC _ _ (by omega)]; exact c1) (fun o j ho => oM _ _ (by omega)) m47 osh, by omega⟩ (hDE.pop hq.1.2.2.1 m47 osh (fun o j ho => oM _ _ (by omega)) (oM _ _ (by omega)) (oM _ _ (by omega)) (.inr ⟨h25, oM _ _ (by omega), by rw [iM 6 1 (by omega), m6', m6]; omega⟩)) (hT.2.1.cg (fun _ _ _ => rfl) (fun o j ho => fp _ _ (by omega))) (hT.2.2.1.cg (fun _ _ _ => rfl) (fun o j ho => fp _ _ (by omega))) (fun o j ho => oC _ _ (by omega)) (fun o j ho => oM _ _ (by omega))
  · rw [iC _ _ (by omega)]; exact c4
  · rw [iC _ _ (by omega), c3]; congr 1; omega
  · rw [iM _ _ (by omega)]; exact m7'
  · rw [iM _ _ (by omega), m6']; congr 1; omega
  · rw [iM _ _ (by omega), iC 385 5 (by omega), m9', c5]
  · rw [oM _ _ (by omega), oC 385 6 (by omega)]; exact m8
  · rw [iC 385 5 (by omega), c5, sm_snoc, show lo + e + (n - e) = lo + n by omega, iC (385 + 2) ((lo + n) % 64) (by omega), c7]
    congr 1
    refine sm_cg (fun j a b => ?_)
    rw [← (hsz j (by omega) (by omega)).2.1]
    exact (oC (385 + 2) _ (by omega)).symm
  · rw [iC 385 5 (by omega), c5, oC 385 6 (by omega)]; omega
  · rw [oC 385 6 (by omega)]; exact tcap
  · rw [ez, oM 0 0 (by omega)]
    by_cases q : j = lo + n
    · rw [q, iC (385 + 1) _ (by omega), iC (385 + 2) _ (by omega), iM 10 _ (by omega), c6, c7, m10]
      exact ⟨rfl, hf, rfl⟩
    · obtain ⟨g1, g2, g3⟩ := ti j (by omega) (by omega)
      rw [oC (385 + 1) _ (by omega), oC (385 + 2) _ (by omega), oM 10 _ (by omega)]
      exact ⟨g1, g2, g3⟩
