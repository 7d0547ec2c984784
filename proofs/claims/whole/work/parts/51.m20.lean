/-! ===== the mathematics, part 20: one octet of the stream, on both sides ===== -/
theorem FJ.put {u i i' : Nat} {C M C' M' : hq_M} (h : FJ u i C M) (hL : LT C' M') (hX : ∃ lo n, TB C' M' 385 1 lo n ∧ lo + n ≤ 800000) (hQ : ∃ D m, SQi C' M' D m i' ∧ D + m ≤ 8 * u) (hDE : DE M') (hR : RP C' M') (hK : KN C' M') (hC : ∀ o j, ¬ ((168 ≤ o ∧ o < 370) ∨ (375 ≤ o ∧ o ≤ 379) ∨ (384 ≤ o ∧ o ≤ 390)) → C' o j = C o j) (hM : ∀ o j, ¬ (o = 15 ∨ (24 ≤ o ∧ o ≤ 28) ∨ (30 ≤ o ∧ o ≤ 33) ∨ (o = 0 ∧ (j = 24 ∨ j = 47 ∨ j = 49 ∨ j = 52 ∨ j = 56)) ∨ (6 ≤ o ∧ o ≤ 9 ∧ j = 1) ∨ (o = 10 ∧ 64 ≤ j)) → M' o j = M o j) : FJ u i' C' M' := by
  obtain ⟨hT, hD, hS, -, ⟨lo, n, hE, hH, hb⟩, -, ⟨D0, m0, -, hb0⟩, -, -, -⟩ := h
  obtain ⟨D1, m1, hq1, hb1⟩ := hQ
  exact ⟨hT.cg (fun o j ho => hC o j (by omega)) (fun o j ho => hM o j (by omega)), hD.cg (fun o j ho => hC o j (by omega)) (fun o j ho => hM o j (by omega)), hS.cg (fun o j ho => hC o j (by omega)) (fun o j ho => hM o j (by omega)), hL, ⟨lo, n, hE.cg (fun o j ho => hC o j (by omega)) (fun o j ho => hM o j (by omega)), hH.cg (fun j => hC _ _ (by omega)) (fun o j ho => hM o j (by omega)), hb⟩, hX, ⟨D1, m1, hq1, hb1, hb0.2.cg (hC _ _ (by omega))⟩, hDE, hR, hK⟩
/-- an octet that ends no order -/
theorem FJ.stepA {u i D m : Nat} {C M C' M' : hq_M} (h : FJ u i C M) (hq : SQi C M D (m + 1) i) (hb : D + m + 1 ≤ 8 * u) (h2 : 2 ≤ M 26 0) (c9 : C' 379 (D % 256) = M 26 0 - 1) (hC : ∀ q j, ¬ (q = 379 ∧ j = D % 256) → C' q j = C q j) (m26 : M' 26 0 = M 26 0 - 1) (hM : ∀ q j, ¬ (q = 26 ∧ j = 0) → M' q j = M q j) : FJ u (i + 1) C' M' := by
  have h0 := h
  obtain ⟨-, -, -, hL, -, ⟨lo, n, hX, hxb⟩, -, hDE, hR, hK⟩ := h
  exact h0.put (hL.cg (fun o j ho => hC _ _ (by omega)) (fun o j ho => hM _ _ (by omega)) (Int.le_of_eq (hM _ _ (by omega)).symm)) ⟨lo, n, hX.cg (fun o j ho => hC _ _ (by omega)) (fun o j ho => hM _ _ (by omega)), hxb⟩ ⟨D, m + 1, hq.dec h2 (fun o j _ ho => hC _ _ ho) c9 (fun o j _ ho => hM _ _ ho) m26, by omega⟩ (hDE.cg (fun o j ho => hM _ _ (by omega))) (hR.cg (fun o j ho => hC _ _ (by omega)) (fun o j ho => hM _ _ (by omega))) (hK.cg (fun o j ho => hC _ _ (by omega)) (fun o j ho => hM _ _ (by omega))) (fun o j ho => hC _ _ (by omega)) (fun o j ho => hM _ _ (by omega))
/-- an octet that ends a change of the capacity -/
theorem FJ.stepB {u i D m lo n e : Nat} {C M C' M' : hq_M} (h : FJ u i C M) (hq : SQi C M D (m + 1) i) (hb : D + m + 1 ≤ 8 * u) (hX : TB C M 385 1 lo n) (hxb : lo + n ≤ 800000) (h26 : M 26 0 = 1) (h25 : M 25 0 = 0) (hv : 0 ≤ M 27 0 ∧ M 27 0 ≤ 200) (he : IsEv (es M 1) lo n (M 27 0) e) (c1 : C' 375 4 = ((D + 1 : Nat) : Int)) (c2 : C' 385 4 = ((lo + e : Nat) : Int)) (c3 : C' 385 5 = sm (es M 1) (lo + e) (n - e)) (c4 : C' 385 6 = M 27 0) (hC : ∀ q j, ¬ ((q = 379 ∧ j = D % 256) ∨ (q = 375 ∧ j = 4) ∨ (q = 385 ∧ (j = 4 ∨ j = 5 ∨ j = 6))) → C' q j = C q j) (m1 : M' 7 1 = ((lo + e : Nat) : Int)) (m2 : M' 9 1 = sm (es M 1) (lo + e) (n - e)) (m3 : M' 8 1 = M 27 0) (m4 : M' 0 47 = (m : Int)) (m5 : ∀ a j, 25 ≤ a → a ≤ 27 → j < m → M' a j = M a (j + 1)) (hM : ∀ o j, ¬ ((25 ≤ o ∧ o ≤ 27) ∨ (o = 0 ∧ j = 47) ∨ ((o = 7 ∨ o = 8 ∨ o = 9) ∧ j = 1)) → M' o j = M o j) : FJ u (i + 1) C' M' := by
  have h0 := h
  obtain ⟨-, -, ⟨oo, -, -, -, -, hS⟩, hL, -, -, -, hDE, hR, hK⟩ := h
  have hsz := hX.szs hS
  obtain ⟨tc, ⟨m7, m6, m9, m8⟩, t5, tle, tcap, ti⟩ := hX
  have hen := he.1
  have hsl := he.2.1
  refine h0.put (hL.cg (fun o j ho => hC _ _ (by omega)) (fun o j ho => hM _ _ (by omega)) (Int.le_of_eq (hM _ _ (by omega)).symm)) ⟨lo + e, n - e, ⟨⟨c2, ?_, by omega, tc.2.2.2⟩, ⟨m1, ?_, by rw [m2, c3], by rw [m3, c4]⟩, ?_, by rw [c3, c4]; exact hsl, by rw [c4]; exact hv, fun j a b => ?_⟩, by omega⟩ ⟨D + 1, m, hq.pop h26 (fun o j _ h1 h2 => hC _ _ (by omega)) c1 (fun o j ho => hM _ _ (by omega)) m4 m5, by omega⟩ (hDE.pop hq.1.2.2.1 m4 m5 (fun o j ho => hM _ _ (by omega)) (hM _ _ (by omega)) (hM _ _ (by omega)) (.inl ⟨h25, m3, hM _ _ (by omega)⟩)) (hR.cg (fun o j ho => hC _ _ (by omega)) (fun o j ho => hM _ _ (by omega))) (hK.cg (fun o j ho => hC _ _ (by omega)) (fun o j ho => hM _ _ (by omega))) (fun o j ho => hC _ _ (by omega)) (fun o j ho => hM _ _ (by omega))
  · rw [hC _ _ (by omega), tc.2.1]; congr 1; omega
  · rw [hM _ _ (by omega), m6]; congr 1; omega
  · rw [c3]
    refine sm_cg (fun j a b => ?_)
    rw [← (hsz j (by omega) (by omega)).2.1]
    exact (hC _ _ (by omega)).symm
  · obtain ⟨g1, g2, g3⟩ := ti j (by omega) (by omega)
    have ez : ∀ f, sz M' f = sz M f := fun f => by unfold sz; rw [hM 1 _ (by omega), hM 2 _ (by omega)]
    rw [hC (385 + 1) _ (by omega), hC (385 + 2) _ (by omega), hM 10 _ (by omega), hM 0 0 (by omega), ez]
    exact ⟨g1, g2, g3⟩
