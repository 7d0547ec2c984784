/-! ===== the mathematics, part 21: an octet that ends an insertion ===== -/
theorem FJ.stepC1 {u i lo n : Nat} {C M C1 M5 : hq_M} (h : FJ u i C M) (hX : TB C M 385 1 lo n) (hxb : lo + n ≤ 800000) (c3 : C1 385 3 = ((lo + n + 1 : Nat) : Int)) (hC : ∀ q j, ¬ ((375 ≤ q ∧ q ≤ 379) ∨ (385 ≤ q ∧ q ≤ 388)) → C1 q j = C q j) (m6 : M5 6 1 = ((lo + n + 1 : Nat) : Int)) (hM : ∀ o j, ¬ ((o = 6 ∨ o = 7 ∨ o = 9) ∧ j = 1) → ¬ (o = 10 ∧ 64 ≤ j) → ¬ (o = 26 ∧ j = 0) → M5 o j = M o j) : T3 (M 6 1) C1 M5 := by
  obtain ⟨-, -, -, hL, ⟨lo1, n1, hE, -⟩, -, -, hDE, hR, hK⟩ := h
  have e61 := hX.2.1.2.1
  have e60 := hE.2.1.2.1
  have eb := hE.1.2.2.1
  refine ⟨hL.cg (fun o j ho => hC _ _ (by omega)) (fun o j ho => ?_) (by rw [up61 (by omega), hM 6 0 (by omega) (by omega) (by omega)]; exact Int.le_refl _), hR.cg (fun o j ho => hC _ _ (by omega)) (fun o j ho => hM _ _ (by omega) (by omega) (by omega)), ?_, by rw [c3, m6], by rw [m6]; omega, by rw [hM 6 0 (by omega) (by omega) (by omega)]; omega⟩
  · by_cases q : o = 6 ∧ j = 1
    · rw [q.1, q.2, up_self]
    · rw [up61 q]; exact hM _ _ (by omega) (by omega) (by omega)
  · obtain ⟨k1, k2, ⟨k3, k4, k5⟩, k6⟩ := hK
    unfold KN
    rw [hC 370 5 (by omega), hC 384 2 (by omega), hM 0 23 (by omega) (by omega) (by omega), hM 0 24 (by omega) (by omega) (by omega), hM 0 39 (by omega) (by omega) (by omega), hM 7 0 (by omega) (by omega) (by omega), m6]
    exact ⟨k1, k2, ⟨k3, k4, by omega⟩, k6⟩
theorem LT.ofT3 {c0 : Int} {C M : hq_M} (h : T3 c0 C M) (hn : NR M) : LT C M := by
  obtain ⟨⟨l1, l2, l3, l4, l5⟩, -⟩ := h
  rw [up61 (by omega)] at l1 l2 l5
  refine ⟨l1, l2, l3, l4, fun k hk => ?_⟩
  obtain ⟨g1, g2, g3, b1, b2, b3, b4, b5, b6, b7, b8, -⟩ := l5 k hk
  have e : ∀ o j, ¬ (o = 6 ∧ j = 1) → hq_up M 6 1 c0 o j = M o j := fun o j ho => up61 ho
  rw [e 17 k (by omega), e 13 k (by omega), e 11 k (by omega), e 12 k (by omega), e 14 k (by omega), e 15 k (by omega), e 16 k (by omega)] at *
  rw [show sg (hq_up M 6 1 c0) 18 (6 * k) (M 17 k).toNat = sg M 18 (6 * k) (M 17 k).toNat from sg_eq (fun j _ => e _ _ (by omega))] at g1
  rw [show sg (hq_up M 6 1 c0) 20 (112 * k) (M 13 k).toNat = sg M 20 (112 * k) (M 13 k).toNat from sg_eq (fun j _ => e _ _ (by omega))] at g2
  rw [e 6 0 (by omega)] at b6 b7 b8
  exact ⟨g1, g2, g3, b1, b2, b3, b4, b5, b6, b7, fun j hj => by have := b8 j hj; rw [e 19 _ (by omega)] at this; exact this, hn k hk⟩
