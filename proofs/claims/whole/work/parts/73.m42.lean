/-! ===== the mathematics, part 42: the call tells; a fresh state ===== -/
theorem JJ.fresh {u o : Nat} {C M : hq_M} (ho : o = 8 ∨ o = 88) (c9 : C 0 9 = (o : Int)) (c10 : C 0 10 = 96 - (o : Int)) (c4 : C 370 4 = (o : Int)) (hS : SS C o M) (h1 : Rw C 1 []) (h3 : Rw C 3 []) (h168 : C 168 1 = 0) (hnum : ∀ k : Nat, k < 40 → C (170 + 5 * k) 0 = (k : Int)) (h405 : C 405 0 = 40) (h396 : TW u C) (t1 : ∀ j, 3 ≤ j → j ≤ 6 → C 371 j = 0) (t2 : ∀ j, 3 ≤ j → j ≤ 6 → C 385 j = 0) (h376 : Rw C 376 []) (s3 : C 375 3 = 0) (s4 : C 375 4 = 0) (h389 : Rw C 389 []) (k5 : C 370 5 = 0) (k2 : C 384 2 = 0) (m9 : M 0 9 = 0) (m37 : M 0 37 = 0) (m25 : M 0 25 = 0) (mt : ∀ q j, 6 ≤ q → q ≤ 9 → j < 2 → M q j = 0) (m43 : M 0 43 = 0) (m47 : M 0 47 = 0) (m52 : M 0 52 = 0) (m56 : M 0 56 = 0) (m23 : M 0 23 = 0) (m24 : M 0 24 = 0) (m39 : M 0 39 = 0) : JJ u C M := by
  have z : ∀ a s, sg M a s (0 : Int).toNat = [] := fun a s => rfl
  refine ⟨⟨by omega, by omega, by rw [m9]; exact h1, fun i hi => by rw [m9] at hi; exact absurd hi (by simp)⟩, ⟨by omega, by omega, by rw [m37]; exact h3, fun i hi => by rw [m37] at hi; exact absurd hi (by simp)⟩, ⟨o, ho, c9, c10, c4, hS⟩, ⟨by rw [h168, m25], by omega, hnum, h405, fun k hk => by rw [m25] at hk; exact absurd hk (by simp)⟩, ⟨0, 0, ⟨⟨t1 4 (by omega) (by omega), t1 3 (by omega) (by omega), by omega, by decide +kernel, by decide +kernel, by decide +kernel⟩, ⟨mt 7 0 (by omega) (by omega) (by omega), mt 6 0 (by omega) (by omega) (by omega), by rw [mt 9 0 (by omega) (by omega) (by omega), t1 5 (by omega) (by omega)], by rw [mt 8 0 (by omega) (by omega) (by omega), t1 6 (by omega) (by omega)]⟩, by rw [t1 5 (by omega) (by omega)]; rfl, by rw [t1 5 (by omega) (by omega), t1 6 (by omega) (by omega)]; exact Int.le_refl _, by rw [t1 6 (by omega) (by omega)]; decide, fun i a b => absurd b (by omega)⟩, fun i a b => absurd b (by omega), by omega⟩, ⟨0, 0, ⟨⟨t2 4 (by omega) (by omega), t2 3 (by omega) (by omega), by omega, by decide +kernel, by decide +kernel, by decide +kernel⟩, ⟨mt 7 1 (by omega) (by omega) (by omega), mt 6 1 (by omega) (by omega) (by omega), by rw [mt 9 1 (by omega) (by omega) (by omega), t2 5 (by omega) (by omega)], by rw [mt 8 1 (by omega) (by omega) (by omega), t2 6 (by omega) (by omega)]⟩, by rw [t2 5 (by omega) (by omega)]; rfl, by rw [t2 5 (by omega) (by omega), t2 6 (by omega) (by omega)]; exact Int.le_refl _, by rw [t2 6 (by omega) (by omega)]; decide, fun i a b => absurd b (by omega)⟩⟩, ⟨0, 0, ⟨⟨s4, s3, m47, by omega⟩, ⟨by omega, by omega, by rw [m43]; exact h376⟩, by rw [m43]; rfl, fun i hi => absurd hi (by omega), fun i hi => absurd hi (by omega), by decide +kernel, by decide +kernel, by decide +kernel⟩, by omega, h396⟩, ⟨by rw [m47, mt 8 1 (by omega) (by omega) (by omega), mt 8 0 (by omega) (by omega) (by omega)]; rfl, fun i hi => by rw [m47] at hi; exact absurd hi (by simp), by rw [m47, mt 6 1 (by omega) (by omega) (by omega), mt 6 0 (by omega) (by omega) (by omega)]; rfl⟩, ⟨⟨by omega, by omega⟩, by rw [m56, m52], by rw [m52]; exact h389, fun i hi => by rw [m52] at hi; exact absurd hi (by simp), by rw [m52, m23, m24]; rfl⟩, ⟨by rw [k5, m23], by rw [k2, m24], ⟨by rw [mt 7 0 (by omega) (by omega) (by omega), m23]; exact Int.le_refl _, by rw [m23]; exact Int.le_refl _, by rw [m24, mt 6 1 (by omega) (by omega) (by omega)]; exact Int.le_refl _⟩, m39⟩⟩
theorem m_tells76 {M : hq_M} {k118 : hq_M → Prop} {k : Int → hq_M → Prop} (hk : ∀ M', (∀ j, j < 16 → M' 1 j = M 1 (16 + j) ∧ M' 2 j = M 2 (16 + j)) → (∀ o j, ¬ ((o = 1 ∨ o = 2) ∧ j < 16) → M' o j = M o j) → k118 M') : ∃ m, l_X12_tells_76 k118 k m 0 M := by
  refine ⟨17, ?_⟩
  have key : ∀ (d i : Nat) (z : Int) (P : hq_M), z = (i : Int) → i + d = 16 → (∀ j, j < i → P 1 j = M 1 (16 + j) ∧ P 2 j = M 2 (16 + j)) → (∀ o j, ¬ ((o = 1 ∨ o = 2) ∧ j < i) → P o j = M o j) → l_X12_tells_76 k118 k (d + 1) z P := by
    intro d
    induction d with
    | zero =>
      intro i z P hz hd hlo hF
      rw [l_X12_tells_76]
      exact ⟨fun _ => hk P (fun j hj => hlo j (by omega)) (fun o j ho => hF o j (by omega)), fun q => by omega⟩
    | succ d ih =>
      intro i z P hz hd hlo hF
      rw [l_X12_tells_76, show z.toNat = i by omega, show (16 + z).toNat = 16 + i by omega, hF 1 (16 + i) (by omega)]
      refine ⟨fun q => by omega, fun _ => ⟨⟨by omega, by omega⟩, ⟨by omega, by omega⟩, ⟨by omega, by omega⟩, fun M5 e5 => ?_⟩⟩
      rw [show M5 2 (16 + i) = M 2 (16 + i) by rw [e5, hq_up_n _ _ (by omega)]; exact hF _ _ (by omega)]
      refine ⟨⟨by omega, by omega⟩, ⟨by omega, by omega⟩, ⟨by omega, by omega⟩, fun M10 e10 => ⟨⟨by omega, by omega⟩, fun x11 e11 => ih (i + 1) x11 M10 (by omega) (by omega) (fun j hj => ?_) (fun o j ho => ?_)⟩⟩
      · by_cases q : j = i
        · rw [q, e10, up_self, hq_up_n _ _ (by omega), e5, up_self]
          exact ⟨rfl, rfl⟩
        · rw [e10, hq_up_n _ _ (by omega), hq_up_n _ _ (by omega), e5, hq_up_n _ _ (by omega), hq_up_n _ _ (by omega)]
          exact hlo j (by omega)
      · rw [e10, hq_up_n _ _ (by omega), e5, hq_up_n _ _ (by omega)]; exact hF o j (by omega)
  exact key 16 0 0 M rfl (by omega) (fun j hj => absurd hj (by omega)) (fun _ _ _ => rfl)
theorem m_tells120 {M : hq_M} {k162 : hq_M → Prop} {k : Int → hq_M → Prop} (hk : ∀ M', (∀ j, j < 96 → M' 3 j = M 3 (96 + j) ∧ M' 4 j = M 4 (96 + j)) → (∀ o j, ¬ ((o = 3 ∨ o = 4) ∧ j < 96) → M' o j = M o j) → k162 M') : ∃ m, l_X12_tells_120 k162 k m 0 M := by
  refine ⟨97, ?_⟩
  have key : ∀ (d i : Nat) (z : Int) (P : hq_M), z = (i : Int) → i + d = 96 → (∀ j, j < i → P 3 j = M 3 (96 + j) ∧ P 4 j = M 4 (96 + j)) → (∀ o j, ¬ ((o = 3 ∨ o = 4) ∧ j < i) → P o j = M o j) → l_X12_tells_120 k162 k (d + 1) z P := by
    intro d
    induction d with
    | zero =>
      intro i z P hz hd hlo hF
      rw [l_X12_tells_120]
      exact ⟨fun _ => hk P (fun j hj => hlo j (by omega)) (fun o j ho => hF o j (by omega)), fun q => by omega⟩
    | succ d ih =>
      intro i z P hz hd hlo hF
      rw [l_X12_tells_120, show z.toNat = i by omega, show (96 + z).toNat = 96 + i by omega, hF 3 (96 + i) (by omega)]
      refine ⟨fun q => by omega, fun _ => ⟨⟨by omega, by omega⟩, ⟨by omega, by omega⟩, ⟨by omega, by omega⟩, fun M5 e5 => ?_⟩⟩
      rw [show M5 4 (96 + i) = M 4 (96 + i) by rw [e5, hq_up_n _ _ (by omega)]; exact hF _ _ (by omega)]
      refine ⟨⟨by omega, by omega⟩, ⟨by omega, by omega⟩, ⟨by omega, by omega⟩, fun M10 e10 => ⟨⟨by omega, by omega⟩, fun x11 e11 => ih (i + 1) x11 M10 (by omega) (by omega) (fun j hj => ?_) (fun o j ho => ?_)⟩⟩
      · by_cases q : j = i
        · rw [q, e10, up_self, hq_up_n _ _ (by omega), e5, up_self]
          exact ⟨rfl, rfl⟩
        · rw [e10, hq_up_n _ _ (by omega), hq_up_n _ _ (by omega), e5, hq_up_n _ _ (by omega), hq_up_n _ _ (by omega)]
          exact hlo j (by omega)
      · rw [e10, hq_up_n _ _ (by omega), e5, hq_up_n _ _ (by omega)]; exact hF o j (by omega)
  exact key 96 0 0 M rfl (by omega) (fun j hj => absurd hj (by omega)) (fun _ _ _ => rfl)
theorem m_begins {M : hq_M} {kk : hq_M → Prop} (hk : ∀ M', (∀ q j, 6 ≤ q → q ≤ 9 → j < 2 → M' q j = 0) → (∀ j, j = 23 ∨ j = 24 ∨ j = 25 ∨ j = 37 ∨ j = 39 ∨ j = 43 ∨ j = 47 ∨ j = 52 ∨ j = 56 → M' 0 j = 0) → (∀ o j, ¬ ((6 ≤ o ∧ o ≤ 9 ∧ j < 2) ∨ (o = 0 ∧ (j = 23 ∨ j = 24 ∨ j = 25 ∨ j = 37 ∨ j = 39 ∨ j = 43 ∨ j = 47 ∨ j = 52 ∨ j = 56))) → M' o j = M o j) → kk M') : w_X12_begins M kk := by
  unfold w_X12_begins
  refine ⟨3, ?_⟩
  rw [l_X12_begins_2]
  refine ⟨fun q => by omega, fun _ => ⟨by decide, fun A2 a2 => ⟨by decide, fun A4 a4 => ⟨by decide, fun A6 a6 => ⟨by decide, fun A8 a8 => ⟨by decide, fun x9 e9 => ?_⟩⟩⟩⟩⟩⟩
  subst e9
  rw [l_X12_begins_2]
  refine ⟨fun q => by omega, fun _ => ⟨by decide, fun B2 b2 => ⟨by decide, fun B4 b4 => ⟨by decide, fun B6 b6 => ⟨by decide, fun B8 b8 => ⟨by decide, fun x9 e9 => ?_⟩⟩⟩⟩⟩⟩
  subst e9
  rw [l_X12_begins_2]
  refine ⟨fun _ => ?_, fun q => absurd (by decide) q⟩
  intro M2 m2 M3 m3 M4 m4 M5 m5 M6 m6 M7 m7 M8 m8 M9 m9 M10 m10
  have h1 : ∀ q j, ¬ (q = 0) → M10 q j = B8 q j := fun q j hq => by rw [m10, hq_up_n _ _ (by omega), m9, hq_up_n _ _ (by omega), m8, hq_up_n _ _ (by omega), m7, hq_up_n _ _ (by omega), m6, hq_up_n _ _ (by omega), m5, hq_up_n _ _ (by omega), m4, hq_up_n _ _ (by omega), m3, hq_up_n _ _ (by omega), m2, hq_up_n _ _ (by omega)]
  refine hk M10 (fun q j h6 h9 hj => ?_) (fun j hj => ?_) (fun o j ho => ?_)
  · rw [h1 q j (by omega), b8, b6, b4, b2, a8, a6, a4, a2]
    have hq : q = 6 ∨ q = 7 ∨ q = 8 ∨ q = 9 := by omega
    have hj2 : j = 0 ∨ j = 1 := by omega
    rcases hq with rfl | rfl | rfl | rfl <;> rcases hj2 with rfl | rfl <;> simp [hq_up]
  · rw [m10, m9, m8, m7, m6, m5, m4, m3, m2]
    rcases hj with rfl | rfl | rfl | rfl | rfl | rfl | rfl | rfl | rfl <;> simp [hq_up]
  · rw [m10, hq_up_n _ _ (by omega), m9, hq_up_n _ _ (by omega), m8, hq_up_n _ _ (by omega), m7, hq_up_n _ _ (by omega), m6, hq_up_n _ _ (by omega), m5, hq_up_n _ _ (by omega), m4, hq_up_n _ _ (by omega), m3, hq_up_n _ _ (by omega), m2, hq_up_n _ _ (by omega), b8, hq_up_n _ _ (by simp; omega), b6, hq_up_n _ _ (by simp; omega), b4, hq_up_n _ _ (by simp; omega), b2, hq_up_n _ _ (by simp; omega), a8, hq_up_n _ _ (by simp; omega), a6, hq_up_n _ _ (by simp; omega), a4, hq_up_n _ _ (by simp; omega), a2, hq_up_n _ _ (by simp; omega)]
theorem x11_restart {C : hq_M} {o : Nat} {kk : hq_M → Prop} (h9 : C 0 9 = (o : Int)) (hk : ∀ C', Rw C' 1 [] → Rw C' 3 [] → C' 168 1 = 0 → C' 370 4 = (o : Int) → (∀ j, 3 ≤ j → j ≤ 6 → C' 371 j = 0) → Rw C' 376 [] → C' 375 3 = 0 → C' 375 4 = 0 → C' 370 5 = 0 → (∀ j, 3 ≤ j → j ≤ 6 → C' 385 j = 0) → Rw C' 389 [] → C' 384 2 = 0 → (∀ q j, ¬ ((1 ≤ q ∧ q ≤ 4) ∨ (q = 168 ∧ j = 1) ∨ (q = 370 ∧ (j = 4 ∨ j = 5)) ∨ (q = 371 ∧ 3 ≤ j ∧ j ≤ 6) ∨ (q = 375 ∧ (j = 3 ∨ j = 4)) ∨ q = 376 ∨ q = 377 ∨ (q = 385 ∧ 3 ≤ j ∧ j ≤ 6) ∨ q = 389 ∨ q = 390 ∨ (q = 384 ∧ j = 2)) → C' q j = C q j) → kk C') : w_X11_restart C kk := by
  unfold w_X11_restart
  refine x6_empty (fun C1 r1 f1 => x6_empty (fun C2 r2 f2 => ?_))
  intro C3 e3
  have g3 : ∀ q j, ¬ ((1 ≤ q ∧ q ≤ 4) ∨ (q = 168 ∧ j = 1)) → C3 q j = C q j := fun q j hq => by rw [e3, hq_up_n _ _ (by omega), f2 _ _ (by omega) (by omega), f1 _ _ (by omega) (by omega)]
  intro o5 e5
  have eo : o = o5 := by rw [e5, g3 _ _ (by omega), h9]; omega
  subst eo
  unfold w_X10_restart
  intro D1 d1
  unfold w_X9_restart
  intro D2 d2 D3 d3 D4 d4 D5 d5
  unfold w_X8_restart
  refine x6_empty (fun D6 r6 f6 => ?_)
  intro D7 d7 D8 d8 D9 d9
  unfold w_X5_restart w_X9_restart
  intro E1 x1 E2 x2 E3 x3 E4 x4
  refine x6_empty (fun E5 r5 f5 => ?_)
  intro E6 x6
  have p9 : ∀ q j, ¬ ((q = 385 ∧ 3 ≤ j ∧ j ≤ 6) ∨ q = 389 ∨ q = 390 ∨ (q = 384 ∧ j = 2)) → E6 q j = D9 q j := fun q j hq => by rw [x6, hq_up_n _ _ (by omega), f5 _ _ (by omega) (by omega), x4, hq_up_n _ _ (by omega), x3, hq_up_n _ _ (by omega), x2, hq_up_n _ _ (by omega), x1, hq_up_n _ _ (by omega)]
  have p6 : ∀ q j, ¬ ((q = 375 ∧ (j = 3 ∨ j = 4)) ∨ (q = 370 ∧ j = 5)) → D9 q j = D6 q j := fun q j hq => by rw [d9, hq_up_n _ _ (by omega), d8, hq_up_n _ _ (by omega), d7, hq_up_n _ _ (by omega)]
  have p3 : ∀ q j, ¬ ((q = 370 ∧ j = 4) ∨ (q = 371 ∧ 3 ≤ j ∧ j ≤ 6)) → D5 q j = C3 q j := fun q j hq => by rw [d5, hq_up_n _ _ (by omega), d4, hq_up_n _ _ (by omega), d3, hq_up_n _ _ (by omega), d2, hq_up_n _ _ (by omega), d1, hq_up_n _ _ (by omega)]
  refine hk E6 ?_ ?_ ?_ ?_ (fun j h1 h2 => ?_) ?_ ?_ ?_ ?_ (fun j h1 h2 => ?_) ?_ ?_ (fun q j hq => ?_)
  · refine r1.cg ?_ (fun j => ?_)
    · rw [p9 _ _ (by omega), p6 _ _ (by omega), f6 _ _ (by omega) (by omega), p3 _ _ (by omega), e3, hq_up_n _ _ (by omega), f2 _ _ (by omega) (by omega)]
    · rw [p9 _ _ (by omega), p6 _ _ (by omega), f6 _ _ (by omega) (by omega), p3 _ _ (by omega), e3, hq_up_n _ _ (by omega), f2 _ _ (by omega) (by omega)]
  · refine r2.cg ?_ (fun j => ?_)
    · rw [p9 _ _ (by omega), p6 _ _ (by omega), f6 _ _ (by omega) (by omega), p3 _ _ (by omega), e3, hq_up_n _ _ (by omega)]
    · rw [p9 _ _ (by omega), p6 _ _ (by omega), f6 _ _ (by omega) (by omega), p3 _ _ (by omega), e3, hq_up_n _ _ (by omega)]
  · rw [p9 _ _ (by omega), p6 _ _ (by omega), f6 _ _ (by omega) (by omega), p3 _ _ (by omega), e3, up_self]
  · rw [p9 _ _ (by omega), p6 _ _ (by omega), f6 _ _ (by omega) (by omega), d5, hq_up_n _ _ (by omega), d4, hq_up_n _ _ (by omega), d3, hq_up_n _ _ (by omega), d2, hq_up_n _ _ (by omega), d1, up_self]
  · rw [p9 _ _ (by omega), p6 _ _ (by omega), f6 _ _ (by omega) (by omega), d5, d4, d3, d2]
    have : j = 3 ∨ j = 4 ∨ j = 5 ∨ j = 6 := by omega
    rcases this with rfl | rfl | rfl | rfl <;> simp [hq_up]
  · exact r6.cg (by rw [p9 _ _ (by omega), p6 _ _ (by omega)]) (fun j => by rw [p9 _ _ (by omega), p6 _ _ (by omega)])
  · rw [p9 _ _ (by omega), d9, hq_up_n _ _ (by omega), d8, hq_up_n _ _ (by omega), d7, up_self]
  · rw [p9 _ _ (by omega), d9, hq_up_n _ _ (by omega), d8, up_self]
  · rw [p9 _ _ (by omega), d9, up_self]
  · rw [x6, hq_up_n _ _ (by omega), f5 _ _ (by omega) (by omega), x4, x3, x2, x1]
    have : j = 3 ∨ j = 4 ∨ j = 5 ∨ j = 6 := by omega
    rcases this with rfl | rfl | rfl | rfl <;> simp [hq_up]
  · exact r5.cg (by rw [x6, hq_up_n _ _ (by omega)]) (fun j => by rw [x6, hq_up_n _ _ (by omega)])
  · rw [x6, up_self]
  · rw [p9 _ _ (by omega), p6 _ _ (by omega), f6 _ _ (by omega) (by omega), p3 _ _ (by omega), g3 _ _ (by omega)]
