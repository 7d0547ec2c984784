/-! ===== the mathematics, part 14: the calls inserts, repeats, capacity ===== -/
theorem JJ.toWE {u : Nat} {C M : hq_M} (h : JJ u C M) (hu : 8 * u + 8 ≤ 900000) : ∃ o lo n D m : Nat, WE C M 370 o lo n D m 40 (8 * u) ∧ C 0 9 = (o : Int) ∧ (o = 8 ∨ o = 88) := by
  obtain ⟨-, -, ⟨o, ho, s1, s2, s3, s4⟩, hL, ⟨lo, n, hE, hH, hb⟩, -, ⟨D, m, hQ, hb2⟩, hDE, -, hK⟩ := h
  refine ⟨o, lo, n, D, m, ⟨⟨ho, .inl rfl, by decide, hb, Nat.le_trans hb2.1 (Nat.le_add_right _ _), by omega⟩, s3, s4, hE, hH, hQ.toW, hK.1, ⟨hK.2.2.1.1, hK.2.2.1.2.1⟩, ⟨hL.2.1, fun c hc => ?_, ?_, fun j hj => ?_⟩, hDE⟩, s1, ho⟩
  · obtain ⟨-, -, -, b1, -, -, -, -, -, -, b8, -⟩ := hL.2.2.2.2 c hc
    exact ⟨b1, b8⟩
  · rw [hK.2.2.2]; decide
  · rw [hK.2.2.2] at hj; exact absurd hj (by simp)
theorem JJ.ofWE {u o lo n D m B : Nat} {C M C' M' : hq_M} (h : JJ u C M) (ho : C 0 9 = (o : Int)) (hW : WE C' M' 370 o lo n D m 40 B) (hB : B ≤ 8 * (u + 1)) (h6 : M 6 0 ≤ M' 6 0) (hC : ∀ q j, ¬ (370 ≤ q ∧ q ≤ 383) → C' q j = C q j) (hM : ∀ q j, ¬ (q = 28 ∨ (q = 0 ∧ (j = 43 ∨ j = 47 ∨ j = 49)) ∨ (24 ≤ q ∧ q ≤ 27) ∨ (6 ≤ q ∧ q ≤ 9 ∧ j = 0) ∨ (q = 10 ∧ j < 64)) → M' q j = M q j) : JJ (u + 1) C' M' := by
  obtain ⟨hT, hD, ⟨o', ho', s1, s2, s3, s4⟩, hL, -, ⟨lo2, n2, hX⟩, ⟨D0, m0, -, hb0⟩, -, hR, hK⟩ := h
  have ekz : kz 370 = 0 := rfl
  obtain ⟨⟨w1, w2, w3, w4, w5, w6⟩, g4, gS, gT, gH, gQ, g5, gkn, gSM, gDE⟩ := hW
  refine ⟨hT.cg (fun q j hq => hC _ _ (by omega)) (fun q j hq => hM _ _ (by omega)), hD.cg (fun q j hq => hC _ _ (by omega)) (fun q j hq => hM _ _ (by omega)), ⟨o, w1, by rw [hC _ _ (by omega)]; exact ho, by rw [hC _ _ (by omega), s2]; omega, g4, gS⟩, hL.cg (fun q j hq => hC _ _ (by omega)) (fun q j hq => hM _ _ (by omega)) h6, ⟨lo, n, gT, gH, by omega⟩, ⟨lo2, n2, hX.cg (fun q j hq => hC _ _ (by omega)) (fun q j hq => hM _ _ (by omega))⟩, ⟨D, m, gQ.1.1 rfl, by omega, (hb0.2.cg (hC _ _ (by omega))).mono (by omega)⟩, gDE, hR.cg (fun q j hq => hC _ _ (by omega)) (fun q j hq => hM _ _ (by omega)), ?_⟩
  obtain ⟨k1, k2, ⟨k3, k4, k5⟩, k6⟩ := hK
  unfold KN
  rw [hC 384 2 (by omega), hM 0 24 (by omega), hM 6 1 (by omega), hM 0 39 (by omega)]
  exact ⟨g5, k2, ⟨gkn.1, gkn.2, k5⟩, k6⟩
theorem Fi.cg0 {M M' : hq_M} (f : Fi M M') : ∀ q j, ¬ (q = 28 ∨ (q = 0 ∧ j = 49)) → M' q j = M q j := fun q j hq => f q j (by omega) (by omega)
theorem o_inserts {u : Nat} {C M : hq_M} (h : JJ u C M) (hu : 8 * u + 8 ≤ 900000) (v : Int) : w_X11_inserts v C (fun z C' => w_X12_inserts v M (fun z' M' => z = z' ∧ JJ (u + 1) C' M')) := by
  have hJ := h
  obtain ⟨o, lo, n, D, m, hW, h09, ho⟩ := h.toWE hu
  have hF := hW.2.2.1.1
  have pc7 : PC (o + 1) 7 := by rcases ho with rfl | rfl; exact PC_9; exact PC_89
  have m60 := hW.2.2.2.1.2.1.2.1
  unfold w_X11_inserts
  by_cases q : 0 ≤ v ∧ v < M 0 0
  · have hv : v = ((v.toNat : Nat) : Int) := by omega
    have hil := fun x3 x7 => ins_len (M := M) (f := v.toNat) (x3 := x3) (x7 := x7) (cnt := ((lo + n : Nat) : Int)) hW.2.2.1.2.2.1 (by omega)
    refine x10_insertField (f := v.toNat) hW hv (by omega) (fun x3 x7 r e C' hfi hio hC' => ?_)
    unfold w_X12_inserts
    refine m_isField (by omega) ?_
    rw [if_pos q]
    refine ⟨fun e => absurd e (by decide), fun _ => m_insertsField (f := v.toNat) hW hv (by omega) hfi hio (fun M' hM' => ⟨rfl, ?_⟩)⟩
    rcases hM' with ⟨a, fM⟩ | ⟨a, hM'⟩
    · rcases hC' with ⟨b, fC⟩ | ⟨b, hC'⟩
      · have fM := fM.cg0
        exact hJ.ofWE h09 (hW.cg (fun q j hq => fC _ _ (by omega) (by omega)) (fun q j hq => fM _ _ (by omega))) (by omega) (by rw [fM 6 0 (by omega)]; omega) (fun q j hq => fC _ _ (by omega) (by omega)) (fun q j hq => fM _ _ (by omega))
      · omega
    · rcases hC' with ⟨b, fC⟩ | ⟨b, hC'⟩
      · omega
      · have hrel := IOx.rel hW (by omega) (hil x3 x7).1 (by omega) a hio hC' hM'
        have p6 := hM'.2.1
        obtain ⟨-, -, -, -, -, -, -, -, -, -, fC⟩ := hC'
        obtain ⟨-, -, -, -, -, -, -, -, -, -, -, fM⟩ := hM'
        exact hJ.ofWE h09 hrel (by omega) (by rw [p6, m60]; omega) (fun q j hq => fC _ _ (by omega)) (fun q j hq => fM _ _ (by omega))
  · unfold w_X10_insertField
    intro o2 e2
    have : o2 = o := by have := hW.2.1; omega
    subst this
    refine x3_at pc7 hW.2.2.1.2.2.2.1.1 (by omega) ?_
    rw [if_neg q]
    refine ⟨fun _ => ?_, fun o3 e => (by cases e)⟩
    unfold w_X12_inserts
    refine m_isField (by omega) ?_
    rw [if_neg q]
    exact ⟨fun _ => ⟨rfl, hJ.mono (by omega)⟩, fun e => absurd rfl e⟩
