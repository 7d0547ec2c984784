/-! ===== the mathematics, part 33: the call cost ===== -/
theorem o_cost {u : Nat} {C M : hq_M} (h : JJ u C M) (hu : 8 * u + 8 ≤ 800000) (v : Int) : w_X11_cost v C (fun z C' => w_X12_cost v M (fun z' M' => z = z' ∧ JJ (u + 1) C' M')) := by
  have hJ := h
  have htw : TW u C := by
    obtain ⟨-, -, -, -, -, -, ⟨D0, m0, -, hb0⟩, -⟩ := h
    exact hb0.2
  unfold TW at htw
  obtain ⟨o, lo, n, D, m, hW, h09, ho⟩ := h.toWE (by omega)
  obtain ⟨hT, ⟨d1, d2, d3, d4⟩, -, hL, -, ⟨lo2, n2, hX⟩, -, -, hRP, hK⟩ := h
  obtain ⟨l1, l2, l3, l4, l5⟩ := hL
  have hk1 := kf_bd hRP hK (TBr hX).2 _ (Nat.le_refl _)
  have xb := (TBr hX).2
  have k4 := hK.2.2.1
  have k6 := hK.2.2.2
  have hk23 : M 0 23 ≤ 1000000 := by omega
  have tl : (sg M 21 0 (M 0 37).toNat).length = (M 0 37).toNat := sg_len _ _ _ _
  have w43 := hW.2.2.2.2.2.1.2.1
  have c376 : C 376 1 = M 0 43 := by
    have := w43.2.2.1
    rw [sg_len] at this
    have e : C 376 1 = (((M 0 43).toNat : Nat) : Int) := this
    omega
  have bad : ¬ (0 ≤ v ∧ v ≤ 2) → w_X12_cost v M (fun z' M' => -1 = z' ∧ JJ (u + 1) C M') := by
    intro hn
    unfold w_X12_cost
    refine m_in ?_
    rw [if_neg hn]
    exact ⟨fun e => absurd rfl e, fun _ => ⟨rfl, hJ.mono (by omega)⟩⟩
  have hLW : LW 391 405 40 := .inr ⟨rfl, rfl, rfl⟩
  unfold w_X11_cost
  refine ⟨fun q => bad (by omega), fun q => ⟨fun q2 => ?_, fun q2 => bad (by omega)⟩⟩
  refine x10_copyOf hW (by omega) (fun C1 D1 hW1 f1 => ?_)
  refine x0_begin hLW (d3.cg (f1 _ _ (by omega)) (fun j => f1 _ _ (by omega))) (by omega) (fun C2 r1 r3 z1 f2 => ?_)
  have f12 : ∀ q j, ¬ ((391 ≤ q ∧ q ≤ 400) ∨ (406 ≤ q ∧ q ≤ 409) ∨ (q = 405 ∧ 3 ≤ j ∧ j ≤ 7)) → C2 q j = C q j := fun q j hq => by rw [f2 _ _ (by omega), f1 _ _ (by omega)]
  refine x11_may (M := M) (o := o) l2 (by rw [f12 _ _ (by omega)]; exact l1) (fun i hi => ?_) (by rw [f12 _ _ (by omega)]; exact h09) (by rw [f12 _ _ (by omega)]; exact hW.2.2.1.2.2.2.2.2.2.1) (by rw [f12 _ _ (by omega)]; exact hW.2.2.2.2.2.2.1) ?_
  · obtain ⟨-, -, ⟨g3, -, -, -, g7⟩, -⟩ := l5 i hi
    rw [f12 _ _ (by omega), f12 _ _ (by omega)]
    exact ⟨g7, g3⟩
  have go : ∀ gv : Int, (gv = 0 ↔ v ≠ 2) → b_X11_cost_56 (boldv M v) gv (fun z C' => w_X12_cost v M (fun z' M' => z = z' ∧ JJ (u + 1) C' M')) C2 := by
    intro gv hgv
    unfold b_X11_cost_56
    obtain ⟨Ms, es⟩ : ∃ Ms : hq_M, Ms = sv29 M := ⟨_, rfl⟩
    obtain ⟨M2, e2⟩ : ∃ M2 : hq_M, M2 = hq_up (hq_up Ms 0 39 0) 0 41 0 := ⟨_, rfl⟩
    have fs : ∀ q j, q ≠ 29 → Ms q j = M q j := fun q j hq => by rw [es]; unfold sv29; rw [if_neg (by omega)]
    have s29 : ∀ j, j < 64 → Ms 29 j = M 10 j := fun j hj => by rw [es]; unfold sv29; rw [if_pos ⟨rfl, hj⟩]
    have g2 : ∀ q j, ¬ (q = 29 ∨ (q = 0 ∧ (j = 39 ∨ j = 41))) → M2 q j = M q j := fun q j hq => by rw [e2, hq_up_n _ _ (by omega), hq_up_n _ _ (by omega), fs _ _ (by omega)]
    have t29 : ∀ j, j < 64 → M2 29 j = M 10 j := fun j hj => by rw [e2, hq_up_n _ _ (by omega), hq_up_n _ _ (by omega), s29 j hj]
    have s39 : M2 0 39 = 0 := by rw [e2, hq_up_n _ _ (by omega), up_self]
    have s41 : M2 0 41 = 0 := by rw [e2, up_self]
    have hW2 : WE C2 M2 391 o lo n D1 m 40 (8 * u) := by
      refine hW1.cg (fun q j hq => f2 _ _ (by omega)) (fun q j hq => ?_)
      by_cases q39 : q = 0 ∧ j = 39
      · rw [q39.1, q39.2, s39, k6]
      · exact g2 _ _ (by omega)
    have e237 : M2 0 37 = M 0 37 := g2 _ _ (by omega)
    have e243 : M2 0 43 = M 0 43 := g2 _ _ (by omega)
    have e247 : M2 0 47 = M 0 47 := g2 _ _ (by omega)
    refine enc_all (F := sg M 21 0 (M 0 37).toNat) (nf := M 0 0) (way := v) hW2 (by rw [g2 _ _ (by omega)]; exact hk23) (by omega) hLW (by omega) (fun j hj => ?_) r1 r3 ⟨by rw [e237, tl]; omega, fun j hj => ?_, g2 _ _ (by omega)⟩ s39 s41 (by rw [f12 _ _ (by omega)]; exact l4) (z1 3 (by omega) (by omega)) hgv (fun C3 req ys gr hex fr3 hr3 hre => ?_)
    · rw [tl] at hj
      rw [sg_gd hj, Nat.zero_add]
      exact d4 j hj
    · rw [tl] at hj
      rw [sg_gd hj, Nat.zero_add, g2 _ _ (by omega)]
    have rowlen : ∀ Mx, RE C3 Mx 391 405 o 40 (8 * u) (sg M 21 0 (M 0 37).toNat).length (M2 6 0) (boldv M v) gr req ys → C3 397 1 = Mx 0 43 ∧ 0 ≤ Mx 0 43 ∧ Mx 0 43 ≤ 200 ∧ ys.length ≤ 84 ∧ TW (u + 1) C3 := by
      intro Mx hRx
      have hyl := hRx.2.2.2.2.2.2.2.2.1
      obtain ⟨⟨lo5, n5, D5, m5, hW5⟩, -⟩ := hRx
      have x := hW5.2.2.2.2.2.1.2.1
      have y := x.2.2.1
      rw [sg_len] at y
      have z : C3 397 1 = (((Mx 0 43).toNat : Nat) : Int) := y
      have ekz : kz 391 = 256 := rfl
      have w1 := hW5.2.2.2.2.2.1.1.2.1
      have w2 := hW5.2.2.2.2.2.1.1.2.2.2.2
      have w3 := hW5.1.2.2.2.2.1
      rw [show 391 + 5 = 396 from rfl] at w1 w2
      refine ⟨by omega, by omega, by omega, by omega, ?_⟩
      unfold TW
      omega
    obtain ⟨Mw, hRw, fMw⟩ := hex
    have rw1 := rowlen Mw hRw
    have out : ∀ q j, ¬ ((391 ≤ q ∧ q ≤ 404) ∨ (406 ≤ q ∧ q ≤ 409) ∨ (q = 405 ∧ 3 ≤ j ∧ j ≤ 7)) → C3 q j = C q j := fun q j hq => by rw [fr3 _ _ (by omega), f12 _ _ (by omega)]
    have c376' : C3 376 1 = M 0 43 := by rw [out _ _ (by omega)]; exact c376
    have hsl := startO_len (M2 0 2) (M2 6 0) req
    have c408 : C3 408 1 = ((startO (M2 0 2) (M2 6 0) req).length : Int) + (ys.length : Int) := by
      have := hr3.1
      rw [List.length_append] at this
      have e : C3 408 1 = (((startO (M2 0 2) (M2 6 0) req).length + ys.length : Nat) : Int) := this
      omega
    rw [c376', c408]
    refine ⟨⟨by omega, by omega⟩, fun x5 e5 => ⟨⟨by omega, by omega⟩, ?_⟩⟩
    unfold w_X12_cost
    refine m_in ?_
    rw [if_pos (by omega)]
    refine ⟨fun _ => ⟨by decide, fun x4 e4 => ⟨by decide, fun x7 e7 => ⟨by decide, fun x10 e10 => fun x12 e12 x14 e14 => m_cost51 ?_⟩⟩⟩, fun e => absurd e (by decide)⟩
    rw [← es]
    have hb7 : boldv Ms v = boldv M v := by
      unfold boldv
      rw [fs 0 3 (by omega), fs 0 25 (by omega), cn_cg (Q := fun i => decide (M 16 i = 0) && decide (M 0 23 < M 11 i)) (fun i _ => by rw [fs 16 i (by omega), fs 11 i (by omega), fs 0 23 (by omega)])]
    refine m_makes (by rw [fs _ _ (by omega)]; exact l2) ?_
    rw [hb7, ← e2]
    refine hre _ (fun M9 hR9 fM9 i9 => ?_)
    have rw9 := rowlen M9 hR9
    have hMd := hR9.2.2.2.1
    rw [i9.1, hMd.1]
    refine ⟨⟨by omega, by omega⟩, ⟨by omega, by omega⟩, ⟨by omega, by omega⟩, fun x24 e24 => fun M25 e25 => ⟨by decide, fun M27 e27 => ⟨by decide, fun M29 e29 => ⟨by decide, fun M31 e31 => fun M32 e32 M33 e33 => ?_⟩⟩⟩⟩
    have f33 : ∀ q j, ¬ ((q = 0 ∧ (j = 39 ∨ j = 43 ∨ j = 47)) ∨ ((q = 6 ∨ q = 7 ∨ q = 9) ∧ j = 0)) → M33 q j = M9 q j := fun q j hq => by rw [e33, hq_up_n _ _ (by omega), e32, hq_up_n _ _ (by omega), e31, hq_up_n _ _ (by omega), e29, hq_up_n _ _ (by omega), e27, hq_up_n _ _ (by omega), e25, hq_up_n _ _ (by omega)]
    have v47 : M33 0 47 = M 0 47 := by rw [e33, up_self, e14]
    have v43 : M33 0 43 = M 0 43 := by rw [e33, hq_up_n _ _ (by omega), e32, up_self, e12]
    have v9 : M33 9 0 = M 9 0 := by rw [e33, hq_up_n _ _ (by omega), e32, hq_up_n _ _ (by omega), e31, up_self, e10]
    have v7 : M33 7 0 = M 7 0 := by rw [e33, hq_up_n _ _ (by omega), e32, hq_up_n _ _ (by omega), e31, hq_up_n _ _ (by omega), e29, up_self, e7]
    have v6 : M33 6 0 = M 6 0 := by rw [e33, hq_up_n _ _ (by omega), e32, hq_up_n _ _ (by omega), e31, hq_up_n _ _ (by omega), e29, hq_up_n _ _ (by omega), e27, up_self, e4]
    have v39 : M33 0 39 = M 0 39 := by rw [e33, hq_up_n _ _ (by omega), e32, hq_up_n _ _ (by omega), e31, hq_up_n _ _ (by omega), e29, hq_up_n _ _ (by omega), e27, hq_up_n _ _ (by omega), e25, up_self, k6]
    have v29 : ∀ j, j < 64 → M33 29 j = M 10 j := fun j hj => by rw [f33 _ _ (by omega), fM9.1 _ _ (by omega), t29 j hj]
    have v24 : ∀ j : Nat, (j : Int) < M 0 43 → M33 24 j = M 24 j := fun j hj => by rw [f33 _ _ (by omega), fM9.2.1 j (by rw [e243]; exact hj), g2 _ _ (by omega)]
    have v25 : ∀ a j : Nat, 25 ≤ a → a ≤ 27 → (j : Int) < M 0 47 → M33 a j = M a j := fun a j h1 h2 hj => by rw [f33 _ _ (by omega), fM9.2.2.1 a j h1 h2 (by rw [e247]; exact hj), g2 _ _ (by omega)]
    have vr : ∀ q j, ¬ (q = 29 ∨ q = 28 ∨ q = 22 ∨ q = 23 ∨ (q = 0 ∧ (j = 39 ∨ j = 41 ∨ j = 43 ∨ j = 47 ∨ j = 49)) ∨ (24 ≤ q ∧ q ≤ 27) ∨ ((q = 6 ∨ q = 7 ∨ q = 9) ∧ j = 0) ∨ (q = 10 ∧ j < 64)) → M33 q j = M q j := fun q j hq => by rw [f33 _ _ (by omega), fM9.1 _ _ (by omega), g2 _ _ (by omega)]
    refine m_cost145 (fun M' g10 gM => ⟨by omega, hJ.cost rw9.2.2.2.2 (fun q j hq => out _ _ (by omega)) (fun q j hq => ?_)⟩)
    clear f33 e33 e32 e31 e29 e27 e25 fM9 hR9 rw9 rw1 hRw fMw hre hr3 fr3 out g2 hW2 hW1 hW f12 f1 f2 bad rowlen
    by_cases a : q = 10 ∧ j < 64
    · rw [a.1, g10 j a.2, v29 j a.2]
    · rw [gM q j a]
      by_cases b : (q = 6 ∨ q = 7 ∨ q = 9) ∧ j = 0
      · obtain ⟨b1 | b1 | b1, b2⟩ := b
        · rw [b1, b2]; exact v6
        · rw [b1, b2]; exact v7
        · rw [b1, b2]; exact v9
      · by_cases c : q = 0 ∧ (j = 39 ∨ j = 43 ∨ j = 47)
        · obtain ⟨c1, c2 | c2 | c2⟩ := c
          · rw [c1, c2]; exact v39
          · rw [c1, c2]; exact v43
          · rw [c1, c2]; exact v47
        · by_cases d : q = 24
          · rw [d]; exact v24 j (by omega)
          · by_cases e : 25 ≤ q ∧ q ≤ 27
            · exact v25 q j e.1 e.2 (by omega)
            · exact vr q j (by omega)
  exact ⟨fun q3 => go 0 ⟨fun _ => q3, fun _ => rfl⟩, fun q3 => go 1 ⟨fun e => absurd e (by decide), fun e => absurd q3 e⟩⟩
