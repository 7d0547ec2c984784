/-! ===== the mathematics, part 31b: the call sends ===== -/
theorem o_sends {u : Nat} {C M : hq_M} (h : JJ u C M) (hu : 8 * u + 8 ≤ 800000) (v : Int) : w_X11_sends v C (fun z C' => w_X12_sends v M (fun z' M' => z = z' ∧ JJ (u + 1) C' M')) := by
  have hJ := h
  obtain ⟨o, lo, n, D, m, hW, h09, ho⟩ := h.toWE (by omega)
  obtain ⟨hT, ⟨d1, d2, d3, d4⟩, -, hL, -, ⟨lo2, n2, hX⟩, -, -, hRP, hK⟩ := h
  obtain ⟨l1, l2, l3, l4, l5⟩ := hL
  obtain ⟨N, hN⟩ : ∃ N : Nat, M 0 25 = (N : Int) := ⟨(M 0 25).toNat, by omega⟩
  have eN : (M 0 25).toNat = N := by omega
  have hk1 := kf_bd hRP hK (TBr hX).2 _ (Nat.le_refl _)
  have xb := (TBr hX).2
  have k4 := hK.2.2.1
  have k6 := hK.2.2.2
  have hk23 : M 0 23 ≤ 1000000 := by omega
  have tl : (sg M 21 0 (M 0 37).toNat).length = (M 0 37).toNat := sg_len _ _ _ _
  have bad : ¬ (0 ≤ v ∧ v ≤ 2) → w_X12_sends v M (fun z' M' => -1 = z' ∧ JJ (u + 1) C M') := by
    intro hn
    unfold w_X12_sends
    refine m_in ?_
    rw [if_neg hn]
    exact ⟨fun e => absurd rfl e, fun _ => ⟨rfl, hJ.mono (by omega)⟩⟩
  unfold w_X11_sends
  refine ⟨fun q => bad (by omega), fun q => ⟨fun q2 => x1_next (by omega) ?_, fun q2 => bad (by omega)⟩⟩
  rw [l1]
  by_cases full : M 0 25 < 40
  · rw [if_pos full, eN]
    have hLW : LW 370 (170 + 5 * N) N := .inl ⟨rfl, by omega, rfl⟩
    refine ⟨fun e => (by cases e), fun o1 eo1 => ?_⟩
    cases eo1
    refine x0_begin hLW d3 (by omega) (fun C1 r1 r3 z1 f1 => ?_)
    refine x11_may (M := M) (o := o) l2 (by rw [f1 _ _ (by omega)]; exact l1) (fun i hi => ?_) (by rw [f1 _ _ (by omega)]; exact h09) (by rw [f1 _ _ (by omega)]; exact hW.2.2.1.2.2.2.2.2.2.1) (by rw [f1 _ _ (by omega)]; exact hW.2.2.2.2.2.2.1) ?_
    · obtain ⟨-, -, ⟨g3, -, -, -, g7⟩, -⟩ := l5 i hi
      rw [f1 _ _ (by omega), f1 _ _ (by omega)]
      exact ⟨g7, g3⟩
    have go : ∀ gv : Int, (gv = 0 ↔ v ≠ 2) → b_X11_sends_54 (170 + 5 * N) (170 + 5 * N) (boldv M v) gv (fun z C' => w_X12_sends v M (fun z' M' => z = z' ∧ JJ (u + 1) C' M')) C1 := by
      intro gv hgv
      unfold b_X11_sends_54
      obtain ⟨M7, e7⟩ : ∃ M7 : hq_M, M7 = hq_up M 12 N (M 6 0) := ⟨_, rfl⟩
      obtain ⟨M2, e2⟩ : ∃ M2 : hq_M, M2 = hq_up (hq_up M7 0 39 0) 0 41 0 := ⟨_, rfl⟩
      have f7 : ∀ q j, ¬ (q = 12 ∧ j = N) → M7 q j = M q j := fun q j hq => by rw [e7, hq_up_n _ _ (by omega)]
      have f2 : ∀ q j, ¬ ((q = 12 ∧ j = N) ∨ (q = 0 ∧ (j = 39 ∨ j = 41))) → M2 q j = M q j := fun q j hq => by rw [e2, hq_up_n _ _ (by omega), hq_up_n _ _ (by omega), f7 _ _ (by omega)]
      have s39 : M2 0 39 = 0 := by rw [e2, hq_up_n _ _ (by omega), up_self]
      have s41 : M2 0 41 = 0 := by rw [e2, up_self]
      have s12 : M2 12 N = M 6 0 := by rw [e2, hq_up_n _ _ (by omega), hq_up_n _ _ (by omega), e7, up_self]
      have hW2 : WE C1 M2 370 o lo n D m N (8 * u) := by
        refine (hW.c k6 (by omega)).cg (fun q j hq => f1 _ _ (by omega)) (fun q j hq => ?_)
        by_cases q39 : q = 0 ∧ j = 39
        · rw [q39.1, q39.2, s39, k6]
        · exact f2 _ _ (by omega)
      have e26 : M2 6 0 = M 6 0 := f2 _ _ (by omega)
      have e237 : M2 0 37 = M 0 37 := f2 _ _ (by omega)
      refine enc_all (F := sg M 21 0 (M 0 37).toNat) (nf := M 0 0) (way := v) hW2 (by rw [f2 _ _ (by omega)]; exact hk23) (by omega) hLW (by omega) (fun j hj => ?_) r1 r3 ⟨by rw [e237, tl]; omega, fun j hj => ?_, f2 _ _ (by omega)⟩ s39 s41 (by rw [f1 _ _ (by omega)]; exact l3 N (by omega)) (z1 3 (by omega) (by omega)) hgv (fun C2 req ys gr hex fr2 hr3 hre => ?_)
      · rw [tl] at hj
        rw [sg_gd hj, Nat.zero_add]
        exact d4 j hj
      · rw [tl] at hj
        rw [sg_gd hj, Nat.zero_add, f2 _ _ (by omega)]
      obtain ⟨Mw, hRw, fMw⟩ := hex
      have c168 : C2 168 1 = (N : Int) := by rw [fr2 _ _ (by omega), f1 _ _ (by omega), l1, hN]
      rw [c168]
      refine ⟨⟨by omega, by omega⟩, fun C4 e4 => x6_empty (fun C5 r5 f5 => ?_)⟩
      have g5 : ∀ q j, ¬ ((q = 168 ∧ j = 1) ∨ q = 3 ∨ q = 4) → C5 q j = C2 q j := fun q j hq => by rw [f5 _ _ (by omega) (by omega), e4, hq_up_n _ _ (by omega)]
      have s168 : C5 168 1 = ((N + 1 : Nat) : Int) := by rw [f5 _ _ (by omega) (by omega), e4, up_self]; omega
      have s0 : C5 (170 + 5 * N) 0 = (N : Int) := by rw [g5 _ _ (by omega), fr2 _ _ (by omega), f1 _ _ (by omega)]; exact l3 N (by omega)
      rw [s0]
      unfold w_X12_sends
      refine m_in ?_
      rw [if_pos (by omega), hN]
      refine ⟨fun _ => ⟨fun _ => ⟨by decide, ⟨by omega, by omega⟩, fun M7' e7' => ?_⟩, fun e => by omega⟩, fun e => absurd e (by decide)⟩
      rw [show ((N : Nat) : Int).toNat = N by omega, ← e7] at e7'
      subst e7'
      have hb7 : boldv M7' v = boldv M v := by
        unfold boldv
        rw [f7 0 3 (by omega), f7 0 25 (by omega), cn_cg (Q := fun i => decide (M 16 i = 0) && decide (M 0 23 < M 11 i)) (fun i _ => by rw [f7 16 i (by omega), f7 11 i (by omega), f7 0 23 (by omega)])]
      refine m_makes (by rw [f7 _ _ (by omega)]; exact l2) ?_
      rw [hb7, ← e2]
      refine hre _ (fun M9 hR9 fM9 i9 => ?_)
      have g9 : ∀ q j, ¬ (q = 28 ∨ q = 22 ∨ q = 23 ∨ (q = 0 ∧ (j = 39 ∨ j = 41 ∨ j = 43 ∨ j = 47 ∨ j = 49)) ∨ (24 ≤ q ∧ q ≤ 27) ∨ ((q = 6 ∨ q = 7 ∨ q = 9) ∧ j = 0) ∨ (q = 10 ∧ j < 64) ∨ (q = 12 ∧ j = N)) → M9 q j = M q j := fun q j hq => by rw [fM9.1 _ _ (by omega), f2 _ _ (by omega)]
      have hyl := hR9.2.2.2.2.2.2.2.2.1
      have hsl := startO_len (M2 0 2) (M2 6 0) req
      have hMd := hR9.2.2.2.1
      have h925 : M9 0 25 = (N : Int) := by rw [g9 _ _ (by omega)]; exact hN
      have m60 : M 6 0 ≤ M9 6 0 := by
        have := hR9.2.2.2.2.2.2.1.2
        omega
      have hll : (startO (M2 0 2) (M2 6 0) req ++ ys).length ≤ 96 := by rw [List.length_append]; omega
      refine m_sendsEnd (M7 := M7') (M9 := M9) (req := req) (kk := fun z' M' => (N : Int) = z' ∧ JJ (u + 1) C5 M') (N := N) (nd := (sg M 21 0 (M 0 37).toNat).length) (os := startO (M2 0 2) (M2 6 0) req) (ys := ys) (by rw [f7 _ _ (by omega)]; exact hN) (by omega) h925 (by rw [g9 _ _ (by omega), tl]; omega) (by omega) i9 hMd hsl hll (fun M' m11 m13 m20 m14 m15 m16 m17 m18 m19 m39 m37 m25 fM => ⟨rfl, ?_⟩)
      refine hJ.send (C2 := C2) (M9 := M9) (F := sg M 21 0 (M 0 37).toNat) (os := startO (M2 0 2) (M2 6 0) req) (ys := ys) (req := req) h09 hN (by omega) (by omega) hR9 hsl ?_ ?_ ⟨?_, ?_, ?_⟩ (fun q j hq => by rw [fr2 _ _ (by omega), f1 _ _ (by omega)]) s168 r5 g5 g9 m60 ?_ m11 m13 m20 m14 m15 m16 m17 ?_ m19 m39 m37 m25 fM
      · rw [show 171 + 5 * N = 170 + 5 * N + 1 by omega]; exact r1.cg (fr2 _ _ (by omega)) (fun j => fr2 _ _ (by omega))
      · rw [show 173 + 5 * N = 170 + 5 * N + 3 by omega]; exact hr3
      · rw [fr2 _ _ (by omega)]; exact z1 5 (by omega) (by omega)
      · rw [fr2 _ _ (by omega)]; exact z1 6 (by omega) (by omega)
      · rw [fr2 _ _ (by omega)]; exact z1 7 (by omega) (by omega)
      · rw [fM9.1 _ _ (by omega), s12, e26]
      · intro j hj
        have hj2 := hj
        rw [tl] at hj2
        rw [m18 j hj, g9 _ _ (by omega), sg_gd hj2, Nat.zero_add]
    exact ⟨fun q3 => go 0 ⟨fun _ => q3, fun _ => rfl⟩, fun q3 => go 1 ⟨fun e => absurd e (by decide), fun e => absurd q3 e⟩⟩
  · rw [if_neg full]
    refine ⟨fun _ => ?_, fun o1 e => (by cases e)⟩
    unfold w_X12_sends
    refine m_in ?_
    rw [if_pos (by omega)]
    exact ⟨fun _ => ⟨fun e => absurd (by omega) e, fun _ => ⟨rfl, hJ.mono (by omega)⟩⟩, fun e => absurd e (by decide)⟩
