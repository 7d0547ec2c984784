/-! ===== the mathematics, part 43: the call tells ===== -/
theorem nm_lo {M M' : hq_M} {f : Nat} (hL : Lo6 M) (hf : f < 16) (h1 : M' 1 f = M 1 f) (h3 : ∀ j, j < 96 → M' 3 j = M 3 j) : nm M' f = nm M f := by
  have := hL f (by omega)
  unfold nm
  rw [h1]
  exact sg_eq (fun i hi => h3 _ (by omega))
theorem vl_lo {M M' : hq_M} {f : Nat} (hL : Lo6 M) (hf : f < 16) (h1 : M' 2 f = M 2 f) (h3 : ∀ j, j < 96 → M' 4 j = M 4 j) : vl M' f = vl M f := by
  have := hL f (by omega)
  unfold vl
  rw [h1]
  exact sg_eq (fun i hi => h3 _ (by omega))
theorem TB.par {C M C' M' : hq_M} {A t lo n : Nat} (h : TB C M A t lo n) (hF : M 0 0 ≤ 7) (hC : ∀ o j, o = A ∨ o = A + 1 ∨ o = A + 2 → C' o j = C o j) (hM : ∀ o j, (6 ≤ o ∧ o ≤ 10) ∨ ((o = 1 ∨ o = 2) ∧ j < 16) ∨ (o = 0 ∧ j = 0) → M' o j = M o j) : TB C' M' A t lo n := by
  obtain ⟨h1, h2, h3, h4, h5, h6⟩ := h
  unfold TB TC at *
  rw [hM 6 t (by omega), hM 7 t (by omega), hM 8 t (by omega), hM 9 t (by omega), hM 0 0 (by simp), hC A 3 (by simp), hC A 4 (by simp), hC A 5 (by simp), hC A 6 (by simp)]
  refine ⟨h1, h2, ?_, h4, h5, fun i a b => ?_⟩
  · rw [h3]
    exact sm_cg (fun i _ _ => (hC _ _ (by simp)).symm)
  · obtain ⟨g1, g2, g3⟩ := h6 i a b
    rw [hC (A + 1) _ (by simp), hC (A + 2) _ (by simp), hM 10 _ (by omega)]
    unfold sz
    rw [hM 1 _ (by omega), hM 2 _ (by omega)]
    exact ⟨g1, g2, g3⟩
theorem JJ.par {u o o2 : Nat} {C M C' M' : hq_M} (h : JJ u C M) (h9 : C 0 9 = (o : Int)) (h10 : C 0 10 = (o2 : Int)) (fC : FCp o2 C C') (hL : Lo6 M') (fM : FMp M M') : JJ u C' M' := by
  obtain ⟨hT, hD, ⟨o', ho, s1, s2, s3, s4⟩, hLT, ⟨lo, n, hE, hH, hb⟩, ⟨lo2, n2, hX⟩, ⟨D, m, hQ, hqb⟩, hDE, hR, hK⟩ := h
  have hF := s4.1
  have hS8 := s4.2.1
  have hL0 := s4.2.2.1
  have eo : o = o' := by omega
  subst eo
  have enm : ∀ f, f < 16 → nm M' f = nm M f := fun f hf => nm_lo hL0 hf (fM _ _ (by omega)) (fun j hj => fM _ _ (by omega))
  have evl : ∀ f, f < 16 → vl M' f = vl M f := fun f hf => vl_lo hL0 hf (fM _ _ (by omega)) (fun j hj => fM _ _ (by omega))
  refine ⟨hT.cg (fun q j hq => fC _ _ (by omega)) (fun q j hq => fM _ _ (by omega)), hD.cg (fun q j hq => fC _ _ (by omega)) (fun q j hq => fM _ _ (by omega)), ⟨o, ho, by rw [fC _ _ (by omega)]; exact s1, by rw [fC _ _ (by omega)]; exact s2, by rw [fC _ _ (by omega)]; exact s3, ?_⟩, hLT.cg (fun q j hq => fC _ _ (by omega)) (fun q j hq => fM _ _ (by omega)) (Int.le_of_eq (fM _ _ (by omega)).symm), ⟨lo, n, hE.par hF.2 (fun q j hq => fC _ _ (by omega)) (fun q j hq => fM _ _ (by omega)), hH.cg (fun j => fC _ _ (by omega)) (fun q j hq => fM _ _ (by omega)), hb⟩, ⟨lo2, n2, hX.par hF.2 (fun q j hq => fC _ _ (by omega)) (fun q j hq => fM _ _ (by omega))⟩, ⟨D, m, hQ.cg (fun q j hq => fC _ _ (by omega)) (fun q j hq => fM _ _ (by omega)), hqb.1, hqb.2.cg (fC _ _ (by omega))⟩, ?_, hR.cg (fun q j hq => fC _ _ (by omega)) (fun q j hq => fM _ _ (by omega)), hK.cg (fun q j hq => fC _ _ (by omega)) (fun q j hq => fM _ _ (by omega))⟩
  · obtain ⟨a1, a2, a3, a4, a5, a6, a7, a8, a9⟩ := s4
    unfold SS
    rw [fM 0 0 (by omega), fM 0 1 (by omega), fM 0 2 (by omega), fM 0 3 (by omega), fM 8 0 (by omega)]
    exact ⟨a1, a2, hL, a4.cg (by omega) (fun q j hq => fC _ _ (by omega)) rfl (fun i hi => enm i (by omega)) (fun i hi => evl i (by omega)), a5.cg (by omega) (fun q j hq => fC _ _ (by omega)) rfl (fun i hi => enm _ (by omega)) (fun i hi => evl _ (by omega)), (fC _ _ (by omega)).trans a6, (fC _ _ (by omega)).trans a7, a8, a9⟩
  · have q47 := hQ.1.2.2.1
    have q5 := hQ.2.2.2.2.1
    obtain ⟨d1, d2, d3⟩ := hDE
    have e : ∀ c n, cpf M' c n = cpf M c n := fun c n => cpf_cg (fun q j hq => fM _ _ (by omega))
    unfold DE
    rw [fM 0 47 (by omega), fM 8 1 (by omega), fM 8 0 (by omega), fM 6 1 (by omega), fM 6 0 (by omega), e]
    refine ⟨d1, fun i hi h25 => ?_, ?_⟩
    · rw [fM 25 i (by omega)] at h25
      rw [fM 27 i (by omega), e]
      have hb27 : 0 ≤ M 27 i ∧ M 27 i < M 0 0 := by
        have := (q5 i (by omega)).2
        omega
      unfold sz
      rw [fM 1 _ (by omega), fM 2 _ (by omega)]
      exact d2 i hi h25
    · rw [cn_cg (Q := fun i => decide (M 25 i = 1)) (fun i hi => by rw [fM 25 i (by omega)])]
      exact d3
theorem m_tells71 {M7 : hq_M} {t1 : Int} {k : Int → hq_M → Prop} (hk : ∀ M5, (∀ f, f < 16 → M5 1 f = M7 1 (16 + f) ∧ M5 2 f = M7 2 (16 + f)) → (∀ f, 16 ≤ f → M5 1 f = M7 1 f ∧ M5 2 f = M7 2 f) → (∀ j, j < 96 → M5 3 j = M7 3 (96 + j) ∧ M5 4 j = M7 4 (96 + j)) → (∀ q j, 6 ≤ q → q ≤ 9 → j < 2 → M5 q j = 0) → (∀ j, j = 23 ∨ j = 24 ∨ j = 25 ∨ j = 37 ∨ j = 39 ∨ j = 43 ∨ j = 47 ∨ j = 52 ∨ j = 56 → M5 0 j = 0) → M5 0 3 = t1 → M5 0 9 = 0 → M5 0 0 = M7 0 0 → M5 0 1 = M7 0 1 → M5 0 2 = M7 0 2 → M5 0 13 = M7 0 13 → k (M7 0 13) M5) : b_X12_tells_71 t1 k M7 := by
  unfold b_X12_tells_71
  intro M8 e8
  have g8 : ∀ q j, ¬ (q = 0 ∧ j = 3) → M8 q j = M7 q j := fun q j hq => by rw [e8]; simp only [hq_up]; rw [if_neg hq]
  have s8 : M8 0 3 = t1 := by rw [e8, up_self]
  refine m_tells76 (fun MA a76 gA => m_tells120 (fun MB a120 gB => ?_))
  intro MC eC
  refine m_begins (fun M5 z5 y5 g5 => ?_)
  have cell : ∀ q j, ¬ ((6 ≤ q ∧ q ≤ 9 ∧ j < 2) ∨ (q = 0 ∧ (j = 23 ∨ j = 24 ∨ j = 25 ∨ j = 37 ∨ j = 39 ∨ j = 43 ∨ j = 47 ∨ j = 52 ∨ j = 56)) ∨ (q = 0 ∧ j = 9)) → M5 q j = MB q j := fun q j hq => by rw [g5 _ _ (by omega), eC, hq_up_n _ _ (by omega)]
  have v13 : M5 0 13 = M7 0 13 := by rw [cell _ _ (by omega), gB _ _ (by omega), gA _ _ (by omega), g8 _ _ (by omega)]
  rw [v13]
  refine hk M5 (fun f hf => ?_) (fun f hf => ?_) (fun j hj => ?_) z5 y5 ?_ ?_ ?_ ?_ ?_ v13
  · rw [cell _ _ (by omega), cell _ _ (by omega), gB _ _ (by omega), gB _ _ (by omega), (a76 f hf).1, (a76 f hf).2, g8 _ _ (by omega), g8 _ _ (by omega)]
    exact ⟨rfl, rfl⟩
  · rw [cell _ _ (by omega), cell _ _ (by omega), gB _ _ (by omega), gB _ _ (by omega), gA _ _ (by omega), gA _ _ (by omega), g8 _ _ (by omega), g8 _ _ (by omega)]
    exact ⟨rfl, rfl⟩
  · rw [cell _ _ (by omega), cell _ _ (by omega), (a120 j hj).1, (a120 j hj).2, gA _ _ (by omega), gA _ _ (by omega), g8 _ _ (by omega), g8 _ _ (by omega)]
    exact ⟨rfl, rfl⟩
  · rw [cell _ _ (by omega), gB _ _ (by omega), gA _ _ (by omega)]; exact s8
  · rw [g5 _ _ (by omega), eC, up_self]
  · rw [cell _ _ (by omega), gB _ _ (by omega), gA _ _ (by omega), g8 _ _ (by omega)]
  · rw [cell _ _ (by omega), gB _ _ (by omega), gA _ _ (by omega), g8 _ _ (by omega)]
  · rw [cell _ _ (by omega), gB _ _ (by omega), gA _ _ (by omega), g8 _ _ (by omega)]
theorem SS.told {C M1 M5 : hq_M} {o nF nS : Nat} {a v sa sv : Nat → List Int} {mv bv : Int} (hF : nF ≤ 7) (hS : nS ≤ 8) (c1 : ∀ f, f < 16 → M5 1 f = M1 1 (16 + f) ∧ M5 2 f = M1 2 (16 + f)) (c1h : ∀ f, 16 ≤ f → M5 1 f = M1 1 f ∧ M5 2 f = M1 2 f) (c3 : ∀ j, j < 96 → M5 3 j = M1 3 (96 + j) ∧ M5 4 j = M1 4 (96 + j)) (v0 : M5 0 0 = (nF : Int)) (v1 : M5 0 1 = (nS : Int)) (v2 : M5 0 2 = mv) (v3 : M5 0 3 = bv) (b2 : 0 ≤ mv ∧ mv ≤ 200) (b3 : 0 ≤ bv ∧ bv ≤ 9) (z8 : M5 8 0 = 0) (mL : Lo6 M1) (m8 : ∀ i, i < nF → nm M1 (16 + i) = a i ∧ vl M1 (16 + i) = v i) (m9 : ∀ i, i < nS → nm M1 (24 + i) = sa i ∧ vl M1 (24 + i) = sv i) (p6 : Pr C (o + 1) (nF : Int) a v) (p7 : Pr C (o + 38) (nS : Int) sa sv) (p4 : C o 2 = mv) (p5 : C o 3 = bv) : SS C o M5 := by
  have enm : ∀ f, f < 16 → nm M5 f = nm M1 (16 + f) := fun f hf => by
    have := mL (16 + f) (by omega)
    unfold nm
    rw [(c1 f hf).1]
    refine sg_eq (fun i hi => ?_)
    rw [(c3 (6 * f + i) (by omega)).1]
    congr 1
    omega
  have evl : ∀ f, f < 16 → vl M5 f = vl M1 (16 + f) := fun f hf => by
    have := mL (16 + f) (by omega)
    unfold vl
    rw [(c1 f hf).2]
    refine sg_eq (fun i hi => ?_)
    rw [(c3 (6 * f + i) (by omega)).2]
    congr 1
    omega
  refine ⟨by omega, by omega, fun f hf => ?_, ?_, ?_, p4.trans v2.symm, p5.trans v3.symm, ⟨by rw [v2]; exact b2, by rw [z8, v2]; exact b2.1⟩, by rw [v3]; exact b3⟩
  · by_cases q : f < 16
    · rw [(c1 f q).1, (c1 f q).2]; exact mL _ (by omega)
    · rw [(c1h f (by omega)).1, (c1h f (by omega)).2]; exact mL f hf
  · refine Pr.cg p6 (by omega) (fun _ _ _ => rfl) v0 (fun i hi => ?_) (fun i hi => ?_)
    · rw [enm i (by omega)]; exact (m8 i (by omega)).1
    · rw [evl i (by omega)]; exact (m8 i (by omega)).2
  · refine Pr.cg p7 (by omega) (fun _ _ _ => rfl) v1 (fun i hi => ?_) (fun i hi => ?_)
    · show nm M5 (8 + i) = sa i
      rw [enm (8 + i) (by omega), show 16 + (8 + i) = 24 + i by omega]; exact (m9 i (by omega)).1
    · show vl M5 (8 + i) = sv i
      rw [evl (8 + i) (by omega), show 16 + (8 + i) = 24 + i by omega]; exact (m9 i (by omega)).2
abbrev Qres (q j : Nat) : Prop := (1 ≤ q ∧ q ≤ 4) ∨ (q = 168 ∧ j = 1) ∨ (q = 370 ∧ (j = 4 ∨ j = 5)) ∨ (q = 371 ∧ 3 ≤ j ∧ j ≤ 6) ∨ (q = 375 ∧ (j = 3 ∨ j = 4)) ∨ q = 376 ∨ q = 377 ∨ (q = 385 ∧ 3 ≤ j ∧ j ≤ 6) ∨ q = 389 ∨ q = 390 ∨ (q = 384 ∧ j = 2)
theorem tells_out {C' C10 C'' : hq_M} (g10 : ∀ q j, ¬ (q = 0 ∧ (j = 9 ∨ j = 10)) → C10 q j = C' q j) (fC'' : ∀ q j, ¬ Qres q j → C'' q j = C10 q j) : ∀ q j, ¬ Qres q j → ¬ q = 0 → C'' q j = C' q j := fun q j h1 h2 => by rw [fC'' q j h1, g10 q j (fun e => h2 e.1)]
theorem tells_SS {C' C'' M1 : hq_M} {o2 nF nS : Nat} {a v sa sv : Nat → List Int} {mv bv : Int} (ho2 : o2 = 8 ∨ o2 = 88) (oC : ∀ q j, ¬ Qres q j → ¬ q = 0 → C'' q j = C' q j) (p4 : C' o2 2 = mv) (p5 : C' o2 3 = bv) (p6 : Pr C' (o2 + 1) (nF : Int) a v) (p7 : Pr C' (o2 + 38) (nS : Int) sa sv) (q3 : nF ≤ 7) (q4 : nS ≤ 8) (b2 : 0 ≤ mv ∧ mv ≤ 200) (b3 : 0 ≤ bv ∧ bv ≤ 9) (mL : Lo6 M1) (m8 : ∀ i, i < nF → nm M1 (16 + i) = a i ∧ vl M1 (16 + i) = v i) (m9 : ∀ i, i < nS → nm M1 (24 + i) = sa i ∧ vl M1 (24 + i) = sv i) (M5 : hq_M) (c1 : ∀ f, f < 16 → M5 1 f = M1 1 (16 + f) ∧ M5 2 f = M1 2 (16 + f)) (c1h : ∀ f, 16 ≤ f → M5 1 f = M1 1 f ∧ M5 2 f = M1 2 f) (c3 : ∀ j, j < 96 → M5 3 j = M1 3 (96 + j) ∧ M5 4 j = M1 4 (96 + j)) (v0 : M5 0 0 = (nF : Int)) (v1 : M5 0 1 = (nS : Int)) (v2 : M5 0 2 = mv) (v3 : M5 0 3 = bv) (z8 : M5 8 0 = 0) : SS C'' o2 M5 := by
  have oc : ∀ q j, o2 ≤ q → q < o2 + 80 → C'' q j = C' q j := fun q j h1 h2 => oC q j (by unfold Qres; omega) (by omega)
  exact SS.told q3 q4 c1 c1h c3 v0 v1 v2 v3 b2 b3 z8 mL m8 m9 (Pr.cg p6 (by omega) (fun q j hq => oc _ _ (by omega) (by omega)) rfl (fun _ _ => rfl) (fun _ _ => rfl)) (Pr.cg p7 (by omega) (fun q j hq => oc _ _ (by omega) (by omega)) rfl (fun _ _ => rfl) (fun _ _ => rfl)) (by rw [oc _ _ (by omega) (by omega)]; exact p4) (by rw [oc _ _ (by omega) (by omega)]; exact p5)
theorem tells_71 {C'' M1 M7 : hq_M} {o2 nF nS : Nat} {it mv bv t1 : Int} {K : Int → hq_M → Prop} (n0 : M7 0 0 = (nF : Int)) (n1 : M7 0 1 = (nS : Int)) (n2 : M7 0 2 = mv) (e1 : t1 = bv) (n13 : M7 0 13 = it) (g : ∀ q j, 1 ≤ q → M7 q j = M1 q j)
    (hS : ∀ M5 : hq_M, (∀ f, f < 16 → M5 1 f = M1 1 (16 + f) ∧ M5 2 f = M1 2 (16 + f)) → (∀ f, 16 ≤ f → M5 1 f = M1 1 f ∧ M5 2 f = M1 2 f) → (∀ j, j < 96 → M5 3 j = M1 3 (96 + j) ∧ M5 4 j = M1 4 (96 + j)) → M5 0 0 = (nF : Int) → M5 0 1 = (nS : Int) → M5 0 2 = mv → M5 0 3 = bv → M5 8 0 = 0 → SS C'' o2 M5)
    (hk : ∀ M5 : hq_M, SS C'' o2 M5 → M5 0 9 = 0 → (∀ q j, 6 ≤ q → q ≤ 9 → j < 2 → M5 q j = 0) → (∀ j, j = 23 ∨ j = 24 ∨ j = 25 ∨ j = 37 ∨ j = 39 ∨ j = 43 ∨ j = 47 ∨ j = 52 ∨ j = 56 → M5 0 j = 0) → K it M5) : b_X12_tells_71 t1 K M7 := by
  refine m_tells71 (fun M5 c1 c1h c3 z5 y5 v3 v9 v0 v1 v2 v13 => ?_)
  rw [n13]
  exact hk M5 (hS M5 (fun f hf => by rw [(c1 f hf).1, (c1 f hf).2, g 1 _ (by decide), g 2 _ (by decide)]; exact ⟨rfl, rfl⟩) (fun f hf => by rw [(c1h f hf).1, (c1h f hf).2, g 1 _ (by decide), g 2 _ (by decide)]; exact ⟨rfl, rfl⟩) (fun j hj => by rw [(c3 j hj).1, (c3 j hj).2, g 3 _ (by decide), g 4 _ (by decide)]; exact ⟨rfl, rfl⟩) (v0.trans n0) (v1.trans n1) (v2.trans n2) (v3.trans e1) (z5 8 0 (by decide) (by decide) (by decide))) v9 z5 y5
theorem tells_m {M1 : hq_M} {nF nS : Nat} {it mt bd : Int} {K : Int → hq_M → Prop} (m16 : M1 0 16 = mt) (m17 : M1 0 17 = bd) (m14 : M1 0 14 = (nF : Int)) (m15 : M1 0 15 = (nS : Int)) (m13 : M1 0 13 = it)
    (h71 : ∀ t1 M7, t1 = (if bd = -9 then 2 else bd) → M7 0 0 = (nF : Int) → M7 0 1 = (nS : Int) → M7 0 2 = (if mt = -9 then 60 else mt) → M7 0 13 = it → (∀ q j, 1 ≤ q → M7 q j = M1 q j) → b_X12_tells_71 t1 K M7) :
    ∀ M4, M4 = hq_up M1 0 0 (M1 0 14) → ∀ M6, M6 = hq_up M4 0 1 (M4 0 15) → (¬ M6 0 16 = -9 → b_X12_tells_50 (M6 0 16) K M6) ∧ (M6 0 16 = -9 → b_X12_tells_50 60 K M6) := by
  intro M4 e4 M6 em6
  have g6 : ∀ q j, ¬ (q = 0 ∧ (j = 0 ∨ j = 1)) → M6 q j = M1 q j := fun q j hq => by rw [em6, hq_up_n _ _ (by omega), e4, hq_up_n _ _ (by omega)]
  have n0 : M6 0 0 = (nF : Int) := by rw [em6, hq_up_n _ _ (by decide), e4, up_self]; exact m14
  have n1 : M6 0 1 = (nS : Int) := by rw [em6, up_self, e4, hq_up_n _ _ (by decide)]; exact m15
  have b50 : ∀ t1, t1 = (if mt = -9 then 60 else mt) → b_X12_tells_50 t1 K M6 := by
    intro t1 ht1
    unfold b_X12_tells_50
    intro M7 e7
    have g7 : ∀ q j, ¬ (q = 0 ∧ j = 2) → M7 q j = M6 q j := fun q j hq => by rw [e7]; simp only [hq_up]; rw [if_neg hq]
    have s7 : M7 0 2 = (if mt = -9 then 60 else mt) := by rw [e7, up_self]; exact ht1
    have a0 : M7 0 0 = (nF : Int) := (g7 0 0 (by decide)).trans n0
    have a1 : M7 0 1 = (nS : Int) := (g7 0 1 (by decide)).trans n1
    have a13 : M7 0 13 = it := by rw [g7 0 13 (by decide), g6 0 13 (by decide)]; exact m13
    have ag : ∀ q j, 1 ≤ q → M7 q j = M1 q j := fun q j hq => by rw [g7 q j (fun e => by omega), g6 q j (fun e => by omega)]
    have a17 : M7 0 17 = bd := by rw [g7 0 17 (by decide), g6 0 17 (by decide)]; exact m17
    rw [a17]
    exact ⟨fun q => h71 bd M7 (by rw [if_neg q]) a0 a1 s7 a13 ag, fun q => h71 2 M7 (by rw [if_pos q]) a0 a1 s7 a13 ag⟩
  have a16 : M6 0 16 = mt := by rw [g6 0 16 (by decide)]; exact m16
  rw [a16]
  exact ⟨fun q => b50 mt (by rw [if_neg q]), fun q => b50 60 (by rw [if_pos q])⟩
theorem tells_lim {mt bd : Int} (h1 : mt = -9 ∨ (0 ≤ mt ∧ mt ≤ 200)) (h2 : bd = -9 ∨ (0 ≤ bd ∧ bd ≤ 9)) : (0 ≤ (if mt = -9 then 60 else mt) ∧ (if mt = -9 then 60 else mt) ≤ 200) ∧ (0 ≤ (if bd = -9 then 2 else bd) ∧ (if bd = -9 then 2 else bd) ≤ 9) := by
  constructor
  · split <;> omega
  · split <;> omega
theorem tells_CJ {u o o2 : Nat} {C C' C10 C'' : hq_M} (ho : o = 8 ∨ o = 88) (ho2 : (o2 : Int) = 96 - (o : Int)) (t9 : C10 0 9 = (o2 : Int)) (t10 : C10 0 10 = (o : Int)) (fC : FCp o2 C C') (g10 : ∀ q j, ¬ (q = 0 ∧ (j = 9 ∨ j = 10)) → C10 q j = C' q j) (hnum : ∀ k : Nat, k < 40 → C (170 + 5 * k) 0 = (k : Int)) (h405 : C 405 0 = 40) (h396 : TW u C) (k1 : Rw C'' 1 []) (k3 : Rw C'' 3 []) (k168 : C'' 168 1 = 0) (k4 : C'' 370 4 = (o2 : Int)) (k371 : ∀ j, 3 ≤ j → j ≤ 6 → C'' 371 j = 0) (k376 : Rw C'' 376 []) (k753 : C'' 375 3 = 0) (k754 : C'' 375 4 = 0) (k5 : C'' 370 5 = 0) (k385 : ∀ j, 3 ≤ j → j ≤ 6 → C'' 385 j = 0) (k389 : Rw C'' 389 []) (k842 : C'' 384 2 = 0) (fC'' : ∀ q j, ¬ Qres q j → C'' q j = C10 q j)
    (M5 : hq_M) (hSS : SS C'' o2 M5) (v9 : M5 0 9 = 0) (z5 : ∀ q j, 6 ≤ q → q ≤ 9 → j < 2 → M5 q j = 0) (y5 : ∀ j, j = 23 ∨ j = 24 ∨ j = 25 ∨ j = 37 ∨ j = 39 ∨ j = 43 ∨ j = 47 ∨ j = 52 ∨ j = 56 → M5 0 j = 0) : JJ u C'' M5 := by
  have oC := tells_out g10 fC''
  have hn : ∀ k : Nat, k < 40 → C'' (170 + 5 * k) 0 = (k : Int) := fun k hk => by rw [oC _ _ (by unfold Qres; omega) (by omega), fC _ _ (by omega)]; exact hnum k hk
  have hz : C'' 405 0 = 40 := by rw [oC _ _ (by unfold Qres; omega) (by omega), fC _ _ (by omega)]; exact h405
  have hw : TW u C'' := h396.cg (by rw [oC _ _ (by unfold Qres; omega) (by omega), fC _ _ (by omega)])
  have t9' : C'' 0 9 = (o2 : Int) := by rw [fC'' _ _ (by unfold Qres; omega)]; exact t9
  have t10' : C'' 0 10 = 96 - (o2 : Int) := by rw [fC'' _ _ (by unfold Qres; omega), t10]; omega
  exact JJ.fresh (o := o2) (by omega) t9' t10' k4 hSS k1 k3 k168 hn hz hw k371 k385 k376 k753 k754 k389 k5 k842 v9 (y5 37 (by decide)) (y5 25 (by decide)) z5 (y5 43 (by decide)) (y5 47 (by decide)) (y5 52 (by decide)) (y5 56 (by decide)) (y5 23 (by decide)) (y5 24 (by decide)) (y5 39 (by decide))
theorem o_tells {u : Nat} {C M : hq_M} (h : JJ u C M) : w_X11_tells C (fun z C' => w_X12_tells M (fun z' M' => z = z' ∧ JJ u C' M')) := by
  have hJ := h
  obtain ⟨⟨x1, x2, x3, x4⟩, -, ⟨o, ho, s1, s2, s3, s4⟩, hLT, -, -, ⟨D0, m0, -, hb0⟩, -⟩ := h
  have h396 : TW u C := hb0.2
  clear hb0 D0 m0
  have hlen : (sg M 5 0 (M 0 9).toNat).length = (M 0 9).toNat := sg_len _ _ _ _
  have hTM : TxM (sg M 5 0 (M 0 9).toNat) M := ⟨by rw [hlen]; omega, fun i hi => by rw [hlen] at hi; rw [sg_gd hi, Nat.zero_add], by omega, fun i hi => by rw [hlen] at hi; rw [sg_gd hi, Nat.zero_add]; exact x4 i hi⟩
  have hL6 := s4.2.2.1
  have hnum := hLT.2.2.1
  have h405 := hLT.2.2.2.1
  clear hLT s4
  unfold w_X11_tells
  intro o2 e2
  have ho2 : (o2 : Int) = 96 - (o : Int) := by omega
  have h10 : C 0 10 = (o2 : Int) := by omega
  refine reads_sim (T := sg M 5 0 (M 0 9).toNat) (o := o2) (by omega) x3 (by omega) (fun bf C' h74 hbf fC hre => ⟨fun e => absurd rfl e, fun _ => ?_⟩) (fun mt bd nF a v nS sa sv it b e C' hO hP fC hre => ⟨fun _ => ?_, fun e => absurd e (by decide)⟩)
  · rw [h74]
    refine ⟨⟨by omega, by omega⟩, ?_⟩
    unfold w_X12_tells
    refine hre M hTM hL6 _ (fun M' a1 a2 a3 => ⟨fun e => absurd rfl e, fun _ => ?_⟩)
    rw [a1]
    exact ⟨⟨by omega, by omega⟩, rfl, hJ.par s1 h10 fC a2 a3⟩
  · intro o6 e6 o8 e8 C9 e9 C10 e10
    have e6' : o = o6 := by rw [e6, fC _ _ (by omega), s1]; omega
    have e8' : o2 = o8 := by rw [e8, fC _ _ (by omega), h10]; omega
    subst e6' e8'
    have g10 : ∀ q j, ¬ (q = 0 ∧ (j = 9 ∨ j = 10)) → C10 q j = C' q j := fun q j hq => by rw [e10, hq_up_n _ _ (by omega), e9, hq_up_n _ _ (by omega)]
    have t9 : C10 0 9 = (o2 : Int) := by rw [e10, hq_up_n _ _ (by omega), e9, up_self]
    have t10 : C10 0 10 = (o : Int) := by rw [e10, up_self]
    refine x11_restart t9 (fun C'' k1 k3 k168 k4 k371 k376 k753 k754 k5 k385 k389 k842 fC'' => ?_)
    have oC := tells_out g10 fC''
    have ho2' : o2 = 8 ∨ o2 = 88 := by omega
    have e73 : C'' 7 3 = C' 7 3 := oC 7 3 (by decide) (by decide)
    have CJ := tells_CJ (u := u) ho ho2 t9 t10 fC g10 hnum h405 h396 k1 k3 k168 k4 k371 k376 k753 k754 k5 k385 k389 k842 fC''
    clear k1 k3 k168 k4 k371 k376 k753 k754 k5 k385 k389 k842 fC'' t9 t10 g10 fC hnum h405
    rw [e73, hP.2.2.2.2.1]
    unfold w_X12_tells
    refine hre M hTM hL6 _ (fun M1 hM1 fM1 => ⟨fun _ => ?_, fun e => absurd e (by decide)⟩)
    have hm := hM1.2.2.1
    have lm := tells_lim hO.1 hO.2.1
    refine tells_m hm.1 hm.2.1 hm.2.2.1 hm.2.2.2.1 hm.2.2.2.2 (fun t1 M7 ht n0 n1 n2 n13 g => ?_)
    exact tells_71 n0 n1 n2 ht n13 g (fun M5 => tells_SS ho2' oC hP.2.1.2.2.1 hP.2.1.2.2.2 hP.2.2.1 hP.2.2.2.1 hO.2.2.1 hO.2.2.2.1 lm.1 lm.2 hM1.2.2.2.2.2 hM1.2.2.2.1 hM1.2.2.2.2.1 M5) (fun M5 h1 h2 h3 h4 => ⟨rfl, CJ M5 h1 h2 h3 h4⟩)
