/-! ===== the mathematics, part 43: the call tells ===== -/
theorem nm_lo {M M' : hq_M} {f : Nat} (hL : Lo6 M) (hf : f < 16) (h1 : M' 1 f = M 1 f) (h3 : ∀ j, j < 96 → M' 3 j = M 3 j) : nm M' f = nm M f := by
  have := hL f (by omega)
  unfold nm
  rw [h1]
  exact sg_eq (fun i hi => h3 _ (by omega))
theorem vl_lo {M M' : hq_M} {f : Nat} (hL : Lo6 M) (hf : f < 16) (h1 : M' 2 f = M 2 f) (h3 : ∀ j, j < 96 → M' 4 j = M 4 j) : vl M' f = vl M f := by
  have := hL f (by omega)
  unfold vl
  rw [h1]
  exact sg_eq (fun i hi => h3 _ (by omega))
theorem TB.par {C M C' M' : hq_M} {A t lo n : Nat} (h : TB C M A t lo n) (hF : M 0 0 ≤ 7) (hC : ∀ o j, o = A ∨ o = A + 1 ∨ o = A + 2 → C' o j = C o j) (hM : ∀ o j, (6 ≤ o ∧ o ≤ 10) ∨ ((o = 1 ∨ o = 2) ∧ j < 16) ∨ (o = 0 ∧ j = 0) → M' o j = M o j) : TB C' M' A t lo n := by
  obtain ⟨h1, h2, h3, h4, h5, h6⟩ := h
  unfold TB TC at *
  rw [hM 6 t (by omega), hM 7 t (by omega), hM 8 t (by omega), hM 9 t (by omega), hM 0 0 (by simp), hC A 3 (by simp), hC A 4 (by simp), hC A 5 (by simp), hC A 6 (by simp)]
  refine ⟨h1, h2, ?_, h4, h5, fun i a b => ?_⟩
  · rw [h3]
    exact sm_cg (fun i _ _ => (hC _ _ (by simp)).symm)
  · obtain ⟨g1, g2, g3⟩ := h6 i a b
    rw [hC (A + 1) _ (by simp), hC (A + 2) _ (by simp), hM 10 _ (by omega)]
    unfold sz
    rw [hM 1 _ (by omega), hM 2 _ (by omega)]
    exact ⟨g1, g2, g3⟩
theorem JJ.par {u o o2 : Nat} {C M C' M' : hq_M} (h : JJ u C M) (h9 : C 0 9 = (o : Int)) (h10 : C 0 10 = (o2 : Int)) (fC : FCp o2 C C') (hL : Lo6 M') (fM : FMp M M') : JJ u C' M' := by
  obtain ⟨hT, hD, ⟨o', ho, s1, s2, s3, s4⟩, hLT, ⟨lo, n, hE, hH, hb⟩, ⟨lo2, n2, hX⟩, ⟨D, m, hQ, hqb⟩, hDE, hR, hK⟩ := h
  have hF := s4.1
  have hS8 := s4.2.1
  have hL0 := s4.2.2.1
  have eo : o = o' := by omega
  subst eo
  have enm : ∀ f, f < 16 → nm M' f = nm M f := fun f hf => nm_lo hL0 hf (fM _ _ (by omega)) (fun j hj => fM _ _ (by omega))
  have evl : ∀ f, f < 16 → vl M' f = vl M f := fun f hf => vl_lo hL0 hf (fM _ _ (by omega)) (fun j hj => fM _ _ (by omega))
  refine ⟨hT.cg (fun q j hq => fC _ _ (by omega)) (fun q j hq => fM _ _ (by omega)), hD.cg (fun q j hq => fC _ _ (by omega)) (fun q j hq => fM _ _ (by omega)), ⟨o, ho, by rw [fC _ _ (by omega)]; exact s1, by rw [fC _ _ (by omega)]; exact s2, by rw [fC _ _ (by omega)]; exact s3, ?_⟩, hLT.cg (fun q j hq => fC _ _ (by omega)) (fun q j hq => fM _ _ (by omega)) (Int.le_of_eq (fM _ _ (by omega)).symm), ⟨lo, n, hE.par hF.2 (fun q j hq => fC _ _ (by omega)) (fun q j hq => fM _ _ (by omega)), hH.cg (fun j => fC _ _ (by omega)) (fun q j hq => fM _ _ (by omega)), hb⟩, ⟨lo2, n2, hX.par hF.2 (fun q j hq => fC _ _ (by omega)) (fun q j hq => fM _ _ (by omega))⟩, ⟨D, m, hQ.cg (fun q j hq => fC _ _ (by omega)) (fun q j hq => fM _ _ (by omega)), hqb⟩, ?_, hR.cg (fun q j hq => fC _ _ (by omega)) (fun q j hq => fM _ _ (by omega)), hK.cg (fun q j hq => fC _ _ (by omega)) (fun q j hq => fM _ _ (by omega))⟩
  · obtain ⟨a1, a2, a3, a4, a5, a6, a7, a8, a9⟩ := s4
    unfold SS
    rw [fM 0 0 (by omega), fM 0 1 (by omega), fM 0 2 (by omega), fM 0 3 (by omega), fM 8 0 (by omega)]
    exact ⟨a1, a2, hL, a4.cg (by omega) (fun q j hq => fC _ _ (by omega)) rfl (fun i hi => enm i (by omega)) (fun i hi => evl i (by omega)), a5.cg (by omega) (fun q j hq => fC _ _ (by omega)) rfl (fun i hi => enm _ (by omega)) (fun i hi => evl _ (by omega)), (fC _ _ (by omega)).trans a6, (fC _ _ (by omega)).trans a7, a8, a9⟩
  · have q47 := hQ.1.2.2.1
    have q5 := hQ.2.2.2.2.1
    obtain ⟨d1, d2, d3⟩ := hDE
    have e : ∀ c n, cpf M' c n = cpf M c n := fun c n => cpf_cg (fun q j hq => fM _ _ (by omega))
    unfold DE
    rw [fM 0 47 (by omega), fM 8 1 (by omega), fM 8 0 (by omega), fM 6 1 (by omega), fM 6 0 (by omega), e]
    refine ⟨d1, fun i hi h25 => ?_, ?_⟩
    · rw [fM 25 i (by omega)] at h25
      rw [fM 27 i (by omega), e]
      have hb27 : 0 ≤ M 27 i ∧ M 27 i < M 0 0 := by
        have := (q5 i (by omega)).2
        omega
      unfold sz
      rw [fM 1 _ (by omega), fM 2 _ (by omega)]
      exact d2 i hi h25
    · rw [cn_cg (Q := fun i => decide (M 25 i = 1)) (fun i hi => by rw [fM 25 i (by omega)])]
      exact d3
theorem o_tells {u : Nat} {C M : hq_M} (h : JJ u C M) : w_X11_tells C (fun z C' => w_X12_tells M (fun z' M' => z = z' ∧ JJ u C' M')) := by
  have hJ := h
  obtain ⟨⟨x1, x2, x3, x4⟩, hD, ⟨o, ho, s1, s2, s3, s4⟩, hLT, -⟩ := h
  have hlen : (sg M 5 0 (M 0 9).toNat).length = (M 0 9).toNat := sg_len _ _ _ _
  have hTM : TxM (sg M 5 0 (M 0 9).toNat) M := ⟨by rw [hlen]; omega, fun i hi => by rw [hlen] at hi; rw [sg_gd hi, Nat.zero_add], by omega, fun i hi => by rw [hlen] at hi; rw [sg_gd hi, Nat.zero_add]; exact x4 i hi⟩
  have hL6 := s4.2.2.1
  unfold w_X11_tells
  intro o2 e2
  have ho2 : (o2 : Int) = 96 - (o : Int) := by omega
  have h10 : C 0 10 = (o2 : Int) := by omega
  refine reads_sim (T := sg M 5 0 (M 0 9).toNat) (o := o2) (by omega) x3 (by omega) (fun bf C' h74 hbf fC hre => ⟨fun e => absurd rfl e, fun _ => ?_⟩) (fun mt bd nF a v nS sa sv it b e C' hO hP fC hre => ⟨fun _ => ?_, fun e => absurd e (by decide)⟩)
  · rw [h74]
    refine ⟨⟨by omega, by omega⟩, ?_⟩
    unfold w_X12_tells
    refine hre M hTM hL6 _ (fun M' a1 a2 a3 => ⟨fun e => absurd rfl e, fun _ => ?_⟩)
    rw [a1]
    exact ⟨⟨by omega, by omega⟩, rfl, hJ.par s1 h10 fC a2 a3⟩
  · intro o6 e6 o8 e8 C9 e9 C10 e10
    have e6' : o = o6 := by rw [e6, fC _ _ (by omega), s1]; omega
    have e8' : o2 = o8 := by rw [e8, fC _ _ (by omega), h10]; omega
    subst e6' e8'
    have g10 : ∀ q j, ¬ (q = 0 ∧ (j = 9 ∨ j = 10)) → C10 q j = C' q j := fun q j hq => by rw [e10, hq_up_n _ _ (by omega), e9, hq_up_n _ _ (by omega)]
    have t9 : C10 0 9 = (o2 : Int) := by rw [e10, hq_up_n _ _ (by omega), e9, up_self]
    have t10 : C10 0 10 = (o : Int) := by rw [e10, up_self]
    obtain ⟨p1, ⟨p2, p3, p4, p5⟩, p6, p7, p8, p9, p10⟩ := hP
    obtain ⟨q1, q2, q3, q4, q5⟩ := hO
    refine x11_restart t9 (fun C'' k1 k3 k168 k4 k371 k376 k753 k754 k5 k385 k389 k842 fC'' => ?_)
    have oC : ∀ q j, ¬ ((1 ≤ q ∧ q ≤ 4) ∨ (q = 168 ∧ j = 1) ∨ (q = 370 ∧ (j = 4 ∨ j = 5)) ∨ (q = 371 ∧ 3 ≤ j ∧ j ≤ 6) ∨ (q = 375 ∧ (j = 3 ∨ j = 4)) ∨ q = 376 ∨ q = 377 ∨ (q = 385 ∧ 3 ≤ j ∧ j ≤ 6) ∨ q = 389 ∨ q = 390 ∨ (q = 384 ∧ j = 2) ∨ (q = 0 ∧ (j = 9 ∨ j = 10))) → C'' q j = C' q j := fun q j hq => by rw [fC'' _ _ (by omega), g10 _ _ (by omega)]
    rw [oC 7 3 (by omega), p8]
    unfold w_X12_tells
    refine hre M hTM hL6 _ (fun M1 hM1 fM1 => ⟨fun _ => ?_, fun e => absurd e (by decide)⟩)
    obtain ⟨m1, m2, ⟨m16, m17, m14, m15, m13⟩, m8, m9, mL⟩ := hM1
    intro M4 e4 M6 em6
    have g6 : ∀ q j, ¬ (q = 0 ∧ (j = 0 ∨ j = 1)) → M6 q j = M1 q j := fun q j hq => by rw [em6, hq_up_n _ _ (by omega), e4, hq_up_n _ _ (by omega)]
    have n0 : M6 0 0 = (nF : Int) := by rw [em6, hq_up_n _ _ (by omega), e4, up_self]; exact m14
    have n1 : M6 0 1 = (nS : Int) := by rw [em6, up_self, e4, hq_up_n _ _ (by omega)]; exact m15
    have b71 : ∀ t1 M7, t1 = (if bd = -9 then 2 else bd) → M7 0 2 = (if mt = -9 then 60 else mt) → (∀ q j, ¬ (q = 0 ∧ j = 2) → M7 q j = M6 q j) → b_X12_tells_71 t1 (fun z' M' => it = z' ∧ JJ u C'' M') M7 := by
      intro t1 M7 ht1 h72 g7
      unfold b_X12_tells_71
      intro M8 e8''
      have g8 : ∀ q j, ¬ (q = 0 ∧ j = 3) → M8 q j = M7 q j := fun q j hq => by rw [e8'']; simp only [hq_up]; rw [if_neg hq]
      have s8 : M8 0 3 = (if bd = -9 then 2 else bd) := by rw [e8'', up_self]; exact ht1
      refine m_tells76 (fun MA a76 gA => m_tells120 (fun MB a120 gB => ?_))
      intro MC eC
      refine m_begins (fun M5 z5 y5 g5 => ?_)
      have cell : ∀ q j, ¬ ((6 ≤ q ∧ q ≤ 9 ∧ j < 2) ∨ (q = 0 ∧ (j = 23 ∨ j = 24 ∨ j = 25 ∨ j = 37 ∨ j = 39 ∨ j = 43 ∨ j = 47 ∨ j = 52 ∨ j = 56)) ∨ (q = 0 ∧ j = 9)) → M5 q j = MB q j := fun q j hq => by rw [g5 _ _ (by omega), eC, hq_up_n _ _ (by omega)]
      have low : ∀ q j, ¬ (q = 0 ∧ (j = 0 ∨ j = 1 ∨ j = 2 ∨ j = 3)) → M8 q j = M1 q j := fun q j hq => by rw [g8 _ _ (by omega), g7 _ _ (by omega), g6 _ _ (by omega)]
      have c1 : ∀ f, f < 16 → M5 1 f = M1 1 (16 + f) ∧ M5 2 f = M1 2 (16 + f) := fun f hf => by
        rw [cell _ _ (by omega), cell _ _ (by omega), gB _ _ (by omega), gB _ _ (by omega), (a76 f hf).1, (a76 f hf).2, low _ _ (by omega), low _ _ (by omega)]
        exact ⟨rfl, rfl⟩
      have c1h : ∀ f, 16 ≤ f → M5 1 f = M1 1 f ∧ M5 2 f = M1 2 f := fun f hf => by
        rw [cell _ _ (by omega), cell _ _ (by omega), gB _ _ (by omega), gB _ _ (by omega), gA _ _ (by omega), gA _ _ (by omega), low _ _ (by omega), low _ _ (by omega)]
        exact ⟨rfl, rfl⟩
      have c3 : ∀ j, j < 96 → M5 3 j = M1 3 (96 + j) ∧ M5 4 j = M1 4 (96 + j) := fun j hj => by
        rw [cell _ _ (by omega), cell _ _ (by omega), (a120 j hj).1, (a120 j hj).2, gA _ _ (by omega), gA _ _ (by omega), low _ _ (by omega), low _ _ (by omega)]
        exact ⟨rfl, rfl⟩
      have enm : ∀ f, f < 16 → nm M5 f = nm M1 (16 + f) := fun f hf => by
        have := mL (16 + f) (by omega)
        unfold nm
        rw [(c1 f hf).1]
        refine sg_eq (fun i hi => ?_)
        rw [(c3 (6 * f + i) (by omega)).1]
        congr 1
        omega
      have evl : ∀ f, f < 16 → vl M5 f = vl M1 (16 + f) := fun f hf => by
        have := mL (16 + f) (by omega)
        unfold vl
        rw [(c1 f hf).2]
        refine sg_eq (fun i hi => ?_)
        rw [(c3 (6 * f + i) (by omega)).2]
        congr 1
        omega
      have v0 : M5 0 0 = (nF : Int) := by rw [cell _ _ (by omega), gB _ _ (by omega), gA _ _ (by omega), g8 _ _ (by omega), g7 _ _ (by omega)]; exact n0
      have v1 : M5 0 1 = (nS : Int) := by rw [cell _ _ (by omega), gB _ _ (by omega), gA _ _ (by omega), g8 _ _ (by omega), g7 _ _ (by omega)]; exact n1
      have v2 : M5 0 2 = (if mt = -9 then 60 else mt) := by rw [cell _ _ (by omega), gB _ _ (by omega), gA _ _ (by omega), g8 _ _ (by omega)]; exact h72
      have v3 : M5 0 3 = (if bd = -9 then 2 else bd) := by rw [cell _ _ (by omega), gB _ _ (by omega), gA _ _ (by omega)]; exact s8
      have v13 : M5 0 13 = it := by rw [cell _ _ (by omega), gB _ _ (by omega), gA _ _ (by omega), low _ _ (by omega)]; exact m13
      have b2 : 0 ≤ M5 0 2 ∧ M5 0 2 ≤ 200 := by rw [v2]; split <;> omega
      have b3 : 0 ≤ M5 0 3 ∧ M5 0 3 ≤ 9 := by rw [v3]; split <;> omega
      have hSS : SS C'' o2 M5 := by
        refine ⟨by omega, by omega, fun f hf => ?_, ?_, ?_, ?_, ?_, ⟨b2, ?_⟩, b3⟩
        · by_cases q : f < 16
          · rw [(c1 f q).1, (c1 f q).2]; exact mL _ (by omega)
          · rw [(c1h f (by omega)).1, (c1h f (by omega)).2]; exact mL f hf
        · refine Pr.cg p6 (by omega) (fun q j hq => oC _ _ (by omega)) v0 (fun i hi => ?_) (fun i hi => ?_)
          · rw [enm i (by omega)]; exact (m8 i (by omega)).1
          · rw [evl i (by omega)]; exact (m8 i (by omega)).2
        · refine Pr.cg p7 (by omega) (fun q j hq => oC _ _ (by omega)) v1 (fun i hi => ?_) (fun i hi => ?_)
          · show nm M5 (8 + i) = sa i
            rw [enm (8 + i) (by omega), show 16 + (8 + i) = 24 + i by omega]; exact (m9 i (by omega)).1
          · show vl M5 (8 + i) = sv i
            rw [evl (8 + i) (by omega), show 16 + (8 + i) = 24 + i by omega]; exact (m9 i (by omega)).2
        · rw [oC _ _ (by omega), v2]; exact p4
        · rw [oC _ _ (by omega), v3]; exact p5
        · rw [z5 8 0 (by omega) (by omega) (by omega)]; exact b2.1
      refine ⟨v13.symm, JJ.fresh (o := o2) (by omega) (by rw [fC'' _ _ (by omega)]; exact t9) (by rw [fC'' _ _ (by omega), t10]; omega) k4 hSS k1 k3 k168 (fun k hk => by rw [oC _ _ (by omega), fC _ _ (by omega)]; exact hLT.2.2.1 k hk) (by rw [oC _ _ (by omega), fC _ _ (by omega)]; exact hLT.2.2.2.1) k371 k385 k376 k753 k754 k389 k5 k842 ?_ (y5 37 (by omega)) (y5 25 (by omega)) z5 (y5 43 (by omega)) (y5 47 (by omega)) (y5 52 (by omega)) (y5 56 (by omega)) (y5 23 (by omega)) (y5 24 (by omega)) (y5 39 (by omega))⟩
      rw [g5 _ _ (by omega), eC, up_self]
    have b50 : ∀ t1, t1 = (if mt = -9 then 60 else mt) → b_X12_tells_50 t1 (fun z' M' => it = z' ∧ JJ u C'' M') M6 := by
      intro t1 ht1
      unfold b_X12_tells_50
      intro M7 e7
      have g7 : ∀ q j, ¬ (q = 0 ∧ j = 2) → M7 q j = M6 q j := fun q j hq => by rw [e7]; simp only [hq_up]; rw [if_neg hq]
      have s7 : M7 0 2 = (if mt = -9 then 60 else mt) := by rw [e7, up_self]; exact ht1
      rw [g7 0 17 (by omega), g6 0 17 (by omega), m17]
      exact ⟨fun q => b71 bd M7 (by rw [if_neg q]) s7 g7, fun q => b71 2 M7 (by rw [if_pos q]) s7 g7⟩
    rw [g6 0 16 (by omega), m16]
    exact ⟨fun q => b50 mt (by rw [if_neg q]), fun q => b50 60 (by rw [if_pos q])⟩
