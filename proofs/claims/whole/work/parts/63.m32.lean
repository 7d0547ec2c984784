/-! ===== the mathematics, part 32: cost, its pieces ===== -/
theorem x9_copyOf {C : hq_M} {kk : hq_M → Prop} (hk : ∀ C', (∀ j, j < 64 → C' 393 j = C 372 j ∧ C' 394 j = C 373 j ∧ C' 395 j = C 374 j) → (∀ j, 3 ≤ j → j ≤ 6 → C' 392 j = C 371 j) → (∀ o j, ¬ ((393 ≤ o ∧ o ≤ 395) ∨ (o = 392 ∧ 3 ≤ j ∧ j ≤ 6)) → C' o j = C o j) → kk C') : w_X9_copyOf 392 371 C kk := by
  have w1 : hq_len YC (371 + 1) = 64 := by decide +kernel
  have w2 : hq_len YC (371 + 2) = 64 := by decide +kernel
  have w3 : hq_len YC (371 + 3) = 64 := by decide +kernel
  have v1 : hq_len YC (392 + 1) = 64 := by decide +kernel
  have v2 : hq_len YC (392 + 2) = 64 := by decide +kernel
  have v3 : hq_len YC (392 + 3) = 64 := by decide +kernel
  unfold w_X9_copyOf
  refine ⟨65, ?_⟩
  have key : ∀ (d i : Nat) (z : Int) (P : hq_M), z = (i : Int) → i + d = 64 → (∀ j, j < i → P 393 j = C 372 j ∧ P 394 j = C 373 j ∧ P 395 j = C 374 j) → (∀ o j, ¬ (393 ≤ o ∧ o ≤ 395) → P o j = C o j) → l_X9_copyOf_2 392 371 (fun M1 => ∀ M3 : hq_M, M3 = hq_up M1 392 3 (M1 371 3) → ∀ M5 : hq_M, M5 = hq_up M3 392 4 (M3 371 4) → ∀ M7 : hq_M, M7 = hq_up M5 392 5 (M5 371 5) → ∀ M9 : hq_M, M9 = hq_up M7 392 6 (M7 371 6) → kk M9) kk (d + 1) z P := by
    intro d
    induction d with
    | zero =>
      intro i z P hz hd hlo hF
      rw [l_X9_copyOf_2]
      refine ⟨fun _ => ?_, fun q => by omega⟩
      intro M3 e3 M5 e5 M7 e7 M9 e9
      have g : ∀ o j, ¬ (o = 392 ∧ 3 ≤ j ∧ j ≤ 6) → M9 o j = P o j := fun o j ho => by rw [e9, hq_up_n _ _ (by omega), e7, hq_up_n _ _ (by omega), e5, hq_up_n _ _ (by omega), e3, hq_up_n _ _ (by omega)]
      refine hk M9 (fun j hj => ?_) (fun j h1 h2 => ?_) (fun o j ho => by rw [g _ _ (by omega)]; exact hF o j (by omega))
      · rw [g _ _ (by omega), g _ _ (by omega), g _ _ (by omega)]
        exact hlo j (by omega)
      · have : j = 3 ∨ j = 4 ∨ j = 5 ∨ j = 6 := by omega
        have h3 := hF 371 3 (by omega)
        have h4 := hF 371 4 (by omega)
        have h5 := hF 371 5 (by omega)
        have h6 := hF 371 6 (by omega)
        rw [e9, e7, e5, e3]
        rcases this with rfl | rfl | rfl | rfl <;> simp [hq_up] <;> assumption
    | succ d ih =>
      intro i z P hz hd hlo hF
      rw [l_X9_copyOf_2, w1, w2, w3, v1, v2, v3, show z.toNat = i by omega]
      refine ⟨fun q => by omega, fun _ => ⟨⟨by omega, by omega⟩, ⟨by omega, by omega⟩, fun M4 e4 => ⟨⟨by omega, by omega⟩, ⟨by omega, by omega⟩, fun M8 e8 => ⟨⟨by omega, by omega⟩, ⟨by omega, by omega⟩, fun M12 e12 => ⟨⟨by omega, by omega⟩, fun x13 e13 => ih (i + 1) x13 M12 (by omega) (by omega) (fun j hj => ?_) (fun o j ho => ?_)⟩⟩⟩⟩⟩
      · rw [e12, e8, e4]
        have c1 := hF 372 i (by omega)
        have c2 := hF 373 i (by omega)
        have c3 := hF 374 i (by omega)
        by_cases q : j = i
        · rw [q]
          simp [hq_up, c1, c2, c3]
        · have := hlo j (by omega)
          simp [hq_up, q, this]
      · rw [e12, hq_up_n _ _ (by omega), e8, hq_up_n _ _ (by omega), e4, hq_up_n _ _ (by omega)]
        exact hF o j ho
  exact key 64 0 0 C rfl (by omega) (fun j hj => absurd hj (by omega)) (fun _ _ _ => rfl)
theorem x8_copyOf {C : hq_M} {ws : List Int} {kk : hq_M → Prop} (hw : Rw C 376 ws) (hl : ws.length ≤ 200) (hk : ∀ C', Rw C' 397 ws → (∀ o j, ¬ (o = 397 ∨ o = 398) → C' o j = C o j) → kk C') : w_X8_copyOf 396 375 C kk := by
  have v3 : hq_len YC (396 + 1 + 1) = 200 := by decide +kernel
  have v4 : hq_len YC (375 + 1 + 1) = 200 := by decide +kernel
  unfold w_X8_copyOf
  refine x6_empty (fun M2 r2 f2 => ?_)
  refine x6_addAll r2 (hw.cg (f2 _ _ (by omega) (by omega)) (fun j => f2 _ _ (by omega) (by omega))) (by omega) (by rw [v3, List.length_nil]; omega) (by rw [v4]; omega) (fun M3 r3 f3 => ?_)
  rw [List.nil_append] at r3
  exact hk M3 r3 (fun o j ho => by rw [f3 _ _ (by omega) (by omega), f2 _ _ (by omega) (by omega)])
theorem x10_copyOf {C M : hq_M} {o lo n D m c B : Nat} {kk : hq_M → Prop} (h : WE C M 370 o lo n D m c B) (ht : 0 ≤ C 396 3 ∧ C 396 3 ≤ (B : Int)) (hk : ∀ C' D', WE C' M 391 o lo n D' m c B → (∀ q j, ¬ ((391 ≤ q ∧ q ≤ 400)) → C' q j = C q j) → kk C') : w_X10_copyOf 391 370 C kk := by
  obtain ⟨⟨ho, hW, hc40, b1, b2, b3⟩, h4, hS, hT, hH, hQ, h5, hkn, hSM, hDE⟩ := h
  have hmm := hQ.many
  obtain ⟨q1, ⟨q2, q3, q4⟩, q5, q6⟩ := hQ
  have ekz : kz 391 = 256 := rfl
  unfold w_X10_copyOf
  intro o2 e2 M3 e3
  have : o = o2 := by omega
  subst this
  have f3 : ∀ q j, ¬ (q = 391 ∧ j = 4) → M3 q j = C q j := fun q j hq => by rw [e3]; simp only [hq_up]; rw [if_neg hq]
  have s3 : M3 391 4 = (o : Int) := by rw [e3, up_self]
  refine x9_copyOf (fun C4 k1 k2 f4 => ?_)
  refine x8_copyOf (ws := sg M 24 0 (M 0 43).toNat) (q4.cg (by rw [f4 _ _ (by omega), f3 _ _ (by omega)]) (fun j => by rw [f4 _ _ (by omega), f3 _ _ (by omega)])) (by rw [sg_len]; omega) (fun C5 p2 f5 => ?_)
  intro C7 e7
  have f7 : ∀ q j, ¬ (q = 391 ∧ j = 5) → C7 q j = C5 q j := fun q j hq => by rw [e7]; simp only [hq_up]; rw [if_neg hq]
  have out : ∀ q j, ¬ ((391 ≤ q ∧ q ≤ 400)) → C7 q j = C q j := fun q j hq => by rw [f7 _ _ (by omega), f5 _ _ (by omega), f4 _ _ (by omega), f3 _ _ (by omega)]
  have t1 : ∀ j, j < 64 → C7 393 j = C 372 j ∧ C7 394 j = C 373 j ∧ C7 395 j = C 374 j := fun j hj => by
    rw [f7 _ _ (by omega), f7 _ _ (by omega), f7 _ _ (by omega), f5 _ _ (by omega), f5 _ _ (by omega), f5 _ _ (by omega)]
    have := k1 j hj
    rw [f3 372 _ (by omega), f3 373 _ (by omega), f3 374 _ (by omega)] at this
    exact this
  have t2 : ∀ j, 3 ≤ j → j ≤ 6 → C7 392 j = C 371 j := fun j h1 h2 => by rw [f7 _ _ (by omega), f5 _ _ (by omega), k2 j h1 h2, f3 _ _ (by omega)]
  have w3 : C7 396 3 = C 396 3 := by rw [f7 _ _ (by omega), f5 _ _ (by omega), f4 _ _ (by omega), f3 _ _ (by omega)]
  refine hk C7 ((C 396 3).toNat + 256 - m) ⟨⟨ho, .inr rfl, hc40, b1, by omega, b3⟩, ?_, hS.cg (fun q j hq => out _ _ (by omega)) (fun _ _ _ => rfl), ?_, ?_, ⟨⟨fun e => absurd e (by decide), by rw [show 391 + 5 = 396 from rfl, w3]; omega, q1.2.2.1, by omega, by rw [show 391 + 5 = 396 from rfl, w3]; exact ht.1⟩, ⟨q2, q3, ?_⟩, q5, q6⟩, ?_, hkn, hSM, hDE⟩ out
  · rw [f7 _ _ (by omega), f5 _ _ (by omega), f4 _ _ (by omega)]; exact s3
  · obtain ⟨⟨a1, a2, a3, -⟩, ⟨m7, m6, m9, m8⟩, t5, tle, tcap, ti⟩ := hT
    refine ⟨⟨by rw [t2 _ (by omega) (by omega)]; exact a1, by rw [t2 _ (by omega) (by omega)]; exact a2, a3, by decide +kernel, by decide +kernel, by decide +kernel⟩, ⟨m7, m6, by rw [t2 _ (by omega) (by omega)]; exact m9, by rw [t2 _ (by omega) (by omega)]; exact m8⟩, ?_, by rw [t2 _ (by omega) (by omega), t2 _ (by omega) (by omega)]; exact tle, by rw [t2 _ (by omega) (by omega)]; exact tcap, fun i a b => ?_⟩
    · rw [t2 _ (by omega) (by omega), t5]
      exact sm_cg (fun i _ _ => ((t1 (i % 64) (Nat.mod_lt _ (by decide))).2.1).symm)
    · have := t1 (i % 64) (Nat.mod_lt _ (by decide))
      rw [show 391 + 1 + 1 = 393 from rfl, show 391 + 1 + 2 = 394 from rfl, this.1, this.2.1]
      exact ti i a b
  · intro i a b
    rw [show 391 + 1 + 3 = 395 from rfl, (t1 (i % 64) (Nat.mod_lt _ (by decide))).2.2]
    exact hH i a b
  · exact p2.cg (f7 _ _ (by omega)) (fun j => f7 _ _ (by omega))
  · rw [e7, up_self, f5 _ _ (by omega), f4 _ _ (by omega), f3 _ _ (by omega)]; exact h5
def sv29 (M : hq_M) : hq_M := fun o j => if o = 29 ∧ j < 64 then M 10 j else M o j
theorem m_cost51 {M : hq_M} {k78 : hq_M → Prop} {k : Int → hq_M → Prop} (hk : k78 (sv29 M)) : ∃ m, l_X12_cost_51 k78 k m 0 M := by
  refine ⟨65, ?_⟩
  have key : ∀ (d i : Nat) (z : Int) (P : hq_M), z = (i : Int) → i + d = 64 → (∀ j, j < i → P 29 j = M 10 j) → (∀ o j, ¬ (o = 29 ∧ j < i) → P o j = M o j) → l_X12_cost_51 k78 k (d + 1) z P := by
    intro d
    induction d with
    | zero =>
      intro i z P hz hd hlo hF
      rw [l_X12_cost_51]
      have : P = sv29 M := by
        funext o j
        unfold sv29
        by_cases q : o = 29 ∧ j < 64
        · rw [if_pos q, q.1]; exact hlo j (by omega)
        · rw [if_neg q]; exact hF o j (by omega)
      rw [this]
      exact ⟨fun _ => hk, fun q => by omega⟩
    | succ d ih =>
      intro i z P hz hd hlo hF
      rw [l_X12_cost_51, show z.toNat = i by omega, hF 10 i (by omega)]
      refine ⟨fun q => by omega, fun _ => ⟨⟨by omega, by omega⟩, ⟨by omega, by omega⟩, fun M4 e4 => ⟨⟨by omega, by omega⟩, fun x5 e5 => ih (i + 1) x5 M4 (by omega) (by omega) (fun j hj => ?_) (fun o j ho => ?_)⟩⟩⟩
      · rw [e4]
        by_cases q : j = i
        · rw [q, up_self]
        · rw [hq_up_n _ _ (by omega)]; exact hlo j (by omega)
      · rw [e4, hq_up_n _ _ (by omega)]; exact hF o j (by omega)
  exact key 64 0 0 M rfl (by omega) (fun j hj => absurd hj (by omega)) (fun _ _ _ => rfl)
theorem m_cost145 {M : hq_M} {v : Int} {k : Int → hq_M → Prop} (hk : ∀ M', (∀ j, j < 64 → M' 10 j = M 29 j) → (∀ o j, ¬ (o = 10 ∧ j < 64) → M' o j = M o j) → k v M') : ∃ m, l_X12_cost_145 v k m 0 M := by
  refine ⟨65, ?_⟩
  have key : ∀ (d i : Nat) (z : Int) (P : hq_M), z = (i : Int) → i + d = 64 → (∀ j, j < i → P 10 j = M 29 j) → (∀ o j, ¬ (o = 10 ∧ j < i) → P o j = M o j) → l_X12_cost_145 v k (d + 1) z P := by
    intro d
    induction d with
    | zero =>
      intro i z P hz hd hlo hF
      rw [l_X12_cost_145]
      exact ⟨fun _ => hk P (fun j hj => hlo j (by omega)) (fun o j ho => hF o j (by omega)), fun q => by omega⟩
    | succ d ih =>
      intro i z P hz hd hlo hF
      rw [l_X12_cost_145, show z.toNat = i by omega, hF 29 i (by omega)]
      refine ⟨fun q => by omega, fun _ => ⟨⟨by omega, by omega⟩, ⟨by omega, by omega⟩, fun M4 e4 => ⟨⟨by omega, by omega⟩, fun x5 e5 => ih (i + 1) x5 M4 (by omega) (by omega) (fun j hj => ?_) (fun o j ho => ?_)⟩⟩⟩
      · rw [e4]
        by_cases q : j = i
        · rw [q, up_self]
        · rw [hq_up_n _ _ (by omega)]; exact hlo j (by omega)
      · rw [e4, hq_up_n _ _ (by omega)]; exact hF o j (by omega)
  exact key 64 0 0 M rfl (by omega) (fun j hj => absurd hj (by omega)) (fun _ _ _ => rfl)
theorem JJ.cost {u : Nat} {C M C' M' : hq_M} (h : JJ u C M) (htw : TW (u + 1) C') (hC : ∀ o j, ¬ (391 ≤ o ∧ ¬ (o = 405 ∧ j = 0)) → C' o j = C o j) (hM : ∀ o j : Nat, ¬ (o = 22 ∨ o = 23 ∨ o = 28 ∨ o = 29 ∨ (o = 0 ∧ (j = 41 ∨ j = 49)) ∨ (o = 24 ∧ M 0 43 ≤ (j : Int)) ∨ (25 ≤ o ∧ o ≤ 27 ∧ M 0 47 ≤ (j : Int))) → M' o j = M o j) : JJ (u + 1) C' M' := by
  obtain ⟨hT, hD, hS, hL, ⟨lo, n, hE, hH, hb⟩, ⟨lo2, n2, hX⟩, ⟨D, m, hQ, hqb⟩, hDE, hR, hK⟩ := h
  have h39 := hK.2.2.2
  have h39' : M' 0 39 = 0 := by rw [hM _ _ (by omega)]; exact h39
  refine ⟨hT.cg (fun o j ho => hC o j (by omega)) (fun o j ho => hM o j (by omega)), hD.cg (fun o j ho => hC o j (by omega)) (fun o j ho => hM o j (by omega)), hS.cg (fun o j ho => hC o j (by omega)) (fun o j ho => hM o j (by omega)), hL.cg (fun o j ho => hC o j (by omega)) (fun o j ho => hM o j (by omega)) (Int.le_of_eq (hM _ _ (by omega)).symm), ⟨lo, n, hE.cg (fun o j ho => hC o j (by omega)) (fun o j ho => hM o j (by omega)), ?_, by omega⟩, ⟨lo2, n2, hX.cg (fun o j ho => hC o j (by omega)) (fun o j ho => hM o j (by omega))⟩, ⟨D, m, ?_, by omega, htw⟩, ?_, hR.cg (fun o j ho => hC _ _ (by omega)) (fun o j ho => hM _ _ (by omega)), hK.cg (fun o j ho => hC _ _ (by omega)) (fun o j ho => hM _ _ (by omega))⟩
  · intro i a b
    obtain ⟨g1, g2⟩ := hH i a b
    rw [hC _ _ (by omega)]
    refine ⟨g1, fun k hk => ?_⟩
    rw [g2 k hk]
    unfold hd
    rw [mr_rest h39, mr_rest h39', hM 0 25 (by omega), hb_cg (M' := M') (M := M) (hM _ _ (by omega)) (hM _ _ (by omega)) (fun j _ => hM _ _ (by omega))]
  · obtain ⟨q1, q2, q3, q4, q5, q6⟩ := hQ
    have q47 := q1.2.2.1
    unfold SQ
    rw [hM 0 47 (by omega), hM 0 43 (by omega), hM 0 0 (by omega), hC 375 3 (by omega), hC 375 4 (by omega)]
    refine ⟨q1, ⟨q2.1, q2.2.1, ?_⟩, ?_, fun i hi => by rw [hM 26 i (by omega)]; exact q4 i hi, fun i hi => ?_, q6⟩
    · rw [show sg M' 24 0 (M 0 43).toNat = sg M 24 0 (M 0 43).toNat from sg_eq (fun i hi => hM _ _ (by omega))]
      exact q2.2.2.cg (hC _ _ (by omega)) (fun i => hC _ _ (by omega))
    · rw [q3]
      exact sm_cg (fun i _ hi => (hM _ _ (by omega)).symm)
    · rw [hC (375 + 3) _ (by omega), hC (375 + 4) _ (by omega), hM 25 i (by omega), hM 26 i (by omega), hM 27 i (by omega)]
      exact q5 i hi
  · have q47 := hQ.1.2.2.1
    obtain ⟨d1, d2, d3⟩ := hDE
    have e : ∀ c n, n ≤ (M 0 47).toNat → cpf M' c n = cpf M c n := fun c n hn => cpf_cg (fun o j ho => hM _ _ (by omega))
    unfold DE
    rw [hM 0 47 (by omega), hM 8 1 (by omega), hM 8 0 (by omega), hM 6 1 (by omega), hM 6 0 (by omega), e _ _ (Nat.le_refl _)]
    refine ⟨d1, fun i hi h25 => ?_, ?_⟩
    · rw [hM 25 i (by omega)] at h25
      rw [hM 27 i (by omega), e _ _ (by omega)]
      unfold sz
      rw [hM 1 _ (by omega), hM 2 _ (by omega)]
      exact d2 i hi h25
    · rw [cn_cg (Q := fun i => decide (M 25 i = 1)) (fun i hi => by rw [hM 25 i (by omega)])]
      exact d3
