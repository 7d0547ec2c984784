/-! ===== the mathematics, part 5: the smaller calls ===== -/
theorem JJ.put {u : Nat} {C M C' M' : hq_M} (h : JJ u C M) (hT : TX C' M') (hD : DR C' M') (hC : ∀ o j, ¬ ((1 ≤ o ∧ o ≤ 7) ∨ (380 ≤ o ∧ o ≤ 383) ∨ (391 ≤ o ∧ ¬ (o = 405 ∧ j = 0) ∧ ¬ (o = 396 ∧ j = 3)) ∨ (o = 370 ∧ (j = 6 ∨ j = 7))) → C' o j = C o j) (hM : ∀ o j, ¬ (o = 5 ∨ o = 21 ∨ o = 22 ∨ o = 23 ∨ o = 28 ∨ o = 29 ∨ (o = 0 ∧ ((9 ≤ j ∧ j ≤ 17) ∨ j = 37 ∨ j = 41 ∨ j = 49))) → M' o j = M o j) : JJ u C' M' := by
  obtain ⟨-, -, hS, hL, ⟨lo, n, hE, hH, hb⟩, ⟨lo2, n2, hX⟩, ⟨D, m, hQ, hb2⟩, hDE, hR, hK⟩ := h
  refine ⟨hT, hD, hS.cg (fun o j ho => hC o j (by omega)) (fun o j ho => hM o j (by omega)), hL.cg (fun o j ho => hC o j (by omega)) (fun o j ho => hM o j (by omega)) (Int.le_of_eq (hM _ _ (by omega)).symm), ⟨lo, n, hE.cg (fun o j ho => hC o j (by omega)) (fun o j ho => hM o j (by omega)), ?_, hb⟩, ⟨lo2, n2, hX.cg (fun o j ho => hC o j (by omega)) (fun o j ho => hM o j (by omega))⟩, ⟨D, m, hQ.cg (fun o j ho => hC o j (by omega)) (fun o j ho => hM o j (by omega)), hb2.1, hb2.2.cg (hC _ _ (by omega))⟩, hDE.cg (fun o j ho => hM o j (by omega)), hR.cg (fun o j ho => hC o j (by omega)) (fun o j ho => hM o j (by omega)), hK.cg (fun o j ho => hC o j (by omega)) (fun o j ho => hM o j (by omega))⟩
  intro i a b
  obtain ⟨h1, h2⟩ := hH i a b
  rw [hC 374 _ (by omega)]
  refine ⟨h1, fun k hk => ?_⟩
  rw [h2 k hk]
  have z : M 0 39 = 0 := hK.2.2.2
  have z' : M' 0 39 = 0 := by rw [hM _ _ (by omega)]; exact z
  have e : ∀ N : hq_M, N 0 39 = 0 → mr N i = false := fun N hN => by unfold mr; rw [hN]; rfl
  unfold hd
  rw [hM 0 25 (by omega), hb_cg (M' := M') (M := M) (hM _ _ (by omega)) (hM _ _ (by omega)) (fun j _ => hM _ _ (by omega)), e M z, e M' z']
theorem JJ.mono {u u' : Nat} {C M : hq_M} (h : JJ u C M) (hu : u ≤ u') : JJ u' C M := by
  obtain ⟨h1, h2, h3, h4, ⟨lo, n, hE, hH, hb⟩, h6, ⟨D, m, hQ, hb2⟩, h8, h9, h10⟩ := h
  exact ⟨h1, h2, h3, h4, ⟨lo, n, hE, hH, by omega⟩, h6, ⟨D, m, hQ, by omega, hb2.2.mono hu⟩, h8, h9, h10⟩
theorem IsWait.cg {st rq st' rq' : Nat → Int} {n : Nat} {v r : Int} (h : IsWait st rq n v r) (h1 : ∀ i, i < n → st i = st' i) (h2 : ∀ i, i < n → rq i = rq' i) : IsWait st' rq' n v r := by
  refine IsLo.cg (fun i hi => ?_) h
  have : rk st rq n i = rk st' rq' n i := by
    unfold rk
    refine cn_cg (fun j hj => ?_)
    unfold bfr
    rw [h1 j hj, h2 j hj, h2 i hi]
  rw [this, h1 i hi]
theorem capT : hq_len YC (1 + 1) = 200 := by decide +kernel
theorem capD : hq_len YC (3 + 1) = 6 := by decide +kernel
theorem capS : hq_len YC (5 + 1) = 8 := by decide +kernel
theorem capR : hq_len YC (389 + 1) = 160 := by decide +kernel
theorem cap6 {a : Nat} {h : 0 ≤ a} : True := trivial
theorem capL : ∀ k, k < 40 → hq_len YC (171 + 5 * k + 1) = 6 ∧ hq_len YC (173 + 5 * k + 1) = 96 := by decide +kernel
theorem o_type {u : Nat} {C M : hq_M} (h : JJ u C M) (v : Int) : w_X11_type v C (fun z C' => w_X12_type v M (fun z' M' => z = z' ∧ JJ u C' M')) := by
  have hJ := h
  obtain ⟨⟨t1, t2, t3, t4⟩, hD, -⟩ := h
  have tl : (sg M 5 0 (M 0 9).toNat).length = (M 0 9).toNat := sg_len _ _ _ _
  have bad : ¬ (0 ≤ v ∧ v ≤ 255) → w_X12_type v M (fun z' M' => -1 = z' ∧ JJ u C M') := by
    intro q
    unfold w_X12_type
    refine m_in ?_
    rw [if_neg q]
    exact ⟨fun e => absurd rfl e, fun _ => ⟨rfl, hJ⟩⟩
  unfold w_X11_type
  refine ⟨fun q => bad (by omega), fun q => ⟨fun q2 => ?_, fun q2 => bad (by omega)⟩⟩
  by_cases full : M 0 9 = 200
  · refine x6_add_full t3 (by rw [capT, tl]; omega) ⟨fun _ => ?_, fun e => absurd rfl e⟩
    unfold w_X12_type
    refine m_in ?_
    rw [if_pos ⟨by omega, q2⟩]
    exact ⟨fun _ => ⟨fun e => absurd full e, fun _ => ⟨rfl, hJ⟩⟩, fun e => absurd e (by decide)⟩
  · refine x6_add t3 (by rw [capT, tl]; omega) (fun C' r' f' => ⟨fun e => absurd e (by decide), fun _ => ?_⟩)
    unfold w_X12_type
    refine m_in ?_
    rw [if_pos ⟨by omega, q2⟩]
    refine ⟨fun _ => ⟨fun _ => ⟨⟨by omega, by omega⟩, fun M5 e5 => ?_⟩, fun e => absurd e full⟩, fun e => absurd e (by decide)⟩
    have e9 : M5 0 9 = M 0 9 := by rw [e5]; simp [hq_up]
    refine ⟨⟨by omega, by omega⟩, fun M8 e8 => ?_⟩
    have e9' : M8 0 9 = M 0 9 + 1 := by rw [e8]; simp [hq_up, e9]
    have hn : (M 0 9 + 1).toNat = (M 0 9).toNat + 1 := by omega
    have e58 : ∀ i, i < (M 0 9).toNat → M8 5 i = M 5 i := fun i hi => by rw [e8, e5]; simp [hq_up]; omega
    have e5n : M8 5 (M 0 9).toNat = v := by rw [e8, e5]; simp [hq_up]
    have el : sg M8 5 0 ((M 0 9).toNat + 1) = sg M 5 0 (M 0 9).toNat ++ [v] := by
      rw [sg_snoc, Nat.zero_add, e5n]
      congr 1
      exact sg_eq (fun i hi => by rw [Nat.zero_add]; exact e58 i hi)
    refine ⟨?_, hJ.put ?_ (hD.cg (fun o j ho => f' o j (by omega) (by omega)) (fun o j ho => by rw [e8, e5]; simp [hq_up]; omega)) (fun o j ho => f' o j (by omega) (by omega)) (fun o j ho => by rw [e8, e5]; simp [hq_up]; omega)⟩
    · rw [e9', r'.1, List.length_append, tl]
      simp
      omega
    · unfold TX
      rw [e9', hn, el]
      refine ⟨by omega, by omega, r', fun i hi => ?_⟩
      by_cases qi : i = (M 0 9).toNat
      · rw [qi, e5n]; omega
      · rw [e58 i (by omega)]; exact t4 i (by omega)
theorem o_clear {u : Nat} {C M : hq_M} (h : JJ u C M) : w_X11_clear C (fun z C' => w_X12_clear M (fun z' M' => z = z' ∧ JJ u C' M')) := by
  have hJ := h
  obtain ⟨⟨t1, t2, t3, t4⟩, hD, -⟩ := h
  unfold w_X11_clear
  intro x2 e2
  refine x6_empty (fun C' r' f' => ?_)
  unfold w_X12_clear
  intro y2 g2 M3 e3
  have e9 : M3 0 9 = 0 := by rw [e3]; simp [hq_up]
  refine ⟨?_, hJ.put ?_ (hD.cg (fun o j ho => f' o j (by omega) (by omega)) (fun o j ho => by rw [e3]; simp [hq_up]; omega)) (fun o j ho => f' o j (by omega) (by omega)) (fun o j ho => by rw [e3]; simp [hq_up]; omega)⟩
  · rw [e2, g2, t3.1, sg_len]; omega
  · unfold TX
    rw [e9]
    exact ⟨by decide, by decide, r', fun i hi => absurd hi (by simp)⟩
theorem o_puts {u : Nat} {C M : hq_M} (h : JJ u C M) (v : Int) : w_X11_puts v C (fun z C' => w_X12_puts v M (fun z' M' => z = z' ∧ JJ u C' M')) := by
  have hJ := h
  obtain ⟨hT, ⟨d1, d2, d3, d4⟩, ⟨o, ho, s1, s2, s3, s4⟩, -⟩ := h
  have tl : (sg M 21 0 (M 0 37).toNat).length = (M 0 37).toNat := sg_len _ _ _ _
  have pc : PC (o + 1) 7 := by rcases ho with rfl | rfl; exact PC_9; exact PC_89
  unfold w_X11_puts
  intro o2 e2
  have eo : o2 = o := by omega
  subst eo
  refine x3_at pc s4.2.2.2.1.1 (by have := s4.1; omega) ?_
  by_cases q : 0 ≤ v ∧ v < M 0 0
  · rw [if_pos q]
    refine ⟨fun e => (by cases e), fun o3 _ => ?_⟩
    by_cases full : M 0 37 = 6
    · refine x6_add_full d3 (by rw [capD, tl]; omega) ⟨fun _ => ?_, fun e => absurd rfl e⟩
      unfold w_X12_puts
      refine m_isField (by have := s4.1; omega) ?_
      rw [if_pos q]
      exact ⟨fun _ => ⟨fun e => absurd full e, fun _ => ⟨rfl, hJ⟩⟩, fun e => absurd e (by decide)⟩
    · refine x6_add d3 (by rw [capD, tl]; omega) (fun C' r' f' => ⟨fun e => absurd e (by decide), fun _ => ?_⟩)
      unfold w_X12_puts
      refine m_isField (by have := s4.1; omega) ?_
      rw [if_pos q]
      refine ⟨fun _ => ⟨fun _ => ⟨⟨by omega, by omega⟩, fun M5 e5 => ?_⟩, fun e => absurd e full⟩, fun e => absurd e (by decide)⟩
      have e9 : M5 0 37 = M 0 37 := by rw [e5]; simp [hq_up]
      refine ⟨⟨by omega, by omega⟩, fun M8 e8 => ?_⟩
      have e9' : M8 0 37 = M 0 37 + 1 := by rw [e8]; simp [hq_up, e9]
      have e00 : M8 0 0 = M 0 0 := by rw [e8, e5]; simp [hq_up]
      have hn : (M 0 37 + 1).toNat = (M 0 37).toNat + 1 := by omega
      have e58 : ∀ i, i < (M 0 37).toNat → M8 21 i = M 21 i := fun i hi => by rw [e8, e5]; simp [hq_up]; omega
      have e5n : M8 21 (M 0 37).toNat = v := by rw [e8, e5]; simp [hq_up]
      have el : sg M8 21 0 ((M 0 37).toNat + 1) = sg M 21 0 (M 0 37).toNat ++ [v] := by
        rw [sg_snoc, Nat.zero_add, e5n]
        congr 1
        exact sg_eq (fun i hi => by rw [Nat.zero_add]; exact e58 i hi)
      refine ⟨?_, hJ.put (hT.cg (fun o j ho => f' o j (by omega) (by omega)) (fun o j ho => by rw [e8, e5]; simp [hq_up]; omega)) ?_ (fun o j ho => f' o j (by omega) (by omega)) (fun o j ho => by rw [e8, e5]; simp [hq_up]; omega)⟩
      · rw [e9', r'.1, List.length_append, tl]
        simp
        omega
      · unfold DR
        rw [e9', hn, el, e00]
        refine ⟨by omega, by omega, r', fun i hi => ?_⟩
        by_cases qi : i = (M 0 37).toNat
        · rw [qi, e5n]; exact q
        · rw [e58 i (by omega)]; exact d4 i (by omega)
  · rw [if_neg q]
    refine ⟨fun _ => ?_, fun o3 e => (by cases e)⟩
    unfold w_X12_puts
    refine m_isField (by have := s4.1; omega) ?_
    rw [if_neg q]
    exact ⟨fun e => absurd rfl e, fun _ => ⟨rfl, hJ⟩⟩
theorem o_takes {u : Nat} {C M : hq_M} (h : JJ u C M) : w_X11_takes C (fun z C' => w_X12_takes M (fun z' M' => z = z' ∧ JJ u C' M')) := by
  have hJ := h
  obtain ⟨hT, ⟨d1, d2, d3, d4⟩, -⟩ := h
  have tl : (sg M 21 0 (M 0 37).toNat).length = (M 0 37).toNat := sg_len _ _ _ _
  have e31 : C 3 1 = M 0 37 := by rw [d3.1, tl]; omega
  unfold w_X11_takes w_X12_takes
  rw [e31]
  refine ⟨fun q => ?_, fun q => ⟨fun e => absurd q e, fun _ => ⟨rfl, hJ⟩⟩⟩
  obtain ⟨n, hn⟩ : ∃ n : Nat, (M 0 37).toNat = n + 1 := ⟨(M 0 37).toNat - 1, by omega⟩
  have el : sg M 21 0 (M 0 37).toNat = sg M 21 0 n ++ [M 21 n] := by rw [hn, sg_snoc, Nat.zero_add]
  rw [el] at d3
  refine x6_removeLast d3 (by rw [capD, sg_len]; omega) (fun C' r' f' => ⟨fun _ => ⟨⟨by omega, by omega⟩, fun M4 e4 => ?_⟩, fun e => absurd e q⟩)
  have e9 : M4 0 37 = M 0 37 - 1 := by rw [e4]; simp [hq_up]
  have e00 : M4 0 0 = M 0 0 := by rw [e4]; simp [hq_up]
  have en : (M4 0 37).toNat = n := by omega
  have e21 : ∀ i, M4 21 i = M 21 i := fun i => by rw [e4]; simp [hq_up]
  refine ⟨⟨by omega, by omega⟩, ?_, hJ.put (hT.cg (fun o j ho => f' o j (by omega) (by omega)) (fun o j ho => by rw [e4]; simp [hq_up]; omega)) ?_ (fun o j ho => f' o j (by omega) (by omega)) (fun o j ho => by rw [e4]; simp [hq_up]; omega)⟩
  · rw [en, e21]
  · unfold DR
    rw [en, e9, e00, show sg M4 21 0 n = sg M 21 0 n from sg_eq (fun i _ => e21 _)]
    exact ⟨by omega, by omega, r', fun i hi => by rw [e21]; exact d4 i (by omega)⟩
theorem o_octet {u : Nat} {C M : hq_M} (h : JJ u C M) (v w : Int) : w_X11_octet v w C (fun z => w_X12_octet v w M (fun z' => z = z')) := by
  obtain ⟨-, -, -, ⟨l1, l2, l3, l4, l5⟩, -, -, ⟨D, m, hQ, -⟩, -, hR, -⟩ := h
  have q1 := hQ.2.1
  have r1 := hR.1
  have r3 := hR.2.2.1
  have hc2 := cn_le (fun k => decide (2 ≤ M 15 k)) (M 0 25).toNat
  -- what the reference answers
  have key : ∀ x : Int, (x = (if ¬ 0 ≤ w then -1 else if v = 40 then (if w < M 0 43 then M 24 w.toNat else -9) else if v = 41 then (if w < M 0 52 then M 30 w.toNat else -9) else if 0 ≤ v ∧ v < M 0 25 then (if w < M 13 v.toNat then M 20 (112 * v.toNat + w.toNat) else -9) else -1)) → w_X12_octet v w M (fun z' => x = z') := by
    intro x hx
    unfold w_X12_octet
    refine m_isLetter l2 ?_
    have b0 : b_X12_octet_25 v w 0 (fun z' => x = z') M ∨ True := .inr trivial
    have b1 : (v = 40 ∨ v = 41 ∨ (0 ≤ v ∧ v < M 0 25)) → b_X12_octet_25 v w 1 (fun z' => x = z') M := by
      intro hv
      unfold b_X12_octet_25
      refine ⟨fun e => absurd e (by decide), fun _ => ⟨fun hw => ?_, fun hw => by rw [hx, if_pos hw]⟩⟩
      rw [if_neg (by omega)] at hx
      refine ⟨fun h40 => ⟨fun h41 => ?_, fun h41 => ⟨fun q => ?_, fun q => ?_⟩⟩, fun h40 => ⟨fun q => ?_, fun q => ?_⟩⟩
      · have hvr : 0 ≤ v ∧ v < M 0 25 := by omega
        obtain ⟨-, -, -, -, s5, -⟩ := l5 v.toNat (by omega)
        rw [if_neg h40, if_neg h41, if_pos hvr] at hx
        refine ⟨⟨by omega, by omega⟩, fun q => ?_, fun q => ⟨⟨by omega, by omega⟩, ⟨by omega, by omega⟩, ⟨by omega, by omega⟩, ?_⟩⟩
        · rw [hx, if_neg (by omega)]
        · rw [hx, if_pos (by omega), show (112 * v + w).toNat = 112 * v.toNat + w.toNat by omega]
      · rw [hx, if_neg h40, if_pos h41, if_neg (by omega)]
      · rw [hx, if_neg h40, if_pos h41, if_pos (by omega)]
        exact ⟨⟨by omega, by omega⟩, rfl⟩
      · rw [hx, if_pos h40, if_neg (by omega)]
      · rw [hx, if_pos h40, if_pos (by omega)]
        exact ⟨⟨by omega, by omega⟩, rfl⟩
    by_cases q : 0 ≤ v ∧ v < M 0 25
    · rw [if_pos q]
      exact ⟨fun _ => b1 (.inr (.inr q)), fun e => absurd e (by decide)⟩
    · rw [if_neg q]
      refine ⟨fun e => absurd rfl e, fun _ => ⟨fun e => b1 (.inl e), fun e => ⟨fun e2 => ?_, fun e2 => b1 (.inr (.inl e2))⟩⟩⟩
      unfold b_X12_octet_25
      refine ⟨fun _ => ?_, fun e => absurd rfl e⟩
      rw [hx, if_neg e, if_neg e2, if_neg q]
      split <;> rfl
  unfold w_X11_octet
  refine ⟨fun hw => ⟨fun h40 => ⟨fun h41 => ?_, fun h41 => ?_⟩, fun h40 => ?_⟩, fun hw => key _ (by rw [if_pos hw])⟩
  · refine x1_at (by omega) ?_
    rw [l1]
    by_cases q : 0 ≤ v ∧ v < M 0 25
    · rw [if_pos q]
      refine ⟨fun e => (by cases e), fun o e => ?_⟩
      cases e
      obtain ⟨-, s2, -, -, s5, -⟩ := l5 v.toNat (by omega)
      have hc := (capL v.toNat (by omega)).2
      refine x6_at (a := 170 + 5 * v.toNat + 3) (by rw [show 170 + 5 * v.toNat + 3 = 173 + 5 * v.toNat by omega]; exact s2) (by rw [show 170 + 5 * v.toNat + 3 + 1 = 173 + 5 * v.toNat + 1 by omega, hc, sg_len]; omega) (key _ ?_)
      rw [sg_len, if_neg (show ¬ ¬ 0 ≤ w by omega), if_neg h40, if_neg h41, if_pos q]
      by_cases q2 : w < M 13 v.toNat
      · rw [if_pos (by omega), if_pos q2, sg_gd (by omega)]
      · rw [if_neg (by omega), if_neg q2]
    · rw [if_neg q]
      refine ⟨fun _ => key _ ?_, fun o e => (by cases e)⟩
      rw [if_neg (by omega), if_neg h40, if_neg h41, if_neg q]
  · refine x6_at r3 (by rw [capR, sg_len]; omega) (key _ ?_)
    rw [sg_len, if_neg (show ¬ ¬ 0 ≤ w by omega), if_neg h40, if_pos h41]
    by_cases q2 : w < M 0 52
    · rw [if_pos (by omega), if_pos q2, sg_gd (by omega), Nat.zero_add]
    · rw [if_neg (by omega), if_neg q2]
  · refine x6_at q1.2.2 (by rw [hQ.2.2.2.2.2.2.2, sg_len]; omega) (key _ ?_)
    rw [sg_len, if_neg (show ¬ ¬ 0 ≤ w by omega), if_pos h40]
    by_cases q2 : w < M 0 43
    · rw [if_pos (by omega), if_pos q2, sg_gd (by omega), Nat.zero_add]
    · rw [if_neg (by omega), if_neg q2]
theorem o_waits {u : Nat} {C M : hq_M} (h : JJ u C M) (v : Int) (rv : rg v) : w_X11_waits v C (fun z => w_X12_waits v M (fun z' => z = z')) := by
  obtain ⟨-, -, -, ⟨l1, l2, l3, l4, l5⟩, ⟨lo, n, hE, -, -⟩, -⟩ := h
  have e1 := hE.2.1
  have e2 := hE.1.2.2.1
  unfold w_X11_waits w_X12_waits
  refine ⟨fun q => ?_, fun q => ⟨fun e => absurd e q, fun _ => rfl⟩⟩
  refine x1_blockedAt (by omega) (fun r hr => ⟨fun _ => ?_, fun e => absurd q e⟩)
  refine m_waiting q rv.2 l2 (by omega) (fun i hi => ⟨(l5 i hi).2.2.2.2.2.2.2.2.1.1, (l5 i hi).2.2.2.2.2.2.2.2.1.2⟩) (fun r' hr' => ?_)
  rw [l1] at hr
  have e15 : ∀ i, i < (M 0 25).toNat → C (170 + 5 * i) 6 = M 15 i := fun i hi => (l5 i hi).2.2.1.2.2.2.1
  have e11 : ∀ i, i < (M 0 25).toNat → C (170 + 5 * i) 3 = M 11 i := fun i hi => (l5 i hi).2.2.1.1
  exact IsLo.un (IsWait.cg hr e15 e11) hr'
theorem o_table {u : Nat} {C M : hq_M} (h : JJ u C M) (v w : Int) : w_X11_table v w C (fun z => w_X12_table v w M (fun z' => z = z')) := by
  obtain ⟨-, -, -, -, ⟨lo, n, hE, -, -⟩, ⟨lo2, n2, hX⟩, -⟩ := h
  obtain ⟨⟨a4, a3, ab, -⟩, ⟨m7, m6, m9, m8⟩, -⟩ := hE
  obtain ⟨⟨b4, b3, bb, -⟩, ⟨p7, p6, p9, p8⟩, -⟩ := hX
  have key : ∀ x : Int, (x = if 0 ≤ v ∧ v ≤ 1 then (if w = 0 then M 6 v.toNat else if w = 1 then M 6 v.toNat - M 7 v.toNat else if w = 2 then M 9 v.toNat else if w = 3 then M 8 v.toNat else if w = 4 then (if M 6 v.toNat ≤ M 7 v.toNat then -9 else M 7 v.toNat) else -1) else -1) → w_X12_table v w M (fun z' => x = z') := by
    intro x hx
    unfold w_X12_table
    refine m_in ?_
    by_cases q : 0 ≤ v ∧ v ≤ 1
    · rw [if_pos q] at hx ⊢
      have hr : rg (M 6 v.toNat - M 7 v.toNat) := by
        have : v.toNat = 0 ∨ v.toNat = 1 := by omega
        rcases this with e | e <;> rw [e] <;> constructor <;> omega
      refine ⟨fun _ => ⟨fun e => ⟨by omega, ?_⟩, fun e => ⟨by omega, by omega, hr, ?_⟩, fun e => ⟨by omega, ?_⟩, fun e => ⟨by omega, ?_⟩, fun e => ⟨by omega, by omega, fun e2 => ?_, fun e2 => ⟨by omega, ?_⟩⟩, fun e => ?_⟩, fun e => absurd e (by decide)⟩
      · rw [hx, if_pos e]
      · rw [hx, if_neg (by omega), if_pos e]
      · rw [hx, if_neg (by omega), if_neg (by omega), if_pos e]
      · rw [hx, if_neg (by omega), if_neg (by omega), if_neg (by omega), if_pos e]
      · rw [hx, if_neg (by omega), if_neg (by omega), if_neg (by omega), if_neg (by omega), if_pos e, if_pos e2]
      · rw [hx, if_neg (by omega), if_neg (by omega), if_neg (by omega), if_neg (by omega), if_pos e, if_neg e2]
      · rw [hx, if_neg (by omega), if_neg (by omega), if_neg (by omega), if_neg (by omega), if_neg (by omega)]
    · rw [if_neg q] at hx ⊢
      exact ⟨fun e => absurd rfl e, fun _ => hx⟩
  unfold w_X11_table w_X11_tableOf
  refine ⟨fun q => key _ (by rw [if_neg (by omega)]), fun q => ⟨fun q2 => ?_, fun q2 => key _ (by rw [if_neg (by omega)])⟩⟩
  have hv : v = 0 ∨ v = 1 := by omega
  have go : ∀ A t : Nat, v.toNat = t → C A 3 = M 6 t → C A 4 = M 7 t → C A 5 = M 9 t → C A 6 = M 8 t → rg (C A 3 - C A 4) → ((¬ some A = none) ∧ (∀ o1, some A = some o1 → (w = 0 → w_X12_table v w M (fun z' => (C o1 3) = z')) ∧ (w = 1 → rg ((C o1 3) - (C o1 4)) ∧ w_X12_table v w M (fun z' => ((C o1 3) - (C o1 4)) = z')) ∧ (w = 2 → w_X12_table v w M (fun z' => (C o1 5) = z')) ∧ (w = 3 → w_X12_table v w M (fun z' => (C o1 6) = z')) ∧ (w = 4 → ((C o1 3) ≤ (C o1 4) → w_X12_table v w M (fun z' => (-9) = z')) ∧ (¬ (C o1 3) ≤ (C o1 4) → w_X12_table v w M (fun z' => (C o1 4) = z'))) ∧ (w < 0 ∨ 4 < w → w_X12_table v w M (fun z' => (-1) = z')))) := by
    intro A t ht h3 h4 h5 h6 hr
    refine ⟨fun e => (by cases e), fun o1 e1 => ?_⟩
    cases e1
    refine ⟨fun e => key _ ?_, fun e => ⟨hr, key _ ?_⟩, fun e => key _ ?_, fun e => key _ ?_, fun e => ⟨fun e2 => key _ ?_, fun e2 => key _ ?_⟩, fun e => key _ ?_⟩
    · rw [if_pos (by omega), if_pos e, ht, h3]
    · rw [if_pos (by omega), if_neg (by omega), if_pos e, ht, h3, h4]
    · rw [if_pos (by omega), if_neg (by omega), if_neg (by omega), if_pos e, ht, h5]
    · rw [if_pos (by omega), if_neg (by omega), if_neg (by omega), if_neg (by omega), if_pos e, ht, h6]
    · rw [if_pos (by omega), if_neg (by omega), if_neg (by omega), if_neg (by omega), if_neg (by omega), if_pos e, ht, if_pos (by omega)]
    · rw [if_pos (by omega), if_neg (by omega), if_neg (by omega), if_neg (by omega), if_neg (by omega), if_pos e, ht, if_neg (by omega), h4]
    · rw [if_pos (by omega), if_neg (by omega), if_neg (by omega), if_neg (by omega), if_neg (by omega), if_neg (by omega)]
  refine ⟨fun e => go 385 1 (by omega) (by omega) (by omega) (by omega) (by omega) ⟨by omega, by omega⟩, fun e => go 371 0 (by omega) (by omega) (by omega) (by omega) (by omega) ⟨by omega, by omega⟩⟩
