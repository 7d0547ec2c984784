/-! ===== the mathematics, part 24: feeds ===== -/
theorem capI : hq_len YC (376 + 1) = 200 := by decide +kernel
theorem FJ.toJJ {u t : Nat} {C M C' M' : hq_M} (h : FJ u t C M) (hu : 8 * u ≤ 900000) (hr : Rw C' 376 ((sg M 24 0 (M 0 43).toNat).drop t)) (hC : ∀ o j, ¬ (o = 376 ∨ o = 377) → C' o j = C o j) (m43 : M' 0 43 = M 0 43 - t) (m24 : ∀ a : Nat, (a : Int) < M 0 43 - t → M' 24 a = M 24 (t + a)) (hM : ∀ o j, ¬ (o = 24 ∨ (o = 0 ∧ j = 43)) → M' o j = M o j) : JJ u C' M' := by
  obtain ⟨hT, hD, hS, hL, ⟨lo, n, hE, hH, hb⟩, ⟨lo2, n2, hX, hxb⟩, ⟨D, m, hq, hqb⟩, hDE, hR, hK⟩ := h
  refine ⟨hT.cg (fun o j ho => hC o j (by omega)) (fun o j ho => hM o j (by omega)), hD.cg (fun o j ho => hC o j (by omega)) (fun o j ho => hM o j (by omega)), hS.cg (fun o j ho => hC o j (by omega)) (fun o j ho => hM o j (by omega)), hL.cg (fun o j ho => hC o j (by omega)) (fun o j ho => hM o j (by omega)) (Int.le_of_eq (hM _ _ (by omega)).symm), ⟨lo, n, hE.cg (fun o j ho => hC o j (by omega)) (fun o j ho => hM o j (by omega)), hH.cg (fun j => hC _ _ (by omega)) (fun o j ho => hM o j (by omega)), hb⟩, ⟨lo2, n2, hX.cg (fun o j ho => hC o j (by omega)) (fun o j ho => hM o j (by omega))⟩, ⟨D, m, ?_, hqb.1, hqb.2.cg (hC _ _ (by omega))⟩, hDE.cg (fun o j ho => hM _ _ (by omega)), hR.cg (fun o j ho => hC _ _ (by omega)) (fun o j ho => hM _ _ (by omega)), hK.cg (fun o j ho => hC _ _ (by omega)) (fun o j ho => hM _ _ (by omega))⟩
  obtain ⟨⟨a1, a2, a3, a4⟩, ⟨b1, b2, b3⟩, g5, g6, g7⟩ := hq
  have hnn := sm_nn (f := fun j => M 26 j) (lo := 0) (n := m) (fun j a b => by have := g6 j (by omega); omega)
  unfold SQ
  rw [m43, hC 375 4 (by omega), hC 375 3 (by omega), hM 0 47 (by omega), hM 0 0 (by omega)]
  refine ⟨⟨a1, a2, a3, a4⟩, ⟨by omega, by omega, ?_⟩, ?_, fun i hi => by rw [hM 26 i (by omega)]; exact g6 i hi, fun i hi => ?_, by decide +kernel, by decide +kernel, by decide +kernel⟩
  · rw [show sg M' 24 0 (M 0 43 - t).toNat = (sg M 24 0 (M 0 43).toNat).drop t from sg_iff (by rw [List.length_drop, sg_len]; omega) (fun a ha => by rw [gd_drop, Nat.zero_add, m24 a (by omega), sg_gd (by omega), Nat.zero_add])]
    exact hr
  · rw [g5, show sm (fun i => M' 26 i) 0 m = sm (fun j => M 26 j) 0 m from sm_cg (fun i _ _ => hM _ _ (by omega))]
    omega
  · rw [hC (375 + 3) _ (by omega), hC (375 + 4) _ (by omega), hM 25 i (by omega), hM 26 i (by omega), hM 27 i (by omega)]
    exact g7 i hi
theorem o_feeds {u : Nat} {C M : hq_M} (h : JJ u C M) (hu : 8 * u + 8 ≤ 800000) (v : Int) : w_X11_feeds v C (fun z C' => w_X12_feeds v M (fun z' M' => z = z' ∧ JJ u C' M')) := by
  have hF := h.toFJ hu
  have hF0 := hF
  obtain ⟨-, -, -, -, -, -, ⟨D, m, hQ, hb⟩, -⟩ := hF
  obtain ⟨r1, r2, r3⟩ := hQ.2.1
  have a1 := hQ.1.1
  have e376 : C 376 1 = M 0 43 := by rw [r3.1, sg_len]; omega
  have bad : ¬ (1 ≤ v ∧ v ≤ 99) → w_X12_feeds v M (fun z' M' => -1 = z' ∧ JJ u C M') := by
    intro hn
    unfold w_X12_feeds
    refine m_in ?_
    rw [if_neg hn]
    exact ⟨fun e => absurd rfl e, fun _ => ⟨rfl, h⟩⟩
  unfold w_X11_feeds
  refine ⟨fun e => bad (by omega), fun e => ⟨fun e2 => fun x2 ex2 x4 ex4 => ?_, fun e2 => bad (by omega)⟩⟩
  rw [e376] at ex4
  obtain ⟨t, ht, htn⟩ : ∃ t : Nat, x4 = (t : Int) ∧ (t : Int) ≤ M 0 43 := ⟨x4.toNat, by omega, by omega⟩
  refine ⟨t + 1, feeds_loop ht hu _ t 0 0 C M _ rfl (by omega) hF0 htn (fun C' hex hre => ?_)⟩
  obtain ⟨Mw, hFw, h43w⟩ := hex
  obtain ⟨-, -, -, -, -, -, ⟨Dw, mw, hQw, hbw⟩, -⟩ := hFw
  have w1 := hQw.1.1
  refine x6_drop (by omega) hQw.2.1.2.2 (by rw [capI, sg_len]; omega) (fun C2 r' f' => ?_)
  have c2 : C2 375 4 = C' 375 4 := f' _ _ (by omega) (by omega)
  refine ⟨⟨by omega, by omega⟩, ?_⟩
  unfold w_X12_feeds
  refine m_in ?_
  rw [if_pos (by omega)]
  refine ⟨fun _ => m_lesser ?_, fun e => absurd e (by decide)⟩
  rw [show min v (M 0 43) = x4 by omega]
  refine ⟨t + 1, hre M hF0 htn 0 _ _ (by decide) (by omega) (fun M' hF' h43 => ?_)⟩
  have hQ' := hF'.2.2.2.2.2.2.1
  obtain ⟨D', m', hQ', -⟩ := hQ'
  have rr : Rw C2 376 ((sg M' 24 0 (M' 0 43).toNat).drop t) := by
    have x1 := hQw.2.1.2.2
    have x2 := hQ'.2.1.2.2
    have : sg M' 24 0 (M' 0 43).toNat = sg Mw 24 0 (Mw 0 43).toNat := by
      refine ls_ext (by rw [sg_len, sg_len, h43, h43w]) (fun j hj => ?_)
      have hj2 := hj
      rw [sg_len] at hj2
      rw [← x2.2 j hj, ← x1.2 j (by rw [sg_len, h43w]; omega)]
    rw [this, show t = x4.toNat by omega]
    exact r'
  rw [h43]
  refine ⟨⟨by omega, by omega⟩, fun M8 e8 => ⟨(M 0 43 - x4).toNat + 1, ?_⟩⟩
  have f8 : ∀ o j, ¬ (o = 0 ∧ j = 43) → M8 o j = M' o j := fun o j ho => by rw [e8]; simp only [hq_up]; rw [if_neg ho]
  have s8 : M8 0 43 = M 0 43 - x4 := by rw [e8, up_self]
  have shift : ∀ (d j : Nat) (z : Int) (P : hq_M), z = (j : Int) → j + d = (M 0 43 - x4).toNat → (∀ a, a < j → P 24 a = M' 24 (t + a)) → (∀ a, j ≤ a → P 24 a = M' 24 a) → (∀ o a, o ≠ 24 → P o a = M8 o a) → l_X12_feeds_79 (0 + (C' 375 4 - C 375 4)) x4 (fun z' M' => C2 375 4 - x2 = z' ∧ JJ u C2 M') (d + 1) z P := by
    intro d
    induction d with
    | zero =>
      intro j z P hz hj hlo hhi hP
      rw [l_X12_feeds_79, hP 0 43 (by decide), s8]
      refine ⟨fun _ => ⟨by omega, ?_⟩, fun q => by omega⟩
      refine hF'.toJJ (by omega) rr (fun o j ho => f' _ _ (by omega) (by omega)) (by rw [hP 0 43 (by decide), s8, h43]; omega) (fun a ha => hlo a (by omega)) (fun o j ho => by rw [hP _ _ (by omega), f8 _ _ (by omega)])
    | succ d ih =>
      intro j z P hz hj hlo hhi hP
      rw [l_X12_feeds_79, hP 0 43 (by decide), s8, show z.toNat = j by omega, show (z + x4).toNat = t + j by omega]
      refine ⟨fun q => by omega, fun _ => ⟨⟨by omega, by omega⟩, ⟨by omega, by omega⟩, ⟨by omega, by omega⟩, fun M6 e6 => ⟨⟨by omega, by omega⟩, fun x7 e7 => ?_⟩⟩⟩
      refine ih (j + 1) x7 M6 (by omega) (by omega) (fun a ha => ?_) (fun a ha => ?_) (fun o a ho => ?_)
      · rw [e6]
        by_cases q : a = j
        · rw [q, up_self]; exact hhi _ (by omega)
        · rw [hq_up_n _ _ (by omega)]; exact hlo a (by omega)
      · rw [e6, hq_up_n _ _ (by omega)]; exact hhi a (by omega)
      · rw [e6, hq_up_n _ _ (by omega)]; exact hP o a ho
  refine shift _ 0 0 M8 rfl (by omega) (fun a ha => absurd ha (by omega)) (fun a _ => f8 _ _ (by omega)) (fun o a _ => rfl)
