/-! ===== the mathematics, part 19: one octet of the stream, the reference ===== -/
theorem m_does_cap {M : hq_M} {lo n m : Nat} {kk : hq_M → Prop} (h25 : M 25 0 = 0) (h47 : M 0 47 = ((m + 1 : Nat) : Int)) (hm : m ≤ 200) (hL : Lo6 M) (m7 : M 7 1 = (lo : Int)) (m6 : M 6 1 = ((lo + n : Nat) : Int)) (hln : lo + n ≤ 900000) (m9 : M 9 1 = sm (es M 1) lo n) (hb9 : M 9 1 ≤ 200) (hfi : ∀ i, lo ≤ i → i < lo + n → 0 ≤ M 10 (64 * 1 + i % 64) ∧ M 10 (64 * 1 + i % 64) < 32) (hv : 0 ≤ M 27 0 ∧ M 27 0 ≤ 200) (hk : ∀ (e : Nat) (M' : hq_M), IsEv (es M 1) lo n (M 27 0) e → M' 7 1 = ((lo + e : Nat) : Int) → M' 9 1 = sm (es M 1) (lo + e) (n - e) → M' 8 1 = M 27 0 → M' 0 47 = (m : Int) → (∀ a j, 25 ≤ a → a ≤ 27 → j < m → M' a j = M a (j + 1)) → (∀ o j, ¬ ((25 ≤ o ∧ o ≤ 27) ∨ (o = 0 ∧ j = 47) ∨ ((o = 7 ∨ o = 8 ∨ o = 9) ∧ j = 1)) → M' o j = M o j) → kk M') : w_X12_does M kk := by
  unfold w_X12_does
  refine ⟨by decide, fun q => absurd h25 q, fun _ => ⟨by decide, by decide, fun M10 e10 => ?_⟩⟩
  have f10 : ∀ o j, ¬ (o = 8 ∧ j = 1) → M10 o j = M o j := fun o j ho => by rw [e10]; simp only [hq_up]; rw [if_neg ho]
  have s10 : M10 8 1 = M 27 0 := by rw [e10, up_self]
  have ees : es M10 1 = es M 1 := by
    funext i
    unfold es sz
    rw [f10 10 _ (by omega), f10 1 _ (by omega), f10 2 _ (by omega)]
  refine m_makesRoom (t := 1) rfl (by decide) (fun g hg => by rw [f10 1 g (by omega), f10 2 g (by omega)]; exact hL g hg) (by rw [f10 7 1 (by omega)]; exact m7) (by rw [f10 6 1 (by omega)]; exact m6) (by omega) (by rw [f10 9 1 (by omega), ees]; exact m9) (by rw [f10 9 1 (by omega)]; omega) (fun i a b => by rw [f10 10 _ (by omega)]; exact hfi i a b) (by rw [s10]; omega) (fun e M11 he z9 z7 f11 => ?_)
  rw [s10, ees, Int.sub_zero] at he
  rw [ees] at z9
  refine m_pop (m := m) (by rw [f11 _ _ (by omega), f10 _ _ (by omega)]; exact h47) (by omega) (fun M' p47 psh fp => hk e M' he ?_ ?_ ?_ p47 (fun a j h1 h2 hj => ?_) (fun o j ho => ?_))
  · rw [fp _ _ (by omega)]; exact z7
  · rw [fp _ _ (by omega)]; exact z9
  · rw [fp _ _ (by omega), f11 _ _ (by omega)]; exact s10
  · rw [psh a j h1 h2 hj, f11 _ _ (by omega), f10 _ _ (by omega)]
  · rw [fp _ _ (by omega), f11 _ _ (by omega), f10 _ _ (by omega)]
theorem m_does_ins {M : hq_M} {lo n : Nat} {kk : hq_M → Prop} (h25 : M 25 0 = 1) (hL : Lo6 M) (m7 : M 7 1 = (lo : Int)) (m6 : M 6 1 = ((lo + n : Nat) : Int)) (hln : lo + n ≤ 900000) (m9 : M 9 1 = sm (es M 1) lo n) (hb9 : M 9 1 ≤ 200) (hfi : ∀ i, lo ≤ i → i < lo + n → 0 ≤ M 10 (64 * 1 + i % 64) ∧ M 10 (64 * 1 + i % 64) < 32) (hf : 0 ≤ M 27 0 ∧ M 27 0 < 8) (hc : sz M (M 27 0).toNat ≤ M 8 1 ∧ M 8 1 ≤ 200) (hk : ∀ (e : Nat) (M5 : hq_M), IsEv (es M 1) lo n (M 8 1 - sz M (M 27 0).toNat) e → M5 9 1 = sm (es M 1) (lo + e) (n - e) + sz M (M 27 0).toNat → M5 7 1 = ((lo + e : Nat) : Int) → M5 6 1 = ((lo + n + 1 : Nat) : Int) → M5 10 (64 * 1 + (lo + n) % 64) = M 27 0 → (∀ o j, ¬ ((o = 6 ∨ o = 7 ∨ o = 9) ∧ j = 1) → ¬ (o = 10 ∧ j = 64 * 1 + (lo + n) % 64) → M5 o j = M o j) → w_X12_readsAll M5 (fun M6 => b_X12_does_46 kk M6)) : w_X12_does M kk := by
  unfold w_X12_does
  refine ⟨by decide, fun _ => ⟨by decide, ?_⟩, fun q => by omega⟩
  exact m_comes (t := 1) (f := (M 27 0).toNat) rfl (by decide) (by omega) (by omega) hL m7 m6 hln m9 hb9 hfi hc hk
def FJ (u i : Nat) (C M : hq_M) : Prop := TX C M ∧ DR C M ∧ ST C M ∧ LT C M ∧ (∃ lo n, TB C M 371 0 lo n ∧ HO C M 371 lo n 40 ∧ lo + n ≤ 8 * u) ∧ (∃ lo n, TB C M 385 1 lo n ∧ lo + n ≤ 800000) ∧ (∃ D m, SQi C M D m i ∧ D + m ≤ 8 * u ∧ TW u C) ∧ DE M ∧ RP C M ∧ KN C M
theorem JJ.toFJ {u : Nat} {C M : hq_M} (h : JJ u C M) (hu : 8 * u + 8 ≤ 800000) : FJ u 0 C M := by
  obtain ⟨hT, hD, hS, hL, ⟨lo, n, hE, hH, hb⟩, ⟨lo2, n2, hX⟩, ⟨D, m, hQ, hb2⟩, hDE, hR, hK⟩ := h
  have h1 := hE.2.1.2.1
  have h2 := hX.2.1.2.1
  have h3 := hDE.2.2
  exact ⟨hT, hD, hS, hL, ⟨lo, n, hE, hH, hb⟩, ⟨lo2, n2, hX, by omega⟩, ⟨D, m, hQ.toi, hb2⟩, hDE, hR, hK⟩
