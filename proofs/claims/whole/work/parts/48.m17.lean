/-! ===== the mathematics, part 17: the stream while a call consumes it ===== -/
theorem sm_shift (f : Nat → Int) (lo n : Nat) : sm f (lo + 1) n = sm (fun i => f (i + 1)) lo n := by
  induction n generalizing lo with
  | zero => rfl
  | succ n ih => rw [sm, sm, ih (lo + 1)]
theorem cn_shift (P : Nat → Bool) (n : Nat) : cn P (n + 1) = (if P 0 then 1 else 0) + cn (fun i => P (i + 1)) n := by
  induction n with
  | zero => simp [cn]
  | succ n ih => rw [cn, ih, cn]; omega
def SQi (C M : hq_M) (D m i : Nat) : Prop := (C 375 4 = (D : Int) ∧ C 375 3 = ((D + m : Nat) : Int) ∧ M 0 47 = (m : Int) ∧ D + m ≤ 1000000) ∧ (0 ≤ M 0 43 ∧ M 0 43 ≤ 200 ∧ Rw C 376 (sg M 24 0 (M 0 43).toNat)) ∧ M 0 43 = (i : Int) + sm (fun j => M 26 j) 0 m ∧ (∀ j, j < m → 1 ≤ M 26 j) ∧ ∀ j, j < m → C 379 ((D + j) % 256) = M 26 j ∧ ((M 25 j = 0 ∧ 0 ≤ M 27 j ∧ M 27 j ≤ 200 ∧ C 378 ((D + j) % 256) = -1 - M 27 j) ∨ (M 25 j = 1 ∧ 0 ≤ M 27 j ∧ M 27 j < M 0 0 ∧ C 378 ((D + j) % 256) = M 27 j))
theorem SQ.toi {C M : hq_M} {D m : Nat} (h : SQ C M 375 D m) : SQi C M D m 0 := by
  obtain ⟨h1, h2, h3, h4, h5, -⟩ := h
  exact ⟨h1, h2, by rw [h3]; simp, h4, h5⟩
theorem SQi.many {C M : hq_M} {D m i : Nat} (h : SQi C M D m i) : m + i ≤ 200 := by
  have h1 := sm_one (f := fun i => M 26 i) (lo := 0) (n := m) (fun i _ b => h.2.2.2.1 i (by omega))
  have h2 := h.2.2.1
  have := h.2.1.2.1
  omega
theorem SQi.dec {C M C' M' : hq_M} {D m i : Nat} (h : SQi C M D (m + 1) i) (h2 : 2 ≤ M 26 0) (hC : ∀ o j, 375 ≤ o ∧ o < 380 → ¬ (o = 379 ∧ j = D % 256) → C' o j = C o j) (c9 : C' 379 (D % 256) = M 26 0 - 1) (hM : ∀ o j, (24 ≤ o ∧ o ≤ 27) ∨ (o = 0 ∧ (j = 43 ∨ j = 47 ∨ j = 0)) → ¬ (o = 26 ∧ j = 0) → M' o j = M o j) (m26 : M' 26 0 = M 26 0 - 1) : SQi C' M' D (m + 1) (i + 1) := by
  have hmany := h.many
  obtain ⟨g1, ⟨g2, g3, g4⟩, g5, g6, g7⟩ := h
  unfold SQi
  rw [hC 375 4 (by omega) (by omega), hC 375 3 (by omega) (by omega), hM 0 47 (by omega) (by omega), hM 0 43 (by omega) (by omega), hM 0 0 (by omega) (by omega)]
  refine ⟨g1, ⟨g2, g3, ?_⟩, ?_, fun j hj => ?_, fun j hj => ?_⟩
  · rw [show sg M' 24 0 (M 0 43).toNat = sg M 24 0 (M 0 43).toNat from sg_eq (fun i _ => hM _ _ (by omega) (by omega))]
    exact g4.cg (hC _ _ (by omega) (by omega)) (fun i => hC _ _ (by omega) (by omega))
  · rw [g5, sm, sm, sm_cg (f := fun j => M' 26 j) (g := fun j => M 26 j) (fun j a b => hM 26 j (by omega) (by omega))]
    simp only [m26]
    omega
  · by_cases q : j = 0
    · rw [q, m26]; omega
    · rw [hM 26 j (by omega) (by omega)]; exact g6 j hj
  · rw [hM 25 j (by omega) (by omega), hM 27 j (by omega) (by omega), hC 378 _ (by omega) (by omega)]
    by_cases q : j = 0
    · subst q
      rw [Nat.add_zero, c9, m26]
      have := g7 0 hj
      rw [Nat.add_zero] at this
      exact ⟨rfl, this.2⟩
    · rw [hC 379 _ (by omega) (by omega), hM 26 j (by omega) (by omega)]
      exact g7 j hj
theorem SQi.pop {C M C' M' : hq_M} {D m i : Nat} (h : SQi C M D (m + 1) i) (h1 : M 26 0 = 1) (hC : ∀ o j, 375 ≤ o ∧ o < 380 → ¬ (o = 379 ∧ j = D % 256) → ¬ (o = 375 ∧ j = 4) → C' o j = C o j) (c4 : C' 375 4 = ((D + 1 : Nat) : Int)) (hM : ∀ o j, o = 24 ∨ (o = 0 ∧ (j = 43 ∨ j = 0)) → M' o j = M o j) (m47 : M' 0 47 = (m : Int)) (hsh : ∀ a j, 25 ≤ a → a ≤ 27 → j < m → M' a j = M a (j + 1)) : SQi C' M' (D + 1) m (i + 1) := by
  have hmany := h.many
  obtain ⟨⟨a1, a2, a3, a4⟩, ⟨g2, g3, g4⟩, g5, g6, g7⟩ := h
  unfold SQi
  rw [c4, hC 375 3 (by omega) (by omega) (by omega), m47, hM 0 43 (by omega), hM 0 0 (by omega)]
  refine ⟨⟨rfl, by rw [a2]; congr 1; omega, rfl, by omega⟩, ⟨g2, g3, ?_⟩, ?_, fun j hj => ?_, fun j hj => ?_⟩
  · rw [show sg M' 24 0 (M 0 43).toNat = sg M 24 0 (M 0 43).toNat from sg_eq (fun i _ => hM _ _ (by omega))]
    exact g4.cg (hC _ _ (by omega) (by omega) (by omega)) (fun i => hC _ _ (by omega) (by omega) (by omega))
  · rw [g5, sm, sm_shift, sm_cg (f := fun j => M' 26 j) (g := fun j => M 26 (j + 1)) (fun j a b => hsh 26 j (by omega) (by omega) (by omega))]
    simp only [h1]
    omega
  · rw [hsh 26 j (by omega) (by omega) hj]; exact g6 (j + 1) (by omega)
  · rw [hsh 25 j (by omega) (by omega) hj, hsh 26 j (by omega) (by omega) hj, hsh 27 j (by omega) (by omega) hj, hC 378 _ (by omega) (by omega) (by omega), hC 379 _ (by omega) (by omega) (by omega), show D + 1 + j = D + (j + 1) by omega]
    exact g7 (j + 1) (by omega)
theorem cpf_shift {M M' : hq_M} {c c' : Int} (n : Nat) (hc : c' = cpf M c 1) (h : ∀ j, j < n → M' 25 j = M 25 (j + 1) ∧ M' 27 j = M 27 (j + 1)) : cpf M' c' n = cpf M c (n + 1) := by
  induction n with
  | zero => exact hc
  | succ n ih =>
    rw [cpf, ih (fun j hj => h j (by omega)), (h n (by omega)).1, (h n (by omega)).2]
    rw [show cpf M c (n + 1 + 1) = if M 25 (n + 1) = 0 then M 27 (n + 1) else cpf M c (n + 1) from rfl]
theorem DE.pop {M M' : hq_M} {m : Nat} (h : DE M) (h47 : M 0 47 = ((m + 1 : Nat) : Int)) (m47 : M' 0 47 = (m : Int)) (hsh : ∀ a j, 25 ≤ a → a ≤ 27 → j < m → M' a j = M a (j + 1)) (hs : ∀ o j, o = 1 ∨ o = 2 → M' o j = M o j) (h80 : M' 8 0 = M 8 0) (h60 : M' 6 0 = M 6 0) (hab : (M 25 0 = 0 ∧ M' 8 1 = M 27 0 ∧ M' 6 1 = M 6 1) ∨ (M 25 0 = 1 ∧ M' 8 1 = M 8 1 ∧ M' 6 1 = M 6 1 + 1)) : DE M' := by
  obtain ⟨h1, h2, h3⟩ := h
  rw [h47, show ((m + 1 : Nat) : Int).toNat = m + 1 by omega] at h1 h2 h3
  have hc : M' 8 1 = cpf M (M 8 1) 1 := by
    rw [cpf]
    rcases hab with ⟨e, e2, -⟩ | ⟨e, e2, -⟩
    · rw [if_pos e, e2]
    · rw [if_neg (by omega), e2]; rfl
  have ec : ∀ n, n ≤ m → cpf M' (M' 8 1) n = cpf M (M 8 1) (n + 1) := fun n hn => cpf_shift n hc (fun j hj => ⟨hsh 25 j (by omega) (by omega) (by omega), hsh 27 j (by omega) (by omega) (by omega)⟩)
  have ez : ∀ f, sz M' f = sz M f := fun f => by unfold sz; rw [hs 1 f (.inl rfl), hs 2 f (.inr rfl)]
  unfold DE
  rw [m47, show ((m : Nat) : Int).toNat = m by omega, h80, h60]
  refine ⟨by rw [ec m (Nat.le_refl _)]; exact h1, fun i hi h25 => ?_, ?_⟩
  · rw [hsh 25 i (by omega) (by omega) hi] at h25
    rw [hsh 27 i (by omega) (by omega) hi, ez, ec i (by omega)]
    exact h2 (i + 1) (by omega) h25
  · rw [cn_shift] at h3
    rw [cn_cg (Q := fun i => decide (M 25 (i + 1) = 1)) (fun i hi => by rw [hsh 25 i (by omega) (by omega) hi])]
    rcases hab with ⟨e, -, e3⟩ | ⟨e, -, e3⟩
    · rw [e3]; simp [e] at h3; omega
    · rw [e3]; simp [e] at h3; omega
theorem dec_none {c0 : Int} {C M : hq_M} {kc : hq_M → Prop} (hT : T3 c0 C M) (hn : NR M) (hk : kc C) : w_X5_decodeBlocked C kc := by
  obtain ⟨l1, l2, l3, l5⟩ := hT.vw
  unfold w_X5_decodeBlocked
  refine ⟨1, ?_⟩
  rw [l_X5_decodeBlocked_2]
  refine ⟨fun q => absurd q (by decide), fun _ => x1_blockedAt (by omega) (fun r hr => ?_)⟩
  rw [l1] at hr
  rcases hr with ⟨h1, -⟩ | ⟨i, h1, h2, h3, -⟩
  · subst h1
    refine x1_at (by omega) ?_
    rw [if_neg (by omega)]
    exact ⟨fun _ => hk, fun o e => (by cases e)⟩
  · refine x1_at_in (i := i) (by omega) h2 (by omega) ⟨fun e => (by cases e), fun o e => ?_⟩
    cases e
    have h61 := hT.2.2.2.1
    obtain ⟨g3, g6, -⟩ := l5 i h1
    have := hn i h1 (g6.symm.trans h3.1)
    exact ⟨fun q => by omega, fun _ => hk⟩
