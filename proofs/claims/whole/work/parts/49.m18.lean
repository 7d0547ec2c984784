/-! ===== the mathematics, part 18: one octet of the stream, the class ===== -/
theorem TB.szs {C M : hq_M} {A t lo n o : Nat} (h : TB C M A t lo n) (hS : SS C o M) : ∀ i, lo ≤ i → i < lo + n → 0 ≤ C (A + 2) (i % 64) ∧ C (A + 2) (i % 64) = es M t i ∧ C (A + 1) (i % 64) = M 10 (64 * t + i % 64) ∧ 0 ≤ M 10 (64 * t + i % 64) ∧ M 10 (64 * t + i % 64) < M 0 0 := by
  intro i a b
  obtain ⟨g1, g2, g3⟩ := h.2.2.2.2.2 i a b
  have := szb hS.2.2.1 (f := (M 10 (64 * t + i % 64)).toNat) (by have := hS.1; omega)
  exact ⟨by rw [g3]; omega, g3, g1, g2⟩
theorem x8_deliver {C M : hq_M} {D m i o lo n : Nat} {kk : Int → hq_M → Prop} (hq : SQi C M D (m + 1) i) (hX : TB C M 385 1 lo n) (ho : o = 8 ∨ o = 88) (hS : SS C o M) (hDE : DE M) (kA : 2 ≤ M 26 0 → ∀ C' : hq_M, C' 379 (D % 256) = M 26 0 - 1 → (∀ q j, ¬ (q = 379 ∧ j = D % 256) → C' q j = C q j) → kk 0 C') (kB : M 26 0 = 1 → M 25 0 = 0 → ∀ (e : Nat) (C' : hq_M), IsEv (es M 1) lo n (M 27 0) e → C' 375 4 = ((D + 1 : Nat) : Int) → C' 385 4 = ((lo + e : Nat) : Int) → C' 385 5 = sm (es M 1) (lo + e) (n - e) → C' 385 6 = M 27 0 → (∀ q j, ¬ ((q = 379 ∧ j = D % 256) ∨ (q = 375 ∧ j = 4) ∨ (q = 385 ∧ (j = 4 ∨ j = 5 ∨ j = 6))) → C' q j = C q j) → kk 1 C') (kC : M 26 0 = 1 → M 25 0 = 1 → sz M (M 27 0).toNat ≤ M 8 1 → ∀ (e : Nat) (C' : hq_M), IsEv (es M 1) lo n (M 8 1 - sz M (M 27 0).toNat) e → C' 375 4 = ((D + 1 : Nat) : Int) → C' 385 3 = ((lo + n + 1 : Nat) : Int) → C' 385 4 = ((lo + e : Nat) : Int) → C' 385 5 = sm (es M 1) (lo + e) (n - e) + sz M (M 27 0).toNat → C' 386 ((lo + n) % 64) = M 27 0 → C' 387 ((lo + n) % 64) = sz M (M 27 0).toNat → (∀ q j, ¬ ((q = 379 ∧ j = D % 256) ∨ (q = 375 ∧ j = 4) ∨ (q = 385 ∧ (j = 3 ∨ j = 4 ∨ j = 5)) ∨ ((q = 386 ∨ q = 387 ∨ q = 388) ∧ j = (lo + n) % 64)) → C' q j = C q j) → kk 1 C') : w_X8_deliverTo 375 385 o C kk := by
  have hsz := hX.szs hS
  have hmany := hq.many
  obtain ⟨⟨a1, a2, a3, a4⟩, ⟨g2, g3, g4⟩, g5, g6, g7⟩ := hq
  obtain ⟨tc, ⟨m7, m6, m9, m8⟩, t5, tle, tcap, ti⟩ := hX
  have c9 : hq_len YC (375 + 4) = 256 := by decide +kernel
  have c8 : hq_len YC (375 + 3) = 256 := by decide +kernel
  have pc7 : PC (o + 1) 7 := by rcases ho with rfl | rfl; exact PC_9; exact PC_89
  obtain ⟨l9, ent⟩ := g7 0 (by omega)
  rw [Nat.add_zero] at l9 ent
  have one := g6 0 (by omega)
  have l26 : M 26 0 ≤ 200 := by
    rw [sm] at g5
    have := sm_nn (f := fun j => M 26 j) (lo := 0 + 1) (n := m) (fun j a b => by have := g6 j (by omega); omega)
    omega
  unfold w_X8_deliverTo
  rw [a1, a2]
  refine ⟨fun _ => fun x4 e4 => ?_, fun q => by omega⟩
  have hx4 : x4.toNat = D % 256 := by omega
  rw [hx4, c9, c8, show 375 + 4 = 379 by omega, show 375 + 3 = 378 by omega, l9]
  refine ⟨⟨by omega, by omega⟩, ⟨by omega, by omega⟩, ⟨by omega, by omega⟩, fun M9 e9 => ⟨⟨by omega, by omega⟩, ?_⟩⟩
  have f9 : ∀ q j, ¬ (q = 379 ∧ j = D % 256) → M9 q j = C q j := fun q j ho => by rw [e9]; simp only [hq_up]; rw [if_neg ho]
  have s9 : M9 379 (D % 256) = M 26 0 - 1 := by rw [e9, up_self]
  rw [s9, f9 375 4 (by omega), a1]
  refine ⟨fun q => ⟨⟨by omega, by omega⟩, fun M14 e14 => ⟨⟨by omega, by omega⟩, fun x17 e17 => ?_⟩⟩, fun q => kA (by omega) M9 s9 f9⟩
  have f14 : ∀ q j, ¬ (q = 375 ∧ j = 4) → M14 q j = M9 q j := fun q j ho => by rw [e14]; simp only [hq_up]; rw [if_neg ho]
  have s14 : M14 375 4 = ((D + 1 : Nat) : Int) := by rw [e14, up_self]; omega
  have g14 : ∀ q j, ¬ ((q = 379 ∧ j = D % 256) ∨ (q = 375 ∧ j = 4)) → M14 q j = C q j := fun q j ho => by rw [f14 _ _ (by omega), f9 _ _ (by omega)]
  rw [g14 378 _ (by omega)] at e17
  have fe : (fun i => M14 (385 + 2) (i % 64)) = (fun i => C (385 + 2) (i % 64)) := by
    funext i
    exact g14 _ _ (by omega)
  have tc' : TC M14 385 lo n := by
    obtain ⟨y1, y2, y3, y4⟩ := tc
    exact ⟨(g14 _ _ (by omega)).trans y1, (g14 _ _ (by omega)).trans y2, y3, y4⟩
  have t5' : M14 385 5 = sm (fun i => M14 (385 + 2) (i % 64)) lo n := by rw [fe, g14 385 5 (by omega)]; exact t5
  have nn' : ∀ i, lo ≤ i → i < lo + n → 0 ≤ M14 (385 + 2) (i % 64) := fun i a b => by rw [g14 _ _ (by omega)]; exact (hsz i a b).1
  have esm : ∀ e, e ≤ n → sm (fun i => C (385 + 2) (i % 64)) (lo + e) (n - e) = sm (es M 1) (lo + e) (n - e) := fun e he => sm_cg (fun i a b => (hsz i (by omega) (by omega)).2.1)
  rcases ent with ⟨d1, d2, d3, d4⟩ | ⟨d1, d2, d3, d4⟩
  · rw [d4] at e17
    refine ⟨fun q2 => by omega, fun _ => ⟨⟨by omega, by omega⟩, ?_⟩⟩
    rw [show -1 - x17 = M 27 0 by omega]
    refine x9_change tc' t5' nn' (by rw [g14 385 5 (by omega)]; omega) ⟨d2, d3⟩ (fun e C' he h4 h5 h6 fC => ?_)
    rw [fe] at he h5
    refine kB (by omega) d1 e C' (he.cg (fun i a b => (hsz i a b).2.1)) ?_ h4 (by rw [h5, esm e he.1]) h6 (fun q j hq => ?_)
    · rw [fC _ _ (by omega)]; exact s14
    · rw [fC _ _ (by omega), g14 _ _ (by omega)]
  · rw [d4] at e17
    have hF := hS.1
    obtain ⟨p1, p2, p3, p4⟩ := hS.2.2.2.1.2 (M 27 0).toNat (by omega)
    have hn6 := nm_len hS.2.2.1 (f := (M 27 0).toNat) (by omega)
    have hv6 := vl_len hS.2.2.1 (f := (M 27 0).toNat) (by omega)
    have hzb := szb hS.2.2.1 (f := (M 27 0).toNat) (by omega)
    have hszc : sz M (M 27 0).toNat ≤ M 8 1 := hDE.2.1 0 (by omega) d1
    refine ⟨fun _ => ?_, fun q2 => by omega⟩
    refine x3_at_in (i := (M 27 0).toNat) pc7 (n := M 0 0) (by rw [g14 _ _ (by omega)]; exact hS.2.2.2.1.1) (by omega) (by omega) (by omega) ⟨fun e => (by cases e), fun o18 e18 => ?_⟩
    cases e18
    unfold w_X2_entrySize
    rw [g14 (o + 1 + 2 + 5 * (M 27 0).toNat + 1) 1 (by omega), g14 (o + 1 + 2 + 5 * (M 27 0).toNat + 3) 1 (by omega), p1.1, p2.1]
    refine ⟨⟨by omega, by omega⟩, ⟨by omega, by omega⟩, ?_⟩
    rw [show ((nm M (M 27 0).toNat).length : Int) + ((vl M (M 27 0).toNat).length : Int) + 4 = sz M (M 27 0).toNat by unfold sz; omega, e17]
    refine x9_ins1 tc' t5' nn' (by rw [g14 385 5 (by omega)]; omega) (by rw [g14 385 6 (by omega)]; omega) (fun e C' he h3 h4 h5 h1 h2 h0 fC => ?_)
    rw [fe, g14 385 6 (by omega), ← m8] at he
    rw [fe] at h5
    refine kC (by omega) d1 hszc e C' (he.cg (fun i a b => (hsz i a b).2.1)) ?_ h3 h4 (by rw [h5, esm e he.1]) h1 h2 (fun q j hq => ?_)
    · rw [fC _ _ (by omega)]; exact s14
    · rw [fC _ _ (by omega), g14 _ _ (by omega)]
