/-! ===== the mathematics, part 16: what is ready is decoded, on both sides ===== -/
def T3 (c0 : Int) (C M : hq_M) : Prop := LT C (hq_up M 6 1 c0) ∧ RP C M ∧ KN C M ∧ C 385 3 = M 6 1 ∧ (0 ≤ M 6 1 ∧ M 6 1 ≤ 1000000) ∧ (0 ≤ M 6 0 ∧ M 6 0 ≤ 1000000)
theorem up61 {M : hq_M} {c0 : Int} {o j : Nat} (h : ¬ (o = 6 ∧ j = 1)) : hq_up M 6 1 c0 o j = M o j := by
  simp only [hq_up]
  rw [if_neg h]
theorem dec_rel2 {c0 : Int} {C M C' M' : hq_M} {k n : Nat} (h : T3 c0 C M) (hk : k < (M 0 25).toNat) (hn : M 0 52 = (n : Int)) (hs : M 15 k ≤ 1) (hq : M 11 k ≤ M 6 1) (c6 : C' (170 + 5 * k) 6 = 2) (m15 : M' 15 k = 2) (hC : (M 11 k ≤ 0 ∧ ∀ o j, ¬ (o = 170 + 5 * k ∧ j = 6) → C' o j = C o j) ∨ (0 < M 11 k ∧ Rw C' 389 (sg M 30 0 n ++ [128 + (k : Int)]) ∧ C' 384 2 = max (C 384 2) (M 11 k) ∧ ∀ o j, ¬ ((o = 170 + 5 * k ∧ j = 6) ∨ o = 389 ∨ o = 390 ∨ (o = 384 ∧ j = 2)) → C' o j = C o j)) (hM : (M 11 k ≤ 0 ∧ ∀ o j, ¬ (o = 15 ∧ j = k) → M' o j = M o j) ∨ (0 < M 11 k ∧ M' 30 n = 128 + (k : Int) ∧ M' 31 n = 0 ∧ M' 32 n = (k : Int) ∧ M' 33 n = 1 ∧ M' 0 52 = ((n + 1 : Nat) : Int) ∧ M' 0 56 = ((n + 1 : Nat) : Int) ∧ M' 0 24 = max (M 0 24) (M 11 k) ∧ ∀ o j, ¬ ((o = 15 ∧ j = k) ∨ o = 28 ∨ (o = 0 ∧ (j = 24 ∨ j = 49 ∨ j = 52 ∨ j = 56)) ∨ (30 ≤ o ∧ o ≤ 33 ∧ j = n)) → M' o j = M o j)) : T3 c0 C' M' := by
  obtain ⟨hL, hR, hK, h3, h61, h60⟩ := h
  have h25 : hq_up M 6 1 c0 0 25 = M 0 25 := up61 (by omega)
  have hk40 : k < 40 := by have := hL.2.1; rw [h25] at this; omega
  have fC : ∀ o j, ¬ ((o = 170 + 5 * k ∧ j = 6) ∨ o = 389 ∨ o = 390 ∨ (o = 384 ∧ j = 2)) → C' o j = C o j := by
    intro o j ho
    rcases hC with ⟨-, h⟩ | ⟨-, -, -, h⟩
    · exact h o j (by omega)
    · exact h o j ho
  have fM : ∀ o j, ¬ ((o = 15 ∧ j = k) ∨ o = 28 ∨ (o = 0 ∧ (j = 24 ∨ j = 49 ∨ j = 52 ∨ j = 56)) ∨ (30 ≤ o ∧ o ≤ 33 ∧ j = n)) → M' o j = M o j := by
    intro o j ho
    rcases hM with ⟨-, h⟩ | ⟨-, -, -, -, -, -, -, -, h⟩
    · exact h o j (by omega)
    · exact h o j ho
  have fU : ∀ o j, ¬ ((o = 15 ∧ j = k) ∨ o = 28 ∨ (o = 0 ∧ (j = 24 ∨ j = 49 ∨ j = 52 ∨ j = 56)) ∨ (30 ≤ o ∧ o ≤ 33 ∧ j = n)) → hq_up M' 6 1 c0 o j = hq_up M 6 1 c0 o j := by
    intro o j ho
    by_cases q : o = 6 ∧ j = 1
    · rw [q.1, q.2, up_self, up_self]
    · rw [up61 q, up61 q]; exact fM o j ho
  have hsec := hL.2.2.2.2 k (by rw [h25]; exact hk)
  obtain ⟨s1, s2, ⟨g3, g4, g5, g6, g7⟩, b1, b2, b3, b4, b5, b6, -⟩ := hsec
  have u15 : hq_up M' 6 1 c0 15 k = 2 := by rw [up61 (by omega)]; exact m15
  have hcu : cn (fun k => decide (2 ≤ M 15 k)) (M 0 25).toNat < cn (fun k => decide (2 ≤ M' 15 k)) (M 0 25).toNat := cn_up (k := k) (fun j hj => by rw [fM 15 j (by omega)]) hk (by simp; omega) (by rw [m15]; rfl)
  refine ⟨hL.up (k := k) (fun o j ho => fC _ _ (by omega)) (fun o j ho => fU _ _ (by omega)) (by rw [fU 6 0 (by omega)]; exact Int.le_refl _) ?_ ?_ (by rw [u15]; exact fun e => absurd e (by decide)), ?_, ?_, by rw [fC _ _ (by omega), fM _ _ (by omega)]; exact h3, by rw [fM _ _ (by omega)]; exact h61, by rw [fM _ _ (by omega)]; exact h60⟩
  · rw [fC _ 5 (by omega), fC _ 7 (by omega), c6, u15, fU 14 _ (by omega), fU 16 _ (by omega)]
    exact ⟨g5, rfl, g7⟩
  · rw [u15, fU 14 _ (by omega), fU 16 _ (by omega)]
    exact ⟨b3, by decide, b5⟩
  · rcases hM with ⟨q, h⟩ | ⟨q, a30, a31, a32, a33, a52, a56, a24, h⟩
    · obtain ⟨r1, r2, r3, r4, r5⟩ := hR
      rcases hC with ⟨-, hc⟩ | ⟨q2, -⟩
      · unfold RP
        rw [h 0 52 (by omega), h 0 56 (by omega), h 0 25 (by omega), h 0 23 (by omega), h 0 24 (by omega)]
        refine ⟨⟨r1.1, by omega⟩, r2, ?_, fun i hi => ?_, ?_⟩
        · rw [show sg M' 30 0 (M 0 52).toNat = sg M 30 0 (M 0 52).toNat from sg_eq (fun i _ => h _ _ (by omega))]
          exact r3.cg (hc _ _ (by omega)) (fun i => hc _ _ (by omega))
        · rw [h 33 i (by omega), h 32 i (by omega), h 31 i (by omega), h 30 i (by omega)]
          exact r4 i hi
        · rw [kf_cg (M := M) (fun o j ho => h _ _ (by omega)) (fun i _ _ => h _ _ (by omega))]
          exact r5
      · omega
    · rcases hC with ⟨q2, -⟩ | ⟨-, hcr, -, -⟩
      · omega
      · refine hR.push hn a52 a56 (fM _ _ (by omega)) (fM _ _ (by omega)) ?_ (fun o j ho => fM _ _ (by omega)) a30 a31 a32 a33 (.inl ⟨rfl, by omega, by omega, rfl⟩) (fun j => fM _ _ (by omega)) hcr ?_
        · have := hR.1.2
          omega
        · rw [a24, if_pos rfl, show ((k : Nat) : Int).toNat = k by omega]
  · obtain ⟨k1, k2, ⟨k3, k4, k5⟩, k6⟩ := hK
    unfold KN
    rw [fC 370 5 (by omega), fM 0 23 (by omega), fM 0 39 (by omega), fM 7 0 (by omega), fM 6 1 (by omega)]
    rcases hM with ⟨q, h⟩ | ⟨q, a30, a31, a32, a33, a52, a56, a24, h⟩
    · rcases hC with ⟨-, hc⟩ | ⟨q2, -⟩
      · rw [hc 384 2 (by omega), h 0 24 (by omega)]
        exact ⟨k1, k2, ⟨k3, k4, k5⟩, k6⟩
      · omega
    · rcases hC with ⟨q2, -⟩ | ⟨-, -, hcm, -⟩
      · omega
      · rw [hcm, a24, k2]
        exact ⟨k1, rfl, ⟨k3, k4, by omega⟩, k6⟩
theorem cn_pos {P : Nat → Bool} {n : Nat} (h : 0 < cn P n) : ∃ i, i < n ∧ P i = true := by
  induction n with
  | zero => exact absurd h (by simp [cn])
  | succ n ih =>
    rw [cn] at h
    by_cases q : P n = true
    · exact ⟨n, by omega, q⟩
    · rw [if_neg q] at h
      obtain ⟨i, h1, h2⟩ := ih (by omega)
      exact ⟨i, by omega, h2⟩
theorem rk_zero {st rq : Nat → Int} {n : Nat} (h : ∃ i, i < n ∧ st i = 1) : ∃ i, i < n ∧ st i = 1 ∧ rk st rq n i = 0 := by
  obtain ⟨i, hi, hs⟩ := h
  have key : ∀ (m i : Nat), rk st rq n i ≤ m → i < n → st i = 1 → ∃ i, i < n ∧ st i = 1 ∧ rk st rq n i = 0 := by
    intro m
    induction m with
    | zero => intro i hm hi hs; exact ⟨i, hi, hs, by omega⟩
    | succ m ih =>
      intro i hm hi hs
      by_cases q : rk st rq n i = 0
      · exact ⟨i, hi, hs, q⟩
      · have hp : 0 < rk st rq n i := by omega
        obtain ⟨j, hj, hj2⟩ := cn_pos hp
        simp at hj2
        have := rk_lt (st := st) hj hj2.1 hj2.2
        exact ih j (by omega) hj hj2.1
  exact key _ i (Nat.le_refl _) hi hs
def NR (M : hq_M) : Prop := ∀ k, k < (M 0 25).toNat → M 15 k = 1 → M 6 1 < M 11 k
def FD (C C' : hq_M) : Prop := ∀ o j, ¬ ((170 ≤ o ∧ o < 370 ∧ o % 5 = 0 ∧ j = 6) ∨ o = 389 ∨ o = 390 ∨ (o = 384 ∧ j = 2)) → C' o j = C o j
def FDm (M M' : hq_M) : Prop := ∀ o j, ¬ (o = 15 ∨ o = 28 ∨ (o = 0 ∧ (j = 24 ∨ j = 49 ∨ j = 52 ∨ j = 56)) ∨ (30 ≤ o ∧ o ≤ 33)) → M' o j = M o j
theorem T3.vw {c0 : Int} {C M : hq_M} (h : T3 c0 C M) : C 168 1 = M 0 25 ∧ (0 ≤ M 0 25 ∧ M 0 25 ≤ 40) ∧ (∀ k : Nat, k < 40 → C (170 + 5 * k) 0 = (k : Int)) ∧ ∀ k, k < (M 0 25).toNat → C (170 + 5 * k) 3 = M 11 k ∧ C (170 + 5 * k) 6 = M 15 k ∧ 0 ≤ M 11 k ∧ M 11 k ≤ M 6 0 := by
  obtain ⟨⟨l1, l2, l3, l4, l5⟩, -⟩ := h
  rw [up61 (by omega)] at l1 l2 l5
  refine ⟨l1, l2, l3, fun k hk => ?_⟩
  obtain ⟨-, -, ⟨g3, -, -, g6, -⟩, -, -, -, -, -, b6, -⟩ := l5 k hk
  rw [up61 (by omega)] at g3 g6 b6
  rw [up61 (by omega)] at b6
  exact ⟨g3, g6, b6.1, b6.2⟩
theorem dec_sim (c0 : Int) (d : Nat) : ∀ (z : Int) (C : hq_M) (kc : hq_M → Prop) (M : hq_M), z = 40 - (d : Int) → d ≤ 40 → T3 c0 C M → cn (fun i => decide (M 15 i = 1)) (M 0 25).toNat ≤ d → (∀ C', FD C C' → (∃ M', T3 c0 C' M' ∧ FDm M M' ∧ NR M') → (∀ M, T3 c0 C M → cn (fun i => decide (M 15 i = 1)) (M 0 25).toNat ≤ d → ∀ kk : hq_M → Prop, (∀ M', T3 c0 C' M' → FDm M M' → NR M' → kk M') → ∀ F : Int → Prop, (∀ x, l_X12_readsAll_6 kk (d + 1) x M → F x) → w_X12_waiting 0 M F) → kc C') → l_X5_decodeBlocked_2 kc (d + 1) z C := by
  -- nobody waits: the reference
  have none9 : ∀ (C M : hq_M) (kk : hq_M → Prop) (dd : Nat), T3 c0 C M → (∀ i, i < (M 0 25).toNat → ¬ M 15 i = 1) → kk M → ∀ F : Int → Prop, (∀ x, l_X12_readsAll_6 kk (dd + 1) x M → F x) → w_X12_waiting 0 M F := by
    intro C M kk dd hT hno hk F hF
    obtain ⟨l1, l2, l3, l5⟩ := hT.vw
    have h60 := hT.2.2.2.2.2
    refine m_waiting (by decide) (by decide) l2 h60 (fun i hi => ⟨(l5 i hi).2.2.1, (l5 i hi).2.2.2⟩) (fun r hr => ?_)
    rcases hr with ⟨h1, -⟩ | ⟨i, h1, -, h3, -⟩
    · refine hF r ?_
      rw [h1, l_X12_readsAll_6]
      exact ⟨fun _ => hk, fun e => absurd rfl e⟩
    · exact absurd h3.1 (hno i h1)
  induction d with
  | zero =>
    intro z C kc M hz hd hT hc hk
    have hno : ∀ M : hq_M, cn (fun i => decide (M 15 i = 1)) (M 0 25).toNat ≤ 0 → ∀ i, i < (M 0 25).toNat → ¬ M 15 i = 1 := by
      intro M hc i hi h1
      have := cn_lt (P := fun _ => false) (Q := fun i => decide (M 15 i = 1)) (n := (M 0 25).toNat) (i := i) (fun _ _ h => absurd h (by decide)) hi rfl (by simp [h1])
      omega
    rw [l_X5_decodeBlocked_2]
    refine ⟨fun _ => hk C (fun _ _ _ => rfl) ⟨M, hT, fun _ _ _ => rfl, fun k hk' h1 => absurd h1 (hno M hc k hk')⟩ (fun M2 hT2 hc2 kk hkk => none9 C M2 kk 0 hT2 (hno M2 hc2) (hkk M2 hT2 (fun _ _ _ => rfl) (fun k hk' h1 => absurd h1 (hno M2 hc2 k hk')))), fun q => by omega⟩
  | succ d ih =>
    intro z C kc M hz hd hT hc hk
    obtain ⟨l1, l2, l3, l5⟩ := hT.vw
    rw [l_X5_decodeBlocked_2]
    refine ⟨fun q => by omega, fun _ => x1_blockedAt (by omega) (fun r hr => ?_)⟩
    -- the one in front, seen from the reference
    have front : ∀ M2 : hq_M, T3 c0 C M2 → IsWait (M2 15) (M2 11) (M2 0 25).toNat 0 r := by
      intro M2 hT2
      obtain ⟨a1, a2, a3, a5⟩ := hT2.vw
      rw [a1] at hr
      exact IsWait.cg hr (fun i hi => (a5 i hi).2.1) (fun i hi => (a5 i hi).1)
    have wt : ∀ (M2 : hq_M) (kk : hq_M → Prop), T3 c0 C M2 → l_X12_readsAll_6 kk (d + 1 + 1) r M2 → ∀ F : Int → Prop, (∀ x, l_X12_readsAll_6 kk (d + 1 + 1) x M2 → F x) → w_X12_waiting 0 M2 F := by
      intro M2 kk hT2 hk2 F hF
      obtain ⟨a1, a2, a3, a5⟩ := hT2.vw
      refine m_waiting (by decide) (by decide) a2 hT2.2.2.2.2.2 (fun i hi => ⟨(a5 i hi).2.2.1, (a5 i hi).2.2.2⟩) (fun r' hr' => ?_)
      rw [IsLo.un hr' (front M2 hT2)]
      exact hF r hk2
    have hfr := front M hT
    rcases hfr with ⟨h1, h2⟩ | ⟨i, h1, h2, h3, h4⟩
    · -- nobody waits
      have nob : ∀ M2 : hq_M, T3 c0 C M2 → ∀ i, i < (M2 0 25).toNat → ¬ M2 15 i = 1 := by
        intro M2 hT2 i hi hs
        obtain ⟨j, j1, j2, j3⟩ := rk_zero (st := M2 15) (rq := M2 11) ⟨i, hi, hs⟩
        rcases front M2 hT2 with ⟨-, h2'⟩ | ⟨i', -, h2', -⟩
        · exact h2' j j1 ⟨j2, by rw [j3]; rfl⟩
        · omega
      subst h1
      refine x1_at (by omega) ?_
      rw [if_neg (by omega)]
      refine ⟨fun _ => hk C (fun _ _ _ => rfl) ⟨M, hT, fun _ _ _ => rfl, fun k hk' hs => absurd hs (nob M hT k hk')⟩ (fun M2 hT2 _ kk hkk => none9 C M2 kk (d + 1) hT2 (nob M2 hT2) (hkk M2 hT2 (fun _ _ _ => rfl) (fun k hk' hs => absurd hs (nob M2 hT2 k hk')))), fun o e => (by cases e)⟩
    · refine x1_at_in (i := i) (by omega) h2 (by omega) ⟨fun e => (by cases e), fun o e => ?_⟩
      cases e
      have facts : ∀ M2 : hq_M, T3 c0 C M2 → i < (M2 0 25).toNat ∧ M2 15 i = 1 ∧ M2 11 i = C (170 + 5 * i) 3 ∧ M2 6 1 = C 385 3 ∧ rk (M2 15) (M2 11) (M2 0 25).toNat i = 0 := by
        intro M2 hT2
        obtain ⟨a1, a2, a3, a5⟩ := hT2.vw
        rcases front M2 hT2 with ⟨b1, -⟩ | ⟨i', b1, b2, b3, b4⟩
        · omega
        · have : i' = i := by omega
          subst this
          exact ⟨b1, b3.1, (a5 i' b1).1.symm, hT2.2.2.2.1.symm, by have := b3.2; omega⟩
      have nr : ¬ C (170 + 5 * i) 3 ≤ C 385 3 → ∀ M2 : hq_M, T3 c0 C M2 → NR M2 := by
        intro hq M2 hT2 k hk' hs
        obtain ⟨a1, a2, a3, a4, a5⟩ := facts M2 hT2
        by_cases q : k = i
        · rw [q]; omega
        · rcases bfr_tot (rq := M2 11) (i := k) (j := i) q with h | h
          · have := rk_lt (st := M2 15) hk' hs h
            omega
          · unfold bfr at h
            simp at h
            omega
      obtain ⟨f1, f2, f3, f4, f5⟩ := facts M hT
      refine ⟨fun hq => ?_, fun hq => ?_⟩
      · obtain ⟨n, n52, n56, nt⟩ := hT.2.1.n
        have r1 := hT.2.1.1
        have r3 := hT.2.1.2.2.1
        have hcb : cn (fun k => decide (2 ≤ M 15 k)) (M 0 25).toNat < (M 0 25).toNat := cn_bd (k := i) f1 (by simp; omega)
        rw [nt] at r3
        -- behind one decoding
        have step : ∀ C1 : hq_M, C1 (170 + 5 * i) 6 = 2 → FD C C1 → (∀ (M2 M3 : hq_M) (n2 : Nat), T3 c0 C M2 → M2 0 52 = (n2 : Int) → M3 15 i = 2 → ((M2 11 i ≤ 0 ∧ ∀ o j, ¬ (o = 15 ∧ j = i) → M3 o j = M2 o j) ∨ (0 < M2 11 i ∧ M3 30 n2 = 128 + (i : Int) ∧ M3 31 n2 = 0 ∧ M3 32 n2 = (i : Int) ∧ M3 33 n2 = 1 ∧ M3 0 52 = ((n2 + 1 : Nat) : Int) ∧ M3 0 56 = ((n2 + 1 : Nat) : Int) ∧ M3 0 24 = max (M2 0 24) (M2 11 i) ∧ ∀ o j, ¬ ((o = 15 ∧ j = i) ∨ o = 28 ∨ (o = 0 ∧ (j = 24 ∨ j = 49 ∨ j = 52 ∨ j = 56)) ∨ (30 ≤ o ∧ o ≤ 33 ∧ j = n2)) → M3 o j = M2 o j)) → T3 c0 C1 M3) → rg (z + 1) ∧ ∀ x7 : Int, x7 = z + 1 → l_X5_decodeBlocked_2 kc (d + 1) x7 C1 := by
          intro C1 c6 fC1 rel
          have less : ∀ (M2 M3 : hq_M), M2 15 i = 1 → i < (M2 0 25).toNat → M3 15 i = 2 → (∀ j, j ≠ i → M3 15 j = M2 15 j) → M3 0 25 = M2 0 25 → cn (fun i => decide (M2 15 i = 1)) (M2 0 25).toNat ≤ d + 1 → cn (fun i => decide (M3 15 i = 1)) (M3 0 25).toNat ≤ d := by
            intro M2 M3 a1 a2 a3 a4 a5 a6
            rw [a5]
            have := cn_up (P := fun i => decide (M3 15 i = 1)) (Q := fun i => decide (M2 15 i = 1)) (n := (M2 0 25).toNat) (k := i) (fun j hj => by rw [a4 j hj]) a2 (by simp [a3]) (by simp [a1])
            omega
          obtain ⟨Mw, hTw, hcw, fMw⟩ : ∃ Mw, T3 c0 C1 Mw ∧ cn (fun i => decide (Mw 15 i = 1)) (Mw 0 25).toNat ≤ d ∧ FDm M Mw := by
            by_cases q0 : M 11 i ≤ 0
            · refine ⟨hq_up M 15 i 2, rel M _ n hT n52 (up_self _ _ _ _) (.inl ⟨q0, fun o j ho => by simp only [hq_up]; rw [if_neg ho]⟩), less M _ f2 f1 (up_self _ _ _ _) (fun j hj => by simp [hq_up, hj]) (by simp [hq_up]) hc, fun o j ho => by simp only [hq_up]; rw [if_neg (by omega)]⟩
            · obtain ⟨M3, hM3⟩ : ∃ M3 : hq_M, M3 = fun o j => if o = 15 ∧ j = i then 2 else if o = 30 ∧ j = n then 128 + (i : Int) else if o = 31 ∧ j = n then 0 else if o = 32 ∧ j = n then (i : Int) else if o = 33 ∧ j = n then 1 else if o = 0 ∧ (j = 52 ∨ j = 56) then ((n + 1 : Nat) : Int) else if o = 0 ∧ j = 24 then max (M 0 24) (M 11 i) else M o j := ⟨_, rfl⟩
              refine ⟨M3, rel M M3 n hT n52 (by rw [hM3]; simp) (.inr ⟨by omega, by rw [hM3]; simp, by rw [hM3]; simp, by rw [hM3]; simp, by rw [hM3]; simp, by rw [hM3]; simp, by rw [hM3]; simp, by rw [hM3]; simp, fun o j ho => ?_⟩), less M M3 f2 f1 (by rw [hM3]; simp) (fun j hj => by rw [hM3]; simp [hj]) (by rw [hM3]; simp) hc, fun o j ho => ?_⟩
              · rw [hM3]
                show (if o = 15 ∧ j = i then (2 : Int) else _) = _
                rw [if_neg (by omega), if_neg (by omega), if_neg (by omega), if_neg (by omega), if_neg (by omega), if_neg (by omega), if_neg (by omega)]
              · rw [hM3]
                show (if o = 15 ∧ j = i then (2 : Int) else _) = _
                rw [if_neg (by omega), if_neg (by omega), if_neg (by omega), if_neg (by omega), if_neg (by omega), if_neg (by omega), if_neg (by omega)]
          refine ⟨⟨by omega, by omega⟩, fun x7 e7 => ih x7 C1 kc Mw (by omega) (by omega) hTw hcw (fun C' fC' hex' hre => hk C' (fun o j ho => (fC' o j ho).trans (fC1 o j ho)) (hex'.imp fun Mx hx => ⟨hx.1, fun o j ho => (hx.2.1 o j ho).trans (fMw o j ho), hx.2.2⟩) (fun M2 hT2 hc2 kk hkk => ?_))⟩
          · obtain ⟨a1, a2, a3, a4, a5⟩ := facts M2 hT2
            obtain ⟨n2, n52', n56', nt'⟩ := hT2.2.1.n
            have r1' := hT2.2.1.1
            have hcl := cn_le (fun k => decide (2 ≤ M2 15 k)) (M2 0 25).toNat
            have l2' := hT2.vw.2.1
            refine wt M2 kk hT2 ?_
            rw [l_X12_readsAll_6, h2, show ((i : Nat) : Int).toNat = i by omega]
            refine ⟨fun e => by omega, fun _ => ⟨⟨by omega, by omega⟩, by decide, fun e => by omega, fun _ => ?_⟩⟩
            refine m_becomesRead (k := i) (n := n2) rfl (by omega) n52' n56' (by omega) (fun b0 M3 m15 fm => ?_) (fun b1 M3 m15 m30 m31 m32 m33 m52 m56 m24 fm => ?_)
            · refine hre M3 (rel M2 M3 n2 hT2 n52' m15 (.inl ⟨b0, fm⟩)) (less M2 M3 a2 a1 m15 (fun j hj => fm _ _ (by omega)) (fm _ _ (by omega)) hc2) kk (fun M' hT' fM' nr' => hkk M' hT' (fun o j ho => (fM' o j ho).trans (fm o j (by omega))) nr') _ (fun _ hh => hh)
            · refine hre M3 (rel M2 M3 n2 hT2 n52' m15 (.inr ⟨b1, m30, m31, m32, m33, m52, m56, m24, fm⟩)) (less M2 M3 a2 a1 m15 (fun j hj => fm _ _ (by omega)) (fm _ _ (by omega)) hc2) kk (fun M' hT' fM' nr' => hkk M' hT' (fun o j ho => (fM' o j ho).trans (fm o j (by omega))) nr') _ (fun _ hh => hh)
        refine x5_decode (k := i) (xs := sg M 30 0 n) (by omega) (l3 i (by omega)) r3 (by rw [sg_len]; omega) (fun a0 C1 c6 fc => step C1 c6 (fun o j ho => fc o j (by omega)) (fun M2 M3 n2 hT2 h52 m15 hM3 => ?_)) (fun a1 C1 c6 rr c384 fc => step C1 c6 (fun o j ho => fc o j (by omega)) (fun M2 M3 n2 hT2 h52 m15 hM3 => ?_))
        · obtain ⟨b1, b2, b3, b4, b5⟩ := facts M2 hT2
          exact dec_rel2 hT2 b1 h52 (by omega) (by omega) c6 m15 (.inl ⟨by omega, fc⟩) hM3
        · obtain ⟨b1, b2, b3, b4, b5⟩ := facts M2 hT2
          have e39 : sg M2 30 0 n2 = sg M 30 0 n := by
            have x1 := r3.1
            have x2 := hT2.2.1.2.2.1
            have nn : (M2 0 52).toNat = n2 := by omega
            rw [nn] at x2
            have y1 := x2.1
            rw [sg_len] at x1 y1
            refine ls_ext (by rw [sg_len, sg_len]; omega) (fun j hj => ?_)
            rw [sg_len] at hj
            rw [← x2.2 j (by rw [sg_len]; exact hj), ← r3.2 j (by rw [sg_len]; omega)]
          exact dec_rel2 hT2 b1 h52 (by omega) (by omega) c6 m15 (.inr ⟨by omega, by rw [e39]; exact rr, by rw [b3]; exact c384, fc⟩) hM3
      · refine hk C (fun _ _ _ => rfl) ⟨M, hT, fun _ _ _ => rfl, nr hq M hT⟩ (fun M2 hT2 hc2 kk hkk => wt M2 kk hT2 ?_)
        obtain ⟨b1, b2, b3, b4, b5⟩ := facts M2 hT2
        have l2' := hT2.vw.2.1
        rw [l_X12_readsAll_6, h2, show ((i : Nat) : Int).toNat = i by omega]
        exact ⟨fun e => by omega, fun _ => ⟨⟨by omega, by omega⟩, by decide, fun _ => hkk M2 hT2 (fun _ _ _ => rfl) (nr hq M2 hT2), fun e => by omega⟩⟩
