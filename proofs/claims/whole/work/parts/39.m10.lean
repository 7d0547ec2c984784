/-! ===== the mathematics, part 10: hears ===== -/
theorem JJ.pl2 {u : Nat} {C M C' M' : hq_M} (h : JJ u C M) (hL : LT C' M') (hR : RP C' M') (hK : KN C' M') (hH : ∀ lo n, TB C M 371 0 lo n → HO C M 371 lo n 40 → HO C' M' 371 lo n 40) (hC : ∀ o j, ¬ ((168 ≤ o ∧ o < 370) ∨ o = 389 ∨ o = 390 ∨ (o = 384 ∧ j = 2) ∨ (o = 370 ∧ j = 5) ∨ o = 374) → C' o j = C o j) (hM : ∀ o j, ¬ ((14 ≤ o ∧ o ≤ 16) ∨ (30 ≤ o ∧ o ≤ 33) ∨ o = 28 ∨ (o = 0 ∧ (j = 49 ∨ j = 52 ∨ j = 56 ∨ j = 23 ∨ j = 24))) → M' o j = M o j) : JJ u C' M' := by
  obtain ⟨hT, hD, hS, -, ⟨lo, n, hE, hH0, hb⟩, ⟨lo2, n2, hX⟩, ⟨D, m, hQ, hb2⟩, hDE, -, -⟩ := h
  exact ⟨hT.cg (fun o j ho => hC o j (by omega)) (fun o j ho => hM o j (by omega)), hD.cg (fun o j ho => hC o j (by omega)) (fun o j ho => hM o j (by omega)), hS.cg (fun o j ho => hC o j (by omega)) (fun o j ho => hM o j (by omega)), hL, ⟨lo, n, hE.cg (fun o j ho => hC o j (by omega)) (fun o j ho => hM o j (by omega)), hH lo n hE hH0, hb⟩, ⟨lo2, n2, hX.cg (fun o j ho => hC o j (by omega)) (fun o j ho => hM o j (by omega))⟩, ⟨D, m, hQ.cg (fun o j ho => hC o j (by omega)) (fun o j ho => hM o j (by omega)), hb2.1, hb2.2.cg (hC _ _ (by omega))⟩, hDE.cg (fun o j ho => hM o j (by omega)), hR, hK⟩
def stt (M : hq_M) : Nat → Nat → Int
  | 0, k => M 16 k
  | i + 1, k => if (M 31 i = 0 ∨ M 31 i = 1) ∧ M 32 i = (k : Int) then 1 else stt M i k
def rfs (M : hq_M) (k p : Nat) : Bool := (List.range (M 17 k).toNat).any (fun j => decide (M 19 (6 * k + j) = (p : Int)))
theorem x9_release {A k : Nat} {v : Int} {C : hq_M} {kk : hq_M → Prop} (hl : hq_len YC (A + 3) = 64) (hv : v = (k : Int)) (hk41 : k < 41) (hk : ∀ C' : hq_M, (∀ j, j < 64 → rl (C' (A + 3) j) ∧ ∀ b, b < 64 → bt (C' (A + 3) j) b = (bt (C (A + 3) j) b && !decide (b = k))) → (∀ o j, o ≠ A + 3 → C' o j = C o j) → kk C') : w_X9_release A v C kk := by
  unfold w_X9_release
  refine ⟨65, ?_⟩
  have key : ∀ (d i : Nat) (z : Int) (N : hq_M), z = (i : Int) → i + d = 64 → (∀ j, j < i → rl (N (A + 3) j) ∧ ∀ b, b < 64 → bt (N (A + 3) j) b = (bt (C (A + 3) j) b && !decide (b = k))) → (∀ j, i ≤ j → N (A + 3) j = C (A + 3) j) → (∀ o j, o ≠ A + 3 → N o j = C o j) → l_X9_release_2 A v kk (d + 1) z N := by
    intro d
    induction d with
    | zero =>
      intro i z N hz hi hlo hhi hF
      rw [l_X9_release_2]
      exact ⟨fun _ => hk N (fun j hj => hlo j (by omega)) hF, fun q => by omega⟩
    | succ d ih =>
      intro i z N hz hi hlo hhi hF
      rw [l_X9_release_2, hl, show z.toNat = i by omega]
      refine ⟨fun q => by omega, fun _ => ⟨⟨by omega, by omega⟩, ⟨by omega, by omega⟩, fun M4 e4 => ⟨⟨by omega, by omega⟩, fun x5 e5 => ih (i + 1) x5 M4 (by omega) (by omega) (fun j hj => ?_) (fun j hj => ?_) (fun o j ho => ?_)⟩⟩⟩
      · by_cases q : j = i
        · rw [q, e4, up_self]
          refine ⟨w6_rl _, fun b hb => ?_⟩
          rw [bt_and, bt_xor, hv, bt_one k hk41 b hb, bt_ones b hb, hhi i (Nat.le_refl _)]
          simp
        · rw [e4]
          simp only [hq_up]
          rw [if_neg (by omega)]
          exact hlo j (by omega)
      · rw [e4]
        simp only [hq_up]
        rw [if_neg (by omega)]
        exact hhi j (by omega)
      · rw [e4]
        simp only [hq_up]
        rw [if_neg (by omega)]
        exact hF o j ho
  exact key 64 0 0 C rfl (by omega) (fun j hj => absurd hj (by omega)) (fun _ _ => rfl) (fun _ _ _ => rfl)
theorem LT.st7 {C M C' M' : hq_M} (h : LT C M) (hC : ∀ o j, ((168 ≤ o ∧ o < 370) ∨ (o = 405 ∧ j = 0)) ∧ ¬ (170 ≤ o ∧ o < 370 ∧ o % 5 = 0 ∧ j = 7) → C' o j = C o j) (hM : ∀ o j, ((11 ≤ o ∧ o ≤ 20 ∧ o ≠ 16) ∨ (o = 0 ∧ j = 25) ∨ (o = 6 ∧ j = 1)) → M' o j = M o j) (h6 : M 6 0 ≤ M' 6 0) (h7 : ∀ k, k < (M 0 25).toNat → C' (170 + 5 * k) 7 = M' 16 k ∧ 0 ≤ M' 16 k ∧ M' 16 k ≤ 1) : LT C' M' := by
  obtain ⟨h1, h2, h3, h4, hs⟩ := h
  unfold LT
  rw [hM 0 25 (by omega), hC 168 1 (by omega), hC 405 0 (by omega)]
  refine ⟨h1, h2, fun i hi => (hC _ _ (by omega)).trans (h3 i hi), h4, fun i hi => ?_⟩
  obtain ⟨g1, g2, ⟨g3, g4, g5, g6, g7⟩, b1, b2, b3, b4, b5, b6, b7, b8, b9⟩ := hs i hi
  obtain ⟨a1, a2, a3⟩ := h7 i hi
  unfold SE
  rw [hM 11 i (by omega), hM 12 i (by omega), hM 13 i (by omega), hM 14 i (by omega), hM 15 i (by omega), hM 17 i (by omega), hC (170 + 5 * i) 3 (by omega), hC (170 + 5 * i) 4 (by omega), hC (170 + 5 * i) 5 (by omega), hC (170 + 5 * i) 6 (by omega)]
  rw [show sg M' 18 (6 * i) (M 17 i).toNat = sg M 18 (6 * i) (M 17 i).toNat from sg_eq (fun j _ => hM _ _ (by omega)), show sg M' 20 (112 * i) (M 13 i).toNat = sg M 20 (112 * i) (M 13 i).toNat from sg_eq (fun j _ => hM _ _ (by omega))]
  refine ⟨g1.cg (hC _ _ (by omega)) (fun j => hC _ _ (by omega)), g2.cg (hC _ _ (by omega)) (fun j => hC _ _ (by omega)), ⟨g3, g4, g5, g6, a1⟩, b1, b2, b3, b4, ⟨a2, a3⟩, ⟨b6.1, by omega⟩, ⟨b7.1, by omega⟩, fun j hj => ?_, by rw [hM 6 1 (by omega)]; exact b9⟩
  rw [hM 19 _ (by omega)]
  have := b8 j hj
  omega
/-- the class after i acknowledgements -/
def HC (C M : hq_M) (lo n i : Nat) (N : hq_M) : Prop := N 370 5 = kf M (M 0 23) i ∧ (∀ k, k < (M 0 25).toNat → N (170 + 5 * k) 7 = stt M i k) ∧ (∀ p, lo ≤ p → p < lo + n → rl (N 374 (p % 64)) ∧ ∀ b, b < 64 → bt (N 374 (p % 64)) b = (decide (b < (M 0 25).toNat) && (decide (stt M i b = 0) && rfs M b p))) ∧ ∀ o j, ¬ ((170 ≤ o ∧ o < 370 ∧ o % 5 = 0 ∧ j = 7) ∨ (o = 370 ∧ j = 5) ∨ o = 374) → N o j = C o j
theorem stt_bd {C M : hq_M} (hL : LT C M) (i k : Nat) (hk : k < (M 0 25).toNat) : 0 ≤ stt M i k ∧ stt M i k ≤ 1 := by
  induction i with
  | zero => exact (hL.2.2.2.2 k hk).2.2.2.2.2.2.2.1
  | succ i ih =>
    rw [stt]
    split
    · decide
    · exact ih
theorem kf_bd {C M : hq_M} (h : RP C M) (hK : KN C M) (hb : M 6 1 ≤ 1000000) (i : Nat) (hi : i ≤ (M 0 52).toNat) : 0 ≤ kf M (M 0 23) i ∧ kf M (M 0 23) i ≤ 1000000 ∧ M 0 23 ≤ kf M (M 0 23) i := by
  have h1 := kf_mono h (M 0 23) 0 i (by omega) hi
  have h2 := kf_mono h (M 0 23) i _ hi (Nat.le_refl _)
  have h0 : kf M (M 0 23) 0 = M 0 23 := rfl
  have h5 := h.2.2.2.2
  have := hK.2.2.1
  omega
theorem x10_hear {C M : hq_M} {lo n i : Nat} {x : Int} {N : hq_M} {kk : hq_M → Prop} (hL : LT C M) (hR : RP C M) (hK : KN C M) (hb : M 6 1 ≤ 1000000) (hi : i < (M 0 52).toNat) (hx : x = M 30 i) (h : HC C M lo n i N) (hk : ∀ N', HC C M lo n (i + 1) N' → kk N') : w_X10_hear 370 x N kk := by
  obtain ⟨c1, c2, c3, c4⟩ := h
  obtain ⟨l1, l2, l3, l4, l5⟩ := hL
  obtain ⟨-, r4⟩ := hR.2.2.2.1 i hi
  have kb := kf_bd hR hK hb i (by omega)
  have kb2 := kf_bd hR hK hb (i + 1) (by omega)
  have settle : ∀ (k : Nat) (t : Int), t = (k : Int) → k < (M 0 25).toNat → M 32 i = (k : Int) → (M 31 i = 0 ∨ M 31 i = 1) → (M 31 i = 0 ↔ ¬ x < 128) → b_X10_hear_42 370 x t kk N := by
    intro k t ht hk2 h32 h31 hx128
    unfold b_X10_hear_42
    have e168 : N 168 1 = M 0 25 := by rw [c4 _ _ (by omega)]; exact l1
    refine x1_at_in (i := k) (by omega) ht (by omega) ⟨fun e => (by cases e), fun o e => ?_⟩
    cases e
    intro M3 e3
    have f3 : ∀ o j, ¬ (o = 170 + 5 * k ∧ j = 7) → M3 o j = N o j := fun o j ho => by rw [e3]; simp only [hq_up]; rw [if_neg ho]
    have s3 : M3 (170 + 5 * k) 7 = 1 := by rw [e3, up_self]
    have hnum : M3 (170 + 5 * k) 0 = (k : Int) := by rw [f3 _ _ (by omega), c4 _ _ (by omega)]; exact l3 k (by omega)
    refine x9_release (k := k) (by decide +kernel) hnum (by omega) (fun M5 g5 f5 => ?_)
    have kfe : kf M (M 0 23) (i + 1) = if M 31 i = 0 then max (kf M (M 0 23) i) (M 11 k) else kf M (M 0 23) i := by
      rw [kf, h32, show ((k : Nat) : Int).toNat = k by omega]
      rcases h31 with e | e
      · rw [if_pos e, if_pos e]
      · rw [if_neg (show ¬ M 31 i = 0 by omega), if_pos e, if_neg (show ¬ M 31 i = 0 by omega)]
    have e11 : M5 (170 + 5 * k) 3 = M 11 k := by
      rw [f5 _ _ (by omega), f3 _ _ (by omega), c4 _ _ (by omega)]
      exact (l5 k hk2).2.2.1.1
    have e5 : M5 370 5 = kf M (M 0 23) i := by rw [f5 _ _ (by omega), f3 _ _ (by omega)]; exact c1
    have build : ∀ N' : hq_M, N' 370 5 = kf M (M 0 23) (i + 1) → (∀ o j, ¬ (o = 370 ∧ j = 5) → N' o j = M5 o j) → HC C M lo n (i + 1) N' := by
      intro N' a1 a2
      refine ⟨a1, fun k' hk' => ?_, fun p p1 p2 => ?_, fun o j ho => ?_⟩
      · rw [a2 _ _ (by omega), f5 _ _ (by omega), stt]
        by_cases q : k' = k
        · rw [q, s3, if_pos ⟨h31, h32⟩]
        · rw [f3 _ _ (by omega), if_neg (by omega)]
          exact c2 k' hk'
      · rw [a2 _ _ (by omega)]
        obtain ⟨g6, g7⟩ := g5 (p % 64) (by omega)
        refine ⟨g6, fun b hb => ?_⟩
        rw [g7 b hb, f3 _ _ (by omega), (c3 p p1 p2).2 b hb, stt]
        by_cases q : b = k
        · rw [q, if_pos ⟨h31, h32⟩]; simp
        · rw [if_neg (by omega)]; simp [q]
      · rw [a2 _ _ (by omega), f5 _ _ (by omega), f3 _ _ (by omega), c4 _ _ (by omega)]
    refine ⟨fun q => hk _ (build _ ?_ (fun _ _ _ => rfl)), fun q => fun M8 e8 => hk _ (build _ ?_ (fun o j ho => ?_))⟩
    · rw [e5, kfe, if_neg (fun e => (hx128.mp e) q)]
    · rw [e8, up_self, e5, e11, kfe, if_pos (hx128.mpr q)]
    · rw [e8]; simp only [hq_up]; rw [if_neg ho]
  unfold w_X10_hear
  rcases r4 with ⟨a1, a2, a3, a4⟩ | ⟨a1, a2, a3, a4⟩ | ⟨a1, a2, a3, a4⟩
  · exact ⟨fun _ => ⟨fun _ => ⟨fun _ => ⟨⟨by omega, by omega⟩, settle (M 32 i).toNat _ (by omega) (by omega) (by omega) (.inl a1) (by omega)⟩, fun q => by omega⟩, fun q => by omega⟩, fun q => by omega⟩
  · exact ⟨fun _ => ⟨fun _ => ⟨fun q => by omega, fun _ => ⟨⟨by omega, by omega⟩, settle (M 32 i).toNat _ (by omega) (by omega) (by omega) (.inr a1) (by omega)⟩⟩, fun q => by omega⟩, fun q => by omega⟩
  · refine ⟨fun _ => ⟨fun q => by omega, fun _ => ?_⟩, fun q => by omega⟩
    have kfe : kf M (M 0 23) (i + 1) = kf M (M 0 23) i + M 32 i := by
      rw [kf, if_neg (by omega), if_neg (by omega)]
    rw [c1]
    refine ⟨⟨by omega, by omega⟩, fun M5 e5 => hk _ ⟨?_, fun k' hk' => ?_, fun p p1 p2 => ?_, fun o j ho => ?_⟩⟩
    · rw [e5, up_self]; omega
    · rw [e5]; simp only [hq_up]; rw [if_neg (by omega), stt, if_neg (by omega)]; exact c2 k' hk'
    · rw [e5]; simp only [hq_up]; rw [if_neg (by omega)]
      refine ⟨(c3 p p1 p2).1, fun b hb => ?_⟩
      rw [(c3 p p1 p2).2 b hb, stt, if_neg (by omega)]
    · rw [e5]; simp only [hq_up]; rw [if_neg (by omega)]; exact c4 o j ho
theorem m_shift1 {M : hq_M} {n : Nat} {kk : hq_M → Prop} (hn : M 0 56 = (n : Int)) (hn2 : n ≤ 180) (hk : ∀ M' : hq_M, (∀ a j, 31 ≤ a → a ≤ 33 → j < n → M' a j = M a (j + 1)) → (∀ o j, ¬ (31 ≤ o ∧ o ≤ 33) → M' o j = M o j) → kk M') : ∃ m82, l_X12_hearsFirst_82 kk m82 0 M := by
  refine ⟨n + 1, ?_⟩
  have key : ∀ (d i : Nat) (z : Int) (N : hq_M), z = (i : Int) → i + d = n → (∀ a j, 31 ≤ a → a ≤ 33 → j < i → N a j = M a (j + 1)) → (∀ a j, 31 ≤ a → a ≤ 33 → i ≤ j → N a j = M a j) → (∀ o j, ¬ (31 ≤ o ∧ o ≤ 33) → N o j = M o j) → l_X12_hearsFirst_82 kk (d + 1) z N := by
    intro d
    induction d with
    | zero =>
      intro i z N hz hi hlo hhi hF
      rw [l_X12_hearsFirst_82, hF 0 56 (by omega), hn]
      exact ⟨fun _ => hk N (fun a j h1 h2 hj => hlo a j h1 h2 (by omega)) hF, fun q => by omega⟩
    | succ d ih =>
      intro i z N hz hi hlo hhi hF
      rw [l_X12_hearsFirst_82, hF 0 56 (by omega), hn, show z.toNat = i by omega, show (z + 1).toNat = i + 1 by omega]
      refine ⟨fun q => by omega, fun _ => ⟨⟨by omega, by omega⟩, ⟨by omega, by omega⟩, ⟨by omega, by omega⟩, fun M6 e6 => ⟨⟨by omega, by omega⟩, ⟨by omega, by omega⟩, ⟨by omega, by omega⟩, fun M11 e11 => ⟨⟨by omega, by omega⟩, ⟨by omega, by omega⟩, ⟨by omega, by omega⟩, fun M16 e16 => ⟨⟨by omega, by omega⟩, fun x17 e17 => ?_⟩⟩⟩⟩⟩
      have g : ∀ o j, M16 o j = if 31 ≤ o ∧ o ≤ 33 ∧ j = i then N o (i + 1) else N o j := by
        intro o j
        rw [e16, e11, e6]
        simp only [hq_up]
        by_cases q : 31 ≤ o ∧ o ≤ 33 ∧ j = i
        · rw [if_pos q]
          obtain ⟨q1, q2, q3⟩ := q
          have : o = 31 ∨ o = 32 ∨ o = 33 := by omega
          rcases this with rfl | rfl | rfl <;> simp [q3]
        · rw [if_neg q, if_neg (by omega), if_neg (by omega), if_neg (by omega)]
      refine ih (i + 1) x17 M16 (by omega) (by omega) (fun a j h1 h2 hj => ?_) (fun a j h1 h2 hj => ?_) (fun o j ho => ?_)
      · rw [g]
        by_cases q : j = i
        · rw [if_pos ⟨h1, h2, q⟩, hhi a (i + 1) h1 h2 (by omega), q]
        · rw [if_neg (by omega)]
          exact hlo a j h1 h2 (by omega)
      · rw [g, if_neg (by omega)]
        exact hhi a j h1 h2 (by omega)
      · rw [g, if_neg (by omega)]
        exact hF o j ho
  exact key n 0 0 M rfl (by omega) (fun a j _ _ hj => absurd hj (by omega)) (fun _ _ _ _ _ => rfl) (fun _ _ _ => rfl)
/-- the reference after i acknowledgements -/
def HM (M : hq_M) (n i : Nat) (N : hq_M) : Prop := N 0 23 = kf M (M 0 23) i ∧ N 0 56 = ((n - i : Nat) : Int) ∧ (∀ k, k < (M 0 25).toNat → N 16 k = stt M i k) ∧ (∀ a j, 31 ≤ a → a ≤ 33 → j < n - i → N a j = M a (i + j)) ∧ ∀ o j, ¬ (o = 16 ∨ (31 ≤ o ∧ o ≤ 33) ∨ (o = 0 ∧ (j = 23 ∨ j = 56))) → N o j = M o j
theorem m_hearsFirst {C M N : hq_M} {n i : Nat} {kk : hq_M → Prop} (hL : LT C M) (hR : RP C M) (hK : KN C M) (hb : M 6 1 ≤ 1000000) (hn : M 0 52 = (n : Int)) (hn2 : n ≤ 180) (hi : i < n) (h1 : N 0 23 = kf M (M 0 23) i) (h2 : N 0 56 = ((n - i : Nat) : Int)) (h3 : ∀ k, k < (M 0 25).toNat → N 16 k = stt M i k) (h4 : ∀ a j, 31 ≤ a → a ≤ 32 → j < n - i → N a j = M a (i + j)) (h4' : ∀ j, 0 < j → j < n - i → N 33 j = M 33 (i + j)) (h5 : ∀ o j, ¬ (o = 16 ∨ (31 ≤ o ∧ o ≤ 33) ∨ (o = 0 ∧ (j = 23 ∨ j = 56))) → N o j = M o j) (hk : ∀ N', HM M n (i + 1) N' → kk N') : w_X12_hearsFirst N kk := by
  obtain ⟨-, r4⟩ := hR.2.2.2.1 i (by omega)
  have kb := kf_bd hR hK hb i (by omega)
  have kb2 := kf_bd hR hK hb (i + 1) (by omega)
  have l2 := hL.2.1
  have e31 : N 31 0 = M 31 i := h4 31 0 (by omega) (by omega) (by omega)
  have e32 : N 32 0 = M 32 i := h4 32 0 (by omega) (by omega) (by omega)
  -- the rest
  have rest : ∀ N1 : hq_M, N1 0 23 = kf M (M 0 23) (i + 1) → (∀ k, k < (M 0 25).toNat → N1 16 k = stt M (i + 1) k) → (∀ o j, ¬ (o = 16 ∨ (o = 0 ∧ j = 23)) → N1 o j = N o j) → b_X12_hearsFirst_70 kk N1 := by
    intro N1 a1 a2 a3
    unfold b_X12_hearsFirst_70
    have e56 : N1 0 56 = ((n - i : Nat) : Int) := by rw [a3 _ _ (by omega)]; exact h2
    rw [e56]
    refine ⟨⟨by omega, by omega⟩, fun M3 e3 => ?_⟩
    have f3 : ∀ o j, ¬ (o = 0 ∧ j = 56) → M3 o j = N1 o j := fun o j ho => by rw [e3]; simp only [hq_up]; rw [if_neg ho]
    have s3 : M3 0 56 = ((n - (i + 1) : Nat) : Int) := by rw [e3, up_self]; omega
    refine m_shift1 s3 (by omega) (fun M' g1 g2 => hk M' ⟨?_, ?_, fun k hk' => ?_, fun a j b1 b2 hj => ?_, fun o j ho => ?_⟩)
    · rw [g2 _ _ (by omega), f3 _ _ (by omega)]; exact a1
    · rw [g2 _ _ (by omega)]; exact s3
    · rw [g2 _ _ (by omega), f3 _ _ (by omega)]; exact a2 k hk'
    · rw [g1 a j b1 b2 hj, f3 _ _ (by omega), a3 _ _ (by omega)]
      by_cases q : a = 33
      · rw [q, h4' (j + 1) (by omega) (by omega)]; congr 1; omega
      · rw [h4 a (j + 1) b1 (by omega) (by omega)]; congr 1; omega
    · rw [g2 _ _ (by omega), f3 _ _ (by omega), a3 _ _ (by omega)]
      exact h5 o j (by omega)
  unfold w_X12_hearsFirst
  refine ⟨by decide, fun x3 ex3 => ⟨by decide, ?_⟩⟩
  rw [e32] at ex3
  rw [e31]
  have setl : ∀ k : Nat, x3 = (k : Int) → k < (M 0 25).toNat → (M 31 i = 0 ∨ M 31 i = 1) → ∀ M7 : hq_M, M7 = hq_up N 16 k 1 → (∀ k', k' < (M 0 25).toNat → M7 16 k' = stt M (i + 1) k') := by
    intro k hk1 hk2 h31 M7 e7 k' hk'
    by_cases q : k' = k
    · rw [q, e7, up_self, stt, if_pos ⟨h31, by omega⟩]
    · rw [e7, stt, if_neg (show ¬ ((M 31 i = 0 ∨ M 31 i = 1) ∧ M 32 i = (k' : Int)) by omega)]
      simp only [hq_up]
      rw [if_neg (by omega)]
      exact h3 k' hk'
  rcases r4 with ⟨a1, a2, a3, a4⟩ | ⟨a1, a2, a3, a4⟩ | ⟨a1, a2, a3, a4⟩
  · refine ⟨fun _ => ⟨⟨by omega, by omega⟩, fun M7 e7 => ⟨by decide, ?_⟩⟩, fun q => by omega⟩
    have f7 : ∀ o j, ¬ (o = 16 ∧ j = x3.toNat) → M7 o j = N o j := fun o j ho => by rw [e7]; simp only [hq_up]; rw [if_neg ho]
    rw [f7 31 0 (by omega), e31]
    refine ⟨fun q => absurd a1 q, fun _ => ⟨⟨by omega, by omega⟩, m_greater ?_⟩⟩
    unfold b_X12_hearsFirst_67
    intro M1 e1
    rw [f7 0 23 (by omega), f7 11 _ (by omega), h1, h5 11 _ (by omega)] at e1
    refine rest M1 ?_ (fun k hk' => ?_) (fun o j ho => ?_)
    · rw [e1, up_self, kf, if_pos a1, ex3]
    · rw [e1]; simp only [hq_up]; rw [if_neg (by omega)]
      exact setl x3.toNat (by omega) (by omega) (.inl a1) M7 e7 k hk'
    · rw [e1]; simp only [hq_up]; rw [if_neg (by omega)]; exact f7 _ _ (by omega)
  · refine ⟨fun _ => ⟨⟨by omega, by omega⟩, fun M7 e7 => ⟨by decide, ?_⟩⟩, fun q => by omega⟩
    have f7 : ∀ o j, ¬ (o = 16 ∧ j = x3.toNat) → M7 o j = N o j := fun o j ho => by rw [e7]; simp only [hq_up]; rw [if_neg ho]
    rw [f7 31 0 (by omega), e31]
    refine ⟨fun _ => ?_, fun q => by omega⟩
    unfold b_X12_hearsFirst_67
    intro M1 e1
    rw [f7 0 23 (by omega), h1] at e1
    refine rest M1 ?_ (fun k hk' => ?_) (fun o j ho => ?_)
    · rw [e1, up_self, kf, if_neg (by omega), if_pos a1]
    · rw [e1]; simp only [hq_up]; rw [if_neg (by omega)]
      exact setl x3.toNat (by omega) (by omega) (.inr a1) M7 e7 k hk'
    · rw [e1]; simp only [hq_up]; rw [if_neg (by omega)]; exact f7 _ _ (by omega)
  · refine ⟨fun q => absurd a1 q, fun _ => ?_⟩
    have kfe : kf M (M 0 23) (i + 1) = kf M (M 0 23) i + M 32 i := by
      rw [kf, if_neg (by omega), if_neg (by omega)]
    rw [h1, ex3]
    refine ⟨⟨by omega, by omega⟩, fun M17 e17 => rest M17 ?_ (fun k hk' => ?_) (fun o j ho => ?_)⟩
    · rw [e17, up_self]; omega
    · rw [e17]; simp only [hq_up]; rw [if_neg (by omega), stt, if_neg (by omega)]; exact h3 k hk'
    · rw [e17]; simp only [hq_up]; rw [if_neg (by omega)]
theorem kf_shift {M M' : hq_M} {c : Int} {t : Nat} (m : Nat) (h : ∀ j, j < m → M' 31 j = M 31 (t + j) ∧ M' 32 j = M 32 (t + j)) (h11 : ∀ k, M' 11 k = M 11 k) : kf M' (kf M c t) m = kf M c (t + m) := by
  induction m with
  | zero => rfl
  | succ m ih =>
    rw [kf, ih (fun j hj => h j (by omega)), show t + (m + 1) = (t + m) + 1 by omega, kf, (h m (by omega)).1, (h m (by omega)).2, h11]
theorem o_hears {u : Nat} {C M : hq_M} (h : JJ u C M) (v : Int) : w_X11_hears v C (fun z C' => w_X12_hears v M (fun z' M' => z = z' ∧ JJ u C' M')) := by
  have hJ := h
  obtain ⟨-, -, -, hL, ⟨lo, n0, hE, hH, -⟩, ⟨lo2, n2, hX⟩, -, -, hR, hK⟩ := h
  obtain ⟨n, n52, n56, nt⟩ := hR.n
  have r1 := hR.1
  have r3 := hR.2.2.1
  have hcl := cn_le (fun k => decide (2 ≤ M 15 k)) (M 0 25).toNat
  have l2 := hL.2.1
  have xb : M 6 1 ≤ 1000000 := (TBr hX).2
  have e389 : C 389 1 = M 0 52 := by rw [r3.1, sg_len]; omega
  have bad : ¬ (1 ≤ v ∧ v ≤ 99) → w_X12_hears v M (fun z' M' => -1 = z' ∧ JJ u C M') := by
    intro hn
    unfold w_X12_hears
    refine m_in ?_
    rw [if_neg hn]
    exact ⟨fun e => absurd rfl e, fun _ => ⟨rfl, hJ⟩⟩
  unfold w_X11_hears
  refine ⟨fun e => bad (by omega), fun e => ⟨fun e2 => fun x2 ex2 => ?_, fun e2 => bad (by omega)⟩⟩
  rw [e389] at ex2
  obtain ⟨t, ht, htn⟩ : ∃ t : Nat, x2 = (t : Int) ∧ t ≤ n := ⟨x2.toNat, by omega, by omega⟩
  refine ⟨t + 1, ?_⟩
  -- behind the class's loop
  have fin : ∀ N : hq_M, HC C M lo n0 t N → w_X6_drop 389 x2 N (fun M4 => w_X12_hears v M (fun z' M' => x2 = z' ∧ JJ u M4 M')) := by
    intro N hN
    obtain ⟨c1, c2, c3, c4⟩ := hN
    refine x6_drop (by omega) (r3.cg (c4 _ _ (by omega)) (fun i => c4 _ _ (by omega))) (by rw [capR, sg_len]; omega) (fun C' r' f' => ?_)
    unfold w_X12_hears
    refine m_in ?_
    rw [if_pos (by omega)]
    refine ⟨fun _ => m_lesser ?_, fun e => absurd e (by decide)⟩
    rw [show min v (M 0 52) = x2 by omega]
    refine ⟨t + 1, ?_⟩
    have key : ∀ (d i : Nat) (y z : Int) (N : hq_M), z = (i : Int) → y = (i : Int) → i + d = t → HM M n i N → l_X12_hears_28 x2 (fun x5 M4 => rg ((M4 0 52) - x2) ∧ ∀ M8 : hq_M, M8 = hq_up M4 0 52 ((M4 0 52) - x2) → ∃ m79, l_X12_hears_79 x5 x2 (fun z' M' => x2 = z' ∧ JJ u C' M') m79 0 M8) (fun z' M' => x2 = z' ∧ JJ u C' M') (d + 1) y z N := by
      intro d
      induction d with
      | zero =>
        intro i y z N hz hy hi hN
        obtain ⟨m1, m2, m3, m4, m5⟩ := hN
        have hit : i = t := by omega
        subst hit
        rw [l_X12_hears_28]
        refine ⟨fun _ => ?_, fun q => by omega⟩
        rw [m5 0 52 (by omega), n52]
        refine ⟨⟨by omega, by omega⟩, fun M8 e8 => ⟨n - i + 1, ?_⟩⟩
        have f8 : ∀ o j, ¬ (o = 0 ∧ j = 52) → M8 o j = N o j := fun o j ho => by rw [e8]; simp only [hq_up]; rw [if_neg ho]
        have s8 : M8 0 52 = ((n - i : Nat) : Int) := by rw [e8, up_self]; omega
        have shift : ∀ (d j : Nat) (z : Int) (P : hq_M), z = (j : Int) → j + d = n - i → (∀ a, a < j → P 30 a = M 30 (i + a)) → (∀ a, j ≤ a → P 30 a = M 30 a) → (∀ o a, o ≠ 30 → P o a = M8 o a) → l_X12_hears_79 y x2 (fun z' M' => x2 = z' ∧ JJ u C' M') (d + 1) z P := by
          intro d
          induction d with
          | zero =>
            intro j z P hz hj hlo hhi hF
            rw [l_X12_hears_79, hF 0 52 (by decide), s8]
            refine ⟨fun _ => ⟨by omega, ?_⟩, fun q => by omega⟩
            have fM : ∀ o a, ¬ (o = 16 ∨ (30 ≤ o ∧ o ≤ 33) ∨ (o = 0 ∧ (a = 23 ∨ a = 52 ∨ a = 56))) → P o a = M o a := fun o a ho => by rw [hF _ _ (by omega), f8 _ _ (by omega), m5 _ _ (by omega)]
            have fC : ∀ o a, ¬ ((170 ≤ o ∧ o < 370 ∧ o % 5 = 0 ∧ a = 7) ∨ (o = 370 ∧ a = 5) ∨ o = 374 ∨ o = 389 ∨ o = 390) → C' o a = C o a := fun o a ho => by rw [f' _ _ (by omega) (by omega), c4 _ _ (by omega)]
            have p16 : ∀ k, k < (M 0 25).toNat → P 16 k = stt M i k := fun k hk => by rw [hF _ _ (by decide), f8 _ _ (by omega)]; exact m3 k hk
            have p23 : P 0 23 = kf M (M 0 23) i := by rw [hF _ _ (by decide), f8 _ _ (by omega)]; exact m1
            have kb := kf_bd hR hK xb i (by omega)
            have kb2 := kf_mono hR (M 0 23) i _ (by omega) (Nat.le_refl _)
            rw [hR.2.2.2.2] at kb2
            refine hJ.pl2 (hL.st7 (fun o a ho => fC _ _ (by omega)) (fun o a ho => fM _ _ (by omega)) (by rw [fM 6 0 (by omega)]; omega) (fun k hk => ?_)) ?_ ?_ (fun lo' n' hE' hH' => ?_) (fun o a ho => fC _ _ (by omega)) (fun o a ho => fM _ _ (by omega))
            · rw [f' _ _ (by omega) (by omega), c2 k hk, p16 k hk]
              exact ⟨rfl, stt_bd hL i k hk⟩
            · have p52 : P 0 52 = ((n - i : Nat) : Int) := by rw [hF _ _ (by decide)]; exact s8
              have p56 : P 0 56 = ((n - i : Nat) : Int) := by rw [hF _ _ (by decide), f8 _ _ (by omega)]; exact m2
              have pa : ∀ a b, 31 ≤ a → a ≤ 33 → b < n - i → P a b = M a (i + b) := fun a b h1 h2 h3 => by rw [hF _ _ (by omega), f8 _ _ (by omega)]; exact m4 a b h1 h2 h3
              unfold RP
              rw [p52, p56, fM 0 25 (by omega), fM 0 24 (by omega), p23, show ((n - i : Nat) : Int).toNat = n - i by omega]
              refine ⟨⟨by omega, ?_⟩, rfl, ?_, fun b hb => ?_, ?_⟩
              · have : cn (fun k => decide (2 ≤ P 15 k)) (M 0 25).toNat = cn (fun k => decide (2 ≤ M 15 k)) (M 0 25).toNat := cn_cg (fun j _ => by rw [fM 15 j (by omega)])
                rw [this]
                omega
              · rw [nt] at r'
                have : sg P 30 0 (n - i) = (sg M 30 0 n).drop x2.toNat := by
                  refine sg_iff (by rw [List.length_drop, sg_len]; omega) (fun a ha => ?_)
                  rw [gd_drop, Nat.zero_add, hlo a (by omega), sg_gd (by omega), Nat.zero_add]
                  congr 1
                  omega
                rw [this]
                exact r'
              · obtain ⟨q1, q2⟩ := hR.2.2.2.1 (i + b) (by omega)
                rw [pa 33 b (by omega) (by omega) hb, pa 31 b (by omega) (by omega) hb, pa 32 b (by omega) (by omega) hb, hlo b (by omega)]
                exact ⟨q1, q2⟩
              · rw [kf_shift (n - i) (fun b hb => ⟨pa 31 b (by omega) (by omega) hb, pa 32 b (by omega) (by omega) hb⟩) (fun k => fM _ _ (by omega)), show i + (n - i) = (M 0 52).toNat by omega]
                exact hR.2.2.2.2
            · obtain ⟨k1, k2, ⟨k3, k4, k5⟩, k6⟩ := hK
              unfold KN
              rw [f' _ _ (by omega) (by omega), c1, p23, fC 384 2 (by omega), fM 0 24 (by omega), fM 0 39 (by omega), fM 7 0 (by omega), fM 6 1 (by omega)]
              exact ⟨rfl, k2, ⟨by omega, kb.1, k5⟩, k6⟩
            · intro p p1 p2
              have hr : p < lo + n0 → lo ≤ p → rl (C' 374 (p % 64)) ∧ ∀ k, k < 64 → bt (C' 374 (p % 64)) k = hd P 40 k p := by
                intro q1 q2
                rw [f' _ _ (by decide) (by decide)]
                obtain ⟨s1, s2⟩ := c3 p q2 q1
                refine ⟨s1, fun k hk => ?_⟩
                rw [s2 k hk]
                unfold hd
                rw [mr_rest (by rw [fM 0 39 (by omega)]; exact hK.2.2.2), Bool.and_false, Bool.or_false, fM 0 25 (by omega)]
                by_cases q3 : k < (M 0 25).toNat
                · unfold hb
                  rw [p16 k q3, fM 17 k (by omega)]
                  congr 2
                  unfold rfs
                  rw [Bool.eq_iff_iff]
                  simp only [List.any_eq_true, List.mem_range, decide_eq_true_eq]
                  constructor
                  · rintro ⟨j, hj, e⟩
                    exact ⟨j, hj, by rw [fM 19 _ (by omega)]; exact e⟩
                  · rintro ⟨j, hj, e⟩
                    exact ⟨j, hj, by rw [fM 19 _ (by omega)] at e; exact e⟩
                · simp [q3]
              have w1 := hE.2.1
              have w2 := hE'.2.1
              exact hr (by omega) (by omega)
          | succ d ih =>
            intro j z P hz hj hlo hhi hF
            rw [l_X12_hears_79, hF 0 52 (by decide), s8, show z.toNat = j by omega, show (z + x2).toNat = i + j by omega]
            refine ⟨fun q => by omega, fun _ => ⟨⟨by omega, by omega⟩, ⟨by omega, by omega⟩, ⟨by omega, by omega⟩, fun M6 e6 => ⟨⟨by omega, by omega⟩, fun x7 e7 => ih (j + 1) x7 M6 (by omega) (by omega) (fun a ha => ?_) (fun a ha => ?_) (fun o a ho => ?_)⟩⟩⟩
            · by_cases q : a = j
              · rw [q, e6, up_self, hhi _ (by omega)]
              · rw [e6]; simp only [hq_up]; rw [if_neg (by omega)]; exact hlo a (by omega)
            · rw [e6]; simp only [hq_up]; rw [if_neg (by omega)]; exact hhi a (by omega)
            · rw [e6]; simp only [hq_up]; rw [if_neg (by omega)]; exact hF o a ho
        refine shift (n - i) 0 0 M8 rfl (by omega) (fun a ha => absurd ha (by omega)) (fun a _ => ?_) (fun _ _ _ => rfl)
        rw [f8 _ _ (by omega), m5 _ _ (by omega)]
      | succ d ih =>
        intro i y z N hz hy hi hN
        obtain ⟨m1, m2, m3, m4, m5⟩ := hN
        have e33 : N 33 0 = 1 := by rw [m4 33 0 (by omega) (by omega) (by omega)]; exact (hR.2.2.2.1 i (by omega)).1
        rw [l_X12_hears_28, e33]
        refine ⟨fun q => by omega, fun _ => ⟨by decide, by decide, by decide, fun M5 e5 => ⟨by decide, ?_⟩⟩⟩
        have f5 : ∀ o j, ¬ (o = 33 ∧ j = 0) → M5 o j = N o j := fun o j ho => by rw [e5]; simp only [hq_up]; rw [if_neg ho]
        have s5 : M5 33 0 = 0 := by rw [e5, up_self]; decide
        rw [s5]
        refine ⟨fun q => absurd rfl q, fun _ => m_hearsFirst (i := i) hL hR hK xb n52 (by omega) (by omega) ((f5 _ _ (by omega)).trans m1) ((f5 _ _ (by omega)).trans m2) (fun k hk => (f5 _ _ (by omega)).trans (m3 k hk)) (fun a j h1 h2 h3 => (f5 _ _ (by omega)).trans (m4 a j h1 (by omega) h3)) (fun j h1 h2 => (f5 _ _ (by omega)).trans (m4 33 j (by omega) (by omega) h2)) (fun o j ho => (f5 _ _ (by omega)).trans (m5 o j ho)) (fun N' hN' => ⟨⟨by omega, by omega⟩, fun x9 e9 => ?_⟩)⟩
        unfold b_X12_hears_60
        exact ⟨⟨by omega, by omega⟩, fun x1 e1 => ih (i + 1) x9 x1 N' (by omega) (by omega) (by omega) hN'⟩
    exact key t 0 0 0 M rfl rfl (by omega) ⟨rfl, by rw [n56]; rfl, fun k _ => rfl, fun a j _ _ _ => by rw [Nat.zero_add], fun _ _ _ => rfl⟩
  have key : ∀ (d i : Nat) (z : Int) (N : hq_M), z = (i : Int) → i + d = t → HC C M lo n0 i N → l_X11_hears_30 x2 (fun M3 => w_X6_drop 389 x2 M3 (fun M4 => w_X12_hears v M (fun z' M' => x2 = z' ∧ JJ u M4 M'))) (fun z C' => w_X12_hears v M (fun z' M' => z = z' ∧ JJ u C' M')) (d + 1) z N := by
    intro d
    induction d with
    | zero =>
      intro i z N hz hi hN
      rw [l_X11_hears_30]
      refine ⟨fun _ => fin N ?_, fun q => by omega⟩
      rw [show t = i by omega]
      exact hN
    | succ d ih =>
      intro i z N hz hi hN
      rw [l_X11_hears_30]
      have c4 := hN.2.2.2
      refine ⟨fun q => by omega, fun _ => x6_at (r3.cg (c4 _ _ (by omega)) (fun i => c4 _ _ (by omega))) (by rw [capR, sg_len]; omega) ?_⟩
      rw [sg_len, if_pos (by omega), sg_gd (by omega), Nat.zero_add, show z.toNat = i by omega]
      exact x10_hear hL hR hK xb (by omega) rfl hN (fun N' hN' => ⟨⟨by omega, by omega⟩, fun x3 e3 => ih (i + 1) x3 N' (by omega) (by omega) hN'⟩)
  refine key t 0 0 C rfl (by omega) ⟨hK.1, fun k hk => (hL.2.2.2.2 k hk).2.2.1.2.2.2.2, fun p p1 p2 => ?_, fun _ _ _ => rfl⟩
  obtain ⟨s1, s2⟩ := hH p p1 p2
  refine ⟨s1, fun b hb' => ?_⟩
  rw [s2 b hb']
  unfold hd
  rw [mr_rest hK.2.2.2, Bool.and_false, Bool.or_false]
  rfl
