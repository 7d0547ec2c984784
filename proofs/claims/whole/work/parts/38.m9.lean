/-! ===== the mathematics, part 9: quits, gives, grows, hears ===== -/
theorem RP.n {C M : hq_M} (h : RP C M) : ∃ n : Nat, M 0 52 = (n : Int) ∧ M 0 56 = (n : Int) ∧ (M 0 52).toNat = n :=
  ⟨(M 0 52).toNat, by have := h.1.1; omega, by have := h.1.1; have := h.2.1; omega, rfl⟩
theorem cn_up {P Q : Nat → Bool} {n k : Nat} (h : ∀ j, j ≠ k → P j = Q j) (hk : k < n) (hp : P k = false) (hq : Q k = true) : cn P n < cn Q n := by
  refine cn_lt (i := k) (fun j _ h1 => ?_) hk hp hq
  by_cases e : j = k
  · rw [e] at h1; rw [hp] at h1; exact absurd h1 (by decide)
  · rw [← h j e]; exact h1
theorem cn_bd {P : Nat → Bool} {n k : Nat} (hk : k < n) (hp : P k = false) : cn P n < n := by
  have h1 := cn_lt (P := P) (Q := fun _ => true) (n := n) (i := k) (fun _ _ _ => rfl) hk hp rfl
  have h2 := cn_le (fun _ => true) n
  omega
theorem o_quits {u : Nat} {C M : hq_M} (h : JJ u C M) (v : Int) : w_X11_quits v C (fun z C' => w_X12_quits v M (fun z' M' => z = z' ∧ JJ u C' M')) := by
  have hJ := h
  obtain ⟨-, -, -, hL, -, -, -, -, hR, hK⟩ := h
  have hL0 := hL
  obtain ⟨l1, l2, l3, l4, l5⟩ := hL
  obtain ⟨n, n52, n56, nt⟩ := hR.n
  have r1 := hR.1
  have r3 := hR.2.2.1
  unfold w_X11_quits
  refine x1_at (by omega) ?_
  rw [l1]
  by_cases q : 0 ≤ v ∧ v < M 0 25
  · rw [if_pos q]
    refine ⟨fun e => (by cases e), fun o e => ?_⟩
    cases e
    obtain ⟨s1, s2, ⟨g3, g4, g5, g6, g7⟩, b1, b2, b3, b4, b5, -⟩ := l5 v.toNat (by omega)
    rw [g6]
    have st : ¬ M 15 v.toNat ≤ 1 → w_X12_quits v M (fun z' M' => -2 = z' ∧ JJ u C M') := by
      intro hn
      unfold w_X12_quits
      refine m_isLetter l2 ?_
      rw [if_pos q]
      exact ⟨fun _ => ⟨by omega, fun e => absurd e hn, fun _ => ⟨rfl, hJ⟩⟩, fun e => absurd e (by decide)⟩
    refine ⟨fun e => st (by omega), fun e => ⟨fun e2 => ?_, fun e2 => st (by omega)⟩⟩
    have hlow : M 15 v.toNat ≤ 1 := by omega
    have hcb : cn (fun k => decide (2 ≤ M 15 k)) (M 0 25).toNat < (M 0 25).toNat := cn_bd (k := v.toNat) (by omega) (by simp; omega)
    rw [nt] at r3
    unfold w_X5_cancel
    intro C1 e1
    have f1 : ∀ o j, ¬ (o = 170 + 5 * v.toNat ∧ j = 6) → C1 o j = C o j := fun o j ho => by rw [e1]; simp only [hq_up]; rw [if_neg ho]
    have s6 : C1 (170 + 5 * v.toNat) 6 = 3 := by rw [e1, up_self]
    rw [f1 _ 0 (by omega), l3 v.toNat (by omega)]
    have ho : octs 64 6 ((v.toNat : Nat) : Int) = [64 + ((v.toNat : Nat) : Int)] := octs_num (.inl rfl) (by omega)
    refine x6_addInteger (by decide) (by decide) (by omega) (r3.cg (f1 _ _ (by omega)) (fun i => f1 _ _ (by omega))) (by rw [ho, capR, sg_len]; simp; omega) (fun C3 r4 f4 => ?_)
    rw [ho] at r4
    have fC : ∀ o j, ¬ ((o = 170 + 5 * v.toNat ∧ j = 6) ∨ o = 389 ∨ o = 390) → C3 o j = C o j := fun o j ho => by rw [f4 _ _ (by omega) (by omega), f1 _ _ (by omega)]
    unfold w_X12_quits
    refine m_isLetter l2 ?_
    rw [if_pos q]
    refine ⟨fun _ => ⟨by omega, fun _ => ⟨by omega, fun M5 e5 => ?_⟩, fun e => absurd hlow e⟩, fun e => absurd e (by decide)⟩
    have f5 : ∀ o j, ¬ (o = 15 ∧ j = v.toNat) → M5 o j = M o j := fun o j ho => by rw [e5]; simp only [hq_up]; rw [if_neg ho]
    have s5 : M5 15 v.toNat = 3 := by rw [e5, up_self]
    refine m_answer (n := n) (.inr (.inl rfl)) (by omega) ((f5 _ _ (by omega)).trans n52) ((f5 _ _ (by omega)).trans n56) (by omega) (fun M6 a30 a31 a32 a33 a52 a56 f6 => ⟨by omega, ?_, ?_⟩)
    · rw [fC _ _ (by omega), f6 _ _ (by omega), f5 _ _ (by omega), g5]
    · have fM : ∀ o j, ¬ ((o = 15 ∧ j = v.toNat) ∨ o = 28 ∨ (o = 0 ∧ (j = 49 ∨ j = 52 ∨ j = 56)) ∨ (30 ≤ o ∧ o ≤ 33 ∧ j = n)) → M6 o j = M o j := fun o j ho => by rw [f6 _ _ (by omega), f5 _ _ (by omega)]
      have e15 : M6 15 v.toNat = 3 := by rw [f6 _ _ (by omega), s5]
      have hcu : cn (fun k => decide (2 ≤ M 15 k)) (M 0 25).toNat < cn (fun k => decide (2 ≤ M6 15 k)) (M 0 25).toNat := cn_up (k := v.toNat) (fun j hj => by rw [fM 15 j (by omega)]) (by omega) (by simp; omega) (by rw [e15]; rfl)
      refine hJ.pl (hL0.up (k := v.toNat) (fun o j ho => fC _ _ (by omega)) (fun o j ho => fM _ _ (by omega)) (by rw [fM 6 0 (by omega)]; omega) ?_ ?_ (by rw [e15]; exact fun e => absurd e (by decide))) ?_ (hK.cg (fun o j ho => fC _ _ (by omega)) (fun o j ho => fM _ _ (by omega))) (fun lo n hH => hH.cg (fun j => fC _ _ (by omega)) (fun o j ho => fM _ _ (by omega))) (fun o j ho => fC _ _ (by omega)) (fun o j ho => fM _ _ (by omega))
      · rw [fC _ 5 (by omega), fC _ 7 (by omega), f4 _ 6 (by omega) (by omega), s6, e15, fM 14 _ (by omega), fM 16 _ (by omega)]
        exact ⟨g5, rfl, g7⟩
      · rw [e15, fM 14 _ (by omega), fM 16 _ (by omega)]
        exact ⟨b3, by decide, b5⟩
      · refine hR.push n52 a52 a56 (fM _ _ (by omega)) (fM _ _ (by omega)) (by omega) (fun o j ho => fM _ _ (by omega)) a30 a31 a32 a33 (.inr (.inl ⟨rfl, q.1, q.2, rfl⟩)) (fun j => fM _ _ (by omega)) ?_ ?_
        · rw [show hdv 1 + v = 64 + ((v.toNat : Nat) : Int) by unfold hdv; simp; omega]
          exact r4
        · rw [fM 0 24 (by omega)]; rfl
  · rw [if_neg q]
    refine ⟨fun _ => ?_, fun o e => (by cases e)⟩
    unfold w_X12_quits
    refine m_isLetter l2 ?_
    rw [if_neg q]
    exact ⟨fun e => absurd rfl e, fun _ => ⟨rfl, hJ⟩⟩
/-- what a decoding does to both -/
theorem dec_rel {C M C' M' : hq_M} {k n : Nat} (hL : LT C M) (hR : RP C M) (hK : KN C M) (hk : k < (M 0 25).toNat) (hn : M 0 52 = (n : Int)) (hs : M 15 k ≤ 1) (hq : M 11 k ≤ M 6 1) (c6 : C' (170 + 5 * k) 6 = 2) (m15 : M' 15 k = 2) (hC : (M 11 k ≤ 0 ∧ ∀ o j, ¬ (o = 170 + 5 * k ∧ j = 6) → C' o j = C o j) ∨ (0 < M 11 k ∧ Rw C' 389 (sg M 30 0 n ++ [128 + (k : Int)]) ∧ C' 384 2 = max (C 384 2) (M 11 k) ∧ ∀ o j, ¬ ((o = 170 + 5 * k ∧ j = 6) ∨ o = 389 ∨ o = 390 ∨ (o = 384 ∧ j = 2)) → C' o j = C o j)) (hM : (M 11 k ≤ 0 ∧ ∀ o j, ¬ (o = 15 ∧ j = k) → M' o j = M o j) ∨ (0 < M 11 k ∧ M' 30 n = 128 + (k : Int) ∧ M' 31 n = 0 ∧ M' 32 n = (k : Int) ∧ M' 33 n = 1 ∧ M' 0 52 = ((n + 1 : Nat) : Int) ∧ M' 0 56 = ((n + 1 : Nat) : Int) ∧ M' 0 24 = max (M 0 24) (M 11 k) ∧ ∀ o j, ¬ ((o = 15 ∧ j = k) ∨ o = 28 ∨ (o = 0 ∧ (j = 24 ∨ j = 49 ∨ j = 52 ∨ j = 56)) ∨ (30 ≤ o ∧ o ≤ 33 ∧ j = n)) → M' o j = M o j)) : LT C' M' ∧ RP C' M' ∧ KN C' M' := by
  have hk40 : k < 40 := by have := hL.2.1; omega
  have fC : ∀ o j, ¬ ((o = 170 + 5 * k ∧ j = 6) ∨ o = 389 ∨ o = 390 ∨ (o = 384 ∧ j = 2)) → C' o j = C o j := by
    intro o j ho
    rcases hC with ⟨-, h⟩ | ⟨-, -, -, h⟩
    · exact h o j (by omega)
    · exact h o j ho
  have fM : ∀ o j, ¬ ((o = 15 ∧ j = k) ∨ o = 28 ∨ (o = 0 ∧ (j = 24 ∨ j = 49 ∨ j = 52 ∨ j = 56)) ∨ (30 ≤ o ∧ o ≤ 33 ∧ j = n)) → M' o j = M o j := by
    intro o j ho
    rcases hM with ⟨-, h⟩ | ⟨-, -, -, -, -, -, -, -, h⟩
    · exact h o j (by omega)
    · exact h o j ho
  obtain ⟨s1, s2, ⟨g3, g4, g5, g6, g7⟩, b1, b2, b3, b4, b5, b6, -⟩ := hL.2.2.2.2 k hk
  have hcu : cn (fun k => decide (2 ≤ M 15 k)) (M 0 25).toNat < cn (fun k => decide (2 ≤ M' 15 k)) (M 0 25).toNat := cn_up (k := k) (fun j hj => by rw [fM 15 j (by omega)]) hk (by simp; omega) (by rw [m15]; rfl)
  refine ⟨hL.up (k := k) (fun o j ho => fC _ _ (by omega)) (fun o j ho => fM _ _ (by omega)) (by rw [fM 6 0 (by omega)]; omega) ?_ ?_ (by rw [m15]; exact fun e => absurd e (by decide)), ?_, ?_⟩
  · rw [fC _ 5 (by omega), fC _ 7 (by omega), c6, m15, fM 14 _ (by omega), fM 16 _ (by omega)]
    exact ⟨g5, rfl, g7⟩
  · rw [m15, fM 14 _ (by omega), fM 16 _ (by omega)]
    exact ⟨b3, by decide, b5⟩
  · rcases hM with ⟨q, h⟩ | ⟨q, a30, a31, a32, a33, a52, a56, a24, h⟩
    · obtain ⟨r1, r2, r3, r4, r5⟩ := hR
      rcases hC with ⟨-, hc⟩ | ⟨q2, -⟩
      · unfold RP
        rw [h 0 52 (by omega), h 0 56 (by omega), h 0 25 (by omega), h 0 23 (by omega), h 0 24 (by omega)]
        refine ⟨⟨r1.1, by omega⟩, r2, ?_, fun i hi => ?_, ?_⟩
        · rw [show sg M' 30 0 (M 0 52).toNat = sg M 30 0 (M 0 52).toNat from sg_eq (fun i _ => h _ _ (by omega))]
          exact r3.cg (hc _ _ (by omega)) (fun i => hc _ _ (by omega))
        · rw [h 33 i (by omega), h 32 i (by omega), h 31 i (by omega), h 30 i (by omega)]
          exact r4 i hi
        · rw [kf_cg (M := M) (fun o j ho => h _ _ (by omega)) (fun i _ _ => h _ _ (by omega))]
          exact r5
      · omega
    · rcases hC with ⟨q2, -⟩ | ⟨-, hcr, -, -⟩
      · omega
      · refine hR.push hn a52 a56 (fM _ _ (by omega)) (fM _ _ (by omega)) ?_ (fun o j ho => fM _ _ (by omega)) a30 a31 a32 a33 (.inl ⟨rfl, by omega, by omega, rfl⟩) (fun j => fM _ _ (by omega)) hcr ?_
        · have := hR.1.2
          omega
        · rw [a24, if_pos rfl, show ((k : Nat) : Int).toNat = k by omega]
  · obtain ⟨k1, k2, ⟨k3, k4, k5⟩, k6⟩ := hK
    unfold KN
    rw [fC 370 5 (by omega), fM 0 23 (by omega), fM 0 39 (by omega), fM 7 0 (by omega), fM 6 1 (by omega)]
    rcases hM with ⟨q, h⟩ | ⟨q, a30, a31, a32, a33, a52, a56, a24, h⟩
    · rcases hC with ⟨-, hc⟩ | ⟨q2, -⟩
      · rw [hc 384 2 (by omega), h 0 24 (by omega)]
        exact ⟨k1, k2, ⟨k3, k4, k5⟩, k6⟩
      · omega
    · rcases hC with ⟨q2, -⟩ | ⟨-, -, hcm, -⟩
      · omega
      · rw [hcm, a24, k2]
        exact ⟨k1, rfl, ⟨k3, k4, by omega⟩, k6⟩
theorem o_gives {u : Nat} {C M : hq_M} (h : JJ u C M) (v w : Int) : w_X11_gives v w C (fun z C' => w_X12_gives v w M (fun z' M' => z = z' ∧ JJ u C' M')) := by
  have hJ := h
  obtain ⟨-, -, -, hL, -, ⟨lo2, n2, hX⟩, -, -, hR, hK⟩ := h
  have hL0 := hL
  obtain ⟨l1, l2, l3, l4, l5⟩ := hL
  obtain ⟨n, n52, n56, nt⟩ := hR.n
  have r1 := hR.1
  have r3 := hR.2.2.1
  have x3 : C 385 3 = M 6 1 := by rw [hX.1.2.1, hX.2.1.2.1]
  unfold w_X11_gives
  refine x1_at (by omega) ?_
  rw [l1]
  by_cases q : 0 ≤ v ∧ v < M 0 25
  · rw [if_pos q]
    refine ⟨fun e => (by cases e), fun o e => ?_⟩
    cases e
    obtain ⟨s1, s2, ⟨g3, g4, g5, g6, g7⟩, b1, b2, b3, b4, b5, b6, -⟩ := l5 v.toNat (by omega)
    have e13 : C (170 + 5 * v.toNat + 3) 1 = M 13 v.toNat := by
      rw [show 170 + 5 * v.toNat + 3 = 173 + 5 * v.toNat by omega, s2.1, sg_len]; omega
    rw [g6, g5, e13]
    have bad : ¬ (1 ≤ w ∧ w ≤ 99) → w_X12_gives v w M (fun z' M' => -1 = z' ∧ JJ u C M') := by
      intro hn
      unfold w_X12_gives
      refine m_isLetter l2 ?_
      rw [if_pos q]
      refine ⟨fun e => absurd e (by decide), fun _ => m_in ?_⟩
      rw [if_neg hn]
      exact ⟨fun e => absurd rfl e, fun _ => ⟨rfl, hJ⟩⟩
    refine ⟨fun e => bad (by omega), fun e => ⟨fun e2 => ⟨fun e3 => ⟨⟨by omega, by omega⟩, ⟨by omega, by omega⟩, fun C9 c9 => ?_⟩, fun e3 => ?_⟩, fun e2 => bad (by omega)⟩⟩
    · obtain ⟨dl, hdl⟩ : ∃ dl : Int, dl = M 14 v.toNat + min w (M 13 v.toNat - M 14 v.toNat) := ⟨_, rfl⟩
      have hdl2 : min (M 13 v.toNat) (M 14 v.toNat + w) = dl := by omega
      have hdb : 0 ≤ dl ∧ dl ≤ M 13 v.toNat := by omega
      rw [← hdl] at c9
      have f9 : ∀ o j, ¬ (o = 170 + 5 * v.toNat ∧ j = 5) → C9 o j = C o j := fun o j ho => by rw [c9]; simp only [hq_up]; rw [if_neg ho]
      have c95 : C9 (170 + 5 * v.toNat) 5 = dl := by rw [c9, up_self]
      rw [c95, f9 (170 + 5 * v.toNat + 3) 1 (by omega), e13]
      -- how the reference begins
      have mb : ∀ (K : Int → hq_M → Prop), (∀ M12 : hq_M, M12 = hq_up M 14 v.toNat dl → ((M 13 v.toNat ≤ dl → (M 11 v.toNat ≤ M 6 1 → w_X12_becomesRead v M12 (fun M21 => K 2 M21)) ∧ (¬ M 11 v.toNat ≤ M 6 1 → ∀ M23 : hq_M, M23 = hq_up M12 15 v.toNat 1 → K 1 M23)) ∧ (¬ M 13 v.toNat ≤ dl → K 0 M12))) → w_X12_gives v w M K := by
        intro K hK
        unfold w_X12_gives
        refine m_isLetter l2 ?_
        rw [if_pos q]
        refine ⟨fun e => absurd e (by decide), fun _ => m_in ?_⟩
        rw [if_pos ⟨by omega, e2⟩]
        refine ⟨fun _ => ⟨by omega, fun _ => ⟨by omega, by omega, ⟨by omega, by omega⟩, m_lesser ⟨by omega, fun M12 e12 => ⟨by omega, by omega, ?_⟩⟩⟩, fun e => absurd e3 e⟩, fun e => absurd e (by decide)⟩
        rw [hdl2] at e12
        have f12 : ∀ o j, ¬ (o = 14 ∧ j = v.toNat) → M12 o j = M o j := fun o j ho => by rw [e12]; simp only [hq_up]; rw [if_neg ho]
        have h12 : M12 14 v.toNat = dl := by rw [e12, up_self]
        have := hK M12 e12
        rw [h12, f12 13 _ (by omega), f12 11 _ (by omega), f12 6 1 (by omega)]
        exact ⟨fun a => ⟨by omega, by decide, fun b => (this.1 a).1 b, fun b => ⟨by omega, (this.1 a).2 b⟩⟩, this.2⟩
      refine ⟨fun e4 => ?_, fun e4 => ?_⟩
      · unfold b_X11_gives_83
        rw [f9 _ 6 (by omega), g6]
        refine mb _ (fun M12 e12 => ⟨fun a => by omega, fun _ => ⟨e3, ?_⟩⟩)
        have f12 : ∀ o j, ¬ (o = 14 ∧ j = v.toNat) → M12 o j = M o j := fun o j ho => by rw [e12]; simp only [hq_up]; rw [if_neg ho]
        have h12 : M12 14 v.toNat = dl := by rw [e12, up_self]
        refine hJ.pl (hL0.up (k := v.toNat) (fun o j ho => f9 _ _ (by omega)) (fun o j ho => f12 _ _ (by omega)) (by rw [f12 6 0 (by omega)]; omega) ?_ ?_ (by rw [f12 15 _ (by omega), e3]; exact fun e => absurd e (by decide))) (hR.cg (fun o j ho => f9 _ _ (by omega)) (fun o j ho => f12 _ _ (by omega))) (hK.cg (fun o j ho => f9 _ _ (by omega)) (fun o j ho => f12 _ _ (by omega))) (fun lo n hH => hH.cg (fun j => f9 _ _ (by omega)) (fun o j ho => f12 _ _ (by omega))) (fun o j ho => f9 _ _ (by omega)) (fun o j ho => f12 _ _ (by omega))
        · rw [c95, h12, f9 _ 6 (by omega), f9 _ 7 (by omega), f12 15 _ (by omega), f12 16 _ (by omega)]
          exact ⟨rfl, g6, g7⟩
        · rw [h12, f12 15 _ (by omega), f12 16 _ (by omega)]
          exact ⟨hdb, b4, b5⟩
      · unfold w_X5_receive
        rw [f9 385 3 (by omega), f9 _ 3 (by omega), g3, x3]
        refine ⟨fun e5 => fun C3 c3 => ?_, fun e5 => ?_⟩
        · have f3 : ∀ o j, ¬ (o = 170 + 5 * v.toNat ∧ j = 6) → C3 o j = C9 o j := fun o j ho => by rw [c3]; simp only [hq_up]; rw [if_neg ho]
          have c36 : C3 (170 + 5 * v.toNat) 6 = 1 := by rw [c3, up_self]
          show b_X11_gives_83 (170 + 5 * v.toNat) (fun z C' => w_X12_gives v w M (fun z' M' => z = z' ∧ JJ u C' M')) C3
          unfold b_X11_gives_83
          rw [c36]
          refine mb _ (fun M12 e12 => ⟨fun a => ⟨fun b => by omega, fun _ => fun M23 e23 => ⟨rfl, ?_⟩⟩, fun a => by omega⟩)
          have f12 : ∀ o j, ¬ (o = 14 ∧ j = v.toNat) → M12 o j = M o j := fun o j ho => by rw [e12]; simp only [hq_up]; rw [if_neg ho]
          have h12 : M12 14 v.toNat = dl := by rw [e12, up_self]
          have f23 : ∀ o j, ¬ (o = 15 ∧ j = v.toNat) → M23 o j = M12 o j := fun o j ho => by rw [e23]; simp only [hq_up]; rw [if_neg ho]
          have h23 : M23 15 v.toNat = 1 := by rw [e23, up_self]
          have fC : ∀ o j, ¬ (o = 170 + 5 * v.toNat ∧ (j = 5 ∨ j = 6)) → C3 o j = C o j := fun o j ho => by rw [f3 _ _ (by omega), f9 _ _ (by omega)]
          have fM : ∀ o j, ¬ ((o = 14 ∨ o = 15) ∧ j = v.toNat) → M23 o j = M o j := fun o j ho => by rw [f23 _ _ (by omega), f12 _ _ (by omega)]
          have hR' : RP C3 M23 := by
            obtain ⟨r1, r2, r3, r4, r5⟩ := hR
            unfold RP
            rw [fM 0 52 (by omega), fM 0 56 (by omega), fM 0 25 (by omega), fM 0 23 (by omega), fM 0 24 (by omega)]
            refine ⟨⟨r1.1, ?_⟩, r2, ?_, fun i hi => ?_, ?_⟩
            · have : cn (fun k => decide (2 ≤ M 15 k)) (M 0 25).toNat = cn (fun k => decide (2 ≤ M23 15 k)) (M 0 25).toNat := cn_cg (fun i hi => by
                by_cases e : i = v.toNat
                · rw [e, h23, e3]; rfl
                · rw [fM 15 i (by omega)])
              rw [← this]
              exact r1.2
            · rw [show sg M23 30 0 (M 0 52).toNat = sg M 30 0 (M 0 52).toNat from sg_eq (fun i _ => fM _ _ (by omega))]
              exact r3.cg (fC _ _ (by omega)) (fun i => fC _ _ (by omega))
            · rw [fM 33 i (by omega), fM 32 i (by omega), fM 31 i (by omega), fM 30 i (by omega)]
              exact r4 i hi
            · rw [kf_cg (M := M) (fun o j ho => fM _ _ (by omega)) (fun i _ _ => fM _ _ (by omega))]
              exact r5
          refine hJ.pl (hL0.up (k := v.toNat) (fun o j ho => fC _ _ (by omega)) (fun o j ho => fM _ _ (by omega)) (by rw [fM 6 0 (by omega)]; omega) ?_ ?_ (fun _ => e5)) hR' (hK.cg (fun o j ho => fC _ _ (by omega)) (fun o j ho => fM _ _ (by omega))) (fun lo n hH => hH.cg (fun j => fC _ _ (by omega)) (fun o j ho => fM _ _ (by omega))) (fun o j ho => fC _ _ (by omega)) (fun o j ho => fM _ _ (by omega))
          · rw [f3 _ 5 (by omega), c95, c36, fC _ 7 (by omega), h23, f23 14 _ (by omega), h12, fM 16 _ (by omega)]
            exact ⟨rfl, rfl, g7⟩
          · rw [h23, f23 14 _ (by omega), h12, fM 16 _ (by omega)]
            exact ⟨hdb, by decide, b5⟩
        · have hcb : cn (fun k => decide (2 ≤ M 15 k)) (M 0 25).toNat < (M 0 25).toNat := cn_bd (k := v.toNat) (by omega) (by simp; omega)
          -- the state with the octets delivered
          have e93 : C9 (170 + 5 * v.toNat) 3 = M 11 v.toNat := by rw [f9 _ _ (by omega), g3]
          have r39 : Rw C9 389 (sg M 30 0 n) := by rw [← nt]; exact r3.cg (f9 _ _ (by omega)) (fun i => f9 _ _ (by omega))
          have fin : ∀ (M12 : hq_M), M12 = hq_up M 14 v.toNat dl → LT C9 M12 ∧ RP C9 M12 ∧ KN C9 M12 ∧ (∀ o j, ¬ (o = 14 ∧ j = v.toNat) → M12 o j = M o j) := by
            intro M12 e12
            have f12 : ∀ o j, ¬ (o = 14 ∧ j = v.toNat) → M12 o j = M o j := fun o j ho => by rw [e12]; simp only [hq_up]; rw [if_neg ho]
            have h12 : M12 14 v.toNat = dl := by rw [e12, up_self]
            refine ⟨hL0.up (k := v.toNat) (fun o j ho => f9 _ _ (by omega)) (fun o j ho => f12 _ _ (by omega)) (by rw [f12 6 0 (by omega)]; omega) ?_ ?_ (by rw [f12 15 _ (by omega), e3]; exact fun e => absurd e (by decide)), hR.cg (fun o j ho => f9 _ _ (by omega)) (fun o j ho => f12 _ _ (by omega)), hK.cg (fun o j ho => f9 _ _ (by omega)) (fun o j ho => f12 _ _ (by omega)), f12⟩
            · rw [c95, h12, f9 _ 6 (by omega), f9 _ 7 (by omega), f12 15 _ (by omega), f12 16 _ (by omega)]
              exact ⟨rfl, g6, g7⟩
            · rw [h12, f12 15 _ (by omega), f12 16 _ (by omega)]
              exact ⟨hdb, b4, b5⟩
          have done : ∀ (C' : hq_M), C' (170 + 5 * v.toNat) 6 = 2 → ((M 11 v.toNat ≤ 0 ∧ ∀ o j, ¬ (o = 170 + 5 * v.toNat ∧ j = 6) → C' o j = C9 o j) ∨ (0 < M 11 v.toNat ∧ Rw C' 389 (sg M 30 0 n ++ [128 + ((v.toNat : Nat) : Int)]) ∧ C' 384 2 = max (C9 384 2) (M 11 v.toNat) ∧ ∀ o j, ¬ ((o = 170 + 5 * v.toNat ∧ j = 6) ∨ o = 389 ∨ o = 390 ∨ (o = 384 ∧ j = 2)) → C' o j = C9 o j)) → b_X11_gives_83 (170 + 5 * v.toNat) (fun z C' => w_X12_gives v w M (fun z' M' => z = z' ∧ JJ u C' M')) C' := by
            intro C' c6 hC'
            unfold b_X11_gives_83
            rw [c6]
            refine mb _ (fun M12 e12 => ⟨fun a => ⟨fun b => ?_, fun b => by omega⟩, fun a => by omega⟩)
            obtain ⟨hL2, hR2, hK2, f12⟩ := fin M12 e12
            have hC'' : (M12 11 v.toNat ≤ 0 ∧ ∀ o j, ¬ (o = 170 + 5 * v.toNat ∧ j = 6) → C' o j = C9 o j) ∨ (0 < M12 11 v.toNat ∧ Rw C' 389 (sg M12 30 0 n ++ [128 + ((v.toNat : Nat) : Int)]) ∧ C' 384 2 = max (C9 384 2) (M12 11 v.toNat) ∧ ∀ o j, ¬ ((o = 170 + 5 * v.toNat ∧ j = 6) ∨ o = 389 ∨ o = 390 ∨ (o = 384 ∧ j = 2)) → C' o j = C9 o j) := by
              rw [f12 11 _ (by omega), show sg M12 30 0 n = sg M 30 0 n from sg_eq (fun i _ => f12 _ _ (by omega))]
              exact hC'
            have fC : ∀ o j, ¬ ((o = 170 + 5 * v.toNat ∧ (j = 6 ∨ j = 5)) ∨ o = 389 ∨ o = 390 ∨ (o = 384 ∧ j = 2)) → C' o j = C o j := by
              intro o j ho
              rcases hC' with ⟨-, hh⟩ | ⟨-, -, -, hh⟩
              · rw [hh o j (by omega), f9 _ _ (by omega)]
              · rw [hh o j (by omega), f9 _ _ (by omega)]
            refine m_becomesRead (k := v.toNat) (n := n) (by omega) (by omega) ((f12 _ _ (by omega)).trans n52) ((f12 _ _ (by omega)).trans n56) (by omega) (fun a0 M' m15 fm => ⟨rfl, ?_⟩) (fun a1 M' m15 m30 m31 m32 m33 m52 m56 m24 fm => ⟨rfl, ?_⟩)
            · obtain ⟨d1, d2, d3⟩ := dec_rel hL2 hR2 hK2 (k := v.toNat) (by rw [f12 0 25 (by omega)]; omega) ((f12 _ _ (by omega)).trans n52) (by rw [f12 15 _ (by omega)]; omega) (by rw [f12 11 _ (by omega), f12 6 1 (by omega)]; exact b) c6 m15 hC'' (.inl ⟨a0, fm⟩)
              exact hJ.pl d1 d2 d3 (fun lo n hH => hH.cg (fun j => fC _ _ (by omega)) (fun o j ho => by rw [fm _ _ (by omega), f12 _ _ (by omega)])) (fun o j ho => fC _ _ (by omega)) (fun o j ho => by rw [fm _ _ (by omega), f12 _ _ (by omega)])
            · rw [show v = ((v.toNat : Nat) : Int) by omega] at m30 m32
              obtain ⟨d1, d2, d3⟩ := dec_rel hL2 hR2 hK2 (k := v.toNat) (by rw [f12 0 25 (by omega)]; omega) ((f12 _ _ (by omega)).trans n52) (by rw [f12 15 _ (by omega)]; omega) (by rw [f12 11 _ (by omega), f12 6 1 (by omega)]; exact b) c6 m15 hC'' (.inr ⟨a1, m30, m31, m32, m33, m52, m56, m24, fm⟩)
              exact hJ.pl d1 d2 d3 (fun lo n hH => hH.cg (fun j => fC _ _ (by omega)) (fun o j ho => by rw [fm _ _ (by omega), f12 _ _ (by omega)])) (fun o j ho => fC _ _ (by omega)) (fun o j ho => by rw [fm _ _ (by omega), f12 _ _ (by omega)])
          refine x5_decode (k := v.toNat) (xs := sg M 30 0 n) (by omega) (by rw [f9 _ _ (by omega)]; exact l3 _ (by omega)) r39 (by rw [sg_len]; omega) (fun a0 C' c6 fc => ?_) (fun a1 C' c6 rr c384 fc => ?_)
          · rw [e93] at a0
            exact done C' c6 (.inl ⟨a0, fc⟩)
          · rw [e93] at a1 c384
            exact done C' c6 (.inr ⟨a1, rr, c384, fc⟩)
    · unfold w_X12_gives
      refine m_isLetter l2 ?_
      rw [if_pos q]
      refine ⟨fun e => absurd e (by decide), fun _ => m_in ?_⟩
      rw [if_pos ⟨by omega, e2⟩]
      exact ⟨fun _ => ⟨by omega, fun e => absurd e e3, fun _ => ⟨rfl, hJ⟩⟩, fun e => absurd e (by decide)⟩
  · rw [if_neg q]
    refine ⟨fun _ => ?_, fun o e => (by cases e)⟩
    unfold w_X12_gives
    refine m_isLetter l2 ?_
    rw [if_neg q]
    exact ⟨fun _ => ⟨rfl, hJ⟩, fun e => absurd rfl e⟩
theorem kf_mono {C M : hq_M} (h : RP C M) (c : Int) (i j : Nat) (hij : i ≤ j) (hj : j ≤ (M 0 52).toNat) : kf M c i ≤ kf M c j := by
  induction j with
  | zero => rw [show i = 0 by omega]; exact Int.le_refl _
  | succ j ih =>
    by_cases e : i = j + 1
    · rw [e]; exact Int.le_refl _
    · have h1 := ih (by omega) (by omega)
      have h2 := (h.2.2.2.1 j (by omega)).2
      rw [kf]
      split
      · omega
      · split
        · exact h1
        · omega
theorem TB.live {C M : hq_M} {A t lo n : Nat} (h : TB C M A t lo n) (hL : Lo6 M) (hF : M 0 0 ≤ 7) : n ≤ 50 := by
  obtain ⟨-, -, h3, h4, h5, h6⟩ := h
  have := sm_bd (f := fun i => C (A + 2) (i % 64)) (lo := lo) (n := n) (fun i a b => by
    obtain ⟨-, g2, g3⟩ := h6 i a b
    show 4 ≤ C (A + 2) (i % 64)
    rw [g3]
    have := hL (M 10 (64 * t + i % 64)).toNat (by omega)
    unfold sz
    omega)
  omega
theorem o_grows {u : Nat} {C M : hq_M} (h : JJ u C M) : w_X11_grows C (fun z C' => w_X12_grows M (fun z' M' => z = z' ∧ JJ u C' M')) := by
  have hJ := h
  obtain ⟨-, -, ⟨o, -, -, -, -, hS⟩, hL, ⟨lo, n0, hE, -, -⟩, ⟨lo2, n2, hX⟩, -, hDE, hR, hK⟩ := h
  have hlive := hE.live hS.2.2.1 hS.1.2
  obtain ⟨n, n52, n56, nt⟩ := hR.n
  have r1 := hR.1
  have r3 := hR.2.2.1
  have hkm := kf_mono hR (M 0 23) 0 (M 0 52).toNat (by omega) (Nat.le_refl _)
  rw [hR.2.2.2.2] at hkm
  have hk0 : kf M (M 0 23) 0 = M 0 23 := rfl
  have k3 := hK.2.2.1
  have d3 := hDE.2.2
  have t1 := hE.2.1
  have x3 : C 385 3 = M 6 1 := by rw [hX.1.2.1, hX.2.1.2.1]
  have x2 := hX.2.1.2.1
  have xb := hX.1.2.2.1
  have e389 : C 389 1 = M 0 52 := by rw [r3.1, sg_len]; omega
  have hgb : 0 ≤ M 6 1 - M 0 24 ∧ M 6 1 - M 0 24 ≤ 50 := by omega
  unfold w_X11_grows
  rw [x3, hK.2.1, e389]
  refine ⟨⟨by omega, by omega⟩, fun x4 e4 => ⟨fun q => ⟨fun q2 => ?_, fun q2 => ?_⟩, fun q => ?_⟩⟩
  · rw [nt] at r3
    have ho : octs 0 6 x4 = [0 + x4] := octs_num (.inl rfl) (by omega)
    refine x6_addInteger (by decide) (by decide) (by omega) r3 (by rw [ho, capR, sg_len]; simp; omega) (fun C6 r6 f6 => ?_)
    rw [ho] at r6
    intro C8 c8
    have f8 : ∀ o j, ¬ (o = 384 ∧ j = 2) → C8 o j = C6 o j := fun o j ho => by rw [c8]; simp only [hq_up]; rw [if_neg ho]
    have c82 : C8 384 2 = M 6 1 := by rw [c8, up_self, f6 _ _ (by decide) (by decide), x3]
    have fC : ∀ o j, ¬ (o = 389 ∨ o = 390 ∨ (o = 384 ∧ j = 2)) → C8 o j = C o j := fun o j ho => by rw [f8 _ _ (by omega), f6 _ _ (by omega) (by omega)]
    unfold w_X12_grows
    refine ⟨by decide, ⟨by omega, by omega⟩, fun y4 g4 => ⟨fun _ => ⟨fun _ => ?_, fun e => by omega⟩, fun e => by omega⟩⟩
    have hxy : y4 = x4 := by omega
    subst hxy
    refine m_answer (n := n) (.inr (.inr rfl)) (by omega) n52 n56 (by omega) (fun M7 a30 a31 a32 a33 a52 a56 f7 => ⟨by decide, fun M10 e10 => ⟨rfl, ?_⟩⟩)
    have f10 : ∀ o j, ¬ (o = 0 ∧ j = 24) → M10 o j = M7 o j := fun o j ho => by rw [e10]; simp only [hq_up]; rw [if_neg ho]
    have m24 : M10 0 24 = M 6 1 := by rw [e10, up_self, f7 _ _ (by omega)]
    have fM : ∀ o j, ¬ (o = 28 ∨ (o = 0 ∧ (j = 24 ∨ j = 49 ∨ j = 52 ∨ j = 56)) ∨ (30 ≤ o ∧ o ≤ 33 ∧ j = n)) → M10 o j = M o j := fun o j ho => by rw [f10 _ _ (by omega), f7 _ _ (by omega)]
    refine hJ.pl (hL.cg (fun o j ho => fC _ _ (by omega)) (fun o j ho => fM _ _ (by omega)) (by rw [fM 6 0 (by omega)]; omega)) ?_ ?_ (fun lo n hH => hH.cg (fun j => fC _ _ (by omega)) (fun o j ho => fM _ _ (by omega))) (fun o j ho => fC _ _ (by omega)) (fun o j ho => fM _ _ (by omega))
    · refine hR.push (a := 2) (v := y4) (x := y4) n52 (by rw [f10 _ _ (by omega)]; exact a52) (by rw [f10 _ _ (by omega)]; exact a56) (fM _ _ (by omega)) (fM _ _ (by omega)) (by omega) (fun o j ho => fM _ _ (by omega)) (by rw [f10 _ _ (by omega), a30]; unfold hdv; simp) (by rw [f10 _ _ (by omega)]; exact a31) (by rw [f10 _ _ (by omega)]; exact a32) (by rw [f10 _ _ (by omega)]; exact a33) (.inr (.inr ⟨rfl, q, by omega, rfl⟩)) (fun j => fM _ _ (by omega)) ?_ ?_
      · rw [Int.zero_add] at r6
        exact r6.cg (f8 _ _ (by omega)) (fun i => f8 _ _ (by omega))
      · rw [m24, if_neg (by decide), if_neg (by decide)]; omega
    · unfold KN
      rw [fC 370 5 (by omega), fM 0 23 (by omega), fM 0 39 (by omega), fM 7 0 (by omega), fM 6 1 (by omega), c82, m24]
      exact ⟨hK.1, rfl, ⟨k3.1, k3.2.1, Int.le_refl _⟩, hK.2.2.2⟩
  · unfold w_X12_grows
    exact ⟨by decide, ⟨by omega, by omega⟩, fun y4 g4 => ⟨fun _ => ⟨fun e => absurd e q2, fun _ => ⟨rfl, hJ⟩⟩, fun e => by omega⟩⟩
  · unfold w_X12_grows
    exact ⟨by decide, ⟨by omega, by omega⟩, fun y4 g4 => ⟨fun e => by omega, fun _ => ⟨rfl, hJ⟩⟩⟩
